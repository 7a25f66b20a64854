/-! ===== texts: a person more, a couple more ===== -/
theorem who_up {x : Int32} {m m' : Nat} (h : who x m) (hm : m ≤ m') : who x m' := by
  rcases h with h | ⟨p, hp, h⟩
  · exact Or.inl h
  · exact Or.inr ⟨p, by omega, h⟩
theorem tR.newP {n g : Nat} {Dc Dm Dc' Dm' : mz_D} {m d gs gs' : Nat} (h : tR n g 0 0 Dc Dm m d gs (2 ^ m - 1)) (h6 : m < 6) (hgs' : gs' < 2 ^ (m + 1))
    (hc : ∀ o j, rqi o j → ¬ (o = 101 ∧ (j = 0 ∨ j = 2)) → ¬ (103 ≤ o ∧ o ≤ 108 ∧ j = m) → ¬ (o = 117 ∧ j = 0) → Dc'.1 g o j = Dc.1 g o j)
    (hc2 : ∀ j, j < m → Dc'.2 g 102 j = Dc.2 g 102 j)
    (hm : ∀ j, j < 490 → ¬ (j = 0 ∨ j = 7 ∨ j = 8) → ¬ (12 + 8 * m ≤ j ∧ j < 20 + 8 * m) → Dm'.1 0 201 j = Dm.1 0 201 j)
    (hn : ∀ p, p < m → Dm'.2 0 202 p = Dm.2 0 202 p)
    (c0 : Dc'.1 g 101 0 = nI (m + 1)) (m0 : Dm'.1 0 201 0 = nI (m + 1)) (cg : Dc'.1 g 101 2 = nI gs') (mg : Dm'.1 0 201 7 = nI gs') (ci : Dc'.1 g 117 0 = nI (2 ^ (m + 1) - 1)) (mi : Dm'.1 0 201 8 = nI (2 ^ (m + 1) - 1)) (nm : nmR (Dc'.2 g 102 m) (Dm'.2 0 202 m))
    (v3 : Dm'.1 0 201 (12 + 8 * m) = Dc'.1 g 103 m ∧ bd (Dc'.1 g 103 m) 0 16)
    (v4 : Dm'.1 0 201 (13 + 8 * m) = Dc'.1 g 104 m ∧ bd (Dc'.1 g 104 m) 0 20)
    (v5 : Dm'.1 0 201 (14 + 8 * m) = Dc'.1 g 105 m ∧ bd (Dc'.1 g 105 m) 0 99)
    (v6 : Dm'.1 0 201 (15 + 8 * m) = Dc'.1 g 106 m ∧ bd (Dc'.1 g 106 m) 0 999)
    (v7 : Dm'.1 0 201 (16 + 8 * m) = Dc'.1 g 107 m ∧ Dc'.1 g 107 m = -1) (v8 : Dm'.1 0 201 (17 + 8 * m) = Dc'.1 g 108 m ∧ Dc'.1 g 108 m = 0) (v9 : Dm'.1 0 201 (18 + 8 * m) - Dm'.1 0 201 (19 + 8 * m) = Dc'.1 g 118 m)
    (hy : Dc'.1 g 119 0 = 0 ∧ Dm'.1 0 201 9 = -1) : tR n g 0 0 Dc' Dm' (m + 1) d gs' (2 ^ (m + 1) - 1) := by
  have hd6 := h.hd
  have p2 := Nat.two_pow_pos (m + 1)
  exact tR.mk
    (hm := by omega) (hd := h.hd) (hgs := hgs') (hins := by omega)
    (many_c := c0) (many_m := m0)
    (couples := by rw [hc _ _ (by unfold rqi; omega) (by omega) (by omega) (by omega), hm (0 + 1) (by omega) (by omega) (by omega)]; exact h.couples)
    (dish_c := by rw [hc _ _ (by unfold rqi; omega) (by omega) (by omega) (by omega)]; exact h.dish_c)
    (dish_m := by rw [hm (0 + 2) (by omega) (by omega) (by omega)]; exact h.dish_m)
    (split := by rw [hc _ _ (by unfold rqi; omega) (by omega) (by omega) (by omega), hm (0 + 3) (by omega) (by omega) (by omega)]; exact h.split)
    (split_b := by rw [hc _ _ (by unfold rqi; omega) (by omega) (by omega) (by omega)]; exact h.split_b)
    (law := by rw [hc _ _ (by unfold rqi; omega) (by omega) (by omega) (by omega), hm (0 + 4) (by omega) (by omega) (by omega)]; exact h.law)
    (law_b := by rw [hc _ _ (by unfold rqi; omega) (by omega) (by omega) (by omega)]; exact h.law_b)
    (rounds := by rw [hc _ _ (by unfold rqi; omega) (by omega) (by omega) (by omega), hm (0 + 5) (by omega) (by omega) (by omega)]; exact h.rounds)
    (gifts := by rw [hc _ _ (by unfold rqi; omega) (by omega) (by omega) (by omega), hm (0 + 6) (by omega) (by omega) (by omega)]; exact h.gifts)
    (guests_c := cg) (guests_m := mg) (in_c := ci) (in_m := mi)
    (names := fun p hp => by
      by_cases e : p = m
      · rw [e, Nat.zero_add]; exact nm
      · rw [hc2 p (by omega), Nat.zero_add, hn p (by omega)]
        have := h.names p (by omega)
        rw [Nat.zero_add] at this
        exact this)
    (insists := fun p hp => by
      by_cases e : p = m
      · rw [e, show 0 + 12 + 8 * m = 12 + 8 * m by omega]; exact v3
      · rw [hc _ _ (by unfold rqi; omega) (by omega) (by omega) (by omega), hm (0 + 12 + 8 * p) (by omega) (by omega) (by omega)]
        exact h.insists p (by omega))
    (quick := fun p hp => by
      by_cases e : p = m
      · rw [e, show 0 + 13 + 8 * m = 13 + 8 * m by omega]; exact v4
      · rw [hc _ _ (by unfold rqi; omega) (by omega) (by omega) (by omega), hm (0 + 13 + 8 * p) (by omega) (by omega) (by omega)]
        exact h.quick p (by omega))
    (minds := fun p hp => by
      by_cases e : p = m
      · rw [e, show 0 + 14 + 8 * m = 14 + 8 * m by omega]; exact v5
      · rw [hc _ _ (by unfold rqi; omega) (by omega) (by omega) (by omega), hm (0 + 14 + 8 * p) (by omega) (by omega) (by omega)]
        exact h.minds p (by omega))
    (means := fun p hp => by
      by_cases e : p = m
      · rw [e, show 0 + 15 + 8 * m = 15 + 8 * m by omega]; exact v6
      · rw [hc _ _ (by unfold rqi; omega) (by omega) (by omega) (by omega), hm (0 + 15 + 8 * p) (by omega) (by omega) (by omega)]
        exact h.means p (by omega))
    (partner := fun p hp => by
      by_cases e : p = m
      · rw [e, show 0 + 16 + 8 * m = 16 + 8 * m by omega]; exact ⟨v7.1, Or.inl v7.2⟩
      · rw [hc _ _ (by unfold rqi; omega) (by omega) (by omega) (by omega), hm (0 + 16 + 8 * p) (by omega) (by omega) (by omega)]
        exact ⟨(h.partner p (by omega)).1, who_up (h.partner p (by omega)).2 (by omega)⟩)
    (paid := fun p hp => by
      by_cases e : p = m
      · rw [e, show 0 + 17 + 8 * m = 17 + 8 * m by omega, v8.1, v8.2]
        exact ⟨rfl, by unfold bd; have : (0 : Int32).toInt = 0 := rfl; omega⟩
      · rw [hc _ _ (by unfold rqi; omega) (by omega) (by omega) (by omega), hm (0 + 17 + 8 * p) (by omega) (by omega) (by omega)]
        exact h.paid p (by omega))
    (ahead := fun p hp => by
      by_cases e : p = m
      · rw [e, show 0 + 18 + 8 * m = 18 + 8 * m by omega, show 0 + 19 + 8 * m = 19 + 8 * m by omega]; exact v9
      · rw [hc _ _ (by unfold rqi; omega) (by omega) (by omega) (by omega), hm (0 + 18 + 8 * p) (by omega) (by omega) (by omega), hm (0 + 19 + 8 * p) (by omega) (by omega) (by omega)]
        exact h.ahead p (by omega))
    (price := fun k hk => by
      rw [hc _ _ (by unfold rqi; omega) (by omega) (by omega) (by omega), hm (0 + 60 + 2 * k) (by omega) (by omega) (by omega)]
      exact h.price k hk)
    (eater := fun k hk => by
      rw [hc _ _ (by unfold rqi; omega) (by omega) (by omega) (by omega), hm (0 + 61 + 2 * k) (by omega) (by omega) (by omega)]
      exact ⟨(h.eater k hk).1, who_up (h.eater k hk).2 (by omega)⟩)
    (debt := fun k hk => by
      rw [hc _ _ (by unfold rqi; omega) (by omega) (by omega) (by omega), hm (0 + 92 + k) (by omega) (by omega) (by omega)]
      exact h.debt k hk)
    (nodebt := fun p q hp hq hpq => by
      rw [hc _ _ (by unfold rqi; omega) (by omega) (by omega) (by omega)]
      exact h.nodebt p q hp hq (by omega))
    (year := by
      unfold yR
      exact Or.inl hy)
theorem tR.pair {n g : Nat} {Dc Dm : mz_D} {m d gs ins : Nat} (h : tR n g 0 0 Dc Dm m d gs ins) {a b : Nat} (ha : a < m) (hb : b < m) (x : Int32) : tR n g 0 0 (mz_wi (mz_wi (mz_wi Dc g 107 a (nI b)) g 107 b (nI a)) g 101 1 x) (mz_wi (mz_wi (mz_wi Dm 0 201 (16 + 8 * a) (nI b)) 0 201 (16 + 8 * b) (nI a)) 0 201 1 x) m d gs ins := by
  have hm6 := h.hm
  have hd6 := h.hd
  have hc : ∀ o j, ¬ o = 107 → ¬ (o = 101 ∧ j = 1) → (mz_wi (mz_wi (mz_wi Dc g 107 a (nI b)) g 107 b (nI a)) g 101 1 x).1 g o j = Dc.1 g o j := fun o j h1 h2 => by rw [wi_n (by omega), wi_n (by omega), wi_n (by omega)]
  have hm : ∀ j, ¬ j = 1 → ¬ j = 16 + 8 * a → ¬ j = 16 + 8 * b → (mz_wi (mz_wi (mz_wi Dm 0 201 (16 + 8 * a) (nI b)) 0 201 (16 + 8 * b) (nI a)) 0 201 1 x).1 0 201 j = Dm.1 0 201 j := fun j h1 h2 h3 => by rw [wi_n (by omega), wi_n (by omega), wi_n (by omega)]
  exact tR.mk
    (hm := h.hm) (hd := h.hd) (hgs := h.hgs) (hins := h.hins)
    (many_c := by rw [hc _ _ (by omega) (by omega)]; exact h.many_c)
    (many_m := by rw [hm 0 (by omega) (by omega) (by omega)]; exact h.many_m)
    (couples := by rw [wi_s, wi_s])
    (dish_c := by rw [hc _ _ (by omega) (by omega)]; exact h.dish_c)
    (dish_m := by rw [hm (0 + 2) (by omega) (by omega) (by omega)]; exact h.dish_m)
    (split := by rw [hc _ _ (by omega) (by omega), hm (0 + 3) (by omega) (by omega) (by omega)]; exact h.split)
    (split_b := by rw [hc _ _ (by omega) (by omega)]; exact h.split_b)
    (law := by rw [hc _ _ (by omega) (by omega), hm (0 + 4) (by omega) (by omega) (by omega)]; exact h.law)
    (law_b := by rw [hc _ _ (by omega) (by omega)]; exact h.law_b)
    (rounds := by rw [hc _ _ (by omega) (by omega), hm (0 + 5) (by omega) (by omega) (by omega)]; exact h.rounds)
    (gifts := by rw [hc _ _ (by omega) (by omega), hm (0 + 6) (by omega) (by omega) (by omega)]; exact h.gifts)
    (guests_c := by rw [hc _ _ (by omega) (by omega)]; exact h.guests_c)
    (guests_m := by rw [hm (0 + 7) (by omega) (by omega) (by omega)]; exact h.guests_m)
    (in_c := by rw [hc _ _ (by omega) (by omega)]; exact h.in_c)
    (in_m := by rw [hm (0 + 8) (by omega) (by omega) (by omega)]; exact h.in_m)
    (names := h.names)
    (insists := fun p hp => by rw [hc _ _ (by omega) (by omega), hm (0 + 12 + 8 * p) (by omega) (by omega) (by omega)]; exact h.insists p hp)
    (quick := fun p hp => by rw [hc _ _ (by omega) (by omega), hm (0 + 13 + 8 * p) (by omega) (by omega) (by omega)]; exact h.quick p hp)
    (minds := fun p hp => by rw [hc _ _ (by omega) (by omega), hm (0 + 14 + 8 * p) (by omega) (by omega) (by omega)]; exact h.minds p hp)
    (means := fun p hp => by rw [hc _ _ (by omega) (by omega), hm (0 + 15 + 8 * p) (by omega) (by omega) (by omega)]; exact h.means p hp)
    (partner := fun p hp => by
      by_cases e1 : p = b
      · subst e1
        rw [show 0 + 16 + 8 * p = 16 + 8 * p by omega]
        simp (disch := omega) only [wi_s, wi_n]
        exact ⟨by first | rfl | trivial, Or.inr ⟨a, ha, rfl⟩⟩
      · by_cases e2 : p = a
        · subst e2
          rw [show 0 + 16 + 8 * p = 16 + 8 * p by omega]
          simp (disch := omega) only [wi_s, wi_n]
          exact ⟨by first | rfl | trivial, Or.inr ⟨b, hb, rfl⟩⟩
        · have := h.partner p hp
          rw [show 0 + 16 + 8 * p = 16 + 8 * p by omega] at this ⊢
          simp (disch := omega) only [wi_s, wi_n]
          exact this)
    (paid := fun p hp => by rw [hc _ _ (by omega) (by omega), hm (0 + 17 + 8 * p) (by omega) (by omega) (by omega)]; exact h.paid p hp)
    (ahead := fun p hp => by rw [hc _ _ (by omega) (by omega), hm (0 + 18 + 8 * p) (by omega) (by omega) (by omega), hm (0 + 19 + 8 * p) (by omega) (by omega) (by omega)]; exact h.ahead p hp)
    (price := fun k hk => by rw [hc _ _ (by omega) (by omega), hm (0 + 60 + 2 * k) (by omega) (by omega) (by omega)]; exact h.price k hk)
    (eater := fun k hk => by rw [hc _ _ (by omega) (by omega), hm (0 + 61 + 2 * k) (by omega) (by omega) (by omega)]; exact h.eater k hk)
    (debt := fun k hk => by rw [hc _ _ (by omega) (by omega), hm (0 + 92 + k) (by omega) (by omega) (by omega)]; exact h.debt k hk)
    (nodebt := fun p q hp hq hpq => by rw [hc _ _ (by omega) (by omega)]; exact h.nodebt p q hp hq hpq)
    (year := h.year.congr (fun o j h1 h2 => hc o j (by omega) (by omega)) (hm (0 + 9) (by omega) (by omega) (by omega)) (fun j h1 h2 => hm (0 + j) (by omega) (by omega) (by omega)))
