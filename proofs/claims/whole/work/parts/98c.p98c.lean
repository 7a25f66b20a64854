/-! ===== texts: the table that is being read ===== -/
theorem tR.cp4 {n g b nb g' b' nb' : Nat} {Dc Dm Dc' Dm' : mz_D} {m d gs ins : Nat} (h : tR n g b nb Dc Dm m d gs ins) (C : ∀ o j, rqi o j → Dc'.1 g' o j = Dc.1 g o j) (C2 : ∀ j, j < 6 → Dc'.2 g' 102 j = Dc.2 g 102 j) (hm : ∀ j, j < 490 → Dm'.1 0 201 (b' + j) = Dm.1 0 201 (b + j)) (hn : ∀ p, p < 6 → Dm'.2 0 202 (nb' + p) = Dm.2 0 202 (nb + p)) : tR n g' b' nb' Dc' Dm' m d gs ins := by
  have M : ∀ k k' j, k = b' + j → k' = b + j → j < 490 → Dm'.1 0 201 k = Dm.1 0 201 k' := fun k k' j e e' hj => by rw [e, e']; exact hm j hj
  have hm6 := h.hm
  have hd6 := h.hd
  exact tR.mk
    (hm := h.hm) (hd := h.hd) (hgs := h.hgs) (hins := h.hins)
    (many_c := by rw [C _ _ (by unfold rqi; omega)]; exact h.many_c)
    (many_m := by rw [M b' b 0 (by omega) (by omega) (by omega)]; exact h.many_m)
    (couples := by rw [C _ _ (by unfold rqi; omega), M _ (b + 1) 1 (by omega) (by omega) (by omega)]; exact h.couples)
    (dish_c := by rw [C _ _ (by unfold rqi; omega)]; exact h.dish_c)
    (dish_m := by rw [M _ (b + 2) 2 (by omega) (by omega) (by omega)]; exact h.dish_m)
    (split := by rw [C _ _ (by unfold rqi; omega), M _ (b + 3) 3 (by omega) (by omega) (by omega)]; exact h.split)
    (split_b := by rw [C _ _ (by unfold rqi; omega)]; exact h.split_b)
    (law := by rw [C _ _ (by unfold rqi; omega), M _ (b + 4) 4 (by omega) (by omega) (by omega)]; exact h.law)
    (law_b := by rw [C _ _ (by unfold rqi; omega)]; exact h.law_b)
    (rounds := by rw [C _ _ (by unfold rqi; omega), M _ (b + 5) 5 (by omega) (by omega) (by omega)]; exact h.rounds)
    (gifts := by rw [C _ _ (by unfold rqi; omega), M _ (b + 6) 6 (by omega) (by omega) (by omega)]; exact h.gifts)
    (guests_c := by rw [C _ _ (by unfold rqi; omega)]; exact h.guests_c)
    (guests_m := by rw [M _ (b + 7) 7 (by omega) (by omega) (by omega)]; exact h.guests_m)
    (in_c := by rw [C _ _ (by unfold rqi; omega)]; exact h.in_c)
    (in_m := by rw [M _ (b + 8) 8 (by omega) (by omega) (by omega)]; exact h.in_m)
    (names := fun p hp => by rw [C2 _ (by omega), hn p (by omega)]; exact h.names p hp)
    (insists := fun p hp => by rw [C _ _ (by unfold rqi; omega), M _ (b + 12 + 8 * p) (12 + 8 * p) (by omega) (by omega) (by omega)]; exact h.insists p hp)
    (quick := fun p hp => by rw [C _ _ (by unfold rqi; omega), M _ (b + 13 + 8 * p) (13 + 8 * p) (by omega) (by omega) (by omega)]; exact h.quick p hp)
    (minds := fun p hp => by rw [C _ _ (by unfold rqi; omega), M _ (b + 14 + 8 * p) (14 + 8 * p) (by omega) (by omega) (by omega)]; exact h.minds p hp)
    (means := fun p hp => by rw [C _ _ (by unfold rqi; omega), M _ (b + 15 + 8 * p) (15 + 8 * p) (by omega) (by omega) (by omega)]; exact h.means p hp)
    (partner := fun p hp => by rw [C _ _ (by unfold rqi; omega), M _ (b + 16 + 8 * p) (16 + 8 * p) (by omega) (by omega) (by omega)]; exact h.partner p hp)
    (paid := fun p hp => by rw [C _ _ (by unfold rqi; omega), M _ (b + 17 + 8 * p) (17 + 8 * p) (by omega) (by omega) (by omega)]; exact h.paid p hp)
    (ahead := fun p hp => by rw [C _ _ (by unfold rqi; omega), M (b' + 18 + 8 * p) (b + 18 + 8 * p) (18 + 8 * p) (by omega) (by omega) (by omega), M (b' + 19 + 8 * p) (b + 19 + 8 * p) (19 + 8 * p) (by omega) (by omega) (by omega)]; exact h.ahead p hp)
    (price := fun k hk => by rw [C _ _ (by unfold rqi; omega), M _ (b + 60 + 2 * k) (60 + 2 * k) (by omega) (by omega) (by omega)]; exact h.price k hk)
    (eater := fun k hk => by rw [C _ _ (by unfold rqi; omega), M _ (b + 61 + 2 * k) (61 + 2 * k) (by omega) (by omega) (by omega)]; exact h.eater k hk)
    (debt := fun k hk => by rw [C _ _ (by unfold rqi; omega), M _ (b + 92 + k) (92 + k) (by omega) (by omega) (by omega)]; exact h.debt k hk)
    (nodebt := fun p q hp hq hh => by rw [C _ _ (by unfold rqi; omega)]; exact h.nodebt p q hp hq hh)
    (year := h.year.cp (fun j hj => C _ _ (by unfold rqi; omega)) (fun o j h1 h2 h3 => C _ _ (by unfold rqi; omega)) (hm 9 (by omega)) (fun j h1 h2 => hm j (by omega)))
/-- the reference's new slot, as if it were the first -/
def sh (M : mz_D) : mz_D := (fun a b c => if b = 201 ∧ a = 0 then M.1 0 201 (2000 + c) else M.1 a b c, fun a b c => if b = 202 ∧ a = 0 then M.2 0 202 (24 + c) else M.2 a b c)
theorem sh_1 (M : mz_D) (j : Nat) : (sh M).1 0 201 j = M.1 0 201 (2000 + j) := by
  show (if (201 : Nat) = 201 ∧ (0 : Nat) = 0 then M.1 0 201 (2000 + j) else M.1 0 201 j) = _
  exact if_pos ⟨rfl, rfl⟩
theorem sh_2 (M : mz_D) (p : Nat) : (sh M).2 0 202 p = M.2 0 202 (24 + p) := by
  show (if (202 : Nat) = 202 ∧ (0 : Nat) = 0 then M.2 0 202 (24 + p) else M.2 0 202 p) = _
  exact if_pos ⟨rfl, rfl⟩
/-- what reading may touch -/
def bC (C C' : mz_D) : Prop := ∀ g o j, ¬ ((g = 2 ∧ 100 ≤ o ∧ o < 127) ∨ (g = 0 ∧ o = 2 ∧ j ≠ 4) ∨ (g = 0 ∧ 300 ≤ o)) → C'.1 g o j = C.1 g o j ∧ C'.2 g o j = C.2 g o j
def bM (M M' : mz_D) : Prop := ∀ g o j, ¬ (g = 0 ∧ ((o = 200 ∧ ((12 ≤ j ∧ j ≤ 15) ∨ (17 ≤ j ∧ j ≤ 23))) ∨ (o = 201 ∧ 2000 ≤ j) ∨ (o = 202 ∧ 24 ≤ j) ∨ o = 208)) → M'.1 g o j = M.1 g o j ∧ M'.2 g o j = M.2 g o j
theorem bC.rf {D : mz_D} : bC D D := fun _ _ _ _ => ⟨rfl, rfl⟩
theorem bM.rf {D : mz_D} : bM D D := fun _ _ _ _ => ⟨rfl, rfl⟩
theorem bC.tr {D E F : mz_D} (h : bC D E) (k : bC E F) : bC D F := fun g o j hn => ⟨(k g o j hn).1.trans (h g o j hn).1, (k g o j hn).2.trans (h g o j hn).2⟩
theorem bM.tr {D E F : mz_D} (h : bM D E) (k : bM E F) : bM D F := fun g o j hn => ⟨(k g o j hn).1.trans (h g o j hn).1, (k g o j hn).2.trans (h g o j hn).2⟩
theorem aC.b {D E : mz_D} (h : aC D E) : bC D E := fun g o j hn => h g o j (by omega)
theorem aM.b {D E : mz_D} (h : aM D E) : bM D E := fun g o j hn => h g o j (by omega)
theorem aT.b {t : Nat} {D E : mz_D} (h : aT t D E) (ht : 2000 ≤ t) : bM D E := fun g o j hn => h g o j (by omega)
theorem bC_wi {D : mz_D} {o j : Nat} {v : Int32} (h : 100 ≤ o ∧ o < 127) : bC D (mz_wi D 2 o j v) := fun a b c hn => ⟨wi_n (by omega), rfl⟩
theorem bC_w3 {D : mz_D} {o j : Nat} {v : Int32} (h : 300 ≤ o) : bC D (mz_wi D 0 o j v) := fun a b c hn => ⟨wi_n (by omega), rfl⟩
theorem bC_wg {D : mz_D} {j : Nat} {v : Int64} : bC D (mz_wg D 2 102 j v) := fun a b c hn => ⟨rfl, wgn (by omega)⟩
theorem bM_wi {D : mz_D} {j : Nat} {v : Int32} (h : 2000 ≤ j) : bM D (mz_wi D 0 201 j v) := fun a b c hn => ⟨wi_n (by omega), rfl⟩
theorem bM_w2 {D : mz_D} {j : Nat} {v : Int32} (h : 18 ≤ j ∧ j ≤ 23) : bM D (mz_wi D 0 200 j v) := fun a b c hn => ⟨wi_n (by omega), rfl⟩
theorem bM_wg {D : mz_D} {j : Nat} {v : Int64} (h : 24 ≤ j) : bM D (mz_wg D 0 202 j v) := fun a b c hn => ⟨rfl, wgn (by omega)⟩
def tB (n m d gs : Nat) (C M : mz_D) : Prop := tR n 2 0 0 (mz_wi C 2 117 0 (nI (2 ^ m - 1))) (sh M) m d gs (2 ^ m - 1) ∧ C.1 2 119 0 = 0 ∧ M.1 0 201 2009 = -1 ∧ (∃ c, c ≤ 3 ∧ C.1 2 101 1 = nI c) ∧ (∀ p, m ≤ p → p < 6 → M.1 0 201 (2012 + 8 * p) = 0 ∧ M.1 0 201 (2014 + 8 * p) = 0 ∧ M.1 0 201 (2017 + 8 * p) = 0 ∧ M.1 0 201 (2018 + 8 * p) = 0 ∧ M.1 0 201 (2019 + 8 * p) = 0) ∧ (∀ p, p < 6 → C.1 2 118 p = 0)
theorem tB.fr {n m d gs : Nat} {C M C' M' : mz_D} (h : tB n m d gs C M) (hc : ∀ o j, 100 ≤ o → o < 127 → C'.1 2 o j = C.1 2 o j ∧ C'.2 2 o j = C.2 2 o j) (hm : ∀ j, j < 490 → M'.1 0 201 (2000 + j) = M.1 0 201 (2000 + j)) (hn : ∀ p, p < 6 → M'.2 0 202 (24 + p) = M.2 0 202 (24 + p)) : tB n m d gs C' M' := by
  obtain ⟨h1, h2, h3, h4, h5, h6⟩ := h
  have hx : ∀ i j, i = 2000 + j → j < 490 → M'.1 0 201 i = M.1 0 201 i := fun i j e hj => by rw [e]; exact hm j hj
  refine ⟨h1.cp4 (fun o j hq => ?_) (fun j hj => ?_) (fun j hj => ?_) (fun p hp => ?_), ?_, ?_, ?_, fun p h7 h8 => ?_, fun p hp => ?_⟩
  · rw [wi_1, wi_1, (hc o j (by unfold rqi at hq; omega) (by unfold rqi at hq; omega)).1]
  · rw [wi_2, wi_2, (hc _ _ (by omega) (by omega)).2]
  · rw [sh_1, sh_1, Nat.zero_add, hm j hj]
  · rw [sh_2, sh_2, Nat.zero_add, hn p hp]
  · rw [(hc _ _ (by omega) (by omega)).1, h2]
  · rw [hx 2009 9 (by omega) (by omega), h3]
  · rw [(hc _ _ (by omega) (by omega)).1]; exact h4
  · rw [hx (2012 + 8 * p) (12 + 8 * p) (by omega) (by omega), hx (2014 + 8 * p) (14 + 8 * p) (by omega) (by omega), hx (2017 + 8 * p) (17 + 8 * p) (by omega) (by omega), hx (2018 + 8 * p) (18 + 8 * p) (by omega) (by omega), hx (2019 + 8 * p) (19 + 8 * p) (by omega) (by omega)]
    exact h5 p h7 h8
  · rw [(hc _ _ (by omega) (by omega)).1]; exact h6 p hp
theorem tB.fr1 {n m d gs t t' : Nat} {C M C' M' : mz_D} (h : tB n m d gs C M) (hc : aC C C') (hm : ∀ g o j, ¬ (g = 0 ∧ ((o = 200) ∨ (o = 201 ∧ (j = t ∨ j = t')))) → M'.1 g o j = M.1 g o j ∧ M'.2 g o j = M.2 g o j) (ht : 2490 ≤ t) (ht' : 2490 ≤ t') : tB n m d gs C' M' :=
  h.fr (fun o j h1 h2 => hc _ _ _ (by omega)) (fun j hj => (hm _ _ _ (by omega)).1) (fun p hp => (hm _ _ _ (by omega)).2)
theorem tB.fr0 {n m d gs : Nat} {C M C' M' : mz_D} (h : tB n m d gs C M) (hc : aC C C') (hm : aM M M') : tB n m d gs C' M' :=
  h.fr (fun o j h1 h2 => hc _ _ _ (by omega)) (fun j hj => (hm _ _ _ (by omega)).1) (fun p hp => (hm _ _ _ (by omega)).2)
theorem tB.hm {n m d gs : Nat} {C M : mz_D} (h : tB n m d gs C M) : m ≤ 6 := h.1.hm
theorem tB.hd {n m d gs : Nat} {C M : mz_D} (h : tB n m d gs C M) : d ≤ 16 := h.1.hd
theorem tB.mc {n m d gs : Nat} {C M : mz_D} (h : tB n m d gs C M) : C.1 2 101 0 = nI m := by
  have := h.1.many_c
  rw [wi_n (by omega)] at this
  exact this
theorem tB.mm {n m d gs : Nat} {C M : mz_D} (h : tB n m d gs C M) : M.1 0 201 2000 = nI m := by
  have := h.1.uMany
  rw [sh_1] at this
  exact this
theorem tB.dc {n m d gs : Nat} {C M : mz_D} (h : tB n m d gs C M) : C.1 2 109 0 = nI d := by
  have := h.1.dish_c
  rw [wi_n (by omega)] at this
  exact this
theorem tB.dm {n m d gs : Nat} {C M : mz_D} (h : tB n m d gs C M) : M.1 0 201 2002 = nI d := by
  have := h.1.uDish
  rw [sh_1] at this
  exact this
theorem tB.cc {n m d gs : Nat} {C M : mz_D} (h : tB n m d gs C M) : M.1 0 201 2001 = C.1 2 101 1 := by
  have := h.1.uCouples
  rw [sh_1, wi_n (by omega)] at this
  exact this
theorem tB.gc {n m d gs : Nat} {C M : mz_D} (h : tB n m d gs C M) : C.1 2 101 2 = nI gs := by
  have := h.1.guests_c
  rw [wi_n (by omega)] at this
  exact this
theorem tB.gm {n m d gs : Nat} {C M : mz_D} (h : tB n m d gs C M) : M.1 0 201 2007 = nI gs := by
  have := h.1.uGuests
  rw [sh_1] at this
  exact this
theorem tB.im {n m d gs : Nat} {C M : mz_D} (h : tB n m d gs C M) : M.1 0 201 2008 = nI (2 ^ m - 1) := by
  have := h.1.uIn
  rw [sh_1] at this
  exact this
theorem tB.pt {n m d gs : Nat} {C M : mz_D} (h : tB n m d gs C M) {p : Nat} (hp : p < m) : M.1 0 201 (2016 + 8 * p) = C.1 2 107 p := by
  have := h.1.uPartner hp
  rw [sh_1, wi_n (by omega), show 2000 + (12 + 8 * p + 4) = 2016 + 8 * p by omega] at this
  exact this
theorem tB.pl {n m d gs : Nat} {C M : mz_D} (h : tB n m d gs C M) : pl 2 24 m C M := ⟨h.hm, Nat.le_refl _, h.mc, fun p hp => by
  have := h.1.names p hp
  rw [Nat.zero_add, sh_2, wi_2] at this
  exact this⟩
