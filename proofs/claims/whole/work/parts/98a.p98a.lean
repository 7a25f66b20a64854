/-! ===== texts: a token, in both ===== -/
def tkR (L s : Nat) (C M : mz_D) : Prop :=
  (C.1 0 2 6 = 0 ∧ M.1 0 200 12 = 0 ∧ C.1 0 2 2 = -1 ∧ s = L) ∨
  (C.1 0 2 6 = 4 ∧ M.1 0 200 12 = 1 ∧ C.1 0 2 2 = -1) ∨
  (∃ e, s < e ∧ e ≤ L ∧ C.1 0 2 5 = nI e ∧ M.1 0 200 14 = nI e ∧
    ((C.1 0 2 6 = 1 ∧ M.1 0 200 12 = 2 ∧ ∃ w, 0 < w.length ∧ wdM s L w M ∧ s + w.length = e ∧ C.2 0 2 9 = c5 w ∧ kI w (C.1 0 2 2)) ∨
     (C.1 0 2 6 = 2 ∧ M.1 0 200 12 = 3 ∧ C.1 0 2 2 = -1 ∧ ∃ v, v ≤ 9999 ∧ C.1 0 2 8 = nI v ∧ M.1 0 200 15 = nI v) ∨
     (C.1 0 2 6 = 3 ∧ M.1 0 200 12 = 4 ∧ C.1 0 2 2 = -1 ∧ M.1 0 200 15 = C.1 0 2 8 ∧ (C.1 0 2 8 = 59 ∨ C.1 0 2 8 = 60 ∨ C.1 0 2 8 = 61 ∨ C.1 0 2 8 = 62))))
def rdR (L s : Nat) (C M : mz_D) : Prop := tx L C M ∧ s ≤ L ∧ C.1 0 2 7 = nI s ∧ M.1 0 200 13 = nI s ∧ M.1 0 200 18 = 0 ∧ M.1 0 200 17 = -1 ∧ tkR L s C M
/-- the reader's cells are as they were -/
def qC (C C' : mz_D) : Prop := (∀ j, C'.1 0 2 j = C.1 0 2 j) ∧ (∀ j, C'.1 0 1 j = C.1 0 1 j) ∧ C'.2 0 2 9 = C.2 0 2 9 ∧ C'.2 0 3 = C.2 0 3
def qM (M M' : mz_D) : Prop := (∀ j, 11 ≤ j → j ≤ 18 → M'.1 0 200 j = M.1 0 200 j) ∧ ∀ j, M'.1 0 207 j = M.1 0 207 j
theorem qC.rf {C : mz_D} : qC C C := ⟨fun _ => rfl, fun _ => rfl, rfl, rfl⟩
theorem qM.rf {M : mz_D} : qM M M := ⟨fun _ _ _ => rfl, fun _ => rfl⟩
theorem wdM.fr {s L : Nat} {w : List Nat} {M M' : mz_D} (h : wdM s L w M) (hm : qM M M') : wdM s L w M' := by
  obtain ⟨h1, h2, h3, h4, h5, h6, h7⟩ := h
  exact ⟨h1, h2, h3, by rw [hm.1 11 (by omega) (by omega), h4], by rw [hm.1 13 (by omega) (by omega), h5], by rw [hm.1 14 (by omega) (by omega), h6], fun i hi => by rw [hm.2, h7 i hi]⟩
theorem rdR.fr {L s : Nat} {C M C' M' : mz_D} (h : rdR L s C M) (hc : qC C C') (hm : qM M M') : rdR L s C' M' := by
  obtain ⟨⟨t1, t2, t3, t4, t5⟩, h2, h3, h4, h5, h6, h7⟩ := h
  obtain ⟨q1, q2, q3, q4⟩ := hc
  have m11 := hm.1 11 (by omega) (by omega)
  have m12 := hm.1 12 (by omega) (by omega)
  have m13 := hm.1 13 (by omega) (by omega)
  have m14 := hm.1 14 (by omega) (by omega)
  have m15 := hm.1 15 (by omega) (by omega)
  have m17 := hm.1 17 (by omega) (by omega)
  have m18 := hm.1 18 (by omega) (by omega)
  refine ⟨⟨t1, by rw [q1, t2], by rw [m11, t3], fun j hj => by rw [hm.2, q2]; exact t4 j hj, by rw [q4, t5]⟩, h2, by rw [q1, h3], by rw [m13, h4], by rw [m18, h5], by rw [m17, h6], ?_⟩
  unfold tkR at h7 ⊢
  rw [q1, q1, q1, q1, q3, m12, m14, m15]
  rcases h7 with h | h | ⟨e, a1, a2, a3, a4, h⟩
  · exact Or.inl h
  · exact Or.inr (Or.inl h)
  · refine Or.inr (Or.inr ⟨e, a1, a2, a3, a4, ?_⟩)
    rcases h with ⟨b1, b2, w, b3, b4, b5⟩ | h
    · exact Or.inl ⟨b1, b2, w, b3, b4.fr hm, b5⟩
    · exact Or.inr h
theorem ahR {M : mz_D} {s n : Nat} {q : Int32} (m14 : M.1 0 200 14 = nI s) (hq : fX12_byteAt (nI s) M = some q) (n32 : ¬ q = 32) (n10 : ¬ q = 10) (n1 : ¬ q = -1) :
    (fX12_isSmall q = 1 → fX12_ahead_0 (n + 1) M = fX12_ahead_81 mz_N (mz_wi (mz_wi M 0 200 13 (nI s)) 0 200 15 q)) ∧
    (fX12_isSmall q = 0 → fX12_isDigit q = 1 → fX12_ahead_0 (n + 1) M = fX12_ahead_128 mz_N (mz_wi (mz_wi (mz_wi M 0 200 13 (nI s)) 0 200 15 q) 0 200 15 0)) ∧
    (fX12_isSmall q = 0 → fX12_isDigit q = 0 → (q = 59 ∨ q = 60 ∨ q = 61 ∨ q = 62) → fX12_ahead_0 (n + 1) M = some (mz_wi (mz_wi (mz_wi (mz_wi M 0 200 13 (nI s)) 0 200 15 q) 0 200 14 (nI (s + 1))) 0 200 12 4)) ∧
    (fX12_isSmall q = 0 → fX12_isDigit q = 0 → ¬ (q = 59 ∨ q = 60 ∨ q = 61 ∨ q = 62) → fX12_ahead_0 (n + 1) M = some (mz_wi (mz_wi (mz_wi (mz_wi M 0 200 13 (nI s)) 0 200 15 q) 0 200 14 (nI (s + 1))) 0 200 12 1)) := by
  refine ⟨fun h1 => ?_, fun h1 h2 => ?_, fun h1 h2 h3 => ?_, fun h1 h2 h3 => ?_⟩
  · rw [fX12_ahead_0]
    dsimp only
    rw [m14, hq, Option.bind_some, if_neg n32, Option.bind_some, if_neg n10, byt_13, hq, Option.bind_some, if_neg n1, h1, if_neg one_ne]
  · rw [fX12_ahead_0]
    dsimp only
    rw [m14, hq, Option.bind_some, if_neg n32, Option.bind_some, if_neg n10, byt_13, hq, Option.bind_some, if_neg n1, h1, if_pos rfl, h2, if_neg one_ne]
  · rw [fX12_ahead_0]
    dsimp only
    rw [m14, hq, Option.bind_some, if_neg n32, Option.bind_some, if_neg n10, byt_13, hq, Option.bind_some, if_neg n1, h1, if_pos rfl, h2, if_pos rfl, a1r]
    rcases h3 with h | h | h | h
    · rw [if_pos h]
    · rw [if_neg (by rw [h]; decide), if_pos h]
    · rw [if_neg (by rw [h]; decide), if_neg (by rw [h]; decide), if_neg (by rw [h]; decide), if_pos h]
    · rw [if_neg (by rw [h]; decide), if_neg (by rw [h]; decide), if_pos h]
  · rw [fX12_ahead_0]
    dsimp only
    rw [m14, hq, Option.bind_some, if_neg n32, Option.bind_some, if_neg n10, byt_13, hq, Option.bind_some, if_neg n1, h1, if_pos rfl, h2, if_pos rfl, a1r, if_neg (fun e => h3 (Or.inl e)), if_neg (fun e => h3 (Or.inr (Or.inl e))), if_neg (fun e => h3 (Or.inr (Or.inr (Or.inr e)))), if_neg (fun e => h3 (Or.inr (Or.inr (Or.inl e))))]
theorem adv0 {L e : Nat} {C M : mz_D} (t0 : tx L C M) (he : e ≤ L) (c5' : C.1 0 2 5 = nI e) (m14 : M.1 0 200 14 = nI e) (m18 : M.1 0 200 18 = 0) (m17 : M.1 0 200 17 = -1) : ∃ s C' M', e ≤ s ∧ fX5_advance C = some C' ∧ fX12_ahead M = some M' ∧ rdR L s C' M' ∧ aC C C' ∧ pM M M' := by
  obtain ⟨s, C1, M1, n', es, sL, t, c15, m114, r1, r2, hbl, f1, f2⟩ := skipL (L - e) e C M mz_N mz_N (by omega) (N_lt (by have := t0.1; omega)) (N_lt (by have := t0.1; omega)) t0 c5' m14
  have hL := t.1
  have q18 : M1.1 0 200 18 = 0 := by rw [(f2 _ _ _ (by omega)).1, m18]
  have q17 : M1.1 0 200 17 = -1 := by rw [(f2 _ _ _ (by omega)).1, m17]
  by_cases hsL : s = L
  · subst hsL
    obtain ⟨C2, b1, b2, b3, b4, b5, b6, b7⟩ := a40L c15 (by rw [t.2.1, c15]; exact Int32.le_refl _)
    have fC := (f1.tr b7).tr (aC_wi (D := C2) (j := 2) (v := -1) (by omega))
    have fM : pM M (mz_wi (mz_wi (mz_wi M1 0 200 13 (nI s)) 0 200 15 (-1)) 0 200 12 0) := ((f2.tr (pM_wi (by omega))).tr (pM_wi (by omega))).tr (pM_wi (by omega))
    refine ⟨s, mz_wi C2 0 2 2 (-1), mz_wi (mz_wi (mz_wi M1 0 200 13 (nI s)) 0 200 15 (-1)) 0 200 12 0, es, ?_, ?_, ⟨t0.fr fC fM.a, Nat.le_refl _, ?_, ?_, ?_, ?_, Or.inl ⟨?_, wi_s _ _ _ _ _, wi_s _ _ _ _ _, rfl⟩⟩, fC, fM⟩
    · unfold fX5_advance
      rw [r1, b1, a120n (by rw [b2]; decide) (by rw [b2]; decide), a223 (kwN (by rw [b2]; decide)) (Or.inl (by rw [b2]; decide))]
    · unfold fX12_ahead
      rw [r2, fX12_ahead_0]
      dsimp only
      rw [m114, t.end0, Option.bind_some, if_neg (by decide), Option.bind_some, if_neg (by decide), byt_13, t.end0, Option.bind_some, if_pos rfl]
    · rw [wi_n (by omega), b4]
    · rw [wi_n (by omega), wi_n (by omega), wi_s]
    · rw [(fM _ _ _ (by omega)).1, m18]
    · rw [(fM _ _ _ (by omega)).1, m17]
    · rw [wi_n (by omega), b2]
  · have hs : s < L := by omega
    have hb := (t.2.2.2.1 s hs).2
    have hbl : ¬ fX5_sortOf (C1.1 0 1 s) = 5 := by
      rcases hbl with h | h
      · exact absurd h hsL
      · exact h
    have n4 : ¬ C1.1 0 2 4 ≤ C1.1 0 2 5 := by
      rw [t.2.1, c15, nJ_le (by omega) (by omega)]
      omega
    have B := bytS hb
    have R := ahR (n := n') m114 (t.byt hs) (fun h => hbl (B.1.mpr (Or.inl h))) (fun h => hbl (B.1.mpr (Or.inr h))) B.2.2.2.2.2.2.1
    rcases B.2.2.2.2.1 with h | h | h | h | h
    · -- a word
      obtain ⟨C2, b1, b2, b3, b4, b5, b6, b7⟩ := a40T c15 (by omega) n4 (by rw [h]; decide)
      have g0 : pM M1 (mz_wi (mz_wi M1 0 200 13 (nI s)) 0 200 15 (C1.1 0 1 s &&& 255)) := (pM_wi (by omega)).tr (pM_wi (by omega))
      obtain ⟨C3, M3, w, d1, d2, d3, d4, d5, d6, d7, d8, d9, d10, d11, d12, d13, d14, d15, d16, d17⟩ := wordL (L := L) (s := s) (L - s) s [] C2 _ mz_N mz_N (by omega) (N_lt (by omega)) (N_lt (by omega)) (t.fr b7 g0.a) (by rw [b2, h]) b4 b3 (by rw [wi_n (by omega), wi_n (by omega), m114]) (by rw [wi_n (by omega), wi_s]) b6 rfl (fun x hx => absurd hx List.not_mem_nil) (fun k hk => absurd hk (Nat.not_lt_zero k))
      have hw0 : 0 < w.length := d15 hs (by rw [(b7 _ _ _ (by omega)).1]; exact h)
      obtain ⟨k, k1, k2⟩ := kwH (C := C3) (w := w) d4.2.2.2.2 d13 (by omega) d5 (by rw [d7, d6, n_sub (by omega)]; congr 1; omega) d11
      have fC := ((f1.tr b7).tr d16).tr (aC_wi (D := C3) (j := 2) (v := k) (by omega))
      have fM := (f2.tr g0).tr d17
      refine ⟨s, mz_wi C3 0 2 2 k, M3, es, ?_, ?_, ⟨t0.fr fC fM.a, by omega, ?_, d9, ?_, ?_, Or.inr (Or.inr ⟨s + w.length, by omega, d12, ?_, d8, Or.inl ⟨?_, d10, w, hw0, ⟨d13, by omega, d12, d4.2.2.1, d9, d8, ?_⟩, rfl, d11, ?_⟩⟩)⟩, fC, fM⟩
      · unfold fX5_advance
        rw [r1, b1, d1, a223 k1 (Or.inl (by rw [d5]; decide))]
      · unfold fX12_ahead
        rw [r2, R.1 (B.2.1.mp h), d2]
      · rw [wi_n (by omega), d6]
      · rw [(fM _ _ _ (by omega)).1, m18]
      · rw [(fM _ _ _ (by omega)).1, m17]
      · rw [wi_n (by omega), d7]
      · rw [wi_n (by omega), d5]
      · intro i hi
        rw [(d4.2.2.2.1 (s + i) (by omega)).1, d14 i hi]
      · rw [wi_s]
        exact k2
    · -- a number
      obtain ⟨C2, b1, b2, b3, b4, b5, b6, b7⟩ := a40T c15 (by omega) n4 (by rw [h]; decide)
      have g0 : pM M1 (mz_wi (mz_wi (mz_wi M1 0 200 13 (nI s)) 0 200 15 (C1.1 0 1 s &&& 255)) 0 200 15 0) := ((pM_wi (by omega)).tr (pM_wi (by omega))).tr (pM_wi (by omega))
      obtain ⟨C3, M3, e', d1, d2, d3, d4, d5, d6, d7, d8, d9, d10, d11, d12, d13, d14, d15⟩ := numL (L := L) (s := s) (L - s) s C2 _ mz_N mz_N (by omega) (N_lt (by omega)) (N_lt (by omega)) (t.fr b7 g0.a) (by rw [b2, h]) b4 b3 (by rw [wi_n (by omega), wi_n (by omega), wi_n (by omega), m114]) (by rw [wi_n (by omega), wi_n (by omega), wi_s]) (Nat.le_refl _) (fun _ => ⟨0, by rw [Nat.sub_self]; decide, b5, wi_s _ _ _ _ _⟩)
      have hse : s < e' := d13 hs (by rw [(b7 _ _ _ (by omega)).1]; exact h)
      have fM := (f2.tr g0).tr d15
      have i0 : fX12_isSmall (C1.1 0 1 s &&& 255) = 0 := small0 hb (by rw [h]; decide)
      have A2 : fX12_ahead M = some M3 := by
        unfold fX12_ahead
        rw [r2, R.2.1 i0 (B.2.2.1.mp h), d2]
      by_cases q : e' - s ≤ 4
      · obtain ⟨v, v1, v2, v3⟩ := d12 q
        have hp : 10 ^ (e' - s) ≤ 10 ^ 4 := Nat.pow_le_pow_right (by omega) q
        have fC := ((f1.tr b7).tr d14).tr (aC_wi (D := C3) (j := 2) (v := -1) (by omega))
        refine ⟨s, mz_wi C3 0 2 2 (-1), M3, es, ?_, A2, ⟨t0.fr fC fM.a, by omega, ?_, d10, ?_, ?_, Or.inr (Or.inr ⟨e', hse, d4, ?_, d9, Or.inr (Or.inl ⟨?_, ?_, wi_s _ _ _ _ _, v, by omega, ?_, v3⟩)⟩)⟩, fC, fM⟩
        · unfold fX5_advance
          rw [r1, b1, d1, a223 (kwN (by rw [d6]; decide)) (Or.inr (by rw [d8, d7, n_sub (by omega)]; show nI _ ≤ nI 4; rw [nJ_le (by omega) (by omega)]; exact q))]
        · rw [wi_n (by omega), d7]
        · rw [(fM _ _ _ (by omega)).1, m18]
        · rw [(fM _ _ _ (by omega)).1, m17]
        · rw [wi_n (by omega), d8]
        · rw [wi_n (by omega), d6]
        · rw [d11, if_pos q]
        · rw [wi_n (by omega), v2]
      · have fC := (((f1.tr b7).tr d14).tr (aC_wi (D := C3) (j := 2) (v := -1) (by omega))).tr (aC_wi (D := mz_wi C3 0 2 2 (-1)) (j := 6) (v := 4) (by omega))
        refine ⟨s, mz_wi (mz_wi C3 0 2 2 (-1)) 0 2 6 4, M3, es, ?_, A2, ⟨t0.fr fC fM.a, by omega, ?_, d10, ?_, ?_, Or.inr (Or.inl ⟨wi_s _ _ _ _ _, ?_, ?_⟩)⟩, fC, fM⟩
        · unfold fX5_advance
          rw [r1, b1, d1, a223b (kwN (by rw [d6]; decide)) d6 (by rw [d8, d7, n_sub (by omega)]; show ¬ nI _ ≤ nI 4; rw [nJ_le (by omega) (by omega)]; exact q)]
        · rw [wi_n (by omega), wi_n (by omega), d7]
        · rw [(fM _ _ _ (by omega)).1, m18]
        · rw [(fM _ _ _ (by omega)).1, m17]
        · rw [d11, if_neg q]
        · rw [wi_n (by omega), wi_s]
    · -- a sign
      obtain ⟨C2, b1, b2, b3, b4, b5, b7⟩ := a40S c15 (by omega) n4 h
      have S := sg1 hb h
      have fC := (f1.tr b7).tr (aC_wi (D := C2) (j := 2) (v := -1) (by omega))
      have fM : pM M (mz_wi (mz_wi (mz_wi (mz_wi M1 0 200 13 (nI s)) 0 200 15 (C1.1 0 1 s &&& 255)) 0 200 14 (nI (s + 1))) 0 200 12 4) := (((f2.tr (pM_wi (by omega))).tr (pM_wi (by omega))).tr (pM_wi (by omega))).tr (pM_wi (by omega))
      refine ⟨s, mz_wi C2 0 2 2 (-1), _, es, ?_, ?_, ⟨t0.fr fC fM.a, by omega, ?_, ?_, ?_, ?_, Or.inr (Or.inr ⟨s + 1, by omega, by omega, ?_, ?_, Or.inr (Or.inr ⟨?_, wi_s _ _ _ _ _, wi_s _ _ _ _ _, ?_, ?_⟩)⟩)⟩, fC, fM⟩
      · unfold fX5_advance
        rw [r1, b1, a120n (by rw [b2]; decide) (by rw [b2]; decide), a223 (kwN (by rw [b2]; decide)) (Or.inl (by rw [b2]; decide))]
      · unfold fX12_ahead
        rw [r2, R.2.2.1 (small0 hb (by rw [h]; decide)) (digit0 hb (by rw [h]; decide)) (by rw [S.2]; exact S.1)]
      · rw [wi_n (by omega), b4]
      · rw [wi_n (by omega), wi_n (by omega), wi_n (by omega), wi_s]
      · rw [(fM _ _ _ (by omega)).1, m18]
      · rw [(fM _ _ _ (by omega)).1, m17]
      · rw [wi_n (by omega), b3]
      · rw [wi_n (by omega), wi_s]
      · rw [wi_n (by omega), b2]
      · rw [wi_n (by omega), wi_n (by omega), wi_s, wi_n (by omega), b5, S.2]
      · rw [wi_n (by omega), b5]
        exact S.1
    · -- none
      obtain ⟨C2, b1, b2, b3, b4, b5, b6, b7⟩ := a40T c15 (by omega) n4 (by rw [h]; decide)
      have fC := (f1.tr b7).tr (aC_wi (D := C2) (j := 2) (v := -1) (by omega))
      have fM : pM M (mz_wi (mz_wi (mz_wi (mz_wi M1 0 200 13 (nI s)) 0 200 15 (C1.1 0 1 s &&& 255)) 0 200 14 (nI (s + 1))) 0 200 12 1) := (((f2.tr (pM_wi (by omega))).tr (pM_wi (by omega))).tr (pM_wi (by omega))).tr (pM_wi (by omega))
      have ns : ¬ (C1.1 0 1 s &&& 255 = 59 ∨ C1.1 0 1 s &&& 255 = 60 ∨ C1.1 0 1 s &&& 255 = 61 ∨ C1.1 0 1 s &&& 255 = 62) := by
        intro q
        have := B.2.2.2.1.mpr (by rcases q with q | q | q | q; exact Or.inl q; exact Or.inr (Or.inl q); exact Or.inr (Or.inr (Or.inr q)); exact Or.inr (Or.inr (Or.inl q)))
        rw [h] at this
        exact absurd this (by decide)
      refine ⟨s, mz_wi C2 0 2 2 (-1), _, es, ?_, ?_, ⟨t0.fr fC fM.a, by omega, ?_, ?_, ?_, ?_, Or.inr (Or.inl ⟨?_, wi_s _ _ _ _ _, wi_s _ _ _ _ _⟩)⟩, fC, fM⟩
      · unfold fX5_advance
        rw [r1, b1, a120n (by rw [b2, h]; decide) (by rw [b2, h]; decide), a223 (kwN (by rw [b2, h]; decide)) (Or.inl (by rw [b2, h]; decide))]
      · unfold fX12_ahead
        rw [r2, R.2.2.2 (small0 hb (by rw [h]; decide)) (digit0 hb (by rw [h]; decide)) ns]
      · rw [wi_n (by omega), b4]
      · rw [wi_n (by omega), wi_n (by omega), wi_n (by omega), wi_s]
      · rw [(fM _ _ _ (by omega)).1, m18]
      · rw [(fM _ _ _ (by omega)).1, m17]
      · rw [wi_n (by omega), b2, h]
    · exact absurd h hbl
