/-! ===== texts: the two readers ===== -/
theorem wgs (D : mz_D) (g o j : Nat) (v : Int64) : (mz_wg D g o j v).2 g o j = v := if_pos ⟨rfl, rfl, rfl⟩
theorem wgn {D : mz_D} {g o j : Nat} {v : Int64} {a b c : Nat} (h : b ≠ o ∨ a ≠ g ∨ c ≠ j) : (mz_wg D g o j v).2 a b c = D.2 a b c := if_neg (by omega)
/-- what a reader may touch -/
def aC (C C' : mz_D) : Prop := ∀ g o j, ¬ (g = 0 ∧ o = 2 ∧ j ≠ 4) → C'.1 g o j = C.1 g o j ∧ C'.2 g o j = C.2 g o j
def pM (M M' : mz_D) : Prop := ∀ g o j, ¬ (g = 0 ∧ o = 200 ∧ 12 ≤ j ∧ j ≤ 15) → M'.1 g o j = M.1 g o j ∧ M'.2 g o j = M.2 g o j
def aM (M M' : mz_D) : Prop := ∀ g o j, ¬ (g = 0 ∧ o = 200 ∧ ((12 ≤ j ∧ j ≤ 15) ∨ j = 17 ∨ j = 18)) → M'.1 g o j = M.1 g o j ∧ M'.2 g o j = M.2 g o j
theorem aC.rf {D : mz_D} : aC D D := fun _ _ _ _ => ⟨rfl, rfl⟩
theorem pM.rf {D : mz_D} : pM D D := fun _ _ _ _ => ⟨rfl, rfl⟩
theorem aM.rf {D : mz_D} : aM D D := fun _ _ _ _ => ⟨rfl, rfl⟩
theorem aC.tr {D E F : mz_D} (h : aC D E) (k : aC E F) : aC D F := fun g o j hn => ⟨(k g o j hn).1.trans (h g o j hn).1, (k g o j hn).2.trans (h g o j hn).2⟩
theorem pM.tr {D E F : mz_D} (h : pM D E) (k : pM E F) : pM D F := fun g o j hn => ⟨(k g o j hn).1.trans (h g o j hn).1, (k g o j hn).2.trans (h g o j hn).2⟩
theorem aM.tr {D E F : mz_D} (h : aM D E) (k : aM E F) : aM D F := fun g o j hn => ⟨(k g o j hn).1.trans (h g o j hn).1, (k g o j hn).2.trans (h g o j hn).2⟩
theorem pM.a {D E : mz_D} (h : pM D E) : aM D E := fun g o j hn => h g o j (by omega)
theorem aC_wi {D : mz_D} {j : Nat} {v : Int32} (h : j ≠ 4) : aC D (mz_wi D 0 2 j v) := fun a b c hn => ⟨wi_n (by omega), rfl⟩
theorem aC_wg {D : mz_D} {j : Nat} {v : Int64} (h : j ≠ 4) : aC D (mz_wg D 0 2 j v) := fun a b c hn => ⟨rfl, wgn (by omega)⟩
theorem pM_wi {D : mz_D} {j : Nat} {v : Int32} (h : 12 ≤ j ∧ j ≤ 15) : pM D (mz_wi D 0 200 j v) := fun a b c hn => ⟨wi_n (by omega), rfl⟩
theorem aM_wi {D : mz_D} {j : Nat} {v : Int32} (h : (12 ≤ j ∧ j ≤ 15) ∨ j = 17 ∨ j = 18) : aM D (mz_wi D 0 200 j v) := fun a b c hn => ⟨wi_n (by omega), rfl⟩
/-- the text, in both -/
def tx (L : Nat) (C M : mz_D) : Prop := L ≤ 900 ∧ C.1 0 2 4 = nI L ∧ M.1 0 200 11 = nI L ∧ (∀ j, j < L → M.1 0 207 j = C.1 0 1 j ∧ bd (C.1 0 1 j) (-128) 127) ∧ C.2 0 3 = cz_DK.2 0 3
theorem tx.fr {L : Nat} {C M C' M' : mz_D} (h : tx L C M) (hc : aC C C') (hm : aM M M') : tx L C' M' := by
  obtain ⟨h1, h2, h3, h4, h5⟩ := h
  refine ⟨h1, by rw [(hc _ _ _ (by omega)).1, h2], by rw [(hm _ _ _ (by omega)).1, h3], fun j hj => ?_, ?_⟩
  · rw [(hc _ _ _ (by omega)).1, (hm _ _ _ (by omega)).1]
    exact h4 j hj
  · rw [← h5]
    funext j
    exact (hc _ _ _ (by omega)).2
theorem tx.byt {L : Nat} {C M : mz_D} (h : tx L C M) {i : Nat} (hi : i < L) : fX12_byteAt (nI i) M = some (C.1 0 1 i &&& 255) := by
  obtain ⟨h1, h2, h3, h4, h5⟩ := h
  unfold fX12_byteAt
  rw [h3, if_neg (by rw [nJ_le (by omega) (by omega)]; omega), nI_ix (by omega) (by omega), gd_tt, nI_cl (by omega), (h4 i hi).1]
theorem tx.end0 {L : Nat} {C M : mz_D} (h : tx L C M) : fX12_byteAt (nI L) M = some (-1) := by
  obtain ⟨h1, h2, h3, h4, h5⟩ := h
  unfold fX12_byteAt
  rw [h3, if_pos (Int32.le_refl _)]
theorem byt_13 {M : mz_D} {x v : Int32} : fX12_byteAt x (mz_wi M 0 200 13 v) = fX12_byteAt x M := by
  unfold fX12_byteAt
  rw [wi_n (by omega), wi_n (by omega)]
theorem small01 (x : Int32) : fX12_isSmall x = 0 ∨ fX12_isSmall x = 1 := by
  unfold fX12_isSmall
  by_cases h : x < 97
  · rw [if_pos h]; exact Or.inl rfl
  · rw [if_neg h]
    by_cases h2 : (122 : Int32) < x
    · rw [if_pos h2]; exact Or.inl rfl
    · rw [if_neg h2]; exact Or.inr rfl
theorem digit01 (x : Int32) : fX12_isDigit x = 0 ∨ fX12_isDigit x = 1 := by
  unfold fX12_isDigit
  by_cases h : x < 48
  · rw [if_pos h]; exact Or.inl rfl
  · rw [if_neg h]
    by_cases h2 : (57 : Int32) < x
    · rw [if_pos h2]; exact Or.inl rfl
    · rw [if_neg h2]; exact Or.inr rfl
theorem small0 {b : Int32} (h : bd b (-128) 127) (hs : ¬ fX5_sortOf b = 1) : fX12_isSmall (b &&& 255) = 0 := by
  rcases small01 (b &&& 255) with h1 | h1
  · exact h1
  · exact absurd ((bytS h).2.1.mpr h1) hs
theorem digit0 {b : Int32} (h : bd b (-128) 127) (hs : ¬ fX5_sortOf b = 2) : fX12_isDigit (b &&& 255) = 0 := by
  rcases digit01 (b &&& 255) with h1 | h1
  · exact h1
  · exact absurd ((bytS h).2.2.1.mpr h1) hs
theorem skipL {L : Nat} : ∀ d e (C M : mz_D) n1 n2, e + d = L → d < n1 → d < n2 → tx L C M → C.1 0 2 5 = nI e → M.1 0 200 14 = nI e → ∃ s C' M' n', e ≤ s ∧ s ≤ L ∧ tx L C' M' ∧ C'.1 0 2 5 = nI s ∧ M'.1 0 200 14 = nI s ∧ fX5_advance_0 n1 C = fX5_advance_40 C' ∧ fX12_ahead_0 n2 M = fX12_ahead_0 (n' + 1) M' ∧ (s = L ∨ ¬ fX5_sortOf (C'.1 0 1 s) = 5) ∧ aC C C' ∧ pM M M' := by
  intro d
  induction d with
  | zero =>
    intro e C M n1 n2 h hn1 hn2 t c5 m14
    obtain ⟨n1, rfl⟩ : ∃ n', n1 = n' + 1 := ⟨n1 - 1, by omega⟩
    have e0 : e = L := by omega
    subst e0
    refine ⟨e, C, M, n2 - 1, Nat.le_refl _, Nat.le_refl _, t, c5, m14, ?_, by rw [show n2 - 1 + 1 = n2 by omega], Or.inl rfl, aC.rf, pM.rf⟩
    rw [fX5_advance_0]
    dsimp only
    rw [t.2.1, c5, if_pos (Int32.le_refl _)]
  | succ d ih =>
    intro e C M n1 n2 h hn1 hn2 t c5 m14
    obtain ⟨n1, rfl⟩ : ∃ n', n1 = n' + 1 := ⟨n1 - 1, by omega⟩
    obtain ⟨n2, rfl⟩ : ∃ n', n2 = n' + 1 := ⟨n2 - 1, by omega⟩
    have hL := t.1
    have he : e < L := by omega
    have hb := (t.2.2.2.1 e he).2
    have n4 : ¬ C.1 0 2 4 ≤ C.1 0 2 5 := by
      rw [t.2.1, c5, nJ_le (by omega) (by omega)]
      omega
    by_cases hs : fX5_sortOf (C.1 0 1 e) = 5
    · have t1 : tx L (mz_wi C 0 2 5 (nI (e + 1))) (mz_wi M 0 200 14 (nI (e + 1))) := t.fr (aC_wi (by omega)) (aM_wi (by omega))
      obtain ⟨s, C', M', n', a1, a2, a3, a4, a5, a6, a7, a8, a9, a10⟩ := ih (e + 1) _ _ n1 n2 (by omega) (by omega) (by omega) t1 (wi_s _ _ _ _ _) (wi_s _ _ _ _ _)
      refine ⟨s, C', M', n', by omega, a2, a3, a4, a5, ?_, ?_, a8, (aC_wi (by omega)).tr a9, (pM_wi (by omega)).tr a10⟩
      · rw [← a6, fX5_advance_0]
        dsimp only
        rw [if_neg n4, c5, nI_ix (by omega) (by omega), gd_tt, nI_cl (by omega), if_pos hs, a1r]
      · rw [← a7, fX12_ahead_0]
        dsimp only
        unfold fX12_ahead_26
        rw [m14, t.byt he, Option.bind_some, a1r]
        rcases (bytS hb).1.mp hs with q | q
        · rw [if_pos q]
        · rw [if_neg (by rw [q]; decide), Option.bind_some, if_pos q]
    · refine ⟨e, C, M, n2, Nat.le_refl _, by omega, t, c5, m14, ?_, rfl, Or.inr hs, aC.rf, pM.rf⟩
      rw [fX5_advance_0]
      dsimp only
      rw [if_neg n4, c5, nI_ix (by omega) (by omega), gd_tt, nI_cl (by omega), if_neg hs]
/-- the class, from a token's first byte -/
theorem a40L {C : mz_D} {s : Nat} (c5 : C.1 0 2 5 = nI s) (c4 : C.1 0 2 4 ≤ C.1 0 2 5) : ∃ C1, fX5_advance_40 C = fX5_advance_120 mz_N C1 ∧ C1.1 0 2 6 = 0 ∧ C1.1 0 2 5 = nI s ∧ C1.1 0 2 7 = nI s ∧ C1.1 0 2 8 = 0 ∧ C1.2 0 2 9 = 0 ∧ aC C C1 := by
  refine ⟨mz_wi (mz_wi (mz_wg (mz_wi C 0 2 7 (C.1 0 2 5)) 0 2 9 0) 0 2 8 0) 0 2 6 0, ?_, wi_s _ _ _ _ _, ?_, ?_, ?_, ?_, ?_⟩
  · unfold fX5_advance_40
    rw [if_pos c4]
    unfold fX5_advance_86
    rw [if_neg (by decide)]
  · rw [wi_n (by omega), wi_n (by omega), wg_1, wi_n (by omega), c5]
  · rw [wi_n (by omega), wi_n (by omega), wg_1, wi_s, c5]
  · rw [wi_n (by omega), wi_s]
  · rw [wi_2, wi_2, wgs]
  · exact (((aC_wi (by omega)).tr (aC_wg (by omega))).tr (aC_wi (by omega))).tr (aC_wi (by omega))
theorem a40T {C : mz_D} {s : Nat} (c5 : C.1 0 2 5 = nI s) (hs : s < 900) (c4 : ¬ C.1 0 2 4 ≤ C.1 0 2 5) (h3 : ¬ fX5_sortOf (C.1 0 1 s) = 3) : ∃ C1, fX5_advance_40 C = fX5_advance_120 mz_N C1 ∧ C1.1 0 2 6 = fX5_sortOf (C.1 0 1 s) ∧ C1.1 0 2 5 = nI s ∧ C1.1 0 2 7 = nI s ∧ C1.1 0 2 8 = 0 ∧ C1.2 0 2 9 = 0 ∧ aC C C1 := by
  refine ⟨mz_wi (mz_wi (mz_wg (mz_wi C 0 2 7 (C.1 0 2 5)) 0 2 9 0) 0 2 8 0) 0 2 6 (fX5_sortOf (C.1 0 1 s)), ?_, wi_s _ _ _ _ _, ?_, ?_, ?_, ?_, ?_⟩
  · unfold fX5_advance_40
    rw [if_neg c4, c5, nI_ix hs (by omega), gd_tt, nI_cl (by omega)]
    unfold fX5_advance_86
    rw [if_neg h3]
  · rw [wi_n (by omega), wi_n (by omega), wg_1, wi_n (by omega), c5]
  · rw [wi_n (by omega), wi_n (by omega), wg_1, wi_s, c5]
  · rw [wi_n (by omega), wi_s]
  · rw [wi_2, wi_2, wgs]
  · exact (((aC_wi (by omega)).tr (aC_wg (by omega))).tr (aC_wi (by omega))).tr (aC_wi (by omega))
theorem a40S {C : mz_D} {s : Nat} (c5 : C.1 0 2 5 = nI s) (hs : s < 900) (c4 : ¬ C.1 0 2 4 ≤ C.1 0 2 5) (h3 : fX5_sortOf (C.1 0 1 s) = 3) : ∃ C1, fX5_advance_40 C = fX5_advance_120 mz_N C1 ∧ C1.1 0 2 6 = 3 ∧ C1.1 0 2 5 = nI (s + 1) ∧ C1.1 0 2 7 = nI s ∧ C1.1 0 2 8 = C.1 0 1 s ∧ aC C C1 := by
  refine ⟨mz_wi (mz_wi (mz_wi (mz_wi (mz_wg (mz_wi C 0 2 7 (C.1 0 2 5)) 0 2 9 0) 0 2 8 0) 0 2 6 3) 0 2 8 (C.1 0 1 s)) 0 2 5 (nI (s + 1)), ?_, ?_, wi_s _ _ _ _ _, ?_, ?_, ?_⟩
  · have e1 : (mz_wi (mz_wg (mz_wi C 0 2 7 (nI s)) 0 2 9 0) 0 2 8 0).1 0 2 5 = nI s := by rw [wi_n (by omega), wg_1, wi_n (by omega), c5]
    have e2 : (mz_wi (mz_wg (mz_wi C 0 2 7 (nI s)) 0 2 9 0) 0 2 8 0).1 0 1 s = C.1 0 1 s := by rw [wi_n (by omega), wg_1, wi_n (by omega)]
    unfold fX5_advance_40
    rw [if_neg c4, c5, nI_ix hs (by omega), gd_tt, nI_cl (by omega), h3]
    unfold fX5_advance_86
    rw [if_pos rfl, e1, nI_ix hs (by omega), gd_tt, nI_cl (by omega), e2, a1r]
  · rw [wi_n (by omega), wi_n (by omega), wi_s]
  · rw [wi_n (by omega), wi_n (by omega), wi_n (by omega), wi_n (by omega), wg_1, wi_s, c5]
  · rw [wi_n (by omega), wi_s]
  · exact (((((aC_wi (by omega)).tr (aC_wg (by omega))).tr (aC_wi (by omega))).tr (aC_wi (by omega))).tr (aC_wi (by omega))).tr (aC_wi (by omega))
theorem a120n {C : mz_D} (h1 : ¬ C.1 0 2 6 = 1) (h2 : ¬ C.1 0 2 6 = 2) : fX5_advance_120 mz_N C = fX5_advance_223 C := by
  obtain ⟨n, hn, -⟩ := N_s
  rw [hn, fX5_advance_120]
  dsimp only
  rw [if_neg h1, if_neg h2]
  by_cases h : C.1 0 2 4 ≤ C.1 0 2 5
  · rw [if_pos h]
  · rw [if_neg h]
theorem a223 {C : mz_D} {k : Int32} (hk : fX5_keywordHere C = some k) (h : ¬ C.1 0 2 6 = 2 ∨ C.1 0 2 5 - C.1 0 2 7 ≤ 4) : fX5_advance_223 C = some (mz_wi C 0 2 2 k) := by
  unfold fX5_advance_223
  rw [hk, Option.bind_some]
  by_cases h2 : C.1 0 2 6 = 2
  · rw [if_pos h2, if_pos (by rcases h with h | h; exact absurd h2 h; exact h)]
  · rw [if_neg h2]
theorem a223b {C : mz_D} {k : Int32} (hk : fX5_keywordHere C = some k) (h2 : C.1 0 2 6 = 2) (h : ¬ C.1 0 2 5 - C.1 0 2 7 ≤ 4) : fX5_advance_223 C = some (mz_wi (mz_wi C 0 2 2 k) 0 2 6 4) := by
  unfold fX5_advance_223
  rw [hk, Option.bind_some, if_pos h2, if_neg h]
/-- a word, byte by byte -/
theorem wordL {L s : Nat} : ∀ d i (w : List Nat) (C M : mz_D) n1 n2, i + d = L → d < n1 → d < n2 → tx L C M → C.1 0 2 6 = 1 → C.1 0 2 7 = nI s → C.1 0 2 5 = nI i → M.1 0 200 14 = nI i → M.1 0 200 13 = nI s → C.2 0 2 9 = c5 w → s + w.length = i → ltr w → (∀ k, k < w.length → C.1 0 1 (s + k) = nI (w.getD k 0 + 96)) → ∃ C' M' w', fX5_advance_120 n1 C = fX5_advance_223 C' ∧ fX12_ahead_81 n2 M = some M' ∧ w.length ≤ w'.length ∧ tx L C' M' ∧ C'.1 0 2 6 = 1 ∧ C'.1 0 2 7 = nI s ∧ C'.1 0 2 5 = nI (s + w'.length) ∧ M'.1 0 200 14 = nI (s + w'.length) ∧ M'.1 0 200 13 = nI s ∧ M'.1 0 200 12 = 2 ∧ C'.2 0 2 9 = c5 w' ∧ s + w'.length ≤ L ∧ ltr w' ∧ (∀ k, k < w'.length → C'.1 0 1 (s + k) = nI (w'.getD k 0 + 96)) ∧ (i < L → fX5_sortOf (C.1 0 1 i) = 1 → w.length < w'.length) ∧ aC C C' ∧ pM M M' := by
  intro d
  induction d with
  | zero =>
    intro i w C M n1 n2 h hn1 hn2 t c6 c7 c5' m14 m13 c9 hw hl hb
    obtain ⟨n1, rfl⟩ : ∃ n', n1 = n' + 1 := ⟨n1 - 1, by omega⟩
    obtain ⟨n2, rfl⟩ : ∃ n', n2 = n' + 1 := ⟨n2 - 1, by omega⟩
    have e0 : i = L := by omega
    refine ⟨C, mz_wi M 0 200 12 2, w, ?_, ?_, Nat.le_refl _, t.fr aC.rf (aM_wi (by omega)), c6, c7, by rw [c5', hw], by rw [wi_n (by omega), m14, hw], by rw [wi_n (by omega), m13], wi_s _ _ _ _ _, c9, by omega, hl, hb, fun q => by omega, aC.rf, pM_wi (by omega)⟩
    · rw [fX5_advance_120]
      dsimp only
      rw [t.2.1, c5', e0, if_pos (Int32.le_refl _)]
    · rw [fX12_ahead_81]
      dsimp only
      rw [m14, e0, t.end0, Option.bind_some, if_pos (by decide)]
  | succ d ih =>
    intro i w C M n1 n2 h hn1 hn2 t c6 c7 c5' m14 m13 c9 hw hl hb
    obtain ⟨n1, rfl⟩ : ∃ n', n1 = n' + 1 := ⟨n1 - 1, by omega⟩
    obtain ⟨n2, rfl⟩ : ∃ n', n2 = n' + 1 := ⟨n2 - 1, by omega⟩
    have hL := t.1
    have hi : i < L := by omega
    have hbi := (t.2.2.2.1 i hi).2
    have n4 : ¬ C.1 0 2 4 ≤ C.1 0 2 5 := by
      rw [t.2.1, c5', nJ_le (by omega) (by omega)]
      omega
    by_cases hs : fX5_sortOf (C.1 0 1 i) = 1
    · obtain ⟨x, x1, x2, x3⟩ := lt1 hbi hs
      have l0 := let0 x (by omega) x1
      have f1 : aC C (mz_wi (mz_wi (mz_wg C 0 2 9 ((C.2 0 2 9) * (32 : Int64) + ((nI (x + 96) - (97 : Int32)) + (1 : Int32)).toInt64)) 0 2 8 ((C.1 0 2 8) * (10 : Int32) + (nI (x + 96) - (48 : Int32)))) 0 2 5 (nI (i + 1))) := ((aC_wg (by omega)).tr (aC_wi (by omega))).tr (aC_wi (by omega))
      have t1 := t.fr f1 (aM_wi (D := M) (j := 14) (v := nI (i + 1)) (by omega))
      obtain ⟨C', M', w', a1, a2, a3, a4, a5, a6, a7, a8, a9, a10, a11, a12, a13, a14, -, a16, a17⟩ := ih (i + 1) (w ++ [x]) _ _ n1 n2 (by omega) (by omega) (by omega) t1 (by rw [wi_n (by omega), wi_n (by omega), wg_1, c6]) (by rw [wi_n (by omega), wi_n (by omega), wg_1, c7]) (wi_s _ _ _ _ _) (wi_s _ _ _ _ _) (by rw [wi_n (by omega), m13]) (by rw [wi_2, wi_2, wgs, c9, l0.2.2.2, c5_s]) (by rw [List.length_append, List.length_singleton]; omega) (fun y hy => by
          rcases List.mem_append.mp hy with q | q
          · exact hl y q
          · rw [List.mem_singleton.mp q]; exact ⟨x1, x2⟩) (fun k hk => by
          rw [List.length_append, List.length_singleton] at hk
          rw [(f1 _ _ _ (by omega)).1]
          by_cases e : k < w.length
          · rw [List.getD_eq_getElem?_getD, List.getElem?_append_left e, ← List.getD_eq_getElem?_getD]
            exact hb k e
          · have e2 : k = w.length := by omega
            rw [List.getD_eq_getElem?_getD, List.getElem?_append_right (by omega), e2, Nat.sub_self, hw, x3]
            rfl)
      rw [List.length_append, List.length_singleton] at a3
      refine ⟨C', M', w', ?_, ?_, by omega, a4, a5, a6, a7, a8, a9, a10, a11, a12, a13, a14, fun _ _ => by omega, f1.tr a16, (pM_wi (by omega)).tr a17⟩
      · rw [← a1, fX5_advance_120]
        dsimp only
        unfold fX5_advance_147
        rw [if_neg n4, if_pos c6, c5', nI_ix (by omega) (by omega), gd_tt, nI_cl (by omega), hs, c6, if_pos rfl, x3, a1r]
      · rw [← a2, fX12_ahead_81]
        dsimp only
        rw [m14, t.byt hi, Option.bind_some, x3, l0.1, l0.2.2.1, if_neg one_ne, a1r]
    · refine ⟨C, mz_wi M 0 200 12 2, w, ?_, ?_, Nat.le_refl _, t.fr aC.rf (aM_wi (by omega)), c6, c7, by rw [c5', hw], by rw [wi_n (by omega), m14, hw], by rw [wi_n (by omega), m13], wi_s _ _ _ _ _, c9, by omega, hl, hb, fun _ q => absurd q hs, aC.rf, pM_wi (by omega)⟩
      · rw [fX5_advance_120]
        dsimp only
        unfold fX5_advance_147
        rw [if_neg n4, if_pos c6, c5', nI_ix (by omega) (by omega), gd_tt, nI_cl (by omega), c6, if_neg hs]
      · rw [fX12_ahead_81]
        dsimp only
        rw [m14, t.byt hi, Option.bind_some, small0 hbi hs, if_pos rfl]
/-- a number, byte by byte -/
theorem min_n {x : Int32} {v : Nat} (h : x = nI v) (hv : v < 100000) : fJ9_min_7cf53 100000 x = nI v := by
  unfold fJ9_min_7cf53
  rw [h, if_pos (by show nI v < nI 100000; rw [nJ_lt (by omega) (by omega)]; exact hv)]
theorem numL {L s : Nat} : ∀ d i (C M : mz_D) n1 n2, i + d = L → d < n1 → d < n2 → tx L C M → C.1 0 2 6 = 2 → C.1 0 2 7 = nI s → C.1 0 2 5 = nI i → M.1 0 200 14 = nI i → M.1 0 200 13 = nI s → s ≤ i → (i - s ≤ 4 → ∃ v, v < 10 ^ (i - s) ∧ C.1 0 2 8 = nI v ∧ M.1 0 200 15 = nI v) → ∃ C' M' e, fX5_advance_120 n1 C = fX5_advance_223 C' ∧ fX12_ahead_128 n2 M = some M' ∧ i ≤ e ∧ e ≤ L ∧ tx L C' M' ∧ C'.1 0 2 6 = 2 ∧ C'.1 0 2 7 = nI s ∧ C'.1 0 2 5 = nI e ∧ M'.1 0 200 14 = nI e ∧ M'.1 0 200 13 = nI s ∧ M'.1 0 200 12 = (if e - s ≤ 4 then 3 else 1) ∧ (e - s ≤ 4 → ∃ v, v < 10 ^ (e - s) ∧ C'.1 0 2 8 = nI v ∧ M'.1 0 200 15 = nI v) ∧ (i < L → fX5_sortOf (C.1 0 1 i) = 2 → i < e) ∧ aC C C' ∧ pM M M' := by
  intro d
  induction d with
  | zero =>
    intro i C M n1 n2 h hn1 hn2 t c6 c7 c5' m14 m13 hsi hv
    obtain ⟨n1, rfl⟩ : ∃ n', n1 = n' + 1 := ⟨n1 - 1, by omega⟩
    obtain ⟨n2, rfl⟩ : ∃ n', n2 = n' + 1 := ⟨n2 - 1, by omega⟩
    have hL := t.1
    have e0 : i = L := by omega
    refine ⟨C, mz_wi M 0 200 12 (if i - s ≤ 4 then 3 else 1), i, ?_, ?_, Nat.le_refl _, by omega, t.fr aC.rf (aM_wi (by omega)), c6, c7, c5', by rw [wi_n (by omega), m14], by rw [wi_n (by omega), m13], wi_s _ _ _ _ _, fun q => ?_, fun q => by omega, aC.rf, pM_wi (by omega)⟩
    · rw [fX5_advance_120]
      dsimp only
      rw [t.2.1, c5', e0, if_pos (Int32.le_refl _)]
    · rw [fX12_ahead_128]
      dsimp only
      rw [m14, e0, t.end0, Option.bind_some, if_pos (by decide), m13, n_sub (by omega)]
      by_cases q : L - s ≤ 4
      · rw [if_pos (by show nI (L - s) ≤ nI 4; rw [nJ_le (by omega) (by omega)]; exact q), if_pos q]
      · rw [if_neg (by show ¬ nI (L - s) ≤ nI 4; rw [nJ_le (by omega) (by omega)]; exact q), if_neg q]
    · obtain ⟨v, v1, v2, v3⟩ := hv q
      exact ⟨v, v1, v2, by rw [wi_n (by omega), v3]⟩
  | succ d ih =>
    intro i C M n1 n2 h hn1 hn2 t c6 c7 c5' m14 m13 hsi hv
    obtain ⟨n1, rfl⟩ : ∃ n', n1 = n' + 1 := ⟨n1 - 1, by omega⟩
    obtain ⟨n2, rfl⟩ : ∃ n', n2 = n' + 1 := ⟨n2 - 1, by omega⟩
    have hL := t.1
    have hi : i < L := by omega
    have hbi := (t.2.2.2.1 i hi).2
    have n4 : ¬ C.1 0 2 4 ≤ C.1 0 2 5 := by
      rw [t.2.1, c5', nJ_le (by omega) (by omega)]
      omega
    have two : ¬ (2 : Int32) = 1 := by decide
    by_cases hs : fX5_sortOf (C.1 0 1 i) = 2
    · obtain ⟨x, x2, x3⟩ := dg1 hbi hs
      have l0 := dg0 x (by omega)
      have f1 : aC C (mz_wi (mz_wi (mz_wg C 0 2 9 ((C.2 0 2 9) * (32 : Int64) + ((nI (x + 48) - (97 : Int32)) + (1 : Int32)).toInt64)) 0 2 8 ((C.1 0 2 8) * (10 : Int32) + (nI (x + 48) - (48 : Int32)))) 0 2 5 (nI (i + 1))) := ((aC_wg (by omega)).tr (aC_wi (by omega))).tr (aC_wi (by omega))
      have f2 : pM M (mz_wi (mz_wi M 0 200 15 (fJ9_min_7cf53 (100000 : Int32) ((((10 : Int32) * (M.1 0 200 15)) + nI (x + 48)) - (48 : Int32)))) 0 200 14 (nI (i + 1))) := (pM_wi (by omega)).tr (pM_wi (by omega))
      have t1 := t.fr f1 f2.a
      obtain ⟨C', M', e, a1, a2, a3, a4, a5, a6, a7, a8, a9, a10, a11, a12, -, a14, a15⟩ := ih (i + 1) _ _ n1 n2 (by omega) (by omega) (by omega) t1 (by rw [wi_n (by omega), wi_n (by omega), wg_1, c6]) (by rw [wi_n (by omega), wi_n (by omega), wg_1, c7]) (wi_s _ _ _ _ _) (wi_s _ _ _ _ _) (by rw [wi_n (by omega), wi_n (by omega), m13]) (by omega) (fun q => by
        obtain ⟨v, v1, v2, v3⟩ := hv (by omega)
        have e1 : i + 1 - s = (i - s) + 1 := by omega
        have hp : 10 ^ (i - s) ≤ 10 ^ 3 := Nat.pow_le_pow_right (by omega) (by omega)
        refine ⟨v * 10 + x, ?_, ?_, ?_⟩
        · rw [e1, Nat.pow_succ]
          omega
        · rw [wi_n (by omega), wi_s, v2, l0.2.2.2]
          show nI v * nI 10 + nI x = _
          rw [nI_mul, nI_add]
        · rw [wi_n (by omega), wi_s, v3]
          refine min_n ?_ (by omega)
          show (nI 10 * nI v + nI (x + 48)) - nI 48 = _
          rw [nI_mul, nI_add, n_sub (by omega)]
          congr 1
          omega)
      refine ⟨C', M', e, ?_, ?_, by omega, a4, a5, a6, a7, a8, a9, a10, a11, a12, fun _ _ => by omega, f1.tr a14, f2.tr a15⟩
      · rw [← a1, fX5_advance_120]
        dsimp only
        unfold fX5_advance_147
        rw [if_neg n4, c6, if_neg two, if_pos rfl, c5', nI_ix (by omega) (by omega), gd_tt, nI_cl (by omega), hs, if_pos rfl, x3, a1r]
      · rw [← a2, fX12_ahead_128]
        dsimp only
        rw [m14, t.byt hi, Option.bind_some, Option.bind_some, x3, l0.1, l0.2.2.1, if_neg one_ne, a1r]
    · refine ⟨C, mz_wi M 0 200 12 (if i - s ≤ 4 then 3 else 1), i, ?_, ?_, Nat.le_refl _, by omega, t.fr aC.rf (aM_wi (by omega)), c6, c7, c5', by rw [wi_n (by omega), m14], by rw [wi_n (by omega), m13], wi_s _ _ _ _ _, fun q => ?_, fun _ q => absurd q hs, aC.rf, pM_wi (by omega)⟩
      · rw [fX5_advance_120]
        dsimp only
        unfold fX5_advance_147
        rw [if_neg n4, c6, if_neg two, if_pos rfl, c5', nI_ix (by omega) (by omega), gd_tt, nI_cl (by omega), if_neg hs]
      · rw [fX12_ahead_128]
        dsimp only
        rw [m14, t.byt hi, Option.bind_some, digit0 hbi hs, if_pos rfl, m13, n_sub (by omega)]
        by_cases q : i - s ≤ 4
        · rw [if_pos (by show nI (i - s) ≤ nI 4; rw [nJ_le (by omega) (by omega)]; exact q), if_pos q]
        · rw [if_neg (by show ¬ nI (i - s) ≤ nI 4; rw [nJ_le (by omega) (by omega)]; exact q), if_neg q]
      · obtain ⟨v, v1, v2, v3⟩ := hv q
        exact ⟨v, v1, v2, by rw [wi_n (by omega), v3]⟩
