/-! ===== texts: what is asked of a token ===== -/
theorem rdR.adv {L s : Nat} {C M : mz_D} (h : rdR L s C M) (h0 : ¬ C.1 0 2 6 = 0) (h4 : ¬ C.1 0 2 6 = 4) : ∃ s' C' M', s < s' ∧ fX5_advance C = some C' ∧ fX12_ahead M = some M' ∧ rdR L s' C' M' ∧ aC C C' ∧ pM M M' := by
  obtain ⟨t, h2, h3, h5, h6, h7, h8⟩ := h
  rcases h8 with h | h | ⟨e, a1, a2, a3, a4, -⟩
  · exact absurd h.1 h0
  · exact absurd h.1 h4
  · obtain ⟨s', C', M', b1, b2, b3, b4, b5, b6⟩ := adv0 t a2 a3 a4 h6 h7
    exact ⟨s', C', M', by omega, b2, b3, b4, b5, b6⟩
theorem rdR.key {L s : Nat} {C M : mz_D} (h : rdR L s C M) : ∃ km, fX12_inWords M = some km ∧ kR (C.1 0 2 2) km := by
  obtain ⟨t, h2, h3, h5, h6, h7, h8⟩ := h
  rcases h8 with ⟨q1, q2, q3, -⟩ | ⟨q1, q2, q3⟩ | ⟨e, a1, a2, a3, a4, ⟨q1, q2, w, b1, b2, b3, b4, b5⟩ | ⟨q1, q2, q3, -⟩ | ⟨q1, q2, q3, -⟩⟩
  · exact ⟨-1, inN (by rw [q2]; decide), Or.inl ⟨q3, rfl⟩⟩
  · exact ⟨-1, inN (by rw [q2]; decide), Or.inl ⟨q3, rfl⟩⟩
  · obtain ⟨r, r1, r2⟩ := inW b2 q2
    exact ⟨r, r1, kR_of b5 r2⟩
  · exact ⟨-1, inN (by rw [q2]; decide), Or.inl ⟨q3, rfl⟩⟩
  · exact ⟨-1, inN (by rw [q2]; decide), Or.inl ⟨q3, rfl⟩⟩
theorem rdR.wd {L s : Nat} {C M : mz_D} (h : rdR L s C M) (hk : ¬ C.1 0 2 2 = -1) : C.1 0 2 6 = 1 ∧ M.1 0 200 12 = 2 := by
  obtain ⟨t, h2, h3, h5, h6, h7, h8⟩ := h
  rcases h8 with ⟨q1, q2, q3, -⟩ | ⟨q1, q2, q3⟩ | ⟨e, a1, a2, a3, a4, ⟨q1, q2, w, b1, b2, b3, b4, b5⟩ | ⟨q1, q2, q3, -⟩ | ⟨q1, q2, q3, -⟩⟩
  · exact absurd q3 hk
  · exact absurd q3 hk
  · exact ⟨q1, q2⟩
  · exact absurd q3 hk
  · exact absurd q3 hk
theorem rdR.advK {L s : Nat} {C M : mz_D} (h : rdR L s C M) (hk : ¬ C.1 0 2 2 = -1) : ∃ s' C' M', s < s' ∧ fX5_advance C = some C' ∧ fX12_ahead M = some M' ∧ rdR L s' C' M' ∧ aC C C' ∧ pM M M' :=
  h.adv (by rw [(h.wd hk).1]; decide) (by rw [(h.wd hk).1]; decide)
theorem rdR.ovr {L s : Nat} {C M : mz_D} (h : rdR L s C M) : (C.1 0 2 6 = 0 ∧ M.1 0 200 12 = 0 ∧ s = L) ∨ (¬ C.1 0 2 6 = 0 ∧ ¬ M.1 0 200 12 = 0) := by
  obtain ⟨t, h2, h3, h5, h6, h7, h8⟩ := h
  rcases h8 with ⟨q1, q2, q3, q4⟩ | ⟨q1, q2, q3⟩ | ⟨e, a1, a2, a3, a4, ⟨q1, q2, -⟩ | ⟨q1, q2, q3, -⟩ | ⟨q1, q2, q3, -⟩⟩
  · exact Or.inl ⟨q1, q2, q4⟩
  all_goals exact Or.inr ⟨by rw [q1]; decide, by rw [q2]; decide⟩
theorem rdR.bad {L s : Nat} {C M : mz_D} (h : rdR L s C M) : (C.1 0 2 6 = 4 ∧ M.1 0 200 12 = 1) ∨ (¬ C.1 0 2 6 = 4 ∧ ¬ M.1 0 200 12 = 1) := by
  obtain ⟨t, h2, h3, h5, h6, h7, h8⟩ := h
  rcases h8 with ⟨q1, q2, q3, q4⟩ | ⟨q1, q2, q3⟩ | ⟨e, a1, a2, a3, a4, ⟨q1, q2, -⟩ | ⟨q1, q2, q3, -⟩ | ⟨q1, q2, q3, -⟩⟩
  · exact Or.inr ⟨by rw [q1]; decide, by rw [q2]; decide⟩
  · exact Or.inl ⟨q1, q2⟩
  all_goals exact Or.inr ⟨by rw [q1]; decide, by rw [q2]; decide⟩
theorem rdR.nu {L s : Nat} {C M : mz_D} (h : rdR L s C M) : (C.1 0 2 6 = 2 ∧ M.1 0 200 12 = 3 ∧ ∃ v, v ≤ 9999 ∧ C.1 0 2 8 = nI v ∧ M.1 0 200 15 = nI v) ∨ (¬ C.1 0 2 6 = 2 ∧ ¬ M.1 0 200 12 = 3) := by
  obtain ⟨t, h2, h3, h5, h6, h7, h8⟩ := h
  rcases h8 with ⟨q1, q2, q3, q4⟩ | ⟨q1, q2, q3⟩ | ⟨e, a1, a2, a3, a4, ⟨q1, q2, -⟩ | ⟨q1, q2, q3, q4⟩ | ⟨q1, q2, q3, -⟩⟩
  · exact Or.inr ⟨by rw [q1]; decide, by rw [q2]; decide⟩
  · exact Or.inr ⟨by rw [q1]; decide, by rw [q2]; decide⟩
  · exact Or.inr ⟨by rw [q1]; decide, by rw [q2]; decide⟩
  · exact Or.inl ⟨q1, q2, q4⟩
  · exact Or.inr ⟨by rw [q1]; decide, by rw [q2]; decide⟩
theorem rdR.sg {L s : Nat} {C M : mz_D} (h : rdR L s C M) : (C.1 0 2 6 = 3 ∧ M.1 0 200 12 = 4 ∧ M.1 0 200 15 = C.1 0 2 8 ∧ (C.1 0 2 8 = 59 ∨ C.1 0 2 8 = 60 ∨ C.1 0 2 8 = 61 ∨ C.1 0 2 8 = 62)) ∨ (¬ C.1 0 2 6 = 3 ∧ ¬ M.1 0 200 12 = 4) := by
  obtain ⟨t, h2, h3, h5, h6, h7, h8⟩ := h
  rcases h8 with ⟨q1, q2, q3, q4⟩ | ⟨q1, q2, q3⟩ | ⟨e, a1, a2, a3, a4, ⟨q1, q2, -⟩ | ⟨q1, q2, q3, q4⟩ | ⟨q1, q2, q3, q4⟩⟩
  · exact Or.inr ⟨by rw [q1]; decide, by rw [q2]; decide⟩
  · exact Or.inr ⟨by rw [q1]; decide, by rw [q2]; decide⟩
  · exact Or.inr ⟨by rw [q1]; decide, by rw [q2]; decide⟩
  · exact Or.inr ⟨by rw [q1]; decide, by rw [q2]; decide⟩
  · exact Or.inl ⟨q1, q2, q4⟩
theorem rdR.isg {L s : Nat} {C M : mz_D} (h : rdR L s C M) (x : Int32) : fX5_isSign x C = fX12_isSign x M := by
  unfold fX5_isSign fX12_isSign
  rcases h.sg with ⟨q1, q2, q3, -⟩ | ⟨q1, q2⟩
  · rw [if_pos q1, if_pos q2, q3]
  · rw [if_neg q1, if_neg q2]
/-- both have told the same fault -/
def fl (C M : mz_D) : Prop := C.1 0 2 0 = M.1 0 200 18 ∧ ¬ M.1 0 200 18 ≤ 0 ∧ C.1 0 2 1 = M.1 0 200 17
theorem rdR.fail {L s : Nat} {C M : mz_D} (h : rdR L s C M) {k : Int32} (hk : ¬ k ≤ 0) : ∃ C' M', fX5_fail k C = some (0, C') ∧ fX12_fails k M = some (0, M') ∧ fl C' M' ∧ aC C C' ∧ aM M M' := by
  have hb := h.bad
  obtain ⟨t, h2, h3, h5, h6, h7, h8⟩ := h
  unfold fX5_fail fX12_fails
  rw [if_pos h6, h3, h5]
  rcases hb with ⟨q1, q2⟩ | ⟨q1, q2⟩
  · rw [if_pos q1, if_pos q2]
    refine ⟨_, _, rfl, rfl, ⟨?_, ?_, ?_⟩, (aC_wi (by omega)).tr (aC_wi (by omega)), (aM_wi (by omega)).tr (aM_wi (by omega))⟩
    · rw [wi_n (by omega), wi_s, wi_n (by omega), wi_s]
    · rw [wi_n (by omega), wi_s]; decide
    · rw [wi_s, wi_s]
  · rw [if_neg q1, if_neg q2]
    refine ⟨_, _, rfl, rfl, ⟨?_, ?_, ?_⟩, (aC_wi (by omega)).tr (aC_wi (by omega)), (aM_wi (by omega)).tr (aM_wi (by omega))⟩
    · rw [wi_n (by omega), wi_s, wi_n (by omega), wi_s]
    · rw [wi_n (by omega), wi_s]; exact hk
    · rw [wi_s, wi_s]
theorem sSem {L s : Nat} {C M : mz_D} (h : rdR L s C M) : (∃ s' C' M', s < s' ∧ fX5_takesSemicolon C = some (1, C') ∧ fX12_wantSign 59 M = some (1, M') ∧ rdR L s' C' M' ∧ aC C C' ∧ aM M M') ∨ (∃ C' M', fX5_takesSemicolon C = some (0, C') ∧ fX12_wantSign 59 M = some (0, M') ∧ fl C' M' ∧ aC C C' ∧ aM M M') := by
  unfold fX5_takesSemicolon fX12_wantSign
  rw [← h.isg]
  by_cases e : fX5_isSign 59 C = 0
  · obtain ⟨C', M', a1, a2, a3, a4, a5⟩ := h.fail (k := 2) (by decide)
    refine Or.inr ⟨C', M', ?_, ?_, a3, a4, a5⟩
    · rw [if_pos e, a1]; rfl
    · rw [if_pos e, a2]; rfl
  · have q1 : C.1 0 2 6 = 3 := by
      by_cases q : C.1 0 2 6 = 3
      · exact q
      · exact absurd (by unfold fX5_isSign; rw [if_neg q]) e
    obtain ⟨s', C', M', a0, a1, a2, a3, a4, a5⟩ := h.adv (by rw [q1]; decide) (by rw [q1]; decide)
    refine Or.inl ⟨s', C', M', a0, ?_, ?_, a3, a4, a5.a⟩
    · rw [if_neg e, a1]; rfl
    · rw [if_neg e, a2]; rfl
def aT (t : Nat) (M M' : mz_D) : Prop := ∀ g o j, ¬ (g = 0 ∧ ((o = 200 ∧ ((12 ≤ j ∧ j ≤ 15) ∨ j = 17 ∨ j = 18)) ∨ (o = 201 ∧ j = t))) → M'.1 g o j = M.1 g o j ∧ M'.2 g o j = M.2 g o j
theorem aM.t {t : Nat} {D E : mz_D} (h : aM D E) : aT t D E := fun g o j hn => h g o j (by omega)
theorem aT_wi {t : Nat} {D : mz_D} {v : Int32} : aT t D (mz_wi D 0 201 t v) := fun a b c hn => ⟨wi_n (by omega), rfl⟩
theorem aT.tr {t : Nat} {D E F : mz_D} (h : aT t D E) (k : aT t E F) : aT t D F := fun g o j hn => ⟨(k g o j hn).1.trans (h g o j hn).1, (k g o j hn).2.trans (h g o j hn).2⟩
theorem qM_wi {D : mz_D} {o j : Nat} {v : Int32} (h : (o = 200 → j < 11 ∨ 18 < j) ∧ o ≠ 207) : qM D (mz_wi D 0 o j v) := ⟨fun i h1 h2 => wi_n (by omega), fun i => wi_n (by omega)⟩
theorem sNum {L s : Nat} {C M : mz_D} (h : rdR L s C M) {a b t : Nat} (ha : a < 100000) (hb : b < 100000) (ht : t < 3000) : (∃ v s' C' M', a ≤ v ∧ v ≤ b ∧ s < s' ∧ fX5_takeNumber (nI a) (nI b) C = some (nI v, C') ∧ fX12_number (nI t) (nI a) (nI b) M = some (1, M') ∧ M'.1 0 201 t = nI v ∧ rdR L s' C' M' ∧ aC C C' ∧ aT t M M') ∨ (∃ C' M', fX5_takeNumber (nI a) (nI b) C = some (-1, C') ∧ fX12_number (nI t) (nI a) (nI b) M = some (0, M') ∧ fl C' M' ∧ aC C C' ∧ aT t M M') := by
  unfold fX5_takeNumber fX12_number
  rcases h.nu with ⟨q1, q2, v, v1, v2, v3⟩ | ⟨q1, q2⟩
  · rw [if_pos q1, if_pos q2, v2, v3]
    by_cases e : a ≤ v ∧ v ≤ b
    · obtain ⟨s', C', M', a0, a1, a2, a3, a4, a5⟩ := (h.fr qC.rf (qM_wi (D := M) (o := 201) (j := t) (v := nI v) (by omega))).adv (by rw [q1]; decide) (by rw [q1]; decide)
      refine Or.inl ⟨v, s', C', M', e.1, e.2, a0, ?_, ?_, ?_, a3, a4, aT_wi.tr a5.a.t⟩
      · rw [if_neg (by rw [nJ_lt (by omega) (by omega)]; omega), if_pos (by rw [nJ_le (by omega) (by omega)]; omega), a1]; rfl
      · rw [if_neg (by rw [nJ_lt (by omega) (by omega)]; omega), if_pos (by rw [nJ_le (by omega) (by omega)]; omega), nI_ix ht (by omega), gd_tt, nI_cl (by omega), a2]; rfl
      · rw [(a5 _ _ _ (by omega)).1, wi_s]
    · obtain ⟨C', M', a1, a2, a3, a4, a5⟩ := h.fail (k := 4) (by decide)
      have b1 : fX5_takeNumber_32 C = some (-1, C') := by unfold fX5_takeNumber_32; rw [a1]; rfl
      have b2 : fX12_number_30 M = some (0, M') := by unfold fX12_number_30; rw [a2]; rfl
      refine Or.inr ⟨C', M', ?_, ?_, a3, a4, a5.t⟩
      · by_cases e1 : v < a
        · rw [if_pos (by rw [nJ_lt (by omega) (by omega)]; omega), b1]
        · rw [if_neg (by rw [nJ_lt (by omega) (by omega)]; omega), if_neg (by rw [nJ_le (by omega) (by omega)]; omega), b1]
      · by_cases e1 : v < a
        · rw [if_pos (by rw [nJ_lt (by omega) (by omega)]; omega), b2]
        · rw [if_neg (by rw [nJ_lt (by omega) (by omega)]; omega), if_neg (by rw [nJ_le (by omega) (by omega)]; omega), b2]
  · obtain ⟨C', M', a1, a2, a3, a4, a5⟩ := h.fail (k := 2) (by decide)
    refine Or.inr ⟨C', M', ?_, ?_, a3, a4, a5.t⟩
    · rw [if_neg q1, a1]; rfl
    · rw [if_neg q2, a2]; rfl
theorem sWord {L s : Nat} {C M : mz_D} (h : rdR L s C M) {a b : Nat} (hb : b < 29) (hab : pm b = a) : (∃ s' C' M', s < s' ∧ fX5_takes (nI a) C = some (1, C') ∧ fX12_wantWord (nI b) M = some (1, M') ∧ rdR L s' C' M' ∧ aC C C' ∧ aM M M') ∨ (∃ C' M', fX5_takes (nI a) C = some (0, C') ∧ fX12_wantWord (nI b) M = some (0, M') ∧ fl C' M' ∧ aC C C' ∧ aM M M') := by
  have ha : a < 29 := by rw [← hab]; exact (pm_q b hb).1
  obtain ⟨km, k1, k2⟩ := h.key
  have k3 := k2.iff hb hab
  unfold fX5_takes fX12_wantWord
  rw [k1, Option.bind_some]
  by_cases e : C.1 0 2 2 = nI a
  · obtain ⟨s', C', M', a0, a1, a2, a3, a4, a5⟩ := h.advK (by rw [e]; exact fun q => (nI_ne1 (by omega)).mp q)
    refine Or.inl ⟨s', C', M', a0, ?_, ?_, a3, a4, a5.a⟩
    · rw [if_pos e, a1]; rfl
    · rw [if_pos (k3.mp e), a2]; rfl
  · obtain ⟨C', M', a1, a2, a3, a4, a5⟩ := h.fail (k := 2) (by decide)
    refine Or.inr ⟨C', M', ?_, ?_, a3, a4, a5⟩
    · rw [if_neg e, a1]; rfl
    · rw [if_neg (fun q => e (k3.mpr q)), a2]; rfl
theorem sThere {L s : Nat} {C M : mz_D} (h : rdR L s C M) {a b : Nat} (hb : b < 29) (hab : pm b = a) : (C.1 0 2 2 = nI a ∧ ∃ s' C' M', s < s' ∧ fX5_advance C = some C' ∧ fX12_isThere (nI b) M = some (1, M') ∧ rdR L s' C' M' ∧ aC C C' ∧ aM M M') ∨ (¬ C.1 0 2 2 = nI a ∧ fX12_isThere (nI b) M = some (0, M)) := by
  have ha : a < 29 := by rw [← hab]; exact (pm_q b hb).1
  obtain ⟨km, k1, k2⟩ := h.key
  have k3 := k2.iff hb hab
  unfold fX12_isThere
  rw [k1, Option.bind_some]
  by_cases e : C.1 0 2 2 = nI a
  · obtain ⟨s', C', M', a0, a1, a2, a3, a4, a5⟩ := h.advK (by rw [e]; exact fun q => (nI_ne1 (by omega)).mp q)
    refine Or.inl ⟨e, s', C', M', a0, a1, ?_, a3, a4, a5.a⟩
    rw [if_pos (k3.mp e), a2]; rfl
  · refine Or.inr ⟨e, ?_⟩
    rw [if_neg (fun q => e (k3.mpr q))]
/-! names -/
theorem rdR.nm {L s : Nat} {C M : mz_D} (h : rdR L s C M) : (fX5_isName C = 0 ∧ fX12_isName M = some 0) ∨ (fX5_isName C = 1 ∧ fX12_isName M = some 1 ∧ C.1 0 2 6 = 1 ∧ ∃ w, ltr w ∧ 0 < w.length ∧ w.length ≤ 8 ∧ C.2 0 2 9 = c5 w ∧ fX12_nameHere M = some (c8 w)) := by
  obtain ⟨km, k1, k2⟩ := h.key
  have k3 := k2.no
  obtain ⟨t, h2, h3, h5, h6, h7, h8⟩ := h
  have hL := t.1
  unfold fX5_isName fX12_isName
  rw [k1, Option.bind_some]
  rcases h8 with ⟨q1, q2, q3, -⟩ | ⟨q1, q2, q3⟩ | ⟨e, a1, a2, a3, a4, ⟨q1, q2, w, b1, b2, b3, b4, b5⟩ | ⟨q1, q2, q3, -⟩ | ⟨q1, q2, q3, -⟩⟩
  · exact Or.inl ⟨if_neg (by rw [q1]; decide), if_neg (by rw [q2]; decide)⟩
  · exact Or.inl ⟨if_neg (by rw [q1]; decide), if_neg (by rw [q2]; decide)⟩
  · rw [if_pos q1, if_pos q2, a3, a4, h3, h5, n_sub (by omega)]
    have hx : ((8 : Int32) < nI (e - s)) ↔ 8 < e - s := nJ_lt (a := 8) (by omega) (by omega)
    by_cases f : 8 < e - s
    · rw [if_pos (hx.mpr f), if_pos (hx.mpr f)]
      by_cases g : C.1 0 2 2 = -1
      · rw [if_pos g]; exact Or.inl ⟨rfl, rfl⟩
      · rw [if_neg g]; exact Or.inl ⟨rfl, rfl⟩
    · rw [if_neg (fun q => f (hx.mp q)), if_neg (fun q => f (hx.mp q))]
      by_cases g : C.1 0 2 2 = -1
      · rw [if_pos g, if_pos (k3.mp g)]
        exact Or.inr ⟨rfl, rfl, q1, w, b2.1, b1, by omega, b4, nmM b2⟩
      · rw [if_neg g, if_neg (fun q => g (k3.mpr q))]; exact Or.inl ⟨rfl, rfl⟩
  · exact Or.inl ⟨if_neg (by rw [q1]; decide), if_neg (by rw [q2]; decide)⟩
  · exact Or.inl ⟨if_neg (by rw [q1]; decide), if_neg (by rw [q2]; decide)⟩
/-- the names of the people, in both -/
def pl (g nb m : Nat) (C M : mz_D) : Prop := m ≤ 6 ∧ nb ≤ 24 ∧ C.1 g 101 0 = nI m ∧ ∀ p, p < m → nmR (C.2 g 102 p) (M.2 0 202 (nb + p))
theorem findL {g nb m : Nat} {C M : mz_D} (h : pl g nb m C M) {w : List Nat} (hw : ltr w) (h8 : w.length ≤ 8) (hN : fX12_nameHere M = some (c8 w)) : ∀ d k n1 n2, k + d = m → d < n1 → d < n2 → (fX4_find_2 g C n1 (c5 w) (nI k) = some (-1) ∧ fX12_findHere_2 M n2 (nI nb) (nI m) (nI k) = some (-1)) ∨ ∃ p, p < m ∧ fX4_find_2 g C n1 (c5 w) (nI k) = some (nI p) ∧ fX12_findHere_2 M n2 (nI nb) (nI m) (nI k) = some (nI p) := by
  obtain ⟨hm, hnb, hc, hn⟩ := h
  intro d
  induction d with
  | zero =>
    intro k n1 n2 h hn1 hn2
    obtain ⟨n1, rfl⟩ : ∃ n', n1 = n' + 1 := ⟨n1 - 1, by omega⟩
    obtain ⟨n2, rfl⟩ : ∃ n', n2 = n' + 1 := ⟨n2 - 1, by omega⟩
    have e : k = m := by omega
    subst e
    refine Or.inl ⟨?_, ?_⟩
    · rw [fX4_find_2]
      dsimp only
      rw [hc, if_pos (Int32.le_refl _)]
    · rw [fX12_findHere_2]
      dsimp only
      rw [if_pos (Int32.le_refl _)]
  | succ d ih =>
    intro k n1 n2 h hn1 hn2
    obtain ⟨n1, rfl⟩ : ∃ n', n1 = n' + 1 := ⟨n1 - 1, by omega⟩
    obtain ⟨n2, rfl⟩ : ∃ n', n2 = n' + 1 := ⟨n2 - 1, by omega⟩
    have hk : k < m := by omega
    have q := nmq (hn k hk) hw h8
    rw [fX4_find_2, fX12_findHere_2]
    dsimp only
    have hmk : ¬ nI m ≤ nI k := by
      rw [nJ_le (by omega) (by omega)]
      omega
    rw [hc, if_neg hmk, if_neg hmk, nI_ix (show k < 6 by omega) (by omega), gd_tt, nI_cl (by omega), nI_add, nI_ix (show nb + k < 36 by omega) (by omega), gd_tt, hN, Option.bind_some, nI_cl (by omega), a1r]
    by_cases e : lg_cmp (C.2 g 102 k) (c5 w) = 0
    · rw [if_pos e, if_pos (q.mp e)]
      exact Or.inr ⟨k, hk, rfl, rfl⟩
    · rw [if_neg e, if_neg (fun x => e (q.mpr x))]
      exact ih (k + 1) n1 n2 (by omega) (by omega) (by omega)
theorem sWho {L s g nb m : Nat} {C M : mz_D} (h : rdR L s C M) (hp : pl g nb m C M) : (fX5_isName C = 0 ∧ fX12_isName M = some 0) ∨ (fX5_isName C = 1 ∧ fX12_isName M = some 1 ∧ C.1 0 2 6 = 1 ∧ fX4_find g (C.2 0 2 9) C = some (-1) ∧ fX12_findHere (nI nb) (nI m) M = some (-1)) ∨ (∃ p, p < m ∧ fX5_isName C = 1 ∧ fX12_isName M = some 1 ∧ C.1 0 2 6 = 1 ∧ fX4_find g (C.2 0 2 9) C = some (nI p) ∧ fX12_findHere (nI nb) (nI m) M = some (nI p)) := by
  have hm := hp.1
  rcases h.nm with h1 | ⟨h1, h2, h3, w, w1, w2, w3, w4, w5⟩
  · exact Or.inl h1
  · rw [w4]
    rcases findL hp w1 w3 w5 m 0 mz_N mz_N (by omega) (N_lt (by omega)) (N_lt (by omega)) with ⟨a, b⟩ | ⟨p, p1, a, b⟩
    · exact Or.inr (Or.inl ⟨h1, h2, h3, a, b⟩)
    · exact Or.inr (Or.inr ⟨p, p1, h1, h2, h3, a, b⟩)
/-- the class at a name; what it is in the reference -/
theorem here0 {g : Nat} {C C' : mz_D} (h : fX5_isName C = 0) (hf : fX5_fail 2 C = some (0, C')) : fX5_personHere g C = some (-1, C') := by
  unfold fX5_personHere
  rw [if_pos h, hf]; rfl
theorem here1 {g : Nat} {C C' : mz_D} (h : fX5_isName C = 1) (h2 : fX4_find g (C.2 0 2 9) C = some (-1)) (hf : fX5_fail 3 C = some (0, C')) : fX5_personHere g C = some (-1, C') := by
  unfold fX5_personHere
  rw [if_neg (by rw [h]; decide), h2, Option.bind_some, if_pos rfl, hf]; rfl
theorem here2 {g p : Nat} {C : mz_D} (h : fX5_isName C = 1) (h2 : fX4_find g (C.2 0 2 9) C = some (nI p)) (hp : p < 6) : fX5_personHere g C = some (nI p, C) := by
  unfold fX5_personHere
  rw [if_neg (by rw [h]; decide), h2, Option.bind_some, if_neg (fun q => (nI_ne1 (by omega)).mp q)]
theorem old0 {nb m t : Nat} {M M' : mz_D} (h : fX12_isName M = some 0) (hf : fX12_fails 2 M = some (0, M')) : fX12_oldOne (nI nb) (nI m) (nI t) M = some (0, M') := by
  unfold fX12_oldOne
  rw [h, Option.bind_some, if_pos rfl, hf]; rfl
theorem old1 {nb m t : Nat} {M M' : mz_D} (ht : t < 3000) (h : fX12_isName M = some 1) (h2 : fX12_findHere (nI nb) (nI m) M = some (-1)) (hf : fX12_fails 3 (mz_wi M 0 201 t (-1)) = some (0, M')) : fX12_oldOne (nI nb) (nI m) (nI t) M = some (0, M') := by
  unfold fX12_oldOne
  rw [h, Option.bind_some, if_neg one_ne, h2, Option.bind_some, nI_ix ht (by omega), gd_tt, nI_cl (by omega), wi_s, if_pos rfl, hf]; rfl
theorem old2 {nb m t p : Nat} {M M' : mz_D} (ht : t < 3000) (hp : p < 6) (h : fX12_isName M = some 1) (h2 : fX12_findHere (nI nb) (nI m) M = some (nI p)) (hf : fX12_ahead (mz_wi M 0 201 t (nI p)) = some M') : fX12_oldOne (nI nb) (nI m) (nI t) M = some (1, M') := by
  unfold fX12_oldOne
  rw [h, Option.bind_some, if_neg one_ne, h2, Option.bind_some, nI_ix ht (by omega), gd_tt, nI_cl (by omega), wi_s, if_neg (fun q => (nI_ne1 (by omega)).mp q), hf]; rfl
theorem sPer {L s g nb m t : Nat} {C M : mz_D} (h : rdR L s C M) (hp : pl g nb m C M) (ht : t < 3000) : (∃ p s' C' M', p < m ∧ s < s' ∧ fX5_takePerson g C = some (nI p, C') ∧ fX12_oldOne (nI nb) (nI m) (nI t) M = some (1, M') ∧ M'.1 0 201 t = nI p ∧ rdR L s' C' M' ∧ aC C C' ∧ aT t M M') ∨ (∃ C' M', fX5_takePerson g C = some (-1, C') ∧ fX12_oldOne (nI nb) (nI m) (nI t) M = some (0, M') ∧ fl C' M' ∧ aC C C' ∧ aT t M M') := by
  have hm := hp.1
  unfold fX5_takePerson
  rcases sWho h hp with ⟨h1, h2⟩ | ⟨h1, h2, h3, h4, h5⟩ | ⟨p, p1, h1, h2, h3, h4, h5⟩
  · obtain ⟨C', M', a1, a2, a3, a4, a5⟩ := h.fail (k := 2) (by decide)
    refine Or.inr ⟨C', M', ?_, old0 h2 a2, a3, a4, a5.t⟩
    rw [here0 h1 a1, Option.bind_some, if_pos rfl]
  · obtain ⟨C', M', a1, a2, a3, a4, a5⟩ := (h.fr qC.rf (qM_wi (D := M) (o := 201) (j := t) (v := -1) (by omega))).fail (k := 3) (by decide)
    refine Or.inr ⟨C', M', ?_, old1 ht h2 h5 a2, a3, a4, aT_wi.tr a5.t⟩
    rw [here1 h1 h4 a1, Option.bind_some, if_pos rfl]
  · obtain ⟨s', C', M', a0, a1, a2, a3, a4, a5⟩ := (h.fr qC.rf (qM_wi (D := M) (o := 201) (j := t) (v := nI p) (by omega))).adv (by rw [h3]; decide) (by rw [h3]; decide)
    refine Or.inl ⟨p, s', C', M', p1, a0, ?_, old2 ht (by omega) h2 h5 a2, by rw [(a5 _ _ _ (by omega)).1, wi_s], a3, a4, aT_wi.tr a5.a.t⟩
    rw [here2 h1 h4 (by omega), Option.bind_some, if_neg (fun q => (nI_ne1 (by omega)).mp q), a1]; rfl
theorem sOth {L s g nb m t f p0 : Nat} {C M : mz_D} (h : rdR L s C M) (hp : pl g nb m C M) (ht : t < 3000) (hf : f < 3000) (h0 : M.1 0 201 f = nI p0) (hp0 : p0 < 6) : (∃ p s' C' M', p < m ∧ p ≠ p0 ∧ s < s' ∧ fX5_takeOther g (nI p0) C = some (nI p, C') ∧ fX12_otherOne (nI nb) (nI m) (nI f) (nI t) M = some (1, M') ∧ M'.1 0 201 t = nI p ∧ rdR L s' C' M' ∧ aC C C' ∧ aT t M M') ∨ (∃ C' M', fX5_takeOther g (nI p0) C = some (-1, C') ∧ fX12_otherOne (nI nb) (nI m) (nI f) (nI t) M = some (0, M') ∧ fl C' M' ∧ aC C C' ∧ aT t M M') := by
  have hm := hp.1
  unfold fX5_takeOther fX12_otherOne fX12_otherOne_30
  rcases sWho h hp with ⟨h1, h2⟩ | ⟨h1, h2, h3, h4, h5⟩ | ⟨p, p1, h1, h2, h3, h4, h5⟩
  · obtain ⟨C', M', a1, a2, a3, a4, a5⟩ := h.fail (k := 2) (by decide)
    refine Or.inr ⟨C', M', ?_, ?_, a3, a4, a5.t⟩
    · rw [here0 h1 a1, Option.bind_some, if_pos rfl]
    · rw [h2, Option.bind_some, if_pos rfl, old0 h2 a2]; rfl
  · obtain ⟨C', M', a1, a2, a3, a4, a5⟩ := (h.fr qC.rf (qM_wi (D := M) (o := 201) (j := t) (v := -1) (by omega))).fail (k := 3) (by decide)
    refine Or.inr ⟨C', M', ?_, ?_, a3, a4, aT_wi.tr a5.t⟩
    · rw [here1 h1 h4 a1, Option.bind_some, if_pos rfl]
    · rw [h2, Option.bind_some, if_neg one_ne, h5, Option.bind_some, nI_ix hf (by omega), gd_tt, nI_cl (by omega), h0, if_neg (fun q => (nI_ne1' (by omega)).mp q), old1 ht h2 h5 a2]; rfl
  · by_cases e : p = p0
    · obtain ⟨C', M', a1, a2, a3, a4, a5⟩ := h.fail (k := 5) (by decide)
      refine Or.inr ⟨C', M', ?_, ?_, a3, a4, a5.t⟩
      · rw [here2 h1 h4 (by omega), Option.bind_some, if_neg (fun q => (nI_ne1 (by omega)).mp q), if_pos (by rw [e]), a1]; rfl
      · rw [h2, Option.bind_some, if_neg one_ne, h5, Option.bind_some, nI_ix hf (by omega), gd_tt, nI_cl (by omega), h0, if_pos (by rw [e]), a2]; rfl
    · obtain ⟨s', C', M', a0, a1, a2, a3, a4, a5⟩ := (h.fr qC.rf (qM_wi (D := M) (o := 201) (j := t) (v := nI p) (by omega))).adv (by rw [h3]; decide) (by rw [h3]; decide)
      have ne : ¬ nI p = nI p0 := by rw [nJ_eq (by omega) (by omega)]; exact e
      refine Or.inl ⟨p, s', C', M', p1, e, a0, ?_, ?_, by rw [(a5 _ _ _ (by omega)).1, wi_s], a3, a4, aT_wi.tr a5.a.t⟩
      · rw [here2 h1 h4 (by omega), Option.bind_some, if_neg (fun q => (nI_ne1 (by omega)).mp q), if_neg ne, a1]; rfl
      · rw [h2, Option.bind_some, if_neg one_ne, h5, Option.bind_some, nI_ix hf (by omega), gd_tt, nI_cl (by omega), h0, if_neg ne, old2 ht (by omega) h2 h5 a2]; rfl
