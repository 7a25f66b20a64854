/-! ===== table ===== -/
theorem q_txt {n : Nat} {D : mz_D} {fc fm : mz_D → Option (Int32 × mz_D)} (h : Inv n D) (J : ∀ E, iR n D E → ∃ r D1 F, fc D = some (r, D1) ∧ fm E = some (r, F) ∧ eM D D1 ∧ eC E F ∧ iR (n + 1) D1 F) : ∃ (r : Int32) (D1 D2 : mz_D), fc D = some (r, D1) ∧ fm D1 = some (r, D2) ∧ Inv (n + 1) D2 := by
  obtain ⟨r, D1, F, e1, -, m1, -, -⟩ := J D h
  obtain ⟨r', D1', F', e1', e2', -, c', i'⟩ := J D1 (iR.cells h eC.rf m1)
  rw [e1] at e1'
  cases e1'
  exact ⟨r, D1, F', e1, e2', i'.cells c' eM.rf⟩
theorem iR.txt {n n' : Nat} {Dc Dm Dc' Dm' : mz_D} (h : iR n Dc Dm) (hn : n ≤ n') (hc : ∀ g o j, ¬ (sCq g o j ∨ (g = 1 ∧ 100 ≤ o ∧ o < 127) ∨ (g = 0 ∧ o = 0 ∧ (j = 1 ∨ j = 13 ∨ j = 16 ∨ j = 17))) → Dc'.1 g o j = Dc.1 g o j ∧ Dc'.2 g o j = Dc.2 g o j) (hm : ∀ g o j, ¬ (sMq g o j ∨ (o = 201 ∧ j < 500) ∨ (o = 202 ∧ j < 6) ∨ (o = 200 ∧ (j = 2 ∨ j = 10 ∨ j = 16 ∨ j = 17))) → Dm'.1 g o j = Dm.1 g o j ∧ Dm'.2 g o j = Dm.2 g o j) (s : Dm'.1 0 200 2 = Dc'.1 0 0 13) (fk : Dm'.1 0 200 16 = Dc'.1 0 0 16) (fp : Dm'.1 0 200 17 = Dc'.1 0 0 17) (tp : Dm'.1 0 200 10 = 0 ∧ Dc'.1 0 0 1 = 0) (ht : ∃ m d gs ins, tR n' 1 0 0 Dc' Dm' m d gs ins) : iR n' Dc' Dm' := iR.mk
  (status := s)
  (top := by rw [(hc _ _ _ (by unfold sCq; omega)).2, (hm _ _ _ (by unfold sMq; omega)).2]; exact h.top)
  (bottom := by rw [(hc _ _ _ (by unfold sCq; omega)).2, (hm _ _ _ (by unfold sMq; omega)).2]; exact h.bottom)
  (fk := fk)
  (fp := fp)
  (taped := ⟨0, by omega, tp.1, tp.2⟩)
  (tape := fun j hj => by rw [(hc _ _ _ (by unfold sCq; omega)).1, (hm _ _ _ (by unfold sMq; omega)).1]; exact h.tape j hj)
  (trays := fun t ht => (h.trays t ht).congr ht (fun o j h1 h2 => hc _ _ _ (by unfold sCq; omega)) (fun o j h1 h2 => hm _ _ _ (by unfold sMq; omega)))
  (lived := by rw [(hc _ _ _ (by unfold sCq; omega)).1, (hm _ _ _ (by unfold sMq; omega)).1]; exact h.lived)
  (told := fun j hj => by rw [(hc _ _ _ (by unfold sCq; omega)).1, (hm _ _ _ (by unfold sMq; omega)).1]; exact h.told j hj)
  (keys := by
    rw [← h.keys]
    funext j
    exact (hc _ _ _ (by unfold sCq; omega)).2)
  (table := ht)
  (marks := by
    obtain ⟨mk, h1, h2, h3, h4⟩ := h.marks
    refine ⟨mk, h1, by rw [(hm _ _ _ (by unfold sMq; omega)).1]; exact h2, by rw [(hc _ _ _ (by unfold sCq; omega)).1]; exact h3, fun i hi => ?_⟩
    obtain ⟨m, d, gs, ins, ht⟩ := h4 i hi
    exact ⟨m, d, gs, ins, (ht.congr (fun o j hq => hc _ _ _ (by unfold tq at hq; unfold sCq; omega)) (fun j hj => (hm _ _ _ (by unfold sMq; omega)).1) (fun p hp => (hm _ _ _ (by unfold sMq; omega)).2)).mono hn⟩)
theorem fill_118 (g : Nat) (D : mz_D) : fJ7_fill_53178_118 g 0 D = some (wr D g 118 (fun i => if i < 6 then 0 else D.1 g 118 i)) := by
  have := lpD (fun n s k => fJ7_fill_53178_118_5 g n 0 k (nI 6) s) (fun k => wr D g 118 (fun i => if i < k then 0 else D.1 g 118 i)) 6 (r := some (wr D g 118 (fun i => if i < 6 then 0 else D.1 g 118 i))) (fun n k hk => by
    show fJ7_fill_53178_118_5 g (n + 1) 0 (nI k) (nI 6) _ = _
    rw [fJ7_fill_53178_118_5]
    simp (disch := omega) only [nJ_le, nI_ix, gd_tt, nI_cl, a1r, wr_up]
    rw [if_neg (by omega), fill_up D g 118 k 0 6 hk]) (fun n => by
    show fJ7_fill_53178_118_5 g (n + 1) 0 (nI 6) (nI 6) _ = _
    rw [fJ7_fill_53178_118_5]
    dsimp only
    rw [if_pos (Int32.le_refl _)]) 6 0 mz_N rfl (N_lt (by omega))
  rw [show (fun i => if i < 0 then 0 else D.1 g 118 i) = D.1 g 118 from by funext i; exact if_neg (by omega), wr_id] at this
  exact this
/-- an empty table, in the class -/
theorem clr2 (D : mz_D) : ∃ E, fX6_clear 2 D = some E ∧ (∀ j, j < 3 → E.1 2 101 j = 0) ∧ (∀ j, j < 2 → E.1 2 109 j = 0) ∧ (∀ j, j < 36 → E.1 2 114 j = 0) ∧ (∀ j, j < 2 → E.1 2 117 j = 0) ∧ (∀ j, j < 6 → E.1 2 118 j = 0) ∧ (∀ j, j < 2 → E.1 2 119 j = 0) ∧ E.1 2 100 5 = 0 ∧ E.1 2 100 6 = 0 ∧ (∀ g o j, ¬ (g = 2 ∧ 100 ≤ o ∧ o < 127) → E.1 g o j = D.1 g o j) ∧ E.2 = D.2 := by
  unfold fX6_clear fX2_clear fX0_clear
  rw [fill_114, Option.bind_some, Option.bind_some, fill_118, Option.bind_some, Option.bind_some]
  refine ⟨_, rfl, fun j hj => ?_, fun j hj => ?_, fun j hj => ?_, fun j hj => ?_, fun j hj => ?_, fun j hj => ?_, ?_, ?_, fun g o j hn => ?_, rfl⟩
  · have : j = 0 ∨ j = 1 ∨ j = 2 := by omega
    rcases this with rfl | rfl | rfl <;> simp (disch := omega) only [wr_n, wi_s, wi_n]
  · have : j = 0 ∨ j = 1 := by omega
    rcases this with rfl | rfl <;> simp (disch := omega) only [wr_n, wi_s, wi_n]
  · simp (disch := omega) only [wr_s, wr_n, wi_n]
    exact if_pos hj
  · have : j = 0 ∨ j = 1 := by omega
    rcases this with rfl | rfl <;> simp (disch := omega) only [wr_n, wi_s, wi_n]
  · simp (disch := omega) only [wr_s, wi_n]
    exact if_pos hj
  · have : j = 0 ∨ j = 1 := by omega
    rcases this with rfl | rfl <;> simp (disch := omega) only [wi_s, wi_n]
  · simp (disch := omega) only [wi_s, wi_n]
  · simp (disch := omega) only [wi_s]
  · simp (disch := omega) only [wr_n, wi_n]
/-- an empty table, in the reference's new slot -/
theorem pln2 (D : mz_D) : ∃ E, fX12_plain (2000 : Int32) D = some E ∧ E.1 0 201 2009 = -1 ∧ (∀ j, j < 500 → j ≠ 9 → E.1 0 201 (2000 + j) = 0) ∧ (∀ g o j, ¬ (g = 0 ∧ o = 201 ∧ 2000 ≤ j) → E.1 g o j = D.1 g o j) ∧ E.2 = D.2 := by
  have := lpD (fun n s k => fX12_plain_2 n (2000 : Int32) k s) (fun k => wr D 0 201 (fun i => if 2000 ≤ i ∧ i < 2000 + k then 0 else D.1 0 201 i)) 500 (r := some (mz_wi (wr D 0 201 (fun i => if 2000 ≤ i ∧ i < 2000 + 500 then 0 else D.1 0 201 i)) 0 201 2009 (-1))) (fun n k hk => by
    show fX12_plain_2 (n + 1) (2000 : Int32) (nI k) _ = _
    rw [fX12_plain_2]
    simp (disch := omega) only [a2000l, nI_ix, gd_tt, nI_cl, a1r, wr_up]
    rw [if_neg (by show ¬ nI 500 ≤ nI k; rw [nJ_le (by omega) (by omega)]; omega)]
    congr 2
    funext i
    unfold up
    by_cases e : i = 2000 + k
    · rw [if_pos e, if_pos (by omega)]
    · rw [if_neg e]
      dsimp only
      by_cases e2 : 2000 ≤ i ∧ i < 2000 + k
      · rw [if_pos e2, if_pos (by omega)]
      · rw [if_neg e2, if_neg (by omega)]) (fun n => by
    show fX12_plain_2 (n + 1) (2000 : Int32) (nI 500) _ = _
    rw [fX12_plain_2]
    dsimp only
    rw [if_pos (by decide)]
    rfl) 500 0 mz_N rfl (N_lt (by omega))
  rw [show (fun i => if 2000 ≤ i ∧ i < 2000 + 0 then 0 else D.1 0 201 i) = D.1 0 201 from by funext i; exact if_neg (by omega), wr_id] at this
  refine ⟨_, this, wi_s _ _ _ _ _, fun j h1 h2 => ?_, fun g o j hn => ?_, rfl⟩
  · rw [wi_n (by omega), wr_s, if_pos (by omega)]
  · rw [wi_n (by omega), wr_1]
    by_cases e : o = 201 ∧ g = 0
    · rw [if_pos e, if_neg (by omega), e.1, e.2]
    · rw [if_neg e]
/-- the text, copied -/
theorem begM {D : mz_D} {L t : Nat} {mo : Int32} (h1 : D.1 0 200 10 = nI t) (ht : t ≤ 900) (hL : L ≤ t) (hmo : nI L ≤ mo) (hb : ∀ j, j < 900 → bd (D.1 0 206 j) (-128) 127) : ∃ M1, fX12_begins (nI L) mo D = (Option.bind (fX12_ahead M1) fun q2 => (some ((1 : Int32), q2))) ∧ M1.1 0 200 11 = nI L ∧ M1.1 0 200 10 = 0 ∧ M1.1 0 200 18 = 0 ∧ M1.1 0 200 17 = -1 ∧ M1.1 0 200 14 = 0 ∧ (∀ j, j < L → M1.1 0 207 j = D.1 0 206 j) ∧ (∀ g o j, ¬ (g = 0 ∧ ((o = 200 ∧ (j = 10 ∨ j = 11 ∨ j = 14 ∨ j = 17 ∨ j = 18 ∨ j = 19)) ∨ o = 207)) → M1.1 g o j = D.1 g o j) ∧ M1.2 = D.2 := by
  have := lpD (fun n s k => fX12_begins_26 n (nI L) k s) (fun k => wr (mz_wi D 0 200 11 (nI L)) 0 207 (fun i => if i < k then D.1 0 206 i else D.1 0 207 i)) L (r := (Option.bind (fX12_ahead (mz_wi (mz_wi (mz_wi (mz_wi (mz_wi (wr (mz_wi D 0 200 11 (nI L)) 0 207 (fun i => if i < L then D.1 0 206 i else D.1 0 207 i)) 0 200 10 (0 : Int32)) 0 200 18 (0 : Int32)) 0 200 17 (-1 : Int32)) 0 200 14 (0 : Int32)) 0 200 19 (0 : Int32))) fun q2 => (some ((1 : Int32), q2)))) (fun n k hk => by
    show fX12_begins_26 (n + 1) (nI L) (nI k) _ = _
    rw [fX12_begins_26]
    dsimp only
    rw [if_neg (by rw [nJ_le (by omega) (by omega)]; omega), nI_ix (show k < 900 by omega) (by omega), gd_tt, nI_cl (by omega), a1r, wr_n (Or.inl (by decide)), wi_n (by omega), (bytS (hb k (by omega))).2.2.2.2.2.2.2, wr_up]
    congr 2
    funext i
    unfold up
    by_cases e : i = k
    · rw [if_pos e, if_pos (by omega), e]
    · rw [if_neg e]
      dsimp only
      by_cases e2 : i < k
      · rw [if_pos e2, if_pos (by omega)]
      · rw [if_neg e2, if_neg (by omega)]) (fun n => by
    show fX12_begins_26 (n + 1) (nI L) (nI L) _ = _
    rw [fX12_begins_26]
    dsimp only
    rw [if_pos (Int32.le_refl _)]) L 0 mz_N (by omega) (N_lt (by omega))
  have e0 : wr (mz_wi D 0 200 11 (nI L)) 0 207 (fun i => if i < 0 then D.1 0 206 i else D.1 0 207 i) = mz_wi D 0 200 11 (nI L) := by
    rw [show (fun i => if i < 0 then D.1 0 206 i else D.1 0 207 i) = (mz_wi D 0 200 11 (nI L)).1 0 207 from by funext i; rw [if_neg (by omega), wi_n (by omega)], wr_id]
  rw [e0] at this
  refine ⟨mz_wi (mz_wi (mz_wi (mz_wi (mz_wi (wr (mz_wi D 0 200 11 (nI L)) 0 207 (fun i => if i < L then D.1 0 206 i else D.1 0 207 i)) 0 200 10 (0 : Int32)) 0 200 18 (0 : Int32)) 0 200 17 (-1 : Int32)) 0 200 14 (0 : Int32)) 0 200 19 (0 : Int32), ?_, ?_, ?_, ?_, ?_, ?_, fun j hj => ?_, fun g o j hn => ?_, rfl⟩
  · unfold fX12_begins
    rw [if_neg (fun q => (nI_neg (by omega)).mp q), h1, if_neg (by rw [nJ_lt (by omega) (by omega)]; omega), if_pos hmo]
    exact this
  · simp (disch := omega) only [wr_n, wi_s, wi_n]
  · simp (disch := omega) only [wr_n, wi_s, wi_n]
  · simp (disch := omega) only [wr_n, wi_s, wi_n]
  · simp (disch := omega) only [wr_n, wi_s, wi_n]
  · simp (disch := omega) only [wr_n, wi_s, wi_n]
  · simp (disch := omega) only [wr_s, wi_n]
    exact if_pos hj
  · simp (disch := omega) only [wr_n, wi_n]
