/-! ===== live ===== -/
theorem iR.tell {n : Nat} {Dc Dm Dc' Dm' : mz_D} (h : iR n Dc Dm) (hc : ∀ g o j, ¬ (g = 0 ∧ ((o = 0 ∧ j = 10) ∨ o = 13)) → Dc'.1 g o j = Dc.1 g o j) (hc2 : Dc'.2 = Dc.2) (hm : ∀ g o j, ¬ (g = 0 ∧ ((o = 200 ∧ j = 33) ∨ o = 214)) → Dm'.1 g o j = Dm.1 g o j) (hm2 : Dm'.2 = Dm.2) (l : Dm'.1 0 200 33 = Dc'.1 0 0 10) (td : ∀ k, k < 5 → Dm'.1 0 214 k = Dc'.1 0 13 k) : iR n Dc' Dm' := iR.mk
  (status := by rw [hc _ _ _ (by omega), hm _ _ _ (by omega)]; exact h.status)
  (top := by rw [hc2, hm2]; exact h.top)
  (bottom := by rw [hc2, hm2]; exact h.bottom)
  (fk := by rw [hc _ _ _ (by omega), hm _ _ _ (by omega)]; exact h.fk)
  (fp := by rw [hc _ _ _ (by omega), hm _ _ _ (by omega)]; exact h.fp)
  (taped := by rw [hc _ _ _ (by omega), hm _ _ _ (by omega)]; exact h.taped)
  (tape := fun j hj => by rw [hc _ _ _ (by omega), hm _ _ _ (by omega)]; exact h.tape j hj)
  (trays := fun t ht => (h.trays t ht).congr ht (fun o j h1 h2 => ⟨hc _ _ _ (by omega), by rw [hc2]⟩) (fun o j h1 h2 => ⟨hm _ _ _ (by omega), by rw [hm2]⟩))
  (lived := l)
  (told := td)
  (keys := by rw [hc2]; exact h.keys)
  (table := by
    obtain ⟨m, d, gs, ins, t⟩ := h.table
    exact ⟨m, d, gs, ins, t.congr (fun o j hq => ⟨hc _ _ _ (by unfold tq at hq; omega), by rw [hc2]⟩) (fun j _ => hm _ _ _ (by omega)) (fun p _ => by rw [hm2])⟩)
  (marks := by
    obtain ⟨mk, h1, h2, h3, h4⟩ := h.marks
    refine ⟨mk, h1, by rw [hm _ _ _ (by omega)]; exact h2, by rw [hc _ _ _ (by omega)]; exact h3, fun i hi => ?_⟩
    obtain ⟨m, d, gs, ins, t⟩ := h4 i hi
    exact ⟨m, d, gs, ins, t.congr (fun o j hq => ⟨hc _ _ _ (by unfold tq at hq; omega), by rw [hc2]⟩) (fun j _ => hm _ _ _ (by omega)) (fun p _ => by rw [hm2])⟩)
theorem live43 {D : mz_D} : fX12_live_43 mz_N 0 D = some (D.1 0 200 29, mz_wi (mz_wi (wr D 0 214 (fun j => if j < 5 then D.1 0 213 j else D.1 0 214 j)) 0 200 33 1) 0 200 2 0) := by
  have e0 : wr D 0 214 (fun j => if j < 0 then D.1 0 213 j else D.1 0 214 j) = D := by
    have : (fun j => if j < 0 then D.1 0 213 j else D.1 0 214 j) = D.1 0 214 := by funext j; exact if_neg (by omega)
    rw [this, wr_id]
  have := lpD (fun n s k => fX12_live_43 n k s) (fun k => wr D 0 214 (fun j => if j < k then D.1 0 213 j else D.1 0 214 j)) 5 (r := some (D.1 0 200 29, mz_wi (mz_wi (wr D 0 214 (fun j => if j < 5 then D.1 0 213 j else D.1 0 214 j)) 0 200 33 1) 0 200 2 0)) (fun n k hk => by
    show fX12_live_43 (n + 1) (nI k) (wr D 0 214 (fun j => if j < k then D.1 0 213 j else D.1 0 214 j)) = fX12_live_43 n (nI (k + 1)) (wr D 0 214 (fun j => if j < k + 1 then D.1 0 213 j else D.1 0 214 j))
    rw [fX12_live_43]
    dsimp only
    rw [if_neg (by show ¬ nI 5 ≤ nI k; rw [nJ_le (by omega) (by omega)]; omega), nI_ix (by omega) (by omega), gd_tt, nI_cl (by omega), a1r, wr_n (Or.inl (by decide)), wr_up]
    congr 2
    funext j
    unfold up
    by_cases e : j = k
    · rw [if_pos e, if_pos (by omega), e]
    · rw [if_neg e]
      dsimp only
      by_cases e2 : j < k
      · rw [if_pos e2, if_pos (by omega)]
      · rw [if_neg e2, if_neg (by omega)]) (fun n => by
    show fX12_live_43 (n + 1) (nI 5) (wr D 0 214 (fun j => if j < 5 then D.1 0 213 j else D.1 0 214 j)) = _
    rw [fX12_live_43]
    dsimp only
    rw [if_pos (by decide), wr_n (Or.inl (by decide))]) 5 0 mz_N (by omega) (N_lt (by omega))
  have this : fX12_live_43 mz_N 0 (wr D 0 214 (fun j => if j < 0 then D.1 0 213 j else D.1 0 214 j)) = _ := this
  rw [e0] at this
  exact this
theorem tell13 {D : mz_D} (h : D.1 0 9 5 = 0 ∨ D.1 0 9 5 = 1) : ∃ T, fX3_tellTo_13 D = some T ∧ (∀ g o j, ¬ (g = 0 ∧ o = 13) → T.1 g o j = D.1 g o j) ∧ T.2 = D.2 ∧ T.1 0 13 0 = D.1 0 9 1 ∧ T.1 0 13 1 = D.1 0 9 2 ∧ T.1 0 13 2 = D.1 0 9 3 ∧ T.1 0 13 3 = D.1 0 9 4 ∧ T.1 0 13 4 = D.1 0 9 5 := by
  refine ⟨mz_wi (mz_wi (mz_wi (mz_wi (mz_wi D 0 13 0 (D.1 0 9 1)) 0 13 1 (D.1 0 9 2)) 0 13 2 (D.1 0 9 3)) 0 13 3 (D.1 0 9 4)) 0 13 4 (D.1 0 9 5), ?_, fun g o j h => ?_, rfl, ?_, ?_, ?_, ?_, ?_⟩
  · unfold fX3_tellTo_13
    rw [z0, z1, z2, z3, z4]
    rcases h with h | h
    · rw [if_pos h, h]
    · rw [if_neg (by rw [h]; exact one_ne), h]
  · rw [wi_n (by omega), wi_n (by omega), wi_n (by omega), wi_n (by omega), wi_n (by omega)]
  · simp (disch := omega) only [wi_s, wi_n]
  · simp (disch := omega) only [wi_s, wi_n]
  · simp (disch := omega) only [wi_s, wi_n]
  · simp (disch := omega) only [wi_s, wi_n]
  · simp (disch := omega) only [wi_s]
theorem p_op58 : op_58 Inv := by
  intro n D x1 hn h
  obtain ⟨m, d, gs, ins, t⟩ := iR.t h
  have F1 : fX12_isFrom x1.toInt64 0 9999 = if x1 < 0 ∨ 9999 < x1 then 0 else 1 := rng rfl rfl x1
  by_cases hx : x1 < 0 ∨ 9999 < x1
  · refine q_look h (r := -1) (v := 1) ?_ (fun E he => by unfold fX12_live; rw [F1, if_pos hx, if_pos rfl])
    unfold fX11_live
    by_cases h1 : x1 < 0
    · rw [if_pos h1]
    · rw [if_neg h1, if_neg (by rcases hx with h | h; exact absurd h h1; exact Int32.not_le.mpr h)]
  · have k1 : ¬ x1 < 0 := fun e => hx (Or.inl e)
    have k2 : x1 ≤ 9999 := Int32.not_lt.mp (fun e => hx (Or.inr e))
    rcases t.year with ⟨y1, y2⟩ | ⟨y1, N, S, c, e, enc, y2, -, Y⟩
    · refine q_look h (r := -1) (v := 6) (by unfold fX11_live; rw [if_neg k1, if_pos k2, y1, if_pos rfl]) (fun E he => ?_)
      unfold fX12_live
      rw [F1, if_neg hx, if_neg one_ne, z9, (he _ _ _ (by omega) (by omega)).1]
      have y2 : D.1 0 201 9 = -1 := y2
      rw [y2, if_pos rfl]
    · obtain ⟨z, hz, rfl⟩ := nJ_of (Int32.not_lt.mp k1)
      have hz2 : z ≤ 9999 := (nJ_le hz (by omega)).mp k2
      obtain ⟨Dc, _, _, r1, -, v1, -, s, -, -, s3, -, s5⟩ := liveS n10 hn t y1 (z := z) (by omega)
      have s5' : Dc.1 0 9 5 = 0 ∨ Dc.1 0 9 5 = 1 := by rcases s5 with h | h; exact Or.inl h.1; exact Or.inr h.1
      obtain ⟨T, t0, t1, t2, t3, t4, t5, t6, t7⟩ := tell13 s5'
      have C0 : fX11_live (nI z) D = some (nI s, mz_wi (mz_wi T 0 0 10 1) 0 0 13 0) := by
        unfold fX11_live
        rw [if_neg k1, if_pos k2, y1, if_neg one_ne, r1, Option.bind_some, t0, Option.bind_some, t1 _ _ _ (by omega), s3]
      have hE : eM D (mz_wi (mz_wi T 0 0 10 1) 0 0 13 0) := fun g o j h1 h2 => ⟨by rw [wi_n (by omega), wi_n (by omega), t1 _ _ _ (by omega), v1.1 _ _ _ (by omega)], by show T.2 g o j = _; rw [t2, v1.2]⟩
      obtain ⟨Dc', Dm, v, r1', r2, -, u1, s', a1, a2, a3, a4, a5⟩ := liveS n10 hn (t.m hE) y1 (z := z) (by omega)
      rw [r1] at r1'
      cases r1'
      have ss : nI s' = nI s := by rw [← a3, s3]
      refine ⟨nI s, _, mz_wi (mz_wi (wr Dm 0 214 (fun j => if j < 5 then Dm.1 0 213 j else Dm.1 0 214 j)) 0 200 33 1) 0 200 2 0, C0, ?_, ?_⟩
      · unfold fX12_live
        have n9 : ¬ (mz_wi (mz_wi T 0 0 10 1) 0 0 13 0).1 0 201 9 = -1 := by
          have y2 : D.1 0 201 9 = nI N := y2
          have := Y.hN
          rw [(hE _ _ _ (by omega) (by omega)).1, y2]
          exact fun e => (nI_ne1 (by omega)).mp e
        rw [F1, if_neg hx, if_neg one_ne, z9, if_neg n9, r2, Option.bind_some, live43, a4, ss]
      · have b1 : iR n D (mz_wi (mz_wi T 0 0 10 1) 0 0 13 0) := iR.cells h eC.rf hE
        have kc : kC D Dc := fun g o j hn' => ⟨v1.1 _ _ _ (fun q => hn' (by unfold sCq; omega)), by rw [v1.2]⟩
        have km : kM (mz_wi (mz_wi T 0 0 10 1) 0 0 13 0) Dm := fun g o j hn' => ⟨u1.1 _ _ _ (fun q => hn' (by unfold sMq; omega)), by rw [u1.2]⟩
        have b2 : iR (n + 1) Dc Dm := b1.tab (Nat.le_succ n) kc km ⟨m, d, gs, ins, a2.1⟩
        obtain ⟨-, -, -, -, ⟨c0, c1, c2, c3⟩, -⟩ := a2
        have b3 : iR (n + 1) (mz_wi T 0 0 10 1) (mz_wi (wr Dm 0 214 (fun j => if j < 5 then Dm.1 0 213 j else Dm.1 0 214 j)) 0 200 33 1) := by
          refine b2.tell (fun g o j h => by rw [wi_n (by omega), t1 _ _ _ (by omega)]) t2 (fun g o j h => by rw [wi_n (by omega), wr_n (by omega)]) rfl (by rw [wi_s, wi_s]) (fun k hk => ?_)
          rw [wi_n (by omega), wi_n (by omega), wr_s, if_pos hk]
          have : k = 0 ∨ k = 1 ∨ k = 2 ∨ k = 3 ∨ k = 4 := by omega
          rcases this with rfl | rfl | rfl | rfl | rfl
          · rw [t3, c0]
          · rw [t4, c1]
          · rw [t5, c2]
          · rw [t6, c3]
          · rw [t7]
            rcases a5 with ⟨p, q⟩ | ⟨p, q⟩
            · rw [p, q]
            · rw [p, q]
        refine (b3.stat 0).cells (fun g o j ho => ⟨?_, ?_⟩) eM.rf
        · rw [wi_n (by omega), wi_n (by omega), wr_n (by omega), u1.1 _ _ _ (by omega)]
        · show Dm.2 g o j = _
          rw [u1.2]
