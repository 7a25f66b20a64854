/-! ===== texts: debts, split, law ===== -/
theorem sDebt {n L s : Nat} {C M : mz_D} (hs : st n L s C M) (hk : ¬ C.1 0 2 2 = -1) : prt n L s C M (fX7_takesDebt C) (fX12_aDebt M) := by
  obtain ⟨h, m, d, gs, a, b, B, ha, hb, f20, f2, f3⟩ := hs
  have hm := B.hm
  have mm := B.mm
  obtain ⟨s1, C1, M1, l1, e1, e2, e3, e4, e5⟩ := h.advK hk
  have P1 : pl 2 24 m C1 M1 := B.pl.fr (by rw [(e4 _ _ _ (by omega)).1]) (fun p hp => by rw [(e4 _ _ _ (by omega)).2]) (fun p hp => by rw [(e5 _ _ _ (by omega)).2])
  unfold prt
  rcases sPer e3 P1 (t := 2495) (by omega) with ⟨p, s2, C2, M2, p1, l2, x1, x2, x3, x4, x5, x6⟩ | ⟨C', M', x1, x2, x3, x4, x5⟩
  · have np : ¬ nI p = (-1 : Int32) := fun z => (nI_ne1 (by omega)).mp z
    have x2 : fX12_oldOne (24 : Int32) (nI m) (2495 : Int32) M1 = some (1, M2) := x2
    have P2 : pl 2 24 m C2 M2 := P1.fr (by rw [(x5 _ _ _ (by omega)).1]) (fun p hp => by rw [(x5 _ _ _ (by omega)).2]) (fun p hp => by rw [(x6 _ _ _ (by omega)).2])
    rcases sOth x4 P2 (t := 2496) (f := 2495) (p0 := p) (by omega) (by omega) x3 (by omega) with ⟨q, s3, C3, M3, q1, qp, l3, y1, y2, y3, y4, y5, y6⟩ | ⟨C', M', y1, y2, y3, y4, y5⟩
    · have nq : ¬ nI q = (-1 : Int32) := fun z => (nI_ne1 (by omega)).mp z
      have y2 : fX12_otherOne (24 : Int32) (nI m) (2495 : Int32) (2496 : Int32) M2 = some (1, M3) := y2
      have z95 : M3.1 0 201 2495 = nI p := by rw [(y6 _ _ _ (by omega)).1, x3]
      have ix : ((2092 : Int32) + (6 : Int32) * nI p) + nI q = nI (2092 + 6 * p + q) := by
        rw [l6m, show (2092 : Int32) + nI (6 * p) = nI (2092 + 6 * p) from nI_add 2092 (6 * p), nI_add]
      have RM : ∀ y, (Option.bind (fX12_number (nI (2092 + 6 * p + q)) (nI 0) (nI 9999) M3) fun q6 => (mz_gd (mz_bo q6.1) (some (q6.1, q6.2)))) = y → fX12_aDebt M = y := by
        intro y hy
        unfold fX12_aDebt
        rw [t2000, mm, e2, Option.bind_some, x2, Option.bind_some, if_neg one_ne, y2, Option.bind_some, if_neg one_ne, t2495, t2496, z95, y3, ix]
        exact hy
      have RC : ∀ y, (Option.bind (fX5_takeNumber (nI 0) (nI 9999) C3) fun q6 => (if q6.1 = (-1 : Int32) then (some ((0 : Int32), q6.2)) else (Option.bind (fX2_put 2 (nI p) (nI q) q6.1 q6.2) fun q8 => (some ((1 : Int32), q8))))) = y → fX7_takesDebt C = y := by
        intro y hy
        unfold fX7_takesDebt
        rw [e1, Option.bind_some, x1, Option.bind_some, if_neg np, y1, Option.bind_some, if_neg nq]
        exact hy
      rcases sNum y4 (a := 0) (b := 9999) (t := 2092 + 6 * p + q) (by omega) (by omega) (by omega) with ⟨v, s4, C4, M4, v1, v2, l4, z1, z2, z3, z4, z5, z6⟩ | ⟨C', M', z1, z2, z3, z4, z5⟩
      · have nv : ¬ nI v = (-1 : Int32) := fun z => (nI_ne1 (by omega)).mp z
        have Pt : fX2_put 2 (nI p) (nI q) (nI v) C4 = some (mz_wi C4 2 114 (p * 6 + q) (nI v)) := by
          unfold fX2_put
          rw [r6m, nI_add, nI_ix (by omega) (by omega), gd_tt, nI_cl (by omega)]
        have fc : aC C C4 := ((e4.tr x5).tr y5).tr z5
        have fc' : ∀ o j, C4.1 2 o j = C.1 2 o j := fun o j => (fc 2 o j (by omega)).1
        have fm : ∀ g o j, ¬ (g = 0 ∧ (o = 200 ∨ (o = 201 ∧ (j = 2495 ∨ j = 2496 ∨ j = 2092 + 6 * p + q)))) → M4.1 g o j = M.1 g o j ∧ M4.2 g o j = M.2 g o j := fun g o j hn => by
          rw [(z6 _ _ _ (by omega)).1, (z6 _ _ _ (by omega)).2, (y6 _ _ _ (by omega)).1, (y6 _ _ _ (by omega)).2, (x6 _ _ _ (by omega)).1, (x6 _ _ _ (by omega)).2]
          exact e5 _ _ _ (by omega)
        have A := B.1.oneDebt p1 q1 (v := nI v) (by unfold bd; rw [nI_toInt (by omega)]; omega)
        refine ⟨mz_wi C4 2 114 (p * 6 + q) (nI v), M4, fc.b.tr (bC_wi (by omega)), ((e5.a.b.tr (x6.b (by omega))).tr (y6.b (by omega))).tr (z6.b (by omega)), Or.inl ⟨RC _ ?_, RM _ ?_, s4, by omega, z4.fr (qC_wi (by omega)) qM.rf, m, d, gs, a, b, ⟨A.cp4 (fun o j hq => ?_) (fun j hj => ?_) (fun j hj => ?_) (fun i hi => ?_), ?_, ?_, ?_, ?_, ?_⟩, ha, hb, ?_, ?_, ?_⟩⟩
        · rw [z1, Option.bind_some, if_neg nv, Pt]; rfl
        · rw [z2]; rfl
        · simp only [wi_1, fc', true_and, and_true]
          repeat' split
          all_goals first | rfl | omega
        · simp only [wi_2]
          exact (fc _ _ _ (by omega)).2
        · rw [sh_1, Nat.zero_add]
          by_cases j2 : j = 92 + 6 * p + q
          · subst j2
            rw [wi_s, show 2000 + (92 + 6 * p + q) = 2092 + 6 * p + q by omega, z3]
          · rw [wi_n (by omega), sh_1, (fm _ _ _ (by omega)).1]
        · rw [sh_2, wi_2, sh_2, (fm _ _ _ (by omega)).2]
        · rw [wi_n (by omega), fc']; exact B.2.1
        · rw [(fm _ _ _ (by omega)).1]; exact B.2.2.1
        · rw [wi_n (by omega), fc']; exact B.2.2.2.1
        · intro i h1 h2
          rw [(fm _ _ _ (by omega)).1, (fm _ _ _ (by omega)).1, (fm _ _ _ (by omega)).1, (fm _ _ _ (by omega)).1, (fm _ _ _ (by omega)).1]
          exact B.2.2.2.2.1 i h1 h2
        · intro i hi
          rw [wi_n (by omega), fc']; exact B.2.2.2.2.2 i hi
        · rw [(z6 _ _ _ (by omega)).1, (y6 _ _ _ (by omega)).1, (x6 _ _ _ (by omega)).1, (e5 _ _ _ (by omega)).1]; exact f20
        · rw [wi_n (by omega), (fc _ _ _ (by omega)).1]; exact f2
        · rw [wi_n (by omega), (fc _ _ _ (by omega)).1]; exact f3
      · refine ⟨C', M', (((e4.tr x5).tr y5).tr z4).b, ((e5.a.b.tr (x6.b (by omega))).tr (y6.b (by omega))).tr (z5.b (by omega)), Or.inr ⟨RC _ ?_, RM _ ?_, z3⟩⟩
        · rw [z1, Option.bind_some, if_pos rfl]
        · rw [z2]; rfl
    · have y2 : fX12_otherOne (24 : Int32) (nI m) (2495 : Int32) (2496 : Int32) M2 = some (0, M') := y2
      refine ⟨C', M', ((e4.tr x5).tr y4).b, (e5.a.b.tr (x6.b (by omega))).tr (y5.b (by omega)), Or.inr ⟨?_, ?_, y3⟩⟩
      · unfold fX7_takesDebt
        rw [e1, Option.bind_some, x1, Option.bind_some, if_neg np, y1, Option.bind_some, if_pos rfl]
      · unfold fX12_aDebt
        rw [t2000, mm, e2, Option.bind_some, x2, Option.bind_some, if_neg one_ne, y2, Option.bind_some, if_pos rfl]
  · have x2 : fX12_oldOne (24 : Int32) (nI m) (2495 : Int32) M1 = some (0, M') := x2
    refine ⟨C', M', (e4.tr x4).b, e5.a.b.tr (x5.b (by omega)), Or.inr ⟨?_, ?_, x3⟩⟩
    · unfold fX7_takesDebt
      rw [e1, Option.bind_some, x1, Option.bind_some, if_pos rfl]
    · unfold fX12_aDebt
      rw [t2000, mm, e2, Option.bind_some, x2, Option.bind_some, if_pos rfl]
theorem tb4 : ∀ a, a < 2 → ∀ b, b < 2 → (((nI (16 * a + 32 * b) >>> ((4 : Int32) &&& 31)) &&& (1 : Int32) = 1 ↔ a = 1) ∧ ((nI (16 * a + 32 * b) >>> ((5 : Int32) &&& 31)) &&& (1 : Int32) = 1 ↔ b = 1) ∧ (a = 0 → nI (16 * a + 32 * b) ||| ((1 : Int32) <<< ((4 : Int32) &&& 31)) = nI (16 * 1 + 32 * b)) ∧ (b = 0 → nI (16 * a + 32 * b) ||| ((1 : Int32) <<< ((5 : Int32) &&& 31)) = nI (16 * a + 32 * 1))) := by decide +kernel
theorem spE {n L s m d gs : Nat} {C1 M1 : mz_D} (h1 : rdR L s C1 M1) (B : tB n m d gs C1 M1) (hk : ¬ C1.1 0 2 2 = -1) {x : Int32} (hx : x = 0 ∨ x = 1 ∨ x = 2) : ∃ s' C' M', s < s' ∧ fX7_takesSplit_111 (mz_wi C1 2 109 1 x) = some (1, C') ∧ fX12_once_121 (4 : Int32) x M1 = some (1, M') ∧ rdR L s' C' M' ∧ tB n m d gs C' M' ∧ bC C1 C' ∧ bM M1 M' ∧ (∀ j, C'.1 0 300 j = C1.1 0 300 j) ∧ M'.1 0 200 20 = M1.1 0 200 20 := by
  have nx : ¬ x = (-1 : Int32) := by rcases hx with rfl | rfl | rfl <;> decide
  have r0 : rdR L s (mz_wi C1 2 109 1 x) (mz_wi M1 0 201 2003 x) := h1.fr (qC_wi (by omega)) (qM_wi (by omega))
  obtain ⟨s', C', M', l, e1, e2, e3, e4, e5⟩ := r0.advK (by rw [wi_n (by omega)]; exact hk)
  have A := B.1.setSplit hx
  have fc' : ∀ o j, C'.1 2 o j = (mz_wi C1 2 109 1 x).1 2 o j := fun o j => (e4 2 o j (by omega)).1
  have fm : ∀ j, M'.1 0 201 j = (mz_wi M1 0 201 2003 x).1 0 201 j := fun j => (e5 0 201 j (by omega)).1
  refine ⟨s', C', M', l, ?_, ?_, e3, ⟨A.cp4 (fun o j hq => ?_) (fun j hj => ?_) (fun j hj => ?_) (fun i hi => ?_), ?_, ?_, ?_, ?_, ?_⟩, (bC_wi (by omega)).tr e4.b, (bM_wi (by omega)).tr e5.a.b, fun j => ?_, ?_⟩
  · unfold fX7_takesSplit_111
    rw [e1]; rfl
  · unfold fX12_once_121 fX12_once_150
    rw [if_neg nx, if_pos rfl, show (2000 : Int32) + 3 = nI 2003 from rfl, nI_ix (by omega) (by omega), gd_tt, nI_cl (by omega), e2]; rfl
  · simp only [wi_1, fc', true_and, and_true]
    repeat' split
    all_goals first | rfl | omega
  · simp only [wi_2]
    rw [(e4 _ _ _ (by omega)).2, wi_2]
  · rw [sh_1, Nat.zero_add, fm]
    by_cases j2 : j = 3
    · subst j2
      rw [wi_s, wi_s]
    · rw [wi_n (by omega), wi_n (by omega), sh_1]
  · rw [sh_2, wi_2, sh_2, (e5 _ _ _ (by omega)).2, wi_2]
  · rw [fc', wi_n (by omega)]; exact B.2.1
  · rw [fm, wi_n (by omega)]; exact B.2.2.1
  · rw [fc', wi_n (by omega)]; exact B.2.2.2.1
  · intro i h1 h2
    rw [fm, fm, fm, fm, fm, wi_n (by omega), wi_n (by omega), wi_n (by omega), wi_n (by omega), wi_n (by omega)]
    exact B.2.2.2.2.1 i h1 h2
  · intro i hi
    rw [fc', wi_n (by omega)]; exact B.2.2.2.2.2 i hi
  · rw [(e4 _ _ _ (by omega)).1, wi_n (by omega)]
  · rw [(e5 _ _ _ (by omega)).1, wi_n (by omega)]
theorem lwE {n L s m d gs : Nat} {C1 M1 : mz_D} (h1 : rdR L s C1 M1) (B : tB n m d gs C1 M1) (hk : ¬ C1.1 0 2 2 = -1) {x : Int32} (hx : x = 0 ∨ x = 1 ∨ x = 2 ∨ x = 3) : ∃ s' C' M', s < s' ∧ fX7_takesLaw_129 (mz_wi C1 2 100 5 x) = some (1, C') ∧ fX12_once_121 (5 : Int32) x M1 = some (1, M') ∧ rdR L s' C' M' ∧ tB n m d gs C' M' ∧ bC C1 C' ∧ bM M1 M' ∧ (∀ j, C'.1 0 300 j = C1.1 0 300 j) ∧ M'.1 0 200 20 = M1.1 0 200 20 := by
  have nx : ¬ x = (-1 : Int32) := by rcases hx with rfl | rfl | rfl | rfl <;> decide
  have r0 : rdR L s (mz_wi C1 2 100 5 x) (mz_wi M1 0 201 2004 x) := h1.fr (qC_wi (by omega)) (qM_wi (by omega))
  obtain ⟨s', C', M', l, e1, e2, e3, e4, e5⟩ := r0.advK (by rw [wi_n (by omega)]; exact hk)
  have A := B.1.setLaw hx
  have fc' : ∀ o j, C'.1 2 o j = (mz_wi C1 2 100 5 x).1 2 o j := fun o j => (e4 2 o j (by omega)).1
  have fm : ∀ j, M'.1 0 201 j = (mz_wi M1 0 201 2004 x).1 0 201 j := fun j => (e5 0 201 j (by omega)).1
  refine ⟨s', C', M', l, ?_, ?_, e3, ⟨A.cp4 (fun o j hq => ?_) (fun j hj => ?_) (fun j hj => ?_) (fun i hi => ?_), ?_, ?_, ?_, ?_, ?_⟩, (bC_wi (by omega)).tr e4.b, (bM_wi (by omega)).tr e5.a.b, fun j => ?_, ?_⟩
  · unfold fX7_takesLaw_129
    rw [e1]; rfl
  · unfold fX12_once_121 fX12_once_150
    rw [if_neg nx, if_neg (by decide), show (2000 : Int32) + 4 = nI 2004 from rfl, nI_ix (by omega) (by omega), gd_tt, nI_cl (by omega), e2]; rfl
  · simp only [wi_1, fc', true_and, and_true]
    repeat' split
    all_goals first | rfl | omega
  · simp only [wi_2]
    rw [(e4 _ _ _ (by omega)).2, wi_2]
  · rw [sh_1, Nat.zero_add, fm]
    by_cases j2 : j = 4
    · subst j2
      rw [wi_s, wi_s]
    · rw [wi_n (by omega), wi_n (by omega), sh_1]
  · rw [sh_2, wi_2, sh_2, (e5 _ _ _ (by omega)).2, wi_2]
  · rw [fc', wi_n (by omega)]; exact B.2.1
  · rw [fm, wi_n (by omega)]; exact B.2.2.1
  · rw [fc', wi_n (by omega)]; exact B.2.2.2.1
  · intro i h1 h2
    rw [fm, fm, fm, fm, fm, wi_n (by omega), wi_n (by omega), wi_n (by omega), wi_n (by omega), wi_n (by omega)]
    exact B.2.2.2.2.1 i h1 h2
  · intro i hi
    rw [fc', wi_n (by omega)]; exact B.2.2.2.2.2 i hi
  · rw [(e4 _ _ _ (by omega)).1, wi_n (by omega)]
  · rw [(e5 _ _ _ (by omega)).1, wi_n (by omega)]
theorem sSplit {n L s : Nat} {C M : mz_D} (hs : st n L s C M) (hk : ¬ C.1 0 2 2 = -1) : prt n L s C M (fX7_takesSplit C) (fX12_once (4 : Int32) M) := by
  obtain ⟨h, m, d, gs, a, b, B, ha, hb, f20, f2, f3⟩ := hs
  obtain ⟨T1, -, T2, -⟩ := tb4 a (by omega) b (by omega)
  by_cases h6 : a = 1
  · obtain ⟨C', M', a1, a2, a3, a4, a5⟩ := h.fail (k := 5) (by decide)
    refine ⟨C', M', a4.b, a5.b, Or.inr ⟨?_, ?_, a3⟩⟩
    · unfold fX7_takesSplit
      rw [f2, if_neg (by rw [h6]; decide), a1]; rfl
    · unfold fX12_once
      rw [f20, if_pos (T1.mpr h6), a2]; rfl
  · have a0 : a = 0 := by omega
    have r0 : rdR L s (mz_wi C 0 300 2 1) (mz_wi M 0 200 20 (nI (16 * 1 + 32 * b))) := h.fr (qC_wi (by omega)) (qM_wi (by omega))
    obtain ⟨s1, C1, M1, l1, e1, e2, e3, e4, e5⟩ := r0.advK (by rw [wi_n (by omega)]; exact hk)
    have B1 : tB n m d gs C1 M1 := B.fr (fun o j h1 h2 => by rw [(e4 _ _ _ (by omega)).1, (e4 _ _ _ (by omega)).2, wi_n (by omega), wi_2]; exact ⟨rfl, rfl⟩) (fun j hj => by rw [(e5 _ _ _ (by omega)).1, wi_n (by omega)]) (fun p hp => by rw [(e5 _ _ _ (by omega)).2, wi_2])
    have g20 : M1.1 0 200 20 = nI (16 * 1 + 32 * b) := by rw [(e5 _ _ _ (by omega)).1, wi_s]
    have g2 : C1.1 0 300 2 = nI 1 := by rw [(e4 _ _ _ (by omega)).1, wi_s]; rfl
    have g3 : C1.1 0 300 3 = nI b := by rw [(e4 _ _ _ (by omega)).1, wi_n (by omega)]; exact f3
    have FC : bC C C1 := (bC_w3 (by omega)).tr e4.b
    have FM : bM M M1 := (bM_w2 (by omega)).tr e5.a.b
    obtain ⟨km, k1, k2⟩ := e3.key
    have K11 := k2.iff (a := 11) (b := 12) (by omega) (by decide)
    have K12 := k2.iff (a := 12) (b := 13) (by omega) (by decide)
    have K13 := k2.iff (a := 13) (b := 14) (by omega) (by decide)
    have K11 : C1.1 0 2 2 = (11 : Int32) ↔ km = (12 : Int32) := K11
    have K12 : C1.1 0 2 2 = (12 : Int32) ↔ km = (13 : Int32) := K12
    have K13 : C1.1 0 2 2 = (13 : Int32) ↔ km = (14 : Int32) := K13
    unfold fX7_takesSplit fX12_once
    rw [f2, if_pos (by rw [a0]; rfl), e1, Option.bind_some, f20, if_neg (fun q => h6 (T1.mp q)), T2 a0, e2, Option.bind_some, k1, Option.bind_some, if_pos rfl]
    by_cases q1 : C1.1 0 2 2 = (11 : Int32)
    · rw [if_pos q1, if_pos (K11.mp q1)]
      obtain ⟨s', C', M', x1, x2, x3, x4, x5, x6, x7, x8, x9⟩ := spE e3 B1 (by rw [q1]; decide) (x := 0) (Or.inl rfl)
      exact ⟨C', M', FC.tr x6, FM.tr x7, Or.inl ⟨x2, x3, s', by omega, x4, m, d, gs, 1, b, x5, by omega, hb, by rw [x9]; exact g20, by rw [x8]; exact g2, by rw [x8]; exact g3⟩⟩
    · rw [if_neg q1, if_neg (fun q => q1 (K11.mpr q))]
      by_cases q2 : C1.1 0 2 2 = (12 : Int32)
      · rw [if_pos q2, if_pos (K12.mp q2)]
        obtain ⟨s', C', M', x1, x2, x3, x4, x5, x6, x7, x8, x9⟩ := spE e3 B1 (by rw [q2]; decide) (x := 1) (Or.inr (Or.inl rfl))
        exact ⟨C', M', FC.tr x6, FM.tr x7, Or.inl ⟨x2, x3, s', by omega, x4, m, d, gs, 1, b, x5, by omega, hb, by rw [x9]; exact g20, by rw [x8]; exact g2, by rw [x8]; exact g3⟩⟩
      · rw [if_neg q2, if_neg (fun q => q2 (K12.mpr q))]
        by_cases q3 : C1.1 0 2 2 = (13 : Int32)
        · rw [if_pos q3, if_pos (K13.mp q3)]
          obtain ⟨s', C', M', x1, x2, x3, x4, x5, x6, x7, x8, x9⟩ := spE e3 B1 (by rw [q3]; decide) (x := 2) (Or.inr (Or.inr rfl))
          exact ⟨C', M', FC.tr x6, FM.tr x7, Or.inl ⟨x2, x3, s', by omega, x4, m, d, gs, 1, b, x5, by omega, hb, by rw [x9]; exact g20, by rw [x8]; exact g2, by rw [x8]; exact g3⟩⟩
        · rw [if_neg q3, if_neg (fun q => q3 (K13.mpr q))]
          obtain ⟨C', M', a1, a2, a3, a4, a5⟩ := e3.fail (k := 2) (by decide)
          refine ⟨C', M', FC.tr a4.b, FM.tr a5.b, Or.inr ⟨?_, ?_, a3⟩⟩
          · rw [a1]; rfl
          · unfold fX12_once_121
            rw [if_pos rfl, a2]; rfl
theorem sLaw {n L s : Nat} {C M : mz_D} (hs : st n L s C M) (hk : ¬ C.1 0 2 2 = -1) : prt n L s C M (fX7_takesLaw C) (fX12_once (5 : Int32) M) := by
  obtain ⟨h, m, d, gs, a, b, B, ha, hb, f20, f2, f3⟩ := hs
  obtain ⟨-, T1, -, T2⟩ := tb4 a (by omega) b (by omega)
  by_cases h6 : b = 1
  · obtain ⟨C', M', a1, a2, a3, a4, a5⟩ := h.fail (k := 5) (by decide)
    refine ⟨C', M', a4.b, a5.b, Or.inr ⟨?_, ?_, a3⟩⟩
    · unfold fX7_takesLaw
      rw [f3, if_neg (by rw [h6]; decide), a1]; rfl
    · unfold fX12_once
      rw [f20, if_pos (T1.mpr h6), a2]; rfl
  · have b0 : b = 0 := by omega
    have r0 : rdR L s (mz_wi C 0 300 3 1) (mz_wi M 0 200 20 (nI (16 * a + 32 * 1))) := h.fr (qC_wi (by omega)) (qM_wi (by omega))
    obtain ⟨s1, C1, M1, l1, e1, e2, e3, e4, e5⟩ := r0.advK (by rw [wi_n (by omega)]; exact hk)
    have B1 : tB n m d gs C1 M1 := B.fr (fun o j h1 h2 => by rw [(e4 _ _ _ (by omega)).1, (e4 _ _ _ (by omega)).2, wi_n (by omega), wi_2]; exact ⟨rfl, rfl⟩) (fun j hj => by rw [(e5 _ _ _ (by omega)).1, wi_n (by omega)]) (fun p hp => by rw [(e5 _ _ _ (by omega)).2, wi_2])
    have g20 : M1.1 0 200 20 = nI (16 * a + 32 * 1) := by rw [(e5 _ _ _ (by omega)).1, wi_s]
    have g3 : C1.1 0 300 3 = nI 1 := by rw [(e4 _ _ _ (by omega)).1, wi_s]; rfl
    have g2 : C1.1 0 300 2 = nI a := by rw [(e4 _ _ _ (by omega)).1, wi_n (by omega)]; exact f2
    have FC : bC C C1 := (bC_w3 (by omega)).tr e4.b
    have FM : bM M M1 := (bM_w2 (by omega)).tr e5.a.b
    obtain ⟨km, k1, k2⟩ := e3.key
    have K1 := k2.iff (a := 1) (b := 6) (by omega) (by decide)
    have K2 := k2.iff (a := 2) (b := 7) (by omega) (by decide)
    have K15 := k2.iff (a := 15) (b := 15) (by omega) (by decide)
    have K16 := k2.iff (a := 16) (b := 16) (by omega) (by decide)
    have K1 : C1.1 0 2 2 = (1 : Int32) ↔ km = (6 : Int32) := K1
    have K2 : C1.1 0 2 2 = (2 : Int32) ↔ km = (7 : Int32) := K2
    have K15 : C1.1 0 2 2 = (15 : Int32) ↔ km = (15 : Int32) := K15
    have K16 : C1.1 0 2 2 = (16 : Int32) ↔ km = (16 : Int32) := K16
    unfold fX7_takesLaw fX12_once
    rw [f3, if_pos (by rw [b0]; rfl), e1, Option.bind_some, f20, if_neg (fun q => h6 (T1.mp q)), T2 b0, e2, Option.bind_some, k1, Option.bind_some, if_neg (show ¬ (5 : Int32) = 4 by decide)]
    by_cases q15 : C1.1 0 2 2 = (15 : Int32)
    · rw [if_neg (by rw [q15]; decide), if_neg (by rw [q15]; decide), if_pos q15, if_pos (K15.mp q15)]
      obtain ⟨s', C', M', x1, x2, x3, x4, x5, x6, x7, x8, x9⟩ := lwE e3 B1 (by rw [q15]; decide) (x := 0) (Or.inl rfl)
      exact ⟨C', M', FC.tr x6, FM.tr x7, Or.inl ⟨x2, x3, s', by omega, x4, m, d, gs, a, 1, x5, ha, by omega, by rw [x9]; exact g20, by rw [x8]; exact g2, by rw [x8]; exact g3⟩⟩
    · rw [if_neg q15, if_neg (fun q => q15 (K15.mpr q))]
      by_cases q16 : C1.1 0 2 2 = (16 : Int32)
      · rw [if_neg (by rw [q16]; decide), if_neg (by rw [q16]; decide), if_pos q16, if_pos (K16.mp q16)]
        obtain ⟨s', C', M', x1, x2, x3, x4, x5, x6, x7, x8, x9⟩ := lwE e3 B1 (by rw [q16]; decide) (x := 1) (Or.inr (Or.inl rfl))
        exact ⟨C', M', FC.tr x6, FM.tr x7, Or.inl ⟨x2, x3, s', by omega, x4, m, d, gs, a, 1, x5, ha, by omega, by rw [x9]; exact g20, by rw [x8]; exact g2, by rw [x8]; exact g3⟩⟩
      · rw [if_neg q16, if_neg (fun q => q16 (K16.mpr q))]
        by_cases q2 : C1.1 0 2 2 = (2 : Int32)
        · rw [if_neg (by rw [q2]; decide), if_pos q2, if_pos (K2.mp q2)]
          obtain ⟨s', C', M', x1, x2, x3, x4, x5, x6, x7, x8, x9⟩ := lwE e3 B1 (by rw [q2]; decide) (x := 2) (Or.inr (Or.inr (Or.inl rfl)))
          exact ⟨C', M', FC.tr x6, FM.tr x7, Or.inl ⟨x2, x3, s', by omega, x4, m, d, gs, a, 1, x5, ha, by omega, by rw [x9]; exact g20, by rw [x8]; exact g2, by rw [x8]; exact g3⟩⟩
        · rw [if_neg q2, if_neg (fun q => q2 (K2.mpr q))]
          by_cases q1 : C1.1 0 2 2 = (1 : Int32)
          · rw [if_pos q1, if_pos (K1.mp q1)]
            obtain ⟨s', C', M', x1, x2, x3, x4, x5, x6, x7, x8, x9⟩ := lwE e3 B1 (by rw [q1]; decide) (x := 3) (Or.inr (Or.inr (Or.inr rfl)))
            exact ⟨C', M', FC.tr x6, FM.tr x7, Or.inl ⟨x2, x3, s', by omega, x4, m, d, gs, a, 1, x5, ha, by omega, by rw [x9]; exact g20, by rw [x8]; exact g2, by rw [x8]; exact g3⟩⟩
          · rw [if_neg q1, if_neg (fun q => q1 (K1.mpr q))]
            obtain ⟨C', M', a1, a2, a3, a4, a5⟩ := e3.fail (k := 2) (by decide)
            refine ⟨C', M', FC.tr a4.b, FM.tr a5.b, Or.inr ⟨?_, ?_, a3⟩⟩
            · rw [a1]; rfl
            · unfold fX12_once_121
              rw [if_pos rfl, a2]; rfl
