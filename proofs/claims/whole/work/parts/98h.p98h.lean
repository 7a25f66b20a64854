theorem p60 (d : Nat) : (2060 : Int32) + (2 : Int32) * nI d = nI (2060 + 2 * d) := by
  rw [l2m]
  exact nI_add 2060 (2 * d)
theorem dishE {n m d gs : Nat} {C M C' M' : mz_D} (B : tB n m d gs C M) (hd : d < 16) (fc : aC C C') (fm : ∀ g o j, ¬ (g = 0 ∧ (o = 200 ∨ (o = 201 ∧ (j = 2060 + 2 * d ∨ j = 2060 + 2 * d + 1)))) → M'.1 g o j = M.1 g o j ∧ M'.2 g o j = M.2 g o j) {v : Nat} (hv : 1 ≤ v ∧ v ≤ 999) {y : Int32} (hy : who y m) (v1 : M'.1 0 201 (2060 + 2 * d) = nI v) (v2 : M'.1 0 201 (2060 + 2 * d + 1) = y) : fX7_takesDish_94 (nI v) y C' = some (1, mz_wi (mz_wi (mz_wi C' 2 110 d (nI v)) 2 111 d y) 2 109 0 (nI (d + 1))) ∧ fX12_aDish_93 M' = some (1, mz_wi M' 0 201 2002 (nI (d + 1))) ∧ tB n m (d + 1) gs (mz_wi (mz_wi (mz_wi C' 2 110 d (nI v)) 2 111 d y) 2 109 0 (nI (d + 1))) (mz_wi M' 0 201 2002 (nI (d + 1))) := by
  have hm := B.hm
  have fc' : ∀ o j, C'.1 2 o j = C.1 2 o j := fun o j => (fc 2 o j (by omega)).1
  have A := B.1.addDish hd (x := nI v) (y := y) (by unfold bd; rw [nI_toInt (by omega)]; omega) hy
  refine ⟨?_, ?_, A.cp4 (fun o j hq => ?_) (fun j hj => ?_) (fun j hj => ?_) (fun p hp => ?_), ?_, ?_, ?_, ?_, ?_⟩
  · unfold fX7_takesDish_94 fX1_add
    rw [fc', B.dc, nI_ix hd (by omega), gd_tt, nI_cl (by omega), a1r]; rfl
  · unfold fX12_aDish_93
    rw [t2002, (fm _ _ _ (by omega)).1, B.dm, a1r]
  · simp only [wi_1, fc', true_and, and_true]
    repeat' split
    all_goals first | rfl | omega
  · simp only [wi_2]
    exact (fc _ _ _ (by omega)).2
  · rw [sh_1, Nat.zero_add]
    by_cases j2 : j = 2
    · subst j2
      rw [wi_s, wi_s]
    · by_cases j3 : j = 60 + 2 * d
      · subst j3
        rw [wi_n (by omega), wi_n (by omega), wi_n (by omega), wi_s, show 2000 + (60 + 2 * d) = 2060 + 2 * d by omega, v1]
      · by_cases j4 : j = 60 + 2 * d + 1
        · subst j4
          rw [wi_n (by omega), wi_n (by omega), wi_s, show 2000 + (60 + 2 * d + 1) = 2060 + 2 * d + 1 by omega, v2]
        · rw [wi_n (by omega), wi_n (by omega), wi_n (by omega), wi_n (by omega), sh_1, (fm _ _ _ (by omega)).1]
  · rw [sh_2, wi_2, wi_2, wi_2, wi_2, sh_2, (fm _ _ _ (by omega)).2]
  · rw [wi_n (by omega), wi_n (by omega), wi_n (by omega), fc']; exact B.2.1
  · rw [wi_n (by omega), (fm _ _ _ (by omega)).1]; exact B.2.2.1
  · rw [wi_n (by omega), wi_n (by omega), wi_n (by omega), fc']; exact B.2.2.2.1
  · intro i h1 h2
    rw [wi_n (by omega), wi_n (by omega), wi_n (by omega), wi_n (by omega), wi_n (by omega), (fm _ _ _ (by omega)).1, (fm _ _ _ (by omega)).1, (fm _ _ _ (by omega)).1, (fm _ _ _ (by omega)).1, (fm _ _ _ (by omega)).1]
    exact B.2.2.2.2.1 i h1 h2
  · intro i hi
    rw [wi_n (by omega), wi_n (by omega), wi_n (by omega), fc']; exact B.2.2.2.2.2 i hi
theorem sDish {n L s : Nat} {C M : mz_D} (hs : st n L s C M) (hk : ¬ C.1 0 2 2 = -1) : prt n L s C M (fX7_takesDish C) (fX12_aDish M) := by
  obtain ⟨h, m, d, gs, a, b, B, ha, hb, f20, f2, f3⟩ := hs
  have hm := B.hm
  have hd := B.hd
  have dc := B.dc
  have dm := B.dm
  by_cases h6 : d = 16
  · obtain ⟨C', M', a1, a2, a3, a4, a5⟩ := h.fail (k := 6) (by decide)
    refine ⟨C', M', a4.b, a5.b, Or.inr ⟨?_, ?_, a3⟩⟩
    · unfold fX7_takesDish
      rw [dc, if_neg (by rw [h6]; decide), a1]; rfl
    · unfold fX12_aDish
      rw [t2002, dm, if_pos (by rw [h6]; rfl), a2]; rfl
  · have d16 : d < 16 := by omega
    have n6c : nI d < (16 : Int32) := by show nI d < nI 16; rw [nJ_lt (by omega) (by omega)]; omega
    have n6m : ¬ nI d = (16 : Int32) := by show ¬ nI d = nI 16; rw [nJ_eq (by omega) (by omega)]; exact h6
    obtain ⟨s1, C1, M1, l1, e1, e2, e3, e4, e5⟩ := h.advK hk
    rcases sNum e3 (a := 1) (b := 999) (t := 2060 + 2 * d) (by omega) (by omega) (by omega) with ⟨v, s2, C2, M2, v1, v2, l2, x1, x2, x3, x4, x5, x6⟩ | ⟨C', M', x1, x2, x3, x4, x5⟩
    · have nv : ¬ nI v = (-1 : Int32) := fun z => (nI_ne1 (by omega)).mp z
      have x1 : fX5_takeNumber (1 : Int32) (999 : Int32) C1 = some (nI v, C2) := x1
      have x2 : fX12_number (nI (2060 + 2 * d)) (1 : Int32) (999 : Int32) M1 = some (1, M2) := x2
      have x7 : rdR L s2 C2 (mz_wi M2 0 201 (2060 + 2 * d + 1) (-1)) := x4.fr qC.rf (qM_wi (by omega))
      have RM : ∀ y, (Option.bind (fX12_isThere (11 : Int32) (mz_wi M2 0 201 (2060 + 2 * d + 1) (-1))) fun q8 => (if q8.1 = 0 then (fX12_aDish_93 q8.2) else (Option.bind (fX12_oldOne (24 : Int32) (q8.2.1 0 201 ((2000 : Int32)).toNatClampNeg) (nI (2060 + 2 * d + 1)) q8.2) fun q10 => (if q10.1 = 0 then (some ((0 : Int32), q10.2)) else (fX12_aDish_93 q10.2))))) = y → fX12_aDish M = y := by
        intro y hy
        unfold fX12_aDish
        rw [t2002, dm, if_neg n6m, e2, Option.bind_some, p60, a1r, x2, Option.bind_some, if_neg one_ne, nI_ix (show 2060 + 2 * d + 1 < 3000 by omega) (by omega), gd_tt, nI_cl (show 2060 + 2 * d + 1 < 2147483648 by omega)]
        exact hy
      have RC : ∀ y, (if (C2.1 0 2 2) = (8 : Int32) then (Option.bind (fX5_advance C2) fun q6 => (Option.bind (fX5_takePerson 2 q6) fun q7 => (if q7.1 = (-1 : Int32) then (some ((0 : Int32), q7.2)) else (fX7_takesDish_94 (nI v) q7.1 q7.2)))) else (fX7_takesDish_94 (nI v) (-1 : Int32) C2)) = y → fX7_takesDish C = y := by
        intro y hy
        unfold fX7_takesDish
        rw [dc, if_pos n6c, e1, Option.bind_some, x1, Option.bind_some, if_neg nv]
        exact hy
      rcases sThere x7 (a := 8) (b := 11) (by omega) (by decide) with ⟨y0, s3, C3, M3, l3, y1, y2, y3, y4, y5⟩ | ⟨y0, y2⟩
      · have y0 : C2.1 0 2 2 = (8 : Int32) := y0
        have y2 : fX12_isThere (11 : Int32) (mz_wi M2 0 201 (2060 + 2 * d + 1) (-1)) = some (1, M3) := y2
        have P3 : pl 2 24 m C3 M3 := B.pl.fr (by rw [(y4 _ _ _ (by omega)).1, (x5 _ _ _ (by omega)).1, (e4 _ _ _ (by omega)).1]) (fun p hp => by rw [(y4 _ _ _ (by omega)).2, (x5 _ _ _ (by omega)).2, (e4 _ _ _ (by omega)).2]) (fun p hp => by rw [(y5 _ _ _ (by omega)).2, wi_2, (x6 _ _ _ (by omega)).2, (e5 _ _ _ (by omega)).2])
        have m0 : M3.1 0 201 2000 = nI m := by rw [(y5 _ _ _ (by omega)).1, wi_n (by omega), (x6 _ _ _ (by omega)).1, (e5 _ _ _ (by omega)).1, B.mm]
        rcases sPer y3 P3 (t := 2060 + 2 * d + 1) (by omega) with ⟨p, s4, C4, M4, p1, l4, z1, z2, z3, z4, z5, z6⟩ | ⟨C', M', z1, z2, z3, z4, z5⟩
        · have np : ¬ nI p = (-1 : Int32) := fun z => (nI_ne1 (by omega)).mp z
          have z2 : fX12_oldOne (24 : Int32) (nI m) (nI (2060 + 2 * d + 1)) M3 = some (1, M4) := z2
          obtain ⟨g1, g2, g3⟩ := dishE B d16 (((e4.tr x5).tr y4).tr z5) (M' := M4) (fun g o j hn => by rw [(z6 _ _ _ (by omega)).1, (z6 _ _ _ (by omega)).2, (y5 _ _ _ (by omega)).1, (y5 _ _ _ (by omega)).2, wi_n (by omega), wi_2, (x6 _ _ _ (by omega)).1, (x6 _ _ _ (by omega)).2, (e5 _ _ _ (by omega)).1, (e5 _ _ _ (by omega)).2]; exact ⟨rfl, rfl⟩) ⟨v1, v2⟩ (y := nI p) (Or.inr ⟨p, p1, rfl⟩) (by rw [(z6 _ _ _ (by omega)).1, (y5 _ _ _ (by omega)).1, wi_n (by omega), x3]) z3
          refine ⟨_, _, (((e4.tr x5).tr y4).tr z5).b.tr (((bC_wi (by omega)).tr (bC_wi (by omega))).tr (bC_wi (by omega))), (((((e5.a.b.tr (x6.b (by omega))).tr (bM_wi (by omega))).tr y5.b)).tr (z6.b (by omega))).tr (bM_wi (by omega)), Or.inl ⟨RC _ ?_, RM _ ?_, s4, by omega, z4.fr (((qC_wi (by omega)).tr (qC_wi (by omega))).tr (qC_wi (by omega))) (qM_wi (by omega)), m, d + 1, gs, a, b, g3, ha, hb, ?_, ?_, ?_⟩⟩
          · rw [if_pos y0, y1, Option.bind_some, z1, Option.bind_some, if_neg np, g1]
          · rw [y2, Option.bind_some, if_neg one_ne, t2000, m0, z2, Option.bind_some, if_neg one_ne, g2]
          · rw [wi_n (by omega), (z6 _ _ _ (by omega)).1, (y5 _ _ _ (by omega)).1, wi_n (by omega), (x6 _ _ _ (by omega)).1, (e5 _ _ _ (by omega)).1]; exact f20
          · rw [wi_n (by omega), wi_n (by omega), wi_n (by omega), (z5 _ _ _ (by omega)).1, (y4 _ _ _ (by omega)).1, (x5 _ _ _ (by omega)).1, (e4 _ _ _ (by omega)).1]; exact f2
          · rw [wi_n (by omega), wi_n (by omega), wi_n (by omega), (z5 _ _ _ (by omega)).1, (y4 _ _ _ (by omega)).1, (x5 _ _ _ (by omega)).1, (e4 _ _ _ (by omega)).1]; exact f3
        · have z2 : fX12_oldOne (24 : Int32) (nI m) (nI (2060 + 2 * d + 1)) M3 = some (0, M') := z2
          refine ⟨C', M', (((e4.tr x5).tr y4).tr z4).b, ((((e5.a.b.tr (x6.b (by omega))).tr (bM_wi (by omega))).tr y5.b)).tr (z5.b (by omega)), Or.inr ⟨RC _ ?_, RM _ ?_, z3⟩⟩
          · rw [if_pos y0, y1, Option.bind_some, z1, Option.bind_some, if_pos rfl]
          · rw [y2, Option.bind_some, if_neg one_ne, t2000, m0, z2, Option.bind_some, if_pos rfl]
      · have y0 : ¬ C2.1 0 2 2 = (8 : Int32) := y0
        have y2 : fX12_isThere (11 : Int32) (mz_wi M2 0 201 (2060 + 2 * d + 1) (-1)) = some (0, (mz_wi M2 0 201 (2060 + 2 * d + 1) (-1))) := y2
        obtain ⟨g1, g2, g3⟩ := dishE B d16 (e4.tr x5) (M' := mz_wi M2 0 201 (2060 + 2 * d + 1) (-1)) (fun g o j hn => by rw [wi_n (by omega), wi_2, (x6 _ _ _ (by omega)).1, (x6 _ _ _ (by omega)).2, (e5 _ _ _ (by omega)).1, (e5 _ _ _ (by omega)).2]; exact ⟨rfl, rfl⟩) ⟨v1, v2⟩ (y := -1) (Or.inl rfl) (by rw [wi_n (by omega), x3]) (wi_s _ _ _ _ _)
        refine ⟨_, _, (e4.tr x5).b.tr (((bC_wi (by omega)).tr (bC_wi (by omega))).tr (bC_wi (by omega))), ((e5.a.b.tr (x6.b (by omega))).tr (bM_wi (by omega))).tr (bM_wi (by omega)), Or.inl ⟨RC _ ?_, RM _ ?_, s2, by omega, x7.fr (((qC_wi (by omega)).tr (qC_wi (by omega))).tr (qC_wi (by omega))) (qM_wi (by omega)), m, d + 1, gs, a, b, g3, ha, hb, ?_, ?_, ?_⟩⟩
        · rw [if_neg y0, g1]
        · rw [y2, Option.bind_some, if_pos rfl, g2]
        · rw [wi_n (by omega), wi_n (by omega), (x6 _ _ _ (by omega)).1, (e5 _ _ _ (by omega)).1]; exact f20
        · rw [wi_n (by omega), wi_n (by omega), wi_n (by omega), (x5 _ _ _ (by omega)).1, (e4 _ _ _ (by omega)).1]; exact f2
        · rw [wi_n (by omega), wi_n (by omega), wi_n (by omega), (x5 _ _ _ (by omega)).1, (e4 _ _ _ (by omega)).1]; exact f3
    · have x1 : fX5_takeNumber (1 : Int32) (999 : Int32) C1 = some (-1, C') := x1
      have x2 : fX12_number (nI (2060 + 2 * d)) (1 : Int32) (999 : Int32) M1 = some (0, M') := x2
      refine ⟨C', M', (e4.tr x4).b, e5.a.b.tr (x5.b (by omega)), Or.inr ⟨?_, ?_, x3⟩⟩
      · unfold fX7_takesDish
        rw [dc, if_pos n6c, e1, Option.bind_some, x1, Option.bind_some, if_pos rfl]
      · unfold fX12_aDish
        rw [t2002, dm, if_neg n6m, e2, Option.bind_some, p60, x2, Option.bind_some, if_pos rfl]
