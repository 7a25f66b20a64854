/-! ===== texts: a person ===== -/
theorem sPersonN {n L s : Nat} {C M : mz_D} (hs : st n L s C M) (hk : ¬ C.1 0 2 2 = -1) : prt n L s C M (fX7_takesNewcomer C) (fX12_aPerson M) := by
  obtain ⟨h, m, d, gs, a, b, B, ha, hb, f20, f2, f3⟩ := hs
  have hm := B.hm
  have mc := B.mc
  have mm := B.mm
  by_cases h6 : m = 6
  · obtain ⟨C', M', a1, a2, a3, a4, a5⟩ := h.fail (k := 6) (by decide)
    refine ⟨C', M', a4.b, a5.b, Or.inr ⟨?_, ?_, a3⟩⟩
    · unfold fX7_takesNewcomer
      rw [mc, if_neg (by rw [h6]; decide), a1]; rfl
    · unfold fX12_aPerson
      rw [t2000, mm, if_pos (by rw [h6]; rfl), a2]; rfl
  · have h6 : m < 6 := by omega
    have n6c : nI m < (6 : Int32) := by show nI m < nI 6; rw [nJ_lt (by omega) (by omega)]; exact h6
    have n6m : ¬ nI m = (6 : Int32) := by show ¬ nI m = nI 6; rw [nJ_eq (by omega) (by omega)]; omega
    obtain ⟨s1, C1, M1, l1, e1, e2, e3, e4, e5⟩ := h.advK hk
    have B1 : tB n m d gs C1 M1 := B.fr0 e4 e5.a
    rcases e3.nm with ⟨g1, g2⟩ | ⟨g1, g2, g3, w, w1, w2, w3, w4, w5⟩
    · obtain ⟨C', M', a1, a2, a3, a4, a5⟩ := e3.fail (k := 2) (by decide)
      refine ⟨C', M', (e4.tr a4).b, (e5.a.tr a5).b, Or.inr ⟨?_, ?_, a3⟩⟩
      · unfold fX7_takesNewcomer
        rw [mc, if_pos n6c, e1, Option.bind_some, if_pos g1, a1]; rfl
      · unfold fX12_aPerson
        rw [t2000, mm, if_neg n6m, e2, Option.bind_some, g2, Option.bind_some, if_pos rfl, a2]; rfl
    · rcases findL B1.pl w1 w3 w5 m 0 mz_N mz_N (by omega) (N_lt (by omega)) (N_lt (by omega)) with ⟨x1, x2⟩ | ⟨p, p1, x1, x2⟩
      · have X1 : fX4_find 2 (C1.2 0 2 9) C1 = some (-1) := by rw [w4]; exact x1
        have X2 : fX12_findHere (24 : Int32) (nI m) M1 = some (-1) := x2
        have A : fX4_add 2 (C1.2 0 2 9) C1 = some (nI m, mz_wi (mz_wi (mz_wi (mz_wg C1 2 102 m (c5 w)) 2 107 m (-1)) 2 108 m 0) 2 101 0 (nI (m + 1))) := by
          unfold fX4_add
          rw [B1.mc, nI_ix h6 (by omega), gd_tt, nI_cl (by omega), a1r, w4]
        have r0 : rdR L s1 (mz_wi (mz_wi (mz_wi (mz_wg C1 2 102 m (c5 w)) 2 107 m (-1)) 2 108 m 0) 2 101 0 (nI (m + 1))) (mz_wg M1 0 202 (24 + m) (c8 w)) := e3.fr ((((qC_wg (by omega)).tr (qC_wi (by omega))).tr (qC_wi (by omega))).tr (qC_wi (by omega))) qM_wg
        have k6 : (mz_wi (mz_wi (mz_wi (mz_wg C1 2 102 m (c5 w)) 2 107 m (-1)) 2 108 m 0) 2 101 0 (nI (m + 1))).1 0 2 6 = 1 := by rw [wi_n (by omega), wi_n (by omega), wi_n (by omega), wg_1, g3]
        obtain ⟨s3, C3, M3, l3, r1, r2, r3, r4, r5⟩ := r0.adv (by rw [k6]; decide) (by rw [k6]; decide)
        have v101 : C3.1 2 101 0 = nI (m + 1) := by rw [(r4 _ _ _ (by omega)).1, wi_s]
        have v107 : C3.1 2 107 m = -1 := by rw [(r4 _ _ _ (by omega)).1, wi_n (by omega), wi_n (by omega), wi_s]
        have v108 : C3.1 2 108 m = 0 := by rw [(r4 _ _ _ (by omega)).1, wi_n (by omega), wi_s]
        have v102 : C3.2 2 102 m = c5 w := by rw [(r4 _ _ _ (by omega)).2, wi_2, wi_2, wi_2, wgs]
        have u102 : M3.2 0 202 (24 + m) = c8 w := by rw [(r5 _ _ _ (by omega)).2, wgs]
        have fc3 : nC m C C3 := (e4.n.tr (((nC_wg.tr (nC_wi (by omega))).tr (nC_wi (by omega))).tr (nC_wi (by omega)))).tr r4.n
        have fm3 : nM m M M3 := (e5.a.n.tr nM_wg).tr r5.a.n
        have r34 : rdR L s3 C3 (mz_wi (mz_wi (mz_wi M3 0 201 (2012 + 8 * m + 1) 1) 0 201 (2012 + 8 * m + 3) 999) 0 201 (2012 + 8 * m + 4) (-1)) := r3.fr qC.rf (((qM_wi (by omega)).tr (qM_wi (by omega))).tr (qM_wi (by omega)))
        have fm4 : nM m M (mz_wi (mz_wi (mz_wi M3 0 201 (2012 + 8 * m + 1) 1) 0 201 (2012 + 8 * m + 3) 999) 0 201 (2012 + 8 * m + 4) (-1)) := ((fm3.tr (nM_wi (by omega))).tr (nM_wi (by omega))).tr (nM_wi (by omega))
        have Z := B.2.2.2.2.1 m (Nat.le_refl _) h6
        have zz : ∀ j, 2012 + 8 * m ≤ j → j < 2020 + 8 * m → M3.1 0 201 j = M.1 0 201 j := fun j h1 h2 => by rw [(r5 _ _ _ (by omega)).1, wg_1, (e5 _ _ _ (by omega)).1]
        generalize hM4 : mz_wi (mz_wi (mz_wi M3 0 201 (2012 + 8 * m + 1) 1) 0 201 (2012 + 8 * m + 3) 999) 0 201 (2012 + 8 * m + 4) (-1) = M4 at r34 fm4
        have i0 : M4.1 0 201 (2012 + 8 * m) = 0 := by rw [← hM4, wi_n (by omega), wi_n (by omega), wi_n (by omega), zz _ (by omega) (by omega), Z.1]
        have i1 : M4.1 0 201 (2012 + 8 * m + 1) = 1 := by rw [← hM4, wi_n (by omega), wi_n (by omega), wi_s]
        have i2 : M4.1 0 201 (2012 + 8 * m + 2) = 0 := by rw [← hM4, wi_n (by omega), wi_n (by omega), wi_n (by omega), zz _ (by omega) (by omega), show 2012 + 8 * m + 2 = 2014 + 8 * m by omega, Z.2.1]
        have i3 : M4.1 0 201 (2012 + 8 * m + 3) = 999 := by rw [← hM4, wi_n (by omega), wi_s]
        have i4 : M4.1 0 201 (2012 + 8 * m + 4) = -1 := by rw [← hM4, wi_s]
        have i5 : M4.1 0 201 (2012 + 8 * m + 5) = 0 := by rw [← hM4, wi_n (by omega), wi_n (by omega), wi_n (by omega), zz _ (by omega) (by omega), show 2012 + 8 * m + 5 = 2017 + 8 * m by omega, Z.2.2.1]
        have i6 : M4.1 0 201 (2012 + 8 * m + 6) = 0 := by rw [← hM4, wi_n (by omega), wi_n (by omega), wi_n (by omega), zz _ (by omega) (by omega), show 2012 + 8 * m + 6 = 2018 + 8 * m by omega, Z.2.2.2.1]
        have i7 : M4.1 0 201 (2012 + 8 * m + 7) = 0 := by rw [← hM4, wi_n (by omega), wi_n (by omega), wi_n (by omega), zz _ (by omega) (by omega), show 2012 + 8 * m + 7 = 2019 + 8 * m by omega, Z.2.2.2.2]
        have u102' : M4.2 0 202 (24 + m) = c8 w := by rw [← hM4, wi_2, wi_2, wi_2, u102]
        have RM : ∀ y, (Option.bind (fX12_isThere (nI 6) M4) fun q1 => (if q1.1 = 0 then (fX12_aPerson_133 (nI m) (nI (2012 + 8 * m)) q1.2) else (Option.bind (fX12_number (nI (2012 + 8 * m)) (nI 0) (nI 16) q1.2) fun q3 => (if q3.1 = 0 then (some ((0 : Int32), q3.2)) else (fX12_aPerson_133 (nI m) (nI (2012 + 8 * m)) q3.2))))) = y → fX12_aPerson M = y := by
          intro y hy
          unfold fX12_aPerson
          rw [t2000, mm, if_neg n6m, e2, Option.bind_some, g2, Option.bind_some, if_neg one_ne, X2, Option.bind_some, if_pos rfl, w5, Option.bind_some, a24l, nI_ix (show 24 + m < 36 by omega) (by omega), gd_tt, nI_cl (show 24 + m < 2147483648 by omega), r2, Option.bind_some, p12, a1r, a3r, a4r, nI_ix (show 2012 + 8 * m + 1 < 3000 by omega) (by omega), gd_tt, nI_ix (show 2012 + 8 * m + 3 < 3000 by omega) (by omega), gd_tt, nI_ix (show 2012 + 8 * m + 4 < 3000 by omega) (by omega), gd_tt, nI_cl (show 2012 + 8 * m + 1 < 2147483648 by omega), nI_cl (show 2012 + 8 * m + 3 < 2147483648 by omega), nI_cl (show 2012 + 8 * m + 4 < 2147483648 by omega), hM4]
          exact hy
        have RC : ∀ y, (Option.bind (fX7_takesTrait_103 (nI 1) 2 (nI m) (nI 16) (0 : Int32) C3) fun q10 => (if q10.1 = 0 then (some ((0 : Int32), q10.2)) else (Option.bind (fX7_takesTrait_104 (nI 2) 2 (nI m) (nI 20) (1 : Int32) q10.2) fun q12 => (if q12.1 = 0 then (some ((0 : Int32), q12.2)) else (Option.bind (fX7_takesTrait_105 (nI 3) 2 (nI m) (nI 99) (0 : Int32) q12.2) fun q14 => (if q14.1 = 0 then (some ((0 : Int32), q14.2)) else (Option.bind (fX7_takesTrait_106 (nI 4) 2 (nI m) (nI 999) (999 : Int32) q14.2) fun q16 => (if q16.1 = 0 then (some ((0 : Int32), q16.2)) else (Option.bind (fX7_takesGuest (nI m) q16.2) fun q18 => (if q18.1 = 0 then (some ((0 : Int32), q18.2)) else (some ((1 : Int32), q18.2)))))))))))) = y → fX7_takesNewcomer C = y := by
          intro y hy
          unfold fX7_takesNewcomer
          rw [mc, if_pos n6c, e1, Option.bind_some, if_neg (by rw [g1]; decide), X1, Option.bind_some, if_pos rfl, A, Option.bind_some, r1, Option.bind_some]
          exact hy
        rcases sT103 r34 (a := 1) (b := 6) (t := 2012 + 8 * m) (p := m) (mo := 16) (wo := 0) (by omega) (by decide) h6 (by omega) (by omega) i0 (bdk (x := 0) (by omega) (by omega)) (fX12_aPerson_133 (nI m) (nI (2012 + 8 * m))) with ⟨s5, C5, M5, l5, a1, a2, a3, a4, a5, a6, a7⟩ | ⟨C', M', a1, a2, a3, a4, a5⟩
        · rcases sT104 a5 (a := 2) (b := 7) (t := 2012 + 8 * m + 1) (p := m) (mo := 20) (wo := 1) (by omega) (by decide) h6 (by omega) (by omega) (by rw [(a7 _ _ _ (by omega)).1, i1]) (bdk (x := 1) (by omega) (by omega)) (fX12_aPerson_155 (nI m) (nI (2012 + 8 * m))) with ⟨s6, C6, M6, l6, b1, b2, b3, b4, b5, b6, b7⟩ | ⟨C', M', b1, b2, b3, b4, b5⟩
          · rcases sT105 b5 (a := 3) (b := 8) (t := 2012 + 8 * m + 2) (p := m) (mo := 99) (wo := 0) (by omega) (by decide) h6 (by omega) (by omega) (by rw [(b7 _ _ _ (by omega)).1, (a7 _ _ _ (by omega)).1, i2]) (bdk (x := 0) (by omega) (by omega)) (fX12_aPerson_177 (nI m) (nI (2012 + 8 * m))) with ⟨s7, C7, M7, l7, c1, c2, c3, c4, c5', c6, c7⟩ | ⟨C', M', c1, c2, c3, c4, c5'⟩
            · rcases sT106 c5' (a := 4) (b := 9) (t := 2012 + 8 * m + 3) (p := m) (mo := 999) (wo := 999) (by omega) (by decide) h6 (by omega) (by omega) (by rw [(c7 _ _ _ (by omega)).1, (b7 _ _ _ (by omega)).1, (a7 _ _ _ (by omega)).1, i3]) (bdk (x := 999) (by omega) (by omega)) (fX12_aPerson_202 (nI m)) with ⟨s8, C8, M8, l8, d1, d2, d3, d4, d5, d6, d7⟩ | ⟨C', M', d1, d2, d3, d4, d5⟩
              · have fc8 : nC m C C8 := (((fc3.tr (a6.n (by omega))).tr (b6.n (by omega))).tr (c6.n (by omega))).tr (d6.n (by omega))
                have fm8 : nM m M M8 := (((fm4.tr (a7.n (by omega))).tr (b7.n (by omega))).tr (c7.n (by omega))).tr (d7.n (by omega))
                have m48 : ∀ j, (j < 2012 + 8 * m ∨ 2012 + 8 * m + 3 < j) → M8.1 0 201 j = M4.1 0 201 j := fun j hj => by rw [(d7 _ _ _ (by omega)).1, (c7 _ _ _ (by omega)).1, (b7 _ _ _ (by omega)).1, (a7 _ _ _ (by omega)).1]
                have c38 : ∀ o j, o < 103 ∨ 106 < o ∨ j ≠ m → C8.1 2 o j = C3.1 2 o j := fun o j hj => by rw [(d6 _ _ _ (by omega)).1, (c6 _ _ _ (by omega)).1, (b6 _ _ _ (by omega)).1, (a6 _ _ _ (by omega)).1]
                have q0 : ∀ j, j = 2000 ∨ j = 2007 ∨ j = 2008 → M4.1 0 201 j = M.1 0 201 j := fun j hj => by rw [← hM4, wi_n (by omega), wi_n (by omega), wi_n (by omega), (r5 _ _ _ (by omega)).1, wg_1, (e5 _ _ _ (by omega)).1]
                have g8 : C8.1 2 101 2 = nI gs := by rw [c38 _ _ (by omega), (r4 _ _ _ (by omega)).1, wi_n (by omega), wi_n (by omega), wi_n (by omega), wg_1, (e4 _ _ _ (by omega)).1, B.gc]
                obtain ⟨s9, C9, M9, gs', l9, x1, x2, x3, x4, x5, x6, x7, x8, x9, x10⟩ := sGuest (gs := gs) d5 h6 B.1.hgs g8 (by rw [m48 _ (by omega), q0 _ (by omega), B.gm]) (by rw [m48 _ (by omega), q0 _ (by omega), B.im]) (by rw [m48 _ (by omega), q0 _ (by omega), B.mm])
                have FC : nC m C C9 := fc8.tr (fun g o j hn => x9 _ _ _ (by omega))
                have FM : nM m M M9 := fm8.tr (fun g o j hn => x10 _ _ _ (by omega))
                have m49 : ∀ j, (2012 + 8 * m + 3 < j) → M9.1 0 201 j = M4.1 0 201 j := fun j hj => by rw [(x10 _ _ _ (by omega)).1, m48 _ (by omega)]
                refine ⟨C9, M9, FC.b, FM.b, Or.inl ⟨RC _ ?_, RM _ (a2.trans ?_), s9, by omega, x4, m + 1, d, gs', a, b, ⟨?_, ?_, ?_, ?_, ?_, ?_⟩, ha, hb, ?_, ?_, ?_⟩⟩
                · rw [a1, Option.bind_some, if_neg one_ne, b1, Option.bind_some, if_neg one_ne, c1, Option.bind_some, if_neg one_ne, d1, Option.bind_some, if_neg one_ne, x2, Option.bind_some, if_neg one_ne]
                · unfold fX12_aPerson_133
                  rw [a1r]
                  refine b2.trans ?_
                  unfold fX12_aPerson_155
                  rw [a2r]
                  refine c2.trans ?_
                  unfold fX12_aPerson_177
                  rw [a3r]
                  exact d2.trans x3
                · refine B.1.newP h6 x1 (fun o j h1 h2 h3 h4 => ?_) (fun j hj => ?_) (fun j h1 h2 h3 => ?_) (fun p hp => ?_) ?_ ?_ ?_ ?_ ?_ ?_ ?_ ?_ ?_ ?_ ?_ ?_ ?_ ?_ ?_
                  · rw [wi_n (by omega), wi_n (by omega)]
                    exact (FC _ _ _ (by unfold rqi at h1; omega)).1
                  · rw [wi_2, wi_2]
                    exact (FC _ _ _ (by omega)).2
                  · rw [sh_1, sh_1]
                    exact (FM _ _ _ (by omega)).1
                  · rw [sh_2, sh_2]
                    exact (FM _ _ _ (by omega)).2
                  · rw [wi_n (by omega), (x9 _ _ _ (by omega)).1, c38 _ _ (by omega), v101]
                  · rw [sh_1]; exact x8
                  · rw [wi_n (by omega)]; exact x5
                  · rw [sh_1]; exact x6
                  · rw [wi_s]
                  · rw [sh_1]; exact x7
                  · rw [wi_2, sh_2, (x9 _ _ _ (by omega)).2, (x10 _ _ _ (by omega)).2, (d6 _ _ _ (by omega)).2, (c6 _ _ _ (by omega)).2, (b6 _ _ _ (by omega)).2, (a6 _ _ _ (by omega)).2, v102, (d7 _ _ _ (by omega)).2, (c7 _ _ _ (by omega)).2, (b7 _ _ _ (by omega)).2, (a7 _ _ _ (by omega)).2, u102']
                    exact nm_mk w1 w2 w3
                  · rw [sh_1, wi_n (by omega), show 2000 + (12 + 8 * m) = 2012 + 8 * m by omega, (x9 _ _ _ (by omega)).1, (x10 _ _ _ (by omega)).1, (d6 _ _ _ (by omega)).1, (d7 _ _ _ (by omega)).1, (c6 _ _ _ (by omega)).1, (c7 _ _ _ (by omega)).1, (b6 _ _ _ (by omega)).1, (b7 _ _ _ (by omega)).1]
                    exact ⟨a3, a4⟩
                  · rw [sh_1, wi_n (by omega), show 2000 + (13 + 8 * m) = 2012 + 8 * m + 1 by omega, (x9 _ _ _ (by omega)).1, (x10 _ _ _ (by omega)).1, (d6 _ _ _ (by omega)).1, (d7 _ _ _ (by omega)).1, (c6 _ _ _ (by omega)).1, (c7 _ _ _ (by omega)).1]
                    exact ⟨b3, b4⟩
                  · rw [sh_1, wi_n (by omega), show 2000 + (14 + 8 * m) = 2012 + 8 * m + 2 by omega, (x9 _ _ _ (by omega)).1, (x10 _ _ _ (by omega)).1, (d6 _ _ _ (by omega)).1, (d7 _ _ _ (by omega)).1]
                    exact ⟨c3, c4⟩
                  · rw [sh_1, wi_n (by omega), show 2000 + (15 + 8 * m) = 2012 + 8 * m + 3 by omega, (x9 _ _ _ (by omega)).1, (x10 _ _ _ (by omega)).1]
                    exact ⟨d3, d4⟩
                  · rw [sh_1, wi_n (by omega), show 2000 + (16 + 8 * m) = 2012 + 8 * m + 4 by omega, m49 _ (by omega), i4, (x9 _ _ _ (by omega)).1, c38 _ _ (by omega), v107]
                    exact ⟨rfl, rfl⟩
                  · rw [sh_1, wi_n (by omega), show 2000 + (17 + 8 * m) = 2012 + 8 * m + 5 by omega, m49 _ (by omega), i5, (x9 _ _ _ (by omega)).1, c38 _ _ (by omega), v108]
                    exact ⟨rfl, rfl⟩
                  · rw [sh_1, sh_1, wi_n (by omega), show 2000 + (18 + 8 * m) = 2012 + 8 * m + 6 by omega, show 2000 + (19 + 8 * m) = 2012 + 8 * m + 7 by omega, m49 _ (by omega), m49 _ (by omega), i6, i7, (FC _ _ _ (by omega)).1, B.2.2.2.2.2 m h6]
                    rfl
                  · rw [wi_n (by omega), sh_1, (FC _ _ _ (by omega)).1, (FM _ _ _ (by omega)).1]
                    exact ⟨B.2.1, B.2.2.1⟩
                · rw [(FC _ _ _ (by omega)).1]; exact B.2.1
                · rw [(FM _ _ _ (by omega)).1]; exact B.2.2.1
                · rw [(FC _ _ _ (by omega)).1]; exact B.2.2.2.1
                · intro p hp1 hp2
                  rw [(FM _ _ _ (by omega)).1, (FM _ _ _ (by omega)).1, (FM _ _ _ (by omega)).1, (FM _ _ _ (by omega)).1, (FM _ _ _ (by omega)).1]
                  exact B.2.2.2.2.1 p (by omega) hp2
                · intro p hp
                  rw [(FC _ _ _ (by omega)).1]; exact B.2.2.2.2.2 p hp
                · rw [(FM _ _ _ (by omega)).1]; exact f20
                · rw [(FC _ _ _ (by omega)).1]; exact f2
                · rw [(FC _ _ _ (by omega)).1]; exact f3
              · refine ⟨C', M', ((((fc3.tr (a6.n (by omega))).tr (b6.n (by omega))).tr (c6.n (by omega))).tr (d4.n (by omega))).b, ((((fm4.tr (a7.n (by omega))).tr (b7.n (by omega))).tr (c7.n (by omega))).tr (d5.n (by omega))).b, Or.inr ⟨RC _ ?_, RM _ (a2.trans ?_), d3⟩⟩
                · rw [a1, Option.bind_some, if_neg one_ne, b1, Option.bind_some, if_neg one_ne, c1, Option.bind_some, if_neg one_ne, d1, Option.bind_some, if_pos rfl]
                · unfold fX12_aPerson_133
                  rw [a1r]
                  refine b2.trans ?_
                  unfold fX12_aPerson_155
                  rw [a2r]
                  refine c2.trans ?_
                  unfold fX12_aPerson_177
                  rw [a3r]
                  exact d2
            · refine ⟨C', M', (((fc3.tr (a6.n (by omega))).tr (b6.n (by omega))).tr (c4.n (by omega))).b, (((fm4.tr (a7.n (by omega))).tr (b7.n (by omega))).tr (c5'.n (by omega))).b, Or.inr ⟨RC _ ?_, RM _ (a2.trans ?_), c3⟩⟩
              · rw [a1, Option.bind_some, if_neg one_ne, b1, Option.bind_some, if_neg one_ne, c1, Option.bind_some, if_pos rfl]
              · unfold fX12_aPerson_133
                rw [a1r]
                refine b2.trans ?_
                unfold fX12_aPerson_155
                rw [a2r]
                exact c2
          · refine ⟨C', M', ((fc3.tr (a6.n (by omega))).tr (b4.n (by omega))).b, ((fm4.tr (a7.n (by omega))).tr (b5.n (by omega))).b, Or.inr ⟨RC _ ?_, RM _ (a2.trans ?_), b3⟩⟩
            · rw [a1, Option.bind_some, if_neg one_ne, b1, Option.bind_some, if_pos rfl]
            · unfold fX12_aPerson_133
              rw [a1r]
              exact b2
        · refine ⟨C', M', (fc3.tr (a4.n (by omega))).b, (fm4.tr (a5.n (by omega))).b, Or.inr ⟨RC _ ?_, RM _ a2, a3⟩⟩
          rw [a1, Option.bind_some, if_pos rfl]
      · have X1 : fX4_find 2 (C1.2 0 2 9) C1 = some (nI p) := by rw [w4]; exact x1
        have X2 : fX12_findHere (24 : Int32) (nI m) M1 = some (nI p) := x2
        have np : ¬ nI p = (-1 : Int32) := fun q => (nI_ne1 (by omega)).mp q
        obtain ⟨C', M', a1, a2, a3, a4, a5⟩ := e3.fail (k := 3) (by decide)
        refine ⟨C', M', (e4.tr a4).b, (e5.a.tr a5).b, Or.inr ⟨?_, ?_, a3⟩⟩
        · unfold fX7_takesNewcomer
          rw [mc, if_pos n6c, e1, Option.bind_some, if_neg (by rw [g1]; decide), X1, Option.bind_some, if_neg np, a1]; rfl
        · unfold fX12_aPerson
          rw [t2000, mm, if_neg n6m, e2, Option.bind_some, g2, Option.bind_some, if_neg one_ne, X2, Option.bind_some, if_neg np, a2]; rfl
