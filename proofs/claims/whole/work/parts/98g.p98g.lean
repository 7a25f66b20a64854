/-! ===== texts: a couple, a dish, a debt, split, law ===== -/
theorem pl.fr {g nb m : Nat} {C M C' M' : mz_D} (h : pl g nb m C M) (h1 : C'.1 g 101 0 = C.1 g 101 0) (h2 : ∀ p, p < 6 → C'.2 g 102 p = C.2 g 102 p) (h3 : ∀ p, p < 36 → M'.2 0 202 p = M.2 0 202 p) : pl g nb m C' M' := by
  obtain ⟨a1, a2, a3, a4⟩ := h
  exact ⟨a1, a2, by rw [h1, a3], fun p hp => by rw [h2 p (by omega), h3 _ (by omega)]; exact a4 p hp⟩
theorem a4r' (p : Nat) : ((2012 : Int32) + (8 : Int32) * nI p) + (4 : Int32) = nI (2012 + 8 * p + 4) := by rw [p12, a4r]
theorem sMate {n L s m d gs t : Nat} {C M : mz_D} (h : rdR L s C M) (B : tB n m d gs C M) (ht : t < 3000) (x1 : Int32) : (∃ p s' C' M', p < m ∧ s < s' ∧ fX5_personHere 2 C = some (nI p, C) ∧ ¬ nI p = x1 ∧ C.1 2 107 p = -1 ∧ fX5_advance C = some C' ∧ fX12_mate x1 (nI t) M = some (1, M') ∧ M'.1 0 201 t = nI p ∧ rdR L s' C' M' ∧ aC C C' ∧ aT t M M') ∨ (∃ C' M', (fX5_personHere 2 C = some (-1, C') ∨ (∃ p, p < m ∧ fX5_personHere 2 C = some (nI p, C) ∧ (nI p = x1 ∨ ¬ C.1 2 107 p = -1) ∧ fX5_fail 5 C = some (0, C'))) ∧ fX12_mate x1 (nI t) M = some (0, M') ∧ fl C' M' ∧ aC C C' ∧ aT t M M') := by
  have hm := B.hm
  have mm := B.mm
  unfold fX12_mate fX12_mate_59 fX12_mate_53
  rw [t2000, mm]
  rcases sWho h B.pl with ⟨h1, h2⟩ | ⟨h1, h2, h3, h4, h5⟩ | ⟨p, p1, h1, h2, h3, h4, h5⟩
  · obtain ⟨C', M', a1, a2, a3, a4, a5⟩ := h.fail (k := 2) (by decide)
    have o : fX12_oldOne (24 : Int32) (nI m) (nI t) M = some (0, M') := old0 (nb := 24) h2 a2
    refine Or.inr ⟨C', M', Or.inl (here0 h1 a1), ?_, a3, a4, a5.t⟩
    rw [h2, Option.bind_some, if_pos rfl, o]; rfl
  · obtain ⟨C', M', a1, a2, a3, a4, a5⟩ := (h.fr qC.rf (qM_wi (D := M) (o := 201) (j := t) (v := -1) (by omega))).fail (k := 3) (by decide)
    have o : fX12_oldOne (24 : Int32) (nI m) (nI t) M = some (0, M') := old1 (nb := 24) ht h2 h5 a2
    have h5 : fX12_findHere (24 : Int32) (nI m) M = some (-1) := h5
    refine Or.inr ⟨C', M', Or.inl (here1 h1 h4 a1), ?_, a3, a4, aT_wi.tr a5.t⟩
    rw [h2, Option.bind_some, if_neg one_ne, h5, Option.bind_some, if_pos rfl, o]; rfl
  · have np : ¬ nI p = (-1 : Int32) := fun q => (nI_ne1 (by omega)).mp q
    have H : fX5_personHere 2 C = some (nI p, C) := here2 h1 h4 (by omega)
    have h5' : fX12_findHere (24 : Int32) (nI m) M = some (nI p) := h5
    have pt : M.1 0 201 (2012 + 8 * p + 4) = C.1 2 107 p := by rw [show 2012 + 8 * p + 4 = 2016 + 8 * p by omega]; exact B.pt p1
    by_cases q1 : nI p = x1
    · obtain ⟨C', M', a1, a2, a3, a4, a5⟩ := h.fail (k := 5) (by decide)
      refine Or.inr ⟨C', M', Or.inr ⟨p, p1, H, Or.inl q1, a1⟩, ?_, a3, a4, a5.t⟩
      rw [h2, Option.bind_some, if_neg one_ne, h5', Option.bind_some, if_neg np, if_pos q1, a2]; rfl
    · by_cases q2 : C.1 2 107 p = -1
      · obtain ⟨s', C', M', a0, a1, a2, a3, a4, a5⟩ := (h.fr qC.rf (qM_wi (D := M) (o := 201) (j := t) (v := nI p) (by omega))).adv (by rw [h3]; decide) (by rw [h3]; decide)
        have o : fX12_oldOne (24 : Int32) (nI m) (nI t) M = some (1, M') := old2 (nb := 24) ht (by omega) h2 h5 a2
        refine Or.inl ⟨p, s', C', M', p1, a0, H, q1, q2, a1, ?_, by rw [(a5 _ _ _ (by omega)).1, wi_s], a3, a4, aT_wi.tr a5.a.t⟩
        rw [h2, Option.bind_some, if_neg one_ne, h5', Option.bind_some, if_neg np, if_neg q1, a4r', nI_ix (by omega) (by omega), gd_tt, nI_cl (by omega), pt, if_pos q2, o]; rfl
      · obtain ⟨C', M', a1, a2, a3, a4, a5⟩ := h.fail (k := 5) (by decide)
        refine Or.inr ⟨C', M', Or.inr ⟨p, p1, H, Or.inr q2, a1⟩, ?_, a3, a4, a5.t⟩
        rw [h2, Option.bind_some, if_neg one_ne, h5', Option.bind_some, if_neg np, if_neg q1, a4r', nI_ix (by omega) (by omega), gd_tt, nI_cl (by omega), pt, if_neg q2, a2]; rfl
theorem sCouple {n L s : Nat} {C M : mz_D} (hs : st n L s C M) (hk : ¬ C.1 0 2 2 = -1) : prt n L s C M (fX7_takesCouple C) (fX12_aCouple M) := by
  obtain ⟨h, m, d, gs, a, b, B, ha, hb, f20, f2, f3⟩ := hs
  have hm := B.hm
  obtain ⟨c, hc3, hc⟩ := B.2.2.2.1
  have hcm := B.cc
  rw [hc] at hcm
  by_cases h6 : c = 3
  · obtain ⟨C', M', a1, a2, a3, a4, a5⟩ := h.fail (k := 6) (by decide)
    refine ⟨C', M', a4.b, a5.b, Or.inr ⟨?_, ?_, a3⟩⟩
    · unfold fX7_takesCouple
      rw [hc, if_neg (by rw [h6]; decide), a1]; rfl
    · unfold fX12_aCouple
      rw [t2001, hcm, if_pos (by rw [h6]; rfl), a2]; rfl
  · have n6c : nI c < (3 : Int32) := by show nI c < nI 3; rw [nJ_lt (by omega) (by omega)]; omega
    have n6m : ¬ nI c = (3 : Int32) := by show ¬ nI c = nI 3; rw [nJ_eq (by omega) (by omega)]; exact h6
    obtain ⟨s1, C1, M1, l1, e1, e2, e3, e4, e5⟩ := h.advK hk
    have B1 : tB n m d gs C1 M1 := B.fr0 e4 e5.a
    rcases sMate e3 B1 (t := 2495) (by omega) (-1) with ⟨p, s2, C2, M2, p1, l2, x1, x2, x3, x4, x5, x6, x7, x8, x9⟩ | ⟨C', M', x1, x2, x3, x4, x5⟩
    · have B2 : tB n m d gs C2 M2 := B1.fr1 (t := 2495) (t' := 2495) x8 (fun g o j hn => x9 _ _ _ (by omega)) (by omega) (by omega)
      have np : ¬ nI p = (-1 : Int32) := x2
      have x5 : fX12_mate (-1 : Int32) (2495 : Int32) M1 = some (1, M2) := x5
      rcases sMate x7 B2 (t := 2496) (by omega) (nI p) with ⟨q, s3, C3, M3, q1, l3, y1, y2, y3, y4, y5, y6, y7, y8, y9⟩ | ⟨C', M', y1, y2, y3, y4, y5⟩
      · have nq : ¬ nI q = (-1 : Int32) := fun z => (nI_ne1 (by omega)).mp z
        have y5 : fX12_mate (nI p) (2496 : Int32) M2 = some (1, M3) := y5
        have B3 : tB n m d gs C3 M3 := B2.fr1 (t := 2496) (t' := 2496) y8 (fun g o j hn => y9 _ _ _ (by omega)) (by omega) (by omega)
        have z95 : M3.1 0 201 2495 = nI p := by rw [(y9 _ _ _ (by omega)).1, x6]
        have c3 : C3.1 2 101 1 = nI c := by rw [(y8 _ _ _ (by omega)).1, (x8 _ _ _ (by omega)).1, (e4 _ _ _ (by omega)).1, hc]
        have m3 : M3.1 0 201 2001 = nI c := by rw [B3.cc, c3]
        have J : fX4_join 2 (nI p) (nI q) C3 = some (mz_wi (mz_wi (mz_wi C3 2 107 p (nI q)) 2 107 q (nI p)) 2 101 1 (nI (c + 1))) := by
          unfold fX4_join
          rw [nI_ix (show p < 6 by omega) (by omega), gd_tt, nI_ix (show q < 6 by omega) (by omega), gd_tt, nI_cl (show p < 2147483648 by omega), nI_cl (show q < 2147483648 by omega), c3, a1r]
        have P := B3.1.pair p1 q1 (nI (c + 1))
        refine ⟨mz_wi (mz_wi (mz_wi C3 2 107 p (nI q)) 2 107 q (nI p)) 2 101 1 (nI (c + 1)), mz_wi (mz_wi (mz_wi M3 0 201 (2012 + 8 * p + 4) (nI q)) 0 201 (2012 + 8 * q + 4) (nI p)) 0 201 2001 (nI (c + 1)), (((e4.tr x8).tr y8).b.tr (bC_wi (by omega))).tr ((bC_wi (by omega)).tr (bC_wi (by omega))), (((e5.a.b.tr (x9.b (by omega))).tr (y9.b (by omega))).tr (bM_wi (by omega))).tr ((bM_wi (by omega)).tr (bM_wi (by omega))), Or.inl ⟨?_, ?_, s3, by omega, y7.fr (((qC_wi (by omega)).tr (qC_wi (by omega))).tr (qC_wi (by omega))) (((qM_wi (by omega)).tr (qM_wi (by omega))).tr (qM_wi (by omega))), m, d, gs, a, b, ⟨?_, ?_, ?_, ⟨c + 1, by omega, wi_s _ _ _ _ _⟩, ?_, ?_⟩, ha, hb, ?_, ?_, ?_⟩⟩
        · unfold fX7_takesCouple
          rw [hc, if_pos n6c, e1, Option.bind_some, x1, Option.bind_some, if_neg np, nI_ix (show p < 6 by omega) (by omega), gd_tt, nI_cl (show p < 2147483648 by omega), if_pos x3, x4, Option.bind_some, y1, Option.bind_some, if_neg nq, if_neg y2, nI_ix (show q < 6 by omega) (by omega), gd_tt, nI_cl (show q < 2147483648 by omega), if_pos y3, y4, Option.bind_some, J]; rfl
        · unfold fX12_aCouple
          rw [t2001, hcm, if_neg n6m, e2, Option.bind_some, x5, Option.bind_some, if_neg one_ne, t2495, x6, y5, Option.bind_some, if_neg one_ne, t2496, z95, y6, a4r', a4r', nI_ix (show 2012 + 8 * p + 4 < 3000 by omega) (by omega), gd_tt, nI_ix (show 2012 + 8 * q + 4 < 3000 by omega) (by omega), gd_tt, nI_cl (show 2012 + 8 * p + 4 < 2147483648 by omega), nI_cl (show 2012 + 8 * q + 4 < 2147483648 by omega), wi_n (by omega), wi_n (by omega), m3, a1r]
        · refine P.cp4 (fun o j hq => ?_) (fun j hj => rfl) (fun j hj => ?_) (fun p hp => ?_)
          · simp only [wi_1, true_and, and_true]
            repeat' split
            all_goals first | rfl | omega
          · rw [sh_1]
            simp only [wi_1, sh_1, Nat.zero_add, true_and, and_true]
            repeat' split
            all_goals first | rfl | omega
          · rw [sh_2, wi_2, wi_2, wi_2, wi_2, wi_2, wi_2, sh_2]
        · rw [wi_n (by omega), wi_n (by omega), wi_n (by omega)]; exact B3.2.1
        · rw [wi_n (by omega), wi_n (by omega), wi_n (by omega)]; exact B3.2.2.1
        · intro i h1 h2
          have := B3.2.2.2.2.1 i h1 h2
          simp (disch := omega) only [wi_n]
          exact this
        · intro i hi
          rw [wi_n (by omega), wi_n (by omega), wi_n (by omega)]; exact B3.2.2.2.2.2 i hi
        · rw [wi_n (by omega), wi_n (by omega), wi_n (by omega), (y9 _ _ _ (by omega)).1, (x9 _ _ _ (by omega)).1, (e5 _ _ _ (by omega)).1]; exact f20
        · rw [wi_n (by omega), wi_n (by omega), wi_n (by omega), (y8 _ _ _ (by omega)).1, (x8 _ _ _ (by omega)).1, (e4 _ _ _ (by omega)).1]; exact f2
        · rw [wi_n (by omega), wi_n (by omega), wi_n (by omega), (y8 _ _ _ (by omega)).1, (x8 _ _ _ (by omega)).1, (e4 _ _ _ (by omega)).1]; exact f3
      · have y2 : fX12_mate (nI p) (2496 : Int32) M2 = some (0, M') := y2
        refine ⟨C', M', ((e4.tr x8).tr y4).b, (e5.a.b.tr (x9.b (by omega))).tr (y5.b (by omega)), Or.inr ⟨?_, ?_, y3⟩⟩
        · unfold fX7_takesCouple
          rw [hc, if_pos n6c, e1, Option.bind_some, x1, Option.bind_some, if_neg np, nI_ix (show p < 6 by omega) (by omega), gd_tt, nI_cl (show p < 2147483648 by omega), if_pos x3, x4, Option.bind_some]
          rcases y1 with y1 | ⟨q, q1, y1, q2, q3⟩
          · rw [y1, Option.bind_some, if_pos rfl]
          · have nq : ¬ nI q = (-1 : Int32) := fun z => (nI_ne1 (by omega)).mp z
            have F : fX7_takesCouple_106 C2 = some (0, C') := by
              unfold fX7_takesCouple_106
              rw [q3]; rfl
            rw [y1, Option.bind_some, if_neg nq]
            by_cases z : nI q = nI p
            · rw [if_pos z, F]
            · rw [if_neg z, nI_ix (show q < 6 by omega) (by omega), gd_tt, nI_cl (show q < 2147483648 by omega), if_neg (by rcases q2 with q2 | q2; exact absurd q2 z; exact q2), F]
        · unfold fX12_aCouple
          rw [t2001, hcm, if_neg n6m, e2, Option.bind_some, x5, Option.bind_some, if_neg one_ne, t2495, x6, y2, Option.bind_some, if_pos rfl]
    · have x2 : fX12_mate (-1 : Int32) (2495 : Int32) M1 = some (0, M') := x2
      refine ⟨C', M', (e4.tr x4).b, e5.a.b.tr (x5.b (by omega)), Or.inr ⟨?_, ?_, x3⟩⟩
      · unfold fX7_takesCouple
        rw [hc, if_pos n6c, e1, Option.bind_some]
        rcases x1 with x1 | ⟨q, q1, x1, q2, q3⟩
        · rw [x1, Option.bind_some, if_pos rfl]
        · have nq : ¬ nI q = (-1 : Int32) := fun z => (nI_ne1 (by omega)).mp z
          rw [x1, Option.bind_some, if_neg nq, nI_ix (show q < 6 by omega) (by omega), gd_tt, nI_cl (show q < 2147483648 by omega), if_neg (by rcases q2 with q2 | q2; exact absurd q2 nq; exact q2), q3]; rfl
      · unfold fX12_aCouple
        rw [t2001, hcm, if_neg n6m, e2, Option.bind_some, x2, Option.bind_some, if_pos rfl]
