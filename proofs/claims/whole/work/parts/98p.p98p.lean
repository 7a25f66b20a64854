/-! ===== texts: when ===== -/
def QT (m S r : Nat) (C M : mz_D) : Prop := yT m (fun o => C.1 2 o S) (fun i => M.1 0 201 (r + i))
theorem yTail {L s m S r hi : Nat} {C M : mz_D} (h : rdR L s C M) (Y : ys m S r C M) {k : Int32} (hk : ¬ k = 15) (hh : (k = 28 ∧ hi = 999) ∨ (¬ k = 28 ∧ hi = 9999)) : yo L s S r (fun C' M' => C'.1 2 124 S = M'.1 0 201 (r + 5) ∧ C'.1 2 125 S = M'.1 0 201 (r + 3) ∧ (M'.1 0 201 (r + 5) = 60 ∨ M'.1 0 201 (r + 5) = 61 ∨ M'.1 0 201 (r + 5) = 62) ∧ (∀ o, o ≠ 124 → o ≠ 125 → C'.1 2 o S = C.1 2 o S) ∧ (∀ j, j ≠ r + 5 → j ≠ r + 3 → M'.1 0 201 j = M.1 0 201 j)) C M (Option.bind (fX10_takesCompare C) fun q6 => (if q6.1 = 0 then (some ((0 : Int32), q6.2)) else (Option.bind (fX10_takesCount (nI 0) (nI hi) q6.2) fun q8 => (if q8.1 = 0 then (some ((0 : Int32), q8.2)) else (some ((1 : Int32), q8.2)))))) (fX12_test_82 (nI r) k M) := by
  have g5 := Y.2.2.2.2.1
  have g6 := Y.2.2.2.2.2
  have hi9 : hi < 100000 := by omega
  rcases yCmp h Y hk with ⟨x, s1, C1, M1, xx, l, e1, e2, e3, e4, e5, e6, e7, e8⟩ | ⟨C', M', e1, e2, e3, e4, e5⟩
  · have E2 : fX12_test_82 (nI r) k M = Option.bind (fX12_number (nI (r + 3)) (nI 0) (nI hi) M1) fun q => mz_gd (mz_bo q.1) (some (q.1, q.2)) := by
      rw [e2]
      unfold fX12_test_159
      rcases hh with ⟨rfl, rfl⟩ | ⟨h1, rfl⟩
      · rw [if_pos rfl]; rfl
      · rw [if_neg h1]; rfl
    have Y1 : ys m S r C1 M1 := Y.fr e6 (e7.p (by omega))
    rw [e1, E2, Option.bind_some, if_neg one_ne]
    rcases yCnt e5 Y1 (a := 0) (b := hi) (t := r + 3) (by omega) hi9 (by omega) with ⟨v, s2, C2, M2, v1, v2, l2, w1, w2, w3, w4, w5, w6, w7, w8⟩ | ⟨C2, M2, w1, w2, w3, w4, w5⟩
    · refine ⟨C2, M2, e6.tr w6, (e7.p (by omega)).tr (w7.p (by omega)), Or.inl ⟨?_, ?_, s2, by omega, w5, ?_, ?_, ?_, fun o o1 o2 => ?_, fun j j1 j2 => ?_⟩⟩
      · rw [w1, Option.bind_some, if_neg one_ne]
      · rw [w2]; rfl
      · rw [w8 _ _ (by omega), e3, (w7 _ _ _ (by omega)).1, e4]
      · rw [w3, w4]
      · rw [(w7 _ _ _ (by omega)).1, e4]; exact xx
      · rw [w8 _ _ o2, e8 _ _ o1]
      · rw [(w7 _ _ _ (by omega)).1, (e7 _ _ _ (by omega)).1]
    · refine ⟨C2, M2, e6.tr w4, (e7.p (by omega)).tr (w5.p (by omega)), Or.inr ⟨?_, ?_, w3⟩⟩
      · rw [w1, Option.bind_some, if_pos rfl]
      · rw [w2]; rfl
  · refine ⟨C', M', e4.q, e5.p, Or.inr ⟨?_, e2, e3⟩⟩
    rw [e1, Option.bind_some, if_pos rfl]
theorem yTest {L s m S r : Nat} {C M : mz_D} (h : rdR L s C M) (Y : ys m S r C M) (c0 : C.1 2 120 S = 24) : yo L s S r (QT m S r) C M (fX10_takesTest C) (fX12_yearOrder (24 : Int32) (nI r) M) := by
  obtain ⟨g1, g2, g3, g4, g5, g6⟩ := id Y
  have hm := g1.1
  have HM : fX12_yearOrder (24 : Int32) (nI r) M = Option.bind (fX12_test (nI r) M) fun q => mz_gd (mz_bo q.1) (some (q.1, q.2)) := by
    unfold fX12_yearOrder
    rw [if_neg (by decide), if_neg (by decide), if_neg (by decide), if_neg (by decide), if_neg (by decide), if_neg (by decide), if_neg (by decide), if_pos rfl]
  refine yo.y ?_ HM
  obtain ⟨km, k1, k2⟩ := h.key
  have K25 : C.1 0 2 2 = (25 : Int32) ↔ km = (28 : Int32) := k2.iff (a := 25) (b := 28) (by omega) (by decide)
  have K9 : C.1 0 2 2 = (9 : Int32) ↔ km = (3 : Int32) := k2.iff (a := 9) (b := 3) (by omega) (by decide)
  have K15 : C.1 0 2 2 = (15 : Int32) ↔ km = (15 : Int32) := k2.iff (a := 15) (b := 15) (by omega) (by decide)
  -- the test's word, then who
  have go : ∀ x y : Int32, ¬ C.1 0 2 2 = -1 → ∃ s1 C1 M1, s < s1 ∧ fX5_advance (mz_wi C 2 121 S x) = some C1 ∧ fX12_ahead (mz_wi M 0 201 r y) = some M1 ∧ rdR L s1 C1 M1 ∧ ys m S r C1 M1 ∧ aQ S C C1 ∧ aP r M M1 ∧ C1.1 2 120 S = 24 ∧ C1.1 2 121 S = x ∧ M1.1 0 201 r = y := fun x y hk => by
    have r1 : rdR L s (mz_wi C 2 121 S x) (mz_wi M 0 201 r y) := h.fr (qC_wi (by omega)) (qM_wi (by omega))
    obtain ⟨s1, C1, M1, l, e1, e2, e3, e4, e5⟩ := r1.advK (by rw [wi_n (by omega)]; exact hk)
    have f1 : aQ S C C1 := (aQ_wi (by omega)).tr e4.q
    have f2 : aP r M M1 := (aP_wi (by omega)).tr e5.a.p
    exact ⟨s1, C1, M1, l, e1, e2, e3, Y.fr f1 f2, f1, f2, by rw [(f1 _ _ _ (by omega)).1, c0], by rw [(e4 _ _ _ (by omega)).1, wi_s], by rw [(e5 _ _ _ (by omega)).1, wi_s]⟩
  unfold fX10_takesTest fX12_test
  rw [k1, Option.bind_some]
  by_cases q25 : C.1 0 2 2 = (25 : Int32)
  · obtain ⟨s1, C1, M1, l1, e1, e2, e3, Y1, f1, f2, z1, z2, z3⟩ := go 25 2428 (by rw [q25]; decide)
    rw [if_pos q25, if_pos (K25.mp q25), q25, K25.mp q25]
    unfold fX10_takesTest_35 fX12_test_30
    rw [g3, nI_ix g4 (by omega), gd_tt, nI_cl (by omega), e1, Option.bind_some, if_neg (by decide), nI_ix (show r < 3000 by omega) (by omega), gd_tt, nI_cl (show r < 2147483648 by omega), show (2400 : Int32) + 28 = 2428 from rfl, e2, Option.bind_some, a1r]
    rcases yPer e3 Y1 (t := r + 1) (by omega) with ⟨p, s2, C2, M2, p1, l2, x1, x2, x3, x4, x5, x6⟩ | ⟨C2, M2, x1, x2, x3, x4, x5⟩
    · have f3 : aQ S C (mz_wi C2 2 122 S (nI p)) := (f1.tr x5.q).tr (aQ_wi (by omega))
      have f4 : aP r M M2 := f2.tr (x6.p (by omega))
      have c52 : C2.1 0 301 5 = nI S := by rw [(x5 _ _ _ (by omega)).1, Y1.2.2.1]
      rw [x1, Option.bind_some, Y1.2.2.1, c52, nI_ix g4 (by omega), gd_tt, gd_tt, nI_cl (by omega), wi_s, if_neg (fun z => (nI_ne1 (by omega)).mp z), if_neg (show ¬ (25 : Int32) = 15 by decide), x2, Option.bind_some, if_neg one_ne, if_neg (show ¬ (28 : Int32) = 3 by decide)]
      obtain ⟨C3, M3, y1, y2, ⟨y3, y4, s3, l3, y5, y6, y7, y8, y9, y10⟩ | ⟨y3, y4, y5⟩⟩ := yTail (hi := 999) (k := 28) (x4.fr (qC_wi (D := C2) (g := 2) (o := 122) (j := S) (v := nI p) (by omega)) qM.rf) (Y.fr f3 f4) (by decide) (Or.inl ⟨rfl, rfl⟩)
      · refine ⟨C3, M3, f3.tr y1, f4.tr y2, Or.inl ⟨y3, y4, s3, by omega, y5, ?_, ?_, ⟨p, p1, ?_⟩, Or.inr ⟨y6, y7, y8, Or.inl ⟨?_, ?_⟩⟩⟩⟩
        · show C3.1 2 120 S = 24
          rw [y9 _ (by omega) (by omega), wi_n (by omega), (x5 _ _ _ (by omega)).1, z1]
        · show C3.1 2 122 S = M3.1 0 201 (r + 1)
          rw [y9 _ (by omega) (by omega), wi_s, y10 _ (by omega) (by omega), x3]
        · show M3.1 0 201 (r + 1) = nI p
          rw [y10 _ (by omega) (by omega), x3]
        · show M3.1 0 201 (r + 0) = 2428
          rw [y10 _ (by omega) (by omega), (x6 _ _ _ (by omega)).1]; exact z3
        · show C3.1 2 121 S = 25
          rw [y9 _ (by omega) (by omega), wi_n (by omega), (x5 _ _ _ (by omega)).1, z2]
      · exact ⟨C3, M3, f3.tr y1, f4.tr y2, Or.inr ⟨y3, y4, y5⟩⟩
    · have c52 : C2.1 0 301 5 = nI S := by rw [(x4 _ _ _ (by omega)).1, Y1.2.2.1]
      rw [x1, Option.bind_some, Y1.2.2.1, c52, nI_ix g4 (by omega), gd_tt, gd_tt, nI_cl (by omega), wi_s, if_pos rfl, x2, Option.bind_some, if_pos rfl]
      exact ⟨_, M2, (f1.tr x4.q).tr (aQ_wi (by omega)), f2.tr (x5.p (by omega)), Or.inr ⟨rfl, rfl, ⟨by rw [wi_n (by omega)]; exact x3.1, x3.2.1, by rw [wi_n (by omega)]; exact x3.2.2⟩⟩⟩
  · rw [if_neg q25, if_neg (fun q => q25 (K25.mpr q))]
    by_cases q9 : C.1 0 2 2 = (9 : Int32)
    · obtain ⟨s1, C1, M1, l1, e1, e2, e3, Y1, f1, f2, z1, z2, z3⟩ := go 9 2403 (by rw [q9]; decide)
      rw [if_pos q9, if_pos (K9.mp q9), q9, K9.mp q9]
      unfold fX10_takesTest_35 fX12_test_30 fX10_takesTwo
      rw [g3, nI_ix g4 (by omega), gd_tt, nI_cl (by omega), e1, Option.bind_some, if_pos rfl, nI_ix (show r < 3000 by omega) (by omega), gd_tt, nI_cl (show r < 2147483648 by omega), show (2400 : Int32) + 3 = 2403 from rfl, e2, Option.bind_some, a1r, a2r]
      rcases yPer e3 Y1 (t := r + 1) (by omega) with ⟨p, s2, C2, M2, p1, l2, x1, x2, x3, x4, x5, x6⟩ | ⟨C2, M2, x1, x2, x3, x4, x5⟩
      · have Y2 : ys m S r C2 M2 := Y1.fr x5.q (x6.p (by omega))
        rw [x1, Option.bind_some, if_neg (fun z => (nI_ne1 (by omega)).mp z), if_pos (show (-1 : Int32) = -1 from rfl), x2, Option.bind_some, if_neg one_ne, if_pos (show (3 : Int32) = 3 from rfl), z0, Y2.2.1]
        rcases yTwo x4 Y2 p1 x3 with ⟨q, s3, C3, M3, q1, qp, l3, w1, w2, w3, w4, w5, w6, w7, w8, w9⟩ | ⟨C3, M3, w1, w2, w3, w7, w8⟩
        · have f3 : aQ S C C3 := (f1.tr x5.q).tr w7
          have f4 : aP r M M3 := (f2.tr (x6.p (by omega))).tr (w8.p (by omega))
          rw [w1, Option.bind_some, if_neg one_ne, w2, Option.bind_some, if_neg one_ne]
          obtain ⟨C4, M4, y1, y2, ⟨y3, y4, s4, l4, y5, y6, y7, y8, y9, y10⟩ | ⟨y3, y4, y5⟩⟩ := yTail (hi := 9999) (k := 3) w6 (Y.fr f3 f4) (by decide) (Or.inr ⟨by decide, rfl⟩)
          · refine ⟨C4, M4, f3.tr y1, f4.tr y2, Or.inl ⟨y3, y4, s4, by omega, y5, ?_, ?_, ⟨p, p1, ?_⟩, Or.inr ⟨y6, y7, y8, Or.inr ⟨?_, ?_, ?_, q, q1, ?_⟩⟩⟩⟩
            · show C4.1 2 120 S = 24
              rw [y9 _ (by omega) (by omega), (w7 _ _ _ (by omega)).1, (x5 _ _ _ (by omega)).1, z1]
            · show C4.1 2 122 S = M4.1 0 201 (r + 1)
              rw [y9 _ (by omega) (by omega), w3, y10 _ (by omega) (by omega), (w8 _ _ _ (by omega)).1, x3]
            · show M4.1 0 201 (r + 1) = nI p
              rw [y10 _ (by omega) (by omega), (w8 _ _ _ (by omega)).1, x3]
            · show M4.1 0 201 (r + 0) = 2403
              rw [y10 _ (by omega) (by omega), (w8 _ _ _ (by omega)).1, (x6 _ _ _ (by omega)).1]; exact z3
            · show C4.1 2 121 S = 9
              rw [y9 _ (by omega) (by omega), w9, (x5 _ _ _ (by omega)).1, z2]
            · show C4.1 2 123 S = M4.1 0 201 (r + 2)
              rw [y9 _ (by omega) (by omega), w4, y10 _ (by omega) (by omega), w5]
            · show M4.1 0 201 (r + 2) = nI q
              rw [y10 _ (by omega) (by omega), w5]
          · exact ⟨C4, M4, f3.tr y1, f4.tr y2, Or.inr ⟨y3, y4, y5⟩⟩
        · rw [w1, Option.bind_some, if_pos rfl, w2, Option.bind_some, if_pos rfl]
          exact ⟨C3, M3, (f1.tr x5.q).tr w7, (f2.tr (x6.p (by omega))).tr (w8.p (by omega)), Or.inr ⟨rfl, rfl, w3⟩⟩
      · rw [x1, Option.bind_some, if_pos rfl, x2, Option.bind_some, if_pos rfl]
        exact ⟨C2, M2, f1.tr x4.q, f2.tr (x5.p (by omega)), Or.inr ⟨rfl, rfl, x3⟩⟩
    · rw [if_neg q9, if_neg (fun q => q9 (K9.mpr q))]
      by_cases q15 : C.1 0 2 2 = (15 : Int32)
      · obtain ⟨s1, C1, M1, l1, e1, e2, e3, Y1, f1, f2, z1, z2, z3⟩ := go 15 2415 (by rw [q15]; decide)
        rw [if_pos q15, if_pos (K15.mp q15), q15, K15.mp q15]
        unfold fX10_takesTest_35 fX12_test_30
        rw [g3, nI_ix g4 (by omega), gd_tt, nI_cl (by omega), e1, Option.bind_some, if_neg (by decide), nI_ix (show r < 3000 by omega) (by omega), gd_tt, nI_cl (show r < 2147483648 by omega), show (2400 : Int32) + 15 = 2415 from rfl, e2, Option.bind_some, a1r]
        rcases yPer e3 Y1 (t := r + 1) (by omega) with ⟨p, s2, C2, M2, p1, l2, x1, x2, x3, x4, x5, x6⟩ | ⟨C2, M2, x1, x2, x3, x4, x5⟩
        · have c52 : C2.1 0 301 5 = nI S := by rw [(x5 _ _ _ (by omega)).1, Y1.2.2.1]
          rw [x1, Option.bind_some, Y1.2.2.1, c52, nI_ix g4 (by omega), gd_tt, gd_tt, nI_cl (by omega), wi_s, if_neg (fun z => (nI_ne1 (by omega)).mp z), if_pos (show (15 : Int32) = 15 from rfl), x2, Option.bind_some, if_neg one_ne, if_neg (show ¬ (15 : Int32) = 3 by decide)]
          refine ⟨_, M2, (f1.tr x5.q).tr (aQ_wi (by omega)), f2.tr (x6.p (by omega)), Or.inl ⟨rfl, ?_, s2, by omega, x4.fr (qC_wi (by omega)) qM.rf, ?_, ?_, ⟨p, p1, ?_⟩, Or.inl ⟨?_, ?_⟩⟩⟩
          · unfold fX12_test_82
            rw [if_pos rfl]
          · show (mz_wi C2 2 122 S (nI p)).1 2 120 S = 24
            rw [wi_n (by omega), (x5 _ _ _ (by omega)).1, z1]
          · show (mz_wi C2 2 122 S (nI p)).1 2 122 S = M2.1 0 201 (r + 1)
            rw [wi_s, x3]
          · show M2.1 0 201 (r + 1) = nI p
            exact x3
          · show M2.1 0 201 (r + 0) = 2415
            rw [(x6 _ _ _ (by omega)).1]; exact z3
          · show (mz_wi C2 2 122 S (nI p)).1 2 121 S = 15
            rw [wi_n (by omega), (x5 _ _ _ (by omega)).1, z2]
        · have c52 : C2.1 0 301 5 = nI S := by rw [(x4 _ _ _ (by omega)).1, Y1.2.2.1]
          rw [x1, Option.bind_some, Y1.2.2.1, c52, nI_ix g4 (by omega), gd_tt, gd_tt, nI_cl (by omega), wi_s, if_pos rfl, x2, Option.bind_some, if_pos rfl]
          exact ⟨_, M2, (f1.tr x4.q).tr (aQ_wi (by omega)), f2.tr (x5.p (by omega)), Or.inr ⟨rfl, rfl, ⟨by rw [wi_n (by omega)]; exact x3.1, x3.2.1, by rw [wi_n (by omega)]; exact x3.2.2⟩⟩⟩
      · rw [if_neg q15, if_neg (fun q => q15 (K15.mpr q))]
        obtain ⟨C', M', a1, a2, a3, a4, a5⟩ := h.fail (k := 2) (by decide)
        refine ⟨C', M', a4.q, a5.p, Or.inr ⟨?_, ?_, a3⟩⟩
        · rw [a1]; rfl
        · rw [a2]; rfl
