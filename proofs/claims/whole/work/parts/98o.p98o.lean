/-! ===== texts: duels, loans, gifts, loops, tests ===== -/
def ref2 (x r : Nat) (K : mz_D → Option (Int32 × mz_D)) (M : mz_D) : Option (Int32 × mz_D) := (Option.bind (fX12_personTo (nI (r + 1)) M) fun q8 => (if q8.1 = 0 then (some ((0 : Int32), q8.2)) else (Option.bind (fX12_wantWord (nI x) q8.2) fun q10 => (if q10.1 = 0 then (some ((0 : Int32), q10.2)) else (Option.bind (fX12_otherOne (0 : Int32) (q10.2.1 0 201 ((0 : Int32)).toNatClampNeg) (nI (r + 1)) (nI (r + 2)) q10.2) fun q12 => (if q12.1 = 0 then (some ((0 : Int32), q12.2)) else (K q12.2)))))))
theorem yTwoW {L s m S r x : Nat} {C M : mz_D} (h : rdR L s C M) (Y : ys m S r C M) (hx : x < 29) (hp : pm x = x) (K : mz_D → Option (Int32 × mz_D)) : (∃ p q s' C' M', p < m ∧ q < m ∧ p ≠ q ∧ s < s' ∧ fX10_takesTwo (nI x) C = some (1, C') ∧ ref2 x r K M = K M' ∧ C'.1 2 122 S = nI p ∧ C'.1 2 123 S = nI q ∧ M'.1 0 201 (r + 1) = nI p ∧ M'.1 0 201 (r + 2) = nI q ∧ rdR L s' C' M' ∧ aQ S C C' ∧ aP r M M' ∧ ∀ j, j ≠ r + 1 → j ≠ r + 2 → M'.1 0 201 j = M.1 0 201 j) ∨ (∃ C' M', fX10_takesTwo (nI x) C = some (0, C') ∧ ref2 x r K M = some (0, M') ∧ fl C' M' ∧ aQ S C C' ∧ aP r M M') := by
  obtain ⟨g1, g2, g3, g4, g5, g6⟩ := id Y
  have hm := g1.1
  unfold fX10_takesTwo ref2
  rcases yPer h Y (t := r + 1) (by omega) with ⟨p, s1, C1, M1, p1, l1, x1, x2, x3, x4, x5, x6⟩ | ⟨C1, M1, x1, x2, x3, x4, x5⟩
  · have Y1 : ys m S r C1 M1 := Y.fr x5.q (x6.p (by omega))
    rw [x1, Option.bind_some, if_neg (fun z => (nI_ne1 (by omega)).mp z), if_neg (fun z => (nI_ne1 (by omega)).mp z), x2, Option.bind_some, if_neg one_ne]
    rcases sWord x4 hx hp with ⟨s2, C2, M2, l2, y1, y2, y3, y4, y5⟩ | ⟨C2, M2, y1, y2, y3, y4, y5⟩
    · have Y2 : ys m S r C2 M2 := Y1.fr y4.q y5.p
      rw [y1, Option.bind_some, if_neg one_ne, y2, Option.bind_some, if_neg one_ne, z0, Y2.2.1]
      rcases yTwo y3 Y2 p1 (by rw [(y5 _ _ _ (by omega)).1, x3]) with ⟨q, s3, C3, M3, q1, qp, l3, w1, w2, w3, w4, w5, w6, w7, w8, -⟩ | ⟨C3, M3, w1, w2, w3, w7, w8⟩
      · refine Or.inl ⟨p, q, s3, C3, M3, p1, q1, fun z => qp z.symm, by omega, w1, ?_, w3, w4, ?_, w5, w6, (x5.q.tr y4.q).tr w7, ((x6.p (by omega)).tr y5.p).tr (w8.p (by omega)), fun j j1 j2 => ?_⟩
        · rw [w2, Option.bind_some, if_neg one_ne]
        · rw [(w8 _ _ _ (by omega)).1, (y5 _ _ _ (by omega)).1, x3]
        · rw [(w8 _ _ _ (by omega)).1, (y5 _ _ _ (by omega)).1, (x6 _ _ _ (by omega)).1]
      · refine Or.inr ⟨C3, M3, w1, ?_, w3, (x5.q.tr y4.q).tr w7, ((x6.p (by omega)).tr y5.p).tr (w8.p (by omega))⟩
        rw [w2, Option.bind_some, if_pos rfl]
    · refine Or.inr ⟨C2, M2, ?_, ?_, y3, x5.q.tr y4.q, (x6.p (by omega)).tr y5.p⟩
      · rw [y1, Option.bind_some, if_pos rfl]
      · rw [y2, Option.bind_some, if_pos rfl]
  · refine Or.inr ⟨C1, M1, ?_, ?_, x3, x4.q, x5.p (by omega)⟩
    · rw [x1, Option.bind_some, if_pos rfl]
    · rw [x2, Option.bind_some, if_pos rfl]
theorem yo.x {L s S r : Nat} {Q : mz_D → mz_D → Prop} {C M : mz_D} {x y x' : Option (Int32 × mz_D)} (h : yo L s S r Q C M x y) (hx : x' = Option.bind x fun q => mz_gd (mz_bo q.1) (some (q.1, q.2))) : yo L s S r Q C M x' y := by
  obtain ⟨C', M', f1, f2, ⟨rfl, h2, h3⟩ | ⟨rfl, h2, h3⟩⟩ := h
  · exact ⟨C', M', f1, f2, Or.inl ⟨hx, h2, h3⟩⟩
  · exact ⟨C', M', f1, f2, Or.inr ⟨hx, h2, h3⟩⟩
theorem yo.y {L s S r : Nat} {Q : mz_D → mz_D → Prop} {C M : mz_D} {x y y' : Option (Int32 × mz_D)} (h : yo L s S r Q C M x y) (hy : y' = Option.bind y fun q => mz_gd (mz_bo q.1) (some (q.1, q.2))) : yo L s S r Q C M x y' := by
  obtain ⟨C', M', f1, f2, ⟨h1, rfl, h3⟩ | ⟨h1, rfl, h3⟩⟩ := h
  · exact ⟨C', M', f1, f2, Or.inl ⟨h1, hy, h3⟩⟩
  · exact ⟨C', M', f1, f2, Or.inr ⟨h1, hy, h3⟩⟩
/-- the fields of a plain step -/
def QF (m S r : Nat) (C M : mz_D) : Prop := yF m (fun o => C.1 2 o S) (fun i => M.1 0 201 (r + i))
theorem yDinR {L s m S r : Nat} {C M : mz_D} (h : rdR L s C M) (Y : ys m S r C M) (c0 : C.1 2 120 S = 17) (c2 : C.1 2 122 S = -1) (m0 : M.1 0 201 r = 17) : yo L s S r (QF m S r) C M (fX10_takesRest C) (fX12_yearOrder (17 : Int32) (nI r) M) := by
  have g3 := Y.2.2.1
  have g4 := Y.2.2.2.1
  refine yo.x (yDin h Y c0 c2 m0) ?_
  unfold fX10_takesRest
  rw [g3, nI_ix g4 (by omega), gd_tt, nI_cl (by omega), c0, if_pos rfl]
theorem yDuelR {L s m S r : Nat} {C M : mz_D} (h : rdR L s C M) (Y : ys m S r C M) (c0 : C.1 2 120 S = 18) (m0 : M.1 0 201 r = 18) : yo L s S r (QF m S r) C M (fX10_takesRest C) (fX12_yearOrder (18 : Int32) (nI r) M) := by
  have g3 := Y.2.2.1
  have g4 := Y.2.2.2.1
  have HC : fX10_takesRest C = Option.bind (fX10_takesTwo (22 : Int32) C) fun q => mz_gd (mz_bo q.1) (some (q.1, q.2)) := by
    unfold fX10_takesRest
    rw [g3, nI_ix g4 (by omega), gd_tt, nI_cl (by omega), c0, if_neg (by decide), if_pos rfl]
  have HM : fX12_yearOrder (18 : Int32) (nI r) M = ref2 22 r (fun D => some ((1 : Int32), D)) M := by
    unfold fX12_yearOrder ref2
    rw [if_neg (by decide), if_pos rfl, a1r, a2r]; rfl
  rw [HC, HM]
  rcases yTwoW h Y (x := 22) (by omega) (by decide) (fun D => some ((1 : Int32), D)) with ⟨p, q, s', C', M', p1, q1, pq, l, x1, x2, x3, x4, x5, x6, x7, x8, x9, x10⟩ | ⟨C', M', x1, x2, x3, x8, x9⟩
  · have x1 : fX10_takesTwo (22 : Int32) C = some (1, C') := x1
    refine ⟨C', M', x8, x9, Or.inl ⟨by rw [x1]; rfl, x2, s', by omega, x7, Or.inr (Or.inl ⟨?_, ?_, ?_, ?_, p, q, p1, q1, pq, x5, x6⟩)⟩⟩
    · show M'.1 0 201 (r + 0) = 18
      rw [x10 _ (by omega) (by omega)]; exact m0
    · show C'.1 2 120 S = 18
      rw [(x8 _ _ _ (by omega)).1, c0]
    · show C'.1 2 122 S = M'.1 0 201 (r + 1)
      rw [x3, x5]
    · show C'.1 2 123 S = M'.1 0 201 (r + 2)
      rw [x4, x6]
  · have x1 : fX10_takesTwo (22 : Int32) C = some (0, C') := x1
    exact ⟨C', M', x8, x9, Or.inr ⟨by rw [x1]; rfl, x2, x3⟩⟩
theorem yGiveR {L s m S r : Nat} {C M : mz_D} {k : Int32} (hk : k = 19 ∨ k = 20) (h : rdR L s C M) (Y : ys m S r C M) (c0 : C.1 2 120 S = k) (m0 : M.1 0 201 r = k) : yo L s S r (QF m S r) C M (fX10_takesRest C) (fX12_yearOrder k (nI r) M) := by
  have g3 := Y.2.2.1
  have g4 := Y.2.2.2.1
  have g5 := Y.2.2.2.2.1
  have g6 := Y.2.2.2.2.2
  have HC : fX10_takesRest C = (Option.bind (fX10_takesTwo (23 : Int32) C) fun q9 => (if q9.1 = 0 then (some ((0 : Int32), q9.2)) else (Option.bind (fX10_takesCount (1 : Int32) (999 : Int32) q9.2) fun q11 => (if q11.1 = 0 then (some ((0 : Int32), q11.2)) else (some ((1 : Int32), q11.2)))))) := by
    unfold fX10_takesRest
    rw [g3, nI_ix g4 (by omega), gd_tt, nI_cl (by omega), c0]
    rcases hk with rfl | rfl
    · rw [if_neg (by decide), if_neg (by decide), if_pos rfl]
    · rw [if_neg (by decide), if_neg (by decide), if_neg (by decide), if_pos rfl]
  have HM : fX12_yearOrder k (nI r) M = ref2 23 r (fun D => (Option.bind (fX12_number (nI (r + 3)) (1 : Int32) (999 : Int32) D) fun q21 => (if q21.1 = 0 then (some ((0 : Int32), q21.2)) else (some ((1 : Int32), q21.2))))) M := by
    unfold fX12_yearOrder ref2
    rcases hk with rfl | rfl
    · rw [if_neg (by decide), if_neg (by decide), if_pos rfl, a1r, a2r, a3r]; rfl
    · rw [if_neg (by decide), if_neg (by decide), if_neg (by decide), if_pos rfl, a1r, a2r, a3r]; rfl
  rw [HC, HM]
  rcases yTwoW h Y (x := 23) (by omega) (by decide) (fun D => (Option.bind (fX12_number (nI (r + 3)) (1 : Int32) (999 : Int32) D) fun q21 => (if q21.1 = 0 then (some ((0 : Int32), q21.2)) else (some ((1 : Int32), q21.2))))) with ⟨p, q, s1, C1, M1, p1, q1, pq, l, x1, x2, x3, x4, x5, x6, x7, x8, x9, x10⟩ | ⟨C', M', x1, x2, x3, x8, x9⟩
  · have x1 : fX10_takesTwo (23 : Int32) C = some (1, C1) := x1
    have Y1 : ys m S r C1 M1 := Y.fr x8 x9
    rcases yCnt x7 Y1 (a := 1) (b := 999) (t := r + 3) (by omega) (by omega) (by omega) with ⟨v, s2, C2, M2, v1, v2, l2, w1, w2, w3, w4, w5, w6, w7, w8⟩ | ⟨C2, M2, w1, w2, w3, w4, w5⟩
    · have w1 : fX10_takesCount (1 : Int32) (999 : Int32) C1 = some (1, C2) := w1
      have w2 : fX12_number (nI (r + 3)) (1 : Int32) (999 : Int32) M1 = some (1, M2) := w2
      refine ⟨C2, M2, x8.tr w6, x9.tr (w7.p (by omega)), Or.inl ⟨?_, ?_, s2, by omega, w5, Or.inr (Or.inr (Or.inl ⟨?_, ?_, ?_, ?_, ?_, ?_, p, q, p1, q1, pq, ?_, ?_⟩))⟩⟩
      · rw [x1, Option.bind_some, if_neg one_ne, w1, Option.bind_some, if_neg one_ne]
      · rw [x2, w2, Option.bind_some, if_neg one_ne]
      · show M2.1 0 201 (r + 0) = 19 ∨ M2.1 0 201 (r + 0) = 20
        rw [(w7 _ _ _ (by omega)).1, x10 _ (by omega) (by omega)]
        rcases hk with rfl | rfl
        · exact Or.inl m0
        · exact Or.inr m0
      · show C2.1 2 120 S = M2.1 0 201 (r + 0)
        rw [w8 _ _ (by omega), (x8 _ _ _ (by omega)).1, c0, (w7 _ _ _ (by omega)).1, x10 _ (by omega) (by omega)]
        exact m0.symm
      · show C2.1 2 122 S = M2.1 0 201 (r + 1)
        rw [w8 _ _ (by omega), x3, (w7 _ _ _ (by omega)).1, x5]
      · show C2.1 2 123 S = M2.1 0 201 (r + 2)
        rw [w8 _ _ (by omega), x4, (w7 _ _ _ (by omega)).1, x6]
      · show C2.1 2 125 S = M2.1 0 201 (r + 3)
        rw [w3, w4]
      · show bd (M2.1 0 201 (r + 3)) 1 999
        rw [w4]
        unfold bd
        rw [nI_toInt (by omega)]
        omega
      · show M2.1 0 201 (r + 1) = nI p
        rw [(w7 _ _ _ (by omega)).1, x5]
      · show M2.1 0 201 (r + 2) = nI q
        rw [(w7 _ _ _ (by omega)).1, x6]
    · have w1 : fX10_takesCount (1 : Int32) (999 : Int32) C1 = some (0, C2) := w1
      have w2 : fX12_number (nI (r + 3)) (1 : Int32) (999 : Int32) M1 = some (0, M2) := w2
      refine ⟨C2, M2, x8.tr w4, x9.tr (w5.p (by omega)), Or.inr ⟨?_, ?_, w3⟩⟩
      · rw [x1, Option.bind_some, if_neg one_ne, w1, Option.bind_some, if_pos rfl]
      · rw [x2, w2, Option.bind_some, if_pos rfl]
  · have x1 : fX10_takesTwo (23 : Int32) C = some (0, C') := x1
    refine ⟨C', M', x8, x9, Or.inr ⟨?_, x2, x3⟩⟩
    rw [x1, Option.bind_some, if_pos rfl]
theorem yBareR {L s m S r : Nat} {C M : mz_D} (h : rdR L s C M) (Y : ys m S r C M) (hk : (C.1 2 120 S = 21 ∧ M.1 0 201 r = 21) ∨ (C.1 2 120 S = 28 ∧ M.1 0 201 r = 27)) : yo L s S r (QF m S r) C M (fX10_takesRest C) (fX12_yearOrder (M.1 0 201 r) (nI r) M) := by
  have g3 := Y.2.2.1
  have g4 := Y.2.2.2.1
  refine ⟨C, M, aQ.rf, aP.rf, Or.inl ⟨?_, ?_, s, Nat.le_refl _, h, ?_⟩⟩
  · unfold fX10_takesRest
    rw [g3, nI_ix g4 (by omega), gd_tt, nI_cl (by omega)]
    rcases hk with ⟨c0, m0⟩ | ⟨c0, m0⟩
    · rw [c0, if_neg (by decide), if_neg (by decide), if_neg (by decide), if_neg (by decide), if_pos rfl]
    · rw [c0, if_neg (by decide), if_neg (by decide), if_neg (by decide), if_neg (by decide), if_neg (by decide), if_neg (by decide), if_neg (by decide), if_neg (by decide), if_neg (by decide), if_neg (by decide)]
  · unfold fX12_yearOrder
    rcases hk with ⟨c0, m0⟩ | ⟨c0, m0⟩
    · rw [m0, if_neg (by decide), if_neg (by decide), if_neg (by decide), if_neg (by decide), if_pos rfl]
    · rw [m0, if_neg (by decide), if_neg (by decide), if_neg (by decide), if_neg (by decide), if_neg (by decide), if_neg (by decide), if_neg (by decide), if_neg (by decide), if_neg (by decide)]
  · rcases hk with ⟨c0, m0⟩ | ⟨c0, m0⟩
    · exact Or.inr (Or.inr (Or.inr (Or.inl ⟨m0, c0⟩)))
    · exact Or.inr (Or.inr (Or.inr (Or.inr ⟨m0, c0⟩)))
/-- a loop's -/
def QL (S r : Nat) (C M : mz_D) : Prop := M.1 0 201 r = 25 ∧ C.1 2 120 S = 26 ∧ C.1 2 125 S = M.1 0 201 (r + 1) ∧ bd (M.1 0 201 (r + 1)) 1 99
theorem yLoopR {L s m S r : Nat} {C M : mz_D} (h : rdR L s C M) (Y : ys m S r C M) (c0 : C.1 2 120 S = 26) (m0 : M.1 0 201 r = 25) : yo L s S r (QL S r) C M (fX10_takesRest C) (fX12_yearOrder (25 : Int32) (nI r) M) := by
  have g3 := Y.2.2.1
  have g4 := Y.2.2.2.1
  have g5 := Y.2.2.2.2.1
  have g6 := Y.2.2.2.2.2
  have HC : fX10_takesRest C = Option.bind (fX10_takesCount (1 : Int32) (99 : Int32) C) fun q => mz_gd (mz_bo q.1) (some (q.1, q.2)) := by
    unfold fX10_takesRest
    rw [g3, nI_ix g4 (by omega), gd_tt, nI_cl (by omega), c0, if_neg (by decide), if_neg (by decide), if_neg (by decide), if_neg (by decide), if_neg (by decide), if_neg (by decide), if_neg (by decide), if_neg (by decide), if_neg (by decide), if_pos rfl]
  have HM : fX12_yearOrder (25 : Int32) (nI r) M = Option.bind (fX12_number (nI (r + 1)) (1 : Int32) (99 : Int32) M) fun q => mz_gd (mz_bo q.1) (some (q.1, q.2)) := by
    unfold fX12_yearOrder
    rw [if_neg (by decide), if_neg (by decide), if_neg (by decide), if_neg (by decide), if_neg (by decide), if_neg (by decide), if_neg (by decide), if_neg (by decide), if_pos rfl, a1r]
  rw [HC, HM]
  rcases yCnt h Y (a := 1) (b := 99) (t := r + 1) (by omega) (by omega) (by omega) with ⟨v, s2, C2, M2, v1, v2, l2, w1, w2, w3, w4, w5, w6, w7, w8⟩ | ⟨C2, M2, w1, w2, w3, w4, w5⟩
  · have w1 : fX10_takesCount (1 : Int32) (99 : Int32) C = some (1, C2) := w1
    have w2 : fX12_number (nI (r + 1)) (1 : Int32) (99 : Int32) M = some (1, M2) := w2
    refine ⟨C2, M2, w6, w7.p (by omega), Or.inl ⟨by rw [w1]; rfl, by rw [w2]; rfl, s2, by omega, w5, ?_, ?_, ?_, ?_⟩⟩
    · rw [(w7 _ _ _ (by omega)).1, m0]
    · rw [w8 _ _ (by omega), c0]
    · rw [w3, w4]
    · rw [w4]
      unfold bd
      rw [nI_toInt (by omega)]
      omega
  · have w1 : fX10_takesCount (1 : Int32) (99 : Int32) C = some (0, C2) := w1
    have w2 : fX12_number (nI (r + 1)) (1 : Int32) (99 : Int32) M = some (0, M2) := w2
    exact ⟨C2, M2, w4, w5.p (by omega), Or.inr ⟨by rw [w1]; rfl, by rw [w2]; rfl, w3⟩⟩
/-- a test compares -/
theorem yCmp {L s m S r : Nat} {C M : mz_D} (h : rdR L s C M) (Y : ys m S r C M) {k : Int32} (hk : ¬ k = 15) : (∃ x s' C' M', (x = 60 ∨ x = 61 ∨ x = 62) ∧ s < s' ∧ fX10_takesCompare C = some (1, C') ∧ fX12_test_82 (nI r) k M = (if k = (28 : Int32) then fX12_test_159 (999 : Int32) (0 : Int32) (nI (r + 3)) M' else fX12_test_159 (9999 : Int32) (0 : Int32) (nI (r + 3)) M') ∧ C'.1 2 124 S = x ∧ M'.1 0 201 (r + 5) = x ∧ rdR L s' C' M' ∧ aQ S C C' ∧ aT (r + 5) M M' ∧ ∀ o j, o ≠ 124 → C'.1 2 o j = C.1 2 o j) ∨ (∃ C' M', fX10_takesCompare C = some (0, C') ∧ fX12_test_82 (nI r) k M = some (0, M') ∧ fl C' M' ∧ aC C C' ∧ aM M M') := by
  obtain ⟨g1, g2, g3, g4, g5, g6⟩ := id Y
  have go : ∀ x : Int32, C.1 0 2 6 = 3 → C.1 0 2 8 = x → M.1 0 200 15 = x → ∃ s' C' M', s < s' ∧ fX10_takesCompare_35 x C = some (1, C') ∧ fX12_test_123 (nI r) k M = (if k = (28 : Int32) then fX12_test_159 (999 : Int32) (0 : Int32) (nI (r + 3)) M' else fX12_test_159 (9999 : Int32) (0 : Int32) (nI (r + 3)) M') ∧ C'.1 2 124 S = x ∧ M'.1 0 201 (r + 5) = x ∧ rdR L s' C' M' ∧ aQ S C C' ∧ aT (r + 5) M M' ∧ ∀ o j, o ≠ 124 → C'.1 2 o j = C.1 2 o j := fun x q6 q8 q15 => by
    have r1 : rdR L s (mz_wi C 2 124 S x) (mz_wi M 0 201 (r + 5) x) := h.fr (qC_wi (by omega)) (qM_wi (by omega))
    obtain ⟨s', C', M', l, e1, e2, e3, e4, e5⟩ := r1.adv (by rw [wi_n (by omega), q6]; decide) (by rw [wi_n (by omega), q6]; decide)
    refine ⟨s', C', M', l, ?_, ?_, by rw [(e4 _ _ _ (by omega)).1, wi_s], by rw [(e5 _ _ _ (by omega)).1, wi_s], e3, (aQ_wi (by omega)).tr e4.q, aT_wi.tr e5.a.t, fun o j ho => by rw [(e4 _ _ _ (by omega)).1, wi_n (by omega)]⟩
    · unfold fX10_takesCompare_35
      rw [g3, nI_ix g4 (by omega), gd_tt, nI_cl (by omega), e1]; rfl
    · unfold fX12_test_123
      rw [a5r, nI_ix (show r + 5 < 3000 by omega) (by omega), gd_tt, nI_cl (by omega), q15, e2, Option.bind_some, a3r]
  unfold fX10_takesCompare fX12_test_82 fX5_signHere
  rw [if_neg hk, ← h.isg, ← h.isg, ← h.isg]
  unfold fX5_isSign
  rcases h.sg with ⟨q1, q2, q3, q4⟩ | ⟨q1, q2⟩
  · rw [if_pos q1, if_pos q1, if_pos q1, if_pos q1]
    rcases q4 with q4 | q4 | q4 | q4
    · obtain ⟨C', M', a1, a2, a3, a4, a5⟩ := h.fail (k := 2) (by decide)
      refine Or.inr ⟨C', M', ?_, ?_, a3, a4, a5⟩
      · rw [if_neg (by rw [q4]; decide), if_neg (by rw [q4]; decide), if_neg (by rw [q4]; decide), a1]; rfl
      · rw [if_neg (show ¬ C.1 0 2 8 = 60 by rw [q4]; decide), if_neg (show ¬ C.1 0 2 8 = 62 by rw [q4]; decide), if_neg (show ¬ C.1 0 2 8 = 61 by rw [q4]; decide), if_pos rfl, if_pos rfl, if_pos rfl, a2]; rfl
    · obtain ⟨s', C', M', l, e1, e2, e3, e4, e5, e6, e7, e8⟩ := go 60 q1 q4 (by rw [q3, q4])
      refine Or.inl ⟨60, s', C', M', Or.inl rfl, l, ?_, ?_, e3, e4, e5, e6, e7, e8⟩
      · rw [if_pos q4, q4, e1]
      · rw [if_pos q4, if_neg one_ne, e2]
    · obtain ⟨s', C', M', l, e1, e2, e3, e4, e5, e6, e7, e8⟩ := go 61 q1 q4 (by rw [q3, q4])
      refine Or.inl ⟨61, s', C', M', Or.inr (Or.inl rfl), l, ?_, ?_, e3, e4, e5, e6, e7, e8⟩
      · rw [if_neg (by rw [q4]; decide), if_neg (by rw [q4]; decide), if_pos q4, q4, e1]
      · rw [if_neg (show ¬ C.1 0 2 8 = 60 by rw [q4]; decide), if_neg (show ¬ C.1 0 2 8 = 62 by rw [q4]; decide), if_pos q4, if_pos rfl, if_pos rfl, if_neg one_ne, e2]
    · obtain ⟨s', C', M', l, e1, e2, e3, e4, e5, e6, e7, e8⟩ := go 62 q1 q4 (by rw [q3, q4])
      refine Or.inl ⟨62, s', C', M', Or.inr (Or.inr rfl), l, ?_, ?_, e3, e4, e5, e6, e7, e8⟩
      · rw [if_neg (by rw [q4]; decide), if_pos q4, q4, e1]
      · rw [if_neg (show ¬ C.1 0 2 8 = 60 by rw [q4]; decide), if_pos q4, if_pos rfl, if_neg one_ne, e2]
  · rw [if_neg q1, if_neg q1, if_neg q1, if_neg q1]
    obtain ⟨C', M', a1, a2, a3, a4, a5⟩ := h.fail (k := 2) (by decide)
    refine Or.inr ⟨C', M', ?_, ?_, a3, a4, a5⟩
    · rw [if_neg (by decide), if_neg (by decide), if_neg (by decide), a1]; rfl
    · rw [if_pos rfl, if_pos rfl, if_pos rfl, a2]; rfl
