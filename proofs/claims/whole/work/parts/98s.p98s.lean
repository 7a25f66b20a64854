/-! ===== texts: an end, any step ===== -/
theorem m2130 (N : Nat) : (2130 : Int32) + (6 : Int32) * nI N = nI (2130 + 6 * N) := by
  rw [l6m]
  exact nI_add 2130 (6 * N)
theorem endY {L s m N S : Nat} {C M : mz_D} {c e : Nat → Nat} {enc : Nat → List Nat} {ob : List (Nat × Bool)} {x2 : Int32} (h : rdR L s C M) (W : yw m N S C M c e enc ob) (k27 : C.1 0 2 2 = 27) (k1 : fX12_inWords M = some 26) (hx2 : ¬ (300 : Int32) ≤ x2) : yout L s m x2 C M := by
  have hk : ¬ C.1 0 2 2 = -1 := by rw [k27]; decide
  have io : fX5_isOver C = 0 := by unfold fX5_isOver; rw [if_neg (by rw [(h.wd hk).1]; decide)]
  obtain ⟨W1, W2, W3, W4, W5, W6, W7, W8, W9⟩ := W
  have HC : ∀ n1, fX10_isTaken_4 (n1 + 1) 1 x2 C = Option.bind (fX10_takesEnd C) fun q5 => (fX10_isTaken_80 (fX10_isTaken_4 n1) x2 q5.1 q5.2) := fun n1 => by
    rw [fX10_isTaken_4]
    dsimp only
    rw [if_neg hx2, if_neg one_ne, io, if_pos rfl, if_pos k27]
  have H42 : fX12_yearStep M = fX12_yearStep_42 (26 : Int32) (nI N) (nI (2130 + 6 * N)) 0 M := by
    unfold fX12_yearStep
    rw [k1, Option.bind_some, if_neg (by decide), if_neg (by decide), t2009, W4, m2130]
  unfold fX12_yearStep_42 at H42
  rw [if_neg (by decide), if_neg (by decide), if_neg (by decide), if_neg (by decide), if_pos rfl, W7] at H42
  cases ob with
  | nil =>
    obtain ⟨C', M', a1, a2, a3, a4, a5⟩ := h.fail (k := 2) (by decide)
    refine ⟨C', M', a4.b, a5.b, Or.inr ⟨a3, ?_, fun n1 => ?_⟩⟩
    · rw [H42, if_pos (show nI ([] : List (Nat × Bool)).length = 0 from rfl)]
      unfold fX12_yearStep_81
      rw [a2]; rfl
    · rw [HC]
      unfold fX10_takesEnd
      rw [W6, if_pos (show nI ([] : List (Nat × Bool)).length = 0 from rfl), a1]
      unfold fX10_isTaken_80 fX10_isTaken_99
      rfl
  | cons z r =>
    obtain ⟨o, b⟩ := z
    rw [List.length_cons] at H42 W6 W7
    have l3 : r.length + 1 ≤ 3 := W9.2.2.1
    have b60 : N + (r.length + 1) ≤ 2 * S := W9.1
    have b30 : S ≤ 30 := W9.2.1
    obtain ⟨o1, o2, o3, o4⟩ := W8
    have oN : o < N := W9.2.2.2.2.2.2.2.2.2.1.1
    have nz : ¬ nI (r.length + 1) = 0 := by show ¬ nI (r.length + 1) = nI 0; rw [nJ_eq (by omega) (by omega)]; omega
    obtain ⟨Mz, m1, m2, m3, m4, m5, m6, m7⟩ := hdM (N := N) (r := 2130 + 6 * N) (x1 := 26) (x4 := 0) (s0 := 0) (s1 := nI S) W4 (by omega) (by omega)
    have rz : rdR L s (mz_wi (mz_wi C 0 301 4 (nI r.length)) 2 126 (c o) (nI S)) Mz := h.fr ((qC_wi (by omega)).tr (qC_wi (by omega))) ⟨fun j h1 h2 => m6 _ _ _ (by omega), fun j => m6 _ _ _ (by omega)⟩
    obtain ⟨s1, C1, M1, l1, e1, e2, e3, e4, e5⟩ := rz.advK (by rw [wi_n (by omega), wi_n (by omega)]; exact hk)
    have HE : fX10_takesEnd C = some (1, C1) := by
      unfold fX10_takesEnd
      rw [W6, if_neg nz, s1r, nI_ix (show r.length < 3 by omega) (by omega), gd_tt, nI_cl (show r.length < 2147483648 by omega), o2, nI_ix o3 (by omega), gd_tt, nI_cl (show c o < 2147483648 by omega), W3, e1]; rfl
    have o1' : M1.1 0 208 r.length = nI o := by rw [(e5 _ _ _ (by omega)).1, m6 _ _ _ (by omega), o1]
    have d1 : M1.1 0 200 22 = nI (r.length + 1) := by rw [(e5 _ _ _ (by omega)).1, m6 _ _ _ (by omega), W7]
    have HR : fX12_yearStep M = fX12_yearStep_291 (mz_wi (mz_wi (mz_wi M1 0 200 22 (nI r.length)) 0 201 (2130 + 6 * N + 4) (nI o)) 0 201 (2130 + 6 * o + 4) (nI N)) := by
      rw [H42, if_neg nz]
      unfold fX12_yearStep_87 fX12_yearStep_109 fX12_yearStep_129
      rw [if_pos rfl, if_pos rfl, if_pos rfl, W5, m1, e2, Option.bind_some]
      unfold restM fX12_yearOrder fX12_yearStep_234
      rw [if_neg (by decide), if_neg (by decide), if_neg (by decide), if_neg (by decide), if_neg (by decide), if_neg (by decide), if_neg (by decide), if_neg (by decide), if_neg (by decide), Option.bind_some, if_neg one_ne, if_pos rfl, if_pos rfl, d1, s1r, nI_ix (show r.length < 3 by omega) (by omega), gd_tt, nI_cl (show r.length < 2147483648 by omega), o1', a4r, nI_ix (show 2130 + 6 * N + 4 < 3000 by omega) (by omega), gd_tt, m2130, a4r, nI_ix (show 2130 + 6 * o + 4 < 3000 by omega) (by omega), gd_tt, nI_cl (show 2130 + 6 * N + 4 < 2147483648 by omega), nI_cl (show 2130 + 6 * o + 4 < 2147483648 by omega)]
    have r1 : rdR L s1 C1 (mz_wi (mz_wi (mz_wi M1 0 200 22 (nI r.length)) 0 201 (2130 + 6 * N + 4) (nI o)) 0 201 (2130 + 6 * o + 4) (nI N)) := e3.fr qC.rf (((qM_wi (by omega)).tr (qM_wi (by omega))).tr (qM_wi (by omega)))
    have BC1 : bC C C1 := ((bC_w3 (by omega)).tr (bC_wi (by omega))).tr e4.b
    have BM1 : bM M (mz_wi (mz_wi (mz_wi M1 0 200 22 (nI r.length)) 0 201 (2130 + 6 * N + 4) (nI o)) 0 201 (2130 + 6 * o + 4) (nI N)) := ((((show bM M Mz from fun g o j hn => ⟨m6 _ _ _ (by omega), by rw [m7]⟩).tr e5.a.b).tr (bM_w2 (by omega))).tr (bM_wi (by omega))).tr (bM_wi (by omega))
    rcases semY r1 x2 with ⟨s3, C3, M3, l3', k1', k2, k3, k4, k5⟩ | ⟨C3, M3, k1', k2, k3, k4, k5⟩
    · have cw : ∀ p j, C3.1 2 p j = (mz_wi (mz_wi C 0 301 4 (nI r.length)) 2 126 (c o) (nI S)).1 2 p j := fun p j => by rw [(k4 _ _ _ (by omega)).1, (e4 _ _ _ (by omega)).1]
      have ma : ∀ j, M3.1 0 201 j = (mz_wi (mz_wi (mz_wi M1 0 200 22 (nI r.length)) 0 201 (2130 + 6 * N + 4) (nI o)) 0 201 (2130 + 6 * o + 4) (nI N)).1 0 201 j := fun j => (k5 _ _ _ (by omega)).1
      have mb : ∀ j, M1.1 0 201 j = Mz.1 0 201 j := fun j => (e5 _ _ _ (by omega)).1
      obtain ⟨c', e', enc', P, ceq⟩ := W9.close (w' := fun o k => C3.1 2 o k) (a' := fun k i => M3.1 0 201 (2130 + 6 * k + i)) (fun p j h1 h2 h3 => by
          show C3.1 2 p j = C.1 2 p j
          rw [cw, wi_n (by omega), wi_n (by omega)]) (by
          show C3.1 2 126 (c o) = nI S
          rw [cw, wi_s]) (fun j i h1 h2 h3 => by
          show M3.1 0 201 (2130 + 6 * j + i) = M.1 0 201 (2130 + 6 * j + i)
          rw [ma, wi_n (by omega), wi_n (by omega), wi_n (by omega), mb, m6 _ _ _ (by omega)]) (by
          show M3.1 0 201 (2130 + 6 * o + 4) = nI N
          rw [ma, wi_s]) (by
          show M3.1 0 201 (2130 + 6 * N + 0) = 26
          rw [ma, wi_n (by omega), wi_n (by omega), wi_n (by omega), mb, Nat.add_zero, m3]) (by
          show M3.1 0 201 (2130 + 6 * N + 4) = nI o
          rw [ma, wi_n (by omega), wi_s])
      refine ⟨C3, M3, BC1.tr k4.b, BM1.tr k5.b, Or.inl ⟨s3, N + 1, S, c', e', enc', r, by omega, k3, ⟨W1.fr (by rw [(k4 _ _ _ (by omega)).1, (e4 _ _ _ (by omega)).1, wi_n (by omega), wi_n (by omega)]) (fun p _ => by rw [(k4 _ _ _ (by omega)).2, (e4 _ _ _ (by omega)).2, wi_2, wi_2]) (fun p _ => by rw [(k5 _ _ _ (by omega)).2, wi_2, wi_2, wi_2, (e5 _ _ _ (by omega)).2, m7]), ?_, ?_, ?_, ?_, ?_, ?_, ?_, P⟩, ?_, fun n1 => ?_⟩⟩
      · rw [ma, wi_n (by omega), wi_n (by omega), wi_n (by omega), mb, m6 _ _ _ (by omega), W2]
      · rw [cw, wi_n (by omega), wi_n (by omega), W3]
      · rw [ma, wi_n (by omega), wi_n (by omega), wi_n (by omega), mb, m5]
      · rw [(k5 _ _ _ (by omega)).1, wi_n (by omega), wi_n (by omega), wi_n (by omega), (e5 _ _ _ (by omega)).1, m2, add0]
      · rw [(k4 _ _ _ (by omega)).1, (e4 _ _ _ (by omega)).1, wi_n (by omega), wi_s]
      · rw [(k5 _ _ _ (by omega)).1, wi_n (by omega), wi_n (by omega), wi_s]
      · refine o4.up r (fun j hj => ⟨?_, ?_⟩) (fun p d hp => ceq p (Nat.le_of_lt (W9.2.2.2.2.2.2.2.2.2.1.2.2.2.2.lt r p d hp)))
        · rw [(k5 _ _ _ (by omega)).1, wi_n (by omega), wi_n (by omega), wi_n (by omega), (e5 _ _ _ (by omega)).1, m6 _ _ _ (by omega)]
        · rw [(k4 _ _ _ (by omega)).1, (e4 _ _ _ (by omega)).1, wi_n (by omega), wi_n (by omega)]
      · rw [HR, k2]
      · rw [HC, HE, Option.bind_some]
        exact k1' _
    · refine ⟨C3, M3, BC1.tr k4.b, BM1.tr k5.b, Or.inr ⟨k3, ?_, fun n1 => ?_⟩⟩
      · rw [HR, k2]
      · rw [HC, HE, Option.bind_some]
        exact k1' _
/-- what can't begin a step -/
theorem othY {L s m : Nat} {C M : mz_D} {x2 : Int32} (h : rdR L s C M) (ho : ¬ C.1 0 2 6 = 0) (hw : fX10_isWork (C.1 0 2 2) = 0) (h27 : ¬ C.1 0 2 2 = 27) (HM : fX12_yearStep M = fX12_yearStep_81 M) (hx2 : ¬ (300 : Int32) ≤ x2) : yout L s m x2 C M := by
  have io : fX5_isOver C = 0 := by unfold fX5_isOver; rw [if_neg ho]
  obtain ⟨C', M', a1, a2, a3, a4, a5⟩ := h.fail (k := 2) (by decide)
  refine ⟨C', M', a4.b, a5.b, Or.inr ⟨a3, ?_, fun n1 => ?_⟩⟩
  · rw [HM]
    unfold fX12_yearStep_81
    rw [a2]; rfl
  · rw [fX10_isTaken_4]
    dsimp only
    rw [if_neg hx2, if_neg one_ne, io, if_pos rfl, if_neg h27]
    unfold fX10_beginsStep
    rw [if_pos hw, a1]
    unfold fX10_isTaken_79 fX10_isTaken_80 fX10_isTaken_99
    rfl
theorem yM81 {M : mz_D} {km : Int32} (k1 : fX12_inWords M = some km) (hh : km < 17 ∨ 27 < km ∨ km = 22 ∨ km = 23) : fX12_yearStep M = fX12_yearStep_81 M := by
  have n24 : ¬ km = 24 := by rcases hh with h | h | h | h <;> grind
  have n25 : ¬ km = 25 := by rcases hh with h | h | h | h <;> grind
  unfold fX12_yearStep fX12_yearStep_42
  rw [k1, Option.bind_some, if_neg n24, if_neg n25]
  by_cases h1 : km < 17
  · rw [if_pos h1]
  · rw [if_neg h1]
    by_cases h2 : 27 < km
    · rw [if_pos h2]
    · rw [if_neg h2]
      by_cases h3 : km = 22
      · rw [if_pos h3]
      · rw [if_neg h3, if_pos (by rcases hh with h | h | h | h; exact absurd h h1; exact absurd h h2; exact absurd h h3; exact h)]
theorem yMw {M : mz_D} {N S dp : Nat} {km x4 : Int32} (k1 : fX12_inWords M = some km) (h9 : M.1 0 201 2009 = nI N) (h23 : M.1 0 200 23 = nI S) (h22 : M.1 0 200 22 = nI dp) (a1 : ¬ km < 17) (a2 : ¬ 27 < km) (a3 : ¬ km = 22) (a4 : ¬ km = 23) (a5 : ¬ km = 26) (hx : ((km = 24 ∨ km = 25) ∧ x4 = 1) ∨ (¬ (km = 24 ∨ km = 25) ∧ x4 = 0)) : fX12_yearStep M = if nI S = (30 : Int32) then (Option.bind (fX12_fails (6 : Int32) M) fun q3 => (mz_gd (mz_bo q3.1) (some (q3.1, q3.2)))) else (if x4 = 0 then fX12_yearStep_145 km (nI N) (nI (2130 + 6 * N)) x4 (1 : Int32) (nI S) M else (if nI dp = (3 : Int32) then (Option.bind (fX12_fails (7 : Int32) M) fun q3 => (mz_gd (mz_bo q3.1) (some (q3.1, q3.2)))) else fX12_yearStep_145 km (nI N) (nI (2130 + 6 * N)) x4 (1 : Int32) (nI S) M)) := by
  have e42 : fX12_yearStep M = fX12_yearStep_42 km (nI N) (nI (2130 + 6 * N)) x4 M := by
    unfold fX12_yearStep fX12_yearStep_37
    rw [k1, Option.bind_some, t2009, h9, m2130]
    rcases hx with ⟨q, rfl⟩ | ⟨q, rfl⟩
    · rcases q with q | q
      · rw [if_pos q]
      · rw [if_neg (by rw [q]; decide), if_pos q]
    · rw [if_neg (fun z => q (Or.inl z)), if_neg (fun z => q (Or.inr z))]
  rw [e42]
  unfold fX12_yearStep_42 fX12_yearStep_87 fX12_yearStep_109 fX12_yearStep_129
  rw [if_neg a1, if_neg a2, if_neg a3, if_neg a4, if_neg a5, if_neg a5, h23, if_neg a5, h22]
theorem wkY {L s m N S : Nat} {C M : mz_D} {c e : Nat → Nat} {enc : Nat → List Nat} {ob ob' : List (Nat × Bool)} {km x4 x2 : Int32} (h : rdR L s C M) (W : yw m N S C M c e enc ob) (hw : ¬ fX10_isWork (C.1 0 2 2) = 0) (hk : ¬ C.1 0 2 2 = -1) (h27 : ¬ C.1 0 2 2 = 27) (hx2 : ¬ (300 : Int32) ≤ x2) (k1 : fX12_inWords M = some km) (a1 : ¬ km < 17) (a2 : ¬ 27 < km) (a3 : ¬ km = 22) (a4 : ¬ km = 23) (a5 : ¬ km = 26)
    (hx4 : (x4 = 0 ∧ ob' = ob ∧ ¬ (C.1 0 2 2 = 24 ∨ C.1 0 2 2 = 26) ∧ ¬ (km = 24 ∨ km = 25)) ∨ (x4 = 1 ∧ (∃ b, ob' = (N, b) :: ob) ∧ (C.1 0 2 2 = 24 ∨ C.1 0 2 2 = 26) ∧ (km = 24 ∨ km = 25)))
    (x : mz_D → Option (Int32 × mz_D)) (Q : mz_D → mz_D → Prop)
    (hxx : S < 30 → ∀ C1 : mz_D, C1.1 0 301 5 = nI S → C1.1 2 120 S = C.1 0 2 2 → ∀ (K : Int32 → Int32 → mz_D → Option (Int32 × mz_D)) (x2 : Int32), (Option.bind (fX10_isTest C1) fun q8 => (if q8 = 0 then (Option.bind (fX10_takesRest C1) fun q10 => (if q10.1 = 0 then (fX10_isTaken_79 K x2 q10.2) else (fX10_isTaken_75 K x2 q10.2))) else (Option.bind (fX10_takesTest C1) fun q12 => (if q12.1 = 0 then (fX10_isTaken_79 K x2 q12.2) else (fX10_isTaken_75 K x2 q12.2))))) = Option.bind (x C1) fun q => (if q.1 = 0 then (fX10_isTaken_79 K x2 q.2) else (fX10_isTaken_75 K x2 q.2)))
    (hy : ∀ s1 C1 M1, rdR L s1 C1 M1 → ys m S (2130 + 6 * N) C1 M1 → C1.1 2 120 S = C.1 0 2 2 → C1.1 2 122 S = -1 → M1.1 0 201 (2130 + 6 * N) = km → yo L s1 S (2130 + 6 * N) Q C1 M1 (x C1) (fX12_yearOrder km (nI (2130 + 6 * N)) M1))
    (hq : ∀ C M, Q C M → (ob' = ob ∧ QF m S (2130 + 6 * N) C M) ∨ (ob' = (N, true) :: ob ∧ QL S (2130 + 6 * N) C M) ∨ (ob' = (N, false) :: ob ∧ QT m S (2130 + 6 * N) C M)) : yout L s m x2 C M := by
  have io : fX5_isOver C = 0 := by unfold fX5_isOver; rw [if_neg (by rw [(h.wd hk).1]; decide)]
  obtain ⟨W1, W2, W3, W4, W5, W6, W7, W8, W9⟩ := id W
  have b30 : S ≤ 30 := W9.2.1
  have l3 : ob.length ≤ 3 := W9.2.2.1
  have HM := yMw (x4 := x4) k1 W4 W5 W7 a1 a2 a3 a4 a5 (by
    rcases hx4 with ⟨q1, -, -, q2⟩ | ⟨q1, -, -, q2⟩
    · exact Or.inr ⟨q2, q1⟩
    · exact Or.inl ⟨q2, q1⟩)
  by_cases hS : S = 30
  · obtain ⟨C', M', f1, f2, f3, f4, f5⟩ := h.fail (k := 6) (by decide)
    refine ⟨C', M', f4.b, f5.b, Or.inr ⟨f3, ?_, fun n1 => ?_⟩⟩
    · rw [HM, if_pos (by rw [hS]; rfl), f2]; rfl
    · rw [fX10_isTaken_4]
      dsimp only
      rw [if_neg hx2, if_neg one_ne, io, if_pos rfl, if_neg h27]
      unfold fX10_beginsStep
      rw [if_neg hw, W3, if_neg (by rw [hS]; decide), f1]
      unfold fX10_isTaken_79 fX10_isTaken_80 fX10_isTaken_99
      rfl
  · have hS : S < 30 := by omega
    have n30 : nI S < (30 : Int32) := by show nI S < nI 30; rw [nJ_lt (by omega) (by omega)]; exact hS
    have m30 : ¬ nI S = (30 : Int32) := by show ¬ nI S = nI 30; rw [nJ_eq (by omega) (by omega)]; omega
    rw [if_neg m30] at HM
    rcases hx4 with ⟨q1, q2, q3, q4⟩ | ⟨q1, q2, q3, q4⟩
    · rw [if_pos q1] at HM
      exact wrkY h W hS hw hk h27 a5 hx2 HM (Or.inl ⟨q1, q2, q3⟩) x Q (hxx hS) hy hq
    · rw [if_neg (by rw [q1]; decide)] at HM
      by_cases hd : ob.length = 3
      · obtain ⟨C', M', f1, f2, f3, f4, f5⟩ := h.fail (k := 7) (by decide)
        refine ⟨C', M', f4.b, f5.b, Or.inr ⟨f3, ?_, fun n1 => ?_⟩⟩
        · rw [HM, if_pos (by rw [hd]; rfl), f2]; rfl
        · have B : fX10_beginsStep_63 (C.1 0 2 2) 1 C = some (0, C') := by
            unfold fX10_beginsStep_63
            rw [if_neg one_ne, W6, if_neg (by rw [hd]; decide), f1]; rfl
          rw [fX10_isTaken_4]
          dsimp only
          rw [if_neg hx2, if_neg one_ne, io, if_pos rfl, if_neg h27]
          unfold fX10_beginsStep fX10_beginsStep_58
          rw [if_neg hw, W3, if_pos n30, B]
          unfold fX10_isTaken_79 fX10_isTaken_80 fX10_isTaken_99
          rcases q3 with q3 | q3
          · rw [if_pos q3]; rfl
          · rw [if_neg (by rw [q3]; decide), if_pos q3]; rfl
      · have m3 : ¬ nI ob.length = (3 : Int32) := by show ¬ nI ob.length = nI 3; rw [nJ_eq (by omega) (by omega)]; exact hd
        rw [if_neg m3] at HM
        exact wrkY h W hS hw hk h27 a5 hx2 HM (Or.inr ⟨by rw [q1]; decide, q2, by omega, q3⟩) x Q (hxx hS) hy hq
theorem othT : ∀ j, j < 29 → ((j < 17 ∨ j = 22 ∨ j = 23 ∨ j = 28) → fX10_isWork (nI (pm j)) = 0 ∧ ¬ nI (pm j) = 27 ∧ (nI j < 17 ∨ 27 < nI j ∨ nI j = 22 ∨ nI j = 23)) := by decide +kernel
theorem hxR {S : Nat} {kc : Int32} (h24 : ¬ kc = 24) : S < 30 → ∀ C1 : mz_D, C1.1 0 301 5 = nI S → C1.1 2 120 S = kc → ∀ (K : Int32 → Int32 → mz_D → Option (Int32 × mz_D)) (x2 : Int32), (Option.bind (fX10_isTest C1) fun q8 => (if q8 = 0 then (Option.bind (fX10_takesRest C1) fun q10 => (if q10.1 = 0 then (fX10_isTaken_79 K x2 q10.2) else (fX10_isTaken_75 K x2 q10.2))) else (Option.bind (fX10_takesTest C1) fun q12 => (if q12.1 = 0 then (fX10_isTaken_79 K x2 q12.2) else (fX10_isTaken_75 K x2 q12.2))))) = Option.bind (fX10_takesRest C1) fun q => (if q.1 = 0 then (fX10_isTaken_79 K x2 q.2) else (fX10_isTaken_75 K x2 q.2)) := by
  intro hS C1 h5 h120 K x2
  have T : fX10_isTest C1 = some 0 := by
    unfold fX10_isTest
    rw [h5, nI_ix hS (by omega), gd_tt, nI_cl (by omega), h120, if_neg h24]
  rw [T, Option.bind_some, if_pos rfl]
theorem hxT {S : Nat} {kc : Int32} (h24 : kc = 24) : S < 30 → ∀ C1 : mz_D, C1.1 0 301 5 = nI S → C1.1 2 120 S = kc → ∀ (K : Int32 → Int32 → mz_D → Option (Int32 × mz_D)) (x2 : Int32), (Option.bind (fX10_isTest C1) fun q8 => (if q8 = 0 then (Option.bind (fX10_takesRest C1) fun q10 => (if q10.1 = 0 then (fX10_isTaken_79 K x2 q10.2) else (fX10_isTaken_75 K x2 q10.2))) else (Option.bind (fX10_takesTest C1) fun q12 => (if q12.1 = 0 then (fX10_isTaken_79 K x2 q12.2) else (fX10_isTaken_75 K x2 q12.2))))) = Option.bind (fX10_takesTest C1) fun q => (if q.1 = 0 then (fX10_isTaken_79 K x2 q.2) else (fX10_isTaken_75 K x2 q.2)) := by
  intro hS C1 h5 h120 K x2
  have T : fX10_isTest C1 = some 1 := by
    unfold fX10_isTest
    rw [h5, nI_ix hS (by omega), gd_tt, nI_cl (by omega), h120, if_pos h24]
  rw [T, Option.bind_some, if_neg one_ne]
theorem stepY {L s m N S : Nat} {C M : mz_D} {c e : Nat → Nat} {enc : Nat → List Nat} {ob : List (Nat × Bool)} {x2 : Int32} (h : rdR L s C M) (W : yw m N S C M c e enc ob) (ho : ¬ C.1 0 2 6 = 0) (hx2 : ¬ (300 : Int32) ≤ x2) : yout L s m x2 C M := by
  obtain ⟨km, k1, k2⟩ := h.key
  rcases k2 with ⟨q1, rfl⟩ | ⟨j, hj, rfl, q1⟩
  · exact othY h ho (by rw [q1]; decide) (by rw [q1]; decide) (yM81 k1 (by decide)) hx2
  · by_cases qo : j < 17 ∨ j = 22 ∨ j = 23 ∨ j = 28
    · obtain ⟨t1, t2, t3⟩ := othT j hj qo
      exact othY h ho (by rw [q1]; exact t1) (by rw [q1]; exact t2) (yM81 k1 t3) hx2
    · have : j = 17 ∨ j = 18 ∨ j = 19 ∨ j = 20 ∨ j = 21 ∨ j = 24 ∨ j = 25 ∨ j = 26 ∨ j = 27 := by omega
      rcases this with rfl | rfl | rfl | rfl | rfl | rfl | rfl | rfl | rfl
      · have q1 : C.1 0 2 2 = 17 := q1
        exact wkY (ob' := ob) (x4 := 0) h W (by rw [q1]; decide) (by rw [q1]; decide) (by rw [q1]; decide) hx2 k1 (by decide) (by decide) (by decide) (by decide) (by decide) (Or.inl ⟨rfl, rfl, by rw [q1]; decide, by decide⟩) fX10_takesRest (QF m S (2130 + 6 * N)) (hxR (by rw [q1]; decide)) (fun s1 C1 M1 r1 y1 c1 c2 m1 => yDinR r1 y1 (by rw [c1, q1]) c2 m1) (fun C M q => Or.inl ⟨rfl, q⟩)
      · have q1 : C.1 0 2 2 = 18 := q1
        exact wkY (ob' := ob) (x4 := 0) h W (by rw [q1]; decide) (by rw [q1]; decide) (by rw [q1]; decide) hx2 k1 (by decide) (by decide) (by decide) (by decide) (by decide) (Or.inl ⟨rfl, rfl, by rw [q1]; decide, by decide⟩) fX10_takesRest (QF m S (2130 + 6 * N)) (hxR (by rw [q1]; decide)) (fun s1 C1 M1 r1 y1 c1 c2 m1 => yDuelR r1 y1 (by rw [c1, q1]) m1) (fun C M q => Or.inl ⟨rfl, q⟩)
      · have q1 : C.1 0 2 2 = 19 := q1
        exact wkY (ob' := ob) (x4 := 0) h W (by rw [q1]; decide) (by rw [q1]; decide) (by rw [q1]; decide) hx2 k1 (by decide) (by decide) (by decide) (by decide) (by decide) (Or.inl ⟨rfl, rfl, by rw [q1]; decide, by decide⟩) fX10_takesRest (QF m S (2130 + 6 * N)) (hxR (by rw [q1]; decide)) (fun s1 C1 M1 r1 y1 c1 c2 m1 => yGiveR (k := 19) (Or.inl rfl) r1 y1 (by rw [c1, q1]) m1) (fun C M q => Or.inl ⟨rfl, q⟩)
      · have q1 : C.1 0 2 2 = 20 := q1
        exact wkY (ob' := ob) (x4 := 0) h W (by rw [q1]; decide) (by rw [q1]; decide) (by rw [q1]; decide) hx2 k1 (by decide) (by decide) (by decide) (by decide) (by decide) (Or.inl ⟨rfl, rfl, by rw [q1]; decide, by decide⟩) fX10_takesRest (QF m S (2130 + 6 * N)) (hxR (by rw [q1]; decide)) (fun s1 C1 M1 r1 y1 c1 c2 m1 => yGiveR (k := 20) (Or.inr rfl) r1 y1 (by rw [c1, q1]) m1) (fun C M q => Or.inl ⟨rfl, q⟩)
      · have q1 : C.1 0 2 2 = 21 := q1
        exact wkY (ob' := ob) (x4 := 0) h W (by rw [q1]; decide) (by rw [q1]; decide) (by rw [q1]; decide) hx2 k1 (by decide) (by decide) (by decide) (by decide) (by decide) (Or.inl ⟨rfl, rfl, by rw [q1]; decide, by decide⟩) fX10_takesRest (QF m S (2130 + 6 * N)) (hxR (by rw [q1]; decide)) (fun s1 C1 M1 r1 y1 c1 c2 m1 => by
          have := yBareR r1 y1 (Or.inl ⟨by rw [c1, q1], m1⟩)
          rw [m1] at this
          exact this) (fun C M q => Or.inl ⟨rfl, q⟩)
      · have q1 : C.1 0 2 2 = 24 := q1
        exact wkY (ob' := (N, false) :: ob) (x4 := 1) h W (by rw [q1]; decide) (by rw [q1]; decide) (by rw [q1]; decide) hx2 k1 (by decide) (by decide) (by decide) (by decide) (by decide) (Or.inr ⟨rfl, ⟨false, rfl⟩, Or.inl q1, Or.inl rfl⟩) fX10_takesTest (QT m S (2130 + 6 * N)) (hxT q1) (fun s1 C1 M1 r1 y1 c1 c2 m1 => yTest r1 y1 (by rw [c1, q1])) (fun C M q => Or.inr (Or.inr ⟨rfl, q⟩))
      · have q1 : C.1 0 2 2 = 26 := q1
        exact wkY (ob' := (N, true) :: ob) (x4 := 1) h W (by rw [q1]; decide) (by rw [q1]; decide) (by rw [q1]; decide) hx2 k1 (by decide) (by decide) (by decide) (by decide) (by decide) (Or.inr ⟨rfl, ⟨true, rfl⟩, Or.inr q1, Or.inr rfl⟩) fX10_takesRest (QL S (2130 + 6 * N)) (hxR (by rw [q1]; decide)) (fun s1 C1 M1 r1 y1 c1 c2 m1 => yLoopR r1 y1 (by rw [c1, q1]) m1) (fun C M q => Or.inr (Or.inl ⟨rfl, q⟩))
      · have q1 : C.1 0 2 2 = 27 := q1
        exact endY h W q1 k1 hx2
      · have q1 : C.1 0 2 2 = 28 := q1
        exact wkY (ob' := ob) (x4 := 0) h W (by rw [q1]; decide) (by rw [q1]; decide) (by rw [q1]; decide) hx2 k1 (by decide) (by decide) (by decide) (by decide) (by decide) (Or.inl ⟨rfl, rfl, by rw [q1]; decide, by decide⟩) fX10_takesRest (QF m S (2130 + 6 * N)) (hxR (by rw [q1]; decide)) (fun s1 C1 M1 r1 y1 c1 c2 m1 => by
          have := yBareR r1 y1 (Or.inr ⟨by rw [c1, q1], m1⟩)
          rw [m1] at this
          exact this) (fun C M q => Or.inl ⟨rfl, q⟩)
