/-! ===== texts: a step that works ===== -/
/-- what a step comes to, in both -/
def yout (L s m : Nat) (x2 : Int32) (C M : mz_D) : Prop := ∃ C' M', bC C C' ∧ bM M M' ∧ ((∃ s' N' S' c' e' enc' ob', s + 2 ≤ s' ∧ rdR L s' C' M' ∧ yw m N' S' C' M' c' e' enc' ob' ∧ fX12_yearStep M = some (1, M') ∧ ∀ n1, fX10_isTaken_4 (n1 + 1) 1 x2 C = fX10_isTaken_4 n1 1 (x2 + 1) C') ∨ (fl C' M' ∧ fX12_yearStep M = some (0, M') ∧ ∀ n1, fX10_isTaken_4 (n1 + 1) 1 x2 C = fX10_isTaken_4 n1 0 (x2 + 1) C'))
theorem aQ.b {S : Nat} {D E : mz_D} (h : aQ S D E) : bC D E := fun g o j hn => h g o j (by omega)
theorem aP.b {r : Nat} {D E : mz_D} (h : aP r D E) (hr : 2000 ≤ r) : bM D E := fun g o j hn => h g o j (by omega)
theorem wrkY {L s m N S : Nat} {C M : mz_D} {c e : Nat → Nat} {enc : Nat → List Nat} {ob ob' : List (Nat × Bool)} {km x4 x2 : Int32} (h : rdR L s C M) (W : yw m N S C M c e enc ob) (hS : S < 30) (hw : ¬ fX10_isWork (C.1 0 2 2) = 0) (hk : ¬ C.1 0 2 2 = -1) (h27 : ¬ C.1 0 2 2 = 27) (hn : ¬ km = 26) (hx2 : ¬ (300 : Int32) ≤ x2)
    (HM : fX12_yearStep M = fX12_yearStep_145 km (nI N) (nI (2130 + 6 * N)) x4 (1 : Int32) (nI S) M)
    (hx4 : (x4 = 0 ∧ ob' = ob ∧ ¬ (C.1 0 2 2 = 24 ∨ C.1 0 2 2 = 26)) ∨ (¬ x4 = 0 ∧ (∃ b, ob' = (N, b) :: ob) ∧ ob.length < 3 ∧ (C.1 0 2 2 = 24 ∨ C.1 0 2 2 = 26)))
    (x : mz_D → Option (Int32 × mz_D)) (Q : mz_D → mz_D → Prop)
    (hxx : ∀ C1 : mz_D, C1.1 0 301 5 = nI S → C1.1 2 120 S = C.1 0 2 2 → ∀ (K : Int32 → Int32 → mz_D → Option (Int32 × mz_D)) (x2 : Int32), (Option.bind (fX10_isTest C1) fun q8 => (if q8 = 0 then (Option.bind (fX10_takesRest C1) fun q10 => (if q10.1 = 0 then (fX10_isTaken_79 K x2 q10.2) else (fX10_isTaken_75 K x2 q10.2))) else (Option.bind (fX10_takesTest C1) fun q12 => (if q12.1 = 0 then (fX10_isTaken_79 K x2 q12.2) else (fX10_isTaken_75 K x2 q12.2))))) = Option.bind (x C1) fun q => (if q.1 = 0 then (fX10_isTaken_79 K x2 q.2) else (fX10_isTaken_75 K x2 q.2)))
    (hy : ∀ s1 C1 M1, rdR L s1 C1 M1 → ys m S (2130 + 6 * N) C1 M1 → C1.1 2 120 S = C.1 0 2 2 → C1.1 2 122 S = -1 → M1.1 0 201 (2130 + 6 * N) = km → yo L s1 S (2130 + 6 * N) Q C1 M1 (x C1) (fX12_yearOrder km (nI (2130 + 6 * N)) M1))
    (hq : ∀ C M, Q C M → (ob' = ob ∧ QF m S (2130 + 6 * N) C M) ∨ (ob' = (N, true) :: ob ∧ QL S (2130 + 6 * N) C M) ∨ (ob' = (N, false) :: ob ∧ QT m S (2130 + 6 * N) C M)) : yout L s m x2 C M := by
  obtain ⟨W1, W2, W3, W4, W5, W6, W7, W8, W9⟩ := W
  have hm := W1.1
  have b60 := W9.1
  have l3 := W9.2.2.1
  have io : fX5_isOver C = 0 := by unfold fX5_isOver; rw [if_neg (by rw [(h.wd hk).1]; decide)]
  obtain ⟨Mz, m1, m2, m3, m4, m5, m6, m7⟩ := hdM (N := N) (r := 2130 + 6 * N) (x1 := km) (x4 := x4) (s0 := 1) (s1 := nI S) W4 (by omega) (by omega)
  obtain ⟨Cz, c1, c2, c3, c4, c5', c6, c7, c8'⟩ := hdC W3 hS W6 hw (fun z => by
    rcases hx4 with ⟨-, -, q⟩ | ⟨-, -, q, -⟩
    · exact absurd z q
    · exact q)
  have rz : rdR L s Cz Mz := h.fr ⟨fun j => c6 _ _ _ (by omega), fun j => c6 _ _ _ (by omega), by rw [c7], by rw [c7]⟩ ⟨fun j h1 h2 => m6 _ _ _ (by omega), fun j => m6 _ _ _ (by omega)⟩
  obtain ⟨s1, C1, M1, l1, e1, e2, e3, e4, e5⟩ := rz.advK (by rw [c6 _ _ _ (by omega)]; exact hk)
  have BC1 : bC C C1 := (show bC C Cz from fun g o j hn => ⟨c6 _ _ _ (by omega), by rw [c7]⟩).tr e4.b
  have BM1 : bM M M1 := (show bM M Mz from fun g o j hn => ⟨m6 _ _ _ (by omega), by rw [m7]⟩).tr e5.a.b
  have Y1 : ys m S (2130 + 6 * N) C1 M1 := ⟨W1.fr (by rw [(e4 _ _ _ (by omega)).1, c6 _ _ _ (by omega)]) (fun p _ => by rw [(e4 _ _ _ (by omega)).2, c7]) (fun p _ => by rw [(e5 _ _ _ (by omega)).2, m7]), by rw [(e5 _ _ _ (by omega)).1, m6 _ _ _ (by omega), W2], by rw [(e4 _ _ _ (by omega)).1, c5'], hS, by omega, by omega⟩
  have HC : ∀ n1, fX10_isTaken_4 (n1 + 1) 1 x2 C = Option.bind (x C1) fun q => (if q.1 = 0 then (fX10_isTaken_79 (fX10_isTaken_4 n1) x2 q.2) else (fX10_isTaken_75 (fX10_isTaken_4 n1) x2 q.2)) := fun n1 => by
    rw [fX10_isTaken_4]
    dsimp only
    rw [if_neg hx2, if_neg one_ne, io, if_pos rfl, if_neg h27, c1, e1, Option.bind_some, Option.bind_some, if_neg one_ne]
    exact hxx C1 Y1.2.2.1 (by rw [(e4 _ _ _ (by omega)).1, c2]) _ _
  have HM1 : fX12_yearStep M = restM km x4 N (2130 + 6 * N) M1 := by rw [HM, m1, e2, Option.bind_some]
  rcases hy s1 C1 M1 e3 Y1 (by rw [(e4 _ _ _ (by omega)).1, c2]) (by rw [(e4 _ _ _ (by omega)).1, c3]) (by rw [(e5 _ _ _ (by omega)).1, m3]) with ⟨C2, M2, f1, f2, ⟨x1, y1, s2, l2, r2, q2⟩ | ⟨x1, y1, ff⟩⟩
  · -- the blocks that are open
    have OB : ∃ M2', restM km x4 N (2130 + 6 * N) M1 = fX12_yearStep_291 M2' ∧ rdR L s2 C2 M2' ∧ M2'.1 0 200 22 = nI ob'.length ∧ (∀ g o j, ¬ (g = 0 ∧ ((o = 200 ∧ j = 22) ∨ (o = 208 ∧ j = ob.length))) → M2'.1 g o j = M2.1 g o j) ∧ M2'.2 = M2.2 ∧ C2.1 0 301 4 = nI ob'.length ∧ ob'.length ≤ 3 ∧ (∀ c' : Nat → Nat, c' N = S → obR C2 M2' c' ob → obR C2 M2' c' ob') := by
      have d22 : M2.1 0 200 22 = nI ob.length := by rw [(f2 _ _ _ (by omega)).1, (e5 _ _ _ (by omega)).1, m6 _ _ _ (by omega), W7]
      have d4 : C2.1 0 301 4 = Cz.1 0 301 4 := by rw [(f1 _ _ _ (by omega)).1, (e4 _ _ _ (by omega)).1]
      unfold restM fX12_yearStep_234
      rw [y1, Option.bind_some, if_neg one_ne]
      rcases hx4 with ⟨z1, z2, z3⟩ | ⟨z1, ⟨b, z2⟩, z3, z4⟩
      · refine ⟨M2, ?_, r2, by rw [z2]; exact d22, fun _ _ _ _ => rfl, rfl, ?_, by rw [z2]; exact l3, fun c' _ q => by rw [z2]; exact q⟩
        · rw [if_pos z1, if_neg hn]
        · rw [d4, z2]
          rcases c8' with ⟨q, -⟩ | ⟨-, q⟩
          · exact absurd q z3
          · exact q
      · refine ⟨mz_wi (mz_wi M2 0 208 ob.length (nI N)) 0 200 22 (nI (ob.length + 1)), ?_, r2.fr qC.rf ((qM_wi (by omega)).tr (qM_wi (by omega))), by rw [wi_s, z2]; rfl, fun g o j hn => by rw [wi_n (by omega), wi_n (by omega)], rfl, ?_, by rw [z2]; exact z3, fun c' q1 q => ?_⟩
        · rw [if_neg z1, if_neg hn, d22, nI_ix z3 (by omega), gd_tt, nI_cl (by omega), a1r]
        · rw [d4, z2]
          rcases c8' with ⟨-, q, -⟩ | ⟨q, -⟩
          · exact q
          · exact absurd z4 q
        · rw [z2]
          refine ⟨by rw [wi_n (by omega), wi_s], ?_, by rw [q1]; exact hS, q⟩
          rw [q1, (f1 _ _ _ (by omega)).1, (e4 _ _ _ (by omega)).1]
          rcases c8' with ⟨-, -, q⟩ | ⟨q, -⟩
          · exact q
          · exact absurd z4 q
    obtain ⟨M2', RM, r2', u22, uf, uf2, u4, ul, uo⟩ := OB
    have BM2 : bM M M2' := (BM1.tr (f2.b (by omega))).tr (fun g o j hn => ⟨uf _ _ _ (by omega), by rw [uf2]⟩)
    rcases semY r2' x2 with ⟨s3, C3, M3, l3', k1, k2, k3, k4, k5⟩ | ⟨C3, M3, k1, k2, k3, k4, k5⟩
    · have hwr : ∀ o j, 120 ≤ o → o ≤ 126 → j < S → (fun o k => C3.1 2 o k) o j = (fun o k => C.1 2 o k) o j := fun o j h1 h2 h3 => by
        show C3.1 2 o j = C.1 2 o j
        rw [(k4 _ _ _ (by omega)).1, (f1 _ _ _ (by omega)).1, (e4 _ _ _ (by omega)).1, c6 _ _ _ (by omega)]
      have har : ∀ j i, j < N → i < 6 → (fun k i => M3.1 0 201 (2130 + 6 * k + i)) j i = (fun k i => M.1 0 201 (2130 + 6 * k + i)) j i := fun j i h1 h2 => by
        show M3.1 0 201 (2130 + 6 * j + i) = M.1 0 201 (2130 + 6 * j + i)
        rw [(k5 _ _ _ (by omega)).1, uf _ _ _ (by omega), (f2 _ _ _ (by omega)).1, (e5 _ _ _ (by omega)).1, m6 _ _ _ (by omega)]
      have cw : ∀ o, C3.1 2 o S = C2.1 2 o S := fun o => (k4 _ _ _ (by omega)).1
      have ma : ∀ j, 2000 ≤ j → M3.1 0 201 j = M2.1 0 201 j := fun j hj => by rw [(k5 _ _ _ (by omega)).1, uf _ _ _ (by omega)]
      obtain ⟨c', enc', P, cN, ceq⟩ := W9.push (ob' := ob') hS hwr har (by
        rcases hq C2 M2 q2 with ⟨z1, z2⟩ | ⟨z1, z2, z3, z4, z5⟩ | ⟨z1, z2⟩
        · exact Or.inl ⟨z1, z2.cg (fun o o1 o2 => cw o) (fun i i1 i2 => ma _ (by omega))⟩
        · refine Or.inr (Or.inl ⟨z1, ?_, ?_, ?_, ?_, ?_⟩)
          · rw [z1, List.length_cons] at ul; omega
          · show M3.1 0 201 (2130 + 6 * N + 0) = 25
            rw [ma _ (by omega)]; exact z2
          · show C3.1 2 120 S = 26
            rw [cw, z3]
          · show C3.1 2 125 S = M3.1 0 201 (2130 + 6 * N + 1)
            rw [cw, ma _ (by omega), z4]
          · show bd (M3.1 0 201 (2130 + 6 * N + 1)) 1 99
            rw [ma _ (by omega)]; exact z5
        · refine Or.inr (Or.inr ⟨z1, ?_, ?_, z2.cg (fun o o1 o2 => cw o) (fun i i1 i2 => ma _ (by omega))⟩)
          · rw [z1, List.length_cons] at ul; omega
          · show ¬ M3.1 0 201 (2130 + 6 * N + 0) = 25
            rw [ma _ (by omega)]
            have z3 : M2.1 0 201 (2130 + 6 * N + 0) = 2415 ∨ M2.1 0 201 (2130 + 6 * N + 0) = 2428 ∨ M2.1 0 201 (2130 + 6 * N + 0) = 2403 := by
              rcases z2.2.2.2 with ⟨g, -⟩ | ⟨-, -, -, ⟨g, -⟩ | ⟨g, -⟩⟩
              · exact Or.inl g
              · exact Or.inr (Or.inl g)
              · exact Or.inr (Or.inr g)
            rcases z3 with z3 | z3 | z3 <;> rw [z3] <;> decide)
      have OB3 : obR C3 M3 c' ob' := by
        refine (uo c' cN (W8.up ob (fun j hj => ⟨?_, ?_⟩) (fun o b hob => ceq o (Nat.le_of_lt (W9.2.2.2.2.2.2.2.2.2.1.lt ob o b hob))))).up ob' (fun j hj => ⟨(k5 _ _ _ (by omega)).1, (k4 _ _ _ (by omega)).1⟩) (fun _ _ _ => rfl)
        · rw [uf _ _ _ (by omega), (f2 _ _ _ (by omega)).1, (e5 _ _ _ (by omega)).1, m6 _ _ _ (by omega)]
        · rw [(f1 _ _ _ (by omega)).1, (e4 _ _ _ (by omega)).1, c6 _ _ _ (by omega)]
      refine ⟨C3, M3, (BC1.tr f1.b).tr k4.b, BM2.tr k5.b, Or.inl ⟨s3, N + 1, S + 1, c', e, enc', ob', by omega, k3, ⟨Y1.1.fr (by rw [(k4 _ _ _ (by omega)).1, (f1 _ _ _ (by omega)).1]) (fun p _ => by rw [(k4 _ _ _ (by omega)).2, (f1 _ _ _ (by omega)).2]) (fun p _ => by rw [(k5 _ _ _ (by omega)).2, uf2, (f2 _ _ _ (by omega)).2]), ?_, ?_, ?_, ?_, ?_, ?_, OB3, P⟩, ?_, fun n1 => ?_⟩⟩
      · rw [(k5 _ _ _ (by omega)).1, uf _ _ _ (by omega), (f2 _ _ _ (by omega)).1, Y1.2.1]
      · rw [(k4 _ _ _ (by omega)).1, (f1 _ _ _ (by omega)).1, (e4 _ _ _ (by omega)).1, c4]
      · rw [(k5 _ _ _ (by omega)).1, uf _ _ _ (by omega), (f2 _ _ _ (by omega)).1, (e5 _ _ _ (by omega)).1, m5]
      · rw [(k5 _ _ _ (by omega)).1, uf _ _ _ (by omega), (f2 _ _ _ (by omega)).1, (e5 _ _ _ (by omega)).1, m2, a1r]
      · rw [(k4 _ _ _ (by omega)).1, u4]
      · rw [(k5 _ _ _ (by omega)).1, u22]
      · rw [HM1, RM, k2]
      · rw [HC, x1, Option.bind_some, if_neg one_ne]
        exact k1 _
    · refine ⟨C3, M3, (BC1.tr f1.b).tr k4.b, BM2.tr k5.b, Or.inr ⟨k3, ?_, fun n1 => ?_⟩⟩
      · rw [HM1, RM, k2]
      · rw [HC, x1, Option.bind_some, if_neg one_ne]
        exact k1 _
  · refine ⟨C2, M2, BC1.tr f1.b, BM1.tr (f2.b (by omega)), Or.inr ⟨ff, ?_, fun n1 => ?_⟩⟩
    · rw [HM1]
      unfold restM
      rw [y1, Option.bind_some, if_pos rfl]
    · rw [HC, x1, Option.bind_some, if_pos rfl]
      unfold fX10_isTaken_79 fX10_isTaken_80 fX10_isTaken_99
      rw [if_pos rfl]
