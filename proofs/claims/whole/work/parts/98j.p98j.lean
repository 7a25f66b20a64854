/-! ===== texts: part by part ===== -/
theorem ite_q {α : Type} {a b : Int32} {x y : α} (h : y = x) : (if a = b then x else y) = x := by
  by_cases e : a = b
  · rw [if_pos e]
  · rw [if_neg e]; exact h
theorem semE {n L s : Nat} {C M : mz_D} {x y : Option (Int32 × mz_D)} (h : prt n L s C M x y) (x2 : Int32) : ∃ C' M', bC C C' ∧ bM M M' ∧ ((∃ s', s + 2 ≤ s' ∧ st n L s' C' M' ∧ (Option.bind y fun q => fX12_tablePart_100 q.1 q.2) = some (1, M') ∧ ∀ K : Int32 → Int32 → mz_D → Option (Int32 × mz_D), (Option.bind x fun q => fX7_isTaken_165 K q.1 x2 q.2) = K 1 (x2 + 1) C') ∨ (fl C' M' ∧ (Option.bind y fun q => fX12_tablePart_100 q.1 q.2) = some (0, M') ∧ ∀ K : Int32 → Int32 → mz_D → Option (Int32 × mz_D), (Option.bind x fun q => fX7_isTaken_165 K q.1 x2 q.2) = K 0 (x2 + 1) C')) := by
  obtain ⟨C1, M1, f1, f2, ⟨rfl, rfl, s1, l1, h1, m, d, gs, a, b, B, ha, hb, g20, g2, g3⟩ | ⟨rfl, rfl, hf⟩⟩ := h
  · rcases sSem h1 with ⟨s', C', M', l2, e1, e2, e3, e4, e5⟩ | ⟨C', M', e1, e2, e3, e4, e5⟩
    · refine ⟨C', M', f1.tr e4.b, f2.tr e5.b, Or.inl ⟨s', by omega, ⟨e3, m, d, gs, a, b, B.fr0 e4 e5, ha, hb, by rw [(e5 _ _ _ (by omega)).1]; exact g20, by rw [(e4 _ _ _ (by omega)).1]; exact g2, by rw [(e4 _ _ _ (by omega)).1]; exact g3⟩, ?_, fun K => ?_⟩⟩
      · rw [Option.bind_some]
        unfold fX12_tablePart_100
        rw [if_neg one_ne, e2, Option.bind_some, if_neg one_ne]
      · rw [Option.bind_some]
        unfold fX7_isTaken_165
        rw [if_neg one_ne, e1, Option.bind_some, if_neg one_ne]
    · refine ⟨C', M', f1.tr e4.b, f2.tr e5.b, Or.inr ⟨e3, ?_, fun K => ?_⟩⟩
      · rw [Option.bind_some]
        unfold fX12_tablePart_100
        rw [if_neg one_ne, e2, Option.bind_some, if_pos rfl]
      · rw [Option.bind_some]
        unfold fX7_isTaken_165 fX7_isTaken_183
        rw [if_neg one_ne, e1, Option.bind_some, if_pos rfl]
  · refine ⟨C1, M1, f1, f2, Or.inr ⟨hf, ?_, fun K => ?_⟩⟩
    · rw [Option.bind_some]
      unfold fX12_tablePart_100
      rw [if_pos rfl]
    · rw [Option.bind_some]
      unfold fX7_isTaken_165 fX7_isTaken_183
      rw [if_pos rfl]
theorem stepT {n L s : Nat} {C M : mz_D} (hs : st n L s C M) (ho : ¬ C.1 0 2 6 = 0) {x2 : Int32} (hx : ¬ (900 : Int32) ≤ x2) : ∃ C' M', bC C C' ∧ bM M M' ∧ ((∃ s', s + 2 ≤ s' ∧ st n L s' C' M' ∧ fX12_tablePart M = some (1, M') ∧ ∀ n1, fX7_isTaken_4 (n1 + 1) 1 x2 C = fX7_isTaken_4 n1 1 (x2 + 1) C') ∨ (fl C' M' ∧ fX12_tablePart M = some (0, M') ∧ ∀ n1, fX7_isTaken_4 (n1 + 1) 1 x2 C = fX7_isTaken_4 n1 0 (x2 + 1) C')) := by
  have hr := hs.1
  obtain ⟨km, k1, k2⟩ := hr.key
  have io : fX5_isOver C = 0 := by unfold fX5_isOver; rw [if_neg ho]
  have K0 : C.1 0 2 2 = (0 : Int32) ↔ km = (0 : Int32) := k2.iff (a := 0) (b := 0) (by omega) (by decide)
  have K6 : C.1 0 2 2 = (6 : Int32) ↔ km = (1 : Int32) := k2.iff (a := 6) (b := 1) (by omega) (by decide)
  have K7 : C.1 0 2 2 = (7 : Int32) ↔ km = (2 : Int32) := k2.iff (a := 7) (b := 2) (by omega) (by decide)
  have K9 : C.1 0 2 2 = (9 : Int32) ↔ km = (3 : Int32) := k2.iff (a := 9) (b := 3) (by omega) (by decide)
  have K10 : C.1 0 2 2 = (10 : Int32) ↔ km = (4 : Int32) := k2.iff (a := 10) (b := 4) (by omega) (by decide)
  have K14 : C.1 0 2 2 = (14 : Int32) ↔ km = (5 : Int32) := k2.iff (a := 14) (b := 5) (by omega) (by decide)
  have pre : ∀ {x y : Option (Int32 × mz_D)}, prt n L s C M x y → (fX12_tablePart M = Option.bind y fun q => fX12_tablePart_100 q.1 q.2) → (∀ n1, fX7_isTaken_4 (n1 + 1) 1 x2 C = Option.bind x fun q => fX7_isTaken_165 (fX7_isTaken_4 n1) q.1 x2 q.2) → ∃ C' M', bC C C' ∧ bM M M' ∧ ((∃ s', s + 2 ≤ s' ∧ st n L s' C' M' ∧ fX12_tablePart M = some (1, M') ∧ ∀ n1, fX7_isTaken_4 (n1 + 1) 1 x2 C = fX7_isTaken_4 n1 1 (x2 + 1) C') ∨ (fl C' M' ∧ fX12_tablePart M = some (0, M') ∧ ∀ n1, fX7_isTaken_4 (n1 + 1) 1 x2 C = fX7_isTaken_4 n1 0 (x2 + 1) C')) := by
    intro x y hp hy hx
    obtain ⟨C', M', f1, f2, ⟨s', l, a1, a2, a3⟩ | ⟨a1, a2, a3⟩⟩ := semE hp x2
    · exact ⟨C', M', f1, f2, Or.inl ⟨s', l, a1, hy.trans a2, fun n1 => (hx n1).trans (a3 _)⟩⟩
    · exact ⟨C', M', f1, f2, Or.inr ⟨a1, hy.trans a2, fun n1 => (hx n1).trans (a3 _)⟩⟩
  by_cases q0 : C.1 0 2 2 = (0 : Int32)
  · refine pre (sPersonN hs (by rw [q0]; decide)) ?_ (fun n1 => ?_)
    · unfold fX12_tablePart
      rw [k1, Option.bind_some, if_pos (K0.mp q0)]
    · rw [fX7_isTaken_4]
      dsimp only
      rw [if_neg hx, if_neg one_ne, io, if_pos rfl, if_pos q0]
  · by_cases q6 : C.1 0 2 2 = (6 : Int32)
    · refine pre (sCouple hs (by rw [q6]; decide)) ?_ (fun n1 => ?_)
      · unfold fX12_tablePart
        rw [k1, Option.bind_some, if_neg (fun q => q0 (K0.mpr q)), if_pos (K6.mp q6)]
      · rw [fX7_isTaken_4]
        dsimp only
        rw [if_neg hx, if_neg one_ne, io, if_pos rfl, if_neg q0, if_neg (by rw [q6]; decide), if_neg (by rw [q6]; decide), if_neg (by rw [q6]; decide), if_neg (by rw [q6]; decide), if_neg (by rw [q6]; decide), if_pos q6]
    · by_cases q7 : C.1 0 2 2 = (7 : Int32)
      · refine pre (sDish hs (by rw [q7]; decide)) ?_ (fun n1 => ?_)
        · unfold fX12_tablePart
          rw [k1, Option.bind_some, if_neg (fun q => q0 (K0.mpr q)), if_neg (fun q => q6 (K6.mpr q)), if_pos (K7.mp q7)]
        · rw [fX7_isTaken_4]
          dsimp only
          rw [if_neg hx, if_neg one_ne, io, if_pos rfl, if_neg q0, if_neg (by rw [q7]; decide), if_neg (by rw [q7]; decide), if_neg (by rw [q7]; decide), if_neg (by rw [q7]; decide), if_neg (by rw [q7]; decide), if_neg q6, if_pos q7]
      · by_cases q9 : C.1 0 2 2 = (9 : Int32)
        · refine pre (sDebt hs (by rw [q9]; decide)) ?_ (fun n1 => ?_)
          · unfold fX12_tablePart
            rw [k1, Option.bind_some, if_neg (fun q => q0 (K0.mpr q)), if_neg (fun q => q6 (K6.mpr q)), if_neg (fun q => q7 (K7.mpr q)), if_pos (K9.mp q9)]
          · rw [fX7_isTaken_4]
            dsimp only
            rw [if_neg hx, if_neg one_ne, io, if_pos rfl, if_neg q0, if_neg (by rw [q9]; decide), if_neg (by rw [q9]; decide), if_neg (by rw [q9]; decide), if_neg (by rw [q9]; decide), if_neg (by rw [q9]; decide), if_neg q6, if_neg q7, if_neg (by rw [q9]; decide), if_pos q9]
        · by_cases q10 : C.1 0 2 2 = (10 : Int32)
          · refine pre (sSplit hs (by rw [q10]; decide)) ?_ (fun n1 => ?_)
            · unfold fX12_tablePart
              rw [k1, Option.bind_some, if_neg (fun q => q0 (K0.mpr q)), if_neg (fun q => q6 (K6.mpr q)), if_neg (fun q => q7 (K7.mpr q)), if_neg (fun q => q9 (K9.mpr q)), if_pos (K10.mp q10)]
            · rw [fX7_isTaken_4]
              dsimp only
              rw [if_neg hx, if_neg one_ne, io, if_pos rfl, if_neg q0, if_neg (by rw [q10]; decide), if_neg (by rw [q10]; decide), if_neg (by rw [q10]; decide), if_neg (by rw [q10]; decide), if_neg (by rw [q10]; decide), if_neg q6, if_neg q7, if_neg (by rw [q10]; decide), if_neg q9, if_pos q10]
          · by_cases q14 : C.1 0 2 2 = (14 : Int32)
            · refine pre (sLaw hs (by rw [q14]; decide)) ?_ (fun n1 => ?_)
              · unfold fX12_tablePart
                rw [k1, Option.bind_some, if_neg (fun q => q0 (K0.mpr q)), if_neg (fun q => q6 (K6.mpr q)), if_neg (fun q => q7 (K7.mpr q)), if_neg (fun q => q9 (K9.mpr q)), if_neg (fun q => q10 (K10.mpr q)), if_pos (K14.mp q14)]
              · rw [fX7_isTaken_4]
                dsimp only
                rw [if_neg hx, if_neg one_ne, io, if_pos rfl, if_neg q0, if_neg (by rw [q14]; decide), if_neg (by rw [q14]; decide), if_neg (by rw [q14]; decide), if_neg (by rw [q14]; decide), if_neg (by rw [q14]; decide), if_neg q6, if_neg q7, if_neg (by rw [q14]; decide), if_neg q9, if_neg q10, if_neg (by rw [q14]; decide), if_neg (by rw [q14]; decide), if_neg (by rw [q14]; decide), if_pos q14]
            · obtain ⟨C', M', a1, a2, a3, a4, a5⟩ := hr.fail (k := 2) (by decide)
              refine ⟨C', M', a4.b, a5.b, Or.inr ⟨a3, ?_, fun n1 => ?_⟩⟩
              · unfold fX12_tablePart
                rw [k1, Option.bind_some, if_neg (fun q => q0 (K0.mpr q)), if_neg (fun q => q6 (K6.mpr q)), if_neg (fun q => q7 (K7.mpr q)), if_neg (fun q => q9 (K9.mpr q)), if_neg (fun q => q10 (K10.mpr q)), if_neg (fun q => q14 (K14.mpr q)), a2]; rfl
              · have T : (Option.bind (fX5_fail (2 : Int32) C) fun q => (fX7_isTaken_165 (fX7_isTaken_4 n1) q.1 x2 q.2)) = fX7_isTaken_4 n1 0 (x2 + 1) C' := by
                  rw [a1, Option.bind_some]
                  unfold fX7_isTaken_165 fX7_isTaken_183
                  rw [if_pos rfl]
                rw [← T, fX7_isTaken_4]
                dsimp only
                rw [if_neg hx, if_neg one_ne, io, if_pos rfl, if_neg q0, if_neg q6, if_neg q7, if_neg q9, if_neg q10, if_neg q14]
                exact ite_q (ite_q (ite_q (ite_q (ite_q (ite_q (ite_q (ite_q (ite_q rfl))))))))
theorem evr : ∀ m, m < 7 → (((1 : Int32) <<< (nI m &&& 31)) - (1 : Int32) = nI (2 ^ m - 1)) := by decide +kernel
theorem tabL {n L : Nat} : ∀ d s (C M : mz_D) n1 n2 x, st n L s C M → L - s ≤ d → 2 * x ≤ s → d + 1 < n1 → d + 1 < n2 → ∃ r C' M', fX7_isTaken_4 n1 1 (nI x) C = some (r, C') ∧ fX12_table_31 n2 1 M = fX12_table_50 M' ∧ bC C C' ∧ bM M M' ∧ ((r = 1 ∧ M'.1 0 200 18 = 0 ∧ M'.1 0 200 17 = -1 ∧ C'.1 2 119 0 = 0 ∧ ∃ m d gs, tR n 2 0 0 C' (sh M') m d gs (2 ^ m - 1)) ∨ (r = 0 ∧ fl C' M')) := by
  intro d
  induction d with
  | zero =>
    intro s C M n1 n2 x hs hL hx hn1 hn2
    obtain ⟨n1, rfl⟩ : ∃ n', n1 = n' + 2 := ⟨n1 - 2, by omega⟩
    obtain ⟨n2, rfl⟩ : ∃ n', n2 = n' + 2 := ⟨n2 - 2, by omega⟩
    have hr := hs.1
    have h9 := hr.1.1
    have hsL := hr.2.1
    have n9 : ¬ (900 : Int32) ≤ nI x := by
      show ¬ nI 900 ≤ nI x
      rw [nJ_le (by omega) (by omega)]
      omega
    rcases hr.ovr with ⟨o1, o2, o3⟩ | ⟨o1, o2⟩
    · obtain ⟨m, d, gs, a, b, B, -⟩ := hs.2
      have io : fX5_isOver C = 1 := by unfold fX5_isOver; rw [if_pos o1]
      refine ⟨1, mz_wi C 2 117 0 (nI (2 ^ m - 1)), M, ?_, ?_, bC_wi (by omega), bM.rf, Or.inl ⟨rfl, hr.2.2.2.2.1, hr.2.2.2.2.2.1, by rw [wi_n (by omega)]; exact B.2.1, m, d, gs, B.1⟩⟩
      · rw [fX7_isTaken_4]
        dsimp only
        unfold fX7_isTaken_191
        rw [if_neg n9, if_neg one_ne, io, if_neg one_ne, B.mc, evr m (by have := B.hm; omega)]; rfl
      · rw [fX12_table_31]
        dsimp only
        rw [if_neg one_ne, if_pos o2]
    · obtain ⟨C', M', f1, f2, ⟨s', l, a1, -⟩ | ⟨a1, a2, a3⟩⟩ := stepT hs o1 n9
      · have := a1.1.2.1
        omega
      · refine ⟨0, mz_wi C' 2 117 0 (((1 : Int32) <<< ((C'.1 2 101 0) &&& 31)) - (1 : Int32)), M', ?_, ?_, f1.tr (bC_wi (by omega)), f2, Or.inr ⟨rfl, by rw [wi_n (by omega)]; exact a1.1, a1.2.1, by rw [wi_n (by omega)]; exact a1.2.2⟩⟩
        · rw [a3, fX7_isTaken_4]
          dsimp only
          unfold fX7_isTaken_191
          rw [if_pos rfl]
          by_cases z : (900 : Int32) ≤ nI x + 1
          · rw [if_pos z]; rfl
          · rw [if_neg z]; rfl
        · rw [fX12_table_31]
          dsimp only
          rw [if_neg one_ne, if_neg o2, a2, Option.bind_some, fX12_table_31]
          dsimp only
          rw [if_pos rfl]
  | succ d ih =>
    intro s C M n1 n2 x hs hL hx hn1 hn2
    obtain ⟨n1, rfl⟩ : ∃ n', n1 = n' + 2 := ⟨n1 - 2, by omega⟩
    obtain ⟨n2, rfl⟩ : ∃ n', n2 = n' + 2 := ⟨n2 - 2, by omega⟩
    have hr := hs.1
    have h9 := hr.1.1
    have hsL := hr.2.1
    have n9 : ¬ (900 : Int32) ≤ nI x := by
      show ¬ nI 900 ≤ nI x
      rw [nJ_le (by omega) (by omega)]
      omega
    rcases hr.ovr with ⟨o1, o2, o3⟩ | ⟨o1, o2⟩
    · obtain ⟨m, d, gs, a, b, B, -⟩ := hs.2
      have io : fX5_isOver C = 1 := by unfold fX5_isOver; rw [if_pos o1]
      refine ⟨1, mz_wi C 2 117 0 (nI (2 ^ m - 1)), M, ?_, ?_, bC_wi (by omega), bM.rf, Or.inl ⟨rfl, hr.2.2.2.2.1, hr.2.2.2.2.2.1, by rw [wi_n (by omega)]; exact B.2.1, m, d, gs, B.1⟩⟩
      · rw [fX7_isTaken_4]
        dsimp only
        unfold fX7_isTaken_191
        rw [if_neg n9, if_neg one_ne, io, if_neg one_ne, B.mc, evr m (by have := B.hm; omega)]; rfl
      · rw [fX12_table_31]
        dsimp only
        rw [if_neg one_ne, if_pos o2]
    · obtain ⟨C', M', f1, f2, ⟨s', l, a1, a2, a3⟩ | ⟨a1, a2, a3⟩⟩ := stepT hs o1 n9
      · have := a1.1.2.1
        obtain ⟨r, C2, M2, b1, b2, b3, b4, b5⟩ := ih s' C' M' (n1 + 1) (n2 + 1) (x + 1) a1 (by omega) (by omega) (by omega) (by omega)
        refine ⟨r, C2, M2, ?_, ?_, f1.tr b3, f2.tr b4, b5⟩
        · rw [a3, a1r]; exact b1
        · rw [fX12_table_31]
          dsimp only
          rw [if_neg one_ne, if_neg o2, a2, Option.bind_some]
          exact b2
      · refine ⟨0, mz_wi C' 2 117 0 (((1 : Int32) <<< ((C'.1 2 101 0) &&& 31)) - (1 : Int32)), M', ?_, ?_, f1.tr (bC_wi (by omega)), f2, Or.inr ⟨rfl, by rw [wi_n (by omega)]; exact a1.1, a1.2.1, by rw [wi_n (by omega)]; exact a1.2.2⟩⟩
        · rw [a3, fX7_isTaken_4]
          dsimp only
          unfold fX7_isTaken_191
          rw [if_pos rfl]
          by_cases z : (900 : Int32) ≤ nI x + 1
          · rw [if_pos z]; rfl
          · rw [if_neg z]; rfl
        · rw [fX12_table_31]
          dsimp only
          rw [if_neg one_ne, if_neg o2, a2, Option.bind_some, fX12_table_31]
          dsimp only
          rw [if_pos rfl]
