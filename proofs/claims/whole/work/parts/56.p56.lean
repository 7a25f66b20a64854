/-! ===== odds of two, of three ===== -/
theorem bd_nI {x : Int32} {hi : Nat} (h : bd x 0 hi) : ∃ a : Nat, a ≤ hi ∧ x = nI a := by
  unfold bd at h
  obtain ⟨k, hk, rfl⟩ := nJ_of (i_le.mpr (by have : (0 : Int32).toInt = 0 := rfl; omega) : 0 ≤ x)
  rw [nI_toInt hk] at h
  exact ⟨k, by omega, rfl⟩
def nL (n : Nat) : Int64 := Int64.ofNat n
theorem nL_toInt {n : Nat} (h : n < 9223372036854775808) : (nL n).toInt = (n : Int) := by
  unfold nL
  rw [Int64.toInt_ofNat_of_lt (by omega)]
theorem nL_mul (a b : Nat) : nL a * nL b = nL (a * b) := by unfold nL; rw [Int64.ofNat_mul]
theorem nL_add (a b : Nat) : nL a + nL b = nL (a + b) := by unfold nL; rw [Int64.ofNat_add]
theorem is_e (v : Int32) (D : mz_D) : (Option.bind (fX12_is v D) fun q => mz_gd (mz_bo q.1) (some (q.1, q.2))) = some (if v = 0 then 1 else 0, mz_wi D 0 200 2 v) := by
  unfold fX12_is
  by_cases h : v = 0
  · rw [if_pos h, if_pos h]; rfl
  · rw [if_neg h, if_neg h]; rfl
theorem tR.insM {n g : Nat} {Dc Dm : mz_D} {m d gs ins : Nat} (h : tR n g 0 0 Dc Dm m d gs ins) {p : Nat} (hp : p < m) : fX12_insists (nI p) Dm = some (Dc.1 g 103 p) := by
  have hm := h.hm
  unfold fX12_insists
  simp (disch := omega) only [l8m, a12l, nI_ix, gd_tt, nI_cl, h.uInsists hp]
theorem duel_d : ∀ a, a < 17 → ∀ b, b < 17 → (nI a * ((16 : Int32) - nI b)).toInt64 = (nI a).toInt64 * ((16 : Int32) - nI b).toInt64 ∧ ((256 : Int32) - nI a * nI b).toInt64 = (256 : Int64) - (nI a).toInt64 * (nI b).toInt64 ∧ 0 ≤ ((nI a).toInt64 * ((16 : Int32) - nI b).toInt64).toInt ∧ 0 ≤ ((256 : Int64) - (nI a).toInt64 * (nI b).toInt64).toInt ∧ (¬ (nI a = 16 ∧ nI b = 16) → 0 < ((256 : Int64) - (nI a).toInt64 * (nI b).toInt64).toInt) ∧ 0 ≤ ((16 : Int64) * ((16 : Int32) + nI a).toInt64).toInt := by decide +kernel
theorem one_k {x y : Int64} (h : x = y) : x.toInt = y.toInt * ((1 : Nat) : Int) := by rw [h]; omega
theorem p_duel_goes (n : Nat) (D : mz_D) (x1 x2 : Int32) (h : Inv n D) : (∃ (r : Int32) (D1 D2 : mz_D), fX11_duel x1 x2 D = some (r, D1) ∧ fX12_duel x1 x2 D1 = some (r, D2) ∧ Inv (n + 1) D2) ∧ (∃ (r : Int32) (D1 D2 : mz_D), fX11_goes x1 x2 D = some (r, D1) ∧ fX12_goes x1 x2 D1 = some (r, D2) ∧ Inv (n + 1) D2) := by
  obtain ⟨m, d, gs, ins, t⟩ := iR.t h
  have hm := t.hm
  rcases two_or (g := 1) t.hm t.many_c t.many_m x1 x2 with ⟨c1, c2⟩ | ⟨p, q, hp, hq, hne, rfl, rfl, c1, c2⟩
  · exact ⟨q_look h (r := 0) (v := 1) (by unfold fX11_duel fX11_duelTrouble; rw [if_pos c1]; rfl) (fun E he => by unfold fX12_duel; rw [if_pos (by rw [two_m he]; exact c2), is_e]; rfl), q_look h (r := 0) (v := 1) (by unfold fX11_goes fX11_duelTrouble; rw [if_pos c1]; rfl) (fun E he => by unfold fX12_goes; rw [if_pos (by rw [two_m he]; exact c2), is_e]; rfl)⟩
  · obtain ⟨a, ha, ea⟩ := bd_nI (hi := 16) (t.insists p hp).2
    obtain ⟨b, hb, eb⟩ := bd_nI (hi := 16) (t.insists q hq).2
    obtain ⟨d1, d2, d3, d4, d5, d6⟩ := duel_d a (by omega) b (by omega)
    have hnz : ∀ E, eM D E → ¬ fX12_areTwo (nI p) (nI q) E = 0 := fun E he => by rw [two_m he, c2]; exact one_ne
    by_cases h16 : nI a = 16 ∧ nI b = 16
    · have et : fX11_duelTrouble (nI p) (nI q) D = some 6 := by
        unfold fX11_duelTrouble fX11_neverEnds
        simp (disch := omega) [c1, nI_ix, gd_tt, nI_cl, ea, eb, h16]
      have ee : ∀ E, eM D E → fX12_isEndless (nI p) (nI q) E = some 1 := fun E he => by
        unfold fX12_isEndless
        simp [(t.m he).insM hp, (t.m he).insM hq, ea, eb, h16]
      exact ⟨q_look h (r := 0) (v := 6) (by unfold fX11_duel; rw [et]; rfl) (fun E he => by unfold fX12_duel; rw [if_neg (hnz E he), ee E he, Option.bind_some, if_neg one_ne, is_e]; rfl), q_look h (r := 0) (v := 6) (by unfold fX11_goes; rw [et]; rfl) (fun E he => by unfold fX12_goes; rw [if_neg (hnz E he), ee E he, Option.bind_some, if_neg one_ne, is_e]; rfl)⟩
    · have et : fX11_duelTrouble (nI p) (nI q) D = some 0 := by
        unfold fX11_duelTrouble fX11_neverEnds
        simp (disch := omega) only [c1, nI_ix, gd_tt, nI_cl, ea, eb, one_ne, if_false]
        by_cases h1 : nI a = 16
        · by_cases h2 : nI b = 16
          · exact absurd ⟨h1, h2⟩ h16
          · simp [h1, h2]
        · simp [h1]
      have ee : ∀ E, eM D E → fX12_isEndless (nI p) (nI q) E = some 0 := fun E he => by
        unfold fX12_isEndless
        simp only [(t.m he).insM hp, (t.m he).insM hq, ea, eb, Option.bind_some]
        by_cases h1 : nI a = 16
        · by_cases h2 : nI b = 16
          · exact absurd ⟨h1, h2⟩ h16
          · simp [h1, h2]
        · simp [h1]
      have d7 := d5 h16
      constructor
      · refine q_tell h (k := 1) (by omega) (one_k d1) (one_k d2) d3 d4 (by omega) D sC.rf ?_ id (fun E he => ⟨sM.rf, ?_⟩)
        · unfold fX11_duel
          rw [et]
          simp (disch := omega) only [Option.bind_some, nI_ix, gd_tt, nI_cl, ea, eb, if_true]
        · unfold fX12_duel fX12_first fX12_behind
          rw [if_neg (hnz E he), ee E he]
          simp only [Option.bind_some, (t.m he).insM hp, (t.m he).insM hq, ea, eb, if_true, id]
      · refine q_tell h (k := 1) (by omega) (one_k rfl) (one_k d2) d6 d4 (by omega) D sC.rf ?_ id (fun E he => ⟨sM.rf, ?_⟩)
        · unfold fX11_goes
          rw [et]
          simp (disch := omega) only [Option.bind_some, nI_ix, gd_tt, nI_cl, ea, eb, if_true]
        · unfold fX12_goes fX12_behind
          rw [if_neg (hnz E he), ee E he]
          simp only [Option.bind_some, (t.m he).insM hp, (t.m he).insM hq, ea, eb, if_true, id]
theorem p_op29 : op_29 Inv := fun n D x1 x2 h => (p_duel_goes n D x1 x2 h).1
theorem p_op30 : op_30 Inv := fun n D x1 x2 h => (p_duel_goes n D x1 x2 h).2
theorem bd_sum {F : Nat → Int32} {B : Int} {M : Nat} (hB : 0 ≤ B) (hF : ∀ k, k < M → 0 ≤ (F k).toInt ∧ (F k).toInt ≤ B) (hM : B * M < 2147483648) : ∀ d, d ≤ M → 0 ≤ (foldN (fun k a => a + F k) 0 d 0).toInt ∧ (foldN (fun k a => a + F k) 0 d 0).toInt ≤ B * d := by
  intro d
  induction d with
  | zero => intro _; show 0 ≤ (0 : Int32).toInt ∧ (0 : Int32).toInt ≤ _; rw [show (0 : Int32).toInt = 0 from rfl]; omega
  | succ d ih =>
    intro hd
    have h1 := ih (by omega)
    have h2 := hF d (by omega)
    have h3 : B * ((d + 1 : Nat) : Int) = B * d + B := by rw [Int.natCast_add, Int.mul_add]; omega
    have h4 : B * ((d + 1 : Nat) : Int) ≤ B * M := Int.mul_le_mul_of_nonneg_left (by omega) hB
    rw [foldN_end, Nat.zero_add]
    rw [i_add (by omega) (by omega)]
    omega
theorem tR.quickB {n g : Nat} {Dc Dm : mz_D} {m d gs ins : Nat} (h : tR n g 0 0 Dc Dm m d gs ins) (s : Nat) : 0 ≤ (sQuick g Dc m s).toInt ∧ (sQuick g Dc m s).toInt ≤ 20 * m := by
  have hm := h.hm
  exact bd_sum (F := fun k => if s.testBit k then Dc.1 g 104 k else 0) (B := 20) (M := m) (by omega) (fun k hk => by
    have := (h.quick k hk).2
    unfold bd at this
    show 0 ≤ (if s.testBit k then Dc.1 g 104 k else 0).toInt ∧ (if s.testBit k then Dc.1 g 104 k else 0).toInt ≤ 20
    split
    · exact this
    · decide) (by omega) m (Nat.le_refl _)
theorem isIn0 (x : Int32) : fX11_isIn 0 x = 0 := by
  unfold fX11_isIn
  rw [show ((0 : Int32) >>> (x &&& 31)) = 0 from Int32.zero_shiftRight]
  rfl
theorem p_op32 : op_32 Inv := by
  intro n D x1 x2 h
  obtain ⟨m, d, gs, ins, t⟩ := iR.t h
  have hm := t.hm
  have h64 := pow_m hm
  have hev := ever_e hm
  have ref : (fX4_has 1 x2 D = 0 ∨ x1 < 1 ∨ nI (2 ^ m - 1) < x1 ∨ fX11_isIn x1 x2 = 0) → (fX4_has 1 x2 D = 0 ↔ fX12_isPerson x2 D = 0) → ∃ (r : Int32) (D1 D2 : mz_D), fX11_reach x1 x2 D = some (r, D1) ∧ fX12_reach x1 x2 D1 = some (r, D2) ∧ Inv (n + 1) D2 := by
    intro hx hi
    refine q_look h (r := 0) (v := 1) ?_ (fun E he => ?_)
    · unfold fX11_reach
      rw [t.many_c, hev]
      by_cases c1 : fX4_has 1 x2 D = 0
      · rw [if_pos c1]
      · by_cases c2 : x1 < 1
        · rw [if_neg c1, if_pos c2]
        · by_cases c3 : nI (2 ^ m - 1) < x1
          · rw [if_neg c1, if_neg c2, if_pos c3]
          · rw [if_neg c1, if_neg c2, if_neg c3, if_pos (by rcases hx with h | h | h | h <;> first | exact absurd h c1 | exact absurd h c2 | exact absurd h c3 | exact h)]
    · unfold fX12_reach fX12_reach_29
      rw [z0, (t.m he).uMany, hev, has_m he, isIn_m, is_e]
      by_cases c2 : x1 < 0
      · rw [if_pos c2]; rfl
      · by_cases c3 : nI (2 ^ m - 1) < x1
        · rw [if_neg c2, if_pos c3]; rfl
        · by_cases c1 : fX12_isPerson x2 D = 0
          · rw [if_neg c2, if_neg c3, if_pos c1]; rfl
          · rw [if_neg c2, if_neg c3, if_neg c1, if_pos]
            · rfl
            · rcases hx with h | h | h | h
              · exact absurd (hi.mp h) c1
              · have : x1 = 0 := by grind
                rw [this]; exact isIn0 x2
              · exact absurd h c3
              · exact h
  rcases has_or t.hm t.many_c t.many_m x2 with ⟨c1, c2⟩ | ⟨p, hp, rfl, c1, c2⟩
  · exact ref (Or.inl c1) ⟨fun _ => c2, fun _ => c1⟩
  · have hii : fX4_has 1 (nI p) D = 0 ↔ fX12_isPerson (nI p) D = 0 := by rw [c1, c2]
    by_cases k1 : x1 < 1
    · exact ref (Or.inr (Or.inl k1)) hii
    · by_cases k2 : nI (2 ^ m - 1) < x1
      · exact ref (Or.inr (Or.inr (Or.inl k2))) hii
      · by_cases k3 : fX11_isIn x1 (nI p) = 0
        · exact ref (Or.inr (Or.inr (Or.inr k3))) hii
        · obtain ⟨s, hs, rfl⟩ := nJ_of (show 0 ≤ x1 by grind)
          have hs2 : s < 64 := by
            have := (nJ_le hs (show 2 ^ m - 1 < 2147483648 by omega)).mp (Int32.not_lt.mp k2)
            omega
          have q1 : fX4_quickOf 1 (nI s) D = some (sQuick 1 D m s) := t.quickOf hs2
          have q2 : ∀ E, eM D E → fX12_quickOf (nI s) E = some (sQuick 1 D m s) := fun E he => (t.m he).quickOfM hs2
          have hqb := t.quickB s
          have hq := (t.quick p hp).2
          unfold bd at hq
          by_cases z : sQuick 1 D m s = 0
          · refine q_look h (r := 0) (v := 6) ?_ (fun E he => ?_)
            · unfold fX11_reach
              rw [t.many_c, hev, if_neg (by rw [c1]; exact one_ne), if_neg k1, if_neg k2, if_neg k3, q1, Option.bind_some, if_pos z]
            · unfold fX12_reach
              rw [z0, (t.m he).uMany, hev, if_neg (nI_neg hs).mp, if_neg k2, if_neg (by rw [has_m he, c2]; exact one_ne), if_neg (by rw [isIn_m]; exact k3), q2 E he, Option.bind_some, if_pos z, is_e]
              rfl
          · have hz : 0 < (sQuick 1 D m s).toInt := by
              have : (sQuick 1 D m s).toInt ≠ 0 := fun e => z (i_eq.mpr e)
              omega
            refine q_tell h (y1 := (D.1 1 104 p).toInt64) (y3 := (sQuick 1 D m s).toInt64) (k := 1) (by omega) (one_k rfl) (one_k rfl) (by rw [t64]; omega) (by rw [t64]; omega) (by rw [t64, t64]; omega) D sC.rf ?_ id (fun E he => ⟨sM.rf, ?_⟩)
            · unfold fX11_reach
              rw [t.many_c, hev, if_neg (by rw [c1]; exact one_ne), if_neg k1, if_neg k2, if_neg k3, q1, Option.bind_some, if_neg z, nI_ix (by omega) (by omega), gd_tt, nI_cl (by omega)]
            · unfold fX12_reach
              rw [z0, (t.m he).uMany, hev, if_neg (nI_neg hs).mp, if_neg k2, if_neg (by rw [has_m he, c2]; exact one_ne), if_neg (by rw [isIn_m]; exact k3), q2 E he, Option.bind_some, if_neg z, Option.bind_some]
              simp (disch := omega) only [l8m, a12l, a1r, nI_ix, gd_tt, nI_cl, (t.m he).uQuick hp, id]
