/-! ===== until the rounds are even ===== -/
def cpR (f f' : Nat → Int32) (N : Nat) : Nat → Int32 := fun c => if c < N then f c else f' c
theorem cpi_wr (D : mz_D) (g g' o N : Nat) : mz_cpi D g o g' o 0 0 N = wr D g' o (cpR (D.1 g o) (D.1 g' o) N) := by
  refine mzD_ext (fun a b c => ?_) rfl
  rw [wr_1]
  show (if b = o ∧ a = g' then va_cpy (D.1 g o) (D.1 g' o) 0 0 N c else D.1 a b c) = _
  unfold va_cpy cpR
  by_cases h : b = o ∧ a = g'
  · rw [if_pos h, if_pos h]
    try dsimp only
    by_cases h2 : c < N
    · rw [if_pos (by omega), if_pos h2, Nat.zero_add, Nat.sub_zero]
    · rw [if_neg (by omega), if_neg h2]
  · rw [if_neg h, if_neg h]
theorem cp_103 (g0 g1 : Nat) (D : mz_D) : fX11_copyRow_103_103 g0 g1 D = some (wr D g1 103 (cpR (D.1 g0 103) (D.1 g1 103) 6)) := by
  unfold fX11_copyRow_103_103
  rw [show mz_cpg (0 : Int32) (0 : Int32) (fJ9_min_7cf53 (Int32.ofNat 6) (Int32.ofNat 6)) 6 6 = true by decide +kernel, gd_tt, show (fJ9_min_7cf53 (Int32.ofNat 6) (Int32.ofNat 6)).toNatClampNeg = 6 by decide +kernel, z0, cpi_wr]
theorem cp_104 (g0 g1 : Nat) (D : mz_D) : fX11_copyRow_104_104 g0 g1 D = some (wr D g1 104 (cpR (D.1 g0 104) (D.1 g1 104) 6)) := by
  unfold fX11_copyRow_104_104
  rw [show mz_cpg (0 : Int32) (0 : Int32) (fJ9_min_7cf53 (Int32.ofNat 6) (Int32.ofNat 6)) 6 6 = true by decide +kernel, gd_tt, show (fJ9_min_7cf53 (Int32.ofNat 6) (Int32.ofNat 6)).toNatClampNeg = 6 by decide +kernel, z0, cpi_wr]
theorem cp_105 (g0 g1 : Nat) (D : mz_D) : fX11_copyRow_105_105 g0 g1 D = some (wr D g1 105 (cpR (D.1 g0 105) (D.1 g1 105) 6)) := by
  unfold fX11_copyRow_105_105
  rw [show mz_cpg (0 : Int32) (0 : Int32) (fJ9_min_7cf53 (Int32.ofNat 6) (Int32.ofNat 6)) 6 6 = true by decide +kernel, gd_tt, show (fJ9_min_7cf53 (Int32.ofNat 6) (Int32.ofNat 6)).toNatClampNeg = 6 by decide +kernel, z0, cpi_wr]
theorem cp_106 (g0 g1 : Nat) (D : mz_D) : fX11_copyRow_106_106 g0 g1 D = some (wr D g1 106 (cpR (D.1 g0 106) (D.1 g1 106) 6)) := by
  unfold fX11_copyRow_106_106
  rw [show mz_cpg (0 : Int32) (0 : Int32) (fJ9_min_7cf53 (Int32.ofNat 6) (Int32.ofNat 6)) 6 6 = true by decide +kernel, gd_tt, show (fJ9_min_7cf53 (Int32.ofNat 6) (Int32.ofNat 6)).toNatClampNeg = 6 by decide +kernel, z0, cpi_wr]
theorem cp_107 (g0 g1 : Nat) (D : mz_D) : fX11_copyRow_107_107 g0 g1 D = some (wr D g1 107 (cpR (D.1 g0 107) (D.1 g1 107) 6)) := by
  unfold fX11_copyRow_107_107
  rw [show mz_cpg (0 : Int32) (0 : Int32) (fJ9_min_7cf53 (Int32.ofNat 6) (Int32.ofNat 6)) 6 6 = true by decide +kernel, gd_tt, show (fJ9_min_7cf53 (Int32.ofNat 6) (Int32.ofNat 6)).toNatClampNeg = 6 by decide +kernel, z0, cpi_wr]
theorem cp_108 (g0 g1 : Nat) (D : mz_D) : fX11_copyRow_108_108 g0 g1 D = some (wr D g1 108 (cpR (D.1 g0 108) (D.1 g1 108) 6)) := by
  unfold fX11_copyRow_108_108
  rw [show mz_cpg (0 : Int32) (0 : Int32) (fJ9_min_7cf53 (Int32.ofNat 6) (Int32.ofNat 6)) 6 6 = true by decide +kernel, gd_tt, show (fJ9_min_7cf53 (Int32.ofNat 6) (Int32.ofNat 6)).toNatClampNeg = 6 by decide +kernel, z0, cpi_wr]
theorem cp_118 (g0 g1 : Nat) (D : mz_D) : fX11_copyRow_118_118 g0 g1 D = some (wr D g1 118 (cpR (D.1 g0 118) (D.1 g1 118) 6)) := by
  unfold fX11_copyRow_118_118
  rw [show mz_cpg (0 : Int32) (0 : Int32) (fJ9_min_7cf53 (Int32.ofNat 6) (Int32.ofNat 6)) 6 6 = true by decide +kernel, gd_tt, show (fJ9_min_7cf53 (Int32.ofNat 6) (Int32.ofNat 6)).toNatClampNeg = 6 by decide +kernel, z0, cpi_wr]
def evB (w : Nat → Int32) (ins : Nat) : Nat → Bool
  | 0 => true
  | k + 1 => if ins.testBit k then evB w ins k && (match byr w ins k with | none => true | some j => decide (w k = w j)) else evB w ins k
theorem byr_s (w : Nat → Int32) (ins k : Nat) : byr w ins (k + 1) = amS (fun k => ins.testBit k) (fun k j => decide (w j < w k)) k (byr w ins k) := amx_e _ _ k
theorem evB_iff (w : Nat → Int32) (ins : Nat) : ∀ k, evB w ins k = true ↔ ∀ j, byr w ins k = some j → ∀ i, i < k → ins.testBit i = true → w i = w j := by
  intro k
  induction k with
  | zero => exact ⟨fun _ j _ i hi => by omega, fun _ => rfl⟩
  | succ k ih =>
    rw [byr_s]
    unfold evB
    have hin := byr_in w ins k
    cases hb : ins.testBit k with
    | false =>
      simp only [Bool.false_eq_true, if_false]
      have e : amS (fun k => ins.testBit k) (fun k j => decide (w j < w k)) k (byr w ins k) = byr w ins k := by cases byr w ins k <;> simp [amS, hb]
      rw [e, ih]
      refine ⟨fun h j hj i hi ht => h j hj i ?_ ht, fun h j hj i hi ht => h j hj i (by omega) ht⟩
      by_cases e2 : i = k
      · rw [e2, hb] at ht; cases ht
      · omega
    | true =>
      simp only [if_true]
      cases hq : byr w ins k with
      | none =>
        have hn := amx_none hq
        have t1 : evB w ins k = true := ih.mpr (fun j hj => by rw [hq] at hj; cases hj)
        rw [t1]
        simp only [amS, hb, if_true, Bool.and_true, true_iff]
        intro j hj i hi ht
        cases hj
        by_cases e2 : i = k
        · rw [e2]
        · have := hn i (by omega); rw [ht] at this; cases this
      | some j0 =>
        have hj0 := hin j0 hq
        have hb0 : ins.testBit j0 = true := amx_some hq
        rw [hq] at ih
        simp only [amS, hb, Bool.true_and, Bool.and_eq_true, decide_eq_true_eq]
        by_cases hg : w j0 < w k
        · rw [if_pos hg]
          constructor
          · intro h; rw [h.2] at hg; exact absurd hg Int32.lt_irrefl
          · intro h; have := h k rfl j0 (by omega) hb0; rw [this] at hg; exact absurd hg Int32.lt_irrefl
        · rw [if_neg hg]
          constructor
          · intro h j hj i hi ht
            cases hj
            by_cases e2 : i = k
            · rw [e2]; exact h.2
            · exact (ih.mp h.1) j0 rfl i (by omega) ht
          · intro h
            exact ⟨ih.mpr (fun j hj i hi ht => by cases hj; exact h j0 rfl i (by omega) ht), h j0 rfl k (by omega) hb⟩
theorem byr_c {w w' : Nat → Int32} {ins M : Nat} (h : ∀ i, i < M → w i = w' i) : byr w ins M = byr w' ins M := amx_congr (fun _ _ => rfl) (fun k j hk hj => by rw [h k hk, h j hj])
theorem evB_c {w w' : Nat → Int32} {ins M : Nat} (h : ∀ i, i < M → w i = w' i) : evB w ins M = evB w' ins M := by
  have : evB w ins M = true ↔ evB w' ins M = true := by
    rw [evB_iff, evB_iff, byr_c h]
    constructor
    · intro q j hj i hi ht; rw [← h i hi, ← h j (byr_in w' ins M j hj)]; exact q j hj i hi ht
    · intro q j hj i hi ht; rw [h i hi, h j (byr_in w' ins M j hj)]; exact q j hj i hi ht
  cases h1 : evB w ins M <;> cases h2 : evB w' ins M <;> simp_all
theorem evB_6 {w : Nat → Int32} {ins m : Nat} (hm : m ≤ 6) (hi : ins < 2 ^ m) : evB w ins 6 = evB w ins m := by
  have : evB w ins 6 = true ↔ evB w ins m = true := by
    rw [evB_iff, evB_iff, byr_6 hm hi]
    constructor
    · intro q j hj i hi ht; exact q j hj i (by omega) ht
    · intro q j hj i hi6 ht
      refine q j hj i ?_ ht
      by_cases e : i < m
      · exact e
      · rw [tb_lt hi (by omega)] at ht; cases ht
  cases h1 : evB w ins 6 <;> cases h2 : evB w ins m <;> simp_all
theorem isEvC {g ins : Nat} {D : mz_D} (hi : ins < 64) (e : D.1 g 117 0 = nI ins) : fX0_isEven g D = some (if evB (D.1 g 118) ins 6 then 1 else 0) := by
  unfold fX0_isEven
  rw [buyC hi e, Option.bind_some]
  have hin := byr_in (D.1 g 118) ins 6
  cases hb : byr (D.1 g 118) ins 6 with
  | none =>
    have : evB (D.1 g 118) ins 6 = true := (evB_iff _ _ 6).mpr (fun j hj => by rw [hb] at hj; cases hj)
    rw [this, show mz_N = 999999 + 1 from rfl, fX0_isEven_7]
    dsimp only
    rw [if_neg (by decide), if_pos (show enc none = -1 from rfl)]
    rfl
  | some b =>
    have hb6 := hin b hb
    show fX0_isEven_7 g D mz_N (nI b) 0 = _
    have ne : ¬ nI b = -1 := fun q => (nI_ne1 (k := b) (by omega)).mp q
    have step : ∀ n k, k < 6 → (ins.testBit k = true → D.1 g 118 k = D.1 g 118 b) → fX0_isEven_7 g D (n + 1) (nI b) (nI k) = fX0_isEven_7 g D n (nI b) (nI (k + 1)) := by
      intro n k hk hok
      rw [fX0_isEven_7]
      simp (disch := omega) only [e, isIn_e, nI_ix, gd_tt, nI_cl, a1r]
      rw [if_neg (by rw [ol_le (c := 6) (by omega) (by omega)]; omega), if_neg ne]
      cases hbit : ins.testBit k with
      | false => simp
      | true => rw [if_neg (by simp), if_pos (hok hbit)]
    by_cases all : ∀ k, k < 6 → (ins.testBit k = true → D.1 g 118 k = D.1 g 118 b)
    · have : evB (D.1 g 118) ins 6 = true := (evB_iff _ _ 6).mpr (fun j hj i hi6 ht => by rw [hb] at hj; cases hj; exact all i hi6 ht)
      rw [this]
      exact lpD (fun n (_ : Unit) k => fX0_isEven_7 g D n (nI b) k) (fun _ => ()) 6 (fun n k hk => step n k hk (all k hk)) (fun n => by
        show fX0_isEven_7 g D (n + 1) (nI b) (nI 6) = _
        rw [fX0_isEven_7]
        dsimp only
        rw [if_pos (by decide)]
        rfl) 6 0 mz_N rfl (N_lt (by omega))
    · obtain ⟨k, hk, hbad, hlt⟩ := least all
      have hbit : ins.testBit k = true := Classical.not_not.mp (fun q => hbad (fun q2 => absurd q2 q))
      have hne : ¬ D.1 g 118 k = D.1 g 118 b := fun q => hbad (fun _ => q)
      have : evB (D.1 g 118) ins 6 = false := by
        cases h2 : evB (D.1 g 118) ins 6 with
        | false => rfl
        | true => exact absurd ((evB_iff _ _ 6).mp h2 b hb k hk hbit) hne
      rw [this]
      exact lpD (fun n (_ : Unit) k => fX0_isEven_7 g D n (nI b) k) (fun _ => ()) k (fun n j hj => step n j (by omega) (hlt j hj)) (fun n => by
        show fX0_isEven_7 g D (n + 1) (nI b) (nI k) = _
        rw [fX0_isEven_7]
        simp (disch := omega) only [e, isIn_e, nI_ix, gd_tt, nI_cl, a1r]
        rw [if_neg (by rw [ol_le (c := 6) (by omega) (by omega)]; omega), if_neg ne, hbit, if_neg (by simp), if_neg hne]
        rfl) k 0 mz_N (by omega) (N_lt (by omega))
def erW (w0 : Nat → Int32) (ins m : Nat) : Nat → (Nat → Int32)
  | 0 => w0
  | k + 1 => srv (erW w0 ins m k) ins ((byr (erW w0 ins m k) ins m).getD 0) 6
theorem srv_i {f f' : Nat → Int32} {ins b k i : Nat} (h : f i = f' i) : srv f ins b k i = srv f' ins b k i := by unfold srv; rw [h]
def inc (f : Nat → Int32) (ins k : Nat) : Nat → Int32 := fun i => if i < k then f i + bit ins i else f i
theorem inc_s (f : Nat → Int32) (ins k : Nat) : inc f ins (k + 1) = up (inc f ins k) k (f k + bit ins k) := by
  funext i
  unfold inc up
  try dsimp only
  by_cases h1 : i = k
  · rw [if_pos h1, if_pos (by omega), h1]
  · by_cases h2 : i < k
    · rw [if_neg h1, if_pos h2, if_pos (by omega)]
    · rw [if_neg h1, if_neg h2, if_neg (by omega)]
theorem inc_k (f : Nat → Int32) (ins k : Nat) : inc f ins k k = f k := if_neg (by omega)
theorem inc_0 (f : Nat → Int32) (ins : Nat) : inc f ins 0 = f := by funext i; exact if_neg (by omega)
/-- the reference's round of looking -/
theorem erM {E : mz_D} {m ins : Nat} (hm : m ≤ 6) (hi : ins < 2 ^ m) (hz : ins ≠ 0) (e0 : E.1 0 201 0 = nI m) (e8 : E.1 0 201 8 = nI ins) (k53 : Int32 → Int32 → mz_D → Option (Int32 × mz_D)) (x1 x2 : Int32) : (evB (E.1 0 210) ins m = true → fX12_evenRounds_67 k53 mz_N x1 x2 (-1) 1 0 E = some (x2, mz_wi E 0 200 2 0)) ∧ (evB (E.1 0 210) ins m = false → ∃ b, byr (E.1 0 210) ins m = some b ∧ fX12_evenRounds_67 k53 mz_N x1 x2 (-1) 1 0 E = k53 x1 (x2 + 1) (wr E 0 210 (up (inc (E.1 0 210) ins m) b (inc (E.1 0 210) ins m b - x1)))) := by
  have h64 := pow_m hm
  have key : fX12_evenRounds_67 k53 mz_N x1 x2 (-1) 1 0 E = if evB (E.1 0 210) ins m then some (x2, mz_wi E 0 200 2 0) else fX12_evenRounds_174 k53 mz_N x1 x2 (enc (byr (E.1 0 210) ins m)) 0 E := by
    exact lpD (fun n (s : Int32 × Int32) k => fX12_evenRounds_67 k53 n x1 x2 s.1 s.2 k E) (fun k => (enc (byr (E.1 0 210) ins k), if evB (E.1 0 210) ins k then 1 else 0)) m (fun n k hk => by
      show fX12_evenRounds_67 k53 (n + 1) x1 x2 (enc (byr (E.1 0 210) ins k)) (if evB (E.1 0 210) ins k then 1 else 0) (nI k) E = fX12_evenRounds_67 k53 n x1 x2 (enc (byr (E.1 0 210) ins (k + 1))) (if evB (E.1 0 210) ins (k + 1) then 1 else 0) (nI (k + 1)) E
      have hin := byr_in (E.1 0 210) ins k
      rw [fX12_evenRounds_67]
      unfold fX12_evenRounds_127 fX12_evenRounds_123 fX12_evenRounds_128 fX12_evenRounds_151
      simp (disch := omega) only [z0, z8, e0, e8, nJ_le, isIn_m, isIn_e, nI_ix, gd_tt, nI_cl, a1r]
      rw [if_neg (by omega), byr_s]
      conv => rhs; unfold evB
      cases hbit : ins.testBit k with
      | false =>
        have e : amS (fun k => ins.testBit k) (fun k j => decide (E.1 0 210 j < E.1 0 210 k)) k (byr (E.1 0 210) ins k) = byr (E.1 0 210) ins k := by cases byr (E.1 0 210) ins k <;> simp [amS, hbit]
        rw [e]
        simp
      | true =>
        cases hq : byr (E.1 0 210) ins k with
        | none =>
          have t1 : evB (E.1 0 210) ins k = true := (evB_iff _ _ k).mpr (fun j hj => by rw [hq] at hj; cases hj)
          rw [t1]
          simp [amS, hbit, enc]
        | some j =>
          have hj := hin j hq
          have ne : ¬ nI j = -1 := fun q => (nI_ne1 (k := j) (by omega)).mp q
          rw [show enc (some j) = nI j from rfl]
          simp (disch := omega) only [ne, if_false, nI_ix, gd_tt, nI_cl, amS, hbit, Bool.true_and]
          cases hev : evB (E.1 0 210) ins k with
          | false =>
            simp only [Bool.false_eq_true, if_false, if_true, Bool.false_and, one_ne]
            by_cases hg : E.1 0 210 k ≤ E.1 0 210 j
            · simp [hg, Int32.not_lt.mpr hg, enc]
            · simp [hg, Int32.not_le.mp hg, enc]
          | true =>
            simp only [if_true, if_false, one_ne, Bool.true_and]
            by_cases heq : E.1 0 210 k = E.1 0 210 j
            · simp [heq, Int32.le_refl, Int32.lt_irrefl, enc]
            · by_cases hg : E.1 0 210 k ≤ E.1 0 210 j
              · simp [heq, hg, Int32.not_lt.mpr hg, enc]
              · simp [heq, hg, Int32.not_le.mp hg, enc]) (fun n => by
      show fX12_evenRounds_67 k53 (n + 1) x1 x2 (enc (byr (E.1 0 210) ins m)) (if evB (E.1 0 210) ins m then 1 else 0) (nI m) E = _
      rw [fX12_evenRounds_67]
      simp only [z0, e0]
      rw [if_pos (Int32.le_refl _)]
      cases evB (E.1 0 210) ins m <;> simp) m 0 mz_N (by omega) (N_lt (by omega))
  constructor
  · intro h; rw [key, h]; rfl
  · intro h
    have hin := byr_in (E.1 0 210) ins m
    cases hq : byr (E.1 0 210) ins m with
    | none =>
      have : evB (E.1 0 210) ins m = true := (evB_iff _ _ m).mpr (fun j hj => by rw [hq] at hj; cases hj)
      rw [h] at this; cases this
    | some b =>
      have hb := hin b hq
      refine ⟨b, rfl, ?_⟩
      rw [key, h, hq, show enc (some b) = nI b from rfl]
      simp only [Bool.false_eq_true, if_false]
      have k2 : fX12_evenRounds_174 k53 mz_N x1 x2 (nI b) (nI 0) (wr E 0 210 (inc (E.1 0 210) ins 0)) = k53 x1 (x2 + 1) (wr E 0 210 (up (inc (E.1 0 210) ins m) b (inc (E.1 0 210) ins m b - x1))) := lpD (fun n s k => fX12_evenRounds_174 k53 n x1 x2 (nI b) k s) (fun k => wr E 0 210 (inc (E.1 0 210) ins k)) m (fun n k hk => by
        show fX12_evenRounds_174 k53 (n + 1) x1 x2 (nI b) (nI k) (wr E 0 210 (inc (E.1 0 210) ins k)) = fX12_evenRounds_174 k53 n x1 x2 (nI b) (nI (k + 1)) (wr E 0 210 (inc (E.1 0 210) ins (k + 1)))
        rw [fX12_evenRounds_174]
        simp (disch := omega) only [z0, z8, wr_n (show 201 ≠ 210 ∨ 0 ≠ 0 from Or.inl (by decide)), e0, e8, nJ_le, nI_ix, gd_tt, nI_cl, a1r, wr_s, wr_up, inc_k, shr_e]
        rw [if_neg (by omega), inc_s]) (fun n => by
        show fX12_evenRounds_174 k53 (n + 1) x1 x2 (nI b) (nI m) (wr E 0 210 (inc (E.1 0 210) ins m)) = _
        rw [fX12_evenRounds_174]
        simp (disch := omega) only [z0, wr_n (show 201 ≠ 210 ∨ 0 ≠ 0 from Or.inl (by decide)), e0, nI_ix, gd_tt, nI_cl, wr_s, wr_up]
        rw [if_pos (Int32.le_refl _)]) m 0 mz_N (by omega) (N_lt (by omega))
      rw [inc_0, wr_id] at k2
      exact k2
theorem p_op51 : op_51 Inv := by
  intro n D h
  obtain ⟨m, d, gs, ins, t⟩ := iR.t h
  have hm := t.hm
  have h64 := pow_m hm
  have hi := t.hins
  have hi64 : ins < 64 := by omega
  obtain ⟨D0, hD0⟩ : ∃ D0, D0 = wr (mz_wi (mz_wi D 2 117 0 (nI ins)) 2 117 1 (D.1 1 117 1)) 2 118 (cpR (D.1 1 118) (D.1 2 118) 6) := ⟨_, rfl⟩
  have cp : fX0_copyFrom 2 1 D = some D0 := by
    unfold fX0_copyFrom
    rw [cp_118, t.in_c, Option.bind_some, hD0]
    simp (disch := omega) only [wi_n]
    congr 3
  have s0 : sC D D0 := fun g o j hn => by
    rw [hD0]
    refine ⟨?_, rfl⟩
    have hq : ¬ (g = 2 ∧ o < 200) := fun q => hn (Or.inl q)
    rw [wr_n (by omega), wi_n (by omega), wi_n (by omega)]
  have d17 : D0.1 2 117 0 = nI ins := by rw [hD0, wr_n (Or.inl (by decide)), wi_n (by omega), wi_s]
  have d18 : ∀ i, i < m → D0.1 2 118 i = D.1 1 118 i := fun i hi => by rw [hD0, wr_s]; exact if_pos (by omega)
  by_cases hz : ins = 0
  · refine q_see h (r := -1) (v := 6) s0 ?_ (fun E he => ?_)
    · unfold fX11_evenRounds
      rw [cp, Option.bind_some, show mz_N = 999999 + 1 from rfl, fX11_evenRounds_21]
      dsimp only
      rw [if_neg (by decide), d17, hz, if_pos (by decide)]
    · unfold fX12_evenRounds
      rw [z8, (t.m he).uIn, hz]
      rfl
  · have hpc : 1 ≤ pcS ins := by
      have := pc_0 ins hi64
      omega
    obtain ⟨w, hw⟩ : ∃ w, w = erW (D.1 1 118) ins m := ⟨_, rfl⟩
    have w0 : w 0 = D.1 1 118 := by rw [hw]; rfl
    have ws : ∀ k b, byr (w k) ins m = some b → w (k + 1) = srv (w k) ins b 6 := fun k b hb => by
      rw [hw] at hb ⊢
      show srv (erW (D.1 1 118) ins m k) ins ((byr (erW (D.1 1 118) ins m k) ins m).getD 0) 6 = _
      rw [hb]
      rfl
    have stepC : ∀ n k Dk, k ≤ 60 → (sC D Dk ∧ Dk.1 2 117 0 = nI ins ∧ ∀ i, i < m → Dk.1 2 118 i = w k i) → evB (w k) ins m = false → ∃ Dk', (sC D Dk' ∧ Dk'.1 2 117 0 = nI ins ∧ ∀ i, i < m → Dk'.1 2 118 i = w (k + 1) i) ∧ fX11_evenRounds_21 (n + 1) (nI k) Dk = fX11_evenRounds_21 n (nI (k + 1)) Dk' := by
      intro n k Dk hk hS hev
      obtain ⟨a1, a2, a3⟩ := hS
      have ev : evB (Dk.1 2 118) ins 6 = false := by rw [evB_6 hm hi, evB_c a3]; exact hev
      cases hq : byr (w k) ins m with
      | none =>
        have : evB (w k) ins m = true := (evB_iff _ _ m).mpr (fun j hj => by rw [hq] at hj; cases hj)
        rw [hev] at this; cases this
      | some b =>
        have hb := byr_in (w k) ins m b hq
        have hq6 : byr (Dk.1 2 118) ins 6 = some b := by rw [byr_6 hm hi, byr_c a3]; exact hq
        refine ⟨mz_wi (wr Dk 2 118 (srv (Dk.1 2 118) ins b 6)) 2 117 1 (Dk.1 2 117 1 + 1), ?_, ?_⟩
        rotate_left
        · rw [fX11_evenRounds_21]
          dsimp only
          rw [if_neg (by rw [ol_lt (c := 60) (by omega) (by omega)]; omega), a2, if_neg (by rw [ol_eqi (c := 0) (by omega) (by omega)]; exact hz), isEvC hi64 a2, ev, Option.bind_some, if_pos (by simp), (servC hi64 a2).2 b hq6, Option.bind_some, a1r]
        · refine ⟨a1.tr (fun g o j hn => ?_), ?_, fun i hi2 => ?_⟩
          · have hq : ¬ (g = 2 ∧ o < 200) := fun q => hn (Or.inl q)
            exact ⟨by rw [wi_n (by omega), wr_n (by omega)], rfl⟩
          · rw [wi_n (by omega), wr_n (Or.inl (by decide))]; exact a2
          · rw [wi_n (by omega), wr_s, ws k b hq]
            exact srv_i (a3 i hi2)
    have stepM : ∀ E, eM D E → ∀ n k Ek, k ≤ 60 → (sM E Ek ∧ ∀ i, i < m → Ek.1 0 210 i = w k i) → evB (w k) ins m = false → ∃ Ek', (sM E Ek' ∧ ∀ i, i < m → Ek'.1 0 210 i = w (k + 1) i) ∧ fX12_evenRounds_53 (n + 1) (nI (pcS ins)) (nI k) Ek = fX12_evenRounds_53 n (nI (pcS ins)) (nI (k + 1)) Ek' := by
      intro E he n k Ek hk hS hev
      obtain ⟨a1, a3⟩ := hS
      have e0 : Ek.1 0 201 0 = nI m := by rw [(a1 0 201 0 (by unfold sMq; omega)).1]; exact (t.m he).uMany
      have e8 : Ek.1 0 201 8 = nI ins := by rw [(a1 0 201 8 (by unfold sMq; omega)).1]; exact (t.m he).uIn
      obtain ⟨b, hq, er⟩ := (erM hm hi hz e0 e8 (fX12_evenRounds_53 n) (nI (pcS ins)) (nI k)).2 (by rw [evB_c a3]; exact hev)
      have hq' : byr (w k) ins m = some b := by rw [← byr_c a3]; exact hq
      refine ⟨wr Ek 0 210 (up (inc (Ek.1 0 210) ins m) b (inc (Ek.1 0 210) ins m b - nI (pcS ins))), ?_, ?_⟩
      rotate_left
      · rw [fX12_evenRounds_53]
        dsimp only
        rw [if_neg (by rw [ol_lt (c := 60) (by omega) (by omega)]; omega), er, a1r]
      · refine ⟨a1.tr (sM_wr (by omega) _), fun i hi2 => ?_⟩
        rw [wr_s, ws k b hq']
        unfold up srv inc
        try dsimp only
        rw [if_pos (show i < 6 by omega), if_pos (show i < m by omega), pcB_6 ins hi64]
        by_cases e : i = b
        · subst e
          rw [if_pos rfl, if_pos rfl, if_pos hi2, a3 i hi2]
        · rw [if_neg e, if_neg e, a3 i hi2]
          grind
    have startM : ∀ E, eM D E → ∃ E0, (sM E E0 ∧ ∀ i, i < m → E0.1 0 210 i = w 0 i) ∧ fX12_evenRounds E = fX12_evenRounds_53 mz_N (nI (pcS ins)) 0 E0 := by
      intro E he
      have t2 := t.m he
      refine ⟨wr E 0 210 (cpR (D.1 1 118) (E.1 0 210) m), ⟨sM_wr (by omega) _, fun i hi2 => by rw [wr_s, w0]; exact if_pos hi2⟩, ?_⟩
      unfold fX12_evenRounds
      rw [z8, t2.uIn, bits_e hi64, Option.bind_some, if_neg (by rw [ol_eqi (c := 0) (by have := pc_le ins; omega) (by have := pc_le ins; omega)]; omega)]
      have key : fX12_evenRounds_24 mz_N (nI (pcS ins)) (nI 0) (wr E 0 210 (cpR (D.1 1 118) (E.1 0 210) 0)) = fX12_evenRounds_53 mz_N (nI (pcS ins)) 0 (wr E 0 210 (cpR (D.1 1 118) (E.1 0 210) m)) := lpD (fun n s k => fX12_evenRounds_24 n (nI (pcS ins)) k s) (fun k => wr E 0 210 (cpR (D.1 1 118) (E.1 0 210) k)) m (fun n k hk => by
        show fX12_evenRounds_24 (n + 1) (nI (pcS ins)) (nI k) (wr E 0 210 (cpR (D.1 1 118) (E.1 0 210) k)) = fX12_evenRounds_24 n (nI (pcS ins)) (nI (k + 1)) (wr E 0 210 (cpR (D.1 1 118) (E.1 0 210) (k + 1)))
        have tk := t2.wrM (o := 210) (by decide) (cpR (D.1 1 118) (E.1 0 210) k)
        rw [fX12_evenRounds_24]
        dsimp only
        rw [z0, tk.uMany, if_neg (by rw [nJ_le (by omega) (by omega)]; omega), tk.drk hk, Option.bind_some, nI_ix (by omega) (by omega), gd_tt, nI_cl (by omega), a1r, wr_up]
        congr 2
        funext i
        unfold up cpR
        try dsimp only
        by_cases h1 : i = k
        · rw [if_pos h1, if_pos (by omega), h1]
        · by_cases h2 : i < k
          · rw [if_neg h1, if_pos h2, if_pos (by omega)]
          · rw [if_neg h1, if_neg h2, if_neg (by omega)]) (fun n => by
        show fX12_evenRounds_24 (n + 1) (nI (pcS ins)) (nI m) (wr E 0 210 (cpR (D.1 1 118) (E.1 0 210) m)) = _
        have tk := t2.wrM (o := 210) (by decide) (cpR (D.1 1 118) (E.1 0 210) m)
        rw [fX12_evenRounds_24]
        dsimp only
        rw [z0, tk.uMany, if_pos (Int32.le_refl _)]) m 0 mz_N (by omega) (N_lt (by omega))
      have z : cpR (D.1 1 118) (E.1 0 210) 0 = E.1 0 210 := by funext i; exact if_neg (by omega)
      rw [z, wr_id] at key
      exact key
    have S0 : sC D D0 ∧ D0.1 2 117 0 = nI ins ∧ ∀ i, i < m → D0.1 2 118 i = w 0 i := ⟨s0, d17, fun i hi => by rw [w0]; exact d18 i hi⟩
    by_cases no : ∀ k, k < 61 → ¬ evB (w k) ins m = true
    · have hno : ∀ k, k < 61 → evB (w k) ins m = false := fun k hk => by have := no k hk; simpa using this
      obtain ⟨Dk, n', ⟨a1, a2, a3⟩, eq⟩ := lpE (fun n s k => fX11_evenRounds_21 n k s) (fun k Dk => sC D Dk ∧ Dk.1 2 117 0 = nI ins ∧ ∀ i, i < m → Dk.1 2 118 i = w k i) 61 (fun n s k hk hS => stepC n k s (by omega) hS (hno k hk)) 61 mz_N 0 D0 rfl (N_lt (by omega)) S0
      refine q_pair h (r := -1) (v := 6) a1 ?_ (fun E he => ?_)
      · unfold fX11_evenRounds
        rw [cp, Option.bind_some]
        refine eq.trans ?_
        show fX11_evenRounds_21 (n' + 1) (nI 61) Dk = _
        rw [fX11_evenRounds_21]
        dsimp only
        rw [if_pos (by decide)]
      · obtain ⟨E0, S0m, st⟩ := startM E he
        obtain ⟨Ek, n2, ⟨b1, b3⟩, eq2⟩ := lpE (fun n s k => fX12_evenRounds_53 n (nI (pcS ins)) k s) (fun k Ek => sM E Ek ∧ ∀ i, i < m → Ek.1 0 210 i = w k i) 61 (fun n s k hk hS => stepM E he n k s (by omega) hS (hno k hk)) 61 mz_N 0 E0 rfl (N_lt (by omega)) S0m
        refine ⟨Ek, b1, st.trans (eq2.trans ?_)⟩
        show fX12_evenRounds_53 (n2 + 1) (nI (pcS ins)) (nI 61) Ek = _
        rw [fX12_evenRounds_53]
        dsimp only
        rw [if_pos (by decide)]
    · obtain ⟨K, hK, hb, hlt⟩ := least no
      have hb := Classical.not_not.mp hb
      have hno : ∀ k, k < K → evB (w k) ins m = false := fun k hk => by have := hlt k hk; simpa using this
      obtain ⟨Dk, n', ⟨a1, a2, a3⟩, eq⟩ := lpE (fun n s k => fX11_evenRounds_21 n k s) (fun k Dk => sC D Dk ∧ Dk.1 2 117 0 = nI ins ∧ ∀ i, i < m → Dk.1 2 118 i = w k i) K (fun n s k hk hS => stepC n k s (by omega) hS (hno k hk)) K mz_N 0 D0 (by omega) (N_lt (by omega)) S0
      have ev : evB (Dk.1 2 118) ins 6 = true := by rw [evB_6 hm hi, evB_c a3]; exact hb
      refine q_pair h (r := nI K) (v := 0) a1 ?_ (fun E he => ?_)
      · unfold fX11_evenRounds
        rw [cp, Option.bind_some]
        refine eq.trans ?_
        show fX11_evenRounds_21 (n' + 1) (nI K) Dk = _
        rw [fX11_evenRounds_21]
        dsimp only
        rw [if_neg (by rw [ol_lt (c := 60) (by omega) (by omega)]; omega), a2, if_neg (by rw [ol_eqi (c := 0) (by omega) (by omega)]; exact hz), isEvC hi64 a2, ev, Option.bind_some, if_neg (by simp)]
      · obtain ⟨E0, S0m, st⟩ := startM E he
        obtain ⟨Ek, n2, ⟨b1, b3⟩, eq2⟩ := lpE (fun n s k => fX12_evenRounds_53 n (nI (pcS ins)) k s) (fun k Ek => sM E Ek ∧ ∀ i, i < m → Ek.1 0 210 i = w k i) K (fun n s k hk hS => stepM E he n k s (by omega) hS (hno k hk)) K mz_N 0 E0 (by omega) (N_lt (by omega)) S0m
        have e0 : Ek.1 0 201 0 = nI m := by rw [(b1 0 201 0 (by unfold sMq; omega)).1]; exact (t.m he).uMany
        have e8 : Ek.1 0 201 8 = nI ins := by rw [(b1 0 201 8 (by unfold sMq; omega)).1]; exact (t.m he).uIn
        refine ⟨Ek, b1, st.trans (eq2.trans ?_)⟩
        show fX12_evenRounds_53 (n2 + 1) (nI (pcS ins)) (nI K) Ek = _
        rw [fX12_evenRounds_53]
        dsimp only
        rw [if_neg (by rw [ol_lt (c := 60) (by omega) (by omega)]; omega)]
        exact (erM hm hi hz e0 e8 (fX12_evenRounds_53 n2) (nI (pcS ins)) (nI K)).1 (by rw [evB_c b3]; exact hb)
