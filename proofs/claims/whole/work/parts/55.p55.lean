/-! ===== what is told by top and bottom ===== -/
theorem iR.tb {n : Nat} {Dc Dm : mz_D} (h : iR n Dc Dm) (a b : Int64) : iR n (mz_wg (mz_wg Dc 0 0 14 a) 0 0 15 b) (mz_wg (mz_wg Dm 0 200 3 a) 0 200 4 b) := by
  have hc : ∀ g o j, ¬ (o = 0 ∧ (j = 14 ∨ j = 15)) → (mz_wg (mz_wg Dc 0 0 14 a) 0 0 15 b).2 g o j = Dc.2 g o j := fun g o j hn => by rw [wg_2, if_neg (by omega), wg_2, if_neg (by omega)]
  have hm : ∀ g o j, ¬ (o = 200 ∧ (j = 3 ∨ j = 4)) → (mz_wg (mz_wg Dm 0 200 3 a) 0 200 4 b).2 g o j = Dm.2 g o j := fun g o j hn => by rw [wg_2, if_neg (by omega), wg_2, if_neg (by omega)]
  exact iR.mk (status := h.status)
    (top := by rw [wg_2, if_neg (by omega), wg_2, if_pos ⟨rfl, rfl, rfl⟩, wg_2, if_neg (by omega), wg_2, if_pos ⟨rfl, rfl, rfl⟩])
    (bottom := by rw [wg_2, if_pos ⟨rfl, rfl, rfl⟩, wg_2, if_pos ⟨rfl, rfl, rfl⟩])
    (fk := h.fk) (fp := h.fp) (taped := h.taped) (tape := h.tape)
    (trays := fun t ht => (h.trays t ht).congr ht (fun o j h1 h2 => ⟨rfl, hc _ _ _ (by omega)⟩) (fun o j h1 h2 => ⟨rfl, hm _ _ _ (by omega)⟩))
    (lived := h.lived) (told := h.told)
    (keys := by rw [← h.keys]; funext j; exact hc _ _ _ (by omega))
    (table := by
      obtain ⟨m, d, gs, ins, ht⟩ := h.table
      exact ⟨m, d, gs, ins, ht.congr (fun o j hq => ⟨rfl, hc _ _ _ (by unfold tq at hq; omega)⟩) (fun j hj => rfl) (fun p hp => hm _ _ _ (by omega))⟩)
    (marks := by
      obtain ⟨mk, h1, h2, h3, h4⟩ := h.marks
      refine ⟨mk, h1, h2, h3, fun i hi => ?_⟩
      obtain ⟨m, d, gs, ins, ht⟩ := h4 i hi
      exact ⟨m, d, gs, ins, ht.congr (fun o j hq => ⟨rfl, hc _ _ _ (by unfold tq at hq; omega)⟩) (fun j hj => rfl) (fun p hp => hm _ _ _ (by omega))⟩)
theorem rem64 {a b : Int64} (ha : 0 ≤ a.toInt) (hb : 0 < b.toInt) : (a - a / b * b).toInt = a.toInt % b.toInt := by
  have h1 : (a / b).toInt = a.toInt / b.toInt := by
    rw [Int64.toInt_div, Int.tdiv_eq_ediv_of_nonneg ha]
    have := Int.ediv_nonneg ha (Int.le_of_lt hb)
    have h3 := Int.ediv_le_self b.toInt ha
    have h4 := Int64.toInt_lt a
    exact Int.bmod_eq_of_le (by omega) (by omega)
  have h2 : (a / b * b).toInt = a.toInt / b.toInt * b.toInt := by
    rw [Int64.toInt_mul, h1]
    have h3 := Int.ediv_mul_le a.toInt (b := b.toInt) (by omega)
    have h5 := Int.mul_nonneg (Int.ediv_nonneg ha (Int.le_of_lt hb)) (Int.le_of_lt hb)
    have h4 := Int64.toInt_lt a
    exact Int.bmod_eq_of_le (by omega) (by omega)
  have h6 := Int.emod_nonneg a.toInt (b := b.toInt) (by omega)
  have h7 := Int.emod_lt_of_pos a.toInt hb
  have h8 := Int64.toInt_lt b
  have h9 : a.toInt - a.toInt / b.toInt * b.toInt = a.toInt % b.toInt := by
    have := Int.mul_ediv_add_emod a.toInt b.toInt
    rw [Int.mul_comm] at this
    omega
  rw [Int64.toInt_sub, h2, h9]
  exact Int.bmod_eq_of_le (by omega) (by omega)
def tEnd (y1 y3 q : Int64) (D : mz_D) : Option (Int32 × mz_D) := mz_gd (mz_nzl q) (Option.bind (fX12_is (0 : Int32) (mz_wg (mz_wg D 0 200 3 (y1 / q)) 0 200 4 (y3 / q))) fun q3 => (mz_gd (mz_bo q3.1) (some (q3.1, q3.2))))
theorem z64 {b : Int64} : b.toInt = 0 ↔ b = 0 := by
  rw [← Int64.toInt_inj]; rfl
theorem gcd_st {a b : Int} (ha : 0 ≤ a) (hb : 0 < b) : Nat.gcd a.toNat b.toNat = Nat.gcd b.toNat (a % b).toNat := by
  rw [Int.toNat_emod ha (by omega), Nat.gcd_comm b.toNat, ← Nat.gcd_rec, Nat.gcd_comm]
theorem euc : ∀ (k : Nat), k ≤ 64 → ∀ a b : Int64, 0 ≤ a.toInt → 0 ≤ b.toInt → b.toInt < 2 ^ k → 0 < a.toInt + b.toInt → ∃ q : Int64, (0 < q.toInt ∧ q.toInt = (Nat.gcd a.toInt.toNat b.toInt.toNat : Int)) ∧ (∀ n c, c + 2 * k < 200 → 2 * k < n → fX11_commonDivisor_9 n a b (nI c) = some q) ∧ (∀ n y1 y3 D, 2 * k < n → fX12_tellsBy_6 n y1 y3 a b D = tEnd y1 y3 q D) := by
  intro k
  have stop : ∀ (k : Nat) (a b : Int64), b = 0 → 0 < a.toInt → k ≤ 64 → ∃ q : Int64, (0 < q.toInt ∧ q.toInt = (Nat.gcd a.toInt.toNat b.toInt.toNat : Int)) ∧ (∀ n c, c + 2 * k < 200 → 2 * k < n → fX11_commonDivisor_9 n a b (nI c) = some q) ∧ (∀ n y1 y3 D, 2 * k < n → fX12_tellsBy_6 n y1 y3 a b D = tEnd y1 y3 q D) := by
    intro k a b hb ha hk
    refine ⟨a, ⟨ha, by rw [hb, show (0 : Int64).toInt.toNat = 0 from rfl, Nat.gcd_zero_right]; omega⟩, fun n c hc hn => ?_, fun n y1 y3 D hn => ?_⟩
    · obtain ⟨n, rfl⟩ : ∃ n', n = n' + 1 := ⟨n - 1, by omega⟩
      rw [fX11_commonDivisor_9]
      simp only [(cmp_eq b 0).mpr hb, if_true]
      split <;> rfl
    · obtain ⟨n, rfl⟩ : ∃ n', n = n' + 1 := ⟨n - 1, by omega⟩
      rw [fX12_tellsBy_6]
      simp only [(cmp_eq b 0).mpr hb, if_true]
      rfl
  have step : ∀ (a b : Int64), 0 ≤ a.toInt → 0 < b.toInt → ∀ (k : Nat) (q : Int64), (∀ n c, c + k < 200 → k < n → fX11_commonDivisor_9 n b (a - a / b * b) (nI c) = some q) → (∀ n y1 y3 D, k < n → fX12_tellsBy_6 n y1 y3 b (a - a / b * b) D = tEnd y1 y3 q D) → (∀ n c, c + (k + 1) < 200 → (k + 1) < n → fX11_commonDivisor_9 n a b (nI c) = some q) ∧ (∀ n y1 y3 D, (k + 1) < n → fX12_tellsBy_6 n y1 y3 a b D = tEnd y1 y3 q D) := by
    intro a b ha hb k q h1 h2
    have hne : ¬ lg_cmp b 0 = 0 := fun e => by rw [(cmp_eq b 0).mp e] at hb; exact absurd hb (by decide)
    have hnz : mz_nzl b = true := by
      unfold mz_nzl
      rw [Bool.not_eq_true', decide_eq_false_iff_not]
      exact fun e => by rw [e] at hb; exact absurd hb (by decide)
    refine ⟨fun n c hc hn => ?_, fun n y1 y3 D hn => ?_⟩
    · obtain ⟨n, rfl⟩ : ∃ n', n = n' + 1 := ⟨n - 1, by omega⟩
      rw [fX11_commonDivisor_9]
      simp only [hne, if_false, hnz, gd_tt, a1r]
      rw [if_neg (by rw [ol_le (c := 200) (by omega) (by omega)]; omega)]
      exact h1 n (c + 1) (by omega) (by omega)
    · obtain ⟨n, rfl⟩ : ∃ n', n = n' + 1 := ⟨n - 1, by omega⟩
      rw [fX12_tellsBy_6]
      simp only [hne, if_false, hnz, gd_tt]
      exact h2 n y1 y3 D (by omega)
  induction k with
  | zero =>
    intro hk a b ha hb hlt hpos
    have : b = 0 := z64.mp (by have : (2 : Int) ^ 0 = 1 := rfl; omega)
    exact stop 0 a b this (by rw [this] at hpos; have : (0 : Int64).toInt = 0 := rfl; omega) (by omega)
  | succ k ih =>
    intro hk a b ha hb hlt hpos
    by_cases hb0 : b = 0
    · exact stop (k + 1) a b hb0 (by rw [hb0] at hpos; have : (0 : Int64).toInt = 0 := rfl; omega) hk
    · have hb1 : 0 < b.toInt := by have := mt z64.mp hb0; omega
      have er := rem64 ha hb1
      have r0 := Int.emod_nonneg a.toInt (b := b.toInt) (by omega)
      have r1 := Int.emod_lt_of_pos a.toInt hb1
      by_cases hr0 : (a - a / b * b) = 0
      · obtain ⟨q, hq, h1, h2⟩ := stop k b (a - a / b * b) hr0 hb1 (by omega)
        have h3 := step a b ha hb1 (2 * k) q h1 h2
        exact ⟨q, ⟨hq.1, by rw [hq.2, gcd_st ha hb1, er]⟩, fun n c hc hn => h3.1 n c (by omega) (by omega), fun n y1 y3 D hn => h3.2 n y1 y3 D (by omega)⟩
      · have hr1 : 0 < (a - a / b * b).toInt := by have := mt z64.mp hr0; omega
        have er2 := rem64 hb hr1
        have s0 := Int.emod_nonneg b.toInt (b := (a - a / b * b).toInt) (by omega)
        have s1 := Int.emod_lt_of_pos b.toInt hr1
        have s2 : b.toInt % (a - a / b * b).toInt + (a - a / b * b).toInt ≤ b.toInt := by
          have e := Int.mul_ediv_add_emod b.toInt (a - a / b * b).toInt
          have q1 : 1 ≤ b.toInt / (a - a / b * b).toInt := (Int.le_ediv_iff_mul_le hr1).mpr (by omega)
          have q2 := Int.mul_le_mul_of_nonneg_left q1 (Int.le_of_lt hr1)
          omega
        have s3 : (2 : Int) ^ (k + 1) = 2 * 2 ^ k := by rw [Int.pow_succ, Int.mul_comm]
        obtain ⟨q, hq, h1, h2⟩ := ih (by omega) (a - a / b * b) (b - b / (a - a / b * b) * (a - a / b * b)) (by omega) (by omega) (by omega) (by omega)
        have h3 := step b (a - a / b * b) hb hr1 (2 * k) q h1 h2
        have h4 := step a b ha hb1 (2 * k + 1) q h3.1 h3.2
        exact ⟨q, ⟨hq.1, by rw [hq.2, gcd_st ha hb1, ← er, gcd_st hb hr1, er2]⟩, fun n c hc hn => h4.1 n c (by omega) (by omega), fun n y1 y3 D hn => h4.2 n y1 y3 D (by omega)⟩
theorem nzl_t {q : Int64} (h : 0 < q.toInt) : mz_nzl q = true := by
  unfold mz_nzl
  rw [Bool.not_eq_true', decide_eq_false_iff_not]
  exact fun e => by rw [e] at h; exact absurd h (by decide)
theorem div64 {a b : Int64} (ha : 0 ≤ a.toInt) (hb : 0 < b.toInt) : (a / b).toInt = a.toInt / b.toInt := by
  rw [Int64.toInt_div, Int.tdiv_eq_ediv_of_nonneg ha]
  have := Int.ediv_nonneg ha (Int.le_of_lt hb)
  have h3 := Int.ediv_le_self b.toInt ha
  have h4 := Int64.toInt_lt a
  exact Int.bmod_eq_of_le (by omega) (by omega)
/-- both tell the same, also where the reference's numbers are k times the class's -/
theorem tell_e {y1 y3 z1 z3 : Int64} {k : Nat} (hk : 0 < k) (e1 : z1.toInt = y1.toInt * k) (e3 : z3.toInt = y3.toInt * k) (h1 : 0 ≤ y1.toInt) (h3 : 0 ≤ y3.toInt) (hp : 0 < y1.toInt + y3.toInt) : ∃ a b : Int64, (∀ D, fX11_tell y1 y3 D = some (1, mz_wi (mz_wg (mz_wg D 0 0 14 a) 0 0 15 b) 0 0 13 0)) ∧ ∀ D, fX12_tellsBy z1 z3 D = some (1, mz_wi (mz_wg (mz_wg D 0 200 3 a) 0 200 4 b) 0 200 2 0) := by
  have p64 : (2 : Int) ^ 64 = 18446744073709551616 := by decide
  have hk2 : (0 : Int) < k := by omega
  have g1 : 0 ≤ z1.toInt := by rw [e1]; exact Int.mul_nonneg h1 (by omega)
  have g3 : 0 ≤ z3.toInt := by rw [e3]; exact Int.mul_nonneg h3 (by omega)
  have gp : 0 < z1.toInt + z3.toInt := by rw [e1, e3, ← Int.add_mul]; exact Int.mul_pos hp hk2
  obtain ⟨q, ⟨hq, hg⟩, k1, -⟩ := euc 64 (by omega) y1 y3 h1 h3 (by have := Int64.toInt_lt y3; omega) hp
  obtain ⟨q', ⟨hq', hg'⟩, -, k2⟩ := euc 64 (by omega) z1 z3 g1 g3 (by have := Int64.toInt_lt z3; omega) gp
  have hqq : q'.toInt = q.toInt * k := by
    rw [hg', hg, e1, e3, Int.toNat_mul h1 (by omega), Int.toNat_mul h3 (by omega), Int.toNat_natCast, Nat.gcd_mul_right]
    exact Int.natCast_mul _ _
  have d1 : z1 / q' = y1 / q := by
    rw [← Int64.toInt_inj, div64 g1 hq', div64 h1 hq, e1, hqq, Int.mul_ediv_mul_of_pos_left _ _ hk2]
  have d3 : z3 / q' = y3 / q := by
    rw [← Int64.toInt_inj, div64 g3 hq', div64 h3 hq, e3, hqq, Int.mul_ediv_mul_of_pos_left _ _ hk2]
  refine ⟨y1 / q, y3 / q, fun D => ?_, fun D => ?_⟩
  · unfold fX11_tell fX11_commonDivisor
    have e0 : fX11_commonDivisor_9 mz_N y1 y3 0 = some q := k1 mz_N 0 (by omega) (N_lt (by omega))
    have e9 : ¬ lg_cmp q 0 ≤ 0 := Int32.not_le.mpr ((cmp_gt q 0).mpr hq)
    rw [e0]
    simp only [Option.bind_some, nzl_t hq, gd_tt, e9, if_false]
  · unfold fX12_tellsBy
    rw [k2 mz_N z1 z3 D (N_lt (by omega)), ← d1, ← d3]
    unfold tEnd fX12_is
    rw [nzl_t hq']
    rfl
theorem q_tell {n : Nat} {D : mz_D} {fc fm : mz_D → Option (Int32 × mz_D)} (h : Inv n D) {y1 y3 z1 z3 : Int64} {k : Nat} (hk : 0 < k) (q1 : z1.toInt = y1.toInt * k) (q3 : z3.toInt = y3.toInt * k) (h1 : 0 ≤ y1.toInt) (h3 : 0 ≤ y3.toInt) (hp : 0 < y1.toInt + y3.toInt) (E0 : mz_D) (hc : sC D E0) (e1 : fc D = Option.bind (fX11_tell y1 y3 E0) fun q => mz_gd (mz_bo q.1) (some (q.1, q.2))) (F0 : mz_D → mz_D) (e2 : ∀ E, eM D E → sM E (F0 E) ∧ fm E = Option.bind (fX12_tellsBy z1 z3 (F0 E)) fun q => mz_gd (mz_bo q.1) (some (q.1, q.2))) : ∃ (r : Int32) (D1 D2 : mz_D), fc D = some (r, D1) ∧ fm D1 = some (r, D2) ∧ Inv (n + 1) D2 := by
  obtain ⟨a, b, k1, k2⟩ := tell_e hk q1 q3 h1 h3 hp
  have hE : eM D (mz_wi (mz_wg (mz_wg E0 0 0 14 a) 0 0 15 b) 0 0 13 0) := hc.m.tr (fun g o j h1 h2 => ⟨by rw [wi_1, if_neg (by omega)]; rfl, by rw [wi_2, wg_2, if_neg (by omega), wg_2, if_neg (by omega)]⟩)
  obtain ⟨s, e2⟩ := e2 _ hE
  refine ⟨1, _, _, by rw [e1, k1]; rfl, by rw [e2, k2]; rfl, ?_⟩
  have a1 : iR n E0 (F0 (mz_wi (mz_wg (mz_wg E0 0 0 14 a) 0 0 15 b) 0 0 13 0)) := (iR.cells (iR.congr h hc sM.rf) eC.rf hE).congr sC.rf s
  have a2 := ((a1.tb a b).stat 0).mono (Nat.le_succ n)
  refine a2.cells (fun g o j ho => ?_) eM.rf
  have c := s.c g o j ho
  refine ⟨?_, ?_⟩
  · rw [wi_1, if_neg (by omega)]
    exact c.1
  · rw [wi_2, wg_2, if_neg (by omega), wg_2, if_neg (by omega)]
    exact c.2
