/-! ===== rows, the bill ===== -/
def wr (D : mz_D) (g o : Nat) (f : Nat → Int32) : mz_D := (fun a b c => if b = o ∧ a = g then f c else D.1 a b c, D.2)
def up (f : Nat → Int32) (j : Nat) (v : Int32) : Nat → Int32 := fun c => if c = j then v else f c
theorem wr_1 (D : mz_D) (g o : Nat) (f : Nat → Int32) (a b c : Nat) : (wr D g o f).1 a b c = if b = o ∧ a = g then f c else D.1 a b c := rfl
theorem wr_2 (D : mz_D) (g o : Nat) (f : Nat → Int32) : (wr D g o f).2 = D.2 := rfl
theorem wr_s (D : mz_D) (g o : Nat) (f : Nat → Int32) (c : Nat) : (wr D g o f).1 g o c = f c := if_pos ⟨rfl, rfl⟩
theorem wr_n {D : mz_D} {g o : Nat} {f : Nat → Int32} {a b c : Nat} (h : b ≠ o ∨ a ≠ g) : (wr D g o f).1 a b c = D.1 a b c := if_neg (by omega)
theorem mzD_ext {D E : mz_D} (h1 : ∀ a b c, D.1 a b c = E.1 a b c) (h2 : D.2 = E.2) : D = E := by
  obtain ⟨d1, d2⟩ := D
  obtain ⟨e1, e2⟩ := E
  have : d1 = e1 := by funext a b c; exact h1 a b c
  subst this
  have h2 : d2 = e2 := h2
  rw [h2]
theorem wr_up (D : mz_D) (g o j : Nat) (f : Nat → Int32) (v : Int32) : mz_wi (wr D g o f) g o j v = wr D g o (up f j v) := by
  refine mzD_ext (fun a b c => ?_) rfl
  rw [wi_1, wr_1, wr_1]
  unfold up
  try dsimp only
  by_cases h : b = o ∧ a = g
  · by_cases hc : c = j
    · rw [if_pos ⟨h.1, h.2, hc⟩, if_pos h, if_pos hc]
    · rw [if_neg (by omega), if_pos h, if_neg hc, if_pos h]
  · rw [if_neg (by omega), if_neg h, if_neg h]
theorem wr_id (D : mz_D) (g o : Nat) : wr D g o (D.1 g o) = D := by
  refine mzD_ext (fun a b c => ?_) rfl
  rw [wr_1]
  by_cases h : b = o ∧ a = g
  · rw [if_pos h, h.1, h.2]
  · rw [if_neg h]
theorem wr_wr (D : mz_D) (g o : Nat) (f f' : Nat → Int32) : wr (wr D g o f) g o f' = wr D g o f' := by
  refine mzD_ext (fun a b c => ?_) rfl
  rw [wr_1, wr_1, wr_1]
  by_cases h : b = o ∧ a = g
  · rw [if_pos h, if_pos h]
  · rw [if_neg h, if_neg h, if_neg h]
theorem wi_wr (D : mz_D) (g o j : Nat) (v : Int32) : mz_wi D g o j v = wr D g o (up (D.1 g o) j v) := by
  have := wr_up D g o j (D.1 g o) v
  rw [wr_id] at this
  exact this
/-- a loop whose state is known at each step -/
theorem lpD {σ β : Type} (F : Nat → σ → Int32 → Option β) (e : Nat → σ) (M : Nat) {r : Option β} (hs : ∀ n k, k < M → F (n + 1) (e k) (nI k) = F n (e (k + 1)) (nI (k + 1))) (he : ∀ n, F (n + 1) (e M) (nI M) = r) : ∀ (d c n : Nat), c + d = M → d < n → F n (e c) (nI c) = r := by
  intro d
  induction d with
  | zero =>
    intro c n h hn
    obtain ⟨n, rfl⟩ : ∃ n', n = n' + 1 := ⟨n - 1, by omega⟩
    rw [show c = M by omega]
    exact he n
  | succ d ih =>
    intro c n h hn
    obtain ⟨n, rfl⟩ : ∃ n', n = n' + 1 := ⟨n - 1, by omega⟩
    rw [hs n c (by omega)]
    exact ih (c + 1) n (by omega) (by omega)
theorem fill_up (D : mz_D) (g o k : Nat) (v : Int32) (M : Nat) (hk : k < M) : up (fun i => if i < k then v else D.1 g o i) k v = (fun i => if i < k + 1 then v else D.1 g o i) := by
  funext i
  unfold up
  try dsimp only
  by_cases h1 : i = k
  · rw [if_pos h1, if_pos (by omega)]
  · by_cases h2 : i < k
    · rw [if_neg h1, if_pos h2, if_pos (by omega)]
    · rw [if_neg h1, if_neg h2, if_neg (by omega)]
theorem fill_14 (D : mz_D) (v : Int32) : fJ7_fill_53178_14 v D = some (wr D 0 14 (fun i => if i < 6 then v else D.1 0 14 i)) := by
  have := lpD (fun n s k => fJ7_fill_53178_14_5 n v k (nI 6) s) (fun k => wr D 0 14 (fun i => if i < k then v else D.1 0 14 i)) 6 (r := some (wr D 0 14 (fun i => if i < 6 then v else D.1 0 14 i))) (fun n k hk => by
    show fJ7_fill_53178_14_5 (n + 1) v (nI k) (nI 6) _ = _
    rw [fJ7_fill_53178_14_5]
    simp (disch := omega) only [nJ_le, nI_ix, gd_tt, nI_cl, a1r, wr_up]
    rw [if_neg (by omega), fill_up D 0 14 k v 6 hk]) (fun n => by
    show fJ7_fill_53178_14_5 (n + 1) v (nI 6) (nI 6) _ = _
    rw [fJ7_fill_53178_14_5]
    try dsimp only
    rw [if_pos (Int32.le_refl _)]) 6 0 mz_N rfl (N_lt (by omega))
  rw [show (fun i => if i < 0 then v else D.1 0 14 i) = D.1 0 14 from by funext i; exact if_neg (by omega), wr_id] at this
  exact this
theorem fill_12 (D : mz_D) (v : Int32) : fJ7_fill_53178_12 v D = some (wr D 0 12 (fun i => if i < 6 then v else D.1 0 12 i)) := by
  have := lpD (fun n s k => fJ7_fill_53178_12_5 n v k (nI 6) s) (fun k => wr D 0 12 (fun i => if i < k then v else D.1 0 12 i)) 6 (r := some (wr D 0 12 (fun i => if i < 6 then v else D.1 0 12 i))) (fun n k hk => by
    show fJ7_fill_53178_12_5 (n + 1) v (nI k) (nI 6) _ = _
    rw [fJ7_fill_53178_12_5]
    simp (disch := omega) only [nJ_le, nI_ix, gd_tt, nI_cl, a1r, wr_up]
    rw [if_neg (by omega), fill_up D 0 12 k v 6 hk]) (fun n => by
    show fJ7_fill_53178_12_5 (n + 1) v (nI 6) (nI 6) _ = _
    rw [fJ7_fill_53178_12_5]
    try dsimp only
    rw [if_pos (Int32.le_refl _)]) 6 0 mz_N rfl (N_lt (by omega))
  rw [show (fun i => if i < 0 then v else D.1 0 12 i) = D.1 0 12 from by funext i; exact if_neg (by omega), wr_id] at this
  exact this
theorem fill_15 (D : mz_D) (v : Int32) : fJ7_fill_53178_15 v D = some (wr D 0 15 (fun i => if i < 6 then v else D.1 0 15 i)) := by
  have := lpD (fun n s k => fJ7_fill_53178_15_5 n v k (nI 6) s) (fun k => wr D 0 15 (fun i => if i < k then v else D.1 0 15 i)) 6 (r := some (wr D 0 15 (fun i => if i < 6 then v else D.1 0 15 i))) (fun n k hk => by
    show fJ7_fill_53178_15_5 (n + 1) v (nI k) (nI 6) _ = _
    rw [fJ7_fill_53178_15_5]
    simp (disch := omega) only [nJ_le, nI_ix, gd_tt, nI_cl, a1r, wr_up]
    rw [if_neg (by omega), fill_up D 0 15 k v 6 hk]) (fun n => by
    show fJ7_fill_53178_15_5 (n + 1) v (nI 6) (nI 6) _ = _
    rw [fJ7_fill_53178_15_5]
    try dsimp only
    rw [if_pos (Int32.le_refl _)]) 6 0 mz_N rfl (N_lt (by omega))
  rw [show (fun i => if i < 0 then v else D.1 0 15 i) = D.1 0 15 from by funext i; exact if_neg (by omega), wr_id] at this
  exact this
/-! what each pays of an amount -/
def pcB (S k : Nat) : Nat := pcS (S &&& (2 ^ k - 1))
def pp (A : Int32) (S i : Nat) : Int32 := if S.testBit i then (A / nI (pcS S)) + (if (A - A / nI (pcS S) * nI (pcS S)) ≤ nI (pcB S i) then 0 else 1) else 0
theorem pcB_s : ∀ S, S < 64 → ∀ k, k < 6 → pcB S (k + 1) = pcB S k + (if S.testBit k then 1 else 0) := by decide +kernel
theorem pcB_0 (S : Nat) : pcB S 0 = 0 := by
  unfold pcB
  rw [show 2 ^ 0 - 1 = 0 from rfl, Nat.and_zero]
  rfl
theorem pcB_le (S k : Nat) : pcB S k ≤ 6 := pc_le _
theorem part_a : ∀ S, S < 64 → ∀ p, p < 6 → nI S &&& (((1 : Int32) <<< (nI p &&& 31)) - (1 : Int32)) = nI (S &&& (2 ^ p - 1)) ∧ (((nI S >>> (nI p &&& 31)) &&& (1 : Int32)) = 0 ↔ S.testBit p = false) ∧ (S.testBit p = true → 1 ≤ pcS S) := by decide +kernel
theorem and_lt64 {S k : Nat} (h : S < 64) : S &&& k < 64 := Nat.lt_of_le_of_lt Nat.and_le_left h
theorem pc_0 : ∀ S, S < 64 → pcS S = 0 → S = 0 := by decide +kernel
theorem nz_t {k : Nat} (h : 1 ≤ k) (h2 : k < 2147483648) : mz_nz (nI k) = true := by
  unfold mz_nz
  rw [Bool.not_eq_true', decide_eq_false_iff_not]
  exact fun e => by have := (nJ_eq (a := k) (b := 0) h2 (by omega)).mp e; omega
theorem part_e {A : Int32} {S p : Nat} (hS : S < 64) (hp : p < 6) : fX12_partOf A (nI S) (nI p) = some (pp A S p) := by
  obtain ⟨h1, h2, h3⟩ := part_a S hS p hp
  unfold fX12_partOf pp
  cases hb : S.testBit p with
  | false =>
    rw [if_pos (h2.mpr hb)]
    simp
  | true =>
    have h4 := h3 hb
    have h5 := pc_le S
    rw [if_neg (fun e => by rw [h2.mp e] at hb; cases hb), h1, bits_e (and_lt64 hS), bits_e hS]
    simp only [Option.bind_some, nz_t h4 (by omega), gd_tt]
    unfold pcB
    split <;> simp
theorem rem_b {a : Int32} {k : Nat} (h1 : 1 ≤ k) (h6 : k ≤ 6) : -6 < (a - a / nI k * nI k).toInt ∧ (a - a / nI k * nI k).toInt < 6 := by
  have e0 : (nI k).toInt = (k : Int) := nI_toInt (by omega)
  have e1 : (a / nI k).toInt = a.toInt.tdiv k := by
    rw [Int32.toInt_div_of_ne_right _ _ (fun e => by have := (nI_ne1 (k := k) (by omega)).mp e; exact this), e0]
  have b1 := Int.lt_tmod_of_pos a.toInt (b := (k : Int)) (by omega)
  have b2 := Int.tmod_lt_of_pos a.toInt (b := (k : Int)) (by omega)
  have b3 := Int.mul_tdiv_add_tmod a.toInt k
  have l1 := Int32.toInt_lt a
  have l2 := Int32.le_toInt a
  have m0 : a.toInt.tdiv k * k = k * a.toInt.tdiv k := Int.mul_comm _ _
  have hle : (a.toInt.tdiv k * k).natAbs ≤ a.toInt.natAbs := by
    rw [Int.natAbs_mul, Int.natAbs_tdiv, Int.natAbs_natCast]
    exact Nat.div_mul_le_self _ _
  have e2 : (a / nI k * nI k).toInt = a.toInt.tdiv k * k := by
    rw [Int32.toInt_mul, e1, e0]
    exact Int.bmod_eq_of_le (by omega) (by omega)
  have e3 : (a - a / nI k * nI k).toInt = a.toInt.tmod k := by
    rw [Int32.toInt_sub, e2]
    rw [show a.toInt - a.toInt.tdiv k * k = a.toInt.tmod k by omega]
    exact Int.bmod_eq_of_le (by omega) (by omega)
  omega
theorem le_sub {r : Int32} {b : Nat} (h1 : -6 < r.toInt) (h2 : r.toInt < 6) (hb : b ≤ 6) : r - nI b ≤ 0 ↔ r ≤ nI b := by
  have e0 : (nI b).toInt = (b : Int) := nI_toInt (by omega)
  rw [i_le, i_le, i_sub (by omega) (by omega), e0]
  have : (0 : Int32).toInt = 0 := rfl
  omega
theorem sub_1 (r : Int32) (b : Nat) : r - nI b + (-1 : Int32) = r - nI (b + 1) := by
  rw [← a1r]
  grind
def spR (A : Int32) (S : Nat) (f : Nat → Int32) (k : Nat) : Nat → Int32 := fun i => if i < k then f i + pp A S i else f i
theorem spR_s (A : Int32) (S : Nat) (f : Nat → Int32) (k : Nat) : spR A S f (k + 1) = up (spR A S f k) k (f k + pp A S k) := by
  funext i
  unfold spR up
  try dsimp only
  by_cases h1 : i = k
  · rw [if_pos h1, if_pos (by omega), h1]
  · by_cases h2 : i < k
    · rw [if_neg h1, if_pos h2, if_pos (by omega)]
    · rw [if_neg h1, if_neg h2, if_neg (by omega)]
theorem spR_n (A : Int32) (S : Nat) (f : Nat → Int32) (k : Nat) (h : S.testBit k = false) : spR A S f (k + 1) = spR A S f k := by
  funext i
  unfold spR
  try dsimp only
  by_cases h1 : i = k
  · subst h1
    rw [if_pos (by omega), if_neg (by omega)]
    unfold pp
    rw [h]
    simp
  · by_cases h2 : i < k
    · rw [if_pos h2, if_pos (by omega)]
    · rw [if_neg h2, if_neg (by omega)]
theorem spR_k (A : Int32) (S : Nat) (f : Nat → Int32) (k : Nat) : spR A S f k k = f k := if_neg (by omega)
theorem spR_0 (A : Int32) (S : Nat) (f : Nat → Int32) : spR A S f 0 = f := by funext i; exact if_neg (by omega)
theorem spread_14 (A : Int32) {S : Nat} (hS : S < 64) (D : mz_D) (f : Nat → Int32) : fX1_spread_14 A (nI S) (wr D 0 14 f) = some (wr D 0 14 (spR A S f 6)) := by
  unfold fX1_spread_14
  rw [bc_e hS]
  have hp6 := pc_le S
  by_cases h0 : pcS S = 0
  · have e := pc_0 S hS h0
    subst e
    rw [if_pos (by rw [h0]; rfl)]
    have z : ∀ k, spR A 0 f k = f := by
      intro k
      induction k with
      | zero => exact spR_0 A 0 f
      | succ k ih => rw [spR_n A 0 f k (Nat.zero_testBit k), ih]
    rw [z]
  · have h1 : 1 ≤ pcS S := by omega
    rw [if_neg (by rw [ol_eqi (c := 0) (by omega) (by omega)]; omega), nz_t h1 (by omega), gd_tt]
    obtain ⟨r1, r2⟩ := rem_b (a := A) h1 hp6
    have hr : (A - A / nI (pcS S) * nI (pcS S)) = (A - A / nI (pcS S) * nI (pcS S)) - nI (pcB S 0) := by rw [pcB_0]; show _ = _ - (0 : Int32); grind
    have key := lpD (fun n (s : Int32 × (Nat → Int32)) k => fX1_spread_14_23 n (nI S) (A / nI (pcS S)) s.1 k (wr D 0 14 s.2)) (fun k => ((A - A / nI (pcS S) * nI (pcS S)) - nI (pcB S k), spR A S f k)) 6 (r := some (wr D 0 14 (spR A S f 6))) (fun n k hk => by
      show fX1_spread_14_23 (n + 1) (nI S) (A / nI (pcS S)) ((A - A / nI (pcS S) * nI (pcS S)) - nI (pcB S k)) (nI k) (wr D 0 14 (spR A S f k)) = fX1_spread_14_23 n (nI S) (A / nI (pcS S)) ((A - A / nI (pcS S) * nI (pcS S)) - nI (pcB S (k + 1))) (nI (k + 1)) (wr D 0 14 (spR A S f (k + 1)))
      rw [fX1_spread_14_23]
      try dsimp only
      rw [if_neg (by rw [on_le (by omega) (by omega)]; omega)]
      have hb := pcB_s S hS k hk
      simp (disch := omega) only [isIn_e, nI_ix, gd_tt, nI_cl, a1r, wr_s, spR_k]
      cases ht : S.testBit k with
      | false =>
        rw [ht] at hb
        rw [if_pos (by simp), spR_n A S f k ht, hb]
        simp
      | true =>
        rw [ht] at hb
        rw [if_neg (by simp)]
        unfold fX1_spread_14_58
        simp (disch := omega) only [nI_ix, gd_tt, nI_cl, a1r, wr_up, sub_1, le_sub r1 r2 (pcB_le S k)]
        have e1 : pcB S (k + 1) = pcB S k + 1 := by rw [hb]; simp
        rw [e1, spR_s]
        by_cases hl : (A - A / nI (pcS S) * nI (pcS S)) ≤ nI (pcB S k)
        · have : pp A S k = A / nI (pcS S) := by unfold pp; rw [ht, if_pos hl]; simp
          rw [if_pos hl, this]
        · have : pp A S k = A / nI (pcS S) + 1 := by unfold pp; rw [ht, if_neg hl]; simp
          rw [if_neg hl, this]) (fun n => by
      show fX1_spread_14_23 (n + 1) (nI S) (A / nI (pcS S)) _ (nI 6) (wr D 0 14 (spR A S f 6)) = _
      rw [fX1_spread_14_23]
      try dsimp only
      rw [if_pos (by decide)]) 6 0 mz_N rfl (N_lt (by omega))
    have key2 : fX1_spread_14_23 mz_N (nI S) (A / nI (pcS S)) ((A - A / nI (pcS S) * nI (pcS S)) - nI (pcB S 0)) (nI 0) (wr D 0 14 (spR A S f 0)) = some (wr D 0 14 (spR A S f 6)) := key
    rw [← hr, spR_0] at key2
    exact key2
theorem spread_12 (A : Int32) {S : Nat} (hS : S < 64) (D : mz_D) (f : Nat → Int32) : fX1_spread_12 A (nI S) (wr D 0 12 f) = some (wr D 0 12 (spR A S f 6)) := by
  unfold fX1_spread_12
  rw [bc_e hS]
  have hp6 := pc_le S
  by_cases h0 : pcS S = 0
  · have e := pc_0 S hS h0
    subst e
    rw [if_pos (by rw [h0]; rfl)]
    have z : ∀ k, spR A 0 f k = f := by
      intro k
      induction k with
      | zero => exact spR_0 A 0 f
      | succ k ih => rw [spR_n A 0 f k (Nat.zero_testBit k), ih]
    rw [z]
  · have h1 : 1 ≤ pcS S := by omega
    rw [if_neg (by rw [ol_eqi (c := 0) (by omega) (by omega)]; omega), nz_t h1 (by omega), gd_tt]
    obtain ⟨r1, r2⟩ := rem_b (a := A) h1 hp6
    have hr : (A - A / nI (pcS S) * nI (pcS S)) = (A - A / nI (pcS S) * nI (pcS S)) - nI (pcB S 0) := by rw [pcB_0]; show _ = _ - (0 : Int32); grind
    have key := lpD (fun n (s : Int32 × (Nat → Int32)) k => fX1_spread_12_23 n (nI S) (A / nI (pcS S)) s.1 k (wr D 0 12 s.2)) (fun k => ((A - A / nI (pcS S) * nI (pcS S)) - nI (pcB S k), spR A S f k)) 6 (r := some (wr D 0 12 (spR A S f 6))) (fun n k hk => by
      show fX1_spread_12_23 (n + 1) (nI S) (A / nI (pcS S)) ((A - A / nI (pcS S) * nI (pcS S)) - nI (pcB S k)) (nI k) (wr D 0 12 (spR A S f k)) = fX1_spread_12_23 n (nI S) (A / nI (pcS S)) ((A - A / nI (pcS S) * nI (pcS S)) - nI (pcB S (k + 1))) (nI (k + 1)) (wr D 0 12 (spR A S f (k + 1)))
      rw [fX1_spread_12_23]
      try dsimp only
      rw [if_neg (by rw [on_le (by omega) (by omega)]; omega)]
      have hb := pcB_s S hS k hk
      simp (disch := omega) only [isIn_e, nI_ix, gd_tt, nI_cl, a1r, wr_s, spR_k]
      cases ht : S.testBit k with
      | false =>
        rw [ht] at hb
        rw [if_pos (by simp), spR_n A S f k ht, hb]
        simp
      | true =>
        rw [ht] at hb
        rw [if_neg (by simp)]
        unfold fX1_spread_12_58
        simp (disch := omega) only [nI_ix, gd_tt, nI_cl, a1r, wr_up, sub_1, le_sub r1 r2 (pcB_le S k)]
        have e1 : pcB S (k + 1) = pcB S k + 1 := by rw [hb]; simp
        rw [e1, spR_s]
        by_cases hl : (A - A / nI (pcS S) * nI (pcS S)) ≤ nI (pcB S k)
        · have : pp A S k = A / nI (pcS S) := by unfold pp; rw [ht, if_pos hl]; simp
          rw [if_pos hl, this]
        · have : pp A S k = A / nI (pcS S) + 1 := by unfold pp; rw [ht, if_neg hl]; simp
          rw [if_neg hl, this]) (fun n => by
      show fX1_spread_12_23 (n + 1) (nI S) (A / nI (pcS S)) _ (nI 6) (wr D 0 12 (spR A S f 6)) = _
      rw [fX1_spread_12_23]
      try dsimp only
      rw [if_pos (by decide)]) 6 0 mz_N rfl (N_lt (by omega))
    have key2 : fX1_spread_12_23 mz_N (nI S) (A / nI (pcS S)) ((A - A / nI (pcS S) * nI (pcS S)) - nI (pcB S 0)) (nI 0) (wr D 0 12 (spR A S f 0)) = some (wr D 0 12 (spR A S f 6)) := key
    rw [← hr, spR_0] at key2
    exact key2
theorem spread_15 (A : Int32) {S : Nat} (hS : S < 64) (D : mz_D) (f : Nat → Int32) : fX1_spread_15 A (nI S) (wr D 0 15 f) = some (wr D 0 15 (spR A S f 6)) := by
  unfold fX1_spread_15
  rw [bc_e hS]
  have hp6 := pc_le S
  by_cases h0 : pcS S = 0
  · have e := pc_0 S hS h0
    subst e
    rw [if_pos (by rw [h0]; rfl)]
    have z : ∀ k, spR A 0 f k = f := by
      intro k
      induction k with
      | zero => exact spR_0 A 0 f
      | succ k ih => rw [spR_n A 0 f k (Nat.zero_testBit k), ih]
    rw [z]
  · have h1 : 1 ≤ pcS S := by omega
    rw [if_neg (by rw [ol_eqi (c := 0) (by omega) (by omega)]; omega), nz_t h1 (by omega), gd_tt]
    obtain ⟨r1, r2⟩ := rem_b (a := A) h1 hp6
    have hr : (A - A / nI (pcS S) * nI (pcS S)) = (A - A / nI (pcS S) * nI (pcS S)) - nI (pcB S 0) := by rw [pcB_0]; show _ = _ - (0 : Int32); grind
    have key := lpD (fun n (s : Int32 × (Nat → Int32)) k => fX1_spread_15_23 n (nI S) (A / nI (pcS S)) s.1 k (wr D 0 15 s.2)) (fun k => ((A - A / nI (pcS S) * nI (pcS S)) - nI (pcB S k), spR A S f k)) 6 (r := some (wr D 0 15 (spR A S f 6))) (fun n k hk => by
      show fX1_spread_15_23 (n + 1) (nI S) (A / nI (pcS S)) ((A - A / nI (pcS S) * nI (pcS S)) - nI (pcB S k)) (nI k) (wr D 0 15 (spR A S f k)) = fX1_spread_15_23 n (nI S) (A / nI (pcS S)) ((A - A / nI (pcS S) * nI (pcS S)) - nI (pcB S (k + 1))) (nI (k + 1)) (wr D 0 15 (spR A S f (k + 1)))
      rw [fX1_spread_15_23]
      try dsimp only
      rw [if_neg (by rw [on_le (by omega) (by omega)]; omega)]
      have hb := pcB_s S hS k hk
      simp (disch := omega) only [isIn_e, nI_ix, gd_tt, nI_cl, a1r, wr_s, spR_k]
      cases ht : S.testBit k with
      | false =>
        rw [ht] at hb
        rw [if_pos (by simp), spR_n A S f k ht, hb]
        simp
      | true =>
        rw [ht] at hb
        rw [if_neg (by simp)]
        unfold fX1_spread_15_58
        simp (disch := omega) only [nI_ix, gd_tt, nI_cl, a1r, wr_up, sub_1, le_sub r1 r2 (pcB_le S k)]
        have e1 : pcB S (k + 1) = pcB S k + 1 := by rw [hb]; simp
        rw [e1, spR_s]
        by_cases hl : (A - A / nI (pcS S) * nI (pcS S)) ≤ nI (pcB S k)
        · have : pp A S k = A / nI (pcS S) := by unfold pp; rw [ht, if_pos hl]; simp
          rw [if_pos hl, this]
        · have : pp A S k = A / nI (pcS S) + 1 := by unfold pp; rw [ht, if_neg hl]; simp
          rw [if_neg hl, this]) (fun n => by
      show fX1_spread_15_23 (n + 1) (nI S) (A / nI (pcS S)) _ (nI 6) (wr D 0 15 (spR A S f 6)) = _
      rw [fX1_spread_15_23]
      try dsimp only
      rw [if_pos (by decide)]) 6 0 mz_N rfl (N_lt (by omega))
    have key2 : fX1_spread_15_23 mz_N (nI S) (A / nI (pcS S)) ((A - A / nI (pcS S) * nI (pcS S)) - nI (pcB S 0)) (nI 0) (wr D 0 15 (spR A S f 0)) = some (wr D 0 15 (spR A S f 6)) := key
    rw [← hr, spR_0] at key2
    exact key2
