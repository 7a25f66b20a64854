/-! ===== the fewest payings ===== -/
def mxF (C : Nat → Bool) (f : Nat → Nat) (k : Nat) : Nat := foldN (fun i a => if C i then max a (f i) else a) 0 k 0
theorem mxF_s (C : Nat → Bool) (f : Nat → Nat) (k : Nat) : mxF C f (k + 1) = if C k then max (mxF C f k) (f k) else mxF C f k := by
  unfold mxF
  rw [foldN_end, Nat.zero_add]
theorem mxF_ub {C : Nat → Bool} {f : Nat → Nat} : ∀ {k i : Nat}, i < k → C i = true → f i ≤ mxF C f k := by
  intro k
  induction k with
  | zero => intro i h; omega
  | succ k ih =>
    intro i h hc
    rw [mxF_s]
    by_cases e : i = k
    · subst e; rw [if_pos hc]; omega
    · have := ih (i := i) (by omega) hc
      split <;> omega
theorem mxF_at {C : Nat → Bool} {f : Nat → Nat} : ∀ k : Nat, mxF C f k = 0 ∨ ∃ i, i < k ∧ C i = true ∧ mxF C f k = f i := by
  intro k
  induction k with
  | zero => exact Or.inl rfl
  | succ k ih =>
    rw [mxF_s]
    cases hc : C k with
    | false =>
      simp only [Bool.false_eq_true, if_false]
      rcases ih with h | ⟨i, h1, h2, h3⟩
      · exact Or.inl h
      · exact Or.inr ⟨i, by omega, h2, h3⟩
    | true =>
      simp only [if_true]
      by_cases e : mxF C f k ≤ f k
      · exact Or.inr ⟨k, by omega, hc, by omega⟩
      · rcases ih with h | ⟨i, h1, h2, h3⟩
        · omega
        · exact Or.inr ⟨i, by omega, h2, by omega⟩
theorem mxF_c {C : Nat → Bool} {f g : Nat → Nat} {k : Nat} (h : ∀ i, i < k → C i = true → f i = g i) : mxF C f k = mxF C g k := by
  unfold mxF
  refine foldN_congr k 0 0 (fun j s h1 h2 => ?_)
  cases hc : C j with
  | false => simp
  | true => simp only [if_true]; rw [h j (by omega) hc]
def bS (v : Nat → Int32) (S k : Nat) : Int32 := foldN (fun i a => a + if S.testBit i then v i else 0) 0 k 0
theorem bS_s (v : Nat → Int32) (S k : Nat) : bS v S (k + 1) = bS v S k + (if S.testBit k then v k else 0) := by
  unfold bS
  rw [foldN_end, Nat.zero_add]
def gV (v : Nat → Int32) (m : Nat) (T : Nat → Nat) (S : Nat) : Nat := if S = 0 then 0 else mxF (fun i => S.testBit i) (fun i => T (S ^^^ 2 ^ i)) m + (if bS v S m = 0 then 1 else 0)
def gT (v : Nat → Int32) (m : Nat) : Nat → (Nat → Nat)
  | 0 => fun _ => 0
  | k + 1 => fun S => if S = k then gV v m (gT v m k) k else gT v m k S
def gG (v : Nat → Int32) (m S : Nat) : Nat := gT v m (S + 1) S
theorem gT_lt (v : Nat → Int32) (m S : Nat) : ∀ d, gT v m (S + 1 + d) S = gG v m S := by
  intro d
  induction d with
  | zero => rfl
  | succ d ih =>
    show (if S = S + 1 + d then _ else gT v m (S + 1 + d) S) = _
    rw [if_neg (by omega), ih]
theorem xr_lt : ∀ S, S < 64 → ∀ i, i < 6 → S.testBit i = true → S ^^^ 2 ^ i < S := by decide +kernel
theorem gG_r {v : Nat → Int32} {m S : Nat} (hm : m ≤ 6) (hS : S < 64) : gG v m S = gV v m (gG v m) S := by
  show (if S = S then gV v m (gT v m S) S else gT v m S S) = _
  rw [if_pos rfl]
  unfold gV
  by_cases e : S = 0
  · rw [if_pos e, if_pos e]
  · rw [if_neg e, if_neg e]
    congr 1
    refine mxF_c (fun i hi hc => ?_)
    have l := xr_lt S hS i (by omega) hc
    have := gT_lt v m (S ^^^ 2 ^ i) (S - ((S ^^^ 2 ^ i) + 1))
    rw [show (S ^^^ 2 ^ i) + 1 + (S - ((S ^^^ 2 ^ i) + 1)) = S by omega] at this
    exact this
theorem gG_le {v : Nat → Int32} {m : Nat} (hm : m ≤ 6) : ∀ S, S < 64 → gG v m S ≤ S := by
  intro S
  induction S using Nat.strongRecOn with
  | ind S ih =>
    intro hS
    rw [gG_r hm hS]
    unfold gV
    by_cases e : S = 0
    · rw [if_pos e]; omega
    · rw [if_neg e]
      rcases mxF_at (C := fun i => S.testBit i) (f := fun i => gG v m (S ^^^ 2 ^ i)) m with h | ⟨i, h1, h2, h3⟩
      · rw [h]; split <;> omega
      · have l := xr_lt S hS i (by omega) h2
        have := ih _ l (by omega)
        rw [h3]
        split <;> omega
theorem xr_a : ∀ S, S < 64 → ∀ z, z < 6 → S.testBit z = false → (S ||| 2 ^ z) ^^^ 2 ^ z = S ∧ (S ||| 2 ^ z) < 64 ∧ S ||| 2 ^ z ≠ 0 ∧ pcS (S ||| 2 ^ z) = pcS S + 1 ∧ (S ||| 2 ^ z).testBit z = true := by decide +kernel
theorem xr_b0 : ∀ S, S < 64 → ∀ z, z < 6 → ∀ i, i < 6 → (S.testBit z = false ∧ S.testBit i = true) → (S ||| 2 ^ z) ^^^ 2 ^ i = (S ^^^ 2 ^ i) ||| 2 ^ z := by decide +kernel
theorem xr_b1 : ∀ S, S < 64 → ∀ z, z < 6 → ∀ i, i < 6 → (S.testBit z = false ∧ S.testBit i = true) → (S ^^^ 2 ^ i).testBit z = false := by decide +kernel
theorem xr_b (S : Nat) (hS : S < 64) (z : Nat) (hz : z < 6) (i : Nat) (hi : i < 6) (h1 : S.testBit z = false) (h2 : S.testBit i = true) : (S ||| 2 ^ z) ^^^ 2 ^ i = (S ^^^ 2 ^ i) ||| 2 ^ z ∧ (S ^^^ 2 ^ i).testBit z = false := ⟨xr_b0 S hS z hz i hi ⟨h1, h2⟩, xr_b1 S hS z hz i hi ⟨h1, h2⟩⟩
theorem xr_c0 : ∀ S, S < 64 → ∀ z, z < 6 → ∀ i, i < 6 → ((S ||| 2 ^ z).testBit i = true ∧ i ≠ z) → S.testBit i = true := by decide +kernel
theorem xr_c (S : Nat) (hS : S < 64) (z : Nat) (hz : z < 6) (i : Nat) (hi : i < 6) (h1 : (S ||| 2 ^ z).testBit i = true) (h2 : i ≠ z) : S.testBit i = true := xr_c0 S hS z hz i hi ⟨h1, h2⟩
theorem xr_d : ∀ S, S < 64 → ∀ z, z < 6 → ∀ i, i < 6 → S.testBit i = true → (S ||| 2 ^ z).testBit i = true := by decide +kernel
theorem xr_e : ∀ m, m < 7 → ∀ S, S < 64 → S < 2 ^ m → S ≠ 0 → ∃ i, i < m ∧ S.testBit i = true := by decide +kernel
theorem bS_z {v : Nat → Int32} {S z : Nat} (hS : S < 64) (hz : z < 6) (hb : S.testBit z = false) (hv : v z = 0) : ∀ k, k ≤ 6 → bS v (S ||| 2 ^ z) k = bS v S k := by
  intro k
  induction k with
  | zero => intro _; rfl
  | succ k ih =>
    intro hk
    rw [bS_s, bS_s, ih (by omega)]
    congr 1
    by_cases e : k = z
    · subst e
      rw [hb, hv]
      split <;> rfl
    · cases h1 : S.testBit k with
      | true => rw [xr_d S hS z hz k (by omega) h1]
      | false =>
        cases h2 : (S ||| 2 ^ z).testBit k with
        | false => rfl
        | true => have := xr_c S hS z hz k (by omega) h2 e; rw [h1] at this; cases this
/-- one whose balance is 0 is a group by itself -/
theorem gG_z {v : Nat → Int32} {m : Nat} (hm : m ≤ 6) {z : Nat} (hz : z < m) (hv : v z = 0) : ∀ S, S < 64 → S < 2 ^ m → S.testBit z = false → gG v m (S ||| 2 ^ z) = gG v m S + 1 := by
  intro S
  induction S using Nat.strongRecOn with
  | ind S ih =>
    intro hS hSm hb
    obtain ⟨a1, a2, a3, -, a5⟩ := xr_a S hS z (by omega) hb
    rw [gG_r hm a2, gG_r hm hS]
    unfold gV
    rw [if_neg a3, bS_z hS (by omega) hb hv m (by omega)]
    have ub := fun i (hi : i < m) hc => mxF_ub (C := fun i => (S ||| 2 ^ z).testBit i) (f := fun i => gG v m ((S ||| 2 ^ z) ^^^ 2 ^ i)) (k := m) (i := i) hi hc
    have at' := mxF_at (C := fun i => (S ||| 2 ^ z).testBit i) (f := fun i => gG v m ((S ||| 2 ^ z) ^^^ 2 ^ i)) m
    have atz := ub z hz a5
    try dsimp only at atz
    try dsimp only at at'
    rw [a1] at atz
    generalize hM' : mxF (fun i => (S ||| 2 ^ z).testBit i) (fun i => gG v m ((S ||| 2 ^ z) ^^^ 2 ^ i)) m = M' at ub at' atz ⊢
    by_cases e0 : S = 0
    · subst e0
      rw [if_pos rfl]
      have z0' : bS v 0 m = 0 := by
        have : ∀ k, bS v 0 k = 0 := by
          intro k
          induction k with
          | zero => rfl
          | succ k ih => rw [bS_s, ih, Nat.zero_testBit]; rfl
        exact this m
      rw [z0', if_pos rfl]
      have : M' = 0 := by
        rcases at' with h | ⟨i, h1, h2, h3⟩
        · exact h
        · by_cases e : i = z
          · subst e
            rw [a1] at h3
            rw [h3]
            show gG v m 0 = 0
            rw [gG_r hm (by omega)]
            rfl
          · have := xr_c 0 (by omega) z (by omega) i (by omega) h2 e
            rw [Nat.zero_testBit] at this; cases this
      omega
    · rw [if_neg e0]
      have gs : gG v m S = mxF (fun i => S.testBit i) (fun i => gG v m (S ^^^ 2 ^ i)) m + (if bS v S m = 0 then 1 else 0) := by
        rw [gG_r hm hS]
        unfold gV
        rw [if_neg e0]
      have ubS := fun i (hi : i < m) hc => mxF_ub (C := fun i => S.testBit i) (f := fun i => gG v m (S ^^^ 2 ^ i)) (k := m) (i := i) hi hc
      have atS := mxF_at (C := fun i => S.testBit i) (f := fun i => gG v m (S ^^^ 2 ^ i)) m
      generalize hM : mxF (fun i => S.testBit i) (fun i => gG v m (S ^^^ 2 ^ i)) m = M at ubS atS gs ⊢
      have st : ∀ i, i < m → S.testBit i = true → gG v m ((S ||| 2 ^ z) ^^^ 2 ^ i) = gG v m (S ^^^ 2 ^ i) + 1 := by
        intro i hi hc
        obtain ⟨b1, b2⟩ := xr_b S hS z (by omega) i (by omega) hb hc
        have l := xr_lt S hS i (by omega) hc
        rw [b1]
        exact ih _ l (by omega) (by omega) b2
      have hi2 : M' ≤ M + 1 := by
        rcases at' with h | ⟨i, h1, h2, h3⟩
        · omega
        · by_cases e : i = z
          · subst e
            rw [a1] at h3
            rw [h3, gs]
            split <;> omega
          · have hc := xr_c S hS z (by omega) i (by omega) h2 e
            have u := ubS i h1 hc
            try dsimp only at u
            rw [st i h1 hc] at h3
            omega
      have lo : M + 1 ≤ M' := by
        rcases atS with h | ⟨i, h1, h2, h3⟩
        · obtain ⟨i, h1, h2⟩ := xr_e m (by omega) S hS hSm e0
          have u := ub i h1 (xr_d S hS z (by omega) i (by omega) h2)
          try dsimp only at u
          rw [st i h1 h2] at u
          omega
        · have u := ub i h1 (xr_d S hS z (by omega) i (by omega) h2)
          try dsimp only at u
          rw [st i h1 h2] at u
          omega
      omega
/-- those whose balance is not 0 -/
def owS (v : Nat → Int32) (k : Nat) : Nat := foldN (fun p s => if v p = 0 then s else s ||| 2 ^ p) 0 k 0
theorem owS_s (v : Nat → Int32) (k : Nat) : owS v (k + 1) = if v k = 0 then owS v k else owS v k ||| 2 ^ k := by
  unfold owS
  rw [foldN_end, Nat.zero_add]
theorem p2_t : ∀ k, k < 7 → ∀ s, s < 64 → s < 2 ^ k → s < 2 ^ (k + 1) ∧ s ||| 2 ^ k < 2 ^ (k + 1) := by decide +kernel
theorem owS_lt (v : Nat → Int32) : ∀ k, k ≤ 6 → owS v k < 2 ^ k := by
  intro k
  induction k with
  | zero => intro _; show (0 : Nat) < 2 ^ 0; decide
  | succ k ih =>
    intro hk
    have i1 := ih (by omega)
    have i2 := pow_m (m := k) (by omega)
    obtain ⟨q1, q2⟩ := p2_t k (by omega) (owS v k) (by omega) i1
    rw [owS_s]
    split
    · exact q1
    · exact q2
theorem owS_b (v : Nat → Int32) : ∀ k, k ≤ 6 → ∀ i, i < 6 → (owS v k).testBit i = (decide (i < k) && !decide (v i = 0)) := by
  intro k
  induction k with
  | zero => intro _ i _; show Nat.testBit 0 i = _; rw [Nat.zero_testBit]; simp
  | succ k ih =>
    intro hk i hi
    rw [owS_s]
    by_cases e : i = k
    · subst e
      by_cases hv : v i = 0
      · rw [if_pos hv, ih (by omega) i hi]; simp [hv]
      · rw [if_neg hv, Nat.testBit_or, Nat.testBit_two_pow]; simp [hv]
    · have lt : (decide (i < k + 1)) = decide (i < k) := by by_cases h : i < k <;> simp [h] <;> omega
      rw [lt, ← ih (by omega) i hi]
      split
      · rfl
      · rw [Nat.testBit_or, Nat.testBit_two_pow]
        have : decide (k = i) = false := by simp; omega
        rw [this, Bool.or_false]
def adS (v : Nat → Int32) (m k : Nat) : Nat := foldN (fun p s => if v p = 0 then s ||| 2 ^ p else s) 0 k (owS v m)
theorem adS_s (v : Nat → Int32) (m k : Nat) : adS v m (k + 1) = if v k = 0 then adS v m k ||| 2 ^ k else adS v m k := by
  unfold adS
  rw [foldN_end, Nat.zero_add]
theorem p2_o : ∀ m, m < 7 → ∀ s, s < 64 → s < 2 ^ m → ∀ k, k < m → s ||| 2 ^ k < 2 ^ m := by decide +kernel
theorem ad_all {v : Nat → Int32} {m : Nat} (hm : m ≤ 6) : ∀ k, k ≤ m → adS v m k < 2 ^ m ∧ (∀ i, i < 6 → (adS v m k).testBit i = (decide (i < m) && (decide (i < k) || !decide (v i = 0)))) ∧ gG v m (adS v m k) + pcS (owS v m) = gG v m (owS v m) + pcS (adS v m k) := by
  intro k
  have h64 := pow_m hm
  induction k with
  | zero =>
    intro _
    refine ⟨owS_lt v m hm, fun i hi => ?_, rfl⟩
    show (owS v m).testBit i = _
    rw [owS_b v m hm i hi]
    simp
  | succ k ih =>
    intro hk
    obtain ⟨i1, i2, i3⟩ := ih (by omega)
    rw [adS_s]
    by_cases hv : v k = 0
    · rw [if_pos hv]
      have hb : (adS v m k).testBit k = false := by rw [i2 k (by omega), hv]; simp
      obtain ⟨-, -, -, a4, -⟩ := xr_a _ (by omega) k (by omega) hb
      refine ⟨p2_o m (by omega) _ (by omega) i1 k (by omega), fun i hi => ?_, ?_⟩
      · rw [Nat.testBit_or, i2 i hi, Nat.testBit_two_pow]
        by_cases e : i = k
        · subst e; simp; omega
        · have : decide (k = i) = false := by simp; omega
          have lt : (decide (i < k + 1)) = decide (i < k) := by by_cases h : i < k <;> simp [h] <;> omega
          rw [this, lt, Bool.or_false]
      · rw [gG_z hm (by omega) hv _ (by omega) i1 hb, a4]
        omega
    · rw [if_neg hv]
      refine ⟨i1, fun i hi => ?_, i3⟩
      rw [i2 i hi]
      by_cases e : i = k
      · subst e; simp [hv]
      · have lt : (decide (i < k + 1)) = decide (i < k) := by by_cases h : i < k <;> simp [h] <;> omega
        rw [lt]
theorem bits_eq : ∀ m, m < 7 → ∀ s, s < 64 → (∀ i, i < 6 → s.testBit i = decide (i < m)) → s = 2 ^ m - 1 := by decide +kernel
theorem pc_all : ∀ m, m < 7 → pcS (2 ^ m - 1) = m := by decide +kernel
theorem g_all {v : Nat → Int32} {m : Nat} (hm : m ≤ 6) : gG v m (2 ^ m - 1) + pcS (owS v m) = gG v m (owS v m) + m := by
  obtain ⟨i1, i2, i3⟩ := ad_all (v := v) hm m (Nat.le_refl _)
  have h64 := pow_m hm
  have e := bits_eq m (by omega) (adS v m m) (by omega) (fun i hi => by
    rw [i2 i hi]
    by_cases h : i < m <;> simp [h])
  rw [e, pc_all m (by omega)] at i3
  exact i3
theorem max_n {a b : Nat} (ha : a < 2147483648) (hb : b < 2147483648) : fJ9_max_7cf53 (nI a) (nI b) = nI (max a b) := by
  unfold fJ9_max_7cf53
  by_cases h : a < b
  · rw [if_pos (by rw [nJ_lt ha hb]; exact h), show max a b = b by omega]
  · rw [if_neg (by rw [nJ_lt ha hb]; exact h), show max a b = a by omega]
theorem xr_i : ∀ s, s < 64 → ∀ p, p < 6 → nI s ^^^ ((1 : Int32) <<< (nI p &&& 31)) = nI (s ^^^ 2 ^ p) ∧ s ^^^ 2 ^ p < 64 ∧ (s.testBit p = true → clr s p = s ^^^ 2 ^ p) ∧ clr s p < 64 := by decide +kernel
theorem mxF_le {v : Nat → Int32} {m S : Nat} (hm : m ≤ 6) (hS : S < 64) (k : Nat) (hk : k ≤ m) : mxF (fun i => S.testBit i) (fun i => gG v m (S ^^^ 2 ^ i)) k < 64 := by
  rcases mxF_at (C := fun i => S.testBit i) (f := fun i => gG v m (S ^^^ 2 ^ i)) k with h | ⟨i, h1, h2, h3⟩
  · omega
  · have := gG_le (v := v) hm _ (xr_i S hS i (by omega)).2.1
    have l := (xr_i S hS i (by omega)).2.1
    rw [h3]
    omega
/-- the class's row of groups, the sets below k being known -/
def grR (v : Nat → Int32) (m : Nat) (f : Nat → Int32) (k : Nat) : Nat → Int32 := fun S => if S < k then nI (gG v m S) else f S
theorem grR_s (v : Nat → Int32) (m : Nat) (f : Nat → Int32) (k : Nat) : up (grR v m f k) k (nI (gG v m k)) = grR v m f (k + 1) := by
  funext c
  unfold up grR
  try dsimp only
  by_cases h1 : c = k
  · rw [if_pos h1, if_pos (by omega), h1]
  · by_cases h2 : c < k
    · rw [if_neg h1, if_pos h2, if_pos (by omega)]
    · rw [if_neg h1, if_neg h2, if_neg (by omega)]
theorem setC {g m : Nat} {D : mz_D} (hm : m ≤ 6) : ∃ f, fX2_fewestPayings g (nI m) D = some (nI m - nI (gG (sBal g D) m (2 ^ m - 1)), wr (wr D g 115 (wgR g D (D.1 g 115) 6)) g 116 f) := by
  have h64 := pow_m hm
  have h1 : 1 ≤ 2 ^ m := Nat.one_le_two_pow
  have shl : ∀ m, m < 7 → (1 : Int32) <<< (nI m &&& 31) = nI (2 ^ m) := by decide +kernel
  obtain ⟨D1, hD1⟩ : ∃ D1, D1 = wr D g 115 (wgR g D (D.1 g 115) 6) := ⟨_, rfl⟩
  obtain ⟨v, hv⟩ : ∃ v, v = sBal g D := ⟨_, rfl⟩
  have w15 : ∀ f i, i < 6 → (wr D1 g 116 f).1 g 115 i = v i := fun f i hi => by rw [wr_n (Or.inl (by decide)), hD1, wr_s, wgR_i hi, hv]
  refine ⟨grR v m (D1.1 g 116) (2 ^ m), ?_⟩
  unfold fX2_fewestPayings
  rw [weighC, Option.bind_some, ← hD1, shl m (by omega), z0, ← hv]
  have e1 : mz_wi D1 g 116 0 0 = wr D1 g 116 (grR v m (D1.1 g 116) 1) := by
    rw [wi_wr]
    congr 1
    funext c
    unfold up grR
    try dsimp only
    by_cases h : c = 0
    · rw [if_pos h, if_pos (by omega), h]
      rfl
    · rw [if_neg h, if_neg (by omega)]
  rw [e1]
  exact lpC (fun n s k => fX2_fewestPayings_18 g n (nI m) (nI (2 ^ m)) k s) (fun k => wr D1 g 116 (grR v m (D1.1 g 116) k)) 1 (2 ^ m) (r := some (nI m - nI (gG v m (2 ^ m - 1)), wr D1 g 116 (grR v m (D1.1 g 116) (2 ^ m)))) (fun n S h0 hS => by
    show fX2_fewestPayings_18 g (n + 1) (nI m) (nI (2 ^ m)) (nI S) (wr D1 g 116 (grR v m (D1.1 g 116) S)) = fX2_fewestPayings_18 g n (nI m) (nI (2 ^ m)) (nI (S + 1)) (wr D1 g 116 (grR v m (D1.1 g 116) (S + 1)))
    rw [fX2_fewestPayings_18]
    dsimp only
    rw [if_neg (by rw [nJ_le (by omega) (by omega)]; omega)]
    exact lpD (fun n' (s : Int32 × Int32) i => fX2_fewestPayings_32 g (fX2_fewestPayings_18 g n) n' (nI m) (nI (2 ^ m)) (nI S) s.1 s.2 i (wr D1 g 116 (grR v m (D1.1 g 116) S))) (fun i => (nI (mxF (fun i => S.testBit i) (fun i => gG v m (S ^^^ 2 ^ i)) i), bS v S i)) m (fun n' i hi => by
      show fX2_fewestPayings_32 g (fX2_fewestPayings_18 g n) (n' + 1) (nI m) (nI (2 ^ m)) (nI S) (nI (mxF (fun i => S.testBit i) (fun i => gG v m (S ^^^ 2 ^ i)) i)) (bS v S i) (nI i) (wr D1 g 116 (grR v m (D1.1 g 116) S)) = fX2_fewestPayings_32 g (fX2_fewestPayings_18 g n) n' (nI m) (nI (2 ^ m)) (nI S) (nI (mxF (fun i => S.testBit i) (fun i => gG v m (S ^^^ 2 ^ i)) (i + 1))) (bS v S (i + 1)) (nI (i + 1)) (wr D1 g 116 (grR v m (D1.1 g 116) S))
      obtain ⟨q1, q2, -, -⟩ := xr_i S (by omega) i (by omega)
      rw [fX2_fewestPayings_32]
      simp (disch := omega) only [nJ_le, isIn_e, q1, nI_ix, gd_tt, nI_cl, a1r, wr_s, w15 _ i (by omega)]
      rw [if_neg (by omega), mxF_s, bS_s]
      cases hb : S.testBit i with
      | false => simp
      | true =>
        have l := xr_lt S (by omega) i (by omega) hb
        have b1 := mxF_le (v := v) hm (show S < 64 by omega) i (by omega)
        have b2 := gG_le (v := v) hm _ q2
        have eg : grR v m (D1.1 g 116) S (S ^^^ 2 ^ i) = nI (gG v m (S ^^^ 2 ^ i)) := if_pos l
        rw [if_neg (by simp), eg, max_n (by omega) (by omega)]
        simp) (fun n' => by
      show fX2_fewestPayings_32 g (fX2_fewestPayings_18 g n) (n' + 1) (nI m) (nI (2 ^ m)) (nI S) (nI (mxF (fun i => S.testBit i) (fun i => gG v m (S ^^^ 2 ^ i)) m)) (bS v S m) (nI m) (wr D1 g 116 (grR v m (D1.1 g 116) S)) = _
      have gr : gG v m S = mxF (fun i => S.testBit i) (fun i => gG v m (S ^^^ 2 ^ i)) m + (if bS v S m = 0 then 1 else 0) := by
        rw [gG_r hm (by omega)]
        unfold gV
        rw [if_neg (by omega)]
      rw [fX2_fewestPayings_32]
      simp (disch := omega) only [nI_ix, gd_tt, nI_cl, a1r, wr_up]
      rw [if_pos (Int32.le_refl _)]
      by_cases e : bS v S m = 0
      · rw [if_pos e]
        rw [if_pos e] at gr
        rw [← gr, grR_s]
      · rw [if_neg e]
        rw [if_neg e] at gr
        rw [show nI (mxF (fun i => S.testBit i) (fun i => gG v m (S ^^^ 2 ^ i)) m) = nI (gG v m S) by rw [gr]; rfl, grR_s]) m 0 mz_N (by omega) (N_lt (by omega))) (fun n => by
    show fX2_fewestPayings_18 g (n + 1) (nI m) (nI (2 ^ m)) (nI (2 ^ m)) (wr D1 g 116 (grR v m (D1.1 g 116) (2 ^ m))) = _
    have eg : grR v m (D1.1 g 116) (2 ^ m) (2 ^ m - 1) = nI (gG v m (2 ^ m - 1)) := if_pos (by omega)
    rw [fX2_fewestPayings_18]
    dsimp only
    rw [if_pos (Int32.le_refl _), show (1 : Int32) = nI 1 from rfl, n_sub h1, nI_ix (by omega) (by omega), gd_tt, nI_cl (by omega), wr_s, eg]) (2 ^ m - 1) 1 mz_N (Nat.le_refl _) (by omega) (N_lt (by omega))
/-- the reference's row -/
def prR (v : Nat → Int32) (m O : Nat) (f : Nat → Int32) (k : Nat) : Nat → Int32 := fun S => if S < k then (if S &&& O = S then nI (gG v m S) else 0) else f S
theorem prR_u {v : Nat → Int32} {m O : Nat} {f : Nat → Int32} {k : Nat} {x : Int32} (h : x = if k &&& O = k then nI (gG v m k) else 0) : up (prR v m O f k) k x = prR v m O f (k + 1) := by
  funext c
  unfold up prR
  try dsimp only
  by_cases h1 : c = k
  · rw [if_pos h1, if_pos (show c < k + 1 by omega), h1, h]
  · by_cases h2 : c < k
    · rw [if_neg h1, if_pos h2, if_pos (show c < k + 1 by omega)]
    · rw [if_neg h1, if_neg h2, if_neg (show ¬ c < k + 1 by omega)]
theorem sub_e : ∀ s, s < 64 → ∀ o, o < 64 → (nI s &&& (nI o ^^^ (-1 : Int32)) = 0 ↔ s &&& o = s) := by decide +kernel
theorem sub_x : ∀ s, s < 64 → ∀ o, o < 64 → ∀ p, p < 6 → s &&& o = s → (s ^^^ 2 ^ p) &&& o = s ^^^ 2 ^ p ∨ s.testBit p = false := by decide +kernel
theorem setM {n g : Nat} {Dc E : mz_D} {m d gs ins : Nat} (t : tR n g 0 0 Dc E m d gs ins) : ∃ f, fX12_settle E = some (nI (pcS (owS (sBal g Dc) m)) - nI (gG (sBal g Dc) m (owS (sBal g Dc) m)), mz_wi (wr E 0 209 f) 0 200 2 0) := by
  have hm := t.hm
  have h64 := pow_m hm
  obtain ⟨v, hv⟩ : ∃ v, v = sBal g Dc := ⟨_, rfl⟩
  rw [← hv]
  obtain ⟨O, hO⟩ : ∃ O, O = owS v m := ⟨_, rfl⟩
  have hO64 : O < 64 := by have := owS_lt v m hm; omega
  rw [← hO]
  have bm : ∀ f k, k < 6 → fX12_balanceOf (nI k) (wr E 0 209 f) = some (v k) := fun f k hk => by rw [(t.wrM (o := 209) (by decide) f).balM hk, hv]
  have bm0 : ∀ k, k < 6 → fX12_balanceOf (nI k) E = some (v k) := fun k hk => by rw [t.balM hk, hv]
  refine ⟨prR v m O (E.1 0 209) (O + 1), ?_⟩
  unfold fX12_settle
  refine Eq.trans (lpD (fun n s k => fX12_settle_4 n s k E) (fun k => nI (owS v k)) m (r := fX12_settle_40 mz_N (nI O) 0 E) (fun n k hk => ?_) (fun n => ?_) m 0 mz_N (by omega) (N_lt (by omega))) ?_
  · show fX12_settle_4 (n + 1) (nI (owS v k)) (nI k) E = fX12_settle_4 n (nI (owS v (k + 1))) (nI (k + 1)) E
    have l1 := owS_lt v k (by omega)
    have l2 := pow_m (m := k) (by omega)
    rw [fX12_settle_4]
    unfold fX12_settle_30
    dsimp only
    rw [z0, t.uMany, if_neg (by rw [nJ_le (by omega) (by omega)]; omega), bm0 k (by omega), Option.bind_some, owS_s, a1r]
    by_cases e : v k = 0
    · rw [if_pos e, if_pos e, show nI (owS v k) ||| (0 : Int32) = nI (owS v k) by grind]
    · rw [if_neg e, if_neg e, (or_e _ (by omega) k (by omega)).1]
  · show fX12_settle_4 (n + 1) (nI (owS v m)) (nI m) E = _
    rw [fX12_settle_4]
    dsimp only
    rw [z0, t.uMany, if_pos (Int32.le_refl _), hO]
  have key : fX12_settle_40 mz_N (nI O) (nI 0) (wr E 0 209 (prR v m O (E.1 0 209) 0)) = some (nI (pcS O) - nI (gG v m O), mz_wi (wr E 0 209 (prR v m O (E.1 0 209) (O + 1))) 0 200 2 0) := lpD (fun n s k => fX12_settle_40 n (nI O) k s) (fun k => wr E 0 209 (prR v m O (E.1 0 209) k)) (O + 1) (fun n S hS => by
    show fX12_settle_40 (n + 1) (nI O) (nI S) (wr E 0 209 (prR v m O (E.1 0 209) S)) = fX12_settle_40 n (nI O) (nI (S + 1)) (wr E 0 209 (prR v m O (E.1 0 209) (S + 1)))
    rw [fX12_settle_40]
    simp (disch := omega) only [nI_ix, gd_tt, nI_cl, a1r, wr_up]
    rw [if_neg (by rw [nJ_lt (by omega) (by omega)]; omega)]
    by_cases hs : S &&& O = S
    · rw [if_pos ((sub_e S (by omega) O hO64).mpr hs)]
      by_cases h0 : S = 0
      · rw [if_pos (by rw [h0]; rfl), prR_u]
        rw [if_pos hs, h0, gG_r hm (by omega)]
        rfl
      · rw [if_neg (by rw [ol_eqi (c := 0) (by omega) (by omega)]; exact h0)]
        have base : up (prR v m O (E.1 0 209) S) S 0 = up (prR v m O (E.1 0 209) S) S (nI (mxF (fun i => S.testBit i) (fun i => gG v m (S ^^^ 2 ^ i)) 0)) := rfl
        rw [base]
        exact lpD (fun n' (s : Int32 × Int32) i => fX12_settle_72 (fX12_settle_40 n) n' (nI O) (nI S) s.1 i (wr E 0 209 (up (prR v m O (E.1 0 209) S) S s.2))) (fun i => (bS v S i, nI (mxF (fun i => S.testBit i) (fun i => gG v m (S ^^^ 2 ^ i)) i))) m (fun n' i hi => by
          show fX12_settle_72 (fX12_settle_40 n) (n' + 1) (nI O) (nI S) (bS v S i) (nI i) (wr E 0 209 (up (prR v m O (E.1 0 209) S) S (nI (mxF (fun i => S.testBit i) (fun i => gG v m (S ^^^ 2 ^ i)) i)))) = fX12_settle_72 (fX12_settle_40 n) n' (nI O) (nI S) (bS v S (i + 1)) (nI (i + 1)) (wr E 0 209 (up (prR v m O (E.1 0 209) S) S (nI (mxF (fun i => S.testBit i) (fun i => gG v m (S ^^^ 2 ^ i)) (i + 1)))))
          obtain ⟨q1, q2, q3, q4⟩ := xr_i S (by omega) i (by omega)
          rw [fX12_settle_72]
          have cl := clr_e S (by omega) i (by omega)
          simp (disch := omega) only [z0, (t.wrM (o := 209) (by decide) (up (prR v m O (E.1 0 209) S) S (nI (mxF (fun i => S.testBit i) (fun i => gG v m (S ^^^ 2 ^ i)) i)))).uMany, nJ_le, isIn_m, isIn_e, cl, bm _ i (by omega), nI_ix, gd_tt, nI_cl, a1r, wr_s, wr_up, Option.bind_some]
          rw [if_neg (by omega), mxF_s, bS_s]
          cases hb : S.testBit i with
          | false => simp [add0]
          | true =>
            have l := xr_lt S (by omega) i (by omega) hb
            have b1 := mxF_le (v := v) hm (show S < 64 by omega) i (by omega)
            have b2 := gG_le (v := v) hm _ q2
            have e1 : up (prR v m O (E.1 0 209) S) S (nI (mxF (fun i => S.testBit i) (fun i => gG v m (S ^^^ 2 ^ i)) i)) S = nI (mxF (fun i => S.testBit i) (fun i => gG v m (S ^^^ 2 ^ i)) i) := if_pos rfl
            have e2 : up (prR v m O (E.1 0 209) S) S (nI (mxF (fun i => S.testBit i) (fun i => gG v m (S ^^^ 2 ^ i)) i)) (clr S i) = nI (gG v m (S ^^^ 2 ^ i)) := by
              rw [q3 hb]
              unfold up prR
              try dsimp only
              rw [if_neg (by omega), if_pos l, if_pos]
              rcases sub_x S (by omega) O hO64 i (by omega) hs with h | h
              · exact h
              · rw [hb] at h; cases h
            have uu : ∀ (f : Nat → Int32) j x y, up (up f j x) j y = up f j y := fun f j x y => by
              funext c
              unfold up
              by_cases h : c = j
              · rw [if_pos h, if_pos h]
              · rw [if_neg h, if_neg h]; try rw [if_neg h]
            rw [if_neg (by simp), e1, e2, max_n (by omega) (by omega), uu]
            simp) (fun n' => by
          show fX12_settle_72 (fX12_settle_40 n) (n' + 1) (nI O) (nI S) (bS v S m) (nI m) (wr E 0 209 (up (prR v m O (E.1 0 209) S) S (nI (mxF (fun i => S.testBit i) (fun i => gG v m (S ^^^ 2 ^ i)) m)))) = _
          have gr : gG v m S = mxF (fun i => S.testBit i) (fun i => gG v m (S ^^^ 2 ^ i)) m + (if bS v S m = 0 then 1 else 0) := by
            rw [gG_r hm (by omega)]
            unfold gV
            rw [if_neg h0]
          have e1 : up (prR v m O (E.1 0 209) S) S (nI (mxF (fun i => S.testBit i) (fun i => gG v m (S ^^^ 2 ^ i)) m)) S = nI (mxF (fun i => S.testBit i) (fun i => gG v m (S ^^^ 2 ^ i)) m) := if_pos rfl
          have uu : ∀ (f : Nat → Int32) j x y, up (up f j x) j y = up f j y := fun f j x y => by
            funext c
            unfold up
            by_cases h : c = j
            · rw [if_pos h, if_pos h]
            · rw [if_neg h, if_neg h]; try rw [if_neg h]
          rw [fX12_settle_72]
          unfold fX12_settle_152
          simp (disch := omega) only [z0, (t.wrM (o := 209) (by decide) (up (prR v m O (E.1 0 209) S) S (nI (mxF (fun i => S.testBit i) (fun i => gG v m (S ^^^ 2 ^ i)) m)))).uMany, nI_ix, gd_tt, nI_cl, a1r, wr_s, wr_up, e1, uu]
          rw [if_pos (Int32.le_refl _)]
          by_cases e : bS v S m = 0
          · rw [if_pos e]
            rw [if_pos e] at gr
            rw [prR_u (by rw [if_pos hs, gr])]
          · rw [if_neg e]
            rw [if_neg e] at gr
            rw [prR_u (by rw [if_pos hs, gr, add0]; rfl)]) m 0 mz_N (by omega) (N_lt (by omega))
    · rw [if_neg (fun e => hs ((sub_e S (by omega) O hO64).mp e)), prR_u (by rw [if_neg hs])]) (fun n => by
    show fX12_settle_40 (n + 1) (nI O) (nI (O + 1)) (wr E 0 209 (prR v m O (E.1 0 209) (O + 1))) = _
    have e1 : prR v m O (E.1 0 209) (O + 1) O = nI (gG v m O) := by
      unfold prR
      rw [if_pos (by omega), if_pos (Nat.and_self O)]
    rw [fX12_settle_40]
    dsimp only
    rw [if_pos (by rw [nJ_lt (by omega) (by omega)]; omega), bits_e hO64, Option.bind_some, nI_ix (by omega) (by omega), gd_tt, nI_cl (by omega), wr_s, e1]) (O + 1) 0 mz_N (by omega) (N_lt (by omega))
  have z : prR v m O (E.1 0 209) 0 = E.1 0 209 := by funext c; exact if_neg (by omega)
  rw [z, wr_id] at key
  exact key
theorem sq_e {a b c d : Int32} (h : b + c = d + a) : c - d = a - b := by grind
theorem sC_116 {D : mz_D} {g : Nat} (f : Nat → Int32) : sC D (wr D g 116 f) := fun a b c hn => ⟨by rw [wr_1, if_neg (fun e => hn (by unfold sCq; omega))], rfl⟩
theorem p_op40 : op_40 Inv := by
  intro n D h
  obtain ⟨m, d, gs, ins, t⟩ := iR.t h
  have hm := t.hm
  obtain ⟨f, ec⟩ := setC (g := 1) (m := m) (D := D) hm
  have ga := g_all (v := sBal 1 D) hm
  refine q_pair h (r := nI m - nI (gG (sBal 1 D) m (2 ^ m - 1))) (v := 0) ((sC_115 (g := 1) (wgR 1 D (D.1 1 115) 6)).tr (sC_116 (g := 1) f)) ?_ (fun E he => ?_)
  · unfold fX11_settle
    rw [t.many_c, ec]
    rfl
  · obtain ⟨f2, em⟩ := setM (t.m he)
    refine ⟨wr E 0 209 f2, sM_wr (by omega) f2, ?_⟩
    have e1 : nI (gG (sBal 1 D) m (2 ^ m - 1)) + nI (pcS (owS (sBal 1 D) m)) = nI (gG (sBal 1 D) m (owS (sBal 1 D) m)) + nI m := by rw [nI_add, nI_add, ga]
    rw [em, sq_e e1]
