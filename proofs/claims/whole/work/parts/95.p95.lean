/-! ===== texts: words as numbers ===== -/
theorem n64 {n : Nat} (h : n < 9223372036854775808) : (Int64.ofNat n).toBitVec.toNat = n := by show n % 2 ^ 64 = n; omega
theorem nL_inj {a b : Nat} (ha : a < 9223372036854775808) (hb : b < 9223372036854775808) (h : nL a = nL b) : a = b := by
  have h2 := congrArg Int64.toInt h
  rw [nL_toInt ha, nL_toInt hb] at h2
  omega
def n5 (v : Nat) (w : List Nat) : Nat := List.foldl (fun v x => v * 32 + x) v w
def n8 (v : Nat) (w : List Nat) : Nat := List.foldl (fun v x => v * 256 + (x + 96)) v w
def ltr (w : List Nat) : Prop := ∀ x ∈ w, 1 ≤ x ∧ x ≤ 26
theorem ltr.tl {x : Nat} {w : List Nat} (h : ltr (x :: w)) : ltr w := fun y hy => h y (List.mem_cons_of_mem x hy)
theorem ltr.hd {x : Nat} {w : List Nat} (h : ltr (x :: w)) : 1 ≤ x ∧ x ≤ 26 := h x List.mem_cons_self
theorem c5_g : ∀ (w : List Nat) (v : Nat), List.foldl (fun v x => v * 32 + Int64.ofNat x) (nL v) w = nL (n5 v w) := by
  intro w
  induction w with
  | nil => intro v; rfl
  | cons x w ih =>
    intro v
    show List.foldl (fun v x => v * 32 + Int64.ofNat x) (nL v * 32 + Int64.ofNat x) w = nL (n5 (v * 32 + x) w)
    rw [← ih, show nL v * 32 + Int64.ofNat x = nL (v * 32 + x) by rw [← nL_add, ← nL_mul]; rfl]
theorem n5_lt : ∀ (w : List Nat) (v : Nat), ltr w → n5 v w < (v + 1) * 32 ^ w.length := by
  intro w
  induction w with
  | nil => intro v _; show v < (v + 1) * 1; omega
  | cons x w ih =>
    intro v h
    have h1 := ih (v * 32 + x) h.tl
    have h2 := h.hd
    have h3 : (v * 32 + x + 1) * 32 ^ w.length ≤ (v + 1) * 32 * 32 ^ w.length := Nat.mul_le_mul_right _ (by omega)
    show n5 (v * 32 + x) w < (v + 1) * 32 ^ (w.length + 1)
    rw [Nat.pow_succ, Nat.mul_comm (32 ^ w.length) 32, ← Nat.mul_assoc]
    exact Nat.lt_of_lt_of_le h1 h3
theorem c5_n {w : List Nat} (h : ltr w) (h8 : w.length ≤ 8) : c5 w = nL (n5 0 w) ∧ n5 0 w < 9223372036854775808 := by
  refine ⟨c5_g w 0, Nat.lt_of_lt_of_le (n5_lt w 0 h) ?_⟩
  have := Nat.pow_le_pow_right (show 0 < 32 by omega) h8
  omega
theorem c8_1 {v y : Nat} (hv : v < 36028797018963968) (hy : y < 256) : nL v <<< (8 : Int64) ||| Int64.ofNat y = nL (v * 256 + y) := by
  apply Int64.toBitVec_inj.mp
  apply BitVec.eq_of_toNat_eq
  rw [Int64.toBitVec_or, BitVec.toNat_or]
  show ((Int64.ofNat v).toBitVec <<< 8).toNat ||| (Int64.ofNat y).toBitVec.toNat = (Int64.ofNat (v * 256 + y)).toBitVec.toNat
  rw [BitVec.toNat_shiftLeft, n64 (by omega), n64 (by omega), n64 (by omega), Nat.mod_eq_of_lt (by rw [Nat.shiftLeft_eq]; omega), ← Nat.shiftLeft_add_eq_or_of_lt (show y < 2 ^ 8 by omega), Nat.shiftLeft_eq]
theorem c8_g : ∀ (w : List Nat) (v : Nat), ltr w → (v + 1) * 256 ^ w.length ≤ 9223372036854775808 → List.foldl (fun (v : Int64) x => v <<< 8 ||| Int64.ofNat (x + 96)) (nL v) w = nL (n8 v w) ∧ n8 v w < (v + 1) * 256 ^ w.length := by
  intro w
  induction w with
  | nil => intro v _ _; exact ⟨rfl, by show v < (v + 1) * 1; omega⟩
  | cons x w ih =>
    intro v h hb
    have h2 := h.hd
    have hb2 : (v + 1) * 256 * 256 ^ w.length ≤ 9223372036854775808 := by
      rw [Nat.mul_assoc, Nat.mul_comm 256 (256 ^ w.length), ← Nat.pow_succ]
      exact hb
    have hp : 1 ≤ 256 ^ w.length := Nat.pow_pos (by decide)
    have hv : (v + 1) * 256 * 1 ≤ (v + 1) * 256 * 256 ^ w.length := Nat.mul_le_mul_left _ hp
    have h3 : (v * 256 + (x + 96) + 1) * 256 ^ w.length ≤ (v + 1) * 256 * 256 ^ w.length := Nat.mul_le_mul_right _ (by omega)
    have h1 := ih (v * 256 + (x + 96)) h.tl (Nat.le_trans h3 hb2)
    refine ⟨?_, ?_⟩
    · show List.foldl (fun (v : Int64) x => v <<< 8 ||| Int64.ofNat (x + 96)) (nL v <<< 8 ||| Int64.ofNat (x + 96)) w = nL (n8 (v * 256 + (x + 96)) w)
      rw [← h1.1, c8_1 (by omega) (by omega)]
    · show n8 (v * 256 + (x + 96)) w < (v + 1) * 256 ^ (w.length + 1)
      rw [Nat.pow_succ, Nat.mul_comm (256 ^ w.length) 256, ← Nat.mul_assoc]
      exact Nat.lt_of_lt_of_le h1.2 h3
theorem c8_n {w : List Nat} (h : ltr w) (h8 : w.length ≤ 8) : c8 w = nL (n8 0 w) ∧ n8 0 w < 9223372036854775808 := by
  cases w with
  | nil => exact ⟨rfl, by decide⟩
  | cons x w =>
    have h2 := h.hd
    have h7 : w.length ≤ 7 := by
      have : (x :: w).length = w.length + 1 := rfl
      omega
    have hp := Nat.pow_le_pow_right (show 0 < 256 by omega) h7
    have hq : (0 * 256 + (x + 96) + 1) * 256 ^ w.length ≤ 128 * 256 ^ 7 := Nat.mul_le_mul (by omega) hp
    have h1 := c8_g w (0 * 256 + (x + 96)) h.tl (by omega)
    refine ⟨?_, ?_⟩
    · show List.foldl (fun (v : Int64) x => v <<< 8 ||| Int64.ofNat (x + 96)) (nL 0 <<< 8 ||| Int64.ofNat (x + 96)) w = nL (n8 (0 * 256 + (x + 96)) w)
      rw [← h1.1, c8_1 (by omega) (by omega)]
    · show n8 (0 * 256 + (x + 96)) w < 9223372036854775808
      have := h1.2
      omega
theorem r5_inj : ∀ (l l' : List Nat), ltr l → ltr l' → List.foldr (fun x y => y * 32 + x) 0 l = List.foldr (fun x y => y * 32 + x) 0 l' → l = l' := by
  intro l
  induction l with
  | nil =>
    intro l' _ h' e
    cases l' with
    | nil => rfl
    | cons x l' =>
      have h2 := h'.hd
      have e : 0 = List.foldr (fun x y => y * 32 + x) 0 l' * 32 + x := e
      omega
  | cons x l ih =>
    intro l' h h' e
    cases l' with
    | nil =>
      have h2 := h.hd
      have e : List.foldr (fun x y => y * 32 + x) 0 l * 32 + x = 0 := e
      omega
    | cons x' l' =>
      have h2 := h.hd
      have h3 := h'.hd
      have e : List.foldr (fun x y => y * 32 + x) 0 l * 32 + x = List.foldr (fun x y => y * 32 + x) 0 l' * 32 + x' := e
      rw [ih l' h.tl h'.tl (by omega), show x = x' by omega]
theorem r8_inj : ∀ (l l' : List Nat), ltr l → ltr l' → List.foldr (fun x y => y * 256 + (x + 96)) 0 l = List.foldr (fun x y => y * 256 + (x + 96)) 0 l' → l = l' := by
  intro l
  induction l with
  | nil =>
    intro l' _ h' e
    cases l' with
    | nil => rfl
    | cons x l' =>
      have h2 := h'.hd
      have e : 0 = List.foldr (fun x y => y * 256 + (x + 96)) 0 l' * 256 + (x + 96) := e
      omega
  | cons x l ih =>
    intro l' h h' e
    cases l' with
    | nil =>
      have h2 := h.hd
      have e : List.foldr (fun x y => y * 256 + (x + 96)) 0 l * 256 + (x + 96) = 0 := e
      omega
    | cons x' l' =>
      have h2 := h.hd
      have h3 := h'.hd
      have e : List.foldr (fun x y => y * 256 + (x + 96)) 0 l * 256 + (x + 96) = List.foldr (fun x y => y * 256 + (x + 96)) 0 l' * 256 + (x' + 96) := e
      rw [ih l' h.tl h'.tl (by omega), show x = x' by omega]
theorem ltr.rv {w : List Nat} (h : ltr w) : ltr w.reverse := fun x hx => h x (List.mem_reverse.mp hx)
theorem c5_e {w w' : List Nat} (h : ltr w) (h' : ltr w') (l : w.length ≤ 8) (l' : w'.length ≤ 8) : c5 w = c5 w' ↔ w = w' := by
  refine ⟨fun e => ?_, fun e => by rw [e]⟩
  have a := c5_n h l
  have b := c5_n h' l'
  rw [a.1, b.1] at e
  have e2 := nL_inj a.2 b.2 e
  unfold n5 at e2
  rw [List.foldl_eq_foldr_reverse, List.foldl_eq_foldr_reverse] at e2
  exact List.reverse_inj.mp (r5_inj _ _ h.rv h'.rv e2)
theorem c8_e {w w' : List Nat} (h : ltr w) (h' : ltr w') (l : w.length ≤ 8) (l' : w'.length ≤ 8) : c8 w = c8 w' ↔ w = w' := by
  refine ⟨fun e => ?_, fun e => by rw [e]⟩
  have a := c8_n h l
  have b := c8_n h' l'
  rw [a.1, b.1] at e
  have e2 := nL_inj a.2 b.2 e
  unfold n8 at e2
  rw [List.foldl_eq_foldr_reverse, List.foldl_eq_foldr_reverse] at e2
  exact List.reverse_inj.mp (r8_inj _ _ h.rv h'.rv e2)
theorem c5_s (w : List Nat) (x : Nat) : c5 (w ++ [x]) = c5 w * 32 + Int64.ofNat x := by
  unfold c5
  rw [List.foldl_append]
  rfl
theorem c8_s (w : List Nat) (x : Nat) : c8 (w ++ [x]) = c8 w <<< 8 ||| Int64.ofNat (x + 96) := by
  unfold c8
  rw [List.foldl_append]
  rfl
/-- a name here is the same name there: class and reference agree -/
theorem nmq {a b : Int64} {w : List Nat} (h : nmR a b) (hw : ltr w) (h8 : w.length ≤ 8) : lg_cmp a (c5 w) = 0 ↔ lg_cmp b (c8 w) = 0 := by
  obtain ⟨w', h1, h2, h3, rfl, rfl⟩ := h
  rw [cmp_eq, cmp_eq, c5_e h3 hw h2 h8, c8_e h3 hw h2 h8]
theorem nm_mk {w : List Nat} (hw : ltr w) (h0 : 0 < w.length) (h8 : w.length ≤ 8) : nmR (c5 w) (c8 w) := ⟨w, h0, h8, hw, rfl, rfl⟩
/-! letters, digits, one byte -/
theorem let0 : ∀ x, x < 27 → (1 ≤ x → (nI (x + 96) &&& 255 = nI (x + 96) ∧ fX5_sortOf (nI (x + 96)) = 1 ∧ fX12_isSmall (nI (x + 96)) = 1 ∧ ((nI (x + 96) - (97 : Int32)) + (1 : Int32)).toInt64 = Int64.ofNat x)) := by decide +kernel
theorem dg0 : ∀ x, x < 10 → (nI (x + 48) &&& 255 = nI (x + 48) ∧ fX5_sortOf (nI (x + 48)) = 2 ∧ fX12_isDigit (nI (x + 48)) = 1 ∧ nI (x + 48) - (48 : Int32) = nI x) := by decide +kernel
theorem lt1a : ∀ k, k < 256 → (fX5_sortOf (nI k - 128) = 1 → (nI k - 128 = nI (k - 224 + 96) ∧ 1 ≤ k - 224 ∧ k - 224 ≤ 26)) := by decide +kernel
theorem dg1a : ∀ k, k < 256 → (fX5_sortOf (nI k - 128) = 2 → (nI k - 128 = nI (k - 176 + 48) ∧ k - 176 ≤ 9)) := by decide +kernel
theorem sg1a : ∀ k, k < 256 → (fX5_sortOf (nI k - 128) = 3 → ((nI k - 128 = 59 ∨ nI k - 128 = 60 ∨ nI k - 128 = 61 ∨ nI k - 128 = 62) ∧ (nI k - 128) &&& 255 = nI k - 128)) := by decide +kernel
theorem byk {x : Int32} (h : bd x (-128) 127) : ∃ k, k < 256 ∧ x = nI k - 128 := by
  unfold bd at h
  refine ⟨(x.toInt + 128).toNat, by omega, ?_⟩
  have o : (128 : Int32).toInt = 128 := rfl
  refine i_eq.mpr ?_
  rw [i_sub (by rw [nI_toInt (by omega)]; omega) (by rw [nI_toInt (by omega)]; omega), nI_toInt (by omega)]
  omega
theorem lt1 {b : Int32} (h : bd b (-128) 127) (hs : fX5_sortOf b = 1) : ∃ x, 1 ≤ x ∧ x ≤ 26 ∧ b = nI (x + 96) := by
  obtain ⟨k, hk, rfl⟩ := byk h
  obtain ⟨h1, h2, h3⟩ := lt1a k hk hs
  exact ⟨_, h2, h3, h1⟩
theorem dg1 {b : Int32} (h : bd b (-128) 127) (hs : fX5_sortOf b = 2) : ∃ x, x ≤ 9 ∧ b = nI (x + 48) := by
  obtain ⟨k, hk, rfl⟩ := byk h
  obtain ⟨h1, h2⟩ := dg1a k hk hs
  exact ⟨_, h2, h1⟩
theorem sg1 {b : Int32} (h : bd b (-128) 127) (hs : fX5_sortOf b = 3) : (b = 59 ∨ b = 60 ∨ b = 61 ∨ b = 62) ∧ b &&& 255 = b := by
  obtain ⟨k, hk, rfl⟩ := byk h
  exact sg1a k hk hs
