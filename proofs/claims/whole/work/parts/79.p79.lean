/-! ===== sets of dishes: bits ===== -/
def bc (S : Nat) : Int32 := fJ6_bitCount_0f7a4 (nI S)
theorem bc_c0 : ∀ a, a < 16 → ∀ b, b < 256 → (4096 * 0 + 256 * a + b = 0) ∨ bc ((4096 * 0 + 256 * a + b) &&& (4096 * 0 + 256 * a + b - 1)) + 1 = bc (4096 * 0 + 256 * a + b) := by decide +kernel
theorem bc_c1 : ∀ a, a < 16 → ∀ b, b < 256 → (4096 * 1 + 256 * a + b = 0) ∨ bc ((4096 * 1 + 256 * a + b) &&& (4096 * 1 + 256 * a + b - 1)) + 1 = bc (4096 * 1 + 256 * a + b) := by decide +kernel
theorem bc_c2 : ∀ a, a < 16 → ∀ b, b < 256 → (4096 * 2 + 256 * a + b = 0) ∨ bc ((4096 * 2 + 256 * a + b) &&& (4096 * 2 + 256 * a + b - 1)) + 1 = bc (4096 * 2 + 256 * a + b) := by decide +kernel
theorem bc_c3 : ∀ a, a < 16 → ∀ b, b < 256 → (4096 * 3 + 256 * a + b = 0) ∨ bc ((4096 * 3 + 256 * a + b) &&& (4096 * 3 + 256 * a + b - 1)) + 1 = bc (4096 * 3 + 256 * a + b) := by decide +kernel
theorem bc_c4 : ∀ a, a < 16 → ∀ b, b < 256 → (4096 * 4 + 256 * a + b = 0) ∨ bc ((4096 * 4 + 256 * a + b) &&& (4096 * 4 + 256 * a + b - 1)) + 1 = bc (4096 * 4 + 256 * a + b) := by decide +kernel
theorem bc_c5 : ∀ a, a < 16 → ∀ b, b < 256 → (4096 * 5 + 256 * a + b = 0) ∨ bc ((4096 * 5 + 256 * a + b) &&& (4096 * 5 + 256 * a + b - 1)) + 1 = bc (4096 * 5 + 256 * a + b) := by decide +kernel
theorem bc_c6 : ∀ a, a < 16 → ∀ b, b < 256 → (4096 * 6 + 256 * a + b = 0) ∨ bc ((4096 * 6 + 256 * a + b) &&& (4096 * 6 + 256 * a + b - 1)) + 1 = bc (4096 * 6 + 256 * a + b) := by decide +kernel
theorem bc_c7 : ∀ a, a < 16 → ∀ b, b < 256 → (4096 * 7 + 256 * a + b = 0) ∨ bc ((4096 * 7 + 256 * a + b) &&& (4096 * 7 + 256 * a + b - 1)) + 1 = bc (4096 * 7 + 256 * a + b) := by decide +kernel
theorem bc_c8 : ∀ a, a < 16 → ∀ b, b < 256 → (4096 * 8 + 256 * a + b = 0) ∨ bc ((4096 * 8 + 256 * a + b) &&& (4096 * 8 + 256 * a + b - 1)) + 1 = bc (4096 * 8 + 256 * a + b) := by decide +kernel
theorem bc_c9 : ∀ a, a < 16 → ∀ b, b < 256 → (4096 * 9 + 256 * a + b = 0) ∨ bc ((4096 * 9 + 256 * a + b) &&& (4096 * 9 + 256 * a + b - 1)) + 1 = bc (4096 * 9 + 256 * a + b) := by decide +kernel
theorem bc_c10 : ∀ a, a < 16 → ∀ b, b < 256 → (4096 * 10 + 256 * a + b = 0) ∨ bc ((4096 * 10 + 256 * a + b) &&& (4096 * 10 + 256 * a + b - 1)) + 1 = bc (4096 * 10 + 256 * a + b) := by decide +kernel
theorem bc_c11 : ∀ a, a < 16 → ∀ b, b < 256 → (4096 * 11 + 256 * a + b = 0) ∨ bc ((4096 * 11 + 256 * a + b) &&& (4096 * 11 + 256 * a + b - 1)) + 1 = bc (4096 * 11 + 256 * a + b) := by decide +kernel
theorem bc_c12 : ∀ a, a < 16 → ∀ b, b < 256 → (4096 * 12 + 256 * a + b = 0) ∨ bc ((4096 * 12 + 256 * a + b) &&& (4096 * 12 + 256 * a + b - 1)) + 1 = bc (4096 * 12 + 256 * a + b) := by decide +kernel
theorem bc_c13 : ∀ a, a < 16 → ∀ b, b < 256 → (4096 * 13 + 256 * a + b = 0) ∨ bc ((4096 * 13 + 256 * a + b) &&& (4096 * 13 + 256 * a + b - 1)) + 1 = bc (4096 * 13 + 256 * a + b) := by decide +kernel
theorem bc_c14 : ∀ a, a < 16 → ∀ b, b < 256 → (4096 * 14 + 256 * a + b = 0) ∨ bc ((4096 * 14 + 256 * a + b) &&& (4096 * 14 + 256 * a + b - 1)) + 1 = bc (4096 * 14 + 256 * a + b) := by decide +kernel
theorem bc_c15 : ∀ a, a < 16 → ∀ b, b < 256 → (4096 * 15 + 256 * a + b = 0) ∨ bc ((4096 * 15 + 256 * a + b) &&& (4096 * 15 + 256 * a + b - 1)) + 1 = bc (4096 * 15 + 256 * a + b) := by decide +kernel
theorem bc_st {S : Nat} (h0 : S ≠ 0) (h : S < 65536) : bc (S &&& (S - 1)) + 1 = bc S := by
  have e : ∀ q, S / 4096 = q → 4096 * q + 256 * (S % 4096 / 256) + S % 256 = S := fun q hq => by omega
  have a1 : S % 4096 / 256 < 16 := by omega
  have a2 : S % 256 < 256 := by omega
  have fin : ∀ q, S / 4096 = q → ((4096 * q + 256 * (S % 4096 / 256) + S % 256 = 0) ∨ bc ((4096 * q + 256 * (S % 4096 / 256) + S % 256) &&& (4096 * q + 256 * (S % 4096 / 256) + S % 256 - 1)) + 1 = bc (4096 * q + 256 * (S % 4096 / 256) + S % 256)) → bc (S &&& (S - 1)) + 1 = bc S := fun q hq h => by
    rw [e q hq] at h
    rcases h with h | h
    · exact absurd h h0
    · exact h
  have c : S / 4096 = 0 ∨ S / 4096 = 1 ∨ S / 4096 = 2 ∨ S / 4096 = 3 ∨ S / 4096 = 4 ∨ S / 4096 = 5 ∨ S / 4096 = 6 ∨ S / 4096 = 7 ∨ S / 4096 = 8 ∨ S / 4096 = 9 ∨ S / 4096 = 10 ∨ S / 4096 = 11 ∨ S / 4096 = 12 ∨ S / 4096 = 13 ∨ S / 4096 = 14 ∨ S / 4096 = 15 := by omega
  rcases c with h | h | h | h | h | h | h | h | h | h | h | h | h | h | h | h
  · exact fin _ h (bc_c0 _ a1 _ a2)
  · exact fin _ h (bc_c1 _ a1 _ a2)
  · exact fin _ h (bc_c2 _ a1 _ a2)
  · exact fin _ h (bc_c3 _ a1 _ a2)
  · exact fin _ h (bc_c4 _ a1 _ a2)
  · exact fin _ h (bc_c5 _ a1 _ a2)
  · exact fin _ h (bc_c6 _ a1 _ a2)
  · exact fin _ h (bc_c7 _ a1 _ a2)
  · exact fin _ h (bc_c8 _ a1 _ a2)
  · exact fin _ h (bc_c9 _ a1 _ a2)
  · exact fin _ h (bc_c10 _ a1 _ a2)
  · exact fin _ h (bc_c11 _ a1 _ a2)
  · exact fin _ h (bc_c12 _ a1 _ a2)
  · exact fin _ h (bc_c13 _ a1 _ a2)
  · exact fin _ h (bc_c14 _ a1 _ a2)
  · exact fin _ h (bc_c15 _ a1 _ a2)
theorem nI_and (a b : Nat) : nI a &&& nI b = nI (a &&& b) := by
  rw [← Int32.toBitVec_inj]
  show BitVec.ofNat 32 a &&& BitVec.ofNat 32 b = BitVec.ofNat 32 (a &&& b)
  rw [BitVec.ofNat_and]
theorem nI_or (a b : Nat) : nI a ||| nI b = nI (a ||| b) := by
  rw [← Int32.toBitVec_inj]
  show BitVec.ofNat 32 a ||| BitVec.ofNat 32 b = BitVec.ofNat 32 (a ||| b)
  rw [BitVec.ofNat_or]
theorem smod_k : ∀ k, k < 17 → ((nI k &&& 31).toBitVec.smod 32).toNat = k := by decide +kernel
theorem shr_n {S k : Nat} (hS : S < 2147483648) (hk : k < 17) : nI S >>> (nI k &&& 31) = nI (S / 2 ^ k) := by
  have hq : S / 2 ^ k ≤ S := Nat.div_le_self _ _
  rw [i_eq]
  show (BitVec.sshiftRight' (nI S).toBitVec ((nI k &&& 31).toBitVec.smod 32)).toInt = _
  rw [BitVec.toInt_sshiftRight', smod_k k hk, nI_toInt (by omega)]
  show (nI S).toInt >>> k = _
  rw [nI_toInt hS, Int.shiftRight_eq_div_pow]
  exact (Int.natCast_ediv S (2 ^ k)).symm
theorem isIn_n {S k : Nat} (hS : S < 2147483648) (hk : k < 17) : fX11_isIn (nI S) (nI k) = if S.testBit k then 1 else 0 := by
  have hq : S / 2 ^ k ≤ S := Nat.div_le_self _ _
  unfold fX11_isIn
  rw [shr_n hS hk, show (1 : Int32) = nI 1 from rfl, nI_and, Nat.and_one_is_mod, Nat.testBit_eq_decide_div_mod_eq]
  by_cases h : S / 2 ^ k % 2 = 1
  · rw [if_pos (by rw [h])]; simp [h]
  · rw [if_neg (fun e => h ((nJ_eq (by omega) (by omega)).mp e))]; simp [h]
theorem shl_n : ∀ k, k < 17 → (1 : Int32) <<< (nI k &&& 31) = nI (2 ^ k) := by decide +kernel
theorem bits16 {S : Nat} (hS : S < 65536) : fX12_bits (nI S) = some (bc S) := by
  have key : ∀ S, S < 65536 → ∀ n c, S < n → fX12_bits_4 n c (nI S) = some (c + bc S) := by
    intro S
    induction S using Nat.strongRecOn with
    | ind S ih =>
      intro hS n c hn
      obtain ⟨n, rfl⟩ : ∃ n', n = n' + 1 := ⟨n - 1, by omega⟩
      rw [fX12_bits_4]
      dsimp only
      by_cases h0 : S = 0
      · subst h0
        rw [if_pos (by decide), show bc 0 = 0 by decide +kernel, add0]
      · rw [if_neg (by rw [ol_eqi (c := 0) (by omega) (by omega)]; exact h0), show (1 : Int32) = nI 1 from rfl, n_sub (by omega), nI_and]
        have l : S &&& (S - 1) ≤ S - 1 := Nat.and_le_right
        rw [ih _ (by omega) (by omega) n _ (by omega), ← bc_st h0 hS]
        congr 1
        rw [show nI 1 = (1 : Int32) from rfl]
        grind
  have := key S hS mz_N 0 (N_lt (by omega))
  unfold fX12_bits
  rw [this]
  congr 1
  grind
