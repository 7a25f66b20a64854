/-! ===== texts: bytes ===== -/
theorem byt0 : ∀ k, k < 256 → ((fX5_sortOf (nI k - 128) = 5 ↔ ((nI k - 128) &&& 255 = 32 ∨ (nI k - 128) &&& 255 = 10)) ∧ (fX5_sortOf (nI k - 128) = 1 ↔ fX12_isSmall ((nI k - 128) &&& 255) = 1) ∧ (fX5_sortOf (nI k - 128) = 2 ↔ fX12_isDigit ((nI k - 128) &&& 255) = 1) ∧ (fX5_sortOf (nI k - 128) = 3 ↔ ((nI k - 128) &&& 255 = 59 ∨ (nI k - 128) &&& 255 = 60 ∨ (nI k - 128) &&& 255 = 62 ∨ (nI k - 128) &&& 255 = 61)) ∧ (fX5_sortOf (nI k - 128) = 1 ∨ fX5_sortOf (nI k - 128) = 2 ∨ fX5_sortOf (nI k - 128) = 3 ∨ fX5_sortOf (nI k - 128) = 4 ∨ fX5_sortOf (nI k - 128) = 5) ∧ (fX5_sortOf (nI k - 128) ≠ 4 → (nI k - 128) &&& 255 = nI k - 128) ∧ (nI k - 128) &&& 255 ≠ -1 ∧ (nI k - 128).toInt8.toInt32 = nI k - 128) := by decide +kernel
theorem bytS {x : Int32} (h : bd x (-128) 127) : ((fX5_sortOf x = 5 ↔ (x &&& 255 = 32 ∨ x &&& 255 = 10)) ∧ (fX5_sortOf x = 1 ↔ fX12_isSmall (x &&& 255) = 1) ∧ (fX5_sortOf x = 2 ↔ fX12_isDigit (x &&& 255) = 1) ∧ (fX5_sortOf x = 3 ↔ (x &&& 255 = 59 ∨ x &&& 255 = 60 ∨ x &&& 255 = 62 ∨ x &&& 255 = 61)) ∧ (fX5_sortOf x = 1 ∨ fX5_sortOf x = 2 ∨ fX5_sortOf x = 3 ∨ fX5_sortOf x = 4 ∨ fX5_sortOf x = 5) ∧ (fX5_sortOf x ≠ 4 → x &&& 255 = x) ∧ x &&& 255 ≠ -1 ∧ x.toInt8.toInt32 = x) := by
  unfold bd at h
  have e : x = nI (x.toInt + 128).toNat - 128 := by
    have o : (128 : Int32).toInt = 128 := rfl
    refine i_eq.mpr ?_
    rw [i_sub (by rw [nI_toInt (by omega)]; omega) (by rw [nI_toInt (by omega)]; omega), nI_toInt (by omega)]
    omega
  have := byt0 (x.toInt + 128).toNat (by omega)
  rw [← e] at this
  exact this
