/-! ===== how it all begins ===== -/
theorem dI_c {g o j : Nat} (h : o < 200) (h5 : o ≠ 5) (h0 : o ≠ 0) : cz_DI.1 g o j = 0 := by
  unfold cz_DI cz_DL
  simp only [if_pos h, if_neg h5, if_neg h0]
theorem dI_m {g o j : Nat} (h : 200 ≤ o) (h4 : o ≠ 204) (h0 : o ≠ 200) (h1 : o ≠ 201 ∨ j ≠ 9) : cz_DI.1 g o j = 0 := by
  unfold cz_DI cz_DM
  simp only [if_neg (show ¬ o < 200 by omega), if_neg h4, if_neg h0]
  by_cases e : o = 201
  · rw [if_pos e]
    exact if_neg (by omega)
  · rw [if_neg e]
theorem bd00 {h : Int} (hh : 0 ≤ h) : bd 0 0 h := by
  unfold bd
  have : (0 : Int32).toInt = 0 := rfl
  omega
theorem inv_0 : Inv 0 cz_DI := by
  have tt : tR 0 1 0 0 cz_DI cz_DI 0 0 0 0 := by
    refine tR.mk (m := 0) (d := 0) (gs := 0) (ins := 0) (hm := Nat.zero_le _) (hd := Nat.zero_le _) (hgs := by decide) (hins := by decide) ?_ ?_ ?_ ?_ ?_ ?_ ?_ ?_ ?_ ?_ ?_ ?_ ?_ ?_ ?_ ?_ ?_ ?_ ?_ ?_ ?_ ?_ ?_ ?_ ?_ ?_ ?_ ?_
    · rw [dI_c (by omega) (by omega) (by omega)]; rfl
    · rw [dI_m (by omega) (by omega) (by omega) (by omega)]; rfl
    · rw [dI_m (by omega) (by omega) (by omega) (by omega), dI_c (by omega) (by omega) (by omega)]
    · rw [dI_c (by omega) (by omega) (by omega)]; rfl
    · rw [dI_m (by omega) (by omega) (by omega) (by omega)]; rfl
    · rw [dI_m (by omega) (by omega) (by omega) (by omega), dI_c (by omega) (by omega) (by omega)]
    · exact Or.inl (dI_c (by omega) (by omega) (by omega))
    · rw [dI_m (by omega) (by omega) (by omega) (by omega), dI_c (by omega) (by omega) (by omega)]
    · exact Or.inl (dI_c (by omega) (by omega) (by omega))
    · rw [dI_m (by omega) (by omega) (by omega) (by omega), dI_c (by omega) (by omega) (by omega)]
    · rw [dI_m (by omega) (by omega) (by omega) (by omega), dI_c (by omega) (by omega) (by omega)]
    · rw [dI_c (by omega) (by omega) (by omega)]; rfl
    · rw [dI_m (by omega) (by omega) (by omega) (by omega)]; rfl
    · rw [dI_c (by omega) (by omega) (by omega)]; rfl
    · rw [dI_m (by omega) (by omega) (by omega) (by omega)]; rfl
    · intro p hp; omega
    · intro p hp; omega
    · intro p hp; omega
    · intro p hp; omega
    · intro p hp; omega
    · intro p hp; omega
    · intro p hp; omega
    · intro p hp; omega
    · intro p hp; omega
    · intro p hp; omega
    · intro k hk
      rw [dI_m (by omega) (by omega) (by omega) (by omega), dI_c (by omega) (by omega) (by omega)]
      exact ⟨rfl, bd00 (by omega)⟩
    · intro p q _ _ _
      exact dI_c (by omega) (by omega) (by omega)
    · exact Or.inl ⟨dI_c (by omega) (by omega) (by omega), rfl⟩
  refine iR.mk (status := rfl) (top := rfl) (bottom := rfl) (fk := rfl) (fp := rfl) (taped := ⟨0, by omega, rfl, rfl⟩) (tape := fun j hj => ?_) (trays := fun t ht => ?_) (lived := rfl) (told := fun k hk => ?_) (keys := rfl) (table := ⟨0, 0, 0, 0, tt⟩) (marks := ⟨0, by omega, rfl, rfl, fun i hi => by omega⟩)
  · rw [dI_m (by omega) (by omega) (by omega) (by omega), dI_c (by omega) (by omega) (by omega)]
    exact ⟨rfl, by unfold bd; decide⟩
  · have : t = 0 ∨ t = 1 ∨ t = 2 ∨ t = 3 := by omega
    rcases this with rfl | rfl | rfl | rfl <;> exact Or.inl ⟨rfl, rfl⟩
  · rw [dI_m (by omega) (by omega) (by omega) (by omega), dI_c (by omega) (by omega) (by omega)]
theorem stay : ∀ n D, Inv n D → Inv (n + 1) D := fun n D h => iR.mono h (Nat.le_succ n)
