/-! ===== the abstract machine: keys, values, memory, worlds ===== -/
abbrev mz_V : Type := Int32 ⊕ (Int64 ⊕ Option (Nat × Nat))
abbrev mz_D : Type := (Nat → Nat → Nat → Int32) × (Nat → Nat → Nat → Int64)
abbrev mz_L : Type := List (Option mz_V)
abbrev mz_S : Type := Nat × mz_L × List mz_V × mz_D
/-- an instruction with what is resolved of it: place, instruction, two numbers, the place of its word, constants -/
abbrev mz_E : Type := Nat × Instr × Nat × Nat × Nat × Int32 × Int64
def mz_rf (ad : Nat → Nat → Nat) (k : Option (Nat × Nat)) : Value := va_rf (k.map fun q => ad q.1 q.2)
def mz_cv (ad : Nat → Nat → Nat) (v : mz_V) : Value := match v with
  | .inl x => .int x
  | .inr (.inl y) => .long y
  | .inr (.inr k) => mz_rf ad k
def mz_cat (v : mz_V) : Nat := match v with
  | .inr (.inl _) => 2
  | _ => 1
theorem mz_cv_cat (ad : Nat → Nat → Nat) (v : mz_V) : (mz_cv ad v).category = mz_cat v := by
  rcases v with x | y | (_ | k) <;> rfl
def mz_s0 : List (Nat × Nat) := [(0, 11), (2, 900), (0, 5), (3, 29), (0, 8), (1, 4), (1, 4), (3, 240), (4, 3), (0, 3), (1, 3), (1, 3), (1, 6), (1, 5), (1, 6), (1, 6)]
def mz_s1 : List (Nat × Nat) := [(0, 6), (0, 4), (3, 6), (1, 6), (1, 6), (1, 6), (1, 6), (1, 6), (1, 6), (0, 1), (1, 16), (1, 16), (1, 17), (0, 2), (1, 36), (1, 6), (1, 64), (0, 0), (1, 6), (0, 9), (1, 30), (1, 30), (1, 30), (1, 30), (1, 30), (1, 30), (1, 30)]
def mz_s2 : List (Nat × Nat) := [(0, 12), (1, 3000), (3, 36), (1, 4), (1, 4), (3, 240), (2, 900), (2, 900), (1, 3), (1, 64), (1, 6), (1, 36), (1, 80), (1, 5), (1, 5)]
def mz_s3 : List (Nat × Nat) := [(0, 7), (0, 10), (1, 3)]
/-- what lies at a place: (0, class), or an array of ints 1, bytes 2, longs 3, tables 4, with its length -/
def mz_sh (o : Nat) : Nat × Nat := bif Nat.blt o 100 then mz_s0.getD o (9, 0) else bif Nat.blt o 200 then mz_s1.getD (o - 100) (9, 0) else bif Nat.blt o 300 then mz_s2.getD (o - 200) (9, 0) else mz_s3.getD (o - 300) (9, 0)
def mz_c0 : List (List (Option (Nat × Nat))) := [[some (0, 1), none, some (0, 2), some (0, 4), some (1, 100), some (2, 100), some (0, 8), none, some (0, 9), some (0, 13), none, some (0, 14), some (0, 15)], [], [none, none, none, some (0, 1), none, none, none, none, none, none, some (0, 3)], [], [some (0, 5), some (0, 6), some (0, 7)], [], [], [], [some (3, 100), some (4, 100), some (5, 100)], [none, none, none, none, none, none, none, none, none, some (0, 10), some (0, 11), some (0, 12)]]
def mz_c1 : List (List Nat) := [[101, 109, 113, 117, 119], [0, 0, 0, 102, 103, 104, 105, 106, 107, 108], [], [], [], [], [], [], [], [0, 0, 110, 111, 0, 0, 0, 112], [], [], [], [114, 115, 116], [], [], [], [0, 0, 118], [], [0, 0, 120, 121, 122, 123, 124, 125, 126]]
def mz_c2 : List Nat := [201, 202, 0, 0, 0, 203, 204, 205, 206, 207, 0, 0, 0, 0, 0, 0, 0, 0, 0, 0, 0, 208, 0, 0, 209, 210, 211, 0, 0, 0, 212, 213, 214]
def mz_c3 : List (List (Option (Nat × Nat))) := [[some (0, 2), some (2, 100)], [some (0, 2), some (1, 101), some (2, 119), some (0, 302)]]
def mz_tk (g x : Nat) : Option (Nat × Nat) := bif Nat.beq x 0 then none else some (g, x)
/-- where the references lead: the same in every run -/
def mz_ch (g o j : Nat) : Option (Nat × Nat) := bif Nat.blt o 100 then (mz_c0.getD o []).getD j none else bif Nat.blt o 200 then mz_tk g ((mz_c1.getD (o - 100) []).getD j 0) else bif Nat.blt o 300 then mz_tk g (mz_c2.getD j 0) else (mz_c3.getD (o - 300) []).getD j none
def mz_tb (g : Nat) : Bool := Nat.ble 1 g && Nat.ble g 5
/-- which keys are there: in any world; with a text of a table; of a year -/
def mz_k0 (md g o : Nat) : Bool := bif Nat.blt o 100 then (bif Nat.blt o 16 then Nat.beq g 0 else false) else bif Nat.blt o 200 then (bif Nat.blt o 127 then mz_tb g else false) else bif Nat.blt o 300 then (bif Nat.blt o 215 then Nat.beq g 0 else false) else bif Nat.beq o 300 then (bif Nat.beq md 1 then Nat.beq g 0 else false) else bif Nat.ble o 302 then (bif Nat.beq md 2 then Nat.beq g 0 else false) else false
/-- 8: the reader alone; 9: none is wanted -/
def mz_kz (md g o : Nat) : Bool := match md with
  | 8 => bif Nat.beq o 2 then Nat.beq g 0 else bif Nat.beq o 3 then Nat.beq g 0 else false
  | 9 => false
  | md => mz_k0 md g o
/-- kinds of fields: 0 int, 1 long, 2 a reference, 3 boolean -/
def mz_tt : List (List Nat) := [[0, 0, 2], [0, 0, 2, 2, 0, 0, 0, 2], [2, 2, 2], [0, 0, 0, 0, 0, 3, 3, 0, 0, 2, 2, 2], [0, 0, 0, 2, 2, 2, 2, 2, 2, 2], [0, 0, 0, 2, 0, 0, 0, 0, 0, 1, 2], [2, 2, 2, 2, 2, 0, 0], [2, 2, 3, 3], [2, 2, 2], [3, 0, 2, 2, 2, 2, 2, 2, 2], [2, 2, 2, 2, 0, 0], [2, 0, 2, 2, 2, 2, 2, 0, 2, 2, 3, 2, 2, 0, 1, 1, 0, 0], [2, 2, 0, 1, 1, 2, 2, 2, 2, 2, 0, 0, 0, 0, 0, 0, 0, 0, 0, 0, 0, 2, 0, 0, 2, 2, 2, 0, 0, 0, 2, 2, 2, 3, 0]]
def mz_ty (ci k : Nat) : Nat := (mz_tt.getD ci []).getD k 0
def mz_fv (ad : Nat → Nat → Nat) (D : mz_D) (g o t k : Nat) : Value := match t with
  | 1 => .long (D.2 g o k)
  | 2 => mz_rf ad (mz_ch g o k)
  | _ => .int (D.1 g o k)
def mz_nf (ci : Nat) : Nat := match vwCl[ci]? with
  | some q => q.2.2
  | none => 0
def mz_ce (cA : Nat → ClassId) (ad : Nat → Nat → Nat) (D : mz_D) (g o : Nat) : va_E := match mz_sh o with
  | (0, ci) => .inr (ci, (List.range (mz_nf ci)).map fun k => mz_fv ad D g o (mz_ty ci k) k)
  | (1, n) => .inl (cA 0, n, .inl (D.1 g o))
  | (2, n) => .inl (cA 1, n, .inl (D.1 g o))
  | (3, n) => .inl (cA 2, n, .inr (.inl (D.2 g o)))
  | (_, n) => .inl (cA 3, n, .inr (.inr (.inr (.inr fun j => (mz_ch g o j).map fun q => ad q.1 q.2))))
def mz_wl (cA : Nat → ClassId) (ad : Nat → Nat → Nat) (ks : List (Nat × Nat)) (D : mz_D) : va_W := ks.map fun k => (ad k.1 k.2, mz_ce cA ad D k.1 k.2)
abbrev mz_tys (cA : Nat → ClassId) : List (ClassId × FieldType) := [(cA 0, .int), (cA 1, .byte), (cA 2, .long), (cA 3, .object "LetMe$Table")]
def mz_wi (D : mz_D) (g o j : Nat) (v : Int32) : mz_D := (fun a b c => if b = o ∧ a = g ∧ c = j then v else D.1 a b c, D.2)
def mz_wg (D : mz_D) (g o j : Nat) (v : Int64) : mz_D := (D.1, fun a b c => if b = o ∧ a = g ∧ c = j then v else D.2 a b c)
theorem mz_wl_at {cA : Nat → ClassId} {ad : Nat → Nat → Nat} {ks : List (Nat × Nat)} {D : mz_D} {q g o : Nat} (h : ks[q]? = some (g, o)) : (mz_wl cA ad ks D)[q]? = some (ad g o, mz_ce cA ad D g o) := by
  simp [mz_wl, h]
/-- one cell is written: the world is that of the new memory -/
theorem mz_wl_set {cA : Nat → ClassId} {ad : Nat → Nat → Nat} {ks : List (Nat × Nat)} {D D' : mz_D} {q g o : Nat} {A : Nat → Prop} {e : va_E} (hD : va_D A (mz_wl cA ad ks D)) (h : ks[q]? = some (g, o)) (he : e = mz_ce cA ad D' g o) (hne : ∀ a b, ¬ (a = g ∧ b = o) → mz_ce cA ad D' a b = mz_ce cA ad D a b) : (mz_wl cA ad ks D).set q (ad g o, e) = mz_wl cA ad ks D' := by
  subst he
  apply List.ext_getElem?
  intro i
  by_cases hi : q = i
  · subst hi
    have hl : q < (mz_wl cA ad ks D).length := (List.getElem?_eq_some_iff.mp (mz_wl_at (cA := cA) (ad := ad) (D := D) h)).1
    rw [List.getElem?_set_self hl, mz_wl_at h]
  · rw [List.getElem?_set_ne hi]
    cases hk : ks[i]? with
    | none => simp [mz_wl, hk]
    | some k =>
      obtain ⟨a, b⟩ := k
      rw [mz_wl_at hk, mz_wl_at hk, hne a b]
      rintro ⟨rfl, rfl⟩
      exact hi (hD.1 q i _ _ (mz_wl_at h) (mz_wl_at hk) rfl)
/-! locals -/
def mz_lm (ad : Nat → Nat → Nat) : Nat → mz_L → List (Nat × Value)
  | _, [] => []
  | i, none :: L => mz_lm ad (i + 1) L
  | i, some v :: L => (i, mz_cv ad v) :: mz_lm ad (i + 1) L
theorem mz_lm_iff {ad : Nat → Nat → Nat} : ∀ {L : mz_L} {i : Nat} {q : Nat × Value}, q ∈ mz_lm ad i L ↔ ∃ (j : Nat) (v : mz_V), L[j]? = some (some v) ∧ q = (i + j, mz_cv ad v)
  | [], i, q => by simp [mz_lm]
  | none :: L, i, q => by
    rw [mz_lm, mz_lm_iff]
    constructor
    · rintro ⟨j, v, h, rfl⟩
      exact ⟨j + 1, v, by simpa using h, by rw [Nat.add_right_comm, Nat.add_assoc]⟩
    · rintro ⟨j, v, h, rfl⟩
      cases j with
      | zero => simp at h
      | succ j => exact ⟨j, v, by simpa using h, by rw [Nat.add_right_comm, Nat.add_assoc]⟩
  | some u :: L, i, q => by
    rw [mz_lm, List.mem_cons, mz_lm_iff]
    constructor
    · rintro (rfl | ⟨j, v, h, rfl⟩)
      · exact ⟨0, u, rfl, rfl⟩
      · exact ⟨j + 1, v, by simpa using h, by rw [Nat.add_right_comm, Nat.add_assoc]⟩
    · rintro ⟨j, v, h, rfl⟩
      cases j with
      | zero =>
        simp at h
        exact Or.inl (by rw [h]; rfl)
      | succ j => exact Or.inr ⟨j, v, by simpa using h, by rw [Nat.add_right_comm, Nat.add_assoc]⟩
theorem mz_has_mono {ls : Array Slot} {n : Nat} {l1 l2 : List (Nat × Value)} (h : lv_has ls n l1) (hs : ∀ q ∈ l2, q ∈ l1) : lv_has ls n l2 := ⟨h.1, h.2.1, fun q hq => h.2.2 q (hs q hq)⟩
theorem mz_has_at {ad : Nat → Nat → Nat} {ls : Array Slot} {n i : Nat} {L : mz_L} {v : mz_V} (h : lv_has ls n (mz_lm ad 0 L)) (hi : L[i]? = some (some v)) : ls[i]? = some (.val (mz_cv ad v)) :=
  h.2.2 (i, mz_cv ad v) (mz_lm_iff.mpr ⟨i, v, hi, by rw [Nat.zero_add]⟩)
def mz_long (v : Option (Option mz_V)) : Bool := match v with
  | some (some (.inr (.inl _))) => true
  | _ => false
def mz_clr (L : mz_L) (i : Nat) : mz_L := bif mz_long L[i - 1]? then L.set (i - 1) none else L
def mz_st1 (L : mz_L) (i : Nat) (v : mz_V) : mz_L := (bif Nat.beq i 0 then L else mz_clr L i).set i (some v)
def mz_st2 (L : mz_L) (i : Nat) (v : mz_V) : mz_L := ((bif Nat.beq i 0 then L else mz_clr L i).set (i + 1) none).set i (some v)
theorem mz_clr_at {L : mz_L} {i j : Nat} {u : mz_V} (hj : j ≠ i) (h : (bif Nat.beq i 0 then L else mz_clr L i)[j]? = some (some u)) : L[j]? = some (some u) ∧ ¬ (j + 1 = i ∧ mz_cat u = 2) := by
  by_cases hi : i = 0
  · subst hi
    exact ⟨h, fun q => by omega⟩
  · have hb : Nat.beq i 0 = false := by cases i with | zero => exact absurd rfl hi | succ i => rfl
    rw [hb] at h
    simp only [cond_false, mz_clr] at h
    cases hl : mz_long L[i - 1]? with
    | false =>
      rw [hl, cond_false] at h
      refine ⟨h, ?_⟩
      rintro ⟨rfl, hc⟩
      rw [Nat.add_sub_cancel, h] at hl
      rcases u with x | y | k
      · cases hc
      · cases hl
      · cases hc
    | true =>
      rw [hl, cond_true] at h
      by_cases hji : i - 1 = j
      · subst hji
        by_cases hlt : i - 1 < L.length
        · rw [List.getElem?_set_self hlt] at h
          cases h
        · rw [List.getElem?_eq_none (by simp; omega)] at h
          cases h
      · rw [List.getElem?_set_ne hji] at h
        exact ⟨h, fun q => hji (by omega)⟩
theorem mz_st1_sub {ad : Nat → Nat → Nat} {L : mz_L} {i : Nat} {v : mz_V} : ∀ q ∈ mz_lm ad 0 (mz_st1 L i v), q ∈ (i, mz_cv ad v) :: (mz_lm ad 0 L).filter (fun q => !(q.1 == i) && !(q.1 + 1 == i && q.2.category == 2)) := by
  intro q hq
  obtain ⟨j, u, h, rfl⟩ := mz_lm_iff.mp hq
  rw [Nat.zero_add]
  by_cases hj : j = i
  · subst hj
    rw [mz_st1] at h
    by_cases hlt : j < (bif Nat.beq j 0 then L else mz_clr L j).length
    · rw [List.getElem?_set_self hlt] at h
      cases h
      exact List.mem_cons_self
    · rw [List.getElem?_eq_none (by simp; omega)] at h
      cases h
  · rw [mz_st1, List.getElem?_set_ne (fun e => hj e.symm)] at h
    obtain ⟨h1, h2⟩ := mz_clr_at hj h
    refine List.mem_cons_of_mem _ (List.mem_filter.mpr ⟨mz_lm_iff.mpr ⟨j, u, h1, by rw [Nat.zero_add]⟩, ?_⟩)
    simp only [mz_cv_cat]
    simp [hj]
    exact Decidable.not_and_iff_not_or_not.mp h2
theorem mz_st2_sub {ad : Nat → Nat → Nat} {L : mz_L} {i : Nat} {v : mz_V} : ∀ q ∈ mz_lm ad 0 (mz_st2 L i v), q ∈ (i, mz_cv ad v) :: (mz_lm ad 0 L).filter (fun q => !(q.1 == i) && (!(q.1 == i + 1) && !(q.1 + 1 == i && q.2.category == 2))) := by
  intro q hq
  obtain ⟨j, u, h, rfl⟩ := mz_lm_iff.mp hq
  rw [Nat.zero_add]
  by_cases hj : j = i
  · subst hj
    rw [mz_st2] at h
    by_cases hlt : j < ((bif Nat.beq j 0 then L else mz_clr L j).set (j + 1) none).length
    · rw [List.getElem?_set_self hlt] at h
      cases h
      exact List.mem_cons_self
    · rw [List.getElem?_eq_none (by simp at hlt ⊢; omega)] at h
      cases h
  · rw [mz_st2, List.getElem?_set_ne (fun e => hj e.symm)] at h
    by_cases hj1 : i + 1 = j
    · subst hj1
      by_cases hlt : i + 1 < (bif Nat.beq i 0 then L else mz_clr L i).length
      · rw [List.getElem?_set_self hlt] at h
        cases h
      · rw [List.getElem?_eq_none (by simp; omega)] at h
        cases h
    · rw [List.getElem?_set_ne hj1] at h
      obtain ⟨h1, h2⟩ := mz_clr_at hj h
      refine List.mem_cons_of_mem _ (List.mem_filter.mpr ⟨mz_lm_iff.mpr ⟨j, u, h1, by rw [Nat.zero_add]⟩, ?_⟩)
      simp only [mz_cv_cat]
      simp [hj, Ne.symm hj1]
      exact Decidable.not_and_iff_not_or_not.mp h2
/-! guards -/
def mz_ix (i : Int32) (n : Nat) : Bool := decide (0 ≤ i) && decide (i.toNatClampNeg < n)
def mz_nz (y : Int32) : Bool := !decide (y = 0)
def mz_nzl (y : Int64) : Bool := !decide (y = 0)
def mz_bo (v : Int32) : Bool := decide (v = 0) || decide (v = 1)
theorem mz_ix_in {i : Int32} {n : Nat} (h : mz_ix i n = true) : vp_in i n := by
  simp only [mz_ix, Bool.and_eq_true, decide_eq_true_eq] at h
  rintro (h1 | h1)
  · exact absurd h.1 (Int32.not_le.mpr h1)
  · omega
def mz_all : List Bool → Prop
  | [] => True
  | b :: bs => b = true ∧ mz_all bs
theorem mz_all_app : ∀ {a b : List Bool}, mz_all (a ++ b) → mz_all a ∧ mz_all b
  | [], _, h => ⟨trivial, h⟩
  | _ :: _, _, h => ⟨⟨h.1, (mz_all_app h.2).1⟩, (mz_all_app h.2).2⟩
