/-! ===== texts: a year, row by row: what is known on the way ===== -/
def lo : List (Nat × Bool) → List Nat
  | [] => []
  | (o, true) :: r => o :: lo r
  | (_, false) :: r => lo r
theorem lo_len : ∀ ob, (lo ob).length ≤ ob.length := by
  intro ob
  induction ob with
  | nil => exact Nat.le_refl _
  | cons x r ih =>
    obtain ⟨o, b⟩ := x
    cases b with
    | true =>
      show (lo r).length + 1 ≤ r.length + 1
      omega
    | false =>
      show (lo r).length ≤ r.length + 1
      omega
theorem lo_mem : ∀ ob o, o ∈ lo ob → (o, true) ∈ ob := by
  intro ob
  induction ob with
  | nil => intro o h; exact absurd h List.not_mem_nil
  | cons x r ih =>
    intro o h
    obtain ⟨q, b⟩ := x
    cases b with
    | true =>
      have h : o ∈ q :: lo r := h
      rcases List.mem_cons.mp h with h | h
      · rw [h]; exact List.mem_cons_self
      · exact List.mem_cons_of_mem _ (ih o h)
    | false => exact List.mem_cons_of_mem _ (ih o h)
theorem lo_mem2 : ∀ ob o, (o, true) ∈ ob → o ∈ lo ob := by
  intro ob
  induction ob with
  | nil => intro o h; exact absurd h List.not_mem_nil
  | cons x r ih =>
    intro o h
    obtain ⟨q, b⟩ := x
    rcases List.mem_cons.mp h with y | y
    · cases y
      exact List.mem_cons_self
    · cases b with
      | true => exact List.mem_cons_of_mem _ (ih o y)
      | false => exact ih o y
def skR (N : Nat) (a : Nat → Nat → Int32) (c : Nat → Nat) (enc : Nat → List Nat) : List (Nat × Bool) → Prop
  | [] => True
  | (o, b) :: r => o < N ∧ enc o = lo r ∧ c (o + 1) = c o + 1 ∧ (b = true ↔ a o 0 = 25) ∧ skR N a c enc r
theorem skR.up {N N' : Nat} {a a' : Nat → Nat → Int32} {c c' : Nat → Nat} {enc enc' : Nat → List Nat} (hN : N ≤ N') (hc : ∀ j, j ≤ N → c' j = c j) (he : ∀ j, j < N → enc' j = enc j) (ha : ∀ j, j < N → a' j 0 = a j 0) : ∀ ob, skR N a c enc ob → skR N' a' c' enc' ob := by
  intro ob
  induction ob with
  | nil => intro _; trivial
  | cons x r ih =>
    obtain ⟨o, b⟩ := x
    intro h
    obtain ⟨h1, h2, h3, h4, h5⟩ := h
    exact ⟨by omega, by rw [he o h1, h2], by rw [hc _ (by omega), hc _ (by omega), h3], by rw [ha o h1]; exact h4, ih h5⟩
def rwP (m N : Nat) (w a : Nat → Nat → Int32) (c e : Nat → Nat) (enc : Nat → List Nat) (ob : List (Nat × Bool)) (k : Nat) : Prop :=
  (c (k + 1) = c k + 1 ∧ enc (k + 1) = enc k ∧ yF m (fun o => w o (c k)) (a k)) ∨
  (c (k + 1) = c k + 1 ∧ enc (k + 1) = k :: enc k ∧ a k 0 = 25 ∧ w 120 (c k) = 26 ∧ w 125 (c k) = a k 1 ∧ bd (a k 1) 1 99) ∨
  (c (k + 1) = c k + 1 ∧ enc (k + 1) = enc k ∧ yT m (fun o => w o (c k)) (a k) ∧ ((k, false) ∈ ob ∨ (k < e k ∧ e k < N ∧ a k 4 = nI (e k) ∧ w 126 (c k) = nI (c (e k)) ∧ enc (e k + 1) = enc k ∧ c (e k + 1) = c (e k)))) ∨
  (c (k + 1) = c k ∧ a k 0 = 26 ∧ ∃ o, o < k ∧ a k 4 = nI o ∧ ((a o 0 = 25 ∧ enc k = o :: enc (k + 1) ∧ e o = k ∧ ¬ (o, true) ∈ ob) ∨ (a o 0 ≠ 25 ∧ enc (k + 1) = enc k)))
def yP (m N S : Nat) (w a : Nat → Nat → Int32) (c e : Nat → Nat) (enc : Nat → List Nat) (ob : List (Nat × Bool)) : Prop :=
  N + ob.length ≤ 2 * S ∧ S ≤ 30 ∧ ob.length ≤ 3 ∧ c 0 = 0 ∧ c N = S ∧ enc 0 = [] ∧ enc N = lo ob ∧
  (∀ k, k ≤ N → (enc k).length ≤ 3) ∧
  (∀ i j, i ≤ j → j ≤ N → c i ≤ c j) ∧
  skR N a c enc ob ∧
  (∀ k, k ≤ N → ∀ o ∈ enc k, o < k ∧ a o 0 = 25 ∧ c (o + 1) = c o + 1 ∧ ((o, true) ∈ ob ∨ (k ≤ e o ∧ e o < N ∧ w 126 (c o) = nI (c (e o))))) ∧
  (∀ k, k < N → rwP m N w a c e enc ob k)
theorem yF.cg {m : Nat} {w w' a a' : Nat → Int32} (h : yF m w a) (hw : ∀ o, 120 ≤ o → o ≤ 125 → w' o = w o) (ha : ∀ i, i < 6 → i ≠ 4 → a' i = a i) : yF m w' a' := by
  unfold yF at h ⊢
  rw [hw 120 (by omega) (by omega), hw 122 (by omega) (by omega), hw 123 (by omega) (by omega), hw 125 (by omega) (by omega), ha 0 (by omega) (by omega), ha 1 (by omega) (by omega), ha 2 (by omega) (by omega), ha 3 (by omega) (by omega)]
  exact h
theorem yT.cg {m : Nat} {w w' a a' : Nat → Int32} (h : yT m w a) (hw : ∀ o, 120 ≤ o → o ≤ 125 → w' o = w o) (ha : ∀ i, i < 6 → i ≠ 4 → a' i = a i) : yT m w' a' := by
  unfold yT at h ⊢
  rw [hw 120 (by omega) (by omega), hw 121 (by omega) (by omega), hw 122 (by omega) (by omega), hw 123 (by omega) (by omega), hw 124 (by omega) (by omega), hw 125 (by omega) (by omega), ha 0 (by omega) (by omega), ha 1 (by omega) (by omega), ha 2 (by omega) (by omega), ha 3 (by omega) (by omega), ha 5 (by omega) (by omega)]
  exact h
theorem rwP.up {m N N' S : Nat} {w w' a a' : Nat → Nat → Int32} {c c' e : Nat → Nat} {enc enc' : Nat → List Nat} {ob ob' : List (Nat × Bool)} {k : Nat} (h : rwP m N w a c e enc ob k) (hk : k < N) (hN : N ≤ N') (hc : ∀ j, j ≤ N → c' j = c j) (he : ∀ j, j ≤ N → enc' j = enc j) (hw : ∀ o j, 120 ≤ o → o ≤ 126 → j < S → w' o j = w o j) (hm : ∀ i j, i ≤ j → j ≤ N → c i ≤ c j) (hS : c N = S) (ha : ∀ j i, j < N → i < 6 → a' j i = a j i) (hob : ∀ x, x ∈ ob → x ∈ ob') (hob2 : ∀ o, o < N → (o, true) ∈ ob' → (o, true) ∈ ob) : rwP m N' w' a' c' e enc' ob' k := by
  have m1 := hm (k + 1) N (by omega) (Nat.le_refl _)
  have e1 := hc k (by omega)
  have e2 := hc (k + 1) (by omega)
  have e3 := he k (by omega)
  have e4 := he (k + 1) (by omega)
  unfold rwP at h ⊢
  rw [e1, e2, e3, e4]
  rcases h with ⟨h1, h2, h3⟩ | ⟨h1, h2, h3, h4, h5, h6⟩ | ⟨h1, h2, h3, h4⟩ | ⟨h1, h2, o, h3, h4, h5⟩
  · exact Or.inl ⟨h1, h2, h3.cg (fun o o1 o2 => hw o _ o1 (by omega) (by omega)) (fun i i1 _ => ha k i hk i1)⟩
  · refine Or.inr (Or.inl ⟨h1, h2, ?_, ?_, ?_, ?_⟩)
    · rw [ha k 0 hk (by omega)]; exact h3
    · rw [hw 120 _ (by omega) (by omega) (by omega)]; exact h4
    · rw [hw 125 _ (by omega) (by omega) (by omega), ha k 1 hk (by omega)]; exact h5
    · rw [ha k 1 hk (by omega)]; exact h6
  · refine Or.inr (Or.inr (Or.inl ⟨h1, h2, h3.cg (fun o o1 o2 => hw o _ o1 (by omega) (by omega)) (fun i i1 _ => ha k i hk i1), ?_⟩))
    rcases h4 with h4 | ⟨g1, g2, g3, g4, g5, g6⟩
    · exact Or.inl (hob _ h4)
    · refine Or.inr ⟨g1, by omega, ?_, ?_, ?_, ?_⟩
      · rw [ha k 4 hk (by omega)]; exact g3
      · rw [hw 126 _ (by omega) (by omega) (by omega), hc (e k) (by omega)]; exact g4
      · rw [he _ (by omega)]; exact g5
      · rw [hc _ (by omega), hc _ (by omega)]; exact g6
  · refine Or.inr (Or.inr (Or.inr ⟨h1, ?_, o, h3, ?_, ?_⟩))
    · rw [ha k 0 hk (by omega)]; exact h2
    · rw [ha k 4 hk (by omega)]; exact h4
    · rw [ha o 0 (by omega) (by omega)]
      rcases h5 with ⟨f1, f2, f3, f4⟩ | f
      · exact Or.inl ⟨f1, f2, f3, fun q => f4 (hob2 o (by omega) q)⟩
      · exact Or.inr f
theorem yP.push {m N S : Nat} {w w' a a' : Nat → Nat → Int32} {c e : Nat → Nat} {enc : Nat → List Nat} {ob ob' : List (Nat × Bool)} (h : yP m N S w a c e enc ob) (h30 : S < 30) (hw : ∀ o j, 120 ≤ o → o ≤ 126 → j < S → w' o j = w o j) (ha : ∀ j i, j < N → i < 6 → a' j i = a j i)
    (hx : (ob' = ob ∧ yF m (fun o => w' o S) (a' N)) ∨ (ob' = (N, true) :: ob ∧ ob.length < 3 ∧ a' N 0 = 25 ∧ w' 120 S = 26 ∧ w' 125 S = a' N 1 ∧ bd (a' N 1) 1 99) ∨ (ob' = (N, false) :: ob ∧ ob.length < 3 ∧ a' N 0 ≠ 25 ∧ yT m (fun o => w' o S) (a' N))) : ∃ c' enc', yP m (N + 1) (S + 1) w' a' c' e enc' ob' ∧ c' N = S ∧ ∀ j, j ≤ N → c' j = c j := by
  obtain ⟨h1, h2, h3, h4, h5, h6, h7, h8, h9, h10, h11, h12⟩ := h
  have hc : ∀ j, j ≤ N → (fun k => if k = N + 1 then S + 1 else c k) j = c j := fun j hj => if_neg (by omega)
  have he : ∀ j, j ≤ N → (fun k => if k = N + 1 then lo ob' else enc k) j = enc j := fun j hj => if_neg (by omega)
  have cN : (fun k => if k = N + 1 then S + 1 else c k) (N + 1) = S + 1 := if_pos rfl
  have eN : (fun k => if k = N + 1 then lo ob' else enc k) (N + 1) = lo ob' := if_pos rfl
  generalize (fun k => if k = N + 1 then S + 1 else c k) = c' at hc cN
  generalize (fun k => if k = N + 1 then lo ob' else enc k) = enc' at he eN
  have hob : ∀ x, x ∈ ob → x ∈ ob' := fun x hx' => by
    rcases hx with ⟨q, -⟩ | ⟨q, -⟩ | ⟨q, -⟩
    · rw [q]; exact hx'
    · rw [q]; exact List.mem_cons_of_mem _ hx'
    · rw [q]; exact List.mem_cons_of_mem _ hx'
  have hob2 : ∀ o, o < N → (o, true) ∈ ob' → (o, true) ∈ ob := fun o ho hx' => by
    rcases hx with ⟨q, -⟩ | ⟨q, -⟩ | ⟨q, -⟩
    · rw [q] at hx'; exact hx'
    · rw [q] at hx'
      rcases List.mem_cons.mp hx' with y | y
      · exact absurd (congrArg Prod.fst y) (by show ¬ o = N; omega)
      · exact y
    · rw [q] at hx'
      rcases List.mem_cons.mp hx' with y | y
      · exact absurd (congrArg Prod.fst y) (by show ¬ o = N; omega)
      · exact y
  have hl : ob'.length ≤ ob.length + 1 ∧ ob'.length ≤ 3 := by
    rcases hx with ⟨q, -⟩ | ⟨q, q2, -⟩ | ⟨q, q2, -⟩
    · rw [q]; omega
    · rw [q, List.length_cons]; omega
    · rw [q, List.length_cons]; omega
  have aold : ∀ o, o < N → a' o 0 = a o 0 := fun o ho => ha o 0 ho (by omega)
  have sk : skR (N + 1) a' c' enc' ob := skR.up (by omega) hc (fun j hj => he j (by omega)) aold ob h10
  have cS : ∀ j, j ≤ N → c j ≤ S := fun j hj => by rw [← h5]; exact h9 j N hj (Nat.le_refl _)
  refine ⟨c', enc', ⟨by omega, by omega, hl.2, by rw [hc 0 (by omega), h4], cN, by rw [he 0 (by omega), h6], eN, fun k hk => ?_, fun i j hij hj => ?_, ?_, fun k hk o ho => ?_, fun k hk => ?_⟩, by rw [hc N (Nat.le_refl _), h5], hc⟩
  · by_cases q : k = N + 1
    · rw [q, eN]
      exact Nat.le_trans (lo_len ob') hl.2
    · rw [he k (by omega)]
      exact h8 k (by omega)
  · by_cases q : j = N + 1
    · rw [q, cN]
      by_cases q2 : i = N + 1
      · rw [q2, cN]; exact Nat.le_refl _
      · rw [hc i (by omega)]
        have := cS i (by omega)
        omega
    · rw [hc j (by omega), hc i (by omega)]
      exact h9 i j hij (by omega)
  · rcases hx with ⟨q, -⟩ | ⟨q, -, q2, -⟩ | ⟨q, -, q2, -⟩
    · rw [q]; exact sk
    · rw [q]
      exact ⟨by omega, by rw [he N (Nat.le_refl _), h7], by rw [cN, hc N (Nat.le_refl _), h5], ⟨fun _ => q2, fun _ => rfl⟩, sk⟩
    · rw [q]
      exact ⟨by omega, by rw [he N (Nat.le_refl _), h7], by rw [cN, hc N (Nat.le_refl _), h5], ⟨fun z => absurd z (by decide), fun z => absurd z q2⟩, sk⟩
  · have old : ∀ k, k ≤ N → o ∈ enc k → o < k ∧ a' o 0 = 25 ∧ c' (o + 1) = c' o + 1 ∧ ((o, true) ∈ ob' ∨ (k ≤ e o ∧ e o < N + 1 ∧ w' 126 (c' o) = nI (c' (e o)))) := fun k hk ho => by
      obtain ⟨g1, g2, g3, g4⟩ := h11 k hk o ho
      refine ⟨g1, by rw [aold o (by omega), g2], by rw [hc _ (by omega), hc _ (by omega), g3], ?_⟩
      rcases g4 with g4 | ⟨g4, g5, g6⟩
      · exact Or.inl (hob _ g4)
      · have := cS (o + 1) (by omega)
        exact Or.inr ⟨g4, by omega, by rw [hc o (by omega), hc (e o) (by omega), hw 126 _ (by omega) (by omega) (by omega), g6]⟩
    by_cases q : k = N + 1
    · subst q
      have up : o ∈ lo ob → o < N + 1 ∧ a' o 0 = 25 ∧ c' (o + 1) = c' o + 1 ∧ ((o, true) ∈ ob' ∨ (N + 1 ≤ e o ∧ e o < N + 1 ∧ w' 126 (c' o) = nI (c' (e o)))) := fun z => by
        obtain ⟨g1, g2, g3, -⟩ := old N (Nat.le_refl _) (by rw [h7]; exact z)
        exact ⟨by omega, g2, g3, Or.inl (hob _ (lo_mem ob o z))⟩
      rw [eN] at ho
      rcases hx with ⟨q, -⟩ | ⟨q, -, q2, -⟩ | ⟨q, -, q2, -⟩
      · rw [q] at ho
        exact up ho
      · rw [q] at ho
        have ho : o ∈ N :: lo ob := ho
        rcases List.mem_cons.mp ho with z | z
        · subst z
          exact ⟨by omega, q2, by rw [cN, hc o (Nat.le_refl _), h5], Or.inl (by rw [q]; exact List.mem_cons_self)⟩
        · exact up z
      · rw [q] at ho
        exact up ho
    · rw [he k (by omega)] at ho
      exact old k (by omega) ho
  · by_cases q : k = N
    · subst q
      have s1 : c' k = S := by rw [hc k (Nat.le_refl _), h5]
      have s2 : enc' k = lo ob := by rw [he k (Nat.le_refl _), h7]
      unfold rwP
      rw [cN, eN, s1, s2]
      rcases hx with ⟨q, q2⟩ | ⟨q, q1, q2, q3, q4, q5⟩ | ⟨q, q1, q2, q3⟩
      · rw [q]; exact Or.inl ⟨rfl, rfl, q2⟩
      · rw [q]; exact Or.inr (Or.inl ⟨rfl, rfl, q2, q3, q4, q5⟩)
      · rw [q]; exact Or.inr (Or.inr (Or.inl ⟨rfl, rfl, q3, Or.inl List.mem_cons_self⟩))
    · exact (h12 k (by omega)).up (by omega) (by omega) hc he hw h9 h5 ha hob hob2
theorem yP.close {m N S o : Nat} {b : Bool} {w w' a a' : Nat → Nat → Int32} {c e : Nat → Nat} {enc : Nat → List Nat} {r : List (Nat × Bool)} (h : yP m N S w a c e enc ((o, b) :: r)) (hw : ∀ p j, 120 ≤ p → p ≤ 126 → ¬ (p = 126 ∧ j = c o) → w' p j = w p j) (w6 : w' 126 (c o) = nI S) (ha : ∀ j i, j < N → i < 6 → ¬ (j = o ∧ i = 4) → a' j i = a j i) (a4 : a' o 4 = nI N) (aN0 : a' N 0 = 26) (aN4 : a' N 4 = nI o) : ∃ c' e' enc', yP m (N + 1) S w' a' c' e' enc' r ∧ ∀ j, j ≤ N → c' j = c j := by
  obtain ⟨h1, h2, h3, h4, h5, h6, h7, h8, h9, ⟨k1, k2, k3, k4, k5⟩, h11, h12⟩ := h
  rw [List.length_cons] at h1 h3
  have hc : ∀ j, j ≤ N → (fun k => if k = N + 1 then S else c k) j = c j := fun j hj => if_neg (by omega)
  have he : ∀ j, j ≤ N → (fun k => if k = N + 1 then lo r else enc k) j = enc j := fun j hj => if_neg (by omega)
  have cN : (fun k => if k = N + 1 then S else c k) (N + 1) = S := if_pos rfl
  have eN : (fun k => if k = N + 1 then lo r else enc k) (N + 1) = lo r := if_pos rfl
  have gN : (fun k => if k = o then N else e k) o = N := if_pos rfl
  have ge : ∀ j, j ≠ o → (fun k => if k = o then N else e k) j = e j := fun j hj => if_neg hj
  generalize (fun k => if k = N + 1 then S else c k) = c' at hc cN
  generalize (fun k => if k = N + 1 then lo r else enc k) = enc' at he eN
  generalize (fun k => if k = o then N else e k) = e' at gN ge
  have aold : ∀ j, j < N → a' j 0 = a j 0 := fun j hj => ha j 0 hj (by omega) (by omega)
  have sk : skR (N + 1) a' c' enc' r := skR.up (by omega) hc (fun j hj => he j (by omega)) aold r k5
  have cS : ∀ j, j ≤ N → c j ≤ S := fun j hj => by rw [← h5]; exact h9 j N hj (Nat.le_refl _)
  -- unlike steps of unlike rows
  have cne : ∀ j, j < N → c (j + 1) = c j + 1 → j ≠ o → c j ≠ c o := fun j hj hs hne => by
    by_cases q : j < o
    · have := h9 (j + 1) o (by omega) (by omega)
      omega
    · have := h9 (o + 1) j (by omega) (by omega)
      omega
  refine ⟨c', e', enc', ⟨by omega, h2, by omega, by rw [hc 0 (by omega), h4], cN, by rw [he 0 (by omega), h6], eN, fun k hk => ?_, fun i j hij hj => ?_, sk, fun k hk p hp => ?_, fun k hk => ?_⟩, hc⟩
  · by_cases q : k = N + 1
    · rw [q, eN]
      exact Nat.le_trans (lo_len r) (by omega)
    · rw [he k (by omega)]
      exact h8 k (by omega)
  · by_cases q : j = N + 1
    · rw [q, cN]
      by_cases q2 : i = N + 1
      · rw [q2, cN]; exact Nat.le_refl _
      · rw [hc i (by omega)]
        exact cS i (by omega)
    · rw [hc j (by omega), hc i (by omega)]
      exact h9 i j hij (by omega)
  · by_cases q : k = N + 1
    · subst q
      rw [eN] at hp
      have hm : p ∈ lo ((o, b) :: r) := by
        cases b with
        | true => exact List.mem_cons_of_mem _ hp
        | false => exact hp
      obtain ⟨g1, g2, g3, -⟩ := h11 N (Nat.le_refl _) p (by rw [h7]; exact hm)
      exact ⟨by omega, by rw [aold p (by omega), g2], by rw [hc _ (by omega), hc _ (by omega), g3], Or.inl (lo_mem r p hp)⟩
    · rw [he k (by omega)] at hp
      obtain ⟨g1, g2, g3, g4⟩ := h11 k (by omega) p hp
      refine ⟨g1, by rw [aold p (by omega), g2], by rw [hc _ (by omega), hc _ (by omega), g3], ?_⟩
      by_cases z : p = o
      · subst z
        exact Or.inr ⟨by rw [gN]; omega, by rw [gN]; omega, by rw [gN, hc p (by omega), hc N (Nat.le_refl _), h5, w6]⟩
      · rcases g4 with g4 | ⟨g4, g5, g6⟩
        · rcases List.mem_cons.mp g4 with y | y
          · exact absurd (congrArg Prod.fst y) z
          · exact Or.inl y
        · refine Or.inr ⟨by rw [ge p z]; exact g4, by rw [ge p z]; omega, ?_⟩
          rw [ge p z, hc p (by omega), hc (e p) (by omega), hw 126 _ (by omega) (by omega) (fun y => cne p (by omega) g3 z y.2), g6]
  · by_cases q : k = N
    · subst q
      unfold rwP
      rw [cN, eN, hc k (Nat.le_refl _), he k (Nat.le_refl _), h5, h7]
      refine Or.inr (Or.inr (Or.inr ⟨rfl, aN0, o, k1, aN4, ?_⟩))
      rw [aold o k1]
      cases b with
      | true =>
        refine Or.inl ⟨k4.mp rfl, rfl, gN, fun y => ?_⟩
        have y2 := lo_mem2 r o y
        rw [← k2] at y2
        have := (h11 o (by omega) o y2).1
        omega
      | false => exact Or.inr ⟨fun z => absurd (k4.mpr z) (by decide), rfl⟩
    · have hk : k < N := by omega
      have m1 := h9 (k + 1) N (by omega) (Nat.le_refl _)
      have R := h12 k hk
      unfold rwP at R ⊢
      rw [hc k (by omega), hc (k + 1) (by omega), he k (by omega), he (k + 1) (by omega)]
      rcases R with ⟨g1, g2, g3⟩ | ⟨g1, g2, g3, g4, g5, g6⟩ | ⟨g1, g2, g3, g4⟩ | ⟨g1, g2, p, g3, g4, g5⟩
      · exact Or.inl ⟨g1, g2, g3.cg (fun p o1 o2 => hw p _ o1 (by omega) (by omega)) (fun i i1 i2 => ha k i hk i1 (by omega))⟩
      · refine Or.inr (Or.inl ⟨g1, g2, ?_, ?_, ?_, ?_⟩)
        · rw [ha k 0 hk (by omega) (by omega)]; exact g3
        · rw [hw 120 _ (by omega) (by omega) (by omega)]; exact g4
        · rw [hw 125 _ (by omega) (by omega) (by omega), ha k 1 hk (by omega) (by omega)]; exact g5
        · rw [ha k 1 hk (by omega) (by omega)]; exact g6
      · refine Or.inr (Or.inr (Or.inl ⟨g1, g2, g3.cg (fun p o1 o2 => hw p _ o1 (by omega) (by omega)) (fun i i1 i2 => ha k i hk i1 (by omega)), ?_⟩))
        by_cases z : k = o
        · subst z
          refine Or.inr ⟨by rw [gN]; exact hk, by rw [gN]; omega, by rw [gN]; exact a4, by rw [gN, hc N (Nat.le_refl _), h5, w6], by rw [gN, eN, k2], by rw [gN, cN, hc N (Nat.le_refl _), h5]⟩
        · rcases g4 with g4 | ⟨f1, f2, f3, f4, f5, f6⟩
          · rcases List.mem_cons.mp g4 with y | y
            · exact absurd (congrArg Prod.fst y) z
            · exact Or.inl y
          · refine Or.inr ⟨by rw [ge k z]; exact f1, by rw [ge k z]; omega, ?_, ?_, ?_, ?_⟩
            · rw [ge k z, ha k 4 hk (by omega) (by omega)]; exact f3
            · rw [ge k z, hw 126 _ (by omega) (by omega) (fun y => cne k hk g1 z y.2), hc (e k) (by omega)]; exact f4
            · rw [ge k z, he _ (by omega)]; exact f5
            · rw [ge k z, hc _ (by omega), hc _ (by omega)]; exact f6
      · refine Or.inr (Or.inr (Or.inr ⟨g1, ?_, p, g3, ?_, ?_⟩))
        · rw [ha k 0 hk (by omega) (by omega)]; exact g2
        · by_cases z : k = o
          · exfalso
            subst z
            omega
          · rw [ha k 4 hk (by omega) (by omega)]; exact g4
        · rw [aold p (by omega)]
          rcases g5 with ⟨f1, f2, f3, f4⟩ | f
          · refine Or.inl ⟨f1, f2, ?_, fun y => f4 (List.mem_cons_of_mem _ y)⟩
            by_cases z : p = o
            · exfalso
              subst z
              exact f4 (by rw [k4.mpr f1]; exact List.mem_cons_self)
            · rw [ge p z]; exact f3
          · exact Or.inr f
theorem yP.done {m N S : Nat} {w a : Nat → Nat → Int32} {c e : Nat → Nat} {enc : Nat → List Nat} (h : yP m N S w a c e enc []) : yB m N S w a c e enc := by
  obtain ⟨h1, h2, h3, h4, h5, h6, h7, h8, h9, h10, h11, h12⟩ := h
  refine yB.mk (by omega) h2 h4 h5 h6 h7 h8 (fun k hk o ho => ?_) (fun k hk => ?_)
  · obtain ⟨g1, g2, g3, g4⟩ := h11 k hk o ho
    rcases g4 with g4 | ⟨g4, g5, g6⟩
    · exact absurd g4 List.not_mem_nil
    · exact ⟨g1, g4, g5, g2, g6⟩
  · rcases h12 k hk with g | g | ⟨g1, g2, g3, g4⟩ | g
    · exact Or.inl g
    · exact Or.inr (Or.inl g)
    · rcases g4 with g4 | g4
      · exact absurd g4 List.not_mem_nil
      · exact Or.inr (Or.inr (Or.inl ⟨g1, g2, g3, g4⟩))
    · obtain ⟨g1, g2, o, g3, g4, g5⟩ := g
      refine Or.inr (Or.inr (Or.inr ⟨g1, g2, o, g3, g4, ?_⟩))
      rcases g5 with ⟨f1, f2, f3, -⟩ | f
      · exact Or.inl ⟨f1, f2, f3⟩
      · exact Or.inr f
theorem yP.nil (m : Nat) (w a : Nat → Nat → Int32) : yP m 0 0 w a (fun _ => 0) (fun _ => 0) (fun _ => []) [] :=
  ⟨by decide, by decide, by decide, rfl, rfl, rfl, rfl, fun _ _ => Nat.zero_le 3, fun _ _ _ _ => Nat.le_refl _, trivial, fun _ _ _ ho => absurd ho List.not_mem_nil, fun _ hk => absurd hk (Nat.not_lt_zero _)⟩
