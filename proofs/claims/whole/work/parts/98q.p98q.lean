/-! ===== texts: how a step begins ===== -/
def obR (C M : mz_D) (c : Nat → Nat) : List (Nat × Bool) → Prop
  | [] => True
  | (o, _) :: r => M.1 0 208 r.length = nI o ∧ C.1 0 302 r.length = nI (c o) ∧ c o < 30 ∧ obR C M c r
theorem obR.up {C M C' M' : mz_D} {c c' : Nat → Nat} : ∀ ob, obR C M c ob → (∀ j, j < ob.length → M'.1 0 208 j = M.1 0 208 j ∧ C'.1 0 302 j = C.1 0 302 j) → (∀ o b, (o, b) ∈ ob → c' o = c o) → obR C' M' c' ob := by
  intro ob
  induction ob with
  | nil => intro _ _ _; trivial
  | cons x r ih =>
    obtain ⟨o, b⟩ := x
    intro h hj hc
    obtain ⟨h1, h2, h3, h4⟩ := h
    have hl : r.length < ((o, b) :: r).length := Nat.lt_succ_self _
    have ho := hc o b List.mem_cons_self
    exact ⟨by rw [(hj _ hl).1, h1], by rw [(hj _ hl).2, ho, h2], by rw [ho]; exact h3, ih h4 (fun j q => hj j (Nat.lt_trans q hl)) (fun o b q => hc o b (List.mem_cons_of_mem _ q))⟩
theorem skR.lt {N : Nat} {a : Nat → Nat → Int32} {c : Nat → Nat} {enc : Nat → List Nat} : ∀ ob, skR N a c enc ob → ∀ o b, (o, b) ∈ ob → o < N := by
  intro ob
  induction ob with
  | nil => intro _ o b h; exact absurd h List.not_mem_nil
  | cons x r ih =>
    obtain ⟨q, d⟩ := x
    intro h o b hm
    rcases List.mem_cons.mp hm with y | y
    · cases y
      exact h.1
    · exact ih h.2.2.2.2 o b y
/-- a year that is being read, but for the reader -/
def yw (m N S : Nat) (C M : mz_D) (c e : Nat → Nat) (enc : Nat → List Nat) (ob : List (Nat × Bool)) : Prop :=
  pl 1 0 m C M ∧ M.1 0 201 0 = nI m ∧ C.1 2 119 1 = nI S ∧ M.1 0 201 2009 = nI N ∧ M.1 0 200 23 = nI S ∧ C.1 0 301 4 = nI ob.length ∧ M.1 0 200 22 = nI ob.length ∧ obR C M c ob ∧ yP m N S (fun o k => C.1 2 o k) (fun k i => M.1 0 201 (2130 + 6 * k + i)) c e enc ob
theorem yw.fr {m N S : Nat} {C M C' M' : mz_D} {c e : Nat → Nat} {enc : Nat → List Nat} {ob : List (Nat × Bool)} (h : yw m N S C M c e enc ob) (hc : aC C C') (hm : aM M M') : yw m N S C' M' c e enc ob := by
  obtain ⟨h1, h2, h3, h4, h5, h6, h7, h8, h9⟩ := h
  refine ⟨h1.fr (hc _ _ _ (by omega)).1 (fun p _ => (hc _ _ _ (by omega)).2) (fun p _ => (hm _ _ _ (by omega)).2), by rw [(hm _ _ _ (by omega)).1, h2], by rw [(hc _ _ _ (by omega)).1, h3], by rw [(hm _ _ _ (by omega)).1, h4], by rw [(hm _ _ _ (by omega)).1, h5], by rw [(hc _ _ _ (by omega)).1, h6], by rw [(hm _ _ _ (by omega)).1, h7], h8.up ob (fun j _ => ⟨(hm _ _ _ (by omega)).1, (hc _ _ _ (by omega)).1⟩) (fun _ _ _ => rfl), ?_⟩
  rw [show (fun o k => C'.1 2 o k) = (fun o k => C.1 2 o k) from by funext o k; exact (hc _ _ _ (by omega)).1, show (fun k i => M'.1 0 201 (2130 + 6 * k + i)) = (fun k i => M.1 0 201 (2130 + 6 * k + i)) from by funext k i; exact (hm _ _ _ (by omega)).1]
  exact h9
/-- the reference: a row of noughts -/
theorem z159 {n k N r : Nat} {x1 x4 : Int32} {D : mz_D} (hk : k < 6) (hr : r < 2900) : fX12_yearStep_159 (n + 1) x1 (nI N) (nI r) x4 (nI k) D = fX12_yearStep_159 n x1 (nI N) (nI r) x4 (nI (k + 1)) (mz_wi D 0 201 (r + k) 0) := by
  rw [fX12_yearStep_159]
  dsimp only
  rw [if_neg (by show ¬ nI 6 ≤ nI k; rw [nJ_le (by omega) (by omega)]; omega), nI_add, nI_ix (show r + k < 3000 by omega) (by omega), gd_tt, nI_cl (by omega), a1r]
def restM (x1 x4 : Int32) (N r : Nat) (q : mz_D) : Option (Int32 × mz_D) := (Option.bind (fX12_yearOrder x1 (nI r) q) fun q3 => (if q3.1 = 0 then (some ((0 : Int32), q3.2)) else (if x4 = 0 then (fX12_yearStep_234 x1 (nI N) (nI r) q3.2) else (mz_gd (mz_ix (q3.2.1 0 200 22) 3) (fX12_yearStep_234 x1 (nI N) (nI r) (mz_wi (mz_wi q3.2 0 208 ((q3.2.1 0 200 22)).toNatClampNeg (nI N)) 0 200 22 ((q3.2.1 0 200 22) + (1 : Int32))))))))
theorem hdM {N r : Nat} {x1 x4 s0 s1 : Int32} {M : mz_D} (h9 : M.1 0 201 2009 = nI N) (hr : 2130 ≤ r) (hr2 : r < 2900) : ∃ Mz, fX12_yearStep_145 x1 (nI N) (nI r) x4 s0 s1 M = (Option.bind (fX12_ahead Mz) fun q2 => restM x1 x4 N r q2) ∧ Mz.1 0 200 23 = s1 + s0 ∧ Mz.1 0 201 r = x1 ∧ (∀ i, 1 ≤ i → i ≤ 5 → Mz.1 0 201 (r + i) = 0) ∧ Mz.1 0 201 2009 = nI (N + 1) ∧ (∀ g o j, ¬ (g = 0 ∧ ((o = 200 ∧ j = 23) ∨ (o = 201 ∧ ((r ≤ j ∧ j ≤ r + 5) ∨ j = 2009)))) → Mz.1 g o j = M.1 g o j) ∧ Mz.2 = M.2 := by
  obtain ⟨n, hn⟩ : ∃ n, mz_N = n + 6 := ⟨999994, rfl⟩
  refine ⟨mz_wi (mz_wi (mz_wi (mz_wi (mz_wi (mz_wi (mz_wi (mz_wi M 0 200 23 (s1 + s0)) 0 201 r x1) 0 201 (r + 1) 0) 0 201 (r + 2) 0) 0 201 (r + 3) 0) 0 201 (r + 4) 0) 0 201 (r + 5) 0) 0 201 2009 (nI (N + 1)), ?_, ?_, ?_, fun i h1 h2 => ?_, wi_s _ _ _ _ _, fun g o j hn => ?_, rfl⟩
  · unfold fX12_yearStep_145
    rw [nI_ix (show r < 3000 by omega) (by omega), gd_tt, nI_cl (by omega), hn]
    have e1 := z159 (n := n + 5) (k := 1) (N := N) (r := r) (x1 := x1) (x4 := x4) (D := mz_wi (mz_wi M 0 200 23 (s1 + s0)) 0 201 r x1) (by omega) hr2
    have e1 : fX12_yearStep_159 (n + 6) x1 (nI N) (nI r) x4 (1 : Int32) (mz_wi (mz_wi M 0 200 23 (s1 + s0)) 0 201 r x1) = _ := e1
    rw [e1, z159 (by omega) hr2, z159 (by omega) hr2, z159 (by omega) hr2, z159 (by omega) hr2, fX12_yearStep_159]
    dsimp only
    rw [if_pos (by decide), t2009, wi_n (by omega), wi_n (by omega), wi_n (by omega), wi_n (by omega), wi_n (by omega), wi_n (by omega), wi_n (by omega), h9, a1r]
    rfl
  · simp (disch := omega) only [wi_s, wi_n]
  · simp (disch := omega) only [wi_s, wi_n]
  · have : i = 1 ∨ i = 2 ∨ i = 3 ∨ i = 4 ∨ i = 5 := by omega
    rcases this with rfl | rfl | rfl | rfl | rfl <;> simp (disch := omega) only [wi_s, wi_n]
  · simp (disch := omega) only [wi_n]
/-- the class: a step begins -/
theorem hdC {S dp : Nat} {C : mz_D} (cS : C.1 2 119 1 = nI S) (hS : S < 30) (cd : C.1 0 301 4 = nI dp) (hw : ¬ fX10_isWork (C.1 0 2 2) = 0) (hb : (C.1 0 2 2 = 24 ∨ C.1 0 2 2 = 26) → dp < 3) : ∃ Cz, fX10_beginsStep C = (Option.bind (fX5_advance Cz) fun q1 => (some ((1 : Int32), q1))) ∧ Cz.1 2 120 S = C.1 0 2 2 ∧ Cz.1 2 122 S = -1 ∧ Cz.1 2 119 1 = nI (S + 1) ∧ Cz.1 0 301 5 = nI S ∧ (∀ g o j, ¬ ((g = 2 ∧ ((120 ≤ o ∧ o ≤ 126 ∧ j = S) ∨ (o = 119 ∧ j = 1))) ∨ (g = 0 ∧ ((o = 301 ∧ (j = 4 ∨ j = 5)) ∨ (o = 302 ∧ j = dp)))) → Cz.1 g o j = C.1 g o j) ∧ Cz.2 = C.2 ∧ (((C.1 0 2 2 = 24 ∨ C.1 0 2 2 = 26) ∧ Cz.1 0 301 4 = nI (dp + 1) ∧ Cz.1 0 302 dp = nI S) ∨ (¬ (C.1 0 2 2 = 24 ∨ C.1 0 2 2 = 26) ∧ Cz.1 0 301 4 = nI dp)) := by
  have A : fX9_add 2 (C.1 0 2 2) C = some (nI S, mz_wi (mz_wi (mz_wi (mz_wi (mz_wi (mz_wi (mz_wi (mz_wi C 2 120 S (C.1 0 2 2)) 2 121 S (-1)) 2 122 S (-1)) 2 123 S (-1)) 2 124 S 0) 2 125 S 0) 2 126 S (nI (S + 1))) 2 119 1 (nI (S + 1))) := by
    unfold fX9_add
    rw [cS, nI_ix hS (by omega), gd_tt, nI_cl (by omega), a1r]
  have n30 : nI S < (30 : Int32) := by show nI S < nI 30; rw [nJ_lt (by omega) (by omega)]; exact hS
  by_cases q : C.1 0 2 2 = 24 ∨ C.1 0 2 2 = 26
  · have d3 := hb q
    refine ⟨mz_wi (mz_wi (mz_wi (mz_wi (mz_wi (mz_wi (mz_wi (mz_wi (mz_wi (mz_wi (mz_wi C 2 120 S (C.1 0 2 2)) 2 121 S (-1)) 2 122 S (-1)) 2 123 S (-1)) 2 124 S 0) 2 125 S 0) 2 126 S (nI (S + 1))) 2 119 1 (nI (S + 1))) 0 301 5 (nI S)) 0 302 dp (nI S)) 0 301 4 (nI (dp + 1)), ?_, ?_, ?_, ?_, ?_, fun g o j hn => ?_, rfl, Or.inl ⟨q, ?_, ?_⟩⟩
    · have B : fX10_beginsStep_63 (C.1 0 2 2) 1 C = (Option.bind (fX5_advance (mz_wi (mz_wi (mz_wi (mz_wi (mz_wi (mz_wi (mz_wi (mz_wi (mz_wi (mz_wi (mz_wi C 2 120 S (C.1 0 2 2)) 2 121 S (-1)) 2 122 S (-1)) 2 123 S (-1)) 2 124 S 0) 2 125 S 0) 2 126 S (nI (S + 1))) 2 119 1 (nI (S + 1))) 0 301 5 (nI S)) 0 302 dp (nI S)) 0 301 4 (nI (dp + 1)))) fun q1 => (some ((1 : Int32), q1))) := by
        unfold fX10_beginsStep_63 fX10_beginsStep_86 fX10_beginsStep_125
        rw [if_neg one_ne, cd, if_pos (by show nI dp < nI 3; rw [nJ_lt (by omega) (by omega)]; exact d3), A, Option.bind_some, if_neg one_ne]
        have c4 : (mz_wi (mz_wi (mz_wi (mz_wi (mz_wi (mz_wi (mz_wi (mz_wi C 2 120 S (C.1 0 2 2)) 2 121 S (-1)) 2 122 S (-1)) 2 123 S (-1)) 2 124 S 0) 2 125 S 0) 2 126 S (nI (S + 1))) 2 119 1 (nI (S + 1))).1 0 301 4 = nI dp := by
          simp (disch := omega) only [wi_n]
          exact cd
        rw [c4, nI_ix d3 (by omega), gd_tt, nI_cl (by omega), a1r]
      unfold fX10_beginsStep fX10_beginsStep_58
      rw [if_neg hw, cS, if_pos n30, B]
      rcases q with q | q
      · rw [if_pos q]
      · rw [if_neg (by rw [q]; decide), if_pos q]
    · simp (disch := omega) only [wi_s, wi_n]
    · simp (disch := omega) only [wi_s, wi_n]
    · simp (disch := omega) only [wi_s, wi_n]
    · simp (disch := omega) only [wi_s, wi_n]
    · simp (disch := omega) only [wi_n]
    · simp (disch := omega) only [wi_s]
    · simp (disch := omega) only [wi_s, wi_n]
  · refine ⟨mz_wi (mz_wi (mz_wi (mz_wi (mz_wi (mz_wi (mz_wi (mz_wi (mz_wi C 2 120 S (C.1 0 2 2)) 2 121 S (-1)) 2 122 S (-1)) 2 123 S (-1)) 2 124 S 0) 2 125 S 0) 2 126 S (nI (S + 1))) 2 119 1 (nI (S + 1))) 0 301 5 (nI S), ?_, ?_, ?_, ?_, wi_s _ _ _ _ _, fun g o j hn => ?_, rfl, Or.inr ⟨q, ?_⟩⟩
    · unfold fX10_beginsStep fX10_beginsStep_63 fX10_beginsStep_86 fX10_beginsStep_125
      rw [if_neg hw, cS, if_pos n30, if_neg (fun z => q (Or.inl z)), if_neg (fun z => q (Or.inr z)), if_pos rfl, A, Option.bind_some, if_pos rfl]
    · simp (disch := omega) only [wi_s, wi_n]
    · simp (disch := omega) only [wi_s, wi_n]
    · simp (disch := omega) only [wi_s, wi_n]
    · simp (disch := omega) only [wi_n]
    · simp (disch := omega) only [wi_n]
      exact cd
theorem semY {L s : Nat} {C M : mz_D} (h : rdR L s C M) (x2 : Int32) : (∃ s' C' M', s < s' ∧ (∀ K : Int32 → Int32 → mz_D → Option (Int32 × mz_D), fX10_isTaken_80 K x2 1 C = K 1 (x2 + 1) C') ∧ fX12_yearStep_291 M = some (1, M') ∧ rdR L s' C' M' ∧ aC C C' ∧ aM M M') ∨ (∃ C' M', (∀ K : Int32 → Int32 → mz_D → Option (Int32 × mz_D), fX10_isTaken_80 K x2 1 C = K 0 (x2 + 1) C') ∧ fX12_yearStep_291 M = some (0, M') ∧ fl C' M' ∧ aC C C' ∧ aM M M') := by
  unfold fX12_yearStep_291
  rcases sSem h with ⟨s', C', M', l, e1, e2, e3, e4, e5⟩ | ⟨C', M', e1, e2, e3, e4, e5⟩
  · refine Or.inl ⟨s', C', M', l, fun K => ?_, by rw [e2]; rfl, e3, e4, e5⟩
    unfold fX10_isTaken_80
    rw [if_neg one_ne, e1, Option.bind_some, if_neg one_ne]
  · refine Or.inr ⟨C', M', fun K => ?_, by rw [e2]; rfl, e3, e4, e5⟩
    unfold fX10_isTaken_80 fX10_isTaken_99
    rw [if_neg one_ne, e1, Option.bind_some, if_pos rfl]
