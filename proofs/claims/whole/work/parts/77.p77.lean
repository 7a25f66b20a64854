/-! ===== all owes become what settles: the pure part ===== -/
def sI (f : Nat → Int) : Nat → Int
  | 0 => 0
  | k + 1 => sI f k + f k
theorem sumI {F : Nat → Int32} {B : Int} {M : Nat} (hB : 0 ≤ B) (hF : ∀ k, k < M → -B ≤ (F k).toInt ∧ (F k).toInt ≤ B) (hM : B * M < 2147483648) : ∀ d, d ≤ M → (foldN (fun k a => a + F k) 0 d 0).toInt = sI (fun k => (F k).toInt) d := by
  intro d
  induction d with
  | zero => intro _; rfl
  | succ d ih =>
    intro hd
    have h1 := bd_sum2 hB hF hM d (by omega)
    have h2 := hF d (by omega)
    have h3 : B * ((d + 1 : Nat) : Int) = B * d + B := by rw [Int.natCast_add, Int.mul_add]; omega
    have h4 : B * ((d + 1 : Nat) : Int) ≤ B * M := Int.mul_le_mul_of_nonneg_left (by omega) hB
    rw [foldN_end, Nat.zero_add, i_add (by omega) (by omega), ih (by omega)]
    rfl
theorem tR.bal0 {n g b nb : Nat} {Dc Dm : mz_D} {m d gs ins : Nat} (h : tR n g b nb Dc Dm m d gs ins) : sI (fun p => (sBal g Dc p).toInt) m = 0 := by
  have hm := h.hm
  obtain ⟨x, hx⟩ : ∃ x : Nat → Int, x = fun c => (Dc.1 g 114 c).toInt := ⟨_, rfl⟩
  have hb : ∀ p, p < 6 → (sBal g Dc p).toInt = sI (fun o => x (o * 6 + p) - x (p * 6 + o)) 6 := by
    intro p hp
    have := sumI (F := fun o => Dc.1 g 114 (o * 6 + p) - Dc.1 g 114 (p * 6 + o)) (B := 999999) (M := 6) (by omega) (fun k hk => by
      have h1 := (h.debt (k * 6 + p) (by omega)).2
      have h2 := (h.debt (p * 6 + k) (by omega)).2
      unfold bd at h1 h2
      rw [i_sub (by omega) (by omega)]
      omega) (by omega) 6 (Nat.le_refl _)
    unfold sBal
    rw [this]
    have cg : ∀ k, k ≤ 6 → sI (fun k => (Dc.1 g 114 (k * 6 + p) - Dc.1 g 114 (p * 6 + k)).toInt) k = sI (fun o => x (o * 6 + p) - x (p * 6 + o)) k := by
      intro k
      induction k with
      | zero => intro _; rfl
      | succ k ih =>
        intro hk
        have h1 := (h.debt (k * 6 + p) (by omega)).2
        have h2 := (h.debt (p * 6 + k) (by omega)).2
        unfold bd at h1 h2
        show sI _ k + (Dc.1 g 114 (k * 6 + p) - Dc.1 g 114 (p * 6 + k)).toInt = sI _ k + (x (k * 6 + p) - x (p * 6 + k))
        rw [ih (by omega), i_sub (by omega) (by omega), hx]
    exact cg 6 (Nat.le_refl _)
  have all6 : sI (fun p => (sBal g Dc p).toInt) 6 = 0 := by
    simp only [sI]
    rw [hb 0 (by omega), hb 1 (by omega), hb 2 (by omega), hb 3 (by omega), hb 4 (by omega), hb 5 (by omega)]
    simp only [sI, Nat.zero_mul, Nat.one_mul, Nat.zero_add, Nat.reduceMul, Nat.reduceAdd]
    omega
  have tail : ∀ k, m ≤ k → k ≤ 6 → sI (fun p => (sBal g Dc p).toInt) k = sI (fun p => (sBal g Dc p).toInt) m := by
    intro k
    induction k with
    | zero => intro h1 _; rw [show m = 0 by omega]
    | succ k ih =>
      intro h1 h2
      by_cases e : m = k + 1
      · rw [e]
      · have z : sBal g Dc k = 0 := by
          unfold sBal
          refine foldN_id _ _ _ (fun j s h3 h4 => ?_)
          have z1 := h.nodebt j k (by omega) (by omega) (by omega)
          have z2 := h.nodebt k j (by omega) (by omega) (by omega)
          rw [Nat.mul_comm] at z1 z2
          rw [z1, z2]
          grind
        show sI _ k + (sBal g Dc k).toInt = _
        rw [ih (by omega) (by omega), z]
        show _ + (0 : Int) = _
        omega
  rw [← tail 6 hm (Nat.le_refl _)]
  exact all6
theorem mnW_b {w : Nat → Int32} : ∀ {M p : Nat}, mnW w M = some p → p < M ∧ ∀ i, i < M → (w p).toInt ≤ (w i).toInt := by
  intro M p h
  refine ⟨amx_in M p h, ?_⟩
  induction M generalizing p with
  | zero => intro i hi; omega
  | succ M ih =>
    intro i hi
    unfold mnW at h
    rw [amx_e] at h
    cases hq : amx (fun _ => true) (fun k j => decide (w k < w j)) M with
    | none =>
      rw [hq] at h
      simp only [amS, if_true] at h
      cases h
      by_cases e : i = M
      · rw [e]; exact Int.le_refl _
      · have := amx_none hq i (by omega); cases this
    | some j =>
      rw [hq] at h
      have hj := ih hq
      simp only [amS, Bool.true_and, decide_eq_true_eq] at h
      by_cases c : w M < w j
      · rw [if_pos c] at h
        cases h
        rw [i_lt] at c
        by_cases e : i = M
        · rw [e]; exact Int.le_refl _
        · have := hj i (by omega); omega
      · rw [if_neg c] at h
        cases h
        rw [i_lt] at c
        by_cases e : i = M
        · rw [e]; omega
        · exact hj i (by omega)
theorem mxW_b {w : Nat → Int32} : ∀ {M p : Nat}, mxW w M = some p → p < M ∧ ∀ i, i < M → (w i).toInt ≤ (w p).toInt := by
  intro M p h
  refine ⟨amx_in M p h, ?_⟩
  induction M generalizing p with
  | zero => intro i hi; omega
  | succ M ih =>
    intro i hi
    unfold mxW at h
    rw [amx_e] at h
    cases hq : amx (fun _ => true) (fun k j => decide (w j < w k)) M with
    | none =>
      rw [hq] at h
      simp only [amS, if_true] at h
      cases h
      by_cases e : i = M
      · rw [e]; exact Int.le_refl _
      · have := amx_none hq i (by omega); cases this
    | some j =>
      rw [hq] at h
      have hj := ih hq
      simp only [amS, Bool.true_and, decide_eq_true_eq] at h
      by_cases c : w j < w M
      · rw [if_pos c] at h
        cases h
        rw [i_lt] at c
        by_cases e : i = M
        · rw [e]; exact Int.le_refl _
        · have := hj i (by omega); omega
      · rw [if_neg c] at h
        cases h
        rw [i_lt] at c
        by_cases e : i = M
        · rw [e]; omega
        · exact hj i (by omega)
theorem mn_some {w : Nat → Int32} {m : Nat} (h : 0 < m) : ∃ p, mnW w m = some p := by
  cases hq : mnW w m with
  | none => have := amx_none hq 0 h; cases this
  | some p => exact ⟨p, rfl⟩
theorem mx_some {w : Nat → Int32} {m : Nat} (h : 0 < m) : ∃ p, mxW w m = some p := by
  cases hq : mxW w m with
  | none => have := amx_none hq 0 h; cases this
  | some p => exact ⟨p, rfl⟩
def smp (w : Nat → Int32) (m : Nat) : Nat := (mnW w m).getD 0
def smr (w : Nat → Int32) (m : Nat) : Nat := (mxW w m).getD 0
def smu (w : Nat → Int32) (m : Nat) : Int32 := fJ9_min_7cf53 (-(w (smp w m))) (w (smr w m))
def smw (w : Nat → Int32) (m : Nat) : Nat → Int32 := up (up w (smp w m) (w (smp w m) + smu w m)) (smr w m) (up w (smp w m) (w (smp w m) + smu w m) (smr w m) - smu w m)
def smf (w f : Nat → Int32) (m : Nat) : Nat → Int32 := up f (smp w m * 6 + smr w m) (smu w m)
def goodW (w : Nat → Int32) (m : Nat) : Prop := (∀ i, i < m → -5999994 ≤ (w i).toInt ∧ (w i).toInt ≤ 5999994) ∧ sI (fun i => (w i).toInt) m = 0
def nzc (w : Nat → Int32) : Nat → Nat
  | 0 => 0
  | k + 1 => nzc w k + (if w k = 0 then 0 else 1)
theorem sI_nn {f : Nat → Int} : ∀ {m : Nat}, (∀ i, i < m → 0 ≤ f i) → 0 ≤ sI f m ∧ ∀ i, i < m → f i ≤ sI f m := by
  intro m
  induction m with
  | zero => intro _; exact ⟨Int.le_refl _, fun i hi => by omega⟩
  | succ m ih =>
    intro h
    obtain ⟨a, b⟩ := ih (fun i hi => h i (by omega))
    have := h m (by omega)
    show 0 ≤ sI f m + f m ∧ ∀ i, i < m + 1 → f i ≤ sI f m + f m
    refine ⟨by omega, fun i hi => ?_⟩
    by_cases e : i = m
    · rw [e]; omega
    · have := b i (by omega); omega
theorem sI_np {f : Nat → Int} : ∀ {m : Nat}, (∀ i, i < m → f i ≤ 0) → sI f m ≤ 0 ∧ ∀ i, i < m → sI f m ≤ f i := by
  intro m
  induction m with
  | zero => intro _; exact ⟨Int.le_refl _, fun i hi => by omega⟩
  | succ m ih =>
    intro h
    obtain ⟨a, b⟩ := ih (fun i hi => h i (by omega))
    have := h m (by omega)
    show sI f m + f m ≤ 0 ∧ ∀ i, i < m + 1 → sI f m + f m ≤ f i
    refine ⟨by omega, fun i hi => ?_⟩
    by_cases e : i = m
    · rw [e]; omega
    · have := b i (by omega); omega
theorem sI_up {f f' : Nat → Int} : ∀ {m : Nat} (p r : Nat) (x : Int), p < m → r < m → p ≠ r → (∀ i, i ≠ p → i ≠ r → f' i = f i) → f' p = f p + x → f' r = f r - x → sI f' m = sI f m := by
  intro m p r x hp hr hpr hi e1 e2
  have key : ∀ k, sI f' k = sI f k + (if p < k then x else 0) - (if r < k then x else 0) := by
    intro k
    induction k with
    | zero => simp [sI]
    | succ k ih =>
      show sI f' k + f' k = sI f k + f k + _ - _
      rw [ih]
      by_cases a : k = p
      · subst a
        rw [e1, if_neg (show ¬ k < k by omega), if_pos (show k < k + 1 by omega)]
        by_cases b : r < k
        · rw [if_pos b, if_pos (show r < k + 1 by omega)]; omega
        · rw [if_neg b, if_neg (show ¬ r < k + 1 by omega)]; omega
      · by_cases b : k = r
        · subst b
          rw [e2, if_neg (show ¬ k < k by omega), if_pos (show k < k + 1 by omega)]
          by_cases c : p < k
          · rw [if_pos c, if_pos (show p < k + 1 by omega)]; omega
          · rw [if_neg c, if_neg (show ¬ p < k + 1 by omega)]; omega
        · rw [hi k a b]
          by_cases c : p < k
          · rw [if_pos c, if_pos (show p < k + 1 by omega)]
            by_cases d : r < k
            · rw [if_pos d, if_pos (show r < k + 1 by omega)]; omega
            · rw [if_neg d, if_neg (show ¬ r < k + 1 by omega)]; omega
          · rw [if_neg c, if_neg (show ¬ p < k + 1 by omega)]
            by_cases d : r < k
            · rw [if_pos d, if_pos (show r < k + 1 by omega)]; omega
            · rw [if_neg d, if_neg (show ¬ r < k + 1 by omega)]; omega
  rw [key m, if_pos hp, if_pos hr]
  omega
theorem nzc_le {w w' : Nat → Int32} : ∀ {m : Nat}, (∀ i, i < m → w i = 0 → w' i = 0) → nzc w' m ≤ nzc w m ∧ ((∃ i, i < m ∧ w i ≠ 0 ∧ w' i = 0) → nzc w' m < nzc w m) := by
  intro m
  induction m with
  | zero => intro _; exact ⟨Nat.le_refl _, fun ⟨i, hi, _⟩ => by omega⟩
  | succ m ih =>
    intro h
    obtain ⟨a, b⟩ := ih (fun i hi => h i (by omega))
    have hmm := h m (by omega)
    show nzc w' m + _ ≤ nzc w m + _ ∧ (_ → nzc w' m + _ < nzc w m + _)
    constructor
    · by_cases e : w m = 0
      · rw [if_pos e, if_pos (hmm e)]; omega
      · rw [if_neg e]; split <;> omega
    · rintro ⟨i, hi, h1, h2⟩
      by_cases e : i = m
      · subst e; rw [if_neg h1, if_pos h2]; omega
      · have := b ⟨i, by omega, h1, h2⟩
        by_cases e : w m = 0
        · rw [if_pos e, if_pos (hmm e)]; omega
        · rw [if_neg e]; split <;> omega
theorem nzc_0 {w : Nat → Int32} : ∀ {m : Nat}, nzc w m = 0 → ∀ i, i < m → w i = 0 := by
  intro m
  induction m with
  | zero => intro _ i hi; omega
  | succ m ih =>
    intro h i hi
    have h' : nzc w m + (if w m = 0 then 0 else 1) = 0 := h
    by_cases e : w m = 0
    · rw [if_pos e] at h'
      by_cases e2 : i = m
      · rw [e2]; exact e
      · exact ih (by omega) i (by omega)
    · rw [if_neg e] at h'; omega
theorem nzc_m (w : Nat → Int32) : ∀ m, nzc w m ≤ m := by
  intro m
  induction m with
  | zero => exact Nat.le_refl _
  | succ m ih => show nzc w m + _ ≤ m + 1; split <;> omega
/-- one paying -/
theorem sm_step {w : Nat → Int32} {m : Nat} (hm : 0 < m) (g : goodW w m) : smp w m < m ∧ smr w m < m ∧ (w (smr w m) ≤ 0 ↔ 0 ≤ w (smp w m)) ∧ (nzc w m = 0 → w (smr w m) ≤ 0) ∧ (¬ w (smr w m) ≤ 0 → smp w m ≠ smr w m ∧ w (smp w m) ≠ 0 ∧ w (smr w m) ≠ 0 ∧ 0 < (smu w m).toInt ∧ (smu w m).toInt ≤ 5999994 ∧ goodW (smw w m) m ∧ nzc (smw w m) m < nzc w m ∧ (smw w m (smp w m) = 0 ∨ smw w m (smr w m) = 0) ∧ ∀ i, w i = 0 → smw w m i = 0) := by
  obtain ⟨p, hp⟩ := mn_some (w := w) hm
  obtain ⟨r, hr⟩ := mx_some (w := w) hm
  have ep : smp w m = p := by unfold smp; rw [hp]; rfl
  have er : smr w m = r := by unfold smr; rw [hr]; rfl
  have eu : smu w m = fJ9_min_7cf53 (-(w p)) (w r) := by unfold smu; rw [ep, er]
  have ew : smw w m = up (up w p (w p + smu w m)) r (up w p (w p + smu w m) r - smu w m) := by unfold smw; rw [ep, er]
  rw [ep, er]
  obtain ⟨p1, p2⟩ := mnW_b hp
  obtain ⟨r1, r2⟩ := mxW_b hr
  obtain ⟨gb, gs⟩ := g
  have bp := gb p p1
  have br := gb r r1
  have z : (0 : Int32).toInt = 0 := rfl
  have iff1 : w r ≤ 0 ↔ 0 ≤ w p := by
    rw [i_le, i_le, z]
    constructor
    · intro h
      have := (sI_np (f := fun i => (w i).toInt) (m := m) (fun i hi => by have := r2 i hi; show (w i).toInt ≤ 0; omega)).2 p p1
      rw [gs] at this
      exact this
    · intro h
      have := (sI_nn (f := fun i => (w i).toInt) (m := m) (fun i hi => by have := p2 i hi; show 0 ≤ (w i).toInt; omega)).2 r r1
      rw [gs] at this
      exact this
  refine ⟨p1, r1, iff1, fun h => by rw [nzc_0 h r r1]; exact Int32.le_refl _, fun hn => ?_⟩
  have hr0 : 0 < (w r).toInt := by have := Int32.not_le.mp hn; rw [i_lt, z] at this; exact this
  have hp0 : (w p).toInt < 0 := by have := mt iff1.mpr hn; rw [i_le, z] at this; omega
  have ne : p ≠ r := fun e => by rw [e] at hp0; omega
  have enp : (-(w p)).toInt = -(w p).toInt := i_neg (by omega)
  have mu : (smu w m).toInt = if (w r).toInt < -(w p).toInt then (w r).toInt else -(w p).toInt := by
    rw [eu]
    unfold fJ9_min_7cf53
    by_cases c : w r < -(w p)
    · rw [if_pos c, if_pos (by rw [i_lt, enp] at c; exact c)]
    · rw [if_neg c, if_neg (by rw [i_lt, enp] at c; exact c), enp]
  have mu1 : 0 < (smu w m).toInt ∧ (smu w m).toInt ≤ (w r).toInt ∧ (smu w m).toInt ≤ -(w p).toInt ∧ ((smu w m).toInt = (w r).toInt ∨ (smu w m).toInt = -(w p).toInt) := by
    rw [mu]
    split <;> omega
  have wp : smw w m p = w p + smu w m := by
    rw [ew]; unfold up; try dsimp only
    rw [if_neg ne, if_pos rfl]
  have wr' : smw w m r = w r - smu w m := by
    rw [ew]; unfold up; try dsimp only
    rw [if_pos rfl, if_neg (fun e => ne e.symm)]
  have wo : ∀ i, i ≠ p → i ≠ r → smw w m i = w i := fun i h1 h2 => by
    rw [ew]; unfold up; try dsimp only
    rw [if_neg h2, if_neg h1]
  have wpI : (smw w m p).toInt = (w p).toInt + (smu w m).toInt := by rw [wp, i_add (by omega) (by omega)]
  have wrI : (smw w m r).toInt = (w r).toInt - (smu w m).toInt := by rw [wr', i_sub (by omega) (by omega)]
  have wz : ∀ i, w i = 0 → smw w m i = 0 := fun i hi => by
    by_cases e1 : i = p
    · rw [e1] at hi; rw [hi, z] at hp0; omega
    · by_cases e2 : i = r
      · rw [e2] at hi; rw [hi, z] at hr0; omega
      · rw [wo i e1 e2]; exact hi
  have zz : smw w m p = 0 ∨ smw w m r = 0 := by
    rcases mu1.2.2.2 with e | e
    · exact Or.inr (i_eq.mpr (by rw [wrI, z]; omega))
    · exact Or.inl (i_eq.mpr (by rw [wpI, z]; omega))
  have np0 : w p ≠ 0 := fun e => by rw [e, z] at hp0; omega
  have nr0 : w r ≠ 0 := fun e => by rw [e, z] at hr0; omega
  refine ⟨ne, np0, nr0, mu1.1, by omega, ⟨fun i hi => ?_, ?_⟩, ?_, zz, wz⟩
  · by_cases e1 : i = p
    · rw [e1, wpI]; omega
    · by_cases e2 : i = r
      · rw [e2, wrI]; omega
      · rw [wo i e1 e2]; exact gb i hi
  · rw [← gs]
    exact sI_up p r (smu w m).toInt p1 r1 ne (fun i h1 h2 => by rw [wo i h1 h2]) wpI wrI
  · refine (nzc_le (m := m) (fun i _ h => wz i h)).2 ?_
    rcases zz with h | h
    · exact ⟨p, p1, np0, h⟩
    · exact ⟨r, r1, nr0, h⟩
def itW (w0 : Nat → Int32) (m : Nat) : Nat → (Nat → Int32)
  | 0 => w0
  | k + 1 => smw (itW w0 m k) m
def itF (w0 f0 : Nat → Int32) (m : Nat) : Nat → (Nat → Int32)
  | 0 => f0
  | k + 1 => smf (itW w0 m k) (itF w0 f0 m k) m
/-- how it goes -/
theorem sm_run {w0 : Nat → Int32} {m : Nat} (hm : 0 < m) (g : goodW w0 m) : ∃ K, K ≤ m ∧ itW w0 m K (smr (itW w0 m K) m) ≤ 0 ∧ (∀ k, k < K → ¬ itW w0 m k (smr (itW w0 m k) m) ≤ 0) ∧ (∀ k, k ≤ K → goodW (itW w0 m k) m) := by
  have step : ∀ k, (∀ j, j < k → ¬ itW w0 m j (smr (itW w0 m j) m) ≤ 0) → goodW (itW w0 m k) m ∧ nzc (itW w0 m k) m + k ≤ m := by
    intro k
    induction k with
    | zero => intro _; exact ⟨g, by have := nzc_m w0 m; show nzc w0 m + 0 ≤ m; omega⟩
    | succ k ih =>
      intro h
      obtain ⟨a, b⟩ := ih (fun j hj => h j (by omega))
      obtain ⟨-, -, -, -, s⟩ := sm_step hm a
      obtain ⟨-, -, -, -, -, s6, s7, -⟩ := s (h k (by omega))
      exact ⟨s6, by show nzc (smw (itW w0 m k) m) m + (k + 1) ≤ m; omega⟩
  have no : ¬ ∀ k, k < m + 1 → ¬ itW w0 m k (smr (itW w0 m k) m) ≤ 0 := by
    intro all
    obtain ⟨a, b⟩ := step m (fun j hj => all j (by omega))
    obtain ⟨-, -, -, s4, -⟩ := sm_step hm a
    exact all m (by omega) (s4 (by omega))
  obtain ⟨K, h1, h2, h3⟩ := least no
  exact ⟨K, by omega, Classical.not_not.mp h2, h3, fun k hk => (step k (fun j hj => h3 j (by omega))).1⟩
/-- what is owed along it -/
theorem sm_own {w0 f0 : Nat → Int32} {m K : Nat} (hm : 0 < m) (hm6 : m ≤ 6) (h0 : ∀ c, c < 36 → f0 c = 0) (nd : ∀ k, k < K → ¬ itW w0 m k (smr (itW w0 m k) m) ≤ 0) (gd : ∀ k, k ≤ K → goodW (itW w0 m k) m) : ∀ k, k ≤ K → (∀ a b, a < 6 → b < 6 → itF w0 f0 m k (a * 6 + b) ≠ 0 → (itW w0 m k a = 0 ∨ itW w0 m k b = 0) ∧ a < m ∧ b < m) ∧ (∀ c, c < 36 → bd (itF w0 f0 m k c) 0 5999994) ∧ (k < K → itF w0 f0 m k (smp (itW w0 m k) m * 6 + smr (itW w0 m k) m) = 0) := by
  intro k
  have last : ∀ k, k ≤ K → (∀ a b, a < 6 → b < 6 → itF w0 f0 m k (a * 6 + b) ≠ 0 → (itW w0 m k a = 0 ∨ itW w0 m k b = 0) ∧ a < m ∧ b < m) → (k < K → itF w0 f0 m k (smp (itW w0 m k) m * 6 + smr (itW w0 m k) m) = 0) := by
    intro k hk hI hlt
    obtain ⟨p1, r1, -, -, s⟩ := sm_step hm (gd k hk)
    obtain ⟨-, s2, s3, -⟩ := s (nd k hlt)
    by_cases e : itF w0 f0 m k (smp (itW w0 m k) m * 6 + smr (itW w0 m k) m) = 0
    · exact e
    · rcases (hI _ _ (by omega) (by omega) e).1 with h | h
      · exact absurd h s2
      · exact absurd h s3
  induction k with
  | zero =>
    intro hk
    have hI : ∀ a b, a < 6 → b < 6 → itF w0 f0 m 0 (a * 6 + b) ≠ 0 → (itW w0 m 0 a = 0 ∨ itW w0 m 0 b = 0) ∧ a < m ∧ b < m := fun a b ha hb h => absurd (h0 _ (by omega)) h
    refine ⟨hI, fun c hc => ?_, last 0 hk hI⟩
    show bd (f0 c) 0 5999994
    rw [h0 c hc]
    unfold bd
    decide
  | succ k ih =>
    intro hk
    obtain ⟨i1, i2, -⟩ := ih (by omega)
    obtain ⟨p1, r1, -, -, s⟩ := sm_step hm (gd k (by omega))
    obtain ⟨s1, s2, s3, s4, s5, s6, s7, s8, s9⟩ := s (nd k (by omega))
    have hI : ∀ a b, a < 6 → b < 6 → itF w0 f0 m (k + 1) (a * 6 + b) ≠ 0 → (itW w0 m (k + 1) a = 0 ∨ itW w0 m (k + 1) b = 0) ∧ a < m ∧ b < m := by
      intro a b ha hb h
      show (smw (itW w0 m k) m a = 0 ∨ smw (itW w0 m k) m b = 0) ∧ a < m ∧ b < m
      by_cases e : a * 6 + b = smp (itW w0 m k) m * 6 + smr (itW w0 m k) m
      · have ea : a = smp (itW w0 m k) m := by omega
        have eb : b = smr (itW w0 m k) m := by omega
        rw [ea, eb]
        exact ⟨s8, p1, r1⟩
      · have h' : up (itF w0 f0 m k) (smp (itW w0 m k) m * 6 + smr (itW w0 m k) m) (smu (itW w0 m k) m) (a * 6 + b) ≠ 0 := h
        unfold up at h'
        rw [if_neg e] at h'
        obtain ⟨q1, q2, q3⟩ := i1 a b ha hb h'
        refine ⟨?_, q2, q3⟩
        rcases q1 with q | q
        · exact Or.inl (s9 a q)
        · exact Or.inr (s9 b q)
    refine ⟨hI, fun c hc => ?_, last (k + 1) hk hI⟩
    show bd (up (itF w0 f0 m k) (smp (itW w0 m k) m * 6 + smr (itW w0 m k) m) (smu (itW w0 m k) m) c) 0 5999994
    unfold up
    split
    · unfold bd; omega
    · exact i2 c hc
theorem sm_keep {w0 f0 : Nat → Int32} {m K : Nat} (hm : 0 < m) (hm6 : m ≤ 6) (h0 : ∀ c, c < 36 → f0 c = 0) (nd : ∀ k, k < K → ¬ itW w0 m k (smr (itW w0 m k) m) ≤ 0) (gd : ∀ k, k ≤ K → goodW (itW w0 m k) m) {c j : Nat} (hc : itF w0 f0 m j c ≠ 0) : ∀ d, j + d ≤ K → itF w0 f0 m (j + d) c = itF w0 f0 m j c := by
  intro d
  induction d with
  | zero => intro _; rfl
  | succ d ih =>
    intro hd
    have i1 := ih (by omega)
    have z := (sm_own hm hm6 h0 nd gd (j + d) (by omega)).2.2 (by omega)
    show up (itF w0 f0 m (j + d)) (smp (itW w0 m (j + d)) m * 6 + smr (itW w0 m (j + d)) m) (smu (itW w0 m (j + d)) m) c = _
    unfold up
    rw [if_neg (fun e => by rw [← e, i1] at z; exact hc z)]
    exact i1
/-- rows that are alike -/
theorem smp_c {w w' : Nat → Int32} {m : Nat} (h : ∀ i, i < m → w i = w' i) : smp w m = smp w' m := by unfold smp; rw [mnW_c h]
theorem smr_c {w w' : Nat → Int32} {m : Nat} (h : ∀ i, i < m → w i = w' i) : smr w m = smr w' m := by unfold smr; rw [mxW_c h]
theorem smu_c {w w' : Nat → Int32} {m : Nat} (hm : 0 < m) (h : ∀ i, i < m → w i = w' i) : smu w m = smu w' m := by
  obtain ⟨p, hp⟩ := mn_some (w := w') hm
  obtain ⟨r, hr⟩ := mx_some (w := w') hm
  have ep : smp w' m = p := by unfold smp; rw [hp]; rfl
  have er : smr w' m = r := by unfold smr; rw [hr]; rfl
  unfold smu
  rw [smp_c h, smr_c h, ep, er, h p (mnW_b hp).1, h r (mxW_b hr).1]
theorem smw_c {w w' : Nat → Int32} {m : Nat} (hm : 0 < m) (h : ∀ i, i < m → w i = w' i) : ∀ i, i < m → smw w m i = smw w' m i := by
  intro i hi
  obtain ⟨p, hp⟩ := mn_some (w := w') hm
  obtain ⟨r, hr⟩ := mx_some (w := w') hm
  have ep : smp w' m = p := by unfold smp; rw [hp]; rfl
  have er : smr w' m = r := by unfold smr; rw [hr]; rfl
  have p1 := (mnW_b hp).1
  have r1 := (mxW_b hr).1
  unfold smw
  rw [smp_c h, smr_c h, smu_c hm h, ep, er]
  unfold up
  try dsimp only
  rw [h p p1, h i hi, h r r1]
theorem itW_c {w w' : Nat → Int32} {m : Nat} (hm : 0 < m) (h : ∀ i, i < m → w i = w' i) : ∀ k i, i < m → itW w m k i = itW w' m k i := by
  intro k
  induction k with
  | zero => exact h
  | succ k ih => exact smw_c hm ih
theorem itF_c {w w' f f' : Nat → Int32} {m : Nat} (hm : 0 < m) (h : ∀ i, i < m → w i = w' i) (hf : ∀ c, c < 36 → f c = f' c) : ∀ k c, c < 36 → itF w f m k c = itF w' f' m k c := by
  intro k
  induction k with
  | zero => exact hf
  | succ k ih =>
    intro c hc
    show smf (itW w m k) (itF w f m k) m c = smf (itW w' m k) (itF w' f' m k) m c
    unfold smf
    rw [smp_c (itW_c hm h k), smr_c (itW_c hm h k), smu_c hm (itW_c hm h k)]
    unfold up
    split
    · rfl
    · exact ih c hc
