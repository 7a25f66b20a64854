/-! ===== a second bill ===== -/
def sBet (a b : Nat) : Prop := bc a < bc b ∨ (bc a = bc b ∧ a < b)
theorem sBet_tr {a b c : Nat} (h1 : sBet a b) (h2 : sBet b c) : sBet a c := by
  unfold sBet at *
  rw [i_lt, i_eq] at *
  omega
theorem sBet_as {a b : Nat} (h1 : sBet a b) : ¬ sBet b a := by
  unfold sBet at *
  rw [i_lt, i_eq] at *
  omega
theorem sBet_tot {a b : Nat} (h1 : ¬ sBet a b) (h2 : ¬ sBet b a) : a = b := by
  unfold sBet at *
  rw [i_lt, i_eq] at *
  omega
noncomputable def acB (S : Nat) : Option Nat → Nat
  | none => S
  | some s => @ite Nat (sBet S s) (Classical.propDecidable _) S s
noncomputable def acc (t : Nat × Option Nat) (S : Nat) : Nat × Option Nat := (t.1 + 1, some (acB S t.2))
theorem acB_p {S s : Nat} (h : sBet S s) : acB S (some s) = S := if_pos h
theorem acB_n {S s : Nat} (h : ¬ sBet S s) : acB S (some s) = s := if_neg h
theorem acc_comm (t : Nat × Option Nat) (a b : Nat) : acc (acc t a) b = acc (acc t b) a := by
  unfold acc
  congr 2
  cases t.2 with
  | none =>
    show acB b (some a) = acB a (some b)
    by_cases h : sBet b a
    · rw [acB_p h, acB_n (sBet_as h)]
    · rw [acB_n h]
      by_cases h2 : sBet a b
      · rw [acB_p h2]
      · rw [acB_n h2]; exact sBet_tot h2 h
  | some s =>
    show acB b (some (acB a (some s))) = acB a (some (acB b (some s)))
    by_cases h1 : sBet a s
    · by_cases h2 : sBet b s
      · rw [acB_p h1, acB_p h2]
        by_cases h : sBet b a
        · rw [acB_p h, acB_n (sBet_as h)]
        · rw [acB_n h]
          by_cases h3 : sBet a b
          · rw [acB_p h3]
          · rw [acB_n h3]; exact sBet_tot h3 h
      · rw [acB_p h1, acB_n h2, acB_p h1, acB_n]
        intro h
        exact h2 (sBet_tr h h1)
    · by_cases h2 : sBet b s
      · rw [acB_n h1, acB_p h2, acB_n]
        intro h
        exact h1 (sBet_tr h h2)
      · rw [acB_n h1, acB_n h2, acB_n h1]
noncomputable def rngQ (Q : Nat → Bool) (N : Nat) (t : Nat × Option Nat) : Nat × Option Nat := foldN (fun S t => if Q S then acc t S else t) 0 N t
theorem rngQ_s (Q : Nat → Bool) (N : Nat) (t : Nat × Option Nat) : rngQ Q (N + 1) t = if Q N then acc (rngQ Q N t) N else rngQ Q N t := by
  unfold rngQ
  rw [foldN_end, Nat.zero_add]
theorem rngQ_acc (Q : Nat → Bool) (S : Nat) : ∀ (N : Nat) (t : Nat × Option Nat), acc (rngQ Q N t) S = rngQ Q N (acc t S) := by
  intro N
  induction N with
  | zero => intro t; rfl
  | succ N ih =>
    intro t
    rw [rngQ_s, rngQ_s, ← ih]
    split
    · rw [acc_comm]
    · rfl
theorem rngQ_split {Q Q1 Q2 : Nat → Bool} (t : Nat × Option Nat) : ∀ N, (∀ S, S < N → Q S = (Q1 S || Q2 S)) → (∀ S, S < N → (Q1 S && Q2 S) = false) → rngQ Q N t = rngQ Q2 N (rngQ Q1 N t) := by
  intro N
  induction N with
  | zero => intro _ _; rfl
  | succ N ih =>
    intro h1 h2
    have i1 := ih (fun S hS => h1 S (by omega)) (fun S hS => h2 S (by omega))
    have a := h1 N (by omega)
    have b := h2 N (by omega)
    rw [rngQ_s, rngQ_s, rngQ_s, a, i1]
    cases c1 : Q1 N with
    | false =>
      cases c2 : Q2 N with
      | false => simp
      | true => simp
    | true =>
      cases c2 : Q2 N with
      | false => simp; exact rngQ_acc Q2 N N _
      | true => rw [c1, c2] at b; cases b
theorem rngQ_none {Q : Nat → Bool} (t : Nat × Option Nat) : ∀ N, (∀ S, S < N → Q S = false) → rngQ Q N t = t := by
  intro N
  induction N with
  | zero => intro _; rfl
  | succ N ih =>
    intro h
    rw [rngQ_s, h N (by omega), ih (fun S hS => h S (by omega))]
    rfl
theorem rngQ_one {Q : Nat → Bool} (t : Nat × Option Nat) {S0 : Nat} : ∀ N, S0 < N → (∀ S, S < N → (Q S = true ↔ S = S0)) → rngQ Q N t = acc t S0 := by
  intro N
  induction N with
  | zero => intro h; omega
  | succ N ih =>
    intro h1 h2
    rw [rngQ_s]
    by_cases e : S0 = N
    · subst e
      rw [if_pos ((h2 S0 (by omega)).mpr rfl), rngQ_none t S0 (fun S hS => ?_)]
      cases c : Q S with
      | false => rfl
      | true => have := (h2 S (by omega)).mp c; omega
    · have : ¬ Q N = true := fun c => e ((h2 N (by omega)).mp c).symm
      rw [if_neg this]
      exact ih (by omega) (fun S hS => h2 S (by omega))
theorem rngQ_in (Q : Nat → Bool) : ∀ N, (∀ s, (rngQ Q N (0, none)).2 = some s → s < N) ∧ ((rngQ Q N (0, none)).1 = 0 ↔ (rngQ Q N (0, none)).2 = none) ∧ (rngQ Q N (0, none)).1 ≤ N := by
  intro N
  induction N with
  | zero => exact ⟨fun s e => (by cases e), ⟨fun _ => rfl, fun _ => rfl⟩, Nat.le_refl _⟩
  | succ N ih =>
    obtain ⟨i1, i2, i3⟩ := ih
    rw [rngQ_s]
    split
    · refine ⟨fun s e => ?_, ⟨fun e => ?_, fun e => ?_⟩, ?_⟩
      · unfold acc at e
        have e : some (acB N (rngQ Q N (0, none)).2) = some s := e
        cases e
        cases hb : (rngQ Q N (0, none)).2 with
        | none => show N < N + 1; omega
        | some s =>
          have := i1 s hb
          by_cases h : sBet N s
          · rw [acB_p h]; omega
          · rw [acB_n h]; omega
      · unfold acc at e; have : (rngQ Q N (0, none)).1 + 1 = 0 := e; omega
      · unfold acc at e; cases e
      · show (rngQ Q N (0, none)).1 + 1 ≤ N + 1; omega
    · exact ⟨fun s e => by have := i1 s e; omega, i2, by omega⟩
/-! sums of prices -/
def psK (pN : Nat → Nat) (S : Nat) : Nat → Nat → Nat
  | _, 0 => 0
  | i, k + 1 => (if S.testBit i then pN i else 0) + psK pN S (i + 1) k
def rsK (pN : Nat → Nat) : Nat → Nat → Nat
  | _, 0 => 0
  | i, k + 1 => pN i + rsK pN (i + 1) k
theorem ps_le (pN : Nat → Nat) (S : Nat) : ∀ k i, psK pN S i k ≤ rsK pN i k := by
  intro k
  induction k with
  | zero => intro i; exact Nat.le_refl _
  | succ k ih =>
    intro i
    have := ih (i + 1)
    show (if S.testBit i then pN i else 0) + psK pN S (i + 1) k ≤ pN i + rsK pN (i + 1) k
    split <;> omega
theorem rs_b {pN : Nat → Nat} {d : Nat} (hp : ∀ j, j < d → pN j ≤ 999) : ∀ k i, i + k ≤ d → rsK pN i k ≤ 999 * k := by
  intro k
  induction k with
  | zero => intro i _; exact Nat.le_refl _
  | succ k ih =>
    intro i h
    have := ih (i + 1) (by omega)
    have := hp i (by omega)
    show pN i + rsK pN (i + 1) k ≤ 999 * (k + 1)
    omega
theorem md_s (S i : Nat) : S % 2 ^ (i + 1) = S % 2 ^ i + (if S.testBit i then 2 ^ i else 0) := by
  rw [Nat.mod_pow_succ, Nat.testBit_eq_decide_div_mod_eq]
  by_cases h : S / 2 ^ i % 2 = 1
  · rw [h]; simp
  · have : S / 2 ^ i % 2 = 0 := by omega
    rw [this]; simp
theorem ps_0 {pN : Nat → Nat} {d S : Nat} (hp : ∀ j, j < d → 1 ≤ pN j) : ∀ k i, i + k ≤ d → psK pN S i k = 0 → S < 2 ^ (i + k) → S < 2 ^ i := by
  intro k
  induction k with
  | zero => intro i _ _ h; exact h
  | succ k ih =>
    intro i hk h0 hS
    have h0 : (if S.testBit i then pN i else 0) + psK pN S (i + 1) k = 0 := h0
    have hb : S.testBit i = false := by
      cases c : S.testBit i with
      | false => rfl
      | true =>
        rw [c] at h0
        have := hp i (by omega)
        simp at h0
        omega
    rw [hb] at h0
    have q := ih (i + 1) (by omega) (by simpa using h0) (by rw [show i + 1 + k = i + (k + 1) by omega]; exact hS)
    have e := md_s S i
    rw [hb, Nat.mod_eq_of_lt q] at e
    have := Nat.mod_lt S (show 0 < 2 ^ i from Nat.two_pow_pos i)
    simp at e
    omega
def QQ (pN : Nat → Nat) (d i : Nat) (l : Int) (s : Nat) (S : Nat) : Bool := decide (S % 2 ^ i = s) && decide ((psK pN S i (d - i) : Int) = l)
theorem QQ_split {pN : Nat → Nat} {d i : Nat} {l : Int} {s S : Nat} (hi : i < d) (hs : s < 2 ^ i) : QQ pN d i l s S = (QQ pN d (i + 1) (l - pN i) (s + 2 ^ i) S || QQ pN d (i + 1) l s S) ∧ (QQ pN d (i + 1) (l - pN i) (s + 2 ^ i) S && QQ pN d (i + 1) l s S) = false := by
  have pp0 : 0 < 2 ^ i := Nat.two_pow_pos i
  have ml := Nat.mod_lt S pp0
  have e := md_s S i
  have ps : psK pN S i (d - i) = (if S.testBit i then pN i else 0) + psK pN S (i + 1) (d - (i + 1)) := by
    rw [show d - i = (d - (i + 1)) + 1 by omega]
    rfl
  unfold QQ
  rw [ps, e]
  cases c : S.testBit i with
  | false =>
    simp only [Bool.false_eq_true, if_false, Nat.add_zero, Nat.zero_add]
    have f : decide (S % 2 ^ i = s + 2 ^ i) = false := by simp; omega
    rw [f]
    simp
  | true =>
    simp only [if_true]
    have f : decide (S % 2 ^ i + 2 ^ i = s) = false := by simp; omega
    have g : decide (S % 2 ^ i + 2 ^ i = s + 2 ^ i) = decide (S % 2 ^ i = s) := by
      by_cases h : S % 2 ^ i = s
      · simp [h]
      · simp [h]
    have k : decide (((pN i + psK pN S (i + 1) (d - (i + 1)) : Nat) : Int) = l) = decide ((psK pN S (i + 1) (d - (i + 1)) : Int) = l - pN i) := by
      by_cases h : (psK pN S (i + 1) (d - (i + 1)) : Int) = l - pN i
      · have h2 : ((pN i + psK pN S (i + 1) (d - (i + 1)) : Nat) : Int) = l := by rw [Int.natCast_add]; omega
        rw [decide_eq_true h, decide_eq_true h2]
      · have h2 : ¬ ((pN i + psK pN S (i + 1) (d - (i + 1)) : Nat) : Int) = l := by rw [Int.natCast_add]; omega
        rw [decide_eq_false h, decide_eq_false h2]
    rw [f, g, k]
    simp
/-! the class's search -/
def fwB : Option Nat → Int32
  | none => 0
  | some s => bc s
def lsB : Option Nat → Int32
  | none => 0
  | some s => nI s
def msS (g : Nat) (D : mz_D) (t : Nat × Option Nat) : mz_D := mz_wi (mz_wi (mz_wi D g 109 4 (nI t.1)) g 109 5 (fwB t.2)) g 109 6 (lsB t.2)
theorem msS_4 (g : Nat) (D : mz_D) (t : Nat × Option Nat) : (msS g D t).1 g 109 4 = nI t.1 := by unfold msS; rw [wi_n (by omega), wi_n (by omega), wi_s]
theorem msS_5 (g : Nat) (D : mz_D) (t : Nat × Option Nat) : (msS g D t).1 g 109 5 = fwB t.2 := by unfold msS; rw [wi_n (by omega), wi_s]
theorem msS_6 (g : Nat) (D : mz_D) (t : Nat × Option Nat) : (msS g D t).1 g 109 6 = lsB t.2 := by unfold msS; rw [wi_s]
theorem msS_n {g : Nat} {D : mz_D} {t : Nat × Option Nat} {a o j : Nat} (h : ¬ (a = g ∧ o = 109 ∧ 4 ≤ j ∧ j ≤ 6)) : (msS g D t).1 a o j = D.1 a o j := by unfold msS; rw [wi_n (by omega), wi_n (by omega), wi_n (by omega)]
theorem msS_u {g : Nat} {D E : mz_D} {t t' : Nat × Option Nat} (h1 : E.2 = D.2) (h4 : E.1 g 109 4 = nI t'.1) (h5 : E.1 g 109 5 = fwB t'.2) (h6 : E.1 g 109 6 = lsB t'.2) (hn : ∀ a o j, ¬ (a = g ∧ o = 109 ∧ 4 ≤ j ∧ j ≤ 6) → E.1 a o j = D.1 a o j) : E = msS g D t' := by
  refine mzD_ext (fun a o j => ?_) h1
  by_cases e : a = g ∧ o = 109 ∧ 4 ≤ j ∧ j ≤ 6
  · obtain ⟨rfl, rfl, e3, e4⟩ := e
    have : j = 4 ∨ j = 5 ∨ j = 6 := by omega
    rcases this with rfl | rfl | rfl
    · rw [h4, msS_4]
    · rw [h5, msS_5]
    · rw [h6, msS_6]
  · rw [hn a o j e, msS_n e]
theorem cntC {g S : Nat} {D : mz_D} {t : Nat × Option Nat} (ht : t.1 = 0 ↔ t.2 = none) (hc : t.1 < 100000) (hS : S < 65536) (hs : ∀ s, t.2 = some s → s < 65536) : fX1_countSet g (nI S) (msS g D t) = some (msS g D (acc t S)) := by
  have take : fX1_countSet_36 g (nI S) (bc S) (msS g D t) = some (msS g D (t.1 + 1, some S)) := by
    unfold fX1_countSet_36
    congr 1
    refine msS_u (t := t) rfl ?_ ?_ ?_ (fun a o j h => ?_)
    · rw [wi_s, wi_n (by omega), wi_n (by omega), msS_4, a1r]
    · rw [wi_n (by omega), wi_n (by omega), wi_s]; rfl
    · rw [wi_n (by omega), wi_s]; rfl
    · rw [wi_n (by omega), wi_n (by omega), wi_n (by omega), msS_n h]
  have keep : some (mz_wi (msS g D t) g 109 4 (nI t.1 + 1)) = some (msS g D (t.1 + 1, t.2)) := by
    congr 1
    refine msS_u (t := t) rfl ?_ ?_ ?_ (fun a o j h => ?_)
    · rw [wi_s, a1r]
    · rw [wi_n (by omega), msS_5]
    · rw [wi_n (by omega), msS_6]
    · rw [wi_n (by omega), msS_n h]
  unfold fX1_countSet
  rw [msS_4, msS_5, msS_6]
  have eb : fJ6_bitCount_0f7a4 (nI S) = bc S := rfl
  rw [eb]
  obtain ⟨c, b⟩ := t
  cases b with
  | none =>
    have c0 : c = 0 := ht.mpr rfl
    subst c0
    rw [if_pos (by decide), take]
    rfl
  | some s =>
    have c0 : c ≠ 0 := fun e => by have := ht.mp e; cases this
    have hs' := hs s rfl
    rw [if_neg (by rw [ol_eqi (c := 0) (by omega) (by omega)]; exact c0)]
    unfold fwB lsB
    dsimp only at take keep ⊢
    by_cases h1 : bc S < bc s
    · rw [if_pos h1, take]
      show _ = some (msS g D (c + 1, some (acB S (some s))))
      rw [acB_p (Or.inl h1)]
    · rw [if_neg h1]
      by_cases h2 : bc S = bc s
      · rw [if_pos h2]
        by_cases h3 : nI s ≤ nI S
        · rw [if_pos h3, keep]
          show _ = some (msS g D (c + 1, some (acB S (some s))))
          rw [acB_n]
          intro h
          rcases h with h | ⟨-, h⟩
          · exact h1 h
          · rw [nJ_le (by omega) (by omega)] at h3; omega
        · rw [if_neg h3, take]
          show _ = some (msS g D (c + 1, some (acB S (some s))))
          rw [acB_p (Or.inr ⟨h2, by rw [nJ_le (by omega) (by omega)] at h3; omega⟩)]
      · rw [if_neg h2, keep]
        show _ = some (msS g D (c + 1, some (acB S (some s))))
        rw [acB_n]
        intro h
        rcases h with h | ⟨h, -⟩
        · exact h1 h
        · exact h2 h
/-- what a state must be -/
def okT (N : Nat) (t : Nat × Option Nat) : Prop := (t.1 = 0 ↔ t.2 = none) ∧ ∀ s, t.2 = some s → s < N
theorem okT_acc {N S : Nat} {t : Nat × Option Nat} (h : okT N t) (hS : S < N) : okT N (acc t S) := by
  refine ⟨⟨fun e => by have : t.1 + 1 = 0 := e; omega, fun e => by cases e⟩, fun s e => ?_⟩
  have e : some (acB S t.2) = some s := e
  cases e
  cases hb : t.2 with
  | none => exact hS
  | some s =>
    by_cases c : sBet S s
    · rw [acB_p c]; exact hS
    · rw [acB_n c]; exact h.2 s hb
theorem okT_rng {N : Nat} (Q : Nat → Bool) : ∀ M, M ≤ N → ∀ t, okT N t → okT N (rngQ Q M t) ∧ (rngQ Q M t).1 ≤ t.1 + M := by
  intro M
  induction M with
  | zero => intro _ t h; exact ⟨h, Nat.le_refl _⟩
  | succ M ih =>
    intro hM t h
    obtain ⟨a, b⟩ := ih (by omega) t h
    rw [rngQ_s]
    split
    · exact ⟨okT_acc a (by omega), by show (rngQ Q M t).1 + 1 ≤ _; omega⟩
    · exact ⟨a, by omega⟩
