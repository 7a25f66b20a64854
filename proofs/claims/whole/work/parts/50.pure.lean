/-! ===== the pure part: numbers, loops ===== -/
theorem nI_cl {k : Nat} (h : k < 2147483648) : (nI k).toNatClampNeg = k := by
  unfold nI
  rw [Int32.toNatClampNeg, show (Int32.ofNat k).toInt = (k : Int) from nI_toInt h]
  rfl
theorem nJ_le {a b : Nat} (ha : a < 2147483648) (hb : b < 2147483648) : nI a ≤ nI b ↔ a ≤ b := by
  rw [Int32.le_iff_toInt_le, nI_toInt ha, nI_toInt hb]; omega
theorem nJ_lt {a b : Nat} (ha : a < 2147483648) (hb : b < 2147483648) : nI a < nI b ↔ a < b := by
  rw [Int32.lt_iff_toInt_lt, nI_toInt ha, nI_toInt hb]; omega
theorem nJ_eq {a b : Nat} (ha : a < 2147483648) (hb : b < 2147483648) : nI a = nI b ↔ a = b := by
  rw [← Int32.toInt_inj, nI_toInt ha, nI_toInt hb]; omega
theorem nI_mul (a b : Nat) : nI a * nI b = nI (a * b) := by
  unfold nI; rw [Int32.ofNat_mul]
theorem ol_eq (c : Nat) : (OfNat.ofNat c : Int32) = nI c := rfl
theorem ol_add (c k : Nat) : (OfNat.ofNat c : Int32) + nI k = nI (c + k) := nI_add c k
theorem ol_addr (c k : Nat) : nI k + (OfNat.ofNat c : Int32) = nI (k + c) := nI_add k c
theorem ol_mul (c k : Nat) : (OfNat.ofNat c : Int32) * nI k = nI (c * k) := nI_mul c k
theorem ol_mulr (c k : Nat) : nI k * (OfNat.ofNat c : Int32) = nI (k * c) := nI_mul k c
theorem ol_le {c k : Nat} (hc : c < 2147483648) (hk : k < 2147483648) : (OfNat.ofNat c : Int32) ≤ nI k ↔ c ≤ k := nJ_le hc hk
theorem ol_ler {c k : Nat} (hc : c < 2147483648) (hk : k < 2147483648) : nI k ≤ (OfNat.ofNat c : Int32) ↔ k ≤ c := nJ_le hk hc
theorem ol_lt {c k : Nat} (hc : c < 2147483648) (hk : k < 2147483648) : (OfNat.ofNat c : Int32) < nI k ↔ c < k := nJ_lt hc hk
theorem ol_ltr {c k : Nat} (hc : c < 2147483648) (hk : k < 2147483648) : nI k < (OfNat.ofNat c : Int32) ↔ k < c := nJ_lt hk hc
theorem ol_eqi {c k : Nat} (hc : c < 2147483648) (hk : k < 2147483648) : nI k = (OfNat.ofNat c : Int32) ↔ k = c := nJ_eq hk hc
theorem on_le {c k : Nat} (hc : c < 2147483648) (hk : k < 2147483648) : Int32.ofNat c ≤ nI k ↔ c ≤ k := nJ_le hc hk
theorem on_ler {c k : Nat} (hc : c < 2147483648) (hk : k < 2147483648) : nI k ≤ Int32.ofNat c ↔ k ≤ c := nJ_le hk hc
theorem nI_ne1 {k : Nat} (hk : k < 2147483648) : nI k = (-1 : Int32) ↔ False := by
  rw [← Int32.toInt_inj, nI_toInt hk, show (-1 : Int32).toInt = -1 from rfl]; exact ⟨fun h => by omega, False.elim⟩
theorem nI_ne1' {k : Nat} (hk : k < 2147483648) : (-1 : Int32) = nI k ↔ False := by
  rw [← Int32.toInt_inj, nI_toInt hk, show (-1 : Int32).toInt = -1 from rfl]; exact ⟨fun h => by omega, False.elim⟩
theorem nI_ix {k N : Nat} (h : k < N) (hN : N < 2147483648) : mz_ix (nI k) N = true := by
  unfold mz_ix
  rw [nI_cl (by omega), Bool.and_eq_true, decide_eq_true_eq, decide_eq_true_eq]
  exact ⟨(ol_le (c := 0) (by omega) (by omega)).mpr (Nat.zero_le _), h⟩
theorem nI_neg {k : Nat} (h : k < 2147483648) : nI k < 0 ↔ False := by
  rw [show (nI k < 0) ↔ k < 0 from ol_ltr (c := 0) (by omega) h]; exact ⟨fun h => by omega, False.elim⟩
theorem nI_nn {k : Nat} (h : k < 2147483648) : 0 ≤ nI k ↔ True := by
  rw [show (0 ≤ nI k) ↔ 0 ≤ k from ol_le (c := 0) (by omega) h]; exact ⟨fun _ => trivial, fun _ => Nat.zero_le _⟩
theorem gd_t {α : Type} {b : Bool} {x : Option α} (h : b = true) : mz_gd b x = x := by rw [h]; rfl
theorem nJ_of {x : Int32} (h0 : 0 ≤ x) : ∃ k : Nat, k < 2147483648 ∧ x = nI k := by
  refine ⟨x.toNatClampNeg, ?_, ?_⟩
  · have h1 := Int32.toInt_lt x
    have h2 : x.toNatClampNeg = x.toInt.toNat := rfl
    omega
  · have h2 := Int32.le_iff_toInt_le.mp h0
    have h3 : x.toNatClampNeg = x.toInt.toNat := rfl
    have h1 := Int32.toInt_lt x
    have h4 : (0 : Int32).toInt = 0 := rfl
    apply Int32.toInt_inj.mp
    rw [nI_toInt (by omega), h3]
    omega
theorem ix_of {x : Int32} {N : Nat} (h : mz_ix x N = true) : ∃ k : Nat, k < N ∧ x = nI k := by
  unfold mz_ix at h
  rw [Bool.and_eq_true, decide_eq_true_eq, decide_eq_true_eq] at h
  obtain ⟨k, hk, rfl⟩ := nJ_of h.1
  rw [nI_cl hk] at h
  exact ⟨k, h.2, rfl⟩
theorem i_add {a b : Int32} (h1 : -2147483648 ≤ a.toInt + b.toInt) (h2 : a.toInt + b.toInt < 2147483648) : (a + b).toInt = a.toInt + b.toInt := by
  rw [Int32.toInt_add, Int.bmod_eq_of_le (by omega) (by omega)]
theorem i_sub {a b : Int32} (h1 : -2147483648 ≤ a.toInt - b.toInt) (h2 : a.toInt - b.toInt < 2147483648) : (a - b).toInt = a.toInt - b.toInt := by
  rw [Int32.toInt_sub, Int.bmod_eq_of_le (by omega) (by omega)]
theorem i_neg {a : Int32} (h : -2147483648 < a.toInt) : (-a).toInt = -a.toInt := by
  have h2 := Int32.toInt_lt a
  rw [Int32.toInt_neg, Int.bmod_eq_of_le (by omega) (by omega)]
theorem i_mul {a b : Int32} (h1 : -2147483648 ≤ a.toInt * b.toInt) (h2 : a.toInt * b.toInt < 2147483648) : (a * b).toInt = a.toInt * b.toInt := by
  rw [Int32.toInt_mul, Int.bmod_eq_of_le (by omega) (by omega)]
theorem i_le {a b : Int32} : a ≤ b ↔ a.toInt ≤ b.toInt := Int32.le_iff_toInt_le
theorem i_lt {a b : Int32} : a < b ↔ a.toInt < b.toInt := Int32.lt_iff_toInt_lt
theorem i_eq {a b : Int32} : a = b ↔ a.toInt = b.toInt := Int32.toInt_inj.symm
/-! loops -/
def foldN {σ : Type} (st : Nat → σ → σ) : Nat → Nat → σ → σ
  | _, 0, s => s
  | k, d + 1, s => foldN st (k + 1) d (st k s)
theorem foldN_congr {σ : Type} {st st' : Nat → σ → σ} : ∀ (d k : Nat) (s : σ), (∀ j s, k ≤ j → j < k + d → st j s = st' j s) → foldN st k d s = foldN st' k d s := by
  intro d
  induction d with
  | zero => intro k s h; rfl
  | succ d ih =>
    intro k s h
    show foldN st (k + 1) d (st k s) = foldN st' (k + 1) d (st' k s)
    rw [h k s (by omega) (by omega)]
    exact ih (k + 1) _ (fun j s h1 h2 => h j s (by omega) (by omega))
/-- a loop that counts up, with what it keeps -/
theorem lp {σ β : Type} (F : Nat → σ → Int32 → Option β) (st : Nat → σ → σ) (P : Nat → σ → Prop) (M : Nat) (hs : ∀ n s k, k < M → P k s → F (n + 1) s (nI k) = F n (st k s) (nI (k + 1)) ∧ P (k + 1) (st k s)) : ∀ (d n k : Nat) (s : σ), k + d = M → d < n → P k s → F n s (nI k) = F (n - d) (foldN st k d s) (nI M) ∧ P M (foldN st k d s) := by
  intro d
  induction d with
  | zero => intro n k s h hn hp; rw [← h]; exact ⟨rfl, hp⟩
  | succ d ih =>
    intro n k s h hn hp
    obtain ⟨n, rfl⟩ : ∃ n', n = n' + 1 := ⟨n - 1, by omega⟩
    obtain ⟨h1, h2⟩ := hs n s k (by omega) hp
    have h3 := ih n (k + 1) (st k s) (by omega) (by omega) h2
    rw [h1, h3.1]
    refine ⟨?_, h3.2⟩
    rw [show n + 1 - (d + 1) = n - d by omega]
    rfl
/-- the same, to its end, with nothing kept -/
theorem lp0 {σ β : Type} (F : Nat → σ → Int32 → Option β) (st : Nat → σ → σ) (fin : σ → Option β) (M : Nat) (hs : ∀ n s k, k < M → F (n + 1) s (nI k) = F n (st k s) (nI (k + 1))) (he : ∀ n s, F (n + 1) s (nI M) = fin s) (n : Nat) (s : σ) (hn : M < n) : F n s (nI 0) = fin (foldN st 0 M s) := by
  have h := (lp F st (fun _ _ => True) M (fun n s k hk _ => ⟨hs n s k hk, trivial⟩) M n 0 s (by omega) hn trivial).1
  rw [h]
  obtain ⟨n', e⟩ : ∃ n', n - M = n' + 1 := ⟨n - M - 1, by omega⟩
  rw [e, he]
/-- with early ends -/
def foldX {σ β : Type} (st : Nat → σ → σ ⊕ β) : Nat → Nat → σ → σ ⊕ β
  | _, 0, s => .inl s
  | k, d + 1, s => match st k s with
    | .inl s' => foldX st (k + 1) d s'
    | .inr b => .inr b
theorem foldX_congr {σ β : Type} {st st' : Nat → σ → σ ⊕ β} : ∀ (d k : Nat) (s : σ), (∀ j s, k ≤ j → j < k + d → st j s = st' j s) → foldX st k d s = foldX st' k d s := by
  intro d
  induction d with
  | zero => intro k s h; rfl
  | succ d ih =>
    intro k s h
    unfold foldX
    rw [h k s (by omega) (by omega)]
    cases st' k s with
    | inl s' => exact ih (k + 1) _ (fun j s h1 h2 => h j s (by omega) (by omega))
    | inr b => rfl
theorem lpX {σ β : Type} (F : Nat → σ → Int32 → Option β) (st : Nat → σ → σ ⊕ Option β) (fin : σ → Option β) (M : Nat) (hs : ∀ n s k, k < M → F (n + 1) s (nI k) = Sum.elim (fun s' => F n s' (nI (k + 1))) id (st k s)) (he : ∀ n s, F (n + 1) s (nI M) = fin s) : ∀ (d n k : Nat) (s : σ), k + d = M → d < n → F n s (nI k) = Sum.elim fin id (foldX st k d s) := by
  intro d
  induction d with
  | zero =>
    intro n k s h hn
    obtain ⟨n, rfl⟩ : ∃ n', n = n' + 1 := ⟨n - 1, by omega⟩
    rw [show k = M by omega, he]; rfl
  | succ d ih =>
    intro n k s h hn
    obtain ⟨n, rfl⟩ : ∃ n', n = n' + 1 := ⟨n - 1, by omega⟩
    rw [hs n s k (by omega)]
    unfold foldX
    cases st k s with
    | inl s' => exact ih n (k + 1) s' (by omega) (by omega)
    | inr b => rfl
/-- a loop by what holds along it -/
theorem lpE {σ β : Type} (F : Nat → σ → Int32 → Option β) (P : Nat → σ → Prop) (M : Nat) (hs : ∀ n s k, k < M → P k s → ∃ s', P (k + 1) s' ∧ F (n + 1) s (nI k) = F n s' (nI (k + 1))) : ∀ (d n k : Nat) (s : σ), k + d = M → d < n → P k s → ∃ s' n', P M s' ∧ F n s (nI k) = F (n' + 1) s' (nI M) := by
  intro d
  induction d with
  | zero =>
    intro n k s h hn hp
    exact ⟨s, n - 1, by rw [← h]; exact hp, by rw [← h, show n - 1 + 1 = n by omega]; rfl⟩
  | succ d ih =>
    intro n k s h hn hp
    obtain ⟨n, rfl⟩ : ∃ n', n = n' + 1 := ⟨n - 1, by omega⟩
    obtain ⟨s', h1, h2⟩ := hs n s k (by omega) hp
    rw [h2]
    exact ih n (k + 1) s' (by omega) (by omega) h1
theorem lpEX {σ β : Type} (F : Nat → σ → Int32 → Option β) (P : Nat → σ → Prop) (Q : Option β → Prop) (M : Nat) (hs : ∀ n s k, k < M → P k s → (∃ s', P (k + 1) s' ∧ F (n + 1) s (nI k) = F n s' (nI (k + 1))) ∨ Q (F (n + 1) s (nI k))) (he : ∀ n s, P M s → Q (F (n + 1) s (nI M))) : ∀ (d n k : Nat) (s : σ), k + d = M → d < n → P k s → Q (F n s (nI k)) := by
  intro d
  induction d with
  | zero =>
    intro n k s h hn hp
    obtain ⟨n, rfl⟩ : ∃ n', n = n' + 1 := ⟨n - 1, by omega⟩
    have e : k = M := by omega
    subst e
    exact he n s hp
  | succ d ih =>
    intro n k s h hn hp
    obtain ⟨n, rfl⟩ : ∃ n', n = n' + 1 := ⟨n - 1, by omega⟩
    rcases hs n s k (by omega) hp with ⟨s', h1, h2⟩ | h2
    · rw [h2]
      exact ih n (k + 1) s' (by omega) (by omega) h1
    · exact h2
theorem N_lt {d : Nat} (h : d < 1000000) : d < mz_N := h
/-! memory -/
theorem wi_1 (D : mz_D) (g o j : Nat) (v : Int32) (a b c : Nat) : (mz_wi D g o j v).1 a b c = if b = o ∧ a = g ∧ c = j then v else D.1 a b c := rfl
theorem wi_2 (D : mz_D) (g o j : Nat) (v : Int32) : (mz_wi D g o j v).2 = D.2 := rfl
theorem wg_1 (D : mz_D) (g o j : Nat) (v : Int64) : (mz_wg D g o j v).1 = D.1 := rfl
theorem wg_2 (D : mz_D) (g o j : Nat) (v : Int64) (a b c : Nat) : (mz_wg D g o j v).2 a b c = if b = o ∧ a = g ∧ c = j then v else D.2 a b c := rfl
