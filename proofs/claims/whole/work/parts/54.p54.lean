/-! ===== the first best of several ===== -/
def amS (C : Nat → Bool) (gt : Nat → Nat → Bool) (k : Nat) : Option Nat → Option Nat
  | none => if C k then some k else none
  | some j => if C k && gt k j then some k else some j
def amx (C : Nat → Bool) (gt : Nat → Nat → Bool) (M : Nat) : Option Nat := foldN (amS C gt) 0 M none
def enc : Option Nat → Int32
  | none => -1
  | some j => nI j
def inb (k : Nat) (b : Option Nat) : Prop := ∀ j, b = some j → j < k
theorem amS_in {C : Nat → Bool} {gt : Nat → Nat → Bool} {k : Nat} {b : Option Nat} (h : inb k b) : inb (k + 1) (amS C gt k b) := by
  intro j
  cases b with
  | none =>
    simp only [amS]
    split
    · intro e; cases e; omega
    · intro e; cases e
  | some i =>
    have := h i rfl
    simp only [amS]
    split
    · intro e; cases e; omega
    · intro e; cases e; omega
theorem amx_in {C : Nat → Bool} {gt : Nat → Nat → Bool} (M : Nat) : inb M (amx C gt M) := by
  induction M with
  | zero => intro j e; cases e
  | succ M ih =>
    have : amx C gt (M + 1) = amS C gt M (amx C gt M) := by
      have := foldN_end (amS C gt) M 0 none
      rw [Nat.zero_add] at this
      exact this
    rw [this]
    exact amS_in ih
theorem amx_congr {C C' : Nat → Bool} {gt gt' : Nat → Nat → Bool} {M : Nat} (hC : ∀ k, k < M → C k = C' k) (hg : ∀ k j, k < M → j < M → gt k j = gt' k j) : amx C gt M = amx C' gt' M := by
  have key : ∀ d, d ≤ M → foldN (amS C gt) 0 d none = foldN (amS C' gt') 0 d none := by
    intro d
    induction d with
    | zero => intro _; rfl
    | succ d ih =>
      intro hd
      rw [foldN_end, foldN_end, ih (by omega), Nat.zero_add]
      have hin := amx_in (C := C') (gt := gt') d
      unfold amx at hin
      cases hb : foldN (amS C' gt') 0 d none with
      | none => simp only [amS, hC d (by omega)]
      | some j =>
        have := hin j hb
        simp only [amS, hC d (by omega), hg d j (by omega) (by omega)]
  exact key M (Nat.le_refl _)
def sv : Option Nat → Int32
  | none => 6
  | some _ => 0
theorem enc_ne {b : Option Nat} {M : Nat} (h : inb M b) (hM : M ≤ 2147483648) : enc b = -1 ↔ b = none := by
  cases b with
  | none => exact ⟨fun _ => rfl, fun _ => rfl⟩
  | some j =>
    have := h j rfl
    unfold enc
    rw [nI_ne1 (by omega)]
    exact ⟨False.elim, fun e => by cases e⟩
theorem ans_c {b : Option Nat} {M : Nat} (h : inb M b) (hM : M ≤ 2147483648) (D : mz_D) : fX11_answerIfAny (enc b) D = some (enc b, mz_wi D 0 0 13 (sv b)) := by
  unfold fX11_answerIfAny
  have := enc_ne h hM
  cases b with
  | none => rfl
  | some j => rw [if_neg (fun e => by have := this.mp e; cases this)]; rfl
theorem ans_m {b : Option Nat} {M : Nat} (h : inb M b) (hM : M ≤ 2147483648) (D : mz_D) : fX12_orNone (enc b) D = some (enc b, mz_wi D 0 200 2 (sv b)) := by
  unfold fX12_orNone
  have := enc_ne h hM
  cases b with
  | none => rfl
  | some j => rw [if_neg (fun e => by have := this.mp e; cases this)]; rfl
/-- a loop that looks for the first best: what it holds is a function of the best -/
theorem lpA {σ β : Type} (F : Nat → σ → Int32 → Option β) (e : Option Nat → σ) (C : Nat → Bool) (gt : Nat → Nat → Bool) (M : Nat) (fin : Option Nat → Option β) (hs : ∀ n b k, k < M → inb k b → F (n + 1) (e b) (nI k) = F n (e (amS C gt k b)) (nI (k + 1))) (he : ∀ n b, inb M b → F (n + 1) (e b) (nI M) = fin b) (n : Nat) (hn : M < n) : F n (e none) (nI 0) = fin (amx C gt M) := by
  have h := lp (fun n b k => F n (e b) k) (amS C gt) inb M (fun n b k hk hb => ⟨hs n b k hk hb, amS_in hb⟩) M n 0 none (by omega) hn (fun j h => by cases h)
  have h1 : F n (e none) (nI 0) = _ := h.1
  rw [h1]
  obtain ⟨n', e'⟩ : ∃ n', n - M = n' + 1 := ⟨n - M - 1, by omega⟩
  rw [e']
  exact he n' _ h.2
def sReg (g : Nat) (D : mz_D) (m p : Nat) : Int32 := D.1 g 105 p * (sPaid g D m - D.1 g 108 p) - sBal g D p
theorem tR.regretOf {n g : Nat} {Dc Dm : mz_D} {m d gs ins : Nat} (h : tR n g 0 0 Dc Dm m d gs ins) {p : Nat} (hp : p < m) : fX6_regretOf g (nI p) Dc = some (sReg g Dc m p) := by
  have hm := h.hm
  unfold fX6_regretOf
  rw [h.paidAll]
  simp (disch := omega) only [Option.bind_some, nI_ix, gd_tt, tR.bal (show p < 6 by omega), nI_cl]
  rfl
theorem tR.regretOfM {n g : Nat} {Dc Dm : mz_D} {m d gs ins : Nat} (h : tR n g 0 0 Dc Dm m d gs ins) {p : Nat} (hp : p < m) : fX12_regretOf (nI p) Dm = some (sReg g Dc m p) := by
  have hm := h.hm
  unfold fX12_regretOf
  simp (disch := omega) only [h.paidAllM, Option.bind_some, l8m, a12l, a2r, a5r, nI_ix, gd_tt, h.balM (show p < 6 by omega), nI_cl, h.uMinds hp, h.uPaid hp]
  rfl
theorem p_op34 : op_34 Inv := by
  intro n D x1 h
  obtain ⟨m, d, gs, ins, t⟩ := iR.t h
  rcases has_or t.hm t.many_c t.many_m x1 with ⟨c1, c2⟩ | ⟨p, hp, rfl, c1, c2⟩
  · exact q_look h (r := -1) (v := 1) (by unfold fX11_regret; rw [if_pos c1]) (fun E he => by unfold fX12_regret; rw [if_pos (by rw [has_m he]; exact c2)])
  · exact q_look h (r := sReg 1 D m p) (v := 0) (by unfold fX11_regret; simp [c1, t.regretOf hp]) (fun E he => by unfold fX12_regret; simp [has_m he, c2, (t.m he).regretOfM hp])
theorem p_op38 : op_38 Inv := by
  intro n D x1 h
  obtain ⟨m, d, gs, ins, t⟩ := iR.t h
  have hm := t.hm
  rcases has_or t.hm t.many_c t.many_m x1 with ⟨c1, c2⟩ | ⟨p, hp, rfl, c1, c2⟩
  · exact q_look h (r := -1) (v := 1) (by unfold fX11_balance; rw [if_pos c1]) (fun E he => by unfold fX12_balance; rw [if_pos (by rw [has_m he]; exact c2)])
  · exact q_look h (r := sBal 1 D p) (v := 0) (by unfold fX11_balance; simp [c1, tR.bal (g := 1) (Dc := D) (show p < 6 by omega)]) (fun E he => by unfold fX12_balance; simp [has_m he, c2, (t.m he).balM (show p < 6 by omega)])
theorem p_op25 : op_25 Inv := by
  intro n D x1 h
  obtain ⟨m, d, gs, ins, t⟩ := iR.t h
  by_cases hx : 0 ≤ x1 ∧ x1 ≤ 99999
  · have hx2 : ¬ (x1.toInt < 0 ∨ 99999 < x1.toInt) := by
      have h1 := i_le.mp hx.1; have h2 := i_le.mp hx.2
      have e1 : (0 : Int32).toInt = 0 := rfl
      have e2 : (99999 : Int32).toInt = 99999 := rfl
      omega
    exact q_look h (r := x1 - sTot 1 D d) (v := 0) (by unfold fX11_padded; rw [if_neg (Int32.not_lt.mpr hx.1), if_pos hx.2, t.total]; rfl) (fun E he => by unfold fX12_padded; rw [from_e, t64, if_neg (show ¬ (x1.toInt < (0 : Int64).toInt ∨ (99999 : Int64).toInt < x1.toInt) from hx2), if_neg one_ne, (t.m he).bill]; rfl)
  · have hx2 : x1.toInt < 0 ∨ 99999 < x1.toInt := by
      rw [i_le, i_le] at hx
      have e1 : (0 : Int32).toInt = 0 := rfl
      have e2 : (99999 : Int32).toInt = 99999 := rfl
      omega
    exact q_look h (r := -1) (v := 1) (by unfold fX11_padded; grind) (fun E he => by unfold fX12_padded; rw [from_e, t64, if_pos (show (x1.toInt < (0 : Int64).toInt ∨ (99999 : Int64).toInt < x1.toInt) from hx2), if_pos rfl])
theorem p_op36 : op_36 Inv := by
  intro n D x1 x2 h
  obtain ⟨m, d, gs, ins, t⟩ := iR.t h
  have hm := t.hm
  rcases two_or (g := 1) t.hm t.many_c t.many_m x1 x2 with ⟨c1, c2⟩ | ⟨p, q, hp, hq, hne, rfl, rfl, c1, c2⟩
  · exact q_look h (r := -1) (v := 1) (by unfold fX11_owes; rw [if_pos c1]) (fun E he => by unfold fX12_owes; rw [if_pos (by rw [two_m he]; exact c2)])
  · exact q_look h (r := D.1 1 114 (p * 6 + q)) (v := 0) (by unfold fX11_owes fX2_get; simp (disch := omega) [c1, r6m, nI_add, nI_ix, gd_tt, nI_cl]) (fun E he => by unfold fX12_owes; simp (disch := omega) [two_m he, c2, l6m, a92l, nI_add, nI_ix, gd_tt, nI_cl, (t.m he).uDebt (show p < 6 by omega) (show q < 6 by omega)])
theorem gt_d (a b : Int32) : (decide (b < a) = true) ↔ ¬ a ≤ b := by rw [decide_eq_true_eq, Int32.not_le]
theorem p_op35 : op_35 Inv := by
  intro n D h
  obtain ⟨m, d, gs, ins, t⟩ := iR.t h
  have hm := t.hm
  have hin := amx_in (C := fun _ => true) (gt := fun k j => decide (sReg 1 D m j < sReg 1 D m k)) m
  refine q_look h (r := enc (amx (fun _ => true) (fun k j => decide (sReg 1 D m j < sReg 1 D m k)) m)) (v := sv (amx (fun _ => true) (fun k j => decide (sReg 1 D m j < sReg 1 D m k)) m)) ?_ (fun E he => ?_)
  · unfold fX11_sorest
    refine (lpA (fun n (s : Int32 × Int32) k => fX11_sorest_6 n s.1 s.2 k D) (fun b => (enc b, match b with | none => 0 | some j => sReg 1 D m j)) (fun _ => true) (fun k j => decide (sReg 1 D m j < sReg 1 D m k)) m (fun b => fX11_answerIfAny (enc b) D) ?_ ?_ mz_N (N_lt (by omega))).trans (ans_c hin (by omega) D)
    · intro n b k hk hb
      show fX11_sorest_6 (n + 1) _ _ (nI k) D = _
      rw [fX11_sorest_6]
      unfold fX11_sorest_41
      simp (disch := omega) only [t.many_c, nJ_le, t.regretOf hk, Option.bind_some, a1r]
      rw [if_neg (by omega)]
      cases b with
      | none => simp [enc, amS]
      | some j =>
        have := hb j rfl
        rw [if_neg (fun e => by have := (enc_ne hb (by omega)).mp e; cases this)]
        by_cases hg : sReg 1 D m k ≤ sReg 1 D m j
        · simp [amS, enc, hg, Int32.not_lt.mpr hg]
        · simp [amS, enc, hg, Int32.not_le.mp hg]
    · intro n b hb
      show fX11_sorest_6 (n + 1) _ _ (nI m) D = _
      rw [fX11_sorest_6]
      simp only [t.many_c]
      rw [if_pos (Int32.le_refl _)]
      cases fX11_answerIfAny (enc b) D <;> rfl
  · have t2 := t.m he
    unfold fX12_sorest
    refine (lpA (fun n s k => fX12_sorest_4 n s k E) enc (fun _ => true) (fun k j => decide (sReg 1 D m j < sReg 1 D m k)) m (fun b => fX12_orNone (enc b) E) ?_ ?_ mz_N (N_lt (by omega))).trans (ans_m hin (by omega) E)
    · intro n b k hk hb
      show fX12_sorest_4 (n + 1) _ (nI k) E = _
      rw [fX12_sorest_4]
      unfold fX12_sorest_32
      simp (disch := omega) only [z0, t2.uMany, nJ_le, t2.regretOfM hk, Option.bind_some, a1r]
      rw [if_neg (by omega)]
      cases b with
      | none => simp [enc, amS]
      | some j =>
        have hj := hb j rfl
        rw [if_neg (fun e => by have := (enc_ne hb (by omega)).mp e; cases this)]
        simp only [enc, t2.regretOfM (show j < m by omega), Option.bind_some]
        by_cases hg : sReg 1 D m k ≤ sReg 1 D m j
        · simp [amS, enc, hg, Int32.not_lt.mpr hg]
        · simp [amS, enc, hg, Int32.not_le.mp hg]
    · intro n b hb
      show fX12_sorest_4 (n + 1) _ (nI m) E = _
      rw [fX12_sorest_4]
      simp only [z0, t2.uMany]
      rw [if_pos (Int32.le_refl _)]
      cases fX12_orNone (enc b) E <;> rfl
