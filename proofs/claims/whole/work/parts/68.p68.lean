/-! ===== rounds ===== -/
theorem tb_lt {s m k : Nat} (h : s < 2 ^ m) (hk : m ≤ k) : s.testBit k = false := Nat.testBit_lt_two_pow (Nat.lt_of_lt_of_le h (Nat.pow_le_pow_right (by omega) hk))
theorem amx_e (C : Nat → Bool) (gt : Nat → Nat → Bool) (k : Nat) : amx C gt (k + 1) = amS C gt k (amx C gt k) := by
  unfold amx
  rw [foldN_end, Nat.zero_add]
theorem amx_ext {C : Nat → Bool} {gt : Nat → Nat → Bool} {m M : Nat} (h : m ≤ M) (hC : ∀ k, m ≤ k → C k = false) : amx C gt M = amx C gt m := by
  unfold amx
  have := foldN_add (amS C gt) m (M - m) 0 none
  rw [show m + (M - m) = M by omega] at this
  rw [this]
  refine foldN_id _ _ _ (fun k b h1 h2 => ?_)
  cases b <;> simp [amS, hC k (by omega)]
theorem amx_some {C : Nat → Bool} {gt : Nat → Nat → Bool} : ∀ {M j : Nat}, amx C gt M = some j → C j = true := by
  intro M
  induction M with
  | zero => intro j e; cases e
  | succ M ih =>
    intro j e
    rw [amx_e] at e
    cases hb : amx C gt M with
    | none =>
      rw [hb] at e
      simp only [amS] at e
      split at e
      · cases e; assumption
      · cases e
    | some i =>
      rw [hb] at e
      simp only [amS] at e
      split at e
      · rename_i h
        cases e
        rw [Bool.and_eq_true] at h
        exact h.1
      · cases e
        exact ih hb
theorem amx_none {C : Nat → Bool} {gt : Nat → Nat → Bool} : ∀ {M : Nat}, amx C gt M = none → ∀ i, i < M → C i = false := by
  intro M
  induction M with
  | zero => intro _ i hi; omega
  | succ M ih =>
    intro e i hi
    rw [amx_e] at e
    cases hb : amx C gt M with
    | none =>
      rw [hb] at e
      simp only [amS] at e
      split at e
      · cases e
      · rename_i h
        by_cases h2 : i = M
        · rw [h2]; simpa using h
        · exact ih hb i (by omega)
    | some j =>
      rw [hb] at e
      simp only [amS] at e
      split at e <;> cases e
def byr (w : Nat → Int32) (ins M : Nat) : Option Nat := amx (fun k => ins.testBit k) (fun k j => decide (w j < w k)) M
theorem byr_in (w : Nat → Int32) (ins M : Nat) : inb M (byr w ins M) := amx_in M
theorem buyC {g ins : Nat} {D : mz_D} (hi : ins < 64) (e : D.1 g 117 0 = nI ins) : fX0_buyer g D = some (enc (byr (D.1 g 118) ins 6)) := by
  refine lpA (fun n s k => fX0_buyer_4 g D n s k) enc (fun k => ins.testBit k) (fun k j => decide (D.1 g 118 j < D.1 g 118 k)) 6 (fun b => some (enc b)) ?_ ?_ mz_N (N_lt (by omega))
  · intro n b k hk hb
    show fX0_buyer_4 g D (n + 1) _ (nI k) = _
    rw [fX0_buyer_4]
    unfold fX0_buyer_41
    simp (disch := omega) only [e, a1r, isIn_e]
    rw [if_neg (by rw [ol_le (c := 6) (by omega) (by omega)]; omega)]
    cases hbit : ins.testBit k with
    | false => cases b <;> simp [amS, hbit]
    | true =>
      rw [if_neg (by simp)]
      cases b with
      | none => simp [enc, amS, hbit]
      | some j =>
        have hj := hb j rfl
        rw [if_neg (fun e => by have := (enc_ne hb (by omega)).mp e; cases this)]
        simp (disch := omega) only [enc, nI_ix, gd_tt, nI_cl]
        by_cases hg : D.1 g 118 k ≤ D.1 g 118 j
        · simp [amS, enc, hg, Int32.not_lt.mpr hg]
        · simp [amS, enc, hg, Int32.not_le.mp hg, hbit]
  · intro n b hb
    show fX0_buyer_4 g D (n + 1) _ (nI 6) = _
    rw [fX0_buyer_4]
    dsimp only
    rw [if_pos (by decide)]
theorem byr_6 {w : Nat → Int32} {ins m : Nat} (hm : m ≤ 6) (hi : ins < 2 ^ m) : byr w ins 6 = byr w ins m := amx_ext hm (fun k hk => tb_lt hi hk)
theorem tR.drk {n g : Nat} {Dc E : mz_D} {m d gs ins : Nat} (h : tR n g 0 0 Dc E m d gs ins) {k : Nat} (hk : k < m) : fX12_drinksOf (nI k) E = some (Dc.1 g 118 k) := by
  have hm := h.hm
  unfold fX12_drinksOf
  simp (disch := omega) only [l8m, a12l, a6r, a7r, nI_ix, gd_tt, nI_cl, h.uAhead hk]
theorem tR.buyM {n g : Nat} {Dc E : mz_D} {m d gs ins : Nat} (h : tR n g 0 0 Dc E m d gs ins) : fX12_buyer E = some (enc (byr (Dc.1 g 118) ins m)) := by
  have hm := h.hm
  have h64 := pow_m hm
  have hi := h.hins
  refine lpA (fun n s k => fX12_buyer_4 E n s k) enc (fun k => ins.testBit k) (fun k j => decide (Dc.1 g 118 j < Dc.1 g 118 k)) m (fun b => some (enc b)) ?_ ?_ mz_N (N_lt (by omega))
  · intro n b k hk hb
    show fX12_buyer_4 E (n + 1) _ (nI k) = _
    rw [fX12_buyer_4]
    unfold fX12_buyer_47
    simp (disch := omega) only [z0, z8, h.uMany, h.uIn, nJ_le, a1r, isIn_m, isIn_e, h.drk hk, Option.bind_some]
    rw [if_neg (by omega)]
    cases hbit : ins.testBit k with
    | false => cases b <;> simp [amS, hbit]
    | true =>
      rw [if_neg (by simp)]
      cases b with
      | none => simp [enc, amS, hbit]
      | some j =>
        have hj := hb j rfl
        rw [if_neg (fun e => by have := (enc_ne hb (by omega)).mp e; cases this)]
        simp only [enc, h.drk (show j < m by omega), Option.bind_some]
        by_cases hg : Dc.1 g 118 k ≤ Dc.1 g 118 j
        · simp [amS, enc, hg, Int32.not_lt.mpr hg]
        · simp [amS, enc, hg, Int32.not_le.mp hg, hbit]
  · intro n b hb
    show fX12_buyer_4 E (n + 1) _ (nI m) = _
    rw [fX12_buyer_4]
    simp only [z0, h.uMany]
    rw [if_pos (Int32.le_refl _)]
theorem p_op48 : op_48 Inv := by
  intro n D h
  obtain ⟨m, d, gs, ins, t⟩ := iR.t h
  have hm := t.hm
  have h64 := pow_m hm
  have hi := t.hins
  have hin := byr_in (D.1 1 118) ins m
  exact q_look h (r := enc (byr (D.1 1 118) ins m)) (v := sv (byr (D.1 1 118) ins m)) (by unfold fX11_buys; rw [buyC (by omega) t.in_c, Option.bind_some, byr_6 hm hi, ans_c hin (by omega)]; rfl) (fun E he => by unfold fX12_buys; rw [(t.m he).buyM, Option.bind_some, ans_m hin (by omega)]; rfl)
/-- a round: what each is ahead by, the first k having been served -/
def bit (s i : Nat) : Int32 := if s.testBit i then 1 else 0
def srv (f : Nat → Int32) (ins b k : Nat) : Nat → Int32 := fun i => f i + (if i < k then bit ins i else 0) - (if i = b then nI (pcB ins k) else 0)
theorem pcB_6 : ∀ S, S < 64 → pcB S 6 = pcS S := by decide +kernel
theorem srv_0 (f : Nat → Int32) (ins b : Nat) : srv f ins b 0 = f := by
  funext i
  unfold srv
  rw [if_neg (by omega), pcB_0, add0]
  by_cases h : i = b
  · rw [if_pos h]; show f i - (0 : Int32) = f i; grind
  · rw [if_neg h]; grind
theorem srv_n {f : Nat → Int32} {ins b k : Nat} (hi : ins < 64) (hk : k < 6) (h : ins.testBit k = false) : srv f ins b (k + 1) = srv f ins b k := by
  have e : pcB ins (k + 1) = pcB ins k := by rw [pcB_s ins hi k hk, h]; simp
  funext i
  unfold srv
  rw [e]
  by_cases h1 : i = k
  · subst h1
    rw [if_pos (show i < i + 1 by omega), if_neg (show ¬ i < i by omega)]
    unfold bit
    rw [h]
    simp
  · by_cases h2 : i < k
    · rw [if_pos h2, if_pos (show i < k + 1 by omega)]
    · rw [if_neg h2, if_neg (show ¬ i < k + 1 by omega)]
theorem srv_s {f : Nat → Int32} {ins b k : Nat} (hi : ins < 64) (hk : k < 6) (h : ins.testBit k = true) : srv f ins b (k + 1) = up (up (srv f ins b k) k (srv f ins b k k + 1)) b (up (srv f ins b k) k (srv f ins b k k + 1) b - 1) := by
  have e : pcB ins (k + 1) = pcB ins k + 1 := by rw [pcB_s ins hi k hk, h]; simp
  have hb : bit ins k = 1 := by unfold bit; rw [h]; simp
  have en : nI (pcB ins k + 1) = nI (pcB ins k) + 1 := (a1r _).symm
  funext i
  unfold up srv
  try dsimp only
  rw [e, en]
  by_cases h1 : i = b
  · subst h1
    rw [if_pos rfl, if_pos rfl]
    by_cases h2 : i = k
    · subst h2
      rw [if_pos rfl, if_pos (show i < i + 1 by omega), if_neg (show ¬ i < i by omega), hb]
      grind
    · rw [if_neg h2]
      by_cases h3 : i < k
      · rw [if_pos h3, if_pos (show i < k + 1 by omega)]; grind
      · rw [if_neg h3, if_neg (show ¬ i < k + 1 by omega)]; grind
  · rw [if_neg h1, if_neg h1]
    by_cases h2 : i = k
    · subst h2
      rw [if_pos rfl, if_pos (show i < i + 1 by omega), if_neg (show ¬ i < i by omega), hb]
      by_cases h4 : i = b
      · exact absurd h4 h1
      · rw [if_neg h4]; grind
    · rw [if_neg h2]
      by_cases h3 : i < k
      · rw [if_pos h3, if_pos (show i < k + 1 by omega), if_neg h1]
      · rw [if_neg h3, if_neg (show ¬ i < k + 1 by omega), if_neg h1]
theorem servC {g ins : Nat} {D : mz_D} (hi : ins < 64) (e : D.1 g 117 0 = nI ins) : (byr (D.1 g 118) ins 6 = none → fX0_serve g D = some (-1, D)) ∧ (∀ b, byr (D.1 g 118) ins 6 = some b → fX0_serve g D = some (nI b, mz_wi (wr D g 118 (srv (D.1 g 118) ins b 6)) g 117 1 (D.1 g 117 1 + 1))) := by
  have hin := byr_in (D.1 g 118) ins 6
  constructor
  · intro hb
    unfold fX0_serve
    rw [buyC hi e, hb, Option.bind_some, if_pos (show enc none = -1 from rfl)]
  · intro b hb
    have hb6 := hin b hb
    unfold fX0_serve
    rw [buyC hi e, hb, Option.bind_some, show enc (some b) = nI b from rfl, if_neg (fun q => (nI_ne1 (k := b) (by omega)).mp q)]
    have key : fX0_serve_14 g mz_N (nI b) (nI 0) (wr D g 118 (srv (D.1 g 118) ins b 0)) = some (nI b, mz_wi (wr D g 118 (srv (D.1 g 118) ins b 6)) g 117 1 (D.1 g 117 1 + 1)) := lpD (fun n s k => fX0_serve_14 g n (nI b) k s) (fun k => wr D g 118 (srv (D.1 g 118) ins b k)) 6 (fun n k hk => by
      show fX0_serve_14 g (n + 1) (nI b) (nI k) (wr D g 118 (srv (D.1 g 118) ins b k)) = fX0_serve_14 g n (nI b) (nI (k + 1)) (wr D g 118 (srv (D.1 g 118) ins b (k + 1)))
      rw [fX0_serve_14]
      simp (disch := omega) only [wr_n (show 117 ≠ 118 ∨ g ≠ g from Or.inl (by decide)), e, isIn_e, nI_ix, gd_tt, nI_cl, a1r, wr_s, wr_up]
      rw [if_neg (by rw [ol_le (c := 6) (by omega) (by omega)]; omega)]
      cases hbit : ins.testBit k with
      | false => rw [srv_n hi hk hbit]; simp
      | true => rw [srv_s hi hk hbit]; simp) (fun n => by
      show fX0_serve_14 g (n + 1) (nI b) (nI 6) (wr D g 118 (srv (D.1 g 118) ins b 6)) = _
      rw [fX0_serve_14]
      dsimp only
      rw [if_pos (by decide), wr_n (Or.inl (by decide))]) 6 0 mz_N rfl (N_lt (by omega))
    rw [srv_0, wr_id] at key
    exact key
def hdR (E : mz_D) (ins k : Nat) : Nat → Int32 := fun j => if 18 ≤ j ∧ (j - 18) % 8 = 0 ∧ (j - 18) / 8 < k then E.1 0 201 j + bit ins ((j - 18) / 8) else E.1 0 201 j
theorem hdR_0 (E : mz_D) (ins : Nat) : hdR E ins 0 = E.1 0 201 := by funext j; exact if_neg (by omega)
theorem hdR_n {E : mz_D} {ins k j : Nat} (h : ¬ (18 ≤ j ∧ (j - 18) % 8 = 0 ∧ (j - 18) / 8 < k)) : hdR E ins k j = E.1 0 201 j := if_neg h
theorem hdR_y {E : mz_D} {ins k p : Nat} (h : p < k) : hdR E ins k (18 + 8 * p) = E.1 0 201 (18 + 8 * p) + bit ins p := by
  unfold hdR
  rw [if_pos (by omega), show (18 + 8 * p - 18) / 8 = p by omega]
theorem hdR_s {E : mz_D} {ins k : Nat} : hdR E ins (k + 1) = up (hdR E ins k) (18 + 8 * k) (E.1 0 201 (18 + 8 * k) + bit ins k) := by
  funext j
  unfold up
  by_cases h1 : j = 18 + 8 * k
  · rw [if_pos h1, h1, hdR_y (by omega)]
  · rw [if_neg h1]
    unfold hdR
    by_cases h2 : 18 ≤ j ∧ (j - 18) % 8 = 0 ∧ (j - 18) / 8 < k
    · rw [if_pos h2, if_pos (by omega)]
    · rw [if_neg h2, if_neg (by omega)]
theorem shr_e : ∀ s, s < 64 → ∀ p, p < 6 → ((nI s >>> (nI p &&& 31)) &&& (1 : Int32)) = bit s p := by decide +kernel
theorem tR.rndM {n g : Nat} {Dc E : mz_D} {m d gs ins : Nat} (h : tR n g 0 0 Dc E m d gs ins) : (byr (Dc.1 g 118) ins m = none → fX12_rounds E = some (-1, E)) ∧ (∀ b, byr (Dc.1 g 118) ins m = some b → fX12_rounds E = some (nI b, mz_wi (mz_wi (wr E 0 201 (hdR E ins m)) 0 201 (12 + 8 * b + 7) (E.1 0 201 (12 + 8 * b + 7) + nI (pcS ins))) 0 201 5 (E.1 0 201 5 + 1))) := by
  have hm := h.hm
  have h64 := pow_m hm
  have hi := h.hins
  have hin := byr_in (Dc.1 g 118) ins m
  constructor
  · intro hb
    unfold fX12_rounds
    rw [h.buyM, hb, Option.bind_some, if_pos (show enc none = -1 from rfl)]
  · intro b hb
    have hb6 := hin b hb
    unfold fX12_rounds
    rw [h.buyM, hb, Option.bind_some, show enc (some b) = nI b from rfl, if_neg (fun q => (nI_ne1 (k := b) (by omega)).mp q)]
    have key : fX12_rounds_14 mz_N (nI b) (nI 0) (wr E 0 201 (hdR E ins 0)) = some (nI b, mz_wi (mz_wi (wr E 0 201 (hdR E ins m)) 0 201 (12 + 8 * b + 7) (E.1 0 201 (12 + 8 * b + 7) + nI (pcS ins))) 0 201 5 (E.1 0 201 5 + 1)) := lpD (fun n s k => fX12_rounds_14 n (nI b) k s) (fun k => wr E 0 201 (hdR E ins k)) m (fun n k hk => by
      show fX12_rounds_14 (n + 1) (nI b) (nI k) (wr E 0 201 (hdR E ins k)) = fX12_rounds_14 n (nI b) (nI (k + 1)) (wr E 0 201 (hdR E ins (k + 1)))
      have e18 : hdR E ins k (12 + 8 * k + 6) = E.1 0 201 (12 + 8 * k + 6) := hdR_n (by omega)
      rw [fX12_rounds_14]
      simp (disch := omega) only [z0, z8, wr_s, hdR_n (show ¬ (18 ≤ 0 ∧ (0 - 18) % 8 = 0 ∧ (0 - 18) / 8 < k) by omega), hdR_n (show ¬ (18 ≤ 8 ∧ (8 - 18) % 8 = 0 ∧ (8 - 18) / 8 < k) by omega), h.uMany, h.uIn, nJ_le, l8m, a12l, a6r, nI_ix, gd_tt, nI_cl, a1r, e18, wr_up, shr_e]
      rw [if_neg (by omega), hdR_s, show 12 + 8 * k + 6 = 18 + 8 * k by omega]) (fun n => by
      show fX12_rounds_14 (n + 1) (nI b) (nI m) (wr E 0 201 (hdR E ins m)) = _
      have e19 : hdR E ins m (12 + 8 * b + 7) = E.1 0 201 (12 + 8 * b + 7) := hdR_n (by omega)
      rw [fX12_rounds_14]
      simp (disch := omega) only [z0, z5, z8, wr_s, hdR_n (show ¬ (18 ≤ 0 ∧ (0 - 18) % 8 = 0 ∧ (0 - 18) / 8 < m) by omega), hdR_n (show ¬ (18 ≤ 8 ∧ (8 - 18) % 8 = 0 ∧ (8 - 18) / 8 < m) by omega), hdR_n (show ¬ (18 ≤ 5 ∧ (5 - 18) % 8 = 0 ∧ (5 - 18) / 8 < m) by omega), h.uMany, h.uIn, l8m, a12l, a7r, nI_ix, gd_tt, nI_cl, e19, bits_e, Option.bind_some, wi_n]
      rw [if_pos (Int32.le_refl _)]) m 0 mz_N (by omega) (N_lt (by omega))
    rw [hdR_0, wr_id] at key
    exact key
theorem tR.srvR {n g : Nat} {Dc E : mz_D} {m d gs ins : Nat} (h : tR n g 0 0 Dc E m d gs ins) {b : Nat} (hb : b < m) : tR n g 0 0 (mz_wi (wr Dc g 118 (srv (Dc.1 g 118) ins b 6)) g 117 1 (Dc.1 g 117 1 + 1)) (mz_wi (mz_wi (wr E 0 201 (hdR E ins m)) 0 201 (12 + 8 * b + 7) (E.1 0 201 (12 + 8 * b + 7) + nI (pcS ins))) 0 201 5 (E.1 0 201 5 + 1)) m d gs ins := by
  have hm := h.hm
  have hd := h.hd
  have h64 := pow_m hm
  have hi := h.hins
  have C : ∀ o j, o ≠ 118 → ¬ (o = 117 ∧ j = 1) → (mz_wi (wr Dc g 118 (srv (Dc.1 g 118) ins b 6)) g 117 1 (Dc.1 g 117 1 + 1)).1 g o j = Dc.1 g o j := fun o j h1 h2 => by rw [wi_n (by omega), wr_n (by omega)]
  have M : ∀ j, ¬ (18 ≤ j ∧ j < 66 ∧ 6 ≤ (j - 12) % 8) → j ≠ 5 → (mz_wi (mz_wi (wr E 0 201 (hdR E ins m)) 0 201 (12 + 8 * b + 7) (E.1 0 201 (12 + 8 * b + 7) + nI (pcS ins))) 0 201 5 (E.1 0 201 5 + 1)).1 0 201 j = E.1 0 201 j := fun j h1 h2 => by rw [wi_n (by omega), wi_n (by omega), wr_s, hdR_n (by omega)]
  refine h.mut (fun o j hq hk => ⟨C o j (by unfold mC at hk; omega) (by unfold mC at hk; omega), rfl⟩) (fun j hj hk => M j (by unfold mM at hk; omega) (by unfold mM at hk; omega)) (fun _ _ => rfl) h.hd h.hins ?_ ?_ ?_ ?_ ?_ ?_ ?_ ?_ ?_ ?_ ?_ ?_ ?_ ?_ ?_ ?_
  · rw [C _ _ (by decide) (by omega)]; exact h.dish_c
  · rw [M _ (by omega) (by omega)]; exact h.uDish
  · rw [C _ _ (by decide) (by omega), M _ (by omega) (by omega)]; exact h.uSplit
  · rw [C _ _ (by decide) (by omega)]; exact h.split_b
  · rw [C _ _ (by decide) (by omega), M _ (by omega) (by omega)]; exact h.uLaw
  · rw [C _ _ (by decide) (by omega)]; exact h.law_b
  · rw [wi_s, wi_s, h.uRounds]
  · rw [C _ _ (by decide) (by omega), M _ (by omega) (by omega)]; exact h.uGifts
  · rw [C _ _ (by decide) (by omega)]; exact h.in_c
  · rw [M _ (by omega) (by omega)]; exact h.uIn
  · intro p hp; rw [C _ _ (by decide) (by omega), M _ (by omega) (by omega)]; exact h.vPaid hp
  · intro p hp
    have ha := h.vAhead hp
    rw [wi_n (by omega), wi_n (by omega), wr_s, hdR_y hp, wi_n (show 201 ≠ 201 ∨ 0 ≠ 0 ∨ 19 + 8 * p ≠ 5 by omega), wi_n (show 118 ≠ 117 ∨ g ≠ g ∨ p ≠ 1 by omega), wr_s]
    unfold srv
    rw [if_pos (show p < 6 by omega), pcB_6 ins (by omega)]
    by_cases e : p = b
    · subst e
      rw [if_pos rfl, show 19 + 8 * p = 12 + 8 * p + 7 by omega, wi_s, ← ha, show 12 + 8 * p + 7 = 19 + 8 * p by omega]
      grind
    · rw [if_neg e, wi_n (show 201 ≠ 201 ∨ 0 ≠ 0 ∨ 19 + 8 * p ≠ 12 + 8 * b + 7 by omega), wr_s, hdR_n (by omega), ← ha]
      grind
  · intro k hk; rw [C _ _ (by decide) (by omega), M _ (by omega) (by omega)]; exact h.vPrice hk
  · intro k hk; rw [C _ _ (by decide) (by omega), M _ (by omega) (by omega)]; exact h.vEater hk
  · intro k hk; rw [C _ _ (by decide) (by omega), M _ (by omega) (by omega)]; exact h.vDebt hk
  · intro p q hp hq hpq; rw [C _ _ (by decide) (by omega)]; exact h.nodebt p q hp hq hpq
theorem kM_hd {E : mz_D} {ins m b : Nat} (hm : m ≤ 6) (hb : b < m) (x y : Int32) : kM E (mz_wi (mz_wi (wr E 0 201 (hdR E ins m)) 0 201 (12 + 8 * b + 7) x) 0 201 5 y) := ((kM_wr (fun j hj => hdR_n (by omega))).tr (kM_wi (j := 12 + 8 * b + 7) (by omega))).tr (kM_wi (j := 5) (by omega))
theorem p_op49 : op_49 Inv := by
  intro n D h
  obtain ⟨m, d, gs, ins, t⟩ := iR.t h
  have hm := t.hm
  have h64 := pow_m hm
  have hi := t.hins
  have hin := byr_in (D.1 1 118) ins m
  have sc := servC (g := 1) (D := D) (show ins < 64 by omega) t.in_c
  rw [byr_6 hm hi] at sc
  cases hb : byr (D.1 1 118) ins m with
  | none => exact q_look h (r := -1) (v := 6) (by unfold fX11_round; rw [sc.1 hb, Option.bind_some]; rfl) (fun E he => by unfold fX12_round; rw [(t.m he).rndM.1 hb, Option.bind_some]; rfl)
  | some b =>
    have hb6 := hin b hb
    have hib : inb m (some b) := fun j e => by cases e; exact hb6
    refine q_tab h (r := nI b) (v := 0) ((kC_wr (o := 118) (f := srv (D.1 1 118) ins b 6) (by omega)).tr (kC_wi (o := 117) (j := 1) (v := D.1 1 117 1 + 1) (by omega))) ?_ (fun E he => ⟨_, kM_hd hm hb6 (E.1 0 201 (12 + 8 * b + 7) + nI (pcS ins)) (E.1 0 201 5 + 1), ?_, m, d, gs, ins, ((t.m he).srvR hb6).mono (Nat.le_succ n)⟩)
    · unfold fX11_round
      rw [sc.2 b hb, Option.bind_some]
      show Option.bind (fX11_answerIfAny (enc (some b)) _) _ = _
      rw [ans_c hib (by omega)]
      rfl
    · unfold fX12_round
      rw [(t.m he).rndM.2 b hb, Option.bind_some]
      show Option.bind (fX12_orNone (enc (some b)) _) _ = _
      rw [ans_m hib (by omega)]
      rfl
