/-! ===== who pays ===== -/
theorem tR.setPaid {n g : Nat} {Dc Dm : mz_D} {m d gs ins : Nat} (h : tR n g 0 0 Dc Dm m d gs ins) {p : Nat} (hp : p < m) {x : Int32} (hx : bd x 0 (301 * n)) : tR n g 0 0 (mz_wi Dc g 108 p x) (mz_wi Dm 0 201 (12 + 8 * p + 5) x) m d gs ins := by
  have hm := h.hm
  have hd := h.hd
  refine h.mut (fun o j hq hk => ⟨by unfold mC at hk; simp (disch := omega) only [wi_s, wi_n], rfl⟩) (fun j hj hk => by unfold mM at hk; simp (disch := omega) only [wi_s, wi_n]) (fun _ _ => rfl) h.hd h.hins ?_ ?_ ?_ ?_ ?_ ?_ ?_ ?_ ?_ ?_ ?_ ?_ ?_ ?_ ?_ ?_
  · simp (disch := omega) only [wi_s, wi_n]; exact h.dish_c
  · simp (disch := omega) only [wi_s, wi_n]; exact h.uDish
  · simp (disch := omega) only [wi_s, wi_n]; exact h.uSplit
  · simp (disch := omega) only [wi_s, wi_n]; exact h.split_b
  · simp (disch := omega) only [wi_s, wi_n]; exact h.uLaw
  · simp (disch := omega) only [wi_s, wi_n]; exact h.law_b
  · simp (disch := omega) only [wi_s, wi_n]; exact h.uRounds
  · simp (disch := omega) only [wi_s, wi_n]; exact h.uGifts
  · simp (disch := omega) only [wi_s, wi_n]; exact h.in_c
  · simp (disch := omega) only [wi_s, wi_n]; exact h.uIn
  · intro q hq
    by_cases e : q = p
    · subst e
      rw [show 17 + 8 * q = 12 + 8 * q + 5 by omega]
      simp (disch := omega) only [wi_s, wi_n]; exact ⟨by first | rfl | trivial, hx⟩
    · simp (disch := omega) only [wi_s, wi_n]; exact h.vPaid hq
  · intro p hp; simp (disch := omega) only [wi_s, wi_n]; exact h.vAhead hp
  · intro k hk; simp (disch := omega) only [wi_s, wi_n]; exact h.vPrice hk
  · intro k hk; simp (disch := omega) only [wi_s, wi_n]; exact h.vEater hk
  · intro k hk; simp (disch := omega) only [wi_s, wi_n]; exact h.vDebt hk
  · intro p q hp hq hpq; simp (disch := omega) only [wi_s, wi_n]; exact h.nodebt p q hp hq hpq
theorem pp_b {A : Int32} {S i : Nat} {B : Int} (hA : 0 ≤ A.toInt) (hB : A.toInt ≤ B) (hb : B < 2000000000) : 0 ≤ (pp A S i).toInt ∧ (pp A S i).toInt ≤ B + 1 := by
  unfold pp
  have h6 := pc_le S
  have e0 : (nI (pcS S)).toInt = (pcS S : Int) := nI_toInt (by omega)
  have e1 : (A / nI (pcS S)).toInt = A.toInt / (pcS S : Int) := by
    rw [Int32.toInt_div_of_ne_right _ _ (fun e => by have := (nI_ne1 (k := pcS S) (by omega)).mp e; exact this), e0, Int.tdiv_eq_ediv_of_nonneg hA]
  have b1 : 0 ≤ A.toInt / (pcS S : Int) := Int.ediv_nonneg hA (by omega)
  have b2 : A.toInt / (pcS S : Int) ≤ A.toInt := Int.ediv_le_self _ hA
  have z : (0 : Int32).toInt = 0 := rfl
  have o : (1 : Int32).toInt = 1 := rfl
  split
  · split
    · rw [i_add (by omega) (by omega)]; omega
    · rw [i_add (by omega) (by omega)]; omega
  · omega
theorem tR.totB {n g b nb : Nat} {Dc Dm : mz_D} {m d gs ins : Nat} (h : tR n g b nb Dc Dm m d gs ins) : 0 ≤ (sTot g Dc d).toInt ∧ (sTot g Dc d).toInt ≤ 15984 := by
  have hd := h.hd
  have := bd_sum (F := fun k => Dc.1 g 110 k) (B := 999) (M := d) (by omega) (fun k hk => by have := (h.price k hk).2; unfold bd at this; show 0 ≤ (Dc.1 g 110 k).toInt ∧ _; omega) (by omega) d (Nat.le_refl _)
  unfold sTot
  omega
theorem tR.comB {n g b nb : Nat} {Dc Dm : mz_D} {m d gs ins : Nat} (h : tR n g b nb Dc Dm m d gs ins) : 0 ≤ (sCom g Dc d).toInt ∧ (sCom g Dc d).toInt ≤ 15984 := by
  have hd := h.hd
  have := bd_sum (F := fun k => if Dc.1 g 111 k = -1 then Dc.1 g 110 k else 0) (B := 999) (M := d) (by omega) (fun k hk => by
    have := (h.price k hk).2
    unfold bd at this
    show 0 ≤ (if Dc.1 g 111 k = -1 then Dc.1 g 110 k else 0).toInt ∧ (if Dc.1 g 111 k = -1 then Dc.1 g 110 k else 0).toInt ≤ 999
    split
    · omega
    · decide) (by omega) d (Nat.le_refl _)
  unfold sCom
  omega
theorem tR.ownB {n g b nb : Nat} {Dc Dm : mz_D} {m d gs ins : Nat} (h : tR n g b nb Dc Dm m d gs ins) (i : Nat) : 0 ≤ (sOwn g Dc d i).toInt ∧ (sOwn g Dc d i).toInt ≤ 15984 := by
  have hd := h.hd
  have := bd_sum (F := fun k => if Dc.1 g 111 k = nI i then Dc.1 g 110 k else 0) (B := 999) (M := d) (by omega) (fun k hk => by
    have := (h.price k hk).2
    unfold bd at this
    show 0 ≤ (if Dc.1 g 111 k = nI i then Dc.1 g 110 k else 0).toInt ∧ (if Dc.1 g 111 k = nI i then Dc.1 g 110 k else 0).toInt ≤ 999
    split
    · omega
    · decide) (by omega) d (Nat.le_refl _)
  unfold sOwn
  omega
theorem tR.eatB {n g b nb : Nat} {Dc Dm : mz_D} {m d gs ins : Nat} (h : tR n g b nb Dc Dm m d gs ins) (i : Nat) : 0 ≤ (sEat g Dc m d i).toInt ∧ (sEat g Dc m d i).toInt ≤ 31969 := by
  have h1 := h.ownB i
  have h2 := h.comB
  have h3 := pp_b (S := 2 ^ m - 1) (i := i) h2.1 h2.2 (by omega)
  unfold sEat
  rw [i_add (by omega) (by omega)]
  omega
theorem tR.dueB {n g b nb : Nat} {Dc Dm : mz_D} {m d gs ins : Nat} (h : tR n g b nb Dc Dm m d gs ins) (s : Int32) (i : Nat) : bd (sDue g Dc m d gs s i) 0 999999 := by
  have h1 := h.totB
  have h2 := h.eatB i
  have hm := h.hm
  have h3 : 0 ≤ (sGst g Dc m d (hdS m gs) m).toInt ∧ (sGst g Dc m d (hdS m gs) m).toInt ≤ 191814 := by
    have := bd_sum (F := fun k => if (hdS m gs).testBit k then 0 else sEat g Dc m d k) (B := 31969) (M := m) (by omega) (fun k hk => by
      have := h.eatB k
      show 0 ≤ (if (hdS m gs).testBit k then 0 else sEat g Dc m d k).toInt ∧ (if (hdS m gs).testBit k then 0 else sEat g Dc m d k).toInt ≤ 31969
      split
      · decide
      · omega) (by omega) m (Nat.le_refl _)
    unfold sGst
    omega
  have z : (0 : Int32).toInt = 0 := rfl
  unfold sDue bd
  split
  · have := pp_b (S := hdS m gs) (i := i) h1.1 h1.2 (by omega); omega
  · split
    · have := pp_b (S := uF g Dc (hdS m gs) m) (i := i) h1.1 h1.2 (by omega); omega
    · split
      · have := pp_b (S := hdS m gs) (i := i) h3.1 h3.2 (by omega)
        rw [i_add (by omega) (by omega)]
        omega
      · omega
theorem least {P : Nat → Prop} : ∀ {m : Nat}, (¬ ∀ i, i < m → P i) → ∃ i, i < m ∧ ¬ P i ∧ ∀ j, j < i → P j := by
  intro m
  induction m with
  | zero => intro h; exact absurd (fun i hi => by omega) h
  | succ m ih =>
    intro h
    by_cases h1 : ∀ i, i < m → P i
    · refine ⟨m, by omega, fun hp => h (fun i hi => ?_), h1⟩
      by_cases e : i = m
      · rw [e]; exact hp
      · exact h1 i (by omega)
    · obtain ⟨i, a, b, c⟩ := ih h1
      exact ⟨i, by omega, b, c⟩
/-- debts to p, the first k of the others having been charged -/
def dkR (f v : Nat → Int32) (p k : Nat) : Nat → Int32 := fun c => if c < 36 ∧ c % 6 = p ∧ c / 6 < k ∧ c / 6 ≠ p then f c + v (c / 6) else f c
theorem dkR_0 (f v : Nat → Int32) (p : Nat) : dkR f v p 0 = f := by funext c; exact if_neg (by omega)
theorem dkR_p (f v : Nat → Int32) (p : Nat) : dkR f v p (p + 1) = dkR f v p p := by
  funext c
  unfold dkR
  try dsimp only
  by_cases h : c < 36 ∧ c % 6 = p ∧ c / 6 < p ∧ c / 6 ≠ p
  · rw [if_pos h, if_pos (by omega)]
  · rw [if_neg h, if_neg (by omega)]
theorem dkR_k (f v : Nat → Int32) {p k : Nat} (hp : p < 6) : dkR f v p k (k * 6 + p) = f (k * 6 + p) := if_neg (by omega)
theorem dkR_s (f v : Nat → Int32) {p k : Nat} (hp : p < 6) (hk : k < 6) (h : k ≠ p) : dkR f v p (k + 1) = up (dkR f v p k) (k * 6 + p) (f (k * 6 + p) + v k) := by
  funext c
  unfold dkR up
  try dsimp only
  by_cases e : c = k * 6 + p
  · rw [if_pos e, if_pos (by omega), e, show (k * 6 + p) / 6 = k by omega]
  · rw [if_neg e]
    by_cases h : c < 36 ∧ c % 6 = p ∧ c / 6 < k ∧ c / 6 ≠ p
    · rw [if_pos h, if_pos (by omega)]
    · rw [if_neg h, if_neg (by omega)]
theorem dkR_n {f v : Nat → Int32} {p k c : Nat} (h : ¬ (c % 6 = p ∧ c / 6 < k)) : dkR f v p k c = f c := if_neg (by omega)
theorem dkR_b {f v : Nat → Int32} {p m k : Nat} (hp : p < 6) (hk : k ≤ m) (hf : ∀ c, c < 36 → bd (f c) 0 999999) (hv : ∀ i, bd (v i) 0 999999) (ok : ∀ i, i < m → i ≠ p → f (i * 6 + p) + v i ≤ 999999) : ∀ c, c < 36 → bd (dkR f v p k c) 0 999999 := by
  intro c hc
  unfold dkR
  try dsimp only
  by_cases h : c < 36 ∧ c % 6 = p ∧ c / 6 < k ∧ c / 6 ≠ p
  · rw [if_pos h]
    have := ok (c / 6) (by omega) h.2.2.2
    rw [show c / 6 * 6 + p = c by omega] at this
    exact (owe_d (hf c hc) (hv _)).2 this
  · rw [if_neg h]; exact hf c hc
theorem one_i0 : (1 : Int32) ≠ 0 := one_ne
theorem chg_14 {g m p : Nat} {D : mz_D} (hg : g ≠ 0) (hm : m ≤ 6) (hp : p < m) (e1 : D.1 g 101 0 = nI m) {v : Nat → Int32} (hv : ∀ i, i < m → D.1 0 14 i = v i) (hvb : ∀ i, bd (v i) 0 999999) (hd : ∀ c, c < 36 → bd (D.1 g 114 c) 0 999999) :
    ((∀ i, i < m → i ≠ p → D.1 g 114 (i * 6 + p) + v i ≤ 999999) → fX6_charge_14 g (nI p) D = some (1, mz_wi (wr D g 114 (dkR (D.1 g 114) v p m)) g 108 p (D.1 g 108 p + 1))) ∧ ((¬ ∀ i, i < m → i ≠ p → D.1 g 114 (i * 6 + p) + v i ≤ 999999) → fX6_charge_14 g (nI p) D = some (0, D)) := by
  have can : ∀ i, i < m → fX2_canAdd g (nI i) (nI p) (v i) D = some (if D.1 g 114 (i * 6 + p) + v i ≤ 999999 then 1 else 0) := fun i hi => by
    unfold fX2_canAdd
    simp (disch := omega) only [r6m, nI_add, nI_ix, gd_tt, nI_cl]
    have ow := (owe_d (hd (i * 6 + p) (by omega)) (hvb i)).1
    by_cases h : D.1 g 114 (i * 6 + p) + v i ≤ 999999
    · rw [if_neg (fun e => ow.mp e h), if_pos h]
    · rw [if_pos (ow.mpr h), if_neg h]
  constructor
  · intro ok
    unfold fX6_charge_14
    have L2 : fX6_charge_14_43 g mz_N (nI p) (nI 0) (wr D g 114 (dkR (D.1 g 114) v p 0)) = some (1, mz_wi (wr D g 114 (dkR (D.1 g 114) v p m)) g 108 p (D.1 g 108 p + 1)) := lpD (fun n s k => fX6_charge_14_43 g n (nI p) k s) (fun k => wr D g 114 (dkR (D.1 g 114) v p k)) m (fun n k hk => by
      show fX6_charge_14_43 g (n + 1) (nI p) (nI k) (wr D g 114 (dkR (D.1 g 114) v p k)) = fX6_charge_14_43 g n (nI p) (nI (k + 1)) (wr D g 114 (dkR (D.1 g 114) v p (k + 1)))
      rw [fX6_charge_14_43]
      simp (disch := omega) only [wr_n (show 101 ≠ 114 ∨ g ≠ g from Or.inl (by decide)), wr_n (show 14 ≠ 114 ∨ 0 ≠ g from Or.inl (by decide)), e1, nJ_le, nJ_eq, nI_ix, gd_tt, nI_cl, a1r, hv k hk]
      rw [if_neg (by omega)]
      by_cases e : k = p
      · rw [if_pos e]
        subst e
        rw [dkR_p]
      · rw [if_neg e]
        have hb : bd ((wr D g 114 (dkR (D.1 g 114) v p k)).1 g 114 (k * 6 + p)) 0 999999 := by rw [wr_s, dkR_k _ _ (by omega)]; exact hd _ (by omega)
        rw [add_c (by omega) (by omega) hb (hvb k), wr_s, dkR_k _ _ (by omega), if_pos (ok k hk e), Option.bind_some, wr_up, ← dkR_s _ _ (by omega) (by omega) e]) (fun n => by
      show fX6_charge_14_43 g (n + 1) (nI p) (nI m) (wr D g 114 (dkR (D.1 g 114) v p m)) = _
      rw [fX6_charge_14_43]
      simp (disch := omega) only [wr_n (show 101 ≠ 114 ∨ g ≠ g from Or.inl (by decide)), wr_n (show 108 ≠ 114 ∨ g ≠ g from Or.inl (by decide)), e1, nI_ix, gd_tt, nI_cl]
      rw [if_pos (Int32.le_refl _)]) m 0 mz_N (by omega) (N_lt (by omega))
    rw [dkR_0, wr_id] at L2
    exact lpD (fun n (_ : Unit) k => fX6_charge_14_2 g n (nI p) k D) (fun _ => ()) m (fun n k hk => by
      show fX6_charge_14_2 g (n + 1) (nI p) (nI k) D = fX6_charge_14_2 g n (nI p) (nI (k + 1)) D
      rw [fX6_charge_14_2]
      simp (disch := omega) only [e1, nJ_le, nJ_eq, nI_ix, gd_tt, nI_cl, a1r, hv k hk, can k hk, Option.bind_some]
      rw [if_neg (by omega)]
      by_cases e : k = p
      · rw [if_pos e]
      · rw [if_neg e, if_pos (ok k hk e), if_neg one_ne]) (fun n => by
      show fX6_charge_14_2 g (n + 1) (nI p) (nI m) D = _
      (rw [fX6_charge_14_2]; try dsimp only; rw [e1, if_pos (Int32.le_refl _)])
      exact L2) m 0 mz_N (by omega) (N_lt (by omega))
  · intro bad
    obtain ⟨i, hi, hb, hlt⟩ := least bad
    have hne : i ≠ p := fun e => hb (fun h => absurd e h)
    have hbi : ¬ D.1 g 114 (i * 6 + p) + v i ≤ 999999 := fun e => hb (fun _ => e)
    unfold fX6_charge_14
    exact lpD (fun n (_ : Unit) k => fX6_charge_14_2 g n (nI p) k D) (fun _ => ()) i (fun n k hk => by
      show fX6_charge_14_2 g (n + 1) (nI p) (nI k) D = fX6_charge_14_2 g n (nI p) (nI (k + 1)) D
      rw [fX6_charge_14_2]
      simp (disch := omega) only [e1, nJ_le, nJ_eq, nI_ix, gd_tt, nI_cl, a1r, hv k (by omega), can k (by omega), Option.bind_some]
      rw [if_neg (by omega)]
      by_cases e : k = p
      · rw [if_pos e]
      · rw [if_neg e, if_pos (hlt k hk e), if_neg one_ne]) (fun n => by
      show fX6_charge_14_2 g (n + 1) (nI p) (nI i) D = _
      rw [fX6_charge_14_2]
      simp (disch := omega) only [e1, nJ_le, nJ_eq, nI_ix, gd_tt, nI_cl, a1r, hv i hi, can i hi, Option.bind_some]
      rw [if_neg (by omega), if_neg hne, if_neg hbi, if_pos rfl]) i 0 mz_N (by omega) (N_lt (by omega))
theorem chg_12 {g m p : Nat} {D : mz_D} (hg : g ≠ 0) (hm : m ≤ 6) (hp : p < m) (e1 : D.1 g 101 0 = nI m) {v : Nat → Int32} (hv : ∀ i, i < m → D.1 0 12 i = v i) (hvb : ∀ i, bd (v i) 0 999999) (hd : ∀ c, c < 36 → bd (D.1 g 114 c) 0 999999) :
    ((∀ i, i < m → i ≠ p → D.1 g 114 (i * 6 + p) + v i ≤ 999999) → fX6_charge_12 g (nI p) D = some (1, mz_wi (wr D g 114 (dkR (D.1 g 114) v p m)) g 108 p (D.1 g 108 p + 1))) ∧ ((¬ ∀ i, i < m → i ≠ p → D.1 g 114 (i * 6 + p) + v i ≤ 999999) → fX6_charge_12 g (nI p) D = some (0, D)) := by
  have can : ∀ i, i < m → fX2_canAdd g (nI i) (nI p) (v i) D = some (if D.1 g 114 (i * 6 + p) + v i ≤ 999999 then 1 else 0) := fun i hi => by
    unfold fX2_canAdd
    simp (disch := omega) only [r6m, nI_add, nI_ix, gd_tt, nI_cl]
    have ow := (owe_d (hd (i * 6 + p) (by omega)) (hvb i)).1
    by_cases h : D.1 g 114 (i * 6 + p) + v i ≤ 999999
    · rw [if_neg (fun e => ow.mp e h), if_pos h]
    · rw [if_pos (ow.mpr h), if_neg h]
  constructor
  · intro ok
    unfold fX6_charge_12
    have L2 : fX6_charge_12_43 g mz_N (nI p) (nI 0) (wr D g 114 (dkR (D.1 g 114) v p 0)) = some (1, mz_wi (wr D g 114 (dkR (D.1 g 114) v p m)) g 108 p (D.1 g 108 p + 1)) := lpD (fun n s k => fX6_charge_12_43 g n (nI p) k s) (fun k => wr D g 114 (dkR (D.1 g 114) v p k)) m (fun n k hk => by
      show fX6_charge_12_43 g (n + 1) (nI p) (nI k) (wr D g 114 (dkR (D.1 g 114) v p k)) = fX6_charge_12_43 g n (nI p) (nI (k + 1)) (wr D g 114 (dkR (D.1 g 114) v p (k + 1)))
      rw [fX6_charge_12_43]
      simp (disch := omega) only [wr_n (show 101 ≠ 114 ∨ g ≠ g from Or.inl (by decide)), wr_n (show 12 ≠ 114 ∨ 0 ≠ g from Or.inl (by decide)), e1, nJ_le, nJ_eq, nI_ix, gd_tt, nI_cl, a1r, hv k hk]
      rw [if_neg (by omega)]
      by_cases e : k = p
      · rw [if_pos e]
        subst e
        rw [dkR_p]
      · rw [if_neg e]
        have hb : bd ((wr D g 114 (dkR (D.1 g 114) v p k)).1 g 114 (k * 6 + p)) 0 999999 := by rw [wr_s, dkR_k _ _ (by omega)]; exact hd _ (by omega)
        rw [add_c (by omega) (by omega) hb (hvb k), wr_s, dkR_k _ _ (by omega), if_pos (ok k hk e), Option.bind_some, wr_up, ← dkR_s _ _ (by omega) (by omega) e]) (fun n => by
      show fX6_charge_12_43 g (n + 1) (nI p) (nI m) (wr D g 114 (dkR (D.1 g 114) v p m)) = _
      rw [fX6_charge_12_43]
      simp (disch := omega) only [wr_n (show 101 ≠ 114 ∨ g ≠ g from Or.inl (by decide)), wr_n (show 108 ≠ 114 ∨ g ≠ g from Or.inl (by decide)), e1, nI_ix, gd_tt, nI_cl]
      rw [if_pos (Int32.le_refl _)]) m 0 mz_N (by omega) (N_lt (by omega))
    rw [dkR_0, wr_id] at L2
    exact lpD (fun n (_ : Unit) k => fX6_charge_12_2 g n (nI p) k D) (fun _ => ()) m (fun n k hk => by
      show fX6_charge_12_2 g (n + 1) (nI p) (nI k) D = fX6_charge_12_2 g n (nI p) (nI (k + 1)) D
      rw [fX6_charge_12_2]
      simp (disch := omega) only [e1, nJ_le, nJ_eq, nI_ix, gd_tt, nI_cl, a1r, hv k hk, can k hk, Option.bind_some]
      rw [if_neg (by omega)]
      by_cases e : k = p
      · rw [if_pos e]
      · rw [if_neg e, if_pos (ok k hk e), if_neg one_ne]) (fun n => by
      show fX6_charge_12_2 g (n + 1) (nI p) (nI m) D = _
      (rw [fX6_charge_12_2]; try dsimp only; rw [e1, if_pos (Int32.le_refl _)])
      exact L2) m 0 mz_N (by omega) (N_lt (by omega))
  · intro bad
    obtain ⟨i, hi, hb, hlt⟩ := least bad
    have hne : i ≠ p := fun e => hb (fun h => absurd e h)
    have hbi : ¬ D.1 g 114 (i * 6 + p) + v i ≤ 999999 := fun e => hb (fun _ => e)
    unfold fX6_charge_12
    exact lpD (fun n (_ : Unit) k => fX6_charge_12_2 g n (nI p) k D) (fun _ => ()) i (fun n k hk => by
      show fX6_charge_12_2 g (n + 1) (nI p) (nI k) D = fX6_charge_12_2 g n (nI p) (nI (k + 1)) D
      rw [fX6_charge_12_2]
      simp (disch := omega) only [e1, nJ_le, nJ_eq, nI_ix, gd_tt, nI_cl, a1r, hv k (by omega), can k (by omega), Option.bind_some]
      rw [if_neg (by omega)]
      by_cases e : k = p
      · rw [if_pos e]
      · rw [if_neg e, if_pos (hlt k hk e), if_neg one_ne]) (fun n => by
      show fX6_charge_12_2 g (n + 1) (nI p) (nI i) D = _
      rw [fX6_charge_12_2]
      simp (disch := omega) only [e1, nJ_le, nJ_eq, nI_ix, gd_tt, nI_cl, a1r, hv i hi, can i hi, Option.bind_some]
      rw [if_neg (by omega), if_neg hne, if_neg hbi, if_pos rfl]) i 0 mz_N (by omega) (N_lt (by omega))
/-- the reference's row, the first k of the others having been charged -/
def mkR (E : mz_D) (f : Nat → Int32) : Nat → Int32 := fun j => if 92 ≤ j ∧ j < 128 then f (j - 92) else E.1 0 201 j
theorem mkR_n {E : mz_D} {f : Nat → Int32} {j : Nat} (h : ¬ (92 ≤ j ∧ j < 128)) : mkR E f j = E.1 0 201 j := if_neg h
theorem mkR_d {E : mz_D} {f : Nat → Int32} {c : Nat} (h : c < 36) : mkR E f (92 + c) = f c := by
  unfold mkR
  try dsimp only
  rw [if_pos (by omega), show 92 + c - 92 = c by omega]
theorem mkR_up {E : mz_D} {f : Nat → Int32} {c : Nat} (h : c < 36) (x : Int32) : up (mkR E f) (92 + c) x = mkR E (up f c x) := by
  funext j
  unfold up mkR
  try dsimp only
  by_cases e : j = 92 + c
  · rw [if_pos e, if_pos (by omega), if_pos (by omega)]
  · rw [if_neg e]
    by_cases h2 : 92 ≤ j ∧ j < 128
    · rw [if_pos h2, if_pos h2, if_neg (by omega)]
    · rw [if_neg h2, if_neg h2]
theorem tR.mk0 {n g : Nat} {Dc E : mz_D} {m d gs ins : Nat} (t : tR n g 0 0 Dc E m d gs ins) : wr E 0 201 (mkR E (Dc.1 g 114)) = E := by
  have : mkR E (Dc.1 g 114) = E.1 0 201 := by
    funext j
    unfold mkR
    try dsimp only
    by_cases h : 92 ≤ j ∧ j < 128
    · rw [if_pos h]
      have := (t.vDebt (k := j - 92) (by omega)).1
      rw [show 92 + (j - 92) = j by omega] at this
      exact this.symm
    · rw [if_neg h]
  rw [this, wr_id]
theorem tR.rowD {n g : Nat} {Dc E : mz_D} {m d gs ins : Nat} (t : tR n g 0 0 Dc E m d gs ins) {f : Nat → Int32} (hf : ∀ c, c < 36 → bd (f c) 0 999999) (h0 : ∀ p q, p < 6 → q < 6 → m ≤ p ∨ m ≤ q → f (6 * p + q) = 0) : tR n g 0 0 (wr Dc g 114 f) (wr E 0 201 (mkR E f)) m d gs ins := by
  refine t.mDebt (Nat.le_refl n) (fun o j _ h1 _ => ⟨wr_n (Or.inl h1), rfl⟩) (fun j _ h1 h2 => by rw [wr_s, mkR_n h2]) (fun _ _ => rfl) ?_ (fun k hk => ?_) (fun p q hp hq hpq => ?_)
  · rw [wr_s, mkR_n (by omega), wr_n (Or.inl (by decide))]; exact t.uGifts
  · rw [wr_s, wr_s, mkR_d hk]; exact ⟨rfl, hf k hk⟩
  · rw [wr_s]; exact h0 p q hp hq hpq
theorem sDue_114 {g : Nat} {D : mz_D} (f : Nat → Int32) (m d gs : Nat) (s : Int32) (i : Nat) : sDue g (wr D g 114 f) m d gs s i = sDue g D m d gs s i := by
  have w : ∀ o, o ≠ 114 → ∀ j, (wr D g 114 f).1 g o j = D.1 g o j := fun o ho j => wr_n (Or.inl ho)
  unfold sDue sGst uF uC sEat sOwn sCom sTot
  simp only [w 107 (by decide), w 110 (by decide), w 111 (by decide)]
theorem dk_0 {n g : Nat} {Dc E : mz_D} {m d gs ins : Nat} (t : tR n g 0 0 Dc E m d gs ins) {v : Nat → Int32} {p k : Nat} (hp : p < m) (hk : k ≤ m) : ∀ a b, a < 6 → b < 6 → m ≤ a ∨ m ≤ b → dkR (Dc.1 g 114) v p k (6 * a + b) = 0 := fun a b ha hb hab => by
  rw [dkR_n (by omega)]
  exact t.nodebt a b ha hb hab
theorem pays_m {n g : Nat} {Dc E : mz_D} {m d gs ins : Nat} (t : tR n g 0 0 Dc E m d gs ins) {p : Nat} (hp : p < m) {v : Nat → Int32} (hv : v = sDue g Dc m d gs (Dc.1 g 109 1)) :
    ((∀ i, i < m → i ≠ p → Dc.1 g 114 (i * 6 + p) + v i ≤ 999999) → fX12_pays (nI p) E = some (1, mz_wi (wr E 0 201 (mkR E (dkR (Dc.1 g 114) v p m))) 0 201 (12 + 8 * p + 5) (Dc.1 g 108 p + 1))) ∧ ((¬ ∀ i, i < m → i ≠ p → Dc.1 g 114 (i * 6 + p) + v i ≤ 999999) → fX12_pays (nI p) E = some (0, E)) := by
  have hm := t.hm
  have du : ∀ i, i < m → fX12_dueBy (nI i) (E.1 0 201 3) E = some (v i) := fun i hi => by rw [t.uSplit, dueM t hi, hv]
  have od : ∀ i, i < m → E.1 0 201 (92 + 6 * i + p) = Dc.1 g 114 (i * 6 + p) := fun i hi => t.uDebt (by omega) (by omega)
  constructor
  · intro ok
    unfold fX12_pays
    have L2 : fX12_pays_55 mz_N (nI p) (nI 0) (wr E 0 201 (mkR E (dkR (Dc.1 g 114) v p 0))) = some (1, mz_wi (wr E 0 201 (mkR E (dkR (Dc.1 g 114) v p m))) 0 201 (12 + 8 * p + 5) (Dc.1 g 108 p + 1)) := lpD (fun n s k => fX12_pays_55 n (nI p) k s) (fun k => wr E 0 201 (mkR E (dkR (Dc.1 g 114) v p k))) m (fun n k hk => by
      show fX12_pays_55 (n + 1) (nI p) (nI k) (wr E 0 201 (mkR E (dkR (Dc.1 g 114) v p k))) = fX12_pays_55 n (nI p) (nI (k + 1)) (wr E 0 201 (mkR E (dkR (Dc.1 g 114) v p (k + 1))))
      have tk := t.rowD (dkR_b (p := p) (k := k) (by omega) (by omega) (fun c hc => (t.vDebt hc).2) (fun i => by rw [hv]; exact t.dueB _ i) ok) (dk_0 t hp (by omega))
      have dk : fX12_dueBy (nI k) (Dc.1 g 109 1) (wr E 0 201 (mkR E (dkR (Dc.1 g 114) v p k))) = some (v k) := by rw [dueM tk hk, sDue_114, hv]
      have c6 : mkR E (dkR (Dc.1 g 114) v p k) (92 + 6 * k + p) = Dc.1 g 114 (k * 6 + p) := by
        rw [show 92 + 6 * k + p = 92 + (k * 6 + p) by omega, mkR_d (by omega), dkR_k _ _ (by omega)]
      rw [fX12_pays_55]
      simp (disch := omega) only [z0, z3, wr_s, mkR_n (show ¬ (92 ≤ 0 ∧ 0 < 128) by omega), mkR_n (show ¬ (92 ≤ 3 ∧ 3 < 128) by omega), t.uMany, t.uSplit, nJ_le, nJ_eq, l6m, a92l, nI_add, nI_ix, gd_tt, nI_cl, a1r, dk, c6, Option.bind_some, wr_up]
      rw [if_neg (by omega)]
      by_cases e : k = p
      · rw [if_pos e]
        subst e
        rw [dkR_p]
      · rw [if_neg e, show 92 + 6 * k + p = 92 + (k * 6 + p) by omega, mkR_up (by omega), ← dkR_s _ _ (by omega) (by omega) e]) (fun n => by
      show fX12_pays_55 (n + 1) (nI p) (nI m) (wr E 0 201 (mkR E (dkR (Dc.1 g 114) v p m))) = _
      rw [fX12_pays_55]
      simp (disch := omega) only [z0, wr_s, mkR_n (show ¬ (92 ≤ 0 ∧ 0 < 128) by omega), mkR_n (show ¬ (92 ≤ 12 + 8 * p + 5 ∧ 12 + 8 * p + 5 < 128) by omega), t.uMany, l8m, a12l, a5r, nI_ix, gd_tt, nI_cl, t.uPaid hp]
      rw [if_pos (Int32.le_refl _)]) m 0 mz_N (by omega) (N_lt (by omega))
    rw [dkR_0, t.mk0] at L2
    exact lpD (fun n (_ : Unit) k => fX12_pays_2 n (nI p) k E) (fun _ => ()) m (fun n k hk => by
      show fX12_pays_2 (n + 1) (nI p) (nI k) E = fX12_pays_2 n (nI p) (nI (k + 1)) E
      rw [fX12_pays_2]
      simp (disch := omega) only [z0, z3, t.uMany, nJ_le, nJ_eq, l6m, a92l, nI_add, nI_ix, gd_tt, nI_cl, a1r, du k hk, od k hk, Option.bind_some]
      rw [if_neg (by omega)]
      by_cases e : k = p
      · rw [if_pos e]
      · rw [if_neg e, if_pos (ok k hk e)]) (fun n => by
      show fX12_pays_2 (n + 1) (nI p) (nI m) E = _
      (rw [fX12_pays_2]; try dsimp only; rw [z0, t.uMany, if_pos (Int32.le_refl _)])
      exact L2) m 0 mz_N (by omega) (N_lt (by omega))
  · intro bad
    obtain ⟨i, hi, hb, hlt⟩ := least bad
    have hne : i ≠ p := fun e => hb (fun h => absurd e h)
    have hbi : ¬ Dc.1 g 114 (i * 6 + p) + v i ≤ 999999 := fun e => hb (fun _ => e)
    unfold fX12_pays
    exact lpD (fun n (_ : Unit) k => fX12_pays_2 n (nI p) k E) (fun _ => ()) i (fun n k hk => by
      show fX12_pays_2 (n + 1) (nI p) (nI k) E = fX12_pays_2 n (nI p) (nI (k + 1)) E
      rw [fX12_pays_2]
      simp (disch := omega) only [z0, z3, t.uMany, nJ_le, nJ_eq, l6m, a92l, nI_add, nI_ix, gd_tt, nI_cl, a1r, du k (by omega), od k (by omega), Option.bind_some]
      rw [if_neg (by omega)]
      by_cases e : k = p
      · rw [if_pos e]
      · rw [if_neg e, if_pos (hlt k hk e)]) (fun n => by
      show fX12_pays_2 (n + 1) (nI p) (nI i) E = _
      rw [fX12_pays_2]
      simp (disch := omega) only [z0, z3, t.uMany, nJ_le, nJ_eq, l6m, a92l, nI_add, nI_ix, gd_tt, nI_cl, a1r, du i hi, od i hi, Option.bind_some]
      rw [if_neg (by omega), if_neg hne, if_neg hbi]) i 0 mz_N (by omega) (N_lt (by omega))
/-- both tables behind a paying -/
theorem tR.paidR {n g : Nat} {Dc E : mz_D} {m d gs ins : Nat} (t : tR n g 0 0 Dc E m d gs ins) {p : Nat} (hp : p < m) {v : Nat → Int32} (hv : v = sDue g Dc m d gs (Dc.1 g 109 1)) (ok : ∀ i, i < m → i ≠ p → Dc.1 g 114 (i * 6 + p) + v i ≤ 999999) (hb : bd (Dc.1 g 108 p + 1) 0 (301 * n)) : tR n g 0 0 (mz_wi (wr Dc g 114 (dkR (Dc.1 g 114) v p m)) g 108 p (Dc.1 g 108 p + 1)) (mz_wi (wr E 0 201 (mkR E (dkR (Dc.1 g 114) v p m))) 0 201 (12 + 8 * p + 5) (Dc.1 g 108 p + 1)) m d gs ins := by
  have hm := t.hm
  exact (t.rowD (dkR_b (p := p) (k := m) (by omega) (Nat.le_refl m) (fun c hc => (t.vDebt hc).2) (fun i => by rw [hv]; exact t.dueB _ i) ok) (dk_0 t hp (Nat.le_refl m))).setPaid hp hb
theorem tR.wrC {n g b nb : Nat} {Dc Dm : mz_D} {m d gs ins : Nat} (h : tR n g b nb Dc Dm m d gs ins) {o : Nat} (ho : o < 100) (f : Nat → Int32) : tR n g b nb (wr Dc 0 o f) Dm m d gs ins := h.congr (fun a j hq => ⟨wr_n (Or.inl (by unfold tq at hq; omega)), rfl⟩) (fun _ _ => rfl) (fun _ _ => rfl)
theorem p_op26 : op_26 Inv := by
  intro n D x1 hn h
  obtain ⟨m, d, gs, ins, t⟩ := iR.t h
  have hm := t.hm
  rcases has_or t.hm t.many_c t.many_m x1 with ⟨c1, c2⟩ | ⟨p, hp, rfl, c1, c2⟩
  · exact q_look h (r := -1) (v := 1) (by unfold fX11_pay; rw [if_pos c1]) (fun E he => by unfold fX12_pay; rw [if_pos (by rw [has_m he]; exact c2)])
  · have hc : ¬ fX4_has 1 (nI p) D = 0 := by rw [c1]; exact one_ne
    have hq : ∀ E, eM D E → ¬ fX12_isPerson (nI p) E = 0 := fun E he => by rw [has_m he, c2]; exact one_ne
    obtain ⟨f, hf, ef⟩ := dues_14 n10 t.c t.total t.split_b
    obtain ⟨v, hv⟩ : ∃ v, v = sDue 1 D m d gs (D.1 1 109 1) := ⟨_, rfl⟩
    have t1 : ∀ E, eM D E → tR n 1 0 0 (wr D 0 14 f) E m d gs ins := fun E he => (t.m he).wrC (by omega) f
    have hv1 : v = sDue 1 (wr D 0 14 f) m d gs ((wr D 0 14 f).1 1 109 1) := by
      rw [hv]
      funext i
      rw [sDue_wr n10]
      rfl
    have hb : bd (D.1 1 108 p + 1) 0 (301 * ((n + 1 : Nat) : Int)) := by
      have h1 := (t.paid p hp).2
      unfold bd at h1 ⊢
      have o : (1 : Int32).toInt = 1 := rfl
      rw [i_add (by omega) (by omega)]
      omega
    obtain ⟨k1, k2⟩ := chg_14 (D := wr D 0 14 f) n10 hm hp (by rw [wr_n (Or.inl (by decide))]; exact t.many_c) (v := v) (fun i hi => by rw [wr_s, hf i hi, hv]) (fun i => by rw [hv]; exact t.dueB _ i) (fun c hc => by rw [wr_n (Or.inl (by decide))]; exact (t.vDebt hc).2)
    have r14 : (wr D 0 14 f).1 1 114 = D.1 1 114 := by funext c; exact wr_n (Or.inl (by decide))
    have r08 : (wr D 0 14 f).1 1 108 p = D.1 1 108 p := wr_n (Or.inl (by decide))
    rw [r14, r08] at k1
    rw [r14] at k2
    by_cases ok : ∀ i, i < m → i ≠ p → D.1 1 114 (i * 6 + p) + v i ≤ 999999
    · refine q_tab h (r := D.1 1 108 p + 1) (v := 0) (((sC_wr (Or.inl rfl) f).k.tr (kC_wr (o := 114) (f := dkR (D.1 1 114) v p m) (by omega))).tr (kC_wi (o := 108) (j := p) (v := D.1 1 108 p + 1) (by omega))) ?_ (fun E he => ⟨_, (kM_wr (f := mkR E (dkR (D.1 1 114) v p m)) (fun j hj => mkR_n (by omega))).tr (kM_wi (j := 12 + 8 * p + 5) (v := D.1 1 108 p + 1) (by omega)), ?_, m, d, gs, ins, ?_⟩)
      · unfold fX11_pay
        rw [if_neg hc, ef, Option.bind_some, k1 ok, Option.bind_some, if_neg one_ne, nI_ix (by omega) (by omega), gd_tt, nI_cl (by omega), wi_s]
      · unfold fX12_pay
        rw [if_neg (hq E he), (pays_m (t.m he) hp hv).1 ok, Option.bind_some, if_neg one_ne]
        simp (disch := omega) only [l8m, a12l, a5r, nI_ix, gd_tt, nI_cl, wi_s]
      · have := ((t1 E he).mono (Nat.le_succ n)).paidR hp hv1 (by rw [r14]; exact ok) (by rw [r08]; exact hb)
        rw [r14, r08] at this
        exact this
    · refine q_see h (r := -1) (v := 7) (sC_wr (Or.inl rfl) f) ?_ (fun E he => ?_)
      · unfold fX11_pay
        rw [if_neg hc, ef, Option.bind_some, k2 ok, Option.bind_some, if_pos rfl]
      · unfold fX12_pay
        rw [if_neg (hq E he), (pays_m (t.m he) hp hv).2 ok, Option.bind_some, if_pos rfl]
