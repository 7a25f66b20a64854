/-! ===== eaten, dues ===== -/
theorem foldN_sum (F : Nat → Int32) : ∀ (d k : Nat) (s : Int32), foldN (fun j a => a + F j) k d s = s + foldN (fun j a => a + F j) k d 0 := by
  intro d
  induction d with
  | zero => intro k s; show s = s + 0; exact (add0 s).symm
  | succ d ih =>
    intro k s
    show foldN (fun j a => a + F j) (k + 1) d (s + F k) = s + foldN (fun j a => a + F j) (k + 1) d (0 + F k)
    rw [ih, ih (k + 1) (0 + F k)]
    grind
def sOwn (g : Nat) (D : mz_D) (k i : Nat) : Int32 := foldN (fun j a => a + if D.1 g 111 j = nI i then D.1 g 110 j else 0) 0 k 0
def sEat (g : Nat) (D : mz_D) (m d i : Nat) : Int32 := sOwn g D d i + pp (sCom g D d) (2 ^ m - 1) i
def ownR (g : Nat) (D : mz_D) (f : Nat → Int32) (k : Nat) : Nat → Int32 := fun i => if i < 6 then sOwn g D k i else f i
theorem sOwn_s (g : Nat) (D : mz_D) (k i : Nat) : sOwn g D (k + 1) i = sOwn g D k i + (if D.1 g 111 k = nI i then D.1 g 110 k else 0) := by
  unfold sOwn
  rw [foldN_end, Nat.zero_add]
theorem sCom_s (g : Nat) (D : mz_D) (k : Nat) : sCom g D (k + 1) = sCom g D k + (if D.1 g 111 k = -1 then D.1 g 110 k else 0) := by
  unfold sCom
  rw [foldN_end, Nat.zero_add]
theorem ownR_n {g : Nat} {D : mz_D} {f : Nat → Int32} {k : Nat} (h : D.1 g 111 k = -1) : ownR g D f (k + 1) = ownR g D f k := by
  funext i
  unfold ownR
  try dsimp only
  by_cases hi : i < 6
  · rw [if_pos hi, if_pos hi, sOwn_s, h, if_neg (fun e => (nI_ne1' (k := i) (by omega)).mp e), add0]
  · rw [if_neg hi, if_neg hi]
theorem ownR_s {g : Nat} {D : mz_D} {f : Nat → Int32} {k p : Nat} (hp : p < 6) (h : D.1 g 111 k = nI p) : ownR g D f (k + 1) = up (ownR g D f k) p (ownR g D f k p + D.1 g 110 k) := by
  funext i
  unfold up
  try dsimp only
  by_cases h1 : i = p
  · subst h1
    rw [if_pos rfl]
    unfold ownR
    try dsimp only
    rw [if_pos hp, if_pos hp, sOwn_s, if_pos h]
  · rw [if_neg h1]
    unfold ownR
    try dsimp only
    by_cases hi : i < 6
    · rw [if_pos hi, if_pos hi, sOwn_s, h, if_neg (fun e => h1 ((nJ_eq (by omega) (by omega)).mp e).symm), add0]
    · rw [if_neg hi, if_neg hi]
/-- what the class reads of a table -/
def tC (g m d gs : Nat) (D : mz_D) : Prop := m ≤ 6 ∧ d ≤ 16 ∧ gs < 2 ^ m ∧ D.1 g 101 0 = nI m ∧ D.1 g 109 0 = nI d ∧ D.1 g 101 2 = nI gs ∧ (∀ k, k < d → who (D.1 g 111 k) m) ∧ (∀ p, p < m → who (D.1 g 107 p) m)
theorem tR.c {n g b nb : Nat} {Dc Dm : mz_D} {m d gs ins : Nat} (h : tR n g b nb Dc Dm m d gs ins) : tC g m d gs Dc := ⟨h.hm, h.hd, h.hgs, h.many_c, h.dish_c, h.guests_c, fun k hk => (h.eater k hk).2, fun p hp => (h.partner p hp).2⟩
theorem ever_lt {m : Nat} (h : m ≤ 6) : 2 ^ m - 1 < 64 := by have := pow_m h; omega
theorem eaten_14 {g m d gs : Nat} {D : mz_D} (hg : g ≠ 0) (t : tC g m d gs D) : fX1_fillEaten_14 g g D = some (wr D 0 14 (spR (sCom g D d) (2 ^ m - 1) (ownR g D (D.1 0 14) d) 6)) := by
  obtain ⟨hm, hd, hgs, e1, e2, e3, hw, hw2⟩ := t
  unfold fX1_fillEaten_14
  rw [fill_14, Option.bind_some]
  have key := lpD (fun n (s : Int32 × (Nat → Int32)) k => fX1_fillEaten_14_10 g g n s.1 k (wr D 0 14 s.2)) (fun k => (sCom g D k, ownR g D (D.1 0 14) k)) d (r := some (wr D 0 14 (spR (sCom g D d) (2 ^ m - 1) (ownR g D (D.1 0 14) d) 6))) (fun n k hk => by
    show fX1_fillEaten_14_10 g g (n + 1) (sCom g D k) (nI k) (wr D 0 14 (ownR g D (D.1 0 14) k)) = fX1_fillEaten_14_10 g g n (sCom g D (k + 1)) (nI (k + 1)) (wr D 0 14 (ownR g D (D.1 0 14) (k + 1)))
    rw [fX1_fillEaten_14_10]
    unfold fX4_has
    simp (disch := omega) only [wr_n (Or.inr hg), e1, e2, nJ_le, nI_ix, gd_tt, nI_cl, a1r]
    rw [if_neg (by omega)]
    rcases hw k hk with h | ⟨p, hp, h⟩
    · rw [h, if_pos (show (if (-1 : Int32) < 0 then (0 : Int32) else if nI m ≤ -1 then 0 else 1) = 0 from if_pos (by decide)), sCom_s, if_pos h, ownR_n h]
    · rw [h]
      simp (disch := omega) only [nI_neg, if_false, nJ_le, nI_ix, gd_tt, nI_cl, wr_s, wr_up]
      rw [if_neg (by omega : ¬ m ≤ p), if_neg one_ne, ownR_s (by omega) h, sCom_s, h, if_neg (fun e => (nI_ne1 (k := p) (by omega)).mp e), add0]) (fun n => by
    show fX1_fillEaten_14_10 g g (n + 1) (sCom g D d) (nI d) (wr D 0 14 (ownR g D (D.1 0 14) d)) = _
    rw [fX1_fillEaten_14_10]
    simp (disch := omega) only [wr_n (Or.inr hg), e1, e2]
    rw [if_pos (Int32.le_refl _), ever_e hm, spread_14 _ (ever_lt hm)]
    rfl) d 0 mz_N (by omega) (N_lt (by omega))
  have e0 : (fun i => if i < 6 then (0 : Int32) else D.1 0 14 i) = ownR g D (D.1 0 14) 0 := rfl
  rw [e0]
  exact key
theorem eaten_12 {g m d gs : Nat} {D : mz_D} (hg : g ≠ 0) (t : tC g m d gs D) : fX1_fillEaten_12 g g D = some (wr D 0 12 (spR (sCom g D d) (2 ^ m - 1) (ownR g D (D.1 0 12) d) 6)) := by
  obtain ⟨hm, hd, hgs, e1, e2, e3, hw, hw2⟩ := t
  unfold fX1_fillEaten_12
  rw [fill_12, Option.bind_some]
  have key := lpD (fun n (s : Int32 × (Nat → Int32)) k => fX1_fillEaten_12_10 g g n s.1 k (wr D 0 12 s.2)) (fun k => (sCom g D k, ownR g D (D.1 0 12) k)) d (r := some (wr D 0 12 (spR (sCom g D d) (2 ^ m - 1) (ownR g D (D.1 0 12) d) 6))) (fun n k hk => by
    show fX1_fillEaten_12_10 g g (n + 1) (sCom g D k) (nI k) (wr D 0 12 (ownR g D (D.1 0 12) k)) = fX1_fillEaten_12_10 g g n (sCom g D (k + 1)) (nI (k + 1)) (wr D 0 12 (ownR g D (D.1 0 12) (k + 1)))
    rw [fX1_fillEaten_12_10]
    unfold fX4_has
    simp (disch := omega) only [wr_n (Or.inr hg), e1, e2, nJ_le, nI_ix, gd_tt, nI_cl, a1r]
    rw [if_neg (by omega)]
    rcases hw k hk with h | ⟨p, hp, h⟩
    · rw [h, if_pos (show (if (-1 : Int32) < 0 then (0 : Int32) else if nI m ≤ -1 then 0 else 1) = 0 from if_pos (by decide)), sCom_s, if_pos h, ownR_n h]
    · rw [h]
      simp (disch := omega) only [nI_neg, if_false, nJ_le, nI_ix, gd_tt, nI_cl, wr_s, wr_up]
      rw [if_neg (by omega : ¬ m ≤ p), if_neg one_ne, ownR_s (by omega) h, sCom_s, h, if_neg (fun e => (nI_ne1 (k := p) (by omega)).mp e), add0]) (fun n => by
    show fX1_fillEaten_12_10 g g (n + 1) (sCom g D d) (nI d) (wr D 0 12 (ownR g D (D.1 0 12) d)) = _
    rw [fX1_fillEaten_12_10]
    simp (disch := omega) only [wr_n (Or.inr hg), e1, e2]
    rw [if_pos (Int32.le_refl _), ever_e hm, spread_12 _ (ever_lt hm)]
    rfl) d 0 mz_N (by omega) (N_lt (by omega))
  have e0 : (fun i => if i < 6 then (0 : Int32) else D.1 0 12 i) = ownR g D (D.1 0 12) 0 := rfl
  rw [e0]
  exact key
theorem eaten_15 {g m d gs : Nat} {D : mz_D} (hg : g ≠ 0) (t : tC g m d gs D) : fX1_fillEaten_15 g g D = some (wr D 0 15 (spR (sCom g D d) (2 ^ m - 1) (ownR g D (D.1 0 15) d) 6)) := by
  obtain ⟨hm, hd, hgs, e1, e2, e3, hw, hw2⟩ := t
  unfold fX1_fillEaten_15
  rw [fill_15, Option.bind_some]
  have key := lpD (fun n (s : Int32 × (Nat → Int32)) k => fX1_fillEaten_15_10 g g n s.1 k (wr D 0 15 s.2)) (fun k => (sCom g D k, ownR g D (D.1 0 15) k)) d (r := some (wr D 0 15 (spR (sCom g D d) (2 ^ m - 1) (ownR g D (D.1 0 15) d) 6))) (fun n k hk => by
    show fX1_fillEaten_15_10 g g (n + 1) (sCom g D k) (nI k) (wr D 0 15 (ownR g D (D.1 0 15) k)) = fX1_fillEaten_15_10 g g n (sCom g D (k + 1)) (nI (k + 1)) (wr D 0 15 (ownR g D (D.1 0 15) (k + 1)))
    rw [fX1_fillEaten_15_10]
    unfold fX4_has
    simp (disch := omega) only [wr_n (Or.inr hg), e1, e2, nJ_le, nI_ix, gd_tt, nI_cl, a1r]
    rw [if_neg (by omega)]
    rcases hw k hk with h | ⟨p, hp, h⟩
    · rw [h, if_pos (show (if (-1 : Int32) < 0 then (0 : Int32) else if nI m ≤ -1 then 0 else 1) = 0 from if_pos (by decide)), sCom_s, if_pos h, ownR_n h]
    · rw [h]
      simp (disch := omega) only [nI_neg, if_false, nJ_le, nI_ix, gd_tt, nI_cl, wr_s, wr_up]
      rw [if_neg (by omega : ¬ m ≤ p), if_neg one_ne, ownR_s (by omega) h, sCom_s, h, if_neg (fun e => (nI_ne1 (k := p) (by omega)).mp e), add0]) (fun n => by
    show fX1_fillEaten_15_10 g g (n + 1) (sCom g D d) (nI d) (wr D 0 15 (ownR g D (D.1 0 15) d)) = _
    rw [fX1_fillEaten_15_10]
    simp (disch := omega) only [wr_n (Or.inr hg), e1, e2]
    rw [if_pos (Int32.le_refl _), ever_e hm, spread_15 _ (ever_lt hm)]
    rfl) d 0 mz_N (by omega) (N_lt (by omega))
  have e0 : (fun i => if i < 6 then (0 : Int32) else D.1 0 15 i) = ownR g D (D.1 0 15) 0 := rfl
  rw [e0]
  exact key
theorem commonsM {n g : Nat} {Dc Dm : mz_D} {m d gs ins : Nat} (h : tR n g 0 0 Dc Dm m d gs ins) : fX12_commons Dm = some (sCom g Dc d) := by
  have hd := h.hd
  exact lpD (fun n s k => fX12_commons_4 Dm n s k) (fun k => sCom g Dc k) d (r := some (sCom g Dc d)) (fun n k hk => by
    show fX12_commons_4 Dm (n + 1) (sCom g Dc k) (nI k) = fX12_commons_4 Dm n (sCom g Dc (k + 1)) (nI (k + 1))
    rw [fX12_commons_4]
    unfold fX12_commons_47
    simp (disch := omega) only [z2, h.uDish, nJ_le, l2m, a60l, a1r, nI_ix, gd_tt, nI_cl, h.uEater hk, h.uPrice hk]
    rw [if_neg (by omega), sCom_s]
    by_cases hq : Dc.1 g 111 k = -1
    · rw [if_pos hq, if_pos hq]
    · rw [if_neg hq, if_neg hq]) (fun n => by
    show fX12_commons_4 Dm (n + 1) (sCom g Dc d) (nI d) = _
    rw [fX12_commons_4]
    simp only [z2, h.uDish]
    rw [if_pos (Int32.le_refl _)]) d 0 mz_N (by omega) (N_lt (by omega))
theorem tR.eatM {n g : Nat} {Dc Dm : mz_D} {m d gs ins : Nat} (h : tR n g 0 0 Dc Dm m d gs ins) {p : Nat} (hp : p < m) : fX12_eatenBy (nI p) Dm = some (sEat g Dc m d p) := by
  have hd := h.hd
  have hm := h.hm
  unfold fX12_eatenBy
  rw [commonsM h, Option.bind_some, z0, h.uMany, ever_e hm, part_e (ever_lt hm) (by omega), Option.bind_some]
  have key := lpD (fun n s k => fX12_eatenBy_15 Dm n (nI p) s k) (fun k => pp (sCom g Dc d) (2 ^ m - 1) p + sOwn g Dc k p) d (r := some (sEat g Dc m d p)) (fun n k hk => by
    show fX12_eatenBy_15 Dm (n + 1) (nI p) (pp (sCom g Dc d) (2 ^ m - 1) p + sOwn g Dc k p) (nI k) = fX12_eatenBy_15 Dm n (nI p) (pp (sCom g Dc d) (2 ^ m - 1) p + sOwn g Dc (k + 1) p) (nI (k + 1))
    rw [fX12_eatenBy_15]
    unfold fX12_eatenBy_58
    simp (disch := omega) only [z2, h.uDish, nJ_le, l2m, a60l, a1r, nI_ix, gd_tt, nI_cl, h.uEater hk, h.uPrice hk]
    rw [if_neg (by omega), sOwn_s]
    by_cases hq : Dc.1 g 111 k = nI p
    · rw [if_pos hq, if_pos hq, Int32.add_assoc]
    · rw [if_neg hq, if_neg hq, Int32.add_assoc]) (fun n => by
    show fX12_eatenBy_15 Dm (n + 1) (nI p) (pp (sCom g Dc d) (2 ^ m - 1) p + sOwn g Dc d p) (nI d) = _
    rw [fX12_eatenBy_15]
    simp only [z2, h.uDish]
    rw [if_pos (Int32.le_refl _)]
    unfold sEat
    rw [Int32.add_comm]) d 0 mz_N (by omega) (N_lt (by omega))
  have e0 : pp (sCom g Dc d) (2 ^ m - 1) p + sOwn g Dc 0 p = pp (sCom g Dc d) (2 ^ m - 1) p := add0 _
  have key2 : fX12_eatenBy_15 Dm mz_N (nI p) (pp (sCom g Dc d) (2 ^ m - 1) p + sOwn g Dc 0 p) (nI 0) = _ := key
  rw [e0] at key2
  exact key2
/-! units -/
def uC (g : Nat) (D : mz_D) (H j : Nat) : Bool := decide (¬ D.1 g 107 j < 0) && decide (D.1 g 107 j < nI j) && H.testBit j && H.testBit (D.1 g 107 j).toNatClampNeg
def clr (s j : Nat) : Nat := s &&& (63 ^^^ 2 ^ j)
def uF (g : Nat) (D : mz_D) (H k : Nat) : Nat := foldN (fun j s => if uC g D H j then clr s j else s) 0 k H
theorem uF_s (g : Nat) (D : mz_D) (H k : Nat) : uF g D H (k + 1) = if uC g D H k then clr (uF g D H k) k else uF g D H k := by
  unfold uF
  rw [foldN_end, Nat.zero_add]
theorem uF_lt {g : Nat} {D : mz_D} {H : Nat} (hH : H < 64) : ∀ k, uF g D H k < 64 := by
  intro k
  induction k with
  | zero => exact hH
  | succ k ih =>
    rw [uF_s]
    split
    · exact Nat.lt_of_le_of_lt Nat.and_le_left ih
    · exact ih
theorem clr_e : ∀ s, s < 64 → ∀ j, j < 6 → nI s &&& (((1 : Int32) <<< (nI j &&& 31)) ^^^ (-1 : Int32)) = nI (clr s j) := by decide +kernel
theorem hd_64 {m gs : Nat} (h : m ≤ 6) (hg : gs < 2 ^ m) : hdS m gs < 64 := by have := hd_lt h hg; have := pow_m h; omega
theorem unitsC {g m d gs : Nat} {D : mz_D} (t : tC g m d gs D) : fX4_unitPayers g D = some (nI (uF g D (hdS m gs) m)) := by
  obtain ⟨hm, hd, hgs, e1, e2, e3, hw, hw2⟩ := t
  have hH := hd_64 hm hgs
  unfold fX4_unitPayers
  rw [c_heads e1 e3 hm hgs]
  exact lpD (fun n s k => fX4_unitPayers_9 g D n (nI (hdS m gs)) s k) (fun k => nI (uF g D (hdS m gs) k)) m (r := some (nI (uF g D (hdS m gs) m))) (fun n k hk => by
    show fX4_unitPayers_9 g D (n + 1) (nI (hdS m gs)) (nI (uF g D (hdS m gs) k)) (nI k) = fX4_unitPayers_9 g D n (nI (hdS m gs)) (nI (uF g D (hdS m gs) (k + 1))) (nI (k + 1))
    rw [fX4_unitPayers_9]
    have hU := uF_lt (g := g) (D := D) hH k
    simp (disch := omega) only [e1, nJ_le, nI_ix, gd_tt, nI_cl, a1r, isIn_e, clr_e _ hU]
    rw [if_neg (by omega), uF_s]
    rcases hw2 k hk with h | ⟨p, hp, h⟩
    · have : uC g D (hdS m gs) k = false := by unfold uC; rw [h]; rfl
      rw [h, if_pos (by decide), this]
      simp
    · have hu : uC g D (hdS m gs) k = (decide (p < k) && (hdS m gs).testBit k && (hdS m gs).testBit p) := by
        unfold uC
        rw [h, nI_cl (by omega)]
        have a1 : (¬ nI p < 0) = True := by rw [nI_neg (by omega)]; simp
        have a2 : (nI p < nI k) = (p < k) := by rw [nJ_lt (by omega) (by omega)]
        simp only [a1, a2, decide_true, Bool.true_and]
      rw [h, hu]
      simp (disch := omega) only [nI_neg, if_false, nJ_le, isIn_e]
      by_cases c1 : k ≤ p
      · rw [if_pos c1]
        simp [show ¬ p < k by omega]
      · rw [if_neg c1]
        cases b1 : (hdS m gs).testBit k <;> cases b2 : (hdS m gs).testBit p <;> simp [show p < k by omega]) (fun n => by
    show fX4_unitPayers_9 g D (n + 1) (nI (hdS m gs)) (nI (uF g D (hdS m gs) m)) (nI m) = _
    rw [fX4_unitPayers_9]
    simp only [e1]
    rw [if_pos (Int32.le_refl _)]) m 0 mz_N (by omega) (N_lt (by omega))
theorem unitsM {n g : Nat} {Dc Dm : mz_D} {m d gs ins : Nat} (h : tR n g 0 0 Dc Dm m d gs ins) : fX12_units Dm = some (nI (uF g Dc (hdS m gs) m)) := by
  have hm := h.hm
  have hH := hd_64 hm h.hgs
  unfold fX12_units
  rw [h.headsM]
  exact lpD (fun n s k => fX12_units_7 Dm n s k) (fun k => nI (uF g Dc (hdS m gs) k)) m (r := some (nI (uF g Dc (hdS m gs) m))) (fun n k hk => by
    show fX12_units_7 Dm (n + 1) (nI (uF g Dc (hdS m gs) k)) (nI k) = fX12_units_7 Dm n (nI (uF g Dc (hdS m gs) (k + 1))) (nI (k + 1))
    rw [fX12_units_7]
    have hU := uF_lt (g := g) (D := Dc) hH k
    simp (disch := omega) only [z0, h.uMany, nJ_le, l8m, a12l, a4r, nI_ix, gd_tt, nI_cl, a1r, h.uPartner hk, h.headsM, isIn_m, isIn_e, clr_e _ hU]
    rw [if_neg (by omega), uF_s]
    rcases (h.partner k hk).2 with hh | ⟨p, hp, hh⟩
    · have : uC g Dc (hdS m gs) k = false := by unfold uC; rw [hh]; rfl
      rw [hh, if_pos rfl, this]
      simp
    · have hu : uC g Dc (hdS m gs) k = (decide (p < k) && (hdS m gs).testBit k && (hdS m gs).testBit p) := by
        unfold uC
        rw [hh, nI_cl (by omega)]
        have a1 : (¬ nI p < 0) = True := by rw [nI_neg (by omega)]; simp
        have a2 : (nI p < nI k) = (p < k) := by rw [nJ_lt (by omega) (by omega)]
        simp only [a1, a2, decide_true, Bool.true_and]
      rw [hh, hu]
      simp (disch := omega) only [nI_ne1, if_false, nJ_le, isIn_e]
      by_cases c1 : k ≤ p
      · rw [if_pos c1]
        simp [show ¬ p < k by omega]
      · rw [if_neg c1]
        cases b1 : (hdS m gs).testBit k <;> cases b2 : (hdS m gs).testBit p <;> simp [show p < k by omega]) (fun n => by
    show fX12_units_7 Dm (n + 1) (nI (uF g Dc (hdS m gs) m)) (nI m) = _
    rw [fX12_units_7]
    simp only [z0, h.uMany]
    rw [if_pos (Int32.le_refl _)]) m 0 mz_N (by omega) (N_lt (by omega))
/-! dues -/
def sGst (g : Nat) (D : mz_D) (m d H k : Nat) : Int32 := foldN (fun j a => a + if H.testBit j then 0 else sEat g D m d j) 0 k 0
theorem sGst_s (g : Nat) (D : mz_D) (m d H k : Nat) : sGst g D m d H (k + 1) = sGst g D m d H k + (if H.testBit k then 0 else sEat g D m d k) := by
  unfold sGst
  rw [foldN_end, Nat.zero_add]
def sDue (g : Nat) (D : mz_D) (m d gs : Nat) (by0 : Int32) (i : Nat) : Int32 :=
  if by0 = 0 then pp (sTot g D d) (hdS m gs) i else if by0 = 2 then pp (sTot g D d) (uF g D (hdS m gs) m) i
  else if (hdS m gs).testBit i then sEat g D m d i + pp (sGst g D m d (hdS m gs) m) (hdS m gs) i else 0
theorem dueM {n g : Nat} {Dc Dm : mz_D} {m d gs ins : Nat} (h : tR n g 0 0 Dc Dm m d gs ins) {p : Nat} (hp : p < m) (s : Int32) : fX12_dueBy (nI p) s Dm = some (sDue g Dc m d gs s p) := by
  have hm := h.hm
  have hH := hd_64 hm h.hgs
  have hU := uF_lt (g := g) (D := Dc) hH m
  unfold fX12_dueBy sDue
  by_cases h0 : s = 0
  · rw [if_pos h0, if_pos h0, h.bill, Option.bind_some, h.headsM, part_e hH (by omega)]
    rfl
  · rw [if_neg h0, if_neg h0]
    by_cases h2 : s = 2
    · rw [if_pos h2, if_pos h2, h.bill, Option.bind_some, unitsM h, Option.bind_some, part_e hU (by omega)]
      rfl
    · rw [if_neg h2, if_neg h2]
      exact lpD (fun n s k => fX12_dueBy_40 Dm n (nI p) s k) (fun k => sGst g Dc m d (hdS m gs) k) m (r := some (if (hdS m gs).testBit p then sEat g Dc m d p + pp (sGst g Dc m d (hdS m gs) m) (hdS m gs) p else 0)) (fun n k hk => by
        show fX12_dueBy_40 Dm (n + 1) (nI p) (sGst g Dc m d (hdS m gs) k) (nI k) = fX12_dueBy_40 Dm n (nI p) (sGst g Dc m d (hdS m gs) (k + 1)) (nI (k + 1))
        rw [fX12_dueBy_40]
        unfold fX12_dueBy_75
        simp (disch := omega) only [z0, h.uMany, nJ_le, a1r, h.headsM, isIn_m, isIn_e, h.eatM hk, Option.bind_some]
        rw [if_neg (by omega), sGst_s]
        cases b : (hdS m gs).testBit k <;> simp) (fun n => by
        show fX12_dueBy_40 Dm (n + 1) (nI p) (sGst g Dc m d (hdS m gs) m) (nI m) = _
        rw [fX12_dueBy_40]
        simp (disch := omega) only [z0, h.uMany, h.headsM, isIn_m, isIn_e, h.eatM hp, part_e hH (show p < 6 by omega), Option.bind_some]
        rw [if_pos (Int32.le_refl _)]
        cases b : (hdS m gs).testBit p <;> simp) m 0 mz_N (by omega) (N_lt (by omega))
def tgR (f : Nat → Int32) (H k : Nat) : Nat → Int32 := fun i => if i < k ∧ H.testBit i = false then 0 else f i
theorem tgR_0 (f : Nat → Int32) (H : Nat) : tgR f H 0 = f := by funext i; exact if_neg (by omega)
theorem tgR_y {f : Nat → Int32} {H k : Nat} (h : H.testBit k = true) : tgR f H (k + 1) = tgR f H k := by
  funext i
  unfold tgR
  try dsimp only
  by_cases hi : i = k
  · subst hi
    rw [if_neg (by rw [h]; simp), if_neg (by omega)]
  · by_cases hk : i < k ∧ H.testBit i = false
    · rw [if_pos hk, if_pos ⟨by omega, hk.2⟩]
    · rw [if_neg hk, if_neg (fun e => hk ⟨by omega, e.2⟩)]
theorem tgR_n {f : Nat → Int32} {H k : Nat} (h : H.testBit k = false) : tgR f H (k + 1) = up (tgR f H k) k 0 := by
  funext i
  unfold tgR up
  try dsimp only
  by_cases hi : i = k
  · subst hi
    rw [if_pos ⟨by omega, h⟩, if_pos rfl]
  · rw [if_neg hi]
    by_cases hk : i < k ∧ H.testBit i = false
    · rw [if_pos hk, if_pos ⟨by omega, hk.2⟩]
    · rw [if_neg hk, if_neg (fun e => hk ⟨by omega, e.2⟩)]
theorem tgR_k (f : Nat → Int32) (H k : Nat) : tgR f H k k = f k := if_neg (by omega)
theorem dues_14 {g m d gs : Nat} {D : mz_D} (hg : g ≠ 0) (t : tC g m d gs D) (hT : fX1_total g D = some (sTot g D d)) {s : Int32} (hs : s = 0 ∨ s = 1 ∨ s = 2) : ∃ f, (∀ i, i < m → f i = sDue g D m d gs s i) ∧ fX1_fillDues_14 g g s D = some (wr D 0 14 f) := by
  have t0 := t
  obtain ⟨hm, hd, hgs, e1, e2, e3, hw, hw2⟩ := t
  have hH := hd_64 hm hgs
  unfold fX1_fillDues_14
  by_cases h1 : s = 1
  · rw [if_pos h1, eaten_14 hg t0, Option.bind_some]
    obtain ⟨f, hf⟩ : ∃ f, f = spR (sCom g D d) (2 ^ m - 1) (ownR g D (D.1 0 14) d) 6 := ⟨_, rfl⟩
    rw [← hf]
    have hfe : ∀ i, i < m → f i = sEat g D m d i := fun i hi => by
      rw [hf]
      unfold spR ownR sEat
      try dsimp only
      rw [if_pos (by omega), if_pos (by omega)]
    unfold fX1_takeFromGuests_14
    have hd2 : ∀ f, fX4_heads g (wr D 0 14 f) = nI (hdS m gs) := fun f => c_heads (by rw [wr_n (Or.inr hg)]; exact e1) (by rw [wr_n (Or.inr hg)]; exact e3) hm hgs
    rw [hd2]
    have key : fX1_takeFromGuests_14_10 g mz_N (nI (hdS m gs)) (sGst g D m d (hdS m gs) 0) (nI 0) (wr D 0 14 (tgR f (hdS m gs) 0)) = some (sGst g D m d (hdS m gs) m, wr D 0 14 (tgR f (hdS m gs) m)) := lpD (fun n (s : Int32 × (Nat → Int32)) k => fX1_takeFromGuests_14_10 g n (nI (hdS m gs)) s.1 k (wr D 0 14 s.2)) (fun k => (sGst g D m d (hdS m gs) k, tgR f (hdS m gs) k)) m (r := some (sGst g D m d (hdS m gs) m, wr D 0 14 (tgR f (hdS m gs) m))) (fun n k hk => by
      show fX1_takeFromGuests_14_10 g (n + 1) (nI (hdS m gs)) (sGst g D m d (hdS m gs) k) (nI k) (wr D 0 14 (tgR f (hdS m gs) k)) = fX1_takeFromGuests_14_10 g n (nI (hdS m gs)) (sGst g D m d (hdS m gs) (k + 1)) (nI (k + 1)) (wr D 0 14 (tgR f (hdS m gs) (k + 1)))
      rw [fX1_takeFromGuests_14_10]
      simp (disch := omega) only [wr_n (Or.inr hg), e1, nJ_le, a1r, isIn_e, nI_ix, gd_tt, nI_cl, wr_s, wr_up, tgR_k]
      rw [if_neg (by omega), sGst_s]
      cases b : (hdS m gs).testBit k with
      | false =>
        rw [tgR_n b, hfe k hk]
        simp
      | true =>
        rw [tgR_y b]
        simp) (fun n => by
      show fX1_takeFromGuests_14_10 g (n + 1) (nI (hdS m gs)) (sGst g D m d (hdS m gs) m) (nI m) (wr D 0 14 (tgR f (hdS m gs) m)) = _
      rw [fX1_takeFromGuests_14_10]
      simp (disch := omega) only [wr_n (Or.inr hg), e1]
      rw [if_pos (Int32.le_refl _)]) m 0 mz_N (by omega) (N_lt (by omega))
    rw [tgR_0] at key
    have key2 : fX1_takeFromGuests_14_10 g mz_N (nI (hdS m gs)) 0 0 (wr D 0 14 f) = _ := key
    rw [key2, Option.bind_some, hd2, spread_14 _ hH, Option.bind_some]
    refine ⟨_, fun i hi => ?_, rfl⟩
    unfold spR sDue tgR
    try dsimp only
    rw [if_pos (show i < 6 by omega), h1, if_neg (show ¬ (1 : Int32) = 0 by decide), if_neg (show ¬ (1 : Int32) = 2 by decide)]
    cases b : (hdS m gs).testBit i with
    | false =>
      rw [if_pos ⟨hi, rfl⟩]
      unfold pp
      rw [b]
      simp
    | true =>
      rw [if_neg (by simp), hfe i hi]
      simp
  · rw [if_neg h1, fill_14, Option.bind_some]
    have e1' : ∀ f, (wr D 0 14 f).1 g 101 0 = nI m := fun f => by rw [wr_n (Or.inr hg)]; exact e1
    have hT2 : ∀ f, fX1_total g (wr D 0 14 f) = some (sTot g D d) := fun f => by
      rw [← hT]
      unfold fX1_total
      have : ∀ n a k, fX1_total_4 g (wr D 0 14 f) n a k = fX1_total_4 g D n a k := by
        intro n
        induction n with
        | zero => intro a k; rfl
        | succ n ih =>
          intro a k
          rw [fX1_total_4]
          try dsimp only
          rw [fX1_total_4]
          simp only [wr_n (Or.inr hg), ih]
      exact this _ _ _
    have tf : ∀ f, tC g m d gs (wr D 0 14 f) := fun f => ⟨hm, hd, hgs, by rw [wr_n (Or.inr hg)]; exact e1, by rw [wr_n (Or.inr hg)]; exact e2, by rw [wr_n (Or.inr hg)]; exact e3, fun k hk => by rw [wr_n (Or.inr hg)]; exact hw k hk, fun k hk => by rw [wr_n (Or.inr hg)]; exact hw2 k hk⟩
    have uFf : ∀ f k, uF g (wr D 0 14 f) (hdS m gs) k = uF g D (hdS m gs) k := fun f k => by
      unfold uF uC
      simp only [wr_n (Or.inr hg)]
    rw [hT2, Option.bind_some]
    unfold fX1_fillDues_14_52
    by_cases h2 : s = 2
    · rw [if_pos h2, unitsC (tf _), Option.bind_some, uFf, spread_14 _ (uF_lt hH m), Option.bind_some]
      refine ⟨_, fun i hi => ?_, rfl⟩
      unfold spR sDue
      try dsimp only
      rw [if_pos (show i < 6 by omega), if_pos (show i < 6 by omega), h2, if_neg (show ¬ (2 : Int32) = 0 by decide), if_pos (show (2 : Int32) = 2 from rfl)]
      exact Int32.zero_add _
    · rw [if_neg h2, c_heads (e1' _) (by rw [wr_n (Or.inr hg)]; exact e3) hm hgs, spread_14 _ hH, Option.bind_some]
      have h0 : s = 0 := by rcases hs with h | h | h <;> first | exact h | exact absurd h h1 | exact absurd h h2
      refine ⟨_, fun i hi => ?_, rfl⟩
      unfold spR sDue
      try dsimp only
      rw [if_pos (show i < 6 by omega), if_pos (show i < 6 by omega), h0, if_pos (show (0 : Int32) = 0 from rfl)]
      exact Int32.zero_add _
theorem dues_12 {g m d gs : Nat} {D : mz_D} (hg : g ≠ 0) (t : tC g m d gs D) (hT : fX1_total g D = some (sTot g D d)) {s : Int32} (hs : s = 0 ∨ s = 1 ∨ s = 2) : ∃ f, (∀ i, i < m → f i = sDue g D m d gs s i) ∧ fX1_fillDues_12 g g s D = some (wr D 0 12 f) := by
  have t0 := t
  obtain ⟨hm, hd, hgs, e1, e2, e3, hw, hw2⟩ := t
  have hH := hd_64 hm hgs
  unfold fX1_fillDues_12
  by_cases h1 : s = 1
  · rw [if_pos h1, eaten_12 hg t0, Option.bind_some]
    obtain ⟨f, hf⟩ : ∃ f, f = spR (sCom g D d) (2 ^ m - 1) (ownR g D (D.1 0 12) d) 6 := ⟨_, rfl⟩
    rw [← hf]
    have hfe : ∀ i, i < m → f i = sEat g D m d i := fun i hi => by
      rw [hf]
      unfold spR ownR sEat
      try dsimp only
      rw [if_pos (by omega), if_pos (by omega)]
    unfold fX1_takeFromGuests_12
    have hd2 : ∀ f, fX4_heads g (wr D 0 12 f) = nI (hdS m gs) := fun f => c_heads (by rw [wr_n (Or.inr hg)]; exact e1) (by rw [wr_n (Or.inr hg)]; exact e3) hm hgs
    rw [hd2]
    have key : fX1_takeFromGuests_12_10 g mz_N (nI (hdS m gs)) (sGst g D m d (hdS m gs) 0) (nI 0) (wr D 0 12 (tgR f (hdS m gs) 0)) = some (sGst g D m d (hdS m gs) m, wr D 0 12 (tgR f (hdS m gs) m)) := lpD (fun n (s : Int32 × (Nat → Int32)) k => fX1_takeFromGuests_12_10 g n (nI (hdS m gs)) s.1 k (wr D 0 12 s.2)) (fun k => (sGst g D m d (hdS m gs) k, tgR f (hdS m gs) k)) m (r := some (sGst g D m d (hdS m gs) m, wr D 0 12 (tgR f (hdS m gs) m))) (fun n k hk => by
      show fX1_takeFromGuests_12_10 g (n + 1) (nI (hdS m gs)) (sGst g D m d (hdS m gs) k) (nI k) (wr D 0 12 (tgR f (hdS m gs) k)) = fX1_takeFromGuests_12_10 g n (nI (hdS m gs)) (sGst g D m d (hdS m gs) (k + 1)) (nI (k + 1)) (wr D 0 12 (tgR f (hdS m gs) (k + 1)))
      rw [fX1_takeFromGuests_12_10]
      simp (disch := omega) only [wr_n (Or.inr hg), e1, nJ_le, a1r, isIn_e, nI_ix, gd_tt, nI_cl, wr_s, wr_up, tgR_k]
      rw [if_neg (by omega), sGst_s]
      cases b : (hdS m gs).testBit k with
      | false =>
        rw [tgR_n b, hfe k hk]
        simp
      | true =>
        rw [tgR_y b]
        simp) (fun n => by
      show fX1_takeFromGuests_12_10 g (n + 1) (nI (hdS m gs)) (sGst g D m d (hdS m gs) m) (nI m) (wr D 0 12 (tgR f (hdS m gs) m)) = _
      rw [fX1_takeFromGuests_12_10]
      simp (disch := omega) only [wr_n (Or.inr hg), e1]
      rw [if_pos (Int32.le_refl _)]) m 0 mz_N (by omega) (N_lt (by omega))
    rw [tgR_0] at key
    have key2 : fX1_takeFromGuests_12_10 g mz_N (nI (hdS m gs)) 0 0 (wr D 0 12 f) = _ := key
    rw [key2, Option.bind_some, hd2, spread_12 _ hH, Option.bind_some]
    refine ⟨_, fun i hi => ?_, rfl⟩
    unfold spR sDue tgR
    try dsimp only
    rw [if_pos (show i < 6 by omega), h1, if_neg (show ¬ (1 : Int32) = 0 by decide), if_neg (show ¬ (1 : Int32) = 2 by decide)]
    cases b : (hdS m gs).testBit i with
    | false =>
      rw [if_pos ⟨hi, rfl⟩]
      unfold pp
      rw [b]
      simp
    | true =>
      rw [if_neg (by simp), hfe i hi]
      simp
  · rw [if_neg h1, fill_12, Option.bind_some]
    have e1' : ∀ f, (wr D 0 12 f).1 g 101 0 = nI m := fun f => by rw [wr_n (Or.inr hg)]; exact e1
    have hT2 : ∀ f, fX1_total g (wr D 0 12 f) = some (sTot g D d) := fun f => by
      rw [← hT]
      unfold fX1_total
      have : ∀ n a k, fX1_total_4 g (wr D 0 12 f) n a k = fX1_total_4 g D n a k := by
        intro n
        induction n with
        | zero => intro a k; rfl
        | succ n ih =>
          intro a k
          rw [fX1_total_4]
          try dsimp only
          rw [fX1_total_4]
          simp only [wr_n (Or.inr hg), ih]
      exact this _ _ _
    have tf : ∀ f, tC g m d gs (wr D 0 12 f) := fun f => ⟨hm, hd, hgs, by rw [wr_n (Or.inr hg)]; exact e1, by rw [wr_n (Or.inr hg)]; exact e2, by rw [wr_n (Or.inr hg)]; exact e3, fun k hk => by rw [wr_n (Or.inr hg)]; exact hw k hk, fun k hk => by rw [wr_n (Or.inr hg)]; exact hw2 k hk⟩
    have uFf : ∀ f k, uF g (wr D 0 12 f) (hdS m gs) k = uF g D (hdS m gs) k := fun f k => by
      unfold uF uC
      simp only [wr_n (Or.inr hg)]
    rw [hT2, Option.bind_some]
    unfold fX1_fillDues_12_52
    by_cases h2 : s = 2
    · rw [if_pos h2, unitsC (tf _), Option.bind_some, uFf, spread_12 _ (uF_lt hH m), Option.bind_some]
      refine ⟨_, fun i hi => ?_, rfl⟩
      unfold spR sDue
      try dsimp only
      rw [if_pos (show i < 6 by omega), if_pos (show i < 6 by omega), h2, if_neg (show ¬ (2 : Int32) = 0 by decide), if_pos (show (2 : Int32) = 2 from rfl)]
      exact Int32.zero_add _
    · rw [if_neg h2, c_heads (e1' _) (by rw [wr_n (Or.inr hg)]; exact e3) hm hgs, spread_12 _ hH, Option.bind_some]
      have h0 : s = 0 := by rcases hs with h | h | h <;> first | exact h | exact absurd h h1 | exact absurd h h2
      refine ⟨_, fun i hi => ?_, rfl⟩
      unfold spR sDue
      try dsimp only
      rw [if_pos (show i < 6 by omega), if_pos (show i < 6 by omega), h0, if_pos (show (0 : Int32) = 0 from rfl)]
      exact Int32.zero_add _
