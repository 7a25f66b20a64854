/-! ===== sums, sets ===== -/
theorem foldN_add {σ : Type} (st : Nat → σ → σ) : ∀ (d1 d2 k : Nat) (s : σ), foldN st k (d1 + d2) s = foldN st (k + d1) d2 (foldN st k d1 s) := by
  intro d1
  induction d1 with
  | zero => intro d2 k s; rw [Nat.zero_add]; rfl
  | succ d1 ih =>
    intro d2 k s
    rw [show d1 + 1 + d2 = (d1 + d2) + 1 by omega]
    show foldN st (k + 1) (d1 + d2) (st k s) = foldN st (k + (d1 + 1)) d2 (foldN st (k + 1) d1 (st k s))
    rw [ih, show k + 1 + d1 = k + (d1 + 1) by omega]
theorem foldN_id {σ : Type} {st : Nat → σ → σ} : ∀ (d k : Nat) (s : σ), (∀ j s, k ≤ j → j < k + d → st j s = s) → foldN st k d s = s := by
  intro d
  induction d with
  | zero => intro k s h; rfl
  | succ d ih =>
    intro k s h
    show foldN st (k + 1) d (st k s) = s
    rw [h k s (by omega) (by omega)]
    exact ih (k + 1) s (fun j s h1 h2 => h j s (by omega) (by omega))
theorem foldN_end {σ : Type} (st : Nat → σ → σ) (d k : Nat) (s : σ) : foldN st k (d + 1) s = st (k + d) (foldN st k d s) := foldN_add st d 1 k s
def sTot (g : Nat) (D : mz_D) (d : Nat) : Int32 := foldN (fun k a => a + D.1 g 110 k) 0 d 0
def sCom (g : Nat) (D : mz_D) (d : Nat) : Int32 := foldN (fun k a => a + if D.1 g 111 k = -1 then D.1 g 110 k else 0) 0 d 0
def sPaid (g : Nat) (D : mz_D) (m : Nat) : Int32 := foldN (fun k a => a + D.1 g 108 k) 0 m 0
def sQuick (g : Nat) (D : mz_D) (m s : Nat) : Int32 := foldN (fun k a => a + if s.testBit k then D.1 g 104 k else 0) 0 m 0
def sBal (g : Nat) (D : mz_D) (p : Nat) : Int32 := foldN (fun o a => a + (D.1 g 114 (o * 6 + p) - D.1 g 114 (p * 6 + o))) 0 6 0
def hdS (m gs : Nat) : Nat := if gs = 2 ^ m - 1 then 2 ^ m - 1 else 2 ^ m - 1 - gs
def pcS (s : Nat) : Nat := (List.range 6).foldl (fun a k => a + if s.testBit k then 1 else 0) 0
theorem pow_m {m : Nat} (h : m ≤ 6) : 2 ^ m ≤ 64 := Nat.pow_le_pow_right (n := 2) (by omega) h
theorem ever_e {m : Nat} (h : m ≤ 6) : ((1 : Int32) <<< (nI m &&& 31)) - (1 : Int32) = nI (2 ^ m - 1) := by
  have : ∀ m, m < 7 → ((1 : Int32) <<< (nI m &&& 31)) - (1 : Int32) = nI (2 ^ m - 1) := by decide +kernel
  exact this m (by omega)
theorem hd_e {m gs : Nat} (h : m ≤ 6) (hg : gs < 2 ^ m) : (if nI (2 ^ m - 1) &&& (nI gs ^^^ (-1 : Int32)) = 0 then nI (2 ^ m - 1) else nI (2 ^ m - 1) &&& (nI gs ^^^ (-1 : Int32))) = nI (hdS m gs) := by
  have : ∀ m, m < 7 → ∀ gs, gs < 64 → gs < 2 ^ m → (if nI (2 ^ m - 1) &&& (nI gs ^^^ (-1 : Int32)) = 0 then nI (2 ^ m - 1) else nI (2 ^ m - 1) &&& (nI gs ^^^ (-1 : Int32))) = nI (hdS m gs) := by decide +kernel
  exact this m (by omega) gs (by have := pow_m h; omega) hg
theorem hd_e2 {m gs : Nat} (h : m ≤ 6) (hg : gs < 2 ^ m) : (if nI gs = nI (2 ^ m - 1) then nI (2 ^ m - 1) else nI (2 ^ m - 1) &&& (nI gs ^^^ (-1 : Int32))) = nI (hdS m gs) := by
  have : ∀ m, m < 7 → ∀ gs, gs < 64 → gs < 2 ^ m → (if nI gs = nI (2 ^ m - 1) then nI (2 ^ m - 1) else nI (2 ^ m - 1) &&& (nI gs ^^^ (-1 : Int32))) = nI (hdS m gs) := by decide +kernel
  exact this m (by omega) gs (by have := pow_m h; omega) hg
theorem hd_lt {m gs : Nat} (h : m ≤ 6) (hg : gs < 2 ^ m) : hdS m gs < 2 ^ m := by unfold hdS; split <;> omega
theorem isIn_e {s p : Nat} (hs : s < 64) (hp : p < 6) : fX11_isIn (nI s) (nI p) = if s.testBit p then 1 else 0 := by
  have : ∀ s, s < 64 → ∀ p, p < 6 → fX11_isIn (nI s) (nI p) = if s.testBit p then 1 else 0 := by decide +kernel
  exact this s hs p hp
theorem isIn_m (a b : Int32) : fX12_isIn a b = fX11_isIn a b := rfl
theorem bc_e {s : Nat} (hs : s < 64) : fJ6_bitCount_0f7a4 (nI s) = nI (pcS s) := by
  have : ∀ s, s < 64 → fJ6_bitCount_0f7a4 (nI s) = nI (pcS s) := by decide +kernel
  exact this s hs
theorem bits_e {s : Nat} (hs : s < 64) : fX12_bits (nI s) = some (nI (pcS s)) := by
  have : ∀ s, s < 64 → fX12_bits (nI s) = some (nI (pcS s)) := by decide +kernel
  exact this s hs
theorem pc_le (s : Nat) : pcS s ≤ 6 := by
  unfold pcS
  simp only [List.range, List.range.loop, List.foldl]
  repeat' split
  all_goals omega
theorem c_heads {g m gs : Nat} {D : mz_D} (h1 : D.1 g 101 0 = nI m) (h2 : D.1 g 101 2 = nI gs) (hm : m ≤ 6) (hg : gs < 2 ^ m) : fX4_heads g D = nI (hdS m gs) := by
  unfold fX4_heads
  rw [h1, h2, ever_e hm]
  exact hd_e hm hg
theorem tR.heads {n g : Nat} {Dc Dm : mz_D} {m d gs ins : Nat} (h : tR n g 0 0 Dc Dm m d gs ins) : fX4_heads g Dc = nI (hdS m gs) := c_heads h.many_c h.guests_c h.hm h.hgs
theorem tR.headsM {n g : Nat} {Dc Dm : mz_D} {m d gs ins : Nat} (h : tR n g 0 0 Dc Dm m d gs ins) : fX12_heads Dm = nI (hdS m gs) := by
  unfold fX12_heads
  simp only [z0, z7]
  rw [h.uMany, h.uGuests, ever_e h.hm]
  exact hd_e2 h.hm h.hgs
theorem tR.total {n g : Nat} {Dc Dm : mz_D} {m d gs ins : Nat} (h : tR n g 0 0 Dc Dm m d gs ins) : fX1_total g Dc = some (sTot g Dc d) := by
  have hd := h.hd
  refine lp0 (fun n s k => fX1_total_4 g Dc n s k) (fun k a => a + Dc.1 g 110 k) some d ?_ ?_ mz_N 0 (N_lt (by omega))
  · intro n s k hk
    show fX1_total_4 g Dc (n + 1) s (nI k) = _
    rw [fX1_total_4]
    simp (disch := omega) only [h.dish_c, nJ_le, nI_ix, gd_tt, nI_cl, a1r]
    rw [if_neg (by omega)]
  · intro n s
    show fX1_total_4 g Dc (n + 1) s (nI d) = _
    rw [fX1_total_4]
    simp only [h.dish_c]
    rw [if_pos (Int32.le_refl _)]
theorem tR.bill {n g : Nat} {Dc Dm : mz_D} {m d gs ins : Nat} (h : tR n g 0 0 Dc Dm m d gs ins) : fX12_bill Dm = some (sTot g Dc d) := by
  have hd := h.hd
  refine lp0 (fun n s k => fX12_bill_4 Dm n s k) (fun k a => a + Dc.1 g 110 k) some d ?_ ?_ mz_N 0 (N_lt (by omega))
  · intro n s k hk
    show fX12_bill_4 Dm (n + 1) s (nI k) = _
    rw [fX12_bill_4]
    simp (disch := omega) only [z2, h.uDish, nJ_le, l2m, a60l, nI_ix, gd_tt, nI_cl, a1r, h.uPrice hk]
    rw [if_neg (by omega)]
  · intro n s
    show fX12_bill_4 Dm (n + 1) s (nI d) = _
    rw [fX12_bill_4]
    simp only [z2, h.uDish]
    rw [if_pos (Int32.le_refl _)]
theorem tR.paidAll {n g : Nat} {Dc Dm : mz_D} {m d gs ins : Nat} (h : tR n g 0 0 Dc Dm m d gs ins) : fX4_paidByAll g Dc = some (sPaid g Dc m) := by
  have hm := h.hm
  refine lp0 (fun n s k => fX4_paidByAll_4 g Dc n s k) (fun k a => a + Dc.1 g 108 k) some m ?_ ?_ mz_N 0 (N_lt (by omega))
  · intro n s k hk
    show fX4_paidByAll_4 g Dc (n + 1) s (nI k) = _
    rw [fX4_paidByAll_4]
    simp (disch := omega) only [h.many_c, nJ_le, nI_ix, gd_tt, nI_cl, a1r]
    rw [if_neg (by omega)]
  · intro n s
    show fX4_paidByAll_4 g Dc (n + 1) s (nI m) = _
    rw [fX4_paidByAll_4]
    simp only [h.many_c]
    rw [if_pos (Int32.le_refl _)]
theorem tR.paidAllM {n g : Nat} {Dc Dm : mz_D} {m d gs ins : Nat} (h : tR n g 0 0 Dc Dm m d gs ins) : fX12_paidByAll Dm = some (sPaid g Dc m) := by
  have hm := h.hm
  refine lp0 (fun n s k => fX12_paidByAll_4 Dm n s k) (fun k a => a + Dc.1 g 108 k) some m ?_ ?_ mz_N 0 (N_lt (by omega))
  · intro n s k hk
    show fX12_paidByAll_4 Dm (n + 1) s (nI k) = _
    rw [fX12_paidByAll_4]
    simp (disch := omega) only [z0, h.uMany, nJ_le, l8m, a12l, a5r, nI_ix, gd_tt, nI_cl, a1r, h.uPaid hk]
    rw [if_neg (by omega)]
  · intro n s
    show fX12_paidByAll_4 Dm (n + 1) s (nI m) = _
    rw [fX12_paidByAll_4]
    simp only [z0, h.uMany]
    rw [if_pos (Int32.le_refl _)]
theorem add0 (a : Int32) : a + 0 = a := by grind
theorem tR.quickOf {n g : Nat} {Dc Dm : mz_D} {m d gs ins : Nat} (h : tR n g 0 0 Dc Dm m d gs ins) {s : Nat} (hs : s < 64) : fX4_quickOf g (nI s) Dc = some (sQuick g Dc m s) := by
  have hm := h.hm
  refine lp0 (fun n a k => fX4_quickOf_4 g Dc n (nI s) a k) (fun k a => a + if s.testBit k then Dc.1 g 104 k else 0) some m ?_ ?_ mz_N 0 (N_lt (by omega))
  · intro n a k hk
    show fX4_quickOf_4 g Dc (n + 1) (nI s) a (nI k) = _
    rw [fX4_quickOf_4]
    simp (disch := omega) only [h.many_c, nJ_le, nI_ix, gd_tt, nI_cl, a1r, isIn_e]
    rw [if_neg (by omega)]
    by_cases hb : s.testBit k = true
    · simp [hb]
    · simp [hb, add0]
  · intro n a
    show fX4_quickOf_4 g Dc (n + 1) (nI s) a (nI m) = _
    rw [fX4_quickOf_4]
    simp only [h.many_c]
    rw [if_pos (Int32.le_refl _)]
theorem tR.quickOfM {n g : Nat} {Dc Dm : mz_D} {m d gs ins : Nat} (h : tR n g 0 0 Dc Dm m d gs ins) {s : Nat} (hs : s < 64) : fX12_quickOf (nI s) Dm = some (sQuick g Dc m s) := by
  have hm := h.hm
  refine lp0 (fun n a k => fX12_quickOf_4 Dm n (nI s) a k) (fun k a => a + if s.testBit k then Dc.1 g 104 k else 0) some m ?_ ?_ mz_N 0 (N_lt (by omega))
  · intro n a k hk
    show fX12_quickOf_4 Dm (n + 1) (nI s) a (nI k) = _
    rw [fX12_quickOf_4]; unfold fX12_quickOf_39
    simp (disch := omega) only [z0, h.uMany, nJ_le, l8m, a12l, a1r, nI_ix, gd_tt, nI_cl, isIn_m, isIn_e, h.uQuick hk]
    rw [if_neg (by omega)]
    by_cases hb : s.testBit k = true
    · simp [hb]
    · simp [hb, add0]
  · intro n a
    show fX12_quickOf_4 Dm (n + 1) (nI s) a (nI m) = _
    rw [fX12_quickOf_4]
    simp only [z0, h.uMany]
    rw [if_pos (Int32.le_refl _)]
theorem tR.bal {g : Nat} {Dc : mz_D} {p : Nat} (hp : p < 6) : fX2_balanceOf g (nI p) Dc = some (sBal g Dc p) := by
  refine lp0 (fun n a k => fX2_balanceOf_4 g Dc n (nI p) a k) (fun o a => a + (Dc.1 g 114 (o * 6 + p) - Dc.1 g 114 (p * 6 + o))) some 6 ?_ ?_ mz_N 0 (N_lt (by omega))
  · intro n a k hk
    show fX2_balanceOf_4 g Dc (n + 1) (nI p) a (nI k) = _
    rw [fX2_balanceOf_4]
    simp (disch := omega) only [r6m, nI_add, nI_ix, gd_tt, nI_cl, a1r]
    rw [if_neg (by rw [ol_le (c := 6) (by omega) (by omega)]; omega)]
  · intro n a
    show fX2_balanceOf_4 g Dc (n + 1) (nI p) a (nI 6) = _
    rw [fX2_balanceOf_4]
    simp only []
    rw [if_pos (by decide)]
theorem tR.balM {n g : Nat} {Dc Dm : mz_D} {m d gs ins : Nat} (h : tR n g 0 0 Dc Dm m d gs ins) {p : Nat} (hp : p < 6) : fX12_balanceOf (nI p) Dm = some (sBal g Dc p) := by
  have hm := h.hm
  have e : sBal g Dc p = foldN (fun o a => a + (Dc.1 g 114 (o * 6 + p) - Dc.1 g 114 (p * 6 + o))) 0 m 0 := by
    unfold sBal
    have e6 := foldN_add (fun o a => a + (Dc.1 g 114 (o * 6 + p) - Dc.1 g 114 (p * 6 + o))) m (6 - m) 0 0
    rw [show m + (6 - m) = 6 by omega] at e6
    rw [e6]
    refine foldN_id _ _ _ (fun j s h1 h2 => ?_)
    have z1 := h.nodebt j p (by omega) hp (by omega)
    have z2 := h.nodebt p j hp (by omega) (by omega)
    rw [Nat.mul_comm] at z1 z2
    rw [z1, z2]
    grind
  rw [e]
  refine lp0 (fun n a k => fX12_balanceOf_4 Dm n (nI p) a k) (fun o a => a + (Dc.1 g 114 (o * 6 + p) - Dc.1 g 114 (p * 6 + o))) some m ?_ ?_ mz_N 0 (N_lt (by omega))
  · intro n a k hk
    show fX12_balanceOf_4 Dm (n + 1) (nI p) a (nI k) = _
    rw [fX12_balanceOf_4]
    simp (disch := omega) only [z0, h.uMany, nJ_le, l6m, a92l, nI_add, nI_ix, gd_tt, nI_cl, a1r, h.uDebt (show k < 6 by omega) hp, h.uDebt hp (show k < 6 by omega)]
    rw [if_neg (by omega)]
  · intro n a
    show fX12_balanceOf_4 Dm (n + 1) (nI p) a (nI m) = _
    rw [fX12_balanceOf_4]
    simp only [z0, h.uMany]
    rw [if_pos (Int32.le_refl _)]
theorem p_op11 : op_11 Inv := by
  intro n D x1 h
  obtain ⟨m, d, gs, ins, t⟩ := iR.t h
  have hm := t.hm
  have t2 : ∀ E, eM D E → tR n 1 0 0 D E m d gs ins := fun E he => t.m he
  have hp := pow_m hm
  have hh := hd_lt hm t.hgs
  have sml : x1 < 0 ∨ x1 = 0 ∨ x1 = 1 ∨ x1 = 2 ∨ x1 = 3 ∨ x1 = 4 ∨ x1 = 5 ∨ x1 = 6 ∨ x1 = 7 ∨ x1 = 8 ∨ x1 = 9 ∨ x1 = 10 ∨ x1 = 11 ∨ 11 < x1 := by grind
  have ref : x1 < 0 ∨ 11 < x1 → ∃ (r : Int32) (D1 D2 : mz_D), fX11_told x1 D = some (r, D1) ∧ fX12_told x1 D1 = some (r, D2) ∧ Inv (n + 1) D2 := fun hx => q_look h (r := -1) (v := 1) (by unfold fX11_told; grind (splits := 30)) (fun E he => by unfold fX12_told; grind (splits := 30))
  rcases sml with h0 | rfl | rfl | rfl | rfl | rfl | rfl | rfl | rfl | rfl | rfl | rfl | rfl | h0
  · exact ref (Or.inl h0)
  · exact q_look h (r := nI m) (v := 0) (by unfold fX11_told; simp [t.many_c]) (fun E he => by unfold fX12_told; simp [mz_ix, gd_tt, (t2 E he).uMany])
  · exact q_look h (r := D.1 1 101 1) (v := 0) (by unfold fX11_told; simp) (fun E he => by unfold fX12_told; simp [mz_ix, gd_tt, (t2 E he).uCouples])
  · exact q_look h (r := nI d) (v := 0) (by unfold fX11_told; simp [t.dish_c]) (fun E he => by unfold fX12_told; simp [mz_ix, gd_tt, (t2 E he).uDish])
  · exact q_look h (r := D.1 1 109 1) (v := 0) (by unfold fX11_told; simp) (fun E he => by unfold fX12_told; simp [mz_ix, gd_tt, (t2 E he).uSplit])
  · exact q_look h (r := D.1 1 100 5) (v := 0) (by unfold fX11_told; simp) (fun E he => by unfold fX12_told; simp [mz_ix, gd_tt, (t2 E he).uLaw])
  · exact q_look h (r := sTot 1 D d) (v := 0) (by unfold fX11_told; simp [t.total]) (fun E he => by unfold fX12_told; simp [(t2 E he).bill])
  · exact q_look h (r := nI (pcS (hdS m gs))) (v := 0) (by unfold fX11_told; simp [t.heads, bc_e (show hdS m gs < 64 by omega)]) (fun E he => by unfold fX12_told; simp [(t2 E he).headsM, bits_e (show hdS m gs < 64 by omega)])
  · exact q_look h (r := sPaid 1 D m) (v := 0) (by unfold fX11_told; simp [t.paidAll]) (fun E he => by unfold fX12_told; simp [(t2 E he).paidAllM])
  · exact q_look h (r := D.1 1 117 1) (v := 0) (by unfold fX11_told; simp) (fun E he => by unfold fX12_told; simp [mz_ix, gd_tt, (t2 E he).uRounds])
  · exact q_look h (r := D.1 1 100 6) (v := 0) (by unfold fX11_told; simp) (fun E he => by unfold fX12_told; simp [mz_ix, gd_tt, (t2 E he).uGifts])
  · exact q_look h (r := nI gs) (v := 0) (by unfold fX11_told; simp [t.guests_c]) (fun E he => by unfold fX12_told; simp [mz_ix, gd_tt, (t2 E he).uGuests])
  · exact q_look h (r := nI ins) (v := 0) (by unfold fX11_told; simp [t.in_c]) (fun E he => by unfold fX12_told; simp [mz_ix, gd_tt, (t2 E he).uIn])
  · exact ref (Or.inr h0)
theorem two_or {g m : Nat} {Dc Dm : mz_D} (hm : m ≤ 6) (hc : Dc.1 1 101 0 = nI m) (hq : Dm.1 0 201 0 = nI m) (a b : Int32) : (fX11_areTwo a b Dc = 0 ∧ fX12_areTwo a b Dm = 0) ∨ ∃ p q, p < m ∧ q < m ∧ p ≠ q ∧ a = nI p ∧ b = nI q ∧ fX11_areTwo a b Dc = 1 ∧ fX12_areTwo a b Dm = 1 := by
  unfold fX11_areTwo fX12_areTwo
  rcases has_or hm hc hq a with ⟨c1, c2⟩ | ⟨p, hp, rfl, c1, c2⟩
  · left; rw [c1, c2]; simp
  · rcases has_or hm hc hq b with ⟨c3, c4⟩ | ⟨q, hq2, rfl, c3, c4⟩
    · left; rw [c1, c2, c3, c4]; simp
    · rw [c1, c2, c3, c4]
      by_cases e : p = q
      · left; rw [e]; simp
      · right
        refine ⟨p, q, hp, hq2, e, rfl, rfl, ?_⟩
        have : ¬ nI p = nI q := fun h => e ((nJ_eq (by omega) (by omega)).mp h)
        simp [this]
theorem two_m {D E : mz_D} (he : eM D E) (x y : Int32) : fX12_areTwo x y E = fX12_areTwo x y D := by
  unfold fX12_areTwo
  rw [has_m he, has_m he]
theorem cmp_lt (a b : Int64) : lg_cmp a b < 0 ↔ a.toInt < b.toInt := by
  unfold lg_cmp
  rw [← Int64.lt_iff_toInt_lt]
  repeat' split
  all_goals grind
theorem cmp_gt (a b : Int64) : 0 < lg_cmp a b ↔ b.toInt < a.toInt := by
  unfold lg_cmp
  rw [← Int64.lt_iff_toInt_lt]
  repeat' split
  all_goals grind
theorem cmp_eq (a b : Int64) : lg_cmp a b = 0 ↔ a = b := by
  unfold lg_cmp
  repeat' split
  all_goals grind
theorem from_e (a lo hi : Int64) : fX12_isFrom a lo hi = if a.toInt < lo.toInt ∨ hi.toInt < a.toInt then 0 else 1 := by
  unfold fX12_isFrom
  simp only [cmp_lt, cmp_gt]
  by_cases h1 : a.toInt < lo.toInt
  · simp [h1]
  · by_cases h2 : hi.toInt < a.toInt <;> simp [h1, h2]
theorem t64 (x : Int32) : x.toInt64.toInt = x.toInt := Int32.toInt_toInt64 x
