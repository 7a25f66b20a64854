/-! ===== calls that only look ===== -/
theorem q_end {n : Nat} {D E F : mz_D} {v : Int32} (h : Inv n D) (hc : sC D E) (hm : sM (mz_wi E 0 0 13 v) F) : Inv (n + 1) (mz_wi F 0 200 2 v) := by
  have e1 : eM D (mz_wi E 0 0 13 v) := hc.m.tr (fun g o j h1 h2 => ⟨by rw [wi_1, if_neg (by omega)], rfl⟩)
  have h1 : iR n E F := (iR.cells (iR.congr h hc sM.rf) eC.rf e1).congr sC.rf hm
  have h2 := (h1.stat v).mono (Nat.le_succ n)
  refine h2.cells (fun g o j ho => ?_) eM.rf
  rw [wi_1, if_neg (by omega), wi_2]
  exact hm.c g o j ho
theorem q_fin {n : Nat} {D E F : mz_D} {r v : Int32} {fc fm : mz_D → Option (Int32 × mz_D)} (h : Inv n D) (hc : sC D E) (e1 : fc D = some (r, mz_wi E 0 0 13 v)) (hm : sM (mz_wi E 0 0 13 v) F) (e2 : fm (mz_wi E 0 0 13 v) = some (r, mz_wi F 0 200 2 v)) : ∃ (r : Int32) (D1 D2 : mz_D), fc D = some (r, D1) ∧ fm D1 = some (r, D2) ∧ Inv (n + 1) D2 :=
  ⟨r, _, _, e1, e2, q_end h hc hm⟩
/-- the class's call, the reference's call behind it: both only look -/
theorem q_look {n : Nat} {D : mz_D} {r v : Int32} {fc fm : mz_D → Option (Int32 × mz_D)} (h : Inv n D) (e1 : fc D = some (r, mz_wi D 0 0 13 v)) (e2 : ∀ E, eM D E → fm E = some (r, mz_wi E 0 200 2 v)) : ∃ (r : Int32) (D1 D2 : mz_D), fc D = some (r, D1) ∧ fm D1 = some (r, D2) ∧ Inv (n + 1) D2 :=
  q_fin h sC.rf e1 sM.rf (e2 _ (fun g o j h1 h2 => ⟨by rw [wi_1, if_neg (by omega)], rfl⟩))
theorem i_add' (c k : Nat) : Int32.ofNat c + nI k = nI (c + k) := nI_add c k
/-- an argument: one of the people, or not -/
theorem has_or {g m : Nat} {Dc Dm : mz_D} (hm : m ≤ 6) (hc : Dc.1 g 101 0 = nI m) (hq : Dm.1 0 201 0 = nI m) (x : Int32) : (fX4_has g x Dc = 0 ∧ fX12_isPerson x Dm = 0) ∨ ∃ p, p < m ∧ x = nI p ∧ fX4_has g x Dc = 1 ∧ fX12_isPerson x Dm = 1 := by
  unfold fX4_has fX12_isPerson
  rw [hc, show ((0 : Int32)).toNatClampNeg = 0 from rfl, hq]
  by_cases h0 : x < 0
  · exact Or.inl ⟨if_pos h0, if_pos h0⟩
  · simp only [if_neg h0]
    obtain ⟨p, hp, rfl⟩ := nJ_of (Int32.not_lt.mp h0)
    by_cases h1 : m ≤ p
    · exact Or.inl ⟨if_pos ((nJ_le (by omega) hp).mpr h1), if_pos ((nJ_le (by omega) hp).mpr h1)⟩
    · have h2 : ¬ nI m ≤ nI p := fun h => h1 ((nJ_le (by omega) hp).mp h)
      exact Or.inr ⟨p, by omega, rfl, if_neg h2, if_neg h2⟩
theorem iR.t {n : Nat} {Dc Dm : mz_D} (h : iR n Dc Dm) : ∃ m d gs ins, tR n 1 0 0 Dc Dm m d gs ins := h.table
theorem one_ne : ¬ (1 : Int32) = 0 := by decide
theorem has_m {D E : mz_D} (he : eM D E) (x : Int32) : fX12_isPerson x E = fX12_isPerson x D := by
  unfold fX12_isPerson
  rw [(he _ _ _ (by omega) (by omega)).1]
theorem sml6 (x : Int32) : x < 0 ∨ x = 0 ∨ x = 1 ∨ x = 2 ∨ x = 3 ∨ x = 4 ∨ x = 5 ∨ 5 < x := by grind
theorem gd_tt {α : Type} {x : Option α} : mz_gd true x = x := rfl
theorem l2m (k : Nat) : (2 : Int32) * nI k = nI (2 * k) := nI_mul 2 k
theorem l6m (k : Nat) : (6 : Int32) * nI k = nI (6 * k) := nI_mul 6 k
theorem l8m (k : Nat) : (8 : Int32) * nI k = nI (8 * k) := nI_mul 8 k
theorem l60m (k : Nat) : (60 : Int32) * nI k = nI (60 * k) := nI_mul 60 k
theorem l500m (k : Nat) : (500 : Int32) * nI k = nI (500 * k) := nI_mul 500 k
theorem l100m (k : Nat) : (100 : Int32) * nI k = nI (100 * k) := nI_mul 100 k
theorem r6m (k : Nat) : nI k * (6 : Int32) = nI (k * 6) := nI_mul k 6
theorem r60m (k : Nat) : nI k * (60 : Int32) = nI (k * 60) := nI_mul k 60
theorem a12l (k : Nat) : (12 : Int32) + nI k = nI (12 + k) := nI_add 12 k
theorem a60l (k : Nat) : (60 : Int32) + nI k = nI (60 + k) := nI_add 60 k
theorem a92l (k : Nat) : (92 : Int32) + nI k = nI (92 + k) := nI_add 92 k
theorem a130l (k : Nat) : (130 : Int32) + nI k = nI (130 + k) := nI_add 130 k
theorem a2000l (k : Nat) : (2000 : Int32) + nI k = nI (2000 + k) := nI_add 2000 k
theorem a500l (k : Nat) : (500 : Int32) + nI k = nI (500 + k) := nI_add 500 k
theorem a24l (k : Nat) : (24 : Int32) + nI k = nI (24 + k) := nI_add 24 k
theorem a1r (k : Nat) : nI k + (1 : Int32) = nI (k + 1) := nI_add k 1
theorem a2r (k : Nat) : nI k + (2 : Int32) = nI (k + 2) := nI_add k 2
theorem a3r (k : Nat) : nI k + (3 : Int32) = nI (k + 3) := nI_add k 3
theorem a4r (k : Nat) : nI k + (4 : Int32) = nI (k + 4) := nI_add k 4
theorem a5r (k : Nat) : nI k + (5 : Int32) = nI (k + 5) := nI_add k 5
theorem a6r (k : Nat) : nI k + (6 : Int32) = nI (k + 6) := nI_add k 6
theorem a7r (k : Nat) : nI k + (7 : Int32) = nI (k + 7) := nI_add k 7
theorem z0 : (0 : Int32).toNatClampNeg = 0 := rfl
theorem z1 : (1 : Int32).toNatClampNeg = 1 := rfl
theorem z2 : (2 : Int32).toNatClampNeg = 2 := rfl
theorem z3 : (3 : Int32).toNatClampNeg = 3 := rfl
theorem z4 : (4 : Int32).toNatClampNeg = 4 := rfl
theorem z5 : (5 : Int32).toNatClampNeg = 5 := rfl
theorem z6 : (6 : Int32).toNatClampNeg = 6 := rfl
theorem z7 : (7 : Int32).toNatClampNeg = 7 := rfl
theorem z8 : (8 : Int32).toNatClampNeg = 8 := rfl
theorem z9 : (9 : Int32).toNatClampNeg = 9 := rfl
theorem z10 : (10 : Int32).toNatClampNeg = 10 := rfl
theorem z11 : (11 : Int32).toNatClampNeg = 11 := rfl
theorem tR.uMany {n g : Nat} {Dc Dm : mz_D} {m d gs ins : Nat} (h : tR n g 0 0 Dc Dm m d gs ins)  : Dm.1 0 201 (0) = nI m := h.many_m
theorem tR.uCouples {n g : Nat} {Dc Dm : mz_D} {m d gs ins : Nat} (h : tR n g 0 0 Dc Dm m d gs ins)  : Dm.1 0 201 (1) = Dc.1 g 101 1 := h.couples
theorem tR.uDish {n g : Nat} {Dc Dm : mz_D} {m d gs ins : Nat} (h : tR n g 0 0 Dc Dm m d gs ins)  : Dm.1 0 201 (2) = nI d := h.dish_m
theorem tR.uSplit {n g : Nat} {Dc Dm : mz_D} {m d gs ins : Nat} (h : tR n g 0 0 Dc Dm m d gs ins)  : Dm.1 0 201 (3) = Dc.1 g 109 1 := h.split
theorem tR.uLaw {n g : Nat} {Dc Dm : mz_D} {m d gs ins : Nat} (h : tR n g 0 0 Dc Dm m d gs ins)  : Dm.1 0 201 (4) = Dc.1 g 100 5 := h.law
theorem tR.uRounds {n g : Nat} {Dc Dm : mz_D} {m d gs ins : Nat} (h : tR n g 0 0 Dc Dm m d gs ins)  : Dm.1 0 201 (5) = Dc.1 g 117 1 := h.rounds
theorem tR.uGifts {n g : Nat} {Dc Dm : mz_D} {m d gs ins : Nat} (h : tR n g 0 0 Dc Dm m d gs ins)  : Dm.1 0 201 (6) = Dc.1 g 100 6 := h.gifts
theorem tR.uGuests {n g : Nat} {Dc Dm : mz_D} {m d gs ins : Nat} (h : tR n g 0 0 Dc Dm m d gs ins)  : Dm.1 0 201 (7) = nI gs := h.guests_m
theorem tR.uIn {n g : Nat} {Dc Dm : mz_D} {m d gs ins : Nat} (h : tR n g 0 0 Dc Dm m d gs ins)  : Dm.1 0 201 (8) = nI ins := h.in_m
theorem tR.uInsists {n g : Nat} {Dc Dm : mz_D} {m d gs ins : Nat} (h : tR n g 0 0 Dc Dm m d gs ins) {p : Nat} (hp : p < m) : Dm.1 0 201 (12 + 8 * p) = Dc.1 g 103 p := (h.insists p hp).1
theorem tR.uQuick {n g : Nat} {Dc Dm : mz_D} {m d gs ins : Nat} (h : tR n g 0 0 Dc Dm m d gs ins) {p : Nat} (hp : p < m) : Dm.1 0 201 (12 + 8 * p + 1) = Dc.1 g 104 p := by have := (h.quick p hp).1; rw [show 0 + 13 + 8 * p = 12 + 8 * p + 1 by omega] at this; exact this
theorem tR.uMinds {n g : Nat} {Dc Dm : mz_D} {m d gs ins : Nat} (h : tR n g 0 0 Dc Dm m d gs ins) {p : Nat} (hp : p < m) : Dm.1 0 201 (12 + 8 * p + 2) = Dc.1 g 105 p := by have := (h.minds p hp).1; rw [show 0 + 14 + 8 * p = 12 + 8 * p + 2 by omega] at this; exact this
theorem tR.uMeans {n g : Nat} {Dc Dm : mz_D} {m d gs ins : Nat} (h : tR n g 0 0 Dc Dm m d gs ins) {p : Nat} (hp : p < m) : Dm.1 0 201 (12 + 8 * p + 3) = Dc.1 g 106 p := by have := (h.means p hp).1; rw [show 0 + 15 + 8 * p = 12 + 8 * p + 3 by omega] at this; exact this
theorem tR.uPartner {n g : Nat} {Dc Dm : mz_D} {m d gs ins : Nat} (h : tR n g 0 0 Dc Dm m d gs ins) {p : Nat} (hp : p < m) : Dm.1 0 201 (12 + 8 * p + 4) = Dc.1 g 107 p := by have := (h.partner p hp).1; rw [show 0 + 16 + 8 * p = 12 + 8 * p + 4 by omega] at this; exact this
theorem tR.uPaid {n g : Nat} {Dc Dm : mz_D} {m d gs ins : Nat} (h : tR n g 0 0 Dc Dm m d gs ins) {p : Nat} (hp : p < m) : Dm.1 0 201 (12 + 8 * p + 5) = Dc.1 g 108 p := by have := (h.paid p hp).1; rw [show 0 + 17 + 8 * p = 12 + 8 * p + 5 by omega] at this; exact this
theorem tR.uAhead {n g : Nat} {Dc Dm : mz_D} {m d gs ins : Nat} (h : tR n g 0 0 Dc Dm m d gs ins) {p : Nat} (hp : p < m) : Dm.1 0 201 (12 + 8 * p + 6) - Dm.1 0 201 (12 + 8 * p + 7) = Dc.1 g 118 p := by have := h.ahead p hp; rw [show 0 + 18 + 8 * p = 12 + 8 * p + 6 by omega, show 0 + 19 + 8 * p = 12 + 8 * p + 7 by omega] at this; exact this
theorem tR.uPrice {n g : Nat} {Dc Dm : mz_D} {m d gs ins : Nat} (h : tR n g 0 0 Dc Dm m d gs ins) {k : Nat} (hk : k < d) : Dm.1 0 201 (60 + 2 * k) = Dc.1 g 110 k := (h.price k hk).1
theorem tR.uEater {n g : Nat} {Dc Dm : mz_D} {m d gs ins : Nat} (h : tR n g 0 0 Dc Dm m d gs ins) {k : Nat} (hk : k < d) : Dm.1 0 201 (60 + 2 * k + 1) = Dc.1 g 111 k := by have := (h.eater k hk).1; rw [show 0 + 61 + 2 * k = 60 + 2 * k + 1 by omega] at this; exact this
theorem tR.uDebt {n g : Nat} {Dc Dm : mz_D} {m d gs ins : Nat} (h : tR n g 0 0 Dc Dm m d gs ins) {a b : Nat} (ha : a < 6) (hb : b < 6) : Dm.1 0 201 (92 + 6 * a + b) = Dc.1 g 114 (a * 6 + b) := by have := (h.debt (a * 6 + b) (by omega)).1; rw [show 0 + 92 + (a * 6 + b) = 92 + 6 * a + b by omega] at this; exact this
theorem p_op0 : op_0 Inv := fun n D h => ⟨(iR.status h).symm, iR.mono h (Nat.le_succ n)⟩
theorem p_op1 : op_1 Inv := fun n D h => ⟨(iR.top h).symm, iR.mono h (Nat.le_succ n)⟩
theorem p_op2 : op_2 Inv := fun n D h => ⟨(iR.bottom h).symm, iR.mono h (Nat.le_succ n)⟩
theorem p_op10 : op_10 Inv := fun n D x h => ⟨by unfold fX11_fault fX12_fault; rw [iR.fk h, iR.fp h], iR.mono h (Nat.le_succ n)⟩
theorem tR.m {n g b nb : Nat} {Dc Dm E : mz_D} {m d gs ins : Nat} (h : tR n g b nb Dc Dm m d gs ins) (he : eM Dm E) : tR n g b nb Dc E m d gs ins := h.congr (fun _ _ _ => ⟨rfl, rfl⟩) (fun j _ => (he _ _ _ (by omega) (by omega)).1) (fun p _ => (he _ _ _ (by omega) (by omega)).2)
theorem p_op12 : op_12 Inv := by
  intro n D x1 x2 h
  obtain ⟨m, d, gs, ins, t⟩ := iR.t h
  have hm := t.hm
  rcases has_or t.hm t.many_c t.many_m x1 with ⟨c1, c2⟩ | ⟨p, hp, rfl, c1, c2⟩
  · exact q_look h (r := -1) (v := 1) (by unfold fX11_person; rw [if_pos c1]) (fun E he => by unfold fX12_person; rw [if_pos (by rw [has_m he]; exact c2)])
  · have hc := one_ne
    rw [← c1] at hc
    have q : ∀ E, eM D E → ¬ fX12_isPerson (nI p) E = 0 := fun E he => by rw [has_m he, c2]; exact one_ne
    have t2 : ∀ E, eM D E → tR n 1 0 0 D E m d gs ins := fun E he => t.m he
    rcases sml6 x2 with h0 | rfl | rfl | rfl | rfl | rfl | rfl | h0
    · exact q_look h (r := -1) (v := 1) (by unfold fX11_person; grind) (fun E he => by unfold fX12_person; have := q E he; grind)
    · exact q_look h (r := D.1 1 103 p) (v := 0) (by unfold fX11_person; simp (disch := omega) [c1, gd_tt, nI_ix, nI_cl, l8m, l2m, l6m, l60m, a12l, a60l, a92l, a1r, a2r, a3r, a4r, a5r, a6r, a7r, nI_add, r6m, r60m]) (fun E he => by unfold fX12_person; simp (disch := omega) [q E he, gd_tt, nI_ix, nI_cl, l8m, l2m, l6m, l60m, a12l, a60l, a92l, a1r, a2r, a3r, a4r, a5r, a6r, a7r, nI_add, r6m, r60m, (t2 E he).uInsists hp])
    · exact q_look h (r := D.1 1 104 p) (v := 0) (by unfold fX11_person; simp (disch := omega) [c1, gd_tt, nI_ix, nI_cl, l8m, l2m, l6m, l60m, a12l, a60l, a92l, a1r, a2r, a3r, a4r, a5r, a6r, a7r, nI_add, r6m, r60m]) (fun E he => by unfold fX12_person; simp (disch := omega) [q E he, gd_tt, nI_ix, nI_cl, l8m, l2m, l6m, l60m, a12l, a60l, a92l, a1r, a2r, a3r, a4r, a5r, a6r, a7r, nI_add, r6m, r60m, (t2 E he).uQuick hp])
    · exact q_look h (r := D.1 1 105 p) (v := 0) (by unfold fX11_person; simp (disch := omega) [c1, gd_tt, nI_ix, nI_cl, l8m, l2m, l6m, l60m, a12l, a60l, a92l, a1r, a2r, a3r, a4r, a5r, a6r, a7r, nI_add, r6m, r60m]) (fun E he => by unfold fX12_person; simp (disch := omega) [q E he, gd_tt, nI_ix, nI_cl, l8m, l2m, l6m, l60m, a12l, a60l, a92l, a1r, a2r, a3r, a4r, a5r, a6r, a7r, nI_add, r6m, r60m, (t2 E he).uMinds hp])
    · exact q_look h (r := D.1 1 106 p) (v := 0) (by unfold fX11_person; simp (disch := omega) [c1, gd_tt, nI_ix, nI_cl, l8m, l2m, l6m, l60m, a12l, a60l, a92l, a1r, a2r, a3r, a4r, a5r, a6r, a7r, nI_add, r6m, r60m]) (fun E he => by unfold fX12_person; simp (disch := omega) [q E he, gd_tt, nI_ix, nI_cl, l8m, l2m, l6m, l60m, a12l, a60l, a92l, a1r, a2r, a3r, a4r, a5r, a6r, a7r, nI_add, r6m, r60m, (t2 E he).uMeans hp])
    · by_cases hq : D.1 1 107 p = -1
      · exact q_look h (r := -1) (v := 6) (by unfold fX11_person fX11_answerIfAny; simp (disch := omega) [c1, gd_tt, nI_ix, nI_cl, l8m, l2m, l6m, l60m, a12l, a60l, a92l, a1r, a2r, a3r, a4r, a5r, a6r, a7r, nI_add, r6m, r60m, hq]) (fun E he => by unfold fX12_person fX12_orNone; simp (disch := omega) [q E he, gd_tt, nI_ix, nI_cl, l8m, l2m, l6m, l60m, a12l, a60l, a92l, a1r, a2r, a3r, a4r, a5r, a6r, a7r, nI_add, r6m, r60m, (t2 E he).uPartner hp, hq])
      · exact q_look h (r := D.1 1 107 p) (v := 0) (by unfold fX11_person fX11_answerIfAny; simp (disch := omega) [c1, gd_tt, nI_ix, nI_cl, l8m, l2m, l6m, l60m, a12l, a60l, a92l, a1r, a2r, a3r, a4r, a5r, a6r, a7r, nI_add, r6m, r60m, hq]) (fun E he => by unfold fX12_person fX12_orNone; simp (disch := omega) [q E he, gd_tt, nI_ix, nI_cl, l8m, l2m, l6m, l60m, a12l, a60l, a92l, a1r, a2r, a3r, a4r, a5r, a6r, a7r, nI_add, r6m, r60m, (t2 E he).uPartner hp, hq])
    · exact q_look h (r := D.1 1 108 p) (v := 0) (by unfold fX11_person; simp (disch := omega) [c1, gd_tt, nI_ix, nI_cl, l8m, l2m, l6m, l60m, a12l, a60l, a92l, a1r, a2r, a3r, a4r, a5r, a6r, a7r, nI_add, r6m, r60m]) (fun E he => by unfold fX12_person; simp (disch := omega) [q E he, gd_tt, nI_ix, nI_cl, l8m, l2m, l6m, l60m, a12l, a60l, a92l, a1r, a2r, a3r, a4r, a5r, a6r, a7r, nI_add, r6m, r60m, (t2 E he).uPaid hp])
    · exact q_look h (r := -1) (v := 1) (by unfold fX11_person; grind) (fun E he => by unfold fX12_person; have := q E he; grind)
theorem p_op13 : op_13 Inv := by
  intro n D x1 x2 h
  obtain ⟨m, d, gs, ins, t⟩ := iR.t h
  have hd := t.hd
  have hc := t.dish_c
  have t2 : ∀ E, eM D E → tR n 1 0 0 D E m d gs ins := fun E he => t.m he
  by_cases hx : 0 ≤ x1 ∧ x1 < nI d ∧ 0 ≤ x2 ∧ x2 ≤ 1
  · obtain ⟨k, hk, rfl⟩ := nJ_of hx.1
    have hk2 : k < d := (nJ_lt hk (by omega)).mp hx.2.1
    have h2 : x2 = 0 ∨ x2 = 1 := by grind
    rcases h2 with rfl | rfl
    · have hb := (t.price k hk2).2
      have hne : ¬ D.1 1 110 k = -1 := fun e => by unfold bd at hb; rw [e] at hb; exact absurd hb.1 (by decide)
      exact q_look h (r := D.1 1 110 k) (v := 0) (by unfold fX11_dish; simp (disch := omega) [gd_tt, nI_ix, nI_cl, l8m, l2m, l6m, l60m, a12l, a60l, a92l, a1r, a2r, a3r, a4r, a5r, a6r, a7r, nI_add, r6m, r60m, hc, nI_neg, nJ_le, Nat.not_le.mpr hk2]) (fun E he => by unfold fX12_dish fX12_orNone; simp (disch := omega) [gd_tt, nI_ix, nI_cl, l8m, l2m, l6m, l60m, a12l, a60l, a92l, a1r, a2r, a3r, a4r, a5r, a6r, a7r, nI_add, r6m, r60m, (t2 E he).uPrice hk2, (t2 E he).uDish, nI_neg, nJ_le, Nat.not_le.mpr hk2, hne])
    · by_cases hq : D.1 1 111 k = -1
      · exact q_look h (r := -1) (v := 6) (by unfold fX11_dish fX11_answerIfAny; simp (disch := omega) [gd_tt, nI_ix, nI_cl, l8m, l2m, l6m, l60m, a12l, a60l, a92l, a1r, a2r, a3r, a4r, a5r, a6r, a7r, nI_add, r6m, r60m, hc, nI_neg, nJ_le, Nat.not_le.mpr hk2, hq]) (fun E he => by unfold fX12_dish fX12_orNone; simp (disch := omega) [gd_tt, nI_ix, nI_cl, l8m, l2m, l6m, l60m, a12l, a60l, a92l, a1r, a2r, a3r, a4r, a5r, a6r, a7r, nI_add, r6m, r60m, (t2 E he).uEater hk2, (t2 E he).uDish, nI_neg, nJ_le, Nat.not_le.mpr hk2, hq])
      · exact q_look h (r := D.1 1 111 k) (v := 0) (by unfold fX11_dish fX11_answerIfAny; simp (disch := omega) [gd_tt, nI_ix, nI_cl, l8m, l2m, l6m, l60m, a12l, a60l, a92l, a1r, a2r, a3r, a4r, a5r, a6r, a7r, nI_add, r6m, r60m, hc, nI_neg, nJ_le, Nat.not_le.mpr hk2, hq]) (fun E he => by unfold fX12_dish fX12_orNone; simp (disch := omega) [gd_tt, nI_ix, nI_cl, l8m, l2m, l6m, l60m, a12l, a60l, a92l, a1r, a2r, a3r, a4r, a5r, a6r, a7r, nI_add, r6m, r60m, (t2 E he).uEater hk2, (t2 E he).uDish, nI_neg, nJ_le, Nat.not_le.mpr hk2, hq])
  · exact q_look h (r := -1) (v := 1) (by unfold fX11_dish; rw [hc]; grind) (fun E he => by unfold fX12_dish; rw [z2, (t2 E he).uDish]; grind)
theorem p_op59 : op_59 Inv := by
  intro n D x1 h
  by_cases hx : 0 ≤ x1 ∧ x1 < 5
  · obtain ⟨k, hk, rfl⟩ := nJ_of hx.1
    have hk2 : k < 5 := (nJ_lt hk (by omega)).mp hx.2
    have c1 : nI k < 5 := hx.2
    have c2 : nI k ≤ 4 := (ol_ler (c := 4) (by omega) hk).mpr (by omega)
    by_cases hq : D.1 0 0 10 = 0
    · exact q_look h (r := -1) (v := 6) (by unfold fX11_lived; simp (disch := omega) [gd_tt, nI_ix, nI_cl, l8m, l2m, l6m, l60m, a12l, a60l, a92l, a1r, a2r, a3r, a4r, a5r, a6r, a7r, nI_add, r6m, r60m, nI_neg, c1, hq]) (fun E he => by unfold fX12_lived; rw [(he _ _ _ (by omega) (by omega)).1, iR.lived h]; simp (disch := omega) [gd_tt, nI_ix, nI_cl, l8m, l2m, l6m, l60m, a12l, a60l, a92l, a1r, a2r, a3r, a4r, a5r, a6r, a7r, nI_add, r6m, r60m, nI_neg, c2, hq])
    · exact q_look h (r := D.1 0 13 k) (v := 0) (by unfold fX11_lived; simp (disch := omega) [gd_tt, nI_ix, nI_cl, l8m, l2m, l6m, l60m, a12l, a60l, a92l, a1r, a2r, a3r, a4r, a5r, a6r, a7r, nI_add, r6m, r60m, nI_neg, c1, hq]) (fun E he => by unfold fX12_lived; rw [(he 0 200 _ (by omega) (by omega)).1, iR.lived h]; simp (disch := omega) [gd_tt, nI_ix, nI_cl, l8m, l2m, l6m, l60m, a12l, a60l, a92l, a1r, a2r, a3r, a4r, a5r, a6r, a7r, nI_add, r6m, r60m, nI_neg, c2, hq, (he 0 214 _ (by omega) (by omega)).1, iR.told h k hk2])
  · exact q_look h (r := -1) (v := 1) (by unfold fX11_lived; grind) (fun E he => by unfold fX12_lived; grind)
theorem p_op50 : op_50 Inv := by
  intro n D x1 h
  obtain ⟨m, d, gs, ins, t⟩ := iR.t h
  have hm := t.hm
  rcases has_or t.hm t.many_c t.many_m x1 with ⟨c1, c2⟩ | ⟨p, hp, rfl, c1, c2⟩
  · exact q_look h (r := -1) (v := 1) (by unfold fX11_drinks; rw [if_pos c1]) (fun E he => by unfold fX12_drinks; rw [if_pos (by rw [has_m he]; exact c2)])
  · exact q_look h (r := D.1 1 118 p) (v := 0) (by unfold fX11_drinks; simp (disch := omega) [c1, gd_tt, nI_ix, nI_cl, l8m, l2m, l6m, l60m, a12l, a60l, a92l, a1r, a2r, a3r, a4r, a5r, a6r, a7r, nI_add, r6m, r60m]) (fun E he => by unfold fX12_drinks fX12_drinksOf; simp (disch := omega) [has_m he, c2, gd_tt, nI_ix, nI_cl, l8m, l2m, l6m, l60m, a12l, a60l, a92l, a1r, a2r, a3r, a4r, a5r, a6r, a7r, nI_add, r6m, r60m, (t.m he).uAhead hp])
