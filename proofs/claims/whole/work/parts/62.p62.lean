/-! ===== calls that change the table ===== -/
def kC (D E : mz_D) : Prop := ∀ g o j, ¬ (sCq g o j ∨ (g = 1 ∧ 100 ≤ o ∧ o < 127)) → E.1 g o j = D.1 g o j ∧ E.2 g o j = D.2 g o j
def kM (D E : mz_D) : Prop := ∀ g o j, ¬ (sMq g o j ∨ (o = 201 ∧ j < 500) ∨ (o = 202 ∧ j < 6)) → E.1 g o j = D.1 g o j ∧ E.2 g o j = D.2 g o j
theorem kC.tr {D E F : mz_D} (h : kC D E) (k : kC E F) : kC D F := fun g o j hn => ⟨(k g o j hn).1.trans (h g o j hn).1, (k g o j hn).2.trans (h g o j hn).2⟩
theorem kM.tr {D E F : mz_D} (h : kM D E) (k : kM E F) : kM D F := fun g o j hn => ⟨(k g o j hn).1.trans (h g o j hn).1, (k g o j hn).2.trans (h g o j hn).2⟩
theorem kC.rf {D : mz_D} : kC D D := fun _ _ _ _ => ⟨rfl, rfl⟩
theorem kM.rf {D : mz_D} : kM D D := fun _ _ _ _ => ⟨rfl, rfl⟩
theorem sC.k {D E : mz_D} (h : sC D E) : kC D E := fun g o j hn => h g o j (fun e => hn (Or.inl e))
theorem sM.k {D E : mz_D} (h : sM D E) : kM D E := fun g o j hn => h g o j (fun e => hn (Or.inl e))
theorem kC.m {D E : mz_D} (h : kC D E) : eM D E := fun g o j h1 h2 => h g o j (by unfold sCq; omega)
theorem kM.c {D E : mz_D} (h : kM D E) : eC D E := fun g o j h1 => h g o j (by unfold sMq; omega)
theorem kC_wi {D : mz_D} {o j : Nat} {v : Int32} (h : 100 ≤ o ∧ o < 127) : kC D (mz_wi D 1 o j v) := fun a b c hn => ⟨by rw [wi_1, if_neg (fun e => hn (by omega))], rfl⟩
theorem kC_wr {D : mz_D} {o : Nat} {f : Nat → Int32} (h : 100 ≤ o ∧ o < 127) : kC D (wr D 1 o f) := fun a b c hn => ⟨by rw [wr_1, if_neg (fun e => hn (by omega))], rfl⟩
theorem kM_wi {D : mz_D} {j : Nat} {v : Int32} (h : j < 500) : kM D (mz_wi D 0 201 j v) := fun a b c hn => ⟨by rw [wi_1, if_neg (fun e => hn (by omega))], rfl⟩
theorem kM_wr {D : mz_D} {f : Nat → Int32} (h : ∀ j, 500 ≤ j → f j = D.1 0 201 j) : kM D (wr D 0 201 f) := fun a b c hn => ⟨by
  rw [wr_1]
  split
  · rename_i e
    rw [h c (by omega), e.1, e.2]
  · rfl, rfl⟩
theorem iR.tab {n n' : Nat} {Dc Dm Dc' Dm' : mz_D} (h : iR n Dc Dm) (hn : n ≤ n') (hc : kC Dc Dc') (hm : kM Dm Dm') (ht : ∃ m d gs ins, tR n' 1 0 0 Dc' Dm' m d gs ins) : iR n' Dc' Dm' := iR.mk
  (status := by rw [(hc _ _ _ (by unfold sCq; omega)).1, (hm _ _ _ (by unfold sMq; omega)).1]; exact h.status)
  (top := by rw [(hc _ _ _ (by unfold sCq; omega)).2, (hm _ _ _ (by unfold sMq; omega)).2]; exact h.top)
  (bottom := by rw [(hc _ _ _ (by unfold sCq; omega)).2, (hm _ _ _ (by unfold sMq; omega)).2]; exact h.bottom)
  (fk := by rw [(hc _ _ _ (by unfold sCq; omega)).1, (hm _ _ _ (by unfold sMq; omega)).1]; exact h.fk)
  (fp := by rw [(hc _ _ _ (by unfold sCq; omega)).1, (hm _ _ _ (by unfold sMq; omega)).1]; exact h.fp)
  (taped := by rw [(hc _ _ _ (by unfold sCq; omega)).1, (hm _ _ _ (by unfold sMq; omega)).1]; exact h.taped)
  (tape := fun j hj => by rw [(hc _ _ _ (by unfold sCq; omega)).1, (hm _ _ _ (by unfold sMq; omega)).1]; exact h.tape j hj)
  (trays := fun t ht => (h.trays t ht).congr ht (fun o j h1 h2 => hc _ _ _ (by unfold sCq; omega)) (fun o j h1 h2 => hm _ _ _ (by unfold sMq; omega)))
  (lived := by rw [(hc _ _ _ (by unfold sCq; omega)).1, (hm _ _ _ (by unfold sMq; omega)).1]; exact h.lived)
  (told := fun j hj => by rw [(hc _ _ _ (by unfold sCq; omega)).1, (hm _ _ _ (by unfold sMq; omega)).1]; exact h.told j hj)
  (keys := by
    rw [← h.keys]
    funext j
    exact (hc _ _ _ (by unfold sCq; omega)).2)
  (table := ht)
  (marks := by
    obtain ⟨mk, h1, h2, h3, h4⟩ := h.marks
    refine ⟨mk, h1, by rw [(hm _ _ _ (by unfold sMq; omega)).1]; exact h2, by rw [(hc _ _ _ (by unfold sCq; omega)).1]; exact h3, fun i hi => ?_⟩
    obtain ⟨m, d, gs, ins, ht⟩ := h4 i hi
    exact ⟨m, d, gs, ins, (ht.congr (fun o j hq => hc _ _ _ (by unfold tq at hq; unfold sCq; omega)) (fun j hj => (hm _ _ _ (by unfold sMq; omega)).1) (fun p hp => (hm _ _ _ (by unfold sMq; omega)).2)).mono hn⟩)
theorem q_tab {n : Nat} {D E : mz_D} {r v : Int32} {fc fm : mz_D → Option (Int32 × mz_D)} (h : Inv n D) (hc : kC D E) (e1 : fc D = some (r, mz_wi E 0 0 13 v)) (e2 : ∀ E', eM D E' → ∃ F, kM E' F ∧ fm E' = some (r, mz_wi F 0 200 2 v) ∧ ∃ m d gs ins, tR (n + 1) 1 0 0 E F m d gs ins) : ∃ (r : Int32) (D1 D2 : mz_D), fc D = some (r, D1) ∧ fm D1 = some (r, D2) ∧ Inv (n + 1) D2 := by
  have hE : eM D (mz_wi E 0 0 13 v) := hc.m.tr (fun g o j h1 h2 => ⟨by rw [wi_1, if_neg (by omega)], rfl⟩)
  obtain ⟨F, hm, e2, ht⟩ := e2 _ hE
  refine ⟨r, _, _, e1, e2, ?_⟩
  have a1 : iR n D (mz_wi E 0 0 13 v) := iR.cells h eC.rf hE
  have a2 : iR (n + 1) E F := a1.tab (Nat.le_succ n) hc hm ht
  refine (a2.stat v).cells (fun g o j ho => ?_) eM.rf
  have c := hm.c g o j ho
  exact ⟨by rw [wi_1 F, if_neg (by omega)]; exact c.1, c.2⟩
/-- what may change of a table but its people and its year -/
def mC (o : Nat) : Prop := o = 100 ∨ o = 108 ∨ o = 109 ∨ o = 110 ∨ o = 111 ∨ o = 114 ∨ o = 117 ∨ o = 118
def mM (j : Nat) : Prop := (2 ≤ j ∧ j ≤ 6) ∨ j = 8 ∨ (12 ≤ j ∧ j < 60 ∧ 5 ≤ (j - 12) % 8) ∨ (60 ≤ j ∧ j < 128)
theorem tR.mut {n n' g : Nat} {Dc Dm Dc' Dm' : mz_D} {m d gs ins d' ins' : Nat} (h : tR n g 0 0 Dc Dm m d gs ins) (hc : ∀ o j, tq o j → ¬ mC o → Dc'.1 g o j = Dc.1 g o j ∧ Dc'.2 g o j = Dc.2 g o j) (hm : ∀ j, j < 500 → ¬ mM j → Dm'.1 0 201 j = Dm.1 0 201 j) (hnm : ∀ p, p < 6 → Dm'.2 0 202 p = Dm.2 0 202 p)
    (hd : d' ≤ 16) (hins : ins' < 2 ^ m) (dish_c : Dc'.1 g 109 0 = nI d') (dish_m : Dm'.1 0 201 2 = nI d') (split : Dm'.1 0 201 3 = Dc'.1 g 109 1) (split_b : Dc'.1 g 109 1 = 0 ∨ Dc'.1 g 109 1 = 1 ∨ Dc'.1 g 109 1 = 2) (law : Dm'.1 0 201 4 = Dc'.1 g 100 5) (law_b : Dc'.1 g 100 5 = 0 ∨ Dc'.1 g 100 5 = 1 ∨ Dc'.1 g 100 5 = 2 ∨ Dc'.1 g 100 5 = 3) (rounds : Dm'.1 0 201 5 = Dc'.1 g 117 1) (gifts : Dm'.1 0 201 6 = Dc'.1 g 100 6) (in_c : Dc'.1 g 117 0 = nI ins') (in_m : Dm'.1 0 201 8 = nI ins')
    (paid : ∀ p, p < m → Dm'.1 0 201 (17 + 8 * p) = Dc'.1 g 108 p ∧ bd (Dc'.1 g 108 p) 0 (301 * n')) (ahead : ∀ p, p < m → Dm'.1 0 201 (18 + 8 * p) - Dm'.1 0 201 (19 + 8 * p) = Dc'.1 g 118 p) (price : ∀ k, k < d' → Dm'.1 0 201 (60 + 2 * k) = Dc'.1 g 110 k ∧ bd (Dc'.1 g 110 k) 1 999) (eater : ∀ k, k < d' → Dm'.1 0 201 (61 + 2 * k) = Dc'.1 g 111 k ∧ who (Dc'.1 g 111 k) m) (debt : ∀ k, k < 36 → Dm'.1 0 201 (92 + k) = Dc'.1 g 114 k ∧ bd (Dc'.1 g 114 k) 0 999999) (nodebt : ∀ p q, p < 6 → q < 6 → m ≤ p ∨ m ≤ q → Dc'.1 g 114 (6 * p + q) = 0) : tR n' g 0 0 Dc' Dm' m d' gs ins' := by
  have C : ∀ o j, tq o j → ¬ mC o → Dc'.1 g o j = Dc.1 g o j := fun o j h k => (hc o j h k).1
  have C2 : ∀ o j, tq o j → ¬ mC o → Dc'.2 g o j = Dc.2 g o j := fun o j h k => (hc o j h k).2
  have M : ∀ k j, k = j → j < 500 → ¬ mM j → Dm'.1 0 201 k = Dm.1 0 201 k := fun k j e hj hk => by rw [e]; exact hm j hj hk
  have hm6 := h.hm
  exact tR.mk
    (hm := h.hm) (hd := hd) (hgs := h.hgs) (hins := hins)
    (many_c := by rw [C _ _ (by unfold tq; omega) (by unfold mC; omega)]; exact h.many_c)
    (many_m := by rw [M 0 0 (by omega) (by omega) (by unfold mM; omega)]; exact h.many_m)
    (couples := by rw [C _ _ (by unfold tq; omega) (by unfold mC; omega), M _ 1 (by omega) (by omega) (by unfold mM; omega)]; exact h.couples)
    (dish_c := dish_c) (dish_m := by rw [Nat.zero_add]; exact dish_m)
    (split := by rw [Nat.zero_add]; exact split) (split_b := split_b)
    (law := by rw [Nat.zero_add]; exact law) (law_b := law_b)
    (rounds := by rw [Nat.zero_add]; exact rounds) (gifts := by rw [Nat.zero_add]; exact gifts)
    (guests_c := by rw [C _ _ (by unfold tq; omega) (by unfold mC; omega)]; exact h.guests_c)
    (guests_m := by rw [M _ 7 (by omega) (by omega) (by unfold mM; omega)]; exact h.guests_m)
    (in_c := in_c) (in_m := by rw [Nat.zero_add]; exact in_m)
    (names := fun p hp => by rw [C2 _ _ (by unfold tq; omega) (by unfold mC; omega), Nat.zero_add, hnm p (by omega)]; have := h.names p hp; rw [Nat.zero_add] at this; exact this)
    (insists := fun p hp => by rw [C _ _ (by unfold tq; omega) (by unfold mC; omega), M _ (12 + 8 * p) (by omega) (by omega) (by unfold mM; omega)]; exact h.insists p hp)
    (quick := fun p hp => by rw [C _ _ (by unfold tq; omega) (by unfold mC; omega), M _ (13 + 8 * p) (by omega) (by omega) (by unfold mM; omega)]; exact h.quick p hp)
    (minds := fun p hp => by rw [C _ _ (by unfold tq; omega) (by unfold mC; omega), M _ (14 + 8 * p) (by omega) (by omega) (by unfold mM; omega)]; exact h.minds p hp)
    (means := fun p hp => by rw [C _ _ (by unfold tq; omega) (by unfold mC; omega), M _ (15 + 8 * p) (by omega) (by omega) (by unfold mM; omega)]; exact h.means p hp)
    (partner := fun p hp => by rw [C _ _ (by unfold tq; omega) (by unfold mC; omega), M _ (16 + 8 * p) (by omega) (by omega) (by unfold mM; omega)]; exact h.partner p hp)
    (paid := fun p hp => by rw [show 0 + 17 + 8 * p = 17 + 8 * p by omega]; exact paid p hp)
    (ahead := fun p hp => by rw [show 0 + 18 + 8 * p = 18 + 8 * p by omega, show 0 + 19 + 8 * p = 19 + 8 * p by omega]; exact ahead p hp)
    (price := fun k hk => by rw [show 0 + 60 + 2 * k = 60 + 2 * k by omega]; exact price k hk)
    (eater := fun k hk => by rw [show 0 + 61 + 2 * k = 61 + 2 * k by omega]; exact eater k hk)
    (debt := fun k hk => by rw [show 0 + 92 + k = 92 + k by omega]; exact debt k hk)
    (nodebt := nodebt)
    (year := h.year.congr (fun o j h1 h2 => C _ _ (by unfold tq; omega) (by unfold mC; omega)) (by rw [M (0 + 9) 9 (by omega) (by omega) (by unfold mM; omega)]) (fun j h1 h2 => M _ j (by omega) (by omega) (by unfold mM; omega)))
/-! the unchanged facts, with plain places -/
theorem tR.vPaid {n g : Nat} {Dc Dm : mz_D} {m d gs ins : Nat} (h : tR n g 0 0 Dc Dm m d gs ins) {p : Nat} (hp : p < m) : Dm.1 0 201 (17 + 8 * p) = Dc.1 g 108 p ∧ bd (Dc.1 g 108 p) 0 (301 * n) := by have := h.paid p hp; rw [show 0 + 17 + 8 * p = 17 + 8 * p by omega] at this; exact this
theorem tR.vAhead {n g : Nat} {Dc Dm : mz_D} {m d gs ins : Nat} (h : tR n g 0 0 Dc Dm m d gs ins) {p : Nat} (hp : p < m) : Dm.1 0 201 (18 + 8 * p) - Dm.1 0 201 (19 + 8 * p) = Dc.1 g 118 p := by have := h.ahead p hp; rw [show 0 + 18 + 8 * p = 18 + 8 * p by omega, show 0 + 19 + 8 * p = 19 + 8 * p by omega] at this; exact this
theorem tR.vPrice {n g : Nat} {Dc Dm : mz_D} {m d gs ins : Nat} (h : tR n g 0 0 Dc Dm m d gs ins) {k : Nat} (hk : k < d) : Dm.1 0 201 (60 + 2 * k) = Dc.1 g 110 k ∧ bd (Dc.1 g 110 k) 1 999 := by have := h.price k hk; rw [show 0 + 60 + 2 * k = 60 + 2 * k by omega] at this; exact this
theorem tR.vEater {n g : Nat} {Dc Dm : mz_D} {m d gs ins : Nat} (h : tR n g 0 0 Dc Dm m d gs ins) {k : Nat} (hk : k < d) : Dm.1 0 201 (61 + 2 * k) = Dc.1 g 111 k ∧ who (Dc.1 g 111 k) m := by have := h.eater k hk; rw [show 0 + 61 + 2 * k = 61 + 2 * k by omega] at this; exact this
theorem tR.vDebt {n g : Nat} {Dc Dm : mz_D} {m d gs ins : Nat} (h : tR n g 0 0 Dc Dm m d gs ins) {k : Nat} (hk : k < 36) : Dm.1 0 201 (92 + k) = Dc.1 g 114 k ∧ bd (Dc.1 g 114 k) 0 999999 := by have := h.debt k hk; rw [show 0 + 92 + k = 92 + k by omega] at this; exact this
theorem bd_mono {x : Int32} {n n' : Nat} (h : bd x 0 (301 * n)) (hn : n ≤ n') : bd x 0 (301 * n') := by unfold bd at h ⊢; omega
/-- debts and gifts -/
theorem tR.mDebt {n n' g : Nat} {Dc Dm Dc' Dm' : mz_D} {m d gs ins : Nat} (h : tR n g 0 0 Dc Dm m d gs ins) (hn : n ≤ n') (hc : ∀ o j, tq o j → o ≠ 114 → ¬ (o = 100 ∧ j = 6) → Dc'.1 g o j = Dc.1 g o j ∧ Dc'.2 g o j = Dc.2 g o j) (hm : ∀ j, j < 500 → j ≠ 6 → ¬ (92 ≤ j ∧ j < 128) → Dm'.1 0 201 j = Dm.1 0 201 j) (hnm : ∀ p, p < 6 → Dm'.2 0 202 p = Dm.2 0 202 p) (gifts : Dm'.1 0 201 6 = Dc'.1 g 100 6) (debt : ∀ k, k < 36 → Dm'.1 0 201 (92 + k) = Dc'.1 g 114 k ∧ bd (Dc'.1 g 114 k) 0 999999) (nodebt : ∀ p q, p < 6 → q < 6 → m ≤ p ∨ m ≤ q → Dc'.1 g 114 (6 * p + q) = 0) : tR n' g 0 0 Dc' Dm' m d gs ins := by
  have C : ∀ o j, tq o j → o ≠ 114 → ¬ (o = 100 ∧ j = 6) → Dc'.1 g o j = Dc.1 g o j := fun o j h k l => (hc o j h k l).1
  have h6 := h.hm
  have h16 := h.hd
  refine h.mut (fun o j hq hk => hc o j hq (by unfold mC at hk; omega) (by unfold mC at hk; omega)) (fun j hj hk => hm j hj (by unfold mM at hk; omega) (by unfold mM at hk; omega)) hnm h.hd h.hins ?_ ?_ ?_ ?_ ?_ ?_ ?_ gifts ?_ ?_ ?_ ?_ ?_ ?_ debt nodebt
  · rw [C _ _ (by unfold tq; omega) (by omega) (by omega)]; exact h.dish_c
  · rw [hm _ (by omega) (by omega) (by omega)]; exact h.uDish
  · rw [C _ _ (by unfold tq; omega) (by omega) (by omega), hm _ (by omega) (by omega) (by omega)]; exact h.uSplit
  · rw [C _ _ (by unfold tq; omega) (by omega) (by omega)]; exact h.split_b
  · rw [C _ _ (by unfold tq; omega) (by omega) (by omega), hm _ (by omega) (by omega) (by omega)]; exact h.uLaw
  · rw [C _ _ (by unfold tq; omega) (by omega) (by omega)]; exact h.law_b
  · rw [C _ _ (by unfold tq; omega) (by omega) (by omega), hm _ (by omega) (by omega) (by omega)]; exact h.uRounds
  · rw [C _ _ (by unfold tq; omega) (by omega) (by omega)]; exact h.in_c
  · rw [hm _ (by omega) (by omega) (by omega)]; exact h.uIn
  · intro p hp; rw [C _ _ (by unfold tq; omega) (by omega) (by omega), hm _ (by omega) (by omega) (by omega)]; exact ⟨(h.vPaid hp).1, bd_mono (h.vPaid hp).2 hn⟩
  · intro p hp; rw [C _ _ (by unfold tq; omega) (by omega) (by omega), hm _ (by omega) (by omega) (by omega), hm _ (by omega) (by omega) (by omega)]; exact h.vAhead hp
  · intro k hk; rw [C _ _ (by unfold tq; omega) (by omega) (by omega), hm _ (by omega) (by omega) (by omega)]; exact h.vPrice hk
  · intro k hk; rw [C _ _ (by unfold tq; omega) (by omega) (by omega), hm _ (by omega) (by omega) (by omega)]; exact h.vEater hk
/-- one debt -/
theorem tR.oneDebt {n g : Nat} {Dc Dm : mz_D} {m d gs ins : Nat} (h : tR n g 0 0 Dc Dm m d gs ins) {a b : Nat} (ha : a < m) (hb : b < m) {v : Int32} (hv : bd v 0 999999) : tR n g 0 0 (mz_wi Dc g 114 (a * 6 + b) v) (mz_wi Dm 0 201 (92 + 6 * a + b) v) m d gs ins := by
  have hm := h.hm
  refine h.mDebt (Nat.le_refl n) (fun o j _ h1 _ => ⟨by rw [wi_1, if_neg (by omega)], rfl⟩) (fun j _ h1 h2 => by rw [wi_1, if_neg (by omega)]) (fun _ _ => rfl) ?_ (fun k hk => ?_) (fun p q hp hq hpq => ?_)
  · rw [wi_1, if_neg (by omega), wi_1, if_neg (by omega)]; exact h.uGifts
  · rw [wi_1, wi_1]
    by_cases e : k = a * 6 + b
    · rw [if_pos (by omega), if_pos (by omega)]; exact ⟨rfl, hv⟩
    · rw [if_neg (by omega), if_neg (by omega)]; exact h.vDebt hk
  · rw [wi_1, if_neg (by omega)]; exact h.nodebt p q hp hq hpq
theorem tR.oneGift {n g : Nat} {Dc Dm : mz_D} {m d gs ins : Nat} (h : tR n g 0 0 Dc Dm m d gs ins) (v : Int32) : tR n g 0 0 (mz_wi Dc g 100 6 v) (mz_wi Dm 0 201 6 v) m d gs ins := by
  refine h.mDebt (Nat.le_refl n) (fun o j _ _ h1 => ⟨by rw [wi_1, if_neg (by omega)], rfl⟩) (fun j _ h1 h2 => by rw [wi_1, if_neg (by omega)]) (fun _ _ => rfl) ?_ (fun k hk => ?_) (fun p q hp hq hpq => ?_)
  · rw [wi_1, if_pos ⟨rfl, rfl, rfl⟩, wi_1, if_pos ⟨rfl, rfl, rfl⟩]
  · rw [wi_1, if_neg (by omega), wi_1, if_neg (by omega)]; exact h.vDebt hk
  · rw [wi_1, if_neg (by omega)]; exact h.nodebt p q hp hq hpq
