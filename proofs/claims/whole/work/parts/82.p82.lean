/-! ===== a year: what a step does ===== -/
theorem tR.wiM {n g b nb : Nat} {Dc Dm : mz_D} {m d gs ins : Nat} (h : tR n g b nb Dc Dm m d gs ins) {o : Nat} (ho : o ≠ 201) (j : Nat) (x : Int32) : tR n g b nb Dc (mz_wi Dm 0 o j x) m d gs ins := h.congr (fun _ _ _ => ⟨rfl, rfl⟩) (fun i _ => wi_n (Or.inl (fun e => ho e.symm))) (fun _ _ => rfl)
theorem tR.wiC {n g b nb : Nat} {Dc Dm : mz_D} {m d gs ins : Nat} (h : tR n g b nb Dc Dm m d gs ins) {o : Nat} (ho : o < 100) (j : Nat) (x : Int32) : tR n g b nb (mz_wi Dc 0 o j x) Dm m d gs ins := h.congr (fun a i hq => ⟨wi_n (Or.inl (by unfold tq at hq; omega)), rfl⟩) (fun _ _ => rfl) (fun _ _ => rfl)
theorem sDue_eq {g : Nat} {D D' : mz_D} (h7 : ∀ j, D'.1 g 107 j = D.1 g 107 j) (h10 : ∀ j, D'.1 g 110 j = D.1 g 110 j) (h11 : ∀ j, D'.1 g 111 j = D.1 g 111 j) (m d gs : Nat) (s : Int32) : sDue g D' m d gs s = sDue g D m d gs s := by
  funext i
  unfold sDue sGst uF uC sEat sOwn sCom sTot
  simp only [h7, h10, h11]
/-- what a step may change: the class's cells, the reference's -/
def fC (g : Nat) (D E : mz_D) : Prop := (∀ a o j, ¬ ((a = g ∧ (o = 100 ∨ o = 108 ∨ o = 114 ∨ o = 117 ∨ o = 118)) ∨ (a = 0 ∧ o = 9 ∧ (j = 1 ∨ j = 2 ∨ j = 3 ∨ j = 4 ∨ j = 7))) → E.1 a o j = D.1 a o j) ∧ E.2 = D.2
def fM (D E : mz_D) : Prop := (∀ a o j, ¬ (a = 0 ∧ ((o = 201 ∧ j < 128 ∧ j ≠ 9) ∨ (o = 200 ∧ j = 28) ∨ (o = 213 ∧ j < 4))) → E.1 a o j = D.1 a o j) ∧ E.2 = D.2
theorem fC.rf {g : Nat} {D : mz_D} : fC g D D := ⟨fun _ _ _ _ => rfl, rfl⟩
theorem fM.rf {D : mz_D} : fM D D := ⟨fun _ _ _ _ => rfl, rfl⟩
theorem fC.tr {g : Nat} {D E F : mz_D} (h1 : fC g D E) (h2 : fC g E F) : fC g D F := ⟨fun a o j h => by rw [h2.1 a o j h, h1.1 a o j h], by rw [h2.2, h1.2]⟩
theorem fM.tr {D E F : mz_D} (h1 : fM D E) (h2 : fM E F) : fM D F := ⟨fun a o j h => by rw [h2.1 a o j h, h1.1 a o j h], by rw [h2.2, h1.2]⟩
theorem fC_wi {g a o j : Nat} {D : mz_D} {x : Int32} (h : (a = g ∧ (o = 100 ∨ o = 108 ∨ o = 114 ∨ o = 117 ∨ o = 118)) ∨ (a = 0 ∧ o = 9 ∧ (j = 1 ∨ j = 2 ∨ j = 3 ∨ j = 4 ∨ j = 7))) : fC g D (mz_wi D a o j x) := ⟨fun a' o' j' hn => wi_n (by omega), rfl⟩
theorem fC_wr {g o : Nat} {D : mz_D} {f : Nat → Int32} (h : o = 100 ∨ o = 108 ∨ o = 114 ∨ o = 117 ∨ o = 118) : fC g D (wr D g o f) := ⟨fun a' o' j' hn => wr_n (by omega), rfl⟩
theorem fM_wi {o j : Nat} {D : mz_D} {x : Int32} (h : (o = 201 ∧ j < 128 ∧ j ≠ 9) ∨ (o = 200 ∧ j = 28) ∨ (o = 213 ∧ j < 4)) : fM D (mz_wi D 0 o j x) := ⟨fun a' o' j' hn => wi_n (by omega), rfl⟩
theorem fM_wr {D : mz_D} {f : Nat → Int32} (h : ∀ j, ¬ (j < 128 ∧ j ≠ 9) → f j = D.1 0 201 j) : fM D (wr D 0 201 f) := ⟨fun a o j hn => by
  by_cases e : a = 0 ∧ o = 201
  · obtain ⟨rfl, rfl⟩ := e
    rw [wr_s]
    exact h j (by omega)
  · exact wr_n (by omega), rfl⟩
/-- what holds between both while a year is lived, places aside -/
def cR (n g B : Nat) (v : Nat → Int32) (m d gs ins : Nat) (Dc Dm : mz_D) : Prop :=
  tR n g 0 0 Dc Dm m d gs ins ∧ (∀ p, p < m → bd (Dc.1 g 108 p) 0 B) ∧ (∀ i, i < m → Dc.1 0 12 i = v i) ∧ v = sDue g Dc m d gs (Dc.1 g 109 1) ∧
  (Dm.1 0 213 0 = Dc.1 0 9 1 ∧ Dm.1 0 213 1 = Dc.1 0 9 2 ∧ Dm.1 0 213 2 = Dc.1 0 9 3 ∧ Dm.1 0 213 3 = Dc.1 0 9 4) ∧ ∃ z, z < 65536 ∧ Dc.1 0 9 7 = nI z ∧ Dm.1 0 200 28 = nI z
theorem cR.up {n g B B' : Nat} {v : Nat → Int32} {m d gs ins : Nat} {Dc Dm Dc' Dm' : mz_D} (hg : g ≠ 0) (h : cR n g B v m d gs ins Dc Dm) (f : fC g Dc Dc') (t : tR n g 0 0 Dc' Dm' m d gs ins) (hp : ∀ p, p < m → bd (Dc'.1 g 108 p) 0 B') (hk : Dm'.1 0 213 0 = Dc'.1 0 9 1 ∧ Dm'.1 0 213 1 = Dc'.1 0 9 2 ∧ Dm'.1 0 213 2 = Dc'.1 0 9 3 ∧ Dm'.1 0 213 3 = Dc'.1 0 9 4) (hz : ∃ z, z < 65536 ∧ Dc'.1 0 9 7 = nI z ∧ Dm'.1 0 200 28 = nI z) : cR n g B' v m d gs ins Dc' Dm' := by
  obtain ⟨-, -, h3, h4, -, -⟩ := h
  refine ⟨t, hp, fun i hi => by rw [f.1 _ _ _ (by omega)]; exact h3 i hi, ?_, hk, hz⟩
  rw [h4, f.1 g 109 1 (by omega), sDue_eq (fun j => f.1 _ _ _ (by omega)) (fun j => f.1 _ _ _ (by omega)) (fun j => f.1 _ _ _ (by omega))]
def stp (n g B : Nat) (v : Nat → Int32) (m d gs ins : Nat) (Dc Dm Dc' : mz_D) (q : Int32 × mz_D) : Prop :=
  (q.1 = 0 ∨ q.1 = 1) ∧ fC g Dc Dc' ∧ fM Dm q.2 ∧ q.2.1 0 213 0 = Dm.1 0 213 0 ∧ cR n g (B + 1) v m d gs ins Dc' (mz_wi q.2 0 213 0 (Dm.1 0 213 0 + if q.1 = 0 then 1 else 0))
theorem bd_up {x : Int32} {B : Nat} (h : bd x 0 B) : bd x 0 ((B + 1 : Nat) : Int) := by unfold bd at *; omega
/-- nothing but a miss -/
theorem stp_0 {n g B : Nat} {v : Nat → Int32} {m d gs ins : Nat} {Dc Dm : mz_D} (hg : g ≠ 0) (h : cR n g B v m d gs ins Dc Dm) : stp n g B v m d gs ins Dc Dm (mz_wi Dc 0 9 1 (Dc.1 0 9 1 + 1)) (0, Dm) := by
  refine ⟨Or.inl rfl, fC_wi (by omega), fM.rf, rfl, ?_⟩
  obtain ⟨h1, h2, h3, h4, ⟨k0, k1, k2, k3⟩, z, hz, s1, s2⟩ := id h
  refine h.up hg (fC_wi (by omega)) ((h1.wiC (by decide) _ _).wiM (by decide) _ _) (fun p hp => ?_) ⟨?_, ?_, ?_, ?_⟩ ⟨z, hz, ?_, ?_⟩
  · rw [wi_n (by omega)]; exact bd_up (h2 p hp)
  · rw [wi_s, wi_s, if_pos rfl, k0]
  · rw [wi_n (by omega), wi_n (by omega)]; exact k1
  · rw [wi_n (by omega), wi_n (by omega)]; exact k2
  · rw [wi_n (by omega), wi_n (by omega)]; exact k3
  · rw [wi_n (by omega)]; exact s1
  · rw [wi_n (by omega)]; exact s2
theorem wi_add0 {D : mz_D} {g o j : Nat} : mz_wi D g o j (D.1 g o j + 0) = D := by rw [add0]; exact wi_id rfl
/-- a dinner that somebody pays -/
theorem dineS {n g B : Nat} {v : Nat → Int32} {m d gs ins : Nat} {Dc Dm : mz_D} (hg : g ≠ 0) (h : cR n g B v m d gs ins Dc Dm) (hB : B + 1 ≤ 301 * n) (hn : n ≤ 601) {p : Nat} (hp : p < m) : ∃ Dc' q, fX3_dine g (nI p) Dc = some Dc' ∧ fX12_dines (nI p) Dm = some q ∧ stp n g B v m d gs ins Dc Dm Dc' q := by
  obtain ⟨t, h2, h3, h4, ⟨k0, k1, k2, k3⟩, z, hz, s1, s2⟩ := id h
  have hm := t.hm
  have vb : ∀ i, bd (v i) 0 999999 := fun i => by rw [h4]; exact t.dueB _ i
  obtain ⟨c1, c2⟩ := chg_12 hg hm hp t.many_c h3 vb (fun c hc => (t.vDebt hc).2)
  obtain ⟨m1, m2⟩ := pays_m t hp h4
  have hne : ¬ nI p = -1 := fun e => (nI_ne1 (by omega)).mp e
  by_cases ok : ∀ i, i < m → i ≠ p → Dc.1 g 114 (i * 6 + p) + v i ≤ 999999
  · have hb : bd (Dc.1 g 108 p + 1) 0 ((B + 1 : Nat) : Int) := by
      have h1 := h2 p hp
      unfold bd at h1 ⊢
      have o : (1 : Int32).toInt = 1 := rfl
      rw [i_add (by omega) (by omega)]
      omega
    refine ⟨mz_wi (mz_wi (wr Dc g 114 (dkR (Dc.1 g 114) v p m)) g 108 p (Dc.1 g 108 p + 1)) 0 9 2 (Dc.1 0 9 2 + 1), (1, mz_wi (mz_wi (wr Dm 0 201 (mkR Dm (dkR (Dc.1 g 114) v p m))) 0 201 (12 + 8 * p + 5) (Dc.1 g 108 p + 1)) 0 213 1 (Dm.1 0 213 1 + 1)), ?_, ?_, Or.inr rfl, ?_, ?_, ?_, ?_⟩
    · unfold fX3_dine fX3_dine_22 fX3_missUnless
      rw [if_neg hne, c1 ok, Option.bind_some, if_neg one_ne, if_neg one_ne, Option.bind_some, if_neg one_ne, wi_n (by omega), wr_n (Or.inl (by decide))]
    · unfold fX12_dines
      rw [m1 ok, Option.bind_some, if_neg one_ne, z1, wi_n (by omega), wr_n (Or.inl (by decide))]
    · exact ((fC_wr (by omega)).tr (fC_wi (by omega))).tr (fC_wi (by omega))
    · exact ((fM_wr (fun j hj => mkR_n (by omega))).tr (fM_wi (by omega))).tr (fM_wi (by omega))
    · rw [wi_n (by omega), wi_n (by omega), wr_n (Or.inl (by decide))]
    · have tt := t.paidR hp h4 ok (by unfold bd at hb ⊢; omega)
      dsimp only
      refine h.up hg (((fC_wr (by omega)).tr (fC_wi (by omega))).tr (fC_wi (by omega))) (((tt.wiC (by decide) _ _).wiM (by decide) _ _).wiM (by decide) _ _) (fun i hi => ?_) ⟨?_, ?_, ?_, ?_⟩ ⟨z, hz, ?_, ?_⟩
      · rw [wi_n (by omega)]
        by_cases e : i = p
        · rw [e, wi_s]; exact hb
        · rw [wi_n (by omega), wr_n (Or.inl (by decide))]; exact bd_up (h2 i hi)
      · rw [wi_s, if_neg one_ne, add0, wi_n (by omega), wi_n (by omega), wr_n (Or.inl (by decide))]; exact k0
      · rw [wi_n (by omega), wi_s, wi_s, k1]
      · rw [wi_n (by omega), wi_n (by omega), wi_n (by omega), wr_n (Or.inl (by decide)), wi_n (by omega), wi_n (by omega), wr_n (Or.inl (by decide))]; exact k2
      · rw [wi_n (by omega), wi_n (by omega), wi_n (by omega), wr_n (Or.inl (by decide)), wi_n (by omega), wi_n (by omega), wr_n (Or.inl (by decide))]; exact k3
      · rw [wi_n (by omega), wi_n (by omega), wr_n (Or.inl (by decide))]; exact s1
      · rw [wi_n (by omega), wi_n (by omega), wi_n (by omega), wr_n (Or.inl (by decide))]; exact s2
  · refine ⟨_, _, ?_, ?_, stp_0 hg h⟩
    · unfold fX3_dine fX3_dine_21 fX3_dine_22 fX3_missUnless
      rw [if_neg hne, c2 ok, Option.bind_some, if_pos rfl, if_pos rfl, Option.bind_some, if_pos rfl]
    · unfold fX12_dines
      rw [m2 ok, Option.bind_some, if_pos rfl]
theorem dine1 {g : Nat} {Dc : mz_D} : fX3_dine g (-1) Dc = some (mz_wi Dc 0 9 1 (Dc.1 0 9 1 + 1)) := by
  unfold fX3_dine fX3_dine_21 fX3_dine_22 fX3_missUnless
  rw [if_pos rfl, if_pos rfl, Option.bind_some, if_pos rfl]
/-! draws -/
def nxt (z : Nat) : Nat := (z * 2917 + 11119) % 65536
theorem nxt_lt (z : Nat) : nxt z < 65536 := Nat.mod_lt _ (by decide)
theorem drw {z k : Nat} (hz : z < 65536) (hk : 1 ≤ k) (hk2 : k < 100000) : ((nI z * (2917 : Int32)) + (11119 : Int32)) - ((nI z * (2917 : Int32)) + (11119 : Int32)) / (65536 : Int32) * (65536 : Int32) = nI (nxt z) ∧ nI (nxt z) / (8 : Int32) - nI (nxt z) / (8 : Int32) / nI k * nI k = nI (nxt z / 8 % k) := by
  have e1 : (nI z * (2917 : Int32)) + (11119 : Int32) = nI (z * 2917 + 11119) := by
    show nI z * nI 2917 + nI 11119 = _
    rw [nI_mul, nI_add]
  have nl := nxt_lt z
  constructor
  · rw [e1]
    show nI (z * 2917 + 11119) - nI (z * 2917 + 11119) / nI 65536 * nI 65536 = _
    generalize hX : z * 2917 + 11119 = X
    have nx : nxt z = X % 65536 := by unfold nxt; rw [hX]
    rw [n_div (by omega) (by omega), nI_mul, n_sub (Nat.div_mul_le_self _ _), nx, Nat.mod_eq_sub_div_mul]
  · show nI (nxt z) / nI 8 - nI (nxt z) / nI 8 / nI k * nI k = _
    rw [n_div (by omega) (by omega), n_div (by omega) (by omega), nI_mul, n_sub (Nat.div_mul_le_self _ _)]
    congr 1
    rw [Nat.mod_eq_sub_div_mul]
theorem drawC {Dc : mz_D} {z k : Nat} (e : Dc.1 0 9 7 = nI z) (hz : z < 65536) (hk : 1 ≤ k) (hk2 : k < 100000) : fX3_draw (nI k) Dc = some (nI (nxt z / 8 % k), mz_wi Dc 0 9 7 (nI (nxt z))) := by
  obtain ⟨d1, d2⟩ := drw hz hk hk2
  unfold fX3_draw
  rw [if_neg (by rw [show (0 : Int32) = nI 0 from rfl, nJ_le (by omega) (by omega)]; omega), e, d1, d2, nz_t (by omega) (by omega), gd_tt]
theorem drawM {Dm : mz_D} {z k : Nat} (e : Dm.1 0 200 28 = nI z) (hz : z < 65536) (hk : 1 ≤ k) (hk2 : k < 100000) : fX12_draw (nI k) Dm = some (nI (nxt z / 8 % k), mz_wi Dm 0 200 28 (nI (nxt z))) := by
  obtain ⟨d1, d2⟩ := drw hz hk hk2
  unfold fX12_draw
  rw [e, d1, d2, nz_t (by omega) (by omega), gd_tt]
/-- a draw keeps all else -/
theorem cR.draw {n g B : Nat} {v : Nat → Int32} {m d gs ins : Nat} {Dc Dm : mz_D} (hg : g ≠ 0) (h : cR n g B v m d gs ins Dc Dm) (z : Nat) : cR n g B v m d gs ins (mz_wi Dc 0 9 7 (nI (nxt z))) (mz_wi Dm 0 200 28 (nI (nxt z))) := by
  obtain ⟨t, h2, h3, h4, ⟨k0, k1, k2, k3⟩, _⟩ := id h
  refine h.up hg (fC_wi (by omega)) ((t.wiC (by decide) _ _).wiM (by decide) _ _) (fun i hi => by rw [wi_n (by omega)]; exact h2 i hi) ⟨?_, ?_, ?_, ?_⟩ ⟨nxt z, nxt_lt z, wi_s _ _ _ _ _, wi_s _ _ _ _ _⟩
  · rw [wi_n (by omega), wi_n (by omega)]; exact k0
  · rw [wi_n (by omega), wi_n (by omega)]; exact k1
  · rw [wi_n (by omega), wi_n (by omega)]; exact k2
  · rw [wi_n (by omega), wi_n (by omega)]; exact k3
theorem stp.pre {n g B : Nat} {v : Nat → Int32} {m d gs ins : Nat} {Dc Dm Dc1 Dm1 Dc' : mz_D} {q : Int32 × mz_D} (h : stp n g B v m d gs ins Dc1 Dm1 Dc' q) (f1 : fC g Dc Dc1) (f2 : fM Dm Dm1) (e : Dm1.1 0 213 0 = Dm.1 0 213 0) : stp n g B v m d gs ins Dc Dm Dc' q := by
  obtain ⟨a, b, c, d', k⟩ := h
  refine ⟨a, f1.tr b, f2.tr c, by rw [d', e], ?_⟩
  rw [← e]
  exact k
