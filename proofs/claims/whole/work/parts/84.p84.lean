/-! ===== a year: who reaches first; lending, gifts, rounds ===== -/
theorem qsum {g m : Nat} {D : mz_D} {qn : Nat → Nat} (hq : ∀ j, j < m → D.1 g 104 j = nI (qn j)) : ∀ e k x, k + e ≤ m → foldN (fun j a => a + if (2 ^ m - 1).testBit j then D.1 g 104 j else 0) k e (nI x) = nI (x + rsK qn k e) := by
  intro e
  induction e with
  | zero => intro k x _; rfl
  | succ e ih =>
    intro k x h
    show foldN _ (k + 1) e (nI x + if (2 ^ m - 1).testBit k then D.1 g 104 k else 0) = nI (x + (qn k + rsK qn (k + 1) e))
    rw [Nat.testBit_two_pow_sub_one, decide_eq_true (show k < m by omega), if_pos rfl, hq k (by omega), nI_add, ih (k + 1) _ (by omega), Nat.add_assoc]
theorem quickL {n g : Nat} {m d gs ins : Nat} {Dc Dm : mz_D} (t : tR n g 0 0 Dc Dm m d gs ins) {qn : Nat → Nat} (hq : ∀ j, j < m → Dc.1 g 104 j = nI (qn j) ∧ qn j ≤ 20) : ∀ e k y n1 n2, k + e = m → y < rsK qn k e → e < n1 → e < n2 → y < 100000 → ∃ p, p < m ∧ fX3_quickest_24 g n1 (nI y) (nI k) Dc = some (nI p, Dc) ∧ fX12_reaches_23 n2 (nI y) (nI k) Dm = (Option.bind (fX12_dines (nI p) Dm) fun q => mz_gd (mz_bo q.1) (some (q.1, q.2))) := by
  have hm := t.hm
  intro e
  induction e with
  | zero => intro k y n1 n2 _ h; exact absurd h (Nat.not_lt_zero _)
  | succ e ih =>
    intro k y n1 n2 hk hy h1 h2 hb
    obtain ⟨n1, rfl⟩ : ∃ n', n1 = n' + 1 := ⟨n1 - 1, by omega⟩
    obtain ⟨n2, rfl⟩ : ∃ n', n2 = n' + 1 := ⟨n2 - 1, by omega⟩
    have hy : y < qn k + rsK qn (k + 1) e := hy
    obtain ⟨q1, q2⟩ := hq k (by omega)
    have u := t.uQuick (show k < m by omega)
    have C : fX3_quickest_24 g (n1 + 1) (nI y) (nI k) Dc = if 0 ≤ nI y - nI (qn k) then fX3_quickest_24 g n1 (nI y - nI (qn k)) (nI (k + 1)) Dc else some (nI k, Dc) := by
      rw [fX3_quickest_24]
      dsimp only
      rw [t.many_c, if_neg (by rw [nJ_le (by omega) (by omega)]; omega), nI_ix (by omega) (by omega), gd_tt, nI_cl (by omega), q1, a1r]
    have M : fX12_reaches_23 (n2 + 1) (nI y) (nI k) Dm = if nI y < nI (qn k) then (Option.bind (fX12_dines (nI k) Dm) fun q => mz_gd (mz_bo q.1) (some (q.1, q.2))) else fX12_reaches_23 n2 (nI y - nI (qn k)) (nI (k + 1)) Dm := by
      rw [fX12_reaches_23]
      dsimp only
      simp (disch := omega) only [l8m, a12l, a1r, nI_ix, gd_tt, nI_cl, u, q1]
    by_cases hc : qn k ≤ y
    · obtain ⟨p, hp, a1, a2⟩ := ih (k + 1) (y - qn k) n1 n2 (by omega) (by omega) (by omega) (by omega) (by omega)
      refine ⟨p, hp, ?_, ?_⟩
      · rw [C, n_sub hc, if_pos (by show nI 0 ≤ _; rw [nJ_le (by omega) (by omega)]; omega), a1]
      · rw [M, if_neg (by rw [nJ_lt (by omega) (by omega)]; omega), n_sub hc, a2]
    · refine ⟨k, by omega, ?_, ?_⟩
      · rw [C, if_neg]
        rw [i_le, i_sub (by rw [nI_toInt (by omega), nI_toInt (by omega)]; omega) (by rw [nI_toInt (by omega), nI_toInt (by omega)]; omega), nI_toInt (by omega), nI_toInt (by omega)]
        have : (0 : Int32).toInt = 0 := rfl
        omega
      · rw [M, if_pos (by rw [nJ_lt (by omega) (by omega)]; omega)]
theorem quickS {n g B : Nat} {v : Nat → Int32} {m d gs ins : Nat} {Dc Dm : mz_D} (hg : g ≠ 0) (h : cR n g B v m d gs ins Dc Dm) (hB : B + 1 ≤ 301 * n) (hn : n ≤ 601) : ∃ w Dc' r, fX3_quickest g Dc = some w ∧ fX3_dine g w.1 w.2 = some Dc' ∧ fX12_reaches Dm = some r ∧ stp n g B v m d gs ins Dc Dm Dc' r := by
  obtain ⟨t, -, -, -, -, z, hz, s1, s2⟩ := id h
  have hm := t.hm
  have h64 := pow_m hm
  obtain ⟨qn, hq⟩ : ∃ qn : Nat → Nat, ∀ j, j < m → Dc.1 g 104 j = nI (qn j) ∧ qn j ≤ 20 := by
    refine ⟨fun j => (Dc.1 g 104 j).toNatClampNeg, fun j hj => ?_⟩
    have b := (t.quick j hj).2
    unfold bd at b
    obtain ⟨p, hp, e⟩ := nJ_of (i_le.mpr (by have : (0 : Int32).toInt = 0 := rfl; omega) : 0 ≤ Dc.1 g 104 j)
    rw [e, nI_toInt hp] at b
    show Dc.1 g 104 j = nI (Dc.1 g 104 j).toNatClampNeg ∧ (Dc.1 g 104 j).toNatClampNeg ≤ 20
    rw [e, nI_cl hp]
    exact ⟨rfl, by omega⟩
  have sq : sQuick g Dc m (2 ^ m - 1) = nI (rsK qn 0 m) := by
    have := qsum (fun j hj => (hq j hj).1) m 0 0 (by omega)
    rw [Nat.zero_add] at this
    exact this
  have rb := rs_b (pN := qn) (d := m) (fun j hj => by have := (hq j hj).2; omega) m 0 (by omega)
  have al : (1 : Int32) <<< (nI m &&& 31) - 1 = nI (2 ^ m - 1) := by
    rw [shl_n m (by omega)]
    exact n_sub (b := 1) Nat.one_le_two_pow
  have C0 : fX3_quickest g Dc = if nI (rsK qn 0 m) = 0 then some (-1, Dc) else Option.bind (fX3_draw (nI (rsK qn 0 m)) Dc) fun q3 => fX3_quickest_24 g mz_N q3.1 0 q3.2 := by
    unfold fX3_quickest
    rw [t.many_c, al, t.quickOf (by omega), Option.bind_some, sq]
  have M0 : fX12_reaches Dm = if nI (rsK qn 0 m) = 0 then some (0, Dm) else Option.bind (fX12_draw (nI (rsK qn 0 m)) Dm) fun q3 => fX12_reaches_23 mz_N q3.1 0 q3.2 := by
    unfold fX12_reaches
    rw [z0, t.uMany, al, t.quickOfM (by omega), Option.bind_some, sq]
  by_cases e0 : rsK qn 0 m = 0
  · refine ⟨(-1, Dc), _, (0, Dm), by rw [C0, e0]; exact if_pos (by decide), dine1, by rw [M0, e0]; exact if_pos (by decide), stp_0 hg h⟩
  · have ne : ¬ nI (rsK qn 0 m) = 0 := by rw [ol_eqi (c := 0) (by omega) (by omega)]; exact e0
    have h' := h.draw hg z
    have lt : nxt z / 8 % rsK qn 0 m < rsK qn 0 m := Nat.mod_lt _ (by omega)
    obtain ⟨p, hp, a1, a2⟩ := quickL h'.1 (qn := qn) (fun j hj => by rw [wi_n (by omega)]; exact hq j hj) m 0 (nxt z / 8 % rsK qn 0 m) mz_N mz_N (by omega) lt (N_lt (by omega)) (N_lt (by omega)) (by omega)
    obtain ⟨Dc', r, b1, b2, b3⟩ := dineS hg h' hB hn hp
    refine ⟨(nI p, mz_wi Dc 0 9 7 (nI (nxt z))), Dc', r, ?_, b1, ?_, b3.pre (fC_wi (by omega)) (fM_wi (by omega)) (wi_n (by omega))⟩
    · rw [C0, if_neg ne, drawC s1 hz (by omega) (by omega), Option.bind_some]
      exact a1
    · rw [M0, if_neg ne, drawM s2 hz (by omega) (by omega), Option.bind_some]
      show fX12_reaches_23 mz_N (nI (nxt z / 8 % rsK qn 0 m)) (nI 0) _ = _
      rw [a2, b2, Option.bind_some, bo01 b3.1, gd_tt]
theorem lendS {n g B : Nat} {v : Nat → Int32} {m d gs ins : Nat} {Dc Dm : mz_D} (hg : g ≠ 0) (h : cR n g B v m d gs ins Dc Dm) {p q : Nat} (hp : p < m) (hq : q < m) {x : Int32} (hx : bd x 1 999) : ∃ w Dc' r, fX2_add g (nI q) (nI p) x Dc = some w ∧ fX3_missUnless w.1 w.2 = some Dc' ∧ fX12_lends (nI p) (nI q) x Dm = some r ∧ stp n g B v m d gs ins Dc Dm Dc' r := by
  obtain ⟨t, -, -, -, ⟨k0, k1, k2, k3⟩, -⟩ := id h
  have hm := t.hm
  have hx' : bd x 0 999999 := by unfold bd at *; omega
  have ho := t.oneD hq hp
  have ec := add_c (g := g) (D := Dc) (a := q) (b := p) (by omega) (by omega) ho hx'
  have em := lends_m t (a := q) (b := p) (by omega) (by omega) (x := x)
  by_cases hf : Dc.1 g 114 (q * 6 + p) + x ≤ 999999
  · rw [if_pos hf] at ec em
    refine ⟨_, _, _, ec, by unfold fX3_missUnless; rw [if_neg one_ne], em, ?_⟩
    refine stp_mk hg h (Or.inr rfl) (fC_wi (by omega)) (fM_wi (by omega)) (t.oneDebt hq hp ((owe_d ho hx').2 hf)) (fun i => wi_n (by omega)) (wi_n (by omega)) ?_ ?_ ?_ ?_ (wi_n (by omega)) (wi_n (by omega))
    · rw [if_neg one_ne, add0]; exact wi_n (by omega)
    · rw [wi_n (by omega), wi_n (by omega)]; exact k1
    · rw [wi_n (by omega), wi_n (by omega)]; exact k2
    · rw [wi_n (by omega), wi_n (by omega)]; exact k3
  · rw [if_neg hf] at ec em
    exact ⟨_, _, _, ec, by unfold fX3_missUnless; rw [if_pos rfl], em, stp_0 hg h⟩
theorem giftS {n g B : Nat} {v : Nat → Int32} {m d gs ins : Nat} {Dc Dm : mz_D} (hg : g ≠ 0) (h : cR n g B v m d gs ins Dc Dm) {p q : Nat} (hp : p < m) (hq : q < m) {x : Int32} (hx : bd x 1 999) : ∃ Dc' Dm', fX6_give g (nI p) (nI q) x Dc = some Dc' ∧ fX12_gifts (nI p) (nI q) x Dm = some Dm' ∧ stp n g B v m d gs ins Dc Dm Dc' (1, Dm') := by
  obtain ⟨t, -, -, -, ⟨k0, k1, k2, k3⟩, -⟩ := id h
  have hm := t.hm
  have hx' : bd x 0 999999 := by unfold bd at *; omega
  have ho := t.oneD hq hp
  refine ⟨_, _, give_c (by omega) (by omega) x, give_m t (by omega) (by omega) x, ?_⟩
  refine stp_mk hg h (Or.inr rfl) ((fC_wi (by omega)).tr (fC_wi (by omega))) ((fM_wi (by omega)).tr (fM_wi (by omega))) ((t.oneDebt hq hp (low_d ho hx')).oneGift (Dc.1 g 100 6 + 1)) (fun i => ?_) ?_ ?_ ?_ ?_ ?_ ?_ ?_
  · rw [wi_n (by omega), wi_n (by omega)]
  · rw [wi_n (by omega), wi_n (by omega)]
  · rw [if_neg one_ne, add0, wi_n (by omega), wi_n (by omega)]
  · rw [wi_n (by omega), wi_n (by omega), wi_n (by omega), wi_n (by omega)]; exact k1
  · rw [wi_n (by omega), wi_n (by omega), wi_n (by omega), wi_n (by omega)]; exact k2
  · rw [wi_n (by omega), wi_n (by omega), wi_n (by omega), wi_n (by omega)]; exact k3
  · rw [wi_n (by omega), wi_n (by omega)]
  · rw [wi_n (by omega), wi_n (by omega)]
theorem drinkS {n g B : Nat} {v : Nat → Int32} {m d gs ins : Nat} {Dc Dm : mz_D} (hg : g ≠ 0) (h : cR n g B v m d gs ins Dc Dm) : ∃ Dc' r, fX3_drink g Dc = some Dc' ∧ (Option.bind (fX12_rounds Dm) fun q21 => (if q21.1 = (-1 : Int32) then (some ((0 : Int32), q21.2)) else (some ((1 : Int32), (mz_wi q21.2 0 213 ((3 : Int32)).toNatClampNeg ((q21.2.1 0 213 ((3 : Int32)).toNatClampNeg) + (1 : Int32))))))) = some r ∧ stp n g B v m d gs ins Dc Dm Dc' r := by
  obtain ⟨t, -, -, -, ⟨k0, k1, k2, k3⟩, -⟩ := id h
  have hm := t.hm
  have h64 := pow_m hm
  have hi := t.hins
  have hin := byr_in (Dc.1 g 118) ins m
  have sc := servC (g := g) (D := Dc) (show ins < 64 by omega) t.in_c
  rw [byr_6 hm hi] at sc
  cases hb : byr (Dc.1 g 118) ins m with
  | none =>
    refine ⟨_, _, ?_, ?_, stp_0 hg h⟩
    · unfold fX3_drink fX3_drink_13 fX3_missUnless
      rw [sc.1 hb, Option.bind_some, if_pos rfl, if_pos rfl, Option.bind_some, if_pos rfl]
    · rw [t.rndM.1 hb, Option.bind_some, if_pos rfl]
  | some b =>
    have hb6 := hin b hb
    have hne : ¬ nI b = -1 := fun e => (nI_ne1 (by omega)).mp e
    refine ⟨mz_wi (mz_wi (wr Dc g 118 (srv (Dc.1 g 118) ins b 6)) g 117 1 (Dc.1 g 117 1 + 1)) 0 9 4 (Dc.1 0 9 4 + 1), (1, mz_wi (mz_wi (mz_wi (wr Dm 0 201 (hdR Dm ins m)) 0 201 (12 + 8 * b + 7) (Dm.1 0 201 (12 + 8 * b + 7) + nI (pcS ins))) 0 201 5 (Dm.1 0 201 5 + 1)) 0 213 3 (Dm.1 0 213 3 + 1)), ?_, ?_, ?_⟩
    · unfold fX3_drink fX3_drink_13 fX3_missUnless
      rw [sc.2 b hb, Option.bind_some, if_neg hne, if_neg one_ne, Option.bind_some, if_neg one_ne, wi_n (by omega), wr_n (Or.inl (by decide))]
    · rw [t.rndM.2 b hb, Option.bind_some, if_neg hne, z3, wi_n (by omega), wi_n (by omega), wr_n (Or.inl (by decide))]
    · refine stp_mk hg h (Or.inr rfl) (((fC_wr (by omega)).tr (fC_wi (by omega))).tr (fC_wi (by omega))) ((((fM_wr (fun j hj => hdR_n (by omega))).tr (fM_wi (by omega))).tr (fM_wi (by omega))).tr (fM_wi (by omega))) (((t.srvR hb6).wiC (by decide) _ _).wiM (by decide) _ _) (fun i => ?_) ?_ ?_ ?_ ?_ ?_ ?_ ?_
      · rw [wi_n (by omega), wi_n (by omega), wr_n (Or.inl (by decide))]
      · rw [wi_n (by omega), wi_n (by omega), wi_n (by omega), wr_n (Or.inl (by decide))]
      · rw [if_neg one_ne, add0, wi_n (by omega), wi_n (by omega), wr_n (Or.inl (by decide))]
      · rw [wi_n (by omega), wi_n (by omega), wi_n (by omega), wr_n (Or.inl (by decide)), wi_n (by omega), wi_n (by omega), wr_n (Or.inl (by decide))]; exact k1
      · rw [wi_n (by omega), wi_n (by omega), wi_n (by omega), wr_n (Or.inl (by decide)), wi_n (by omega), wi_n (by omega), wr_n (Or.inl (by decide))]; exact k2
      · rw [wi_s, wi_s, k3]
      · rw [wi_n (by omega), wi_n (by omega), wr_n (Or.inl (by decide))]
      · rw [wi_n (by omega), wi_n (by omega), wi_n (by omega), wr_n (Or.inl (by decide))]
