/-! ===== order, strike, split, law; turns; debts ===== -/
theorem wi_s (D : mz_D) (g o j : Nat) (v : Int32) : (mz_wi D g o j v).1 g o j = v := if_pos ⟨rfl, rfl, rfl⟩
theorem wi_n {D : mz_D} {g o j : Nat} {v : Int32} {a b c : Nat} (h : b ≠ o ∨ a ≠ g ∨ c ≠ j) : (mz_wi D g o j v).1 a b c = D.1 a b c := if_neg (by omega)
theorem rng {lo hi : Int32} {lo' hi' : Int64} (e1 : lo'.toInt = lo.toInt) (e2 : hi'.toInt = hi.toInt) (x : Int32) : fX12_isFrom x.toInt64 lo' hi' = if x < lo ∨ hi < x then 0 else 1 := by
  rw [from_e, t64, e1, e2]
  by_cases h : x < lo ∨ hi < x
  · rw [if_pos h, if_pos (by rw [i_lt, i_lt] at h; exact h)]
  · rw [if_neg h, if_neg (by rw [i_lt, i_lt] at h; exact h)]
theorem s1r (k : Nat) : nI (k + 1) - (1 : Int32) = nI k := by rw [← a1r]; grind
theorem tR.addDish {n g : Nat} {Dc Dm : mz_D} {m d gs ins : Nat} (h : tR n g 0 0 Dc Dm m d gs ins) (hd16 : d < 16) {x y : Int32} (hx : bd x 1 999) (hy : who y m) : tR n g 0 0 (mz_wi (mz_wi (mz_wi Dc g 110 d x) g 111 d y) g 109 0 (nI (d + 1))) (mz_wi (mz_wi (mz_wi Dm 0 201 (60 + 2 * d) x) 0 201 (60 + 2 * d + 1) y) 0 201 2 (nI (d + 1))) m (d + 1) gs ins := by
  have hm := h.hm
  have hd := h.hd
  refine h.mut (fun o j hq hk => ⟨by unfold mC at hk; simp (disch := omega) only [wi_s, wi_n], rfl⟩) (fun j hj hk => by unfold mM at hk; simp (disch := omega) only [wi_s, wi_n]) (fun _ _ => rfl) (by omega) h.hins ?_ ?_ ?_ ?_ ?_ ?_ ?_ ?_ ?_ ?_ ?_ ?_ ?_ ?_ ?_ ?_
  · simp (disch := omega) only [wi_s, wi_n]
  · simp (disch := omega) only [wi_s, wi_n]
  · simp (disch := omega) only [wi_s, wi_n]; exact h.uSplit
  · simp (disch := omega) only [wi_s, wi_n]; exact h.split_b
  · simp (disch := omega) only [wi_s, wi_n]; exact h.uLaw
  · simp (disch := omega) only [wi_s, wi_n]; exact h.law_b
  · simp (disch := omega) only [wi_s, wi_n]; exact h.uRounds
  · simp (disch := omega) only [wi_s, wi_n]; exact h.uGifts
  · simp (disch := omega) only [wi_s, wi_n]; exact h.in_c
  · simp (disch := omega) only [wi_s, wi_n]; exact h.uIn
  · intro p hp; simp (disch := omega) only [wi_s, wi_n]; exact h.vPaid hp
  · intro p hp; simp (disch := omega) only [wi_s, wi_n]; exact h.vAhead hp
  · intro k hk
    by_cases e : k = d
    · subst e; simp (disch := omega) only [wi_s, wi_n]; exact ⟨by first | rfl | trivial, hx⟩
    · have hk2 : k < d := by omega
      simp (disch := omega) only [wi_s, wi_n]; exact h.vPrice hk2
  · intro k hk
    by_cases e : k = d
    · subst e
      rw [show 61 + 2 * k = 60 + 2 * k + 1 by omega]
      simp (disch := omega) only [wi_s, wi_n]; exact ⟨by first | rfl | trivial, hy⟩
    · have hk2 : k < d := by omega
      simp (disch := omega) only [wi_s, wi_n]; exact h.vEater hk2
  · intro k hk; simp (disch := omega) only [wi_s, wi_n]; exact h.vDebt hk
  · intro p q hp hq hpq; simp (disch := omega) only [wi_s, wi_n]; exact h.nodebt p q hp hq hpq
theorem tR.cutDish {n g : Nat} {Dc Dm : mz_D} {m d gs ins : Nat} (h : tR n g 0 0 Dc Dm m d gs ins) {e : Nat} (he : d = e + 1) : tR n g 0 0 (mz_wi Dc g 109 0 (nI e)) (mz_wi Dm 0 201 2 (nI e)) m e gs ins := by
  have hm := h.hm
  have hd := h.hd
  refine h.mut (fun o j hq hk => ⟨by unfold mC at hk; simp (disch := omega) only [wi_s, wi_n], rfl⟩) (fun j hj hk => by unfold mM at hk; simp (disch := omega) only [wi_s, wi_n]) (fun _ _ => rfl) (by omega) h.hins ?_ ?_ ?_ ?_ ?_ ?_ ?_ ?_ ?_ ?_ ?_ ?_ ?_ ?_ ?_ ?_
  · simp (disch := omega) only [wi_s, wi_n]
  · simp (disch := omega) only [wi_s, wi_n]
  · simp (disch := omega) only [wi_s, wi_n]; exact h.uSplit
  · simp (disch := omega) only [wi_s, wi_n]; exact h.split_b
  · simp (disch := omega) only [wi_s, wi_n]; exact h.uLaw
  · simp (disch := omega) only [wi_s, wi_n]; exact h.law_b
  · simp (disch := omega) only [wi_s, wi_n]; exact h.uRounds
  · simp (disch := omega) only [wi_s, wi_n]; exact h.uGifts
  · simp (disch := omega) only [wi_s, wi_n]; exact h.in_c
  · simp (disch := omega) only [wi_s, wi_n]; exact h.uIn
  · intro p hp; simp (disch := omega) only [wi_s, wi_n]; exact h.vPaid hp
  · intro p hp; simp (disch := omega) only [wi_s, wi_n]; exact h.vAhead hp
  · intro k hk; simp (disch := omega) only [wi_s, wi_n]; exact h.vPrice (by omega)
  · intro k hk; simp (disch := omega) only [wi_s, wi_n]; exact h.vEater (by omega)
  · intro k hk; simp (disch := omega) only [wi_s, wi_n]; exact h.vDebt hk
  · intro p q hp hq hpq; simp (disch := omega) only [wi_s, wi_n]; exact h.nodebt p q hp hq hpq
theorem tR.setSplit {n g : Nat} {Dc Dm : mz_D} {m d gs ins : Nat} (h : tR n g 0 0 Dc Dm m d gs ins) {x : Int32} (hx : x = 0 ∨ x = 1 ∨ x = 2) : tR n g 0 0 (mz_wi Dc g 109 1 x) (mz_wi Dm 0 201 3 x) m d gs ins := by
  have hm := h.hm
  have hd := h.hd
  refine h.mut (fun o j hq hk => ⟨by unfold mC at hk; simp (disch := omega) only [wi_s, wi_n], rfl⟩) (fun j hj hk => by unfold mM at hk; simp (disch := omega) only [wi_s, wi_n]) (fun _ _ => rfl) h.hd h.hins ?_ ?_ ?_ ?_ ?_ ?_ ?_ ?_ ?_ ?_ ?_ ?_ ?_ ?_ ?_ ?_
  · simp (disch := omega) only [wi_s, wi_n]; exact h.dish_c
  · simp (disch := omega) only [wi_s, wi_n]; exact h.uDish
  · simp (disch := omega) only [wi_s, wi_n]
  · simp (disch := omega) only [wi_s, wi_n]; exact hx
  · simp (disch := omega) only [wi_s, wi_n]; exact h.uLaw
  · simp (disch := omega) only [wi_s, wi_n]; exact h.law_b
  · simp (disch := omega) only [wi_s, wi_n]; exact h.uRounds
  · simp (disch := omega) only [wi_s, wi_n]; exact h.uGifts
  · simp (disch := omega) only [wi_s, wi_n]; exact h.in_c
  · simp (disch := omega) only [wi_s, wi_n]; exact h.uIn
  · intro p hp; simp (disch := omega) only [wi_s, wi_n]; exact h.vPaid hp
  · intro p hp; simp (disch := omega) only [wi_s, wi_n]; exact h.vAhead hp
  · intro k hk; simp (disch := omega) only [wi_s, wi_n]; exact h.vPrice hk
  · intro k hk; simp (disch := omega) only [wi_s, wi_n]; exact h.vEater hk
  · intro k hk; simp (disch := omega) only [wi_s, wi_n]; exact h.vDebt hk
  · intro p q hp hq hpq; simp (disch := omega) only [wi_s, wi_n]; exact h.nodebt p q hp hq hpq
theorem tR.setLaw {n g : Nat} {Dc Dm : mz_D} {m d gs ins : Nat} (h : tR n g 0 0 Dc Dm m d gs ins) {x : Int32} (hx : x = 0 ∨ x = 1 ∨ x = 2 ∨ x = 3) : tR n g 0 0 (mz_wi Dc g 100 5 x) (mz_wi Dm 0 201 4 x) m d gs ins := by
  have hm := h.hm
  have hd := h.hd
  refine h.mut (fun o j hq hk => ⟨by unfold mC at hk; simp (disch := omega) only [wi_s, wi_n], rfl⟩) (fun j hj hk => by unfold mM at hk; simp (disch := omega) only [wi_s, wi_n]) (fun _ _ => rfl) h.hd h.hins ?_ ?_ ?_ ?_ ?_ ?_ ?_ ?_ ?_ ?_ ?_ ?_ ?_ ?_ ?_ ?_
  · simp (disch := omega) only [wi_s, wi_n]; exact h.dish_c
  · simp (disch := omega) only [wi_s, wi_n]; exact h.uDish
  · simp (disch := omega) only [wi_s, wi_n]; exact h.uSplit
  · simp (disch := omega) only [wi_s, wi_n]; exact h.split_b
  · simp (disch := omega) only [wi_s, wi_n]
  · simp (disch := omega) only [wi_s, wi_n]; exact hx
  · simp (disch := omega) only [wi_s, wi_n]; exact h.uRounds
  · simp (disch := omega) only [wi_s, wi_n]; exact h.uGifts
  · simp (disch := omega) only [wi_s, wi_n]; exact h.in_c
  · simp (disch := omega) only [wi_s, wi_n]; exact h.uIn
  · intro p hp; simp (disch := omega) only [wi_s, wi_n]; exact h.vPaid hp
  · intro p hp; simp (disch := omega) only [wi_s, wi_n]; exact h.vAhead hp
  · intro k hk; simp (disch := omega) only [wi_s, wi_n]; exact h.vPrice hk
  · intro k hk; simp (disch := omega) only [wi_s, wi_n]; exact h.vEater hk
  · intro k hk; simp (disch := omega) only [wi_s, wi_n]; exact h.vDebt hk
  · intro p q hp hq hpq; simp (disch := omega) only [wi_s, wi_n]; exact h.nodebt p q hp hq hpq
theorem tR.setIn {n g : Nat} {Dc Dm : mz_D} {m d gs ins : Nat} (h : tR n g 0 0 Dc Dm m d gs ins) {s : Nat} (hs : s < 2 ^ m) : tR n g 0 0 (mz_wi Dc g 117 0 (nI s)) (mz_wi Dm 0 201 8 (nI s)) m d gs s := by
  have hm := h.hm
  have hd := h.hd
  refine h.mut (fun o j hq hk => ⟨by unfold mC at hk; simp (disch := omega) only [wi_s, wi_n], rfl⟩) (fun j hj hk => by unfold mM at hk; simp (disch := omega) only [wi_s, wi_n]) (fun _ _ => rfl) h.hd hs ?_ ?_ ?_ ?_ ?_ ?_ ?_ ?_ ?_ ?_ ?_ ?_ ?_ ?_ ?_ ?_
  · simp (disch := omega) only [wi_s, wi_n]; exact h.dish_c
  · simp (disch := omega) only [wi_s, wi_n]; exact h.uDish
  · simp (disch := omega) only [wi_s, wi_n]; exact h.uSplit
  · simp (disch := omega) only [wi_s, wi_n]; exact h.split_b
  · simp (disch := omega) only [wi_s, wi_n]; exact h.uLaw
  · simp (disch := omega) only [wi_s, wi_n]; exact h.law_b
  · simp (disch := omega) only [wi_s, wi_n]; exact h.uRounds
  · simp (disch := omega) only [wi_s, wi_n]; exact h.uGifts
  · simp (disch := omega) only [wi_s, wi_n]
  · simp (disch := omega) only [wi_s, wi_n]
  · intro p hp; simp (disch := omega) only [wi_s, wi_n]; exact h.vPaid hp
  · intro p hp; simp (disch := omega) only [wi_s, wi_n]; exact h.vAhead hp
  · intro k hk; simp (disch := omega) only [wi_s, wi_n]; exact h.vPrice hk
  · intro k hk; simp (disch := omega) only [wi_s, wi_n]; exact h.vEater hk
  · intro k hk; simp (disch := omega) only [wi_s, wi_n]; exact h.vDebt hk
  · intro p q hp hq hpq; simp (disch := omega) only [wi_s, wi_n]; exact h.nodebt p q hp hq hpq
theorem ty_or {α : Prop} (h : α) : α := h
theorem p_op20 : op_20 Inv := by
  intro n D x1 x2 h
  obtain ⟨m, d, gs, ins, t⟩ := iR.t h
  have hd := t.hd
  have hm := t.hm
  have F1 : fX12_isFrom x1.toInt64 1 999 = if x1 < 1 ∨ 999 < x1 then 0 else 1 := rng rfl rfl x1
  by_cases hx : x1 < 1 ∨ 999 < x1
  · refine q_look h (r := -1) (v := 1) ?_ (fun E he => by unfold fX12_order; rw [F1, if_pos hx, if_pos rfl])
    unfold fX11_order
    by_cases h1 : x1 < 1
    · rw [if_pos h1]
    · rw [if_neg h1, if_pos (by rcases hx with h | h; exact absurd h h1; exact h)]
  · have h1 : ¬ x1 < 1 := fun e => hx (Or.inl e)
    have h2 : ¬ 999 < x1 := fun e => hx (Or.inr e)
    have hb : bd x1 1 999 := ⟨i_le.mp (Int32.not_lt.mp h1), i_le.mp (Int32.not_lt.mp h2)⟩
    have go : who x2 m → fX11_order x1 x2 D = fX11_order_37 x1 x2 D → (∀ E, eM D E → fX12_order x1 x2 E = fX12_order_31 x1 x2 E) → ∃ (r : Int32) (D1 D2 : mz_D), fX11_order x1 x2 D = some (r, D1) ∧ fX12_order x1 x2 D1 = some (r, D2) ∧ Inv (n + 1) D2 := by
      intro hw e1 e2
      by_cases h16 : d = 16
      · refine q_look h (r := -1) (v := 4) ?_ (fun E he => ?_)
        · rw [e1]
          unfold fX11_order_37
          rw [t.dish_c, h16, if_neg (by decide)]
        · rw [e2 E he]
          unfold fX12_order_31
          rw [z2, (t.m he).uDish, h16, if_pos (by decide)]
      · refine q_tab h (r := nI (d + 1)) (v := 0) (((kC_wi (o := 110) (by omega)).tr (kC_wi (o := 111) (by omega))).tr (kC_wi (o := 109) (by omega))) ?_ (fun E he => ⟨_, ((kM_wi (j := 60 + 2 * d) (by omega)).tr (kM_wi (j := 60 + 2 * d + 1) (by omega))).tr (kM_wi (j := 2) (by omega)), ?_, m, d + 1, gs, ins, ((t.m he).addDish (by omega) hb hw).mono (Nat.le_succ n)⟩)
        · rw [e1]
          unfold fX11_order_37 fX1_add
          rw [t.dish_c, if_pos (by rw [ol_ltr (c := 16) (by omega) (by omega)]; omega), nI_ix (by omega) (by omega), gd_tt, nI_cl (by omega), a1r, Option.bind_some, wi_s]
        · rw [e2 E he]
          unfold fX12_order_31
          simp (disch := omega) only [z2, (t.m he).uDish, l2m, a60l, a1r, nI_ix, gd_tt, nI_cl, wi_s, wi_n]
          rw [if_neg (by rw [ol_eqi (c := 16) (by omega) (by omega)]; omega)]
    by_cases hn : x2 = -1
    · refine go (Or.inl hn) ?_ (fun E he => ?_)
      · unfold fX11_order; rw [if_neg h1, if_neg h2, if_pos hn]
      · unfold fX12_order; rw [F1, if_neg hx, if_neg one_ne, if_pos hn]
    · rcases has_or t.hm t.many_c t.many_m x2 with ⟨c1, c2⟩ | ⟨p, hp, rfl, c1, c2⟩
      · exact q_look h (r := -1) (v := 1) (by unfold fX11_order; rw [if_neg h1, if_neg h2, if_neg hn, if_pos c1]) (fun E he => by unfold fX12_order; rw [F1, if_neg hx, if_neg one_ne, if_neg hn, if_pos (by rw [has_m he]; exact c2)])
      · refine go (Or.inr ⟨p, hp, rfl⟩) ?_ (fun E he => ?_)
        · unfold fX11_order; rw [if_neg h1, if_neg h2, if_neg hn, if_neg (by rw [c1]; exact one_ne)]
        · unfold fX12_order; rw [F1, if_neg hx, if_neg one_ne, if_neg hn, if_neg (by rw [has_m he, c2]; exact one_ne)]
theorem p_op21 : op_21 Inv := by
  intro n D h
  obtain ⟨m, d, gs, ins, t⟩ := iR.t h
  have hd := t.hd
  by_cases h0 : d = 0
  · exact q_look h (r := -1) (v := 6) (by unfold fX11_strike; rw [t.dish_c, h0, if_pos (by decide)]) (fun E he => by unfold fX12_strike; rw [z2, (t.m he).uDish, h0, if_pos (by decide)])
  · obtain ⟨e, rfl⟩ : ∃ e, d = e + 1 := ⟨d - 1, by omega⟩
    have hz : ¬ nI (e + 1) = 0 := fun q => by have := (nJ_eq (a := e + 1) (b := 0) (by omega) (by omega)).mp q; omega
    refine q_tab h (r := D.1 1 110 e) (v := 0) (kC_wi (o := 109) (by omega)) ?_ (fun E he => ⟨_, kM_wi (j := 2) (by omega), ?_, m, e, gs, ins, ((t.m he).cutDish rfl).mono (Nat.le_succ n)⟩)
    · unfold fX11_strike fX1_takeLast
      rw [t.dish_c, if_neg hz]
      simp (disch := omega) only [s1r, wi_s, nI_ix, gd_tt, nI_cl, Option.bind_some]
    · have t2 := t.m he
      have hp := t2.uPrice (show e < e + 1 by omega)
      unfold fX12_strike
      simp (disch := omega) only [z2, t2.uDish, s1r, wi_s, wi_n, l2m, a60l, nI_ix, gd_tt, nI_cl, hp]
      rw [if_neg hz]
theorem p_op22 : op_22 Inv := by
  intro n D x1 h
  obtain ⟨m, d, gs, ins, t⟩ := iR.t h
  rcases spl_or x1 with ⟨s1, s2⟩ | ⟨hs, s1, s2⟩
  · exact q_look h (r := 0) (v := 1) (by unfold fX11_split; rw [if_pos s1]) (fun E he => by unfold fX12_split; rw [if_pos s2, is_e]; rfl)
  · refine q_tab h (r := 1) (v := 0) (kC_wi (o := 109) (by omega)) ?_ (fun E he => ⟨_, kM_wi (j := 3) (by omega), ?_, m, d, gs, ins, ((t.m he).setSplit hs).mono (Nat.le_succ n)⟩)
    · unfold fX11_split
      rw [if_neg (by rw [s1]; exact one_ne)]
    · unfold fX12_split
      rw [if_neg (by rw [s2]; exact one_ne), is_e]
      rfl
theorem law_or (x : Int32) : (fX11_isLaw x = 0 ∧ fX12_isFrom x.toInt64 0 3 = 0) ∨ ((x = 0 ∨ x = 1 ∨ x = 2 ∨ x = 3) ∧ fX11_isLaw x = 1 ∧ fX12_isFrom x.toInt64 0 3 = 1) := by
  have F1 : fX12_isFrom x.toInt64 0 3 = if x < 0 ∨ 3 < x then 0 else 1 := rng rfl rfl x
  rw [F1]
  unfold fX11_isLaw
  by_cases h1 : x < 0
  · exact Or.inl ⟨if_pos h1, if_pos (Or.inl h1)⟩
  · by_cases h2 : 3 < x
    · exact Or.inl ⟨by rw [if_neg h1, if_pos h2], if_pos (Or.inr h2)⟩
    · refine Or.inr ⟨by grind, by rw [if_neg h1, if_neg h2], if_neg (fun e => ?_)⟩
      rcases e with e | e
      · exact h1 e
      · exact h2 e
theorem p_op23 : op_23 Inv := by
  intro n D x1 h
  obtain ⟨m, d, gs, ins, t⟩ := iR.t h
  rcases law_or x1 with ⟨s1, s2⟩ | ⟨hs, s1, s2⟩
  · exact q_look h (r := 0) (v := 1) (by unfold fX11_law; rw [if_pos s1]) (fun E he => by unfold fX12_law; rw [if_pos s2, is_e]; rfl)
  · refine q_tab h (r := 1) (v := 0) (kC_wi (o := 100) (by omega)) ?_ (fun E he => ⟨_, kM_wi (j := 4) (by omega), ?_, m, d, gs, ins, ((t.m he).setLaw hs).mono (Nat.le_succ n)⟩)
    · unfold fX11_law
      rw [if_neg (by rw [s1]; exact one_ne)]
    · unfold fX12_law
      rw [if_neg (by rw [s2]; exact one_ne), is_e]
      rfl
/-! whose turn it is -/
theorem bd_sum2 {F : Nat → Int32} {B : Int} {M : Nat} (hB : 0 ≤ B) (hF : ∀ k, k < M → -B ≤ (F k).toInt ∧ (F k).toInt ≤ B) (hM : B * M < 2147483648) : ∀ d, d ≤ M → -(B * d) ≤ (foldN (fun k a => a + F k) 0 d 0).toInt ∧ (foldN (fun k a => a + F k) 0 d 0).toInt ≤ B * d := by
  intro d
  induction d with
  | zero => intro _; show -(B * ((0 : Nat) : Int)) ≤ (0 : Int32).toInt ∧ (0 : Int32).toInt ≤ _; rw [show (0 : Int32).toInt = 0 from rfl]; omega
  | succ d ih =>
    intro hd
    have h1 := ih (by omega)
    have h2 := hF d (by omega)
    have h3 : B * ((d + 1 : Nat) : Int) = B * d + B := by rw [Int.natCast_add, Int.mul_add]; omega
    have h4 : B * ((d + 1 : Nat) : Int) ≤ B * M := Int.mul_le_mul_of_nonneg_left (by omega) hB
    rw [foldN_end, Nat.zero_add]
    rw [i_add (by omega) (by omega)]
    omega
theorem tR.balB {n g b nb : Nat} {Dc Dm : mz_D} {m d gs ins : Nat} (h : tR n g b nb Dc Dm m d gs ins) {p : Nat} (hp : p < 6) : -5999994 ≤ (sBal g Dc p).toInt ∧ (sBal g Dc p).toInt ≤ 5999994 := by
  have := bd_sum2 (F := fun o => Dc.1 g 114 (o * 6 + p) - Dc.1 g 114 (p * 6 + o)) (B := 999999) (M := 6) (by omega) (fun k hk => by
    have h1 := (h.debt (k * 6 + p) (by omega)).2
    have h2 := (h.debt (p * 6 + k) (by omega)).2
    unfold bd at h1 h2
    rw [i_sub (by omega) (by omega)]
    omega) (by omega) 6 (Nat.le_refl _)
  unfold sBal
  omega
def sCl (g : Nat) (D : mz_D) (l : Int32) (p : Nat) : Int32 := if l = 1 then -sBal g D p else if l = 2 then D.1 g 104 p else if l = 3 then D.1 g 103 p else -D.1 g 108 p
def sWt (g : Nat) (D : mz_D) (l : Int32) (p : Nat) : Int32 := if l = 0 then D.1 g 108 p else if l = 1 then sBal g D p else if l = 2 then -D.1 g 104 p else -D.1 g 103 p
theorem neg_le {a b : Int32} (ha : -2147483648 < a.toInt) (hb : -2147483648 < b.toInt) : -a ≤ -b ↔ b ≤ a := by
  rw [i_le, i_le, i_neg ha, i_neg hb]
  omega
theorem sCl_0 (g : Nat) (D : mz_D) (p : Nat) : sCl g D 0 p = -D.1 g 108 p := by unfold sCl; rw [if_neg (show ¬ (0 : Int32) = 1 by decide), if_neg (show ¬ (0 : Int32) = 2 by decide), if_neg (show ¬ (0 : Int32) = 3 by decide)]
theorem sCl_1 (g : Nat) (D : mz_D) (p : Nat) : sCl g D 1 p = -sBal g D p := by unfold sCl; rw [if_pos (show (1 : Int32) = 1 from rfl)]
theorem sCl_2 (g : Nat) (D : mz_D) (p : Nat) : sCl g D 2 p = D.1 g 104 p := by unfold sCl; rw [if_neg (show ¬ (2 : Int32) = 1 by decide), if_pos (show (2 : Int32) = 2 from rfl)]
theorem sCl_3 (g : Nat) (D : mz_D) (p : Nat) : sCl g D 3 p = D.1 g 103 p := by unfold sCl; rw [if_neg (show ¬ (3 : Int32) = 1 by decide), if_neg (show ¬ (3 : Int32) = 2 by decide), if_pos (show (3 : Int32) = 3 from rfl)]
theorem sWt_0 (g : Nat) (D : mz_D) (p : Nat) : sWt g D 0 p = D.1 g 108 p := by unfold sWt; rw [if_pos (show (0 : Int32) = 0 from rfl)]
theorem sWt_1 (g : Nat) (D : mz_D) (p : Nat) : sWt g D 1 p = sBal g D p := by unfold sWt; rw [if_neg (show ¬ (1 : Int32) = 0 by decide), if_pos (show (1 : Int32) = 1 from rfl)]
theorem sWt_2 (g : Nat) (D : mz_D) (p : Nat) : sWt g D 2 p = -D.1 g 104 p := by unfold sWt; rw [if_neg (show ¬ (2 : Int32) = 0 by decide), if_neg (show ¬ (2 : Int32) = 1 by decide), if_pos (show (2 : Int32) = 2 from rfl)]
theorem sWt_3 (g : Nat) (D : mz_D) (p : Nat) : sWt g D 3 p = -D.1 g 103 p := by unfold sWt; rw [if_neg (show ¬ (3 : Int32) = 0 by decide), if_neg (show ¬ (3 : Int32) = 1 by decide), if_neg (show ¬ (3 : Int32) = 2 by decide)]
theorem tR.clw {n g b nb : Nat} {Dc Dm : mz_D} {m d gs ins : Nat} (h : tR n g b nb Dc Dm m d gs ins) {l : Int32} (hl : l = 0 ∨ l = 1 ∨ l = 2 ∨ l = 3) {k j : Nat} (hk : k < m) (hj : j < m) : sCl g Dc l k ≤ sCl g Dc l j ↔ sWt g Dc l j ≤ sWt g Dc l k := by
  have hm := h.hm
  rcases hl with rfl | rfl | rfl | rfl
  · rw [sCl_0, sCl_0, sWt_0, sWt_0]
    have h1 := (h.paid k hk).2
    have h2 := (h.paid j hj).2
    unfold bd at h1 h2
    exact neg_le (by omega) (by omega)
  · rw [sCl_1, sCl_1, sWt_1, sWt_1]
    have h1 := h.balB (p := k) (by omega)
    have h2 := h.balB (p := j) (by omega)
    exact neg_le (by omega) (by omega)
  · rw [sCl_2, sCl_2, sWt_2, sWt_2]
    have h1 := (h.quick k hk).2
    have h2 := (h.quick j hj).2
    unfold bd at h1 h2
    exact (neg_le (by omega) (by omega)).symm
  · rw [sCl_3, sCl_3, sWt_3, sWt_3]
    have h1 := (h.insists k hk).2
    have h2 := (h.insists j hj).2
    unfold bd at h1 h2
    exact (neg_le (by omega) (by omega)).symm
def trn (g : Nat) (D : mz_D) (m gs : Nat) (l : Int32) : Option Nat := amx (fun k => (hdS m gs).testBit k) (fun k j => decide (sCl g D l j < sCl g D l k)) m
theorem tR.nextC {n g : Nat} {Dc Dm : mz_D} {m d gs ins : Nat} (h : tR n g 0 0 Dc Dm m d gs ins) (l : Int32) : fX6_nextPayer g l Dc = some (enc (trn g Dc m gs l)) := by
  have hm := h.hm
  have hH := hd_64 hm h.hgs
  have cl : ∀ k, k < m → fX6_claimOf g (nI k) l Dc = some (sCl g Dc l k) := fun k hk => by
    unfold fX6_claimOf sCl
    simp (disch := omega) only [tR.bal (g := g) (Dc := Dc) (show k < 6 by omega), Option.bind_some, nI_ix, gd_tt, nI_cl]
    split
    · rfl
    · split
      · rfl
      · split <;> rfl
  unfold fX6_nextPayer
  rw [h.heads]
  refine lpA (fun n (s : Int32 × Int32) k => fX6_nextPayer_16 g Dc n l (nI (hdS m gs)) s.1 s.2 k) (fun b => (enc b, match b with | none => 0 | some j => sCl g Dc l j)) (fun k => (hdS m gs).testBit k) (fun k j => decide (sCl g Dc l j < sCl g Dc l k)) m (fun b => some (enc b)) ?_ ?_ mz_N (N_lt (by omega))
  · intro n b k hk hb
    show fX6_nextPayer_16 g Dc (n + 1) _ _ _ _ (nI k) = _
    rw [fX6_nextPayer_16]
    unfold fX6_nextPayer_58
    simp (disch := omega) only [h.many_c, nJ_le, cl k hk, Option.bind_some, a1r, isIn_e]
    rw [if_neg (by omega)]
    cases hbit : (hdS m gs).testBit k with
    | false => cases b <;> simp [amS, hbit]
    | true =>
      rw [if_neg (by simp)]
      cases b with
      | none => simp [enc, amS, hbit]
      | some j =>
        rw [if_neg (fun e => by have := (enc_ne hb (by omega)).mp e; cases this)]
        by_cases hg : sCl g Dc l k ≤ sCl g Dc l j
        · simp [amS, enc, hg, Int32.not_lt.mpr hg]
        · simp [amS, enc, hg, Int32.not_le.mp hg, hbit]
  · intro n b hb
    show fX6_nextPayer_16 g Dc (n + 1) _ _ _ _ (nI m) = _
    rw [fX6_nextPayer_16]
    simp only [h.many_c]
    rw [if_pos (Int32.le_refl _)]
theorem tR.nextM {n g : Nat} {Dc Dm : mz_D} {m d gs ins : Nat} (h : tR n g 0 0 Dc Dm m d gs ins) {l : Int32} (hl : l = 0 ∨ l = 1 ∨ l = 2 ∨ l = 3) : fX12_turnOf l Dm = some (enc (trn g Dc m gs l)) := by
  have hm := h.hm
  have hH := hd_64 hm h.hgs
  have wt : ∀ k, k < m → fX12_waits (nI k) l Dm = some (sWt g Dc l k) := fun k hk => by
    unfold fX12_waits sWt
    simp (disch := omega) only [h.balM (show k < 6 by omega), Option.bind_some, l8m, a12l, a1r, a5r, nI_ix, gd_tt, nI_cl, h.uPaid hk, h.uQuick hk, h.uInsists hk]
    split
    · rfl
    · split
      · rfl
      · split <;> rfl
  unfold fX12_turnOf
  refine lpA (fun n s k => fX12_turnOf_4 Dm n l s k) enc (fun k => (hdS m gs).testBit k) (fun k j => decide (sCl g Dc l j < sCl g Dc l k)) m (fun b => some (enc b)) ?_ ?_ mz_N (N_lt (by omega))
  · intro n b k hk hb
    show fX12_turnOf_4 Dm (n + 1) _ _ (nI k) = _
    rw [fX12_turnOf_4]
    unfold fX12_turnOf_46
    simp (disch := omega) only [z0, h.uMany, nJ_le, wt k hk, Option.bind_some, a1r, h.headsM, isIn_m, isIn_e]
    rw [if_neg (by omega)]
    cases hbit : (hdS m gs).testBit k with
    | false => cases b <;> simp [amS, hbit]
    | true =>
      rw [if_neg (by simp)]
      cases b with
      | none => simp [enc, amS, hbit]
      | some j =>
        have hj := hb j rfl
        rw [if_neg (fun e => by have := (enc_ne hb (by omega)).mp e; cases this)]
        simp only [enc, wt j (by omega), Option.bind_some]
        by_cases hg : sCl g Dc l k ≤ sCl g Dc l j
        · rw [if_pos ((h.clw hl hk (by omega)).mp hg)]
          simp [amS, enc, Int32.not_lt.mpr hg]
        · rw [if_neg (fun e => hg ((h.clw hl hk (by omega)).mpr e))]
          simp [amS, enc, Int32.not_le.mp hg, hbit]
  · intro n b hb
    show fX12_turnOf_4 Dm (n + 1) _ _ (nI m) = _
    rw [fX12_turnOf_4]
    simp only [z0, h.uMany]
    rw [if_pos (Int32.le_refl _)]
theorem p_op27 : op_27 Inv := by
  intro n D h
  obtain ⟨m, d, gs, ins, t⟩ := iR.t h
  have hm := t.hm
  have hin : inb m (trn 1 D m gs (D.1 1 100 5)) := amx_in m
  exact q_look h (r := enc (trn 1 D m gs (D.1 1 100 5))) (v := sv (trn 1 D m gs (D.1 1 100 5))) (by unfold fX11_turn; rw [t.nextC, Option.bind_some, ans_c hin (by omega)]; rfl) (fun E he => by unfold fX12_turn; rw [z4, (t.m he).uLaw, (t.m he).nextM t.law_b, Option.bind_some, ans_m hin (by omega)]; rfl)
theorem p_op28 : op_28 Inv := by
  intro n D x1 h
  obtain ⟨m, d, gs, ins, t⟩ := iR.t h
  have hm := t.hm
  rcases law_or x1 with ⟨s1, s2⟩ | ⟨hs, s1, s2⟩
  · exact q_look h (r := -1) (v := 1) (by unfold fX11_turnBy; rw [if_pos s1]) (fun E he => by unfold fX12_turnBy; rw [if_pos s2])
  · have hin : inb m (trn 1 D m gs x1) := amx_in m
    exact q_look h (r := enc (trn 1 D m gs x1)) (v := sv (trn 1 D m gs x1)) (by unfold fX11_turnBy; rw [if_neg (by rw [s1]; exact one_ne), t.nextC, Option.bind_some, ans_c hin (by omega)]; rfl) (fun E he => by unfold fX12_turnBy; rw [if_neg (by rw [s2]; exact one_ne), (t.m he).nextM hs, Option.bind_some, ans_m hin (by omega)]; rfl)
/-! debts -/
theorem owe_d {o x : Int32} (ho : bd o 0 999999) (hx : bd x 0 999999) : ((999999 : Int32) - x < o ↔ ¬ o + x ≤ 999999) ∧ (o + x ≤ 999999 → bd (o + x) 0 999999) := by
  unfold bd at ho hx ⊢
  have e : (999999 : Int32).toInt = 999999 := rfl
  rw [i_lt, i_le, i_sub (by omega) (by omega), i_add (by omega) (by omega)]
  omega
theorem low_d {o x : Int32} (ho : bd o 0 999999) (hx : bd x 0 999999) : bd (fJ9_max_7cf53 0 (o - x)) 0 999999 := by
  unfold bd at ho hx ⊢
  unfold fJ9_max_7cf53
  have e : (0 : Int32).toInt = 0 := rfl
  have e1 : (o - x).toInt = o.toInt - x.toInt := i_sub (by omega) (by omega)
  by_cases h : 0 < o - x
  · rw [if_pos h]; rw [i_lt] at h; omega
  · rw [if_neg h]; omega
theorem add_c {g a b : Nat} {D : mz_D} (ha : a < 6) (hb : b < 6) {x : Int32} (ho : bd (D.1 g 114 (a * 6 + b)) 0 999999) (hx : bd x 0 999999) : fX2_add g (nI a) (nI b) x D = if D.1 g 114 (a * 6 + b) + x ≤ 999999 then some (1, mz_wi D g 114 (a * 6 + b) (D.1 g 114 (a * 6 + b) + x)) else some (0, D) := by
  unfold fX2_add fX2_canAdd fX2_get fX2_put
  simp (disch := omega) only [r6m, nI_add, nI_ix, gd_tt, nI_cl]
  by_cases h : D.1 g 114 (a * 6 + b) + x ≤ 999999
  · rw [if_neg (fun e => (owe_d ho hx).1.mp e h), if_pos h]
    simp
  · rw [if_pos ((owe_d ho hx).1.mpr h), if_neg h]
    simp
theorem lends_m {g n : Nat} {Dc E : mz_D} {m d gs ins : Nat} (t : tR n g 0 0 Dc E m d gs ins) {a b : Nat} (ha : a < 6) (hb : b < 6) {x : Int32} : fX12_lends (nI b) (nI a) x E = if Dc.1 g 114 (a * 6 + b) + x ≤ 999999 then some (1, mz_wi E 0 201 (92 + 6 * a + b) (Dc.1 g 114 (a * 6 + b) + x)) else some (0, E) := by
  unfold fX12_lends
  simp (disch := omega) only [l6m, a92l, nI_add, nI_ix, gd_tt, nI_cl, t.uDebt ha hb]
theorem tR.oneD {n g : Nat} {Dc Dm : mz_D} {m d gs ins : Nat} (h : tR n g 0 0 Dc Dm m d gs ins) {a b : Nat} (ha : a < m) (hb : b < m) : bd (Dc.1 g 114 (a * 6 + b)) 0 999999 := by
  have := h.hm
  exact (h.vDebt (k := a * 6 + b) (by omega)).2
theorem q_two {n : Nat} {D : mz_D} {x1 x2 x3 : Int32} {fc fm : mz_D → Option (Int32 × mz_D)} (h : Inv n D) (c1 : fX11_areTwo x1 x2 D = 0 → fc D = some (-1, mz_wi D 0 0 13 1)) (c2 : ∀ E, fX12_areTwo x1 x2 E = 0 → fm E = some (-1, mz_wi E 0 200 2 1)) (go : ∀ m d gs ins p q, tR n 1 0 0 D D m d gs ins → p < m → q < m → p ≠ q → x1 = nI p → x2 = nI q → ¬ fX11_areTwo x1 x2 D = 0 → (∀ E, eM D E → ¬ fX12_areTwo x1 x2 E = 0) → ∃ (r : Int32) (D1 D2 : mz_D), fc D = some (r, D1) ∧ fm D1 = some (r, D2) ∧ Inv (n + 1) D2) : ∃ (r : Int32) (D1 D2 : mz_D), fc D = some (r, D1) ∧ fm D1 = some (r, D2) ∧ Inv (n + 1) D2 := by
  obtain ⟨m, d, gs, ins, t⟩ := iR.t h
  rcases two_or (g := 1) t.hm t.many_c t.many_m x1 x2 with ⟨a1, a2⟩ | ⟨p, q, hp, hq, hne, e1, e2, a1, a2⟩
  · exact q_look h (r := -1) (v := 1) (c1 a1) (fun E he => c2 E (by rw [two_m he]; exact a2))
  · exact go m d gs ins p q t hp hq hne e1 e2 (by rw [a1]; exact one_ne) (fun E he => by rw [two_m he, a2]; exact one_ne)
theorem p_op37 : op_37 Inv := by
  intro n D x1 x2 x3 h
  refine q_two (x1 := x1) (x2 := x2) (x3 := x3) h (fun e => by unfold fX11_lend; rw [if_pos e]) (fun E e => by unfold fX12_lend; rw [if_pos e]) ?_
  intro m d gs ins p q t hp hq hne e1 e2 c1 c2
  have hm := t.hm
  have F1 : fX12_isFrom x3.toInt64 1 9999 = if x3 < 1 ∨ 9999 < x3 then 0 else 1 := rng rfl rfl x3
  by_cases hx : x3 < 1 ∨ 9999 < x3
  · refine q_look h (r := -1) (v := 1) ?_ (fun E he => by unfold fX12_lend; rw [if_neg (c2 E he), F1, if_pos hx, if_pos rfl])
    unfold fX11_lend
    by_cases h1 : x3 < 1
    · rw [if_neg c1, if_pos h1]
    · rw [if_neg c1, if_neg h1, if_neg (by rcases hx with h | h; exact absurd h h1; exact Int32.not_le.mpr h)]
  · have h1 : ¬ x3 < 1 := fun e => hx (Or.inl e)
    have h2 : x3 ≤ 9999 := Int32.not_lt.mp (fun e => hx (Or.inr e))
    have hb : bd x3 0 999999 := by
      have a := i_le.mp (Int32.not_lt.mp h1)
      have b := i_le.mp h2
      have c : (1 : Int32).toInt = 1 := rfl
      have d : (9999 : Int32).toInt = 9999 := rfl
      unfold bd
      omega
    have ho := t.oneD hq hp
    subst e1 e2
    have ec := add_c (g := 1) (D := D) (a := q) (b := p) (by omega) (by omega) ho hb
    by_cases hf : D.1 1 114 (q * 6 + p) + x3 ≤ 999999
    · refine q_tab h (r := D.1 1 114 (q * 6 + p) + x3) (v := 0) (kC_wi (o := 114) (by omega)) ?_ (fun E he => ⟨_, kM_wi (j := 92 + 6 * q + p) (by omega), ?_, m, d, gs, ins, ((t.m he).oneDebt hq hp ((owe_d ho hb).2 hf)).mono (Nat.le_succ n)⟩)
      · unfold fX11_lend
        rw [if_neg c1, if_neg h1, if_pos h2, ec, if_pos hf, Option.bind_some, if_neg one_ne]
        unfold fX2_get
        simp (disch := omega) only [r6m, nI_add, nI_ix, gd_tt, nI_cl, wi_s, Option.bind_some]
      · unfold fX12_lend
        rw [if_neg (c2 E he), F1, if_neg hx, if_neg one_ne, lends_m (t.m he) (by omega) (by omega), if_pos hf, Option.bind_some, if_neg one_ne]
        simp (disch := omega) only [l6m, a92l, nI_add, nI_ix, gd_tt, nI_cl, wi_s]
    · refine q_look h (r := -1) (v := 7) ?_ (fun E he => ?_)
      · unfold fX11_lend
        rw [if_neg c1, if_neg h1, if_pos h2, ec, if_neg hf, Option.bind_some, if_pos rfl]
      · unfold fX12_lend
        rw [if_neg (c2 E he), F1, if_neg hx, if_neg one_ne, lends_m (t.m he) (by omega) (by omega), if_neg hf, Option.bind_some, if_pos rfl]
theorem min_d {a b : Int32} (ha : bd a 0 999999) (hb : bd b 0 999999) : bd (fJ9_min_7cf53 a b) 0 999999 ∧ fJ9_max_7cf53 0 (a - fJ9_min_7cf53 a b) = a - fJ9_min_7cf53 a b ∧ fJ9_max_7cf53 0 (b - fJ9_min_7cf53 a b) = b - fJ9_min_7cf53 a b := by
  unfold bd at ha hb ⊢
  unfold fJ9_min_7cf53 fJ9_max_7cf53
  have e : (0 : Int32).toInt = 0 := rfl
  have nn : ∀ x y : Int32, 0 ≤ x.toInt → 0 ≤ y.toInt → y.toInt ≤ x.toInt → (if 0 < x - y then x - y else 0) = x - y := by
    intro x y hx hy hxy
    have b1 := Int32.toInt_lt x
    have e1 : (x - y).toInt = x.toInt - y.toInt := i_sub (by omega) (by omega)
    by_cases h : 0 < x - y
    · rw [if_pos h]
    · rw [if_neg h]
      rw [i_lt] at h
      exact i_eq.mpr (by omega)
  by_cases h : b < a
  · rw [if_pos h]
    rw [i_lt] at h
    exact ⟨hb, nn a b (by omega) (by omega) (by omega), nn b b (by omega) (by omega) (by omega)⟩
  · rw [if_neg h]
    rw [i_lt] at h
    exact ⟨ha, nn a a (by omega) (by omega) (by omega), nn b a (by omega) (by omega) (by omega)⟩
theorem p_op39 : op_39 Inv := by
  intro n D x1 x2 h
  refine q_two (x1 := x1) (x2 := x2) (x3 := 0) h (fun e => by unfold fX11_quits; rw [if_pos e]) (fun E e => by unfold fX12_quits; rw [if_pos e]) ?_
  intro m d gs ins p q t hp hq hne e1 e2 c1 c2
  have hm := t.hm
  subst e1 e2
  have o1 := t.oneD hp hq
  have o2 := t.oneD hq hp
  obtain ⟨k1, k2, k3⟩ := min_d o1 o2
  have b1 := low_d o1 k1
  have b2 := low_d o2 k1
  rw [k2] at b1
  rw [k3] at b2
  refine q_tab h (r := fJ9_min_7cf53 (D.1 1 114 (p * 6 + q)) (D.1 1 114 (q * 6 + p))) (v := 0) ((kC_wi (o := 114) (by omega)).tr (kC_wi (o := 114) (by omega))) ?_ (fun E he => ⟨_, (kM_wi (j := 92 + 6 * p + q) (by omega)).tr (kM_wi (j := 92 + 6 * q + p) (by omega)), ?_, m, d, gs, ins, (((t.m he).oneDebt hp hq b1).oneDebt hq hp b2).mono (Nat.le_succ n)⟩)
  · unfold fX11_quits fX2_lower fX2_get fX2_put
    rw [if_neg c1]
    simp (disch := omega) only [r6m, nI_add, nI_ix, gd_tt, nI_cl, wi_s, wi_n, Option.bind_some, k2, k3]
  · have t2 := t.m he
    unfold fX12_quits
    rw [if_neg (c2 E he)]
    simp (disch := omega) only [l6m, a92l, nI_add, nI_ix, gd_tt, nI_cl, wi_s, wi_n, t2.uDebt (show p < 6 by omega) (show q < 6 by omega), t2.uDebt (show q < 6 by omega) (show p < 6 by omega)]
theorem give_c {g a b : Nat} {D : mz_D} (ha : a < 6) (hb : b < 6) (x : Int32) : fX6_give g (nI b) (nI a) x D = some (mz_wi (mz_wi D g 114 (a * 6 + b) (fJ9_max_7cf53 0 (D.1 g 114 (a * 6 + b) - x))) g 100 6 (D.1 g 100 6 + 1)) := by
  unfold fX6_give fX2_lower fX2_get fX2_put
  simp (disch := omega) only [r6m, nI_add, nI_ix, gd_tt, nI_cl, wi_s, wi_n, Option.bind_some]
theorem give_m {g n : Nat} {Dc E : mz_D} {m d gs ins : Nat} (t : tR n g 0 0 Dc E m d gs ins) {a b : Nat} (ha : a < 6) (hb : b < 6) (x : Int32) : fX12_gifts (nI b) (nI a) x E = some (mz_wi (mz_wi E 0 201 (92 + 6 * a + b) (fJ9_max_7cf53 0 (Dc.1 g 114 (a * 6 + b) - x))) 0 201 6 (Dc.1 g 100 6 + 1)) := by
  unfold fX12_gifts
  simp (disch := omega) only [z6, l6m, a92l, nI_add, nI_ix, gd_tt, nI_cl, wi_s, wi_n, t.uDebt ha hb, t.uGifts]
theorem p_op55 : op_55 Inv := by
  intro n D x1 x2 x3 h
  refine q_two (x1 := x1) (x2 := x2) (x3 := x3) h (fun e => by unfold fX11_gift; rw [if_pos e]) (fun E e => by unfold fX12_gift; rw [if_pos e]) ?_
  intro m d gs ins p q t hp hq hne e1 e2 c1 c2
  have hm := t.hm
  have F1 : fX12_isFrom x3.toInt64 1 9999 = if x3 < 1 ∨ 9999 < x3 then 0 else 1 := rng rfl rfl x3
  by_cases hx : x3 < 1 ∨ 9999 < x3
  · refine q_look h (r := -1) (v := 1) ?_ (fun E he => by unfold fX12_gift; rw [if_neg (c2 E he), F1, if_pos hx, if_pos rfl])
    unfold fX11_gift
    by_cases h1 : x3 < 1
    · rw [if_neg c1, if_pos h1]
    · rw [if_neg c1, if_neg h1, if_neg (by rcases hx with h | h; exact absurd h h1; exact Int32.not_le.mpr h)]
  · have h1 : ¬ x3 < 1 := fun e => hx (Or.inl e)
    have h2 : x3 ≤ 9999 := Int32.not_lt.mp (fun e => hx (Or.inr e))
    have hb : bd x3 0 999999 := by
      have a := i_le.mp (Int32.not_lt.mp h1)
      have b := i_le.mp h2
      have c : (1 : Int32).toInt = 1 := rfl
      have d : (9999 : Int32).toInt = 9999 := rfl
      unfold bd
      omega
    have ho := t.oneD hq hp
    subst e1 e2
    refine q_tab h (r := fJ9_max_7cf53 0 (D.1 1 114 (q * 6 + p) - x3)) (v := 0) ((kC_wi (o := 114) (by omega)).tr (kC_wi (o := 100) (by omega))) ?_ (fun E he => ⟨_, (kM_wi (j := 92 + 6 * q + p) (by omega)).tr (kM_wi (j := 6) (by omega)), ?_, m, d, gs, ins, (((t.m he).oneDebt hq hp (low_d ho hb)).oneGift (D.1 1 100 6 + 1)).mono (Nat.le_succ n)⟩)
    · unfold fX11_gift
      rw [if_neg c1, if_neg h1, if_pos h2, give_c (by omega) (by omega), Option.bind_some]
      unfold fX2_get
      simp (disch := omega) only [r6m, nI_add, nI_ix, gd_tt, nI_cl, wi_s, wi_n, Option.bind_some]
    · unfold fX12_gift
      rw [if_neg (c2 E he), F1, if_neg hx, if_neg one_ne, give_m (t.m he) (by omega) (by omega), Option.bind_some]
      simp (disch := omega) only [l6m, a92l, nI_add, nI_ix, gd_tt, nI_cl, wi_s, wi_n]
theorem xor_e : ∀ m, m < 7 → ∀ s, s < 64 → s < 2 ^ m → ∀ p, p < m → nI s ^^^ ((1 : Int32) <<< (nI p &&& 31)) = nI (s ^^^ 2 ^ p) ∧ s ^^^ 2 ^ p < 2 ^ m := by decide +kernel
theorem p_op47 : op_47 Inv := by
  intro n D x1 x2 h
  obtain ⟨m, d, gs, ins, t⟩ := iR.t h
  have hm := t.hm
  have h64 := pow_m hm
  have hi := t.hins
  rcases has_or t.hm t.many_c t.many_m x1 with ⟨c1, c2⟩ | ⟨p, hp, rfl, c1, c2⟩
  · exact q_look h (r := -1) (v := 1) (by unfold fX11_comes; rw [if_pos c1]) (fun E he => by unfold fX12_comes; rw [if_pos (by rw [has_m he]; exact c2)])
  · have hc : ¬ fX4_has 1 (nI p) D = 0 := by rw [c1]; exact one_ne
    have hq : ∀ E, eM D E → ¬ fX12_isPerson (nI p) E = 0 := fun E he => by rw [has_m he, c2]; exact one_ne
    obtain ⟨x, y⟩ := xor_e m (by omega) ins (by omega) hi p hp
    have go : ∀ s : Int32, fX11_comes (nI p) x2 D = fX11_comes_53 (nI p) s (fX11_isIn (D.1 1 117 0) (nI p)) D → (∀ E, eM D E → fX12_comes (nI p) x2 E = fX12_comes_45 (nI p) s (fX11_isIn (nI ins) (nI p)) E) → ∃ (r : Int32) (D1 D2 : mz_D), fX11_comes (nI p) x2 D = some (r, D1) ∧ fX12_comes (nI p) x2 D1 = some (r, D2) ∧ Inv (n + 1) D2 := by
      intro s e1 e2
      rw [t.in_c] at e1
      by_cases hs : fX11_isIn (nI ins) (nI p) = s
      · exact q_look h (r := -1) (v := 7) (by rw [e1]; unfold fX11_comes_53; rw [if_pos hs]) (fun E he => by rw [e2 E he]; unfold fX12_comes_45; rw [if_pos hs])
      · refine q_tab h (r := nI (pcS (ins ^^^ 2 ^ p))) (v := 0) (kC_wi (o := 117) (by omega)) ?_ (fun E he => ⟨_, kM_wi (j := 8) (by omega), ?_, m, d, gs, ins ^^^ 2 ^ p, ((t.m he).setIn y).mono (Nat.le_succ n)⟩)
        · rw [e1]
          unfold fX11_comes_53
          rw [if_neg hs, t.in_c, wi_s, x, bc_e (by omega)]
        · rw [e2 E he]
          unfold fX12_comes_45
          rw [if_neg hs, z8, (t.m he).uIn, wi_s, x, bits_e (by omega)]
          rfl
    by_cases h0 : x2 < 0
    · exact q_look h (r := -1) (v := 1) (by unfold fX11_comes; rw [if_neg hc, if_pos h0]) (fun E he => by unfold fX12_comes; rw [if_neg (hq E he), if_pos h0])
    · by_cases h1 : x2 ≤ 1
      · by_cases h2 : x2 = 1
        · exact go 1 (by unfold fX11_comes; rw [if_neg hc, if_neg h0, if_pos h1, if_pos h2]) (fun E he => by unfold fX12_comes; rw [if_neg (hq E he), if_neg h0, if_pos h1, if_pos h2, z8, (t.m he).uIn, isIn_m])
        · exact go 0 (by unfold fX11_comes; rw [if_neg hc, if_neg h0, if_pos h1, if_neg h2]) (fun E he => by unfold fX12_comes; rw [if_neg (hq E he), if_neg h0, if_pos h1, if_neg h2, z8, (t.m he).uIn, isIn_m])
      · exact q_look h (r := -1) (v := 1) (by unfold fX11_comes; rw [if_neg hc, if_neg h0, if_neg h1]) (fun E he => by unfold fX12_comes; rw [if_neg (hq E he), if_neg h0, if_neg h1])
