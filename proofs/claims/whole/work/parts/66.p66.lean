/-! ===== chains ===== -/
def crS (g : Nat) (D : mz_D) (a k : Nat) : Nat := foldN (fun b s => if 0 < D.1 g 114 (a * 6 + b) then s ||| 2 ^ b else s) 0 k 0
theorem crS_s (g : Nat) (D : mz_D) (a k : Nat) : crS g D a (k + 1) = if 0 < D.1 g 114 (a * 6 + k) then crS g D a k ||| 2 ^ k else crS g D a k := by
  unfold crS
  rw [foldN_end, Nat.zero_add]
theorem or_e : ∀ s, s < 64 → ∀ b, b < 6 → nI s ||| ((1 : Int32) <<< (nI b &&& 31)) = nI (s ||| 2 ^ b) ∧ s ||| 2 ^ b < 64 := by decide +kernel
theorem or_2 : ∀ s, s < 64 → ∀ t, t < 64 → nI s ||| nI t = nI (s ||| t) ∧ s ||| t < 64 := by decide +kernel
theorem crS_lt (g : Nat) (D : mz_D) (a : Nat) : ∀ k, k ≤ 6 → crS g D a k < 64 := by
  intro k
  induction k with
  | zero => intro _; exact (by decide : 0 < 64)
  | succ k ih =>
    intro hk
    rw [crS_s]
    split
    · exact (or_e _ (ih (by omega)) k (by omega)).2
    · exact ih (by omega)
theorem credC {g a : Nat} {D : mz_D} (ha : a < 6) : fX2_creditorsOf g (nI a) D = some (nI (crS g D a 6)) := by
  exact lpD (fun n s k => fX2_creditorsOf_4 g D n (nI a) s k) (fun k => nI (crS g D a k)) 6 (fun n k hk => by
    show fX2_creditorsOf_4 g D (n + 1) (nI a) (nI (crS g D a k)) (nI k) = fX2_creditorsOf_4 g D n (nI a) (nI (crS g D a (k + 1))) (nI (k + 1))
    rw [fX2_creditorsOf_4]
    unfold fX2_get
    simp (disch := omega) only [r6m, nI_add, nI_ix, gd_tt, nI_cl, a1r, Option.bind_some]
    rw [if_neg (by rw [ol_le (c := 6) (by omega) (by omega)]; omega), crS_s, (or_e _ (crS_lt g D a k (by omega)) k hk).1]
    by_cases h : D.1 g 114 (a * 6 + k) ≤ 0
    · rw [if_pos h, if_neg (Int32.not_lt.mpr h)]
    · rw [if_neg h, if_pos (Int32.not_le.mp h)]) (fun n => by
    show fX2_creditorsOf_4 g D (n + 1) (nI a) _ (nI 6) = _
    rw [fX2_creditorsOf_4]
    dsimp only
    rw [if_pos (by decide)]) 6 0 mz_N rfl (N_lt (by omega))
def pasS (A : Nat → Nat) (s k : Nat) : Nat := foldN (fun a s => if s.testBit a then s ||| A a else s) 0 k s
theorem pasS_s (A : Nat → Nat) (s k : Nat) : pasS A s (k + 1) = if (pasS A s k).testBit k then pasS A s k ||| A k else pasS A s k := by
  unfold pasS
  rw [foldN_end, Nat.zero_add]
theorem pasS_lt {A : Nat → Nat} (hA : ∀ a, A a < 64) {s : Nat} (hs : s < 64) : ∀ k, pasS A s k < 64 := by
  intro k
  induction k with
  | zero => exact hs
  | succ k ih =>
    rw [pasS_s]
    split
    · exact (or_2 _ ih _ (hA k)).2
    · exact ih
theorem pasS_sup {A : Nat → Nat} (s : Nat) : ∀ k i, s.testBit i = true → (pasS A s k).testBit i = true := by
  intro k
  induction k with
  | zero => intro i h; exact h
  | succ k ih =>
    intro i h
    rw [pasS_s]
    split
    · rw [Nat.testBit_or, ih i h]; rfl
    · exact ih i h
theorem pc_sub : ∀ s, s < 64 → ∀ t, t < 64 → (∀ i, i < 6 → s.testBit i = true → t.testBit i = true) → s ≠ t → pcS s < pcS t := by decide +kernel
def iteS (f : Nat → Nat) (s : Nat) : Nat → Nat
  | 0 => s
  | k + 1 => f (iteS f s k)
theorem iteS_st {f : Nat → Nat} {s k : Nat} (h : f (iteS f s k) = iteS f s k) : ∀ j, iteS f s (k + j) = iteS f s k := by
  intro j
  induction j with
  | zero => rfl
  | succ j ih =>
    show f (iteS f s (k + j)) = iteS f s k
    rw [ih, h]
theorem chn {A : Nat → Nat} (hA : ∀ a, A a < 64) {s : Nat} (hs : s < 64) (h1 : 1 ≤ pcS s) : ∃ K, K < 6 ∧ pasS A (iteS (fun s => pasS A s 6) s K) 6 = iteS (fun s => pasS A s 6) s K ∧ ∀ j, j < K → pasS A (iteS (fun s => pasS A s 6) s j) 6 ≠ iteS (fun s => pasS A s 6) s j := by
  have lt : ∀ k, iteS (fun s => pasS A s 6) s k < 64 := by
    intro k
    induction k with
    | zero => exact hs
    | succ k ih => exact pasS_lt hA ih 6
  have no : ¬ ∀ k, k < 6 → pasS A (iteS (fun s => pasS A s 6) s k) 6 ≠ iteS (fun s => pasS A s 6) s k := by
    intro all
    have gr : ∀ k, k ≤ 6 → k + 1 ≤ pcS (iteS (fun s => pasS A s 6) s k) := by
      intro k
      induction k with
      | zero => intro _; exact h1
      | succ k ih =>
        intro hk
        have := pc_sub _ (lt k) _ (lt (k + 1)) (fun i _ h => pasS_sup _ 6 i h) (fun e => all k (by omega) e.symm)
        have := ih (by omega)
        omega
    have := gr 6 (Nat.le_refl _)
    have := pc_le (iteS (fun s => pasS A s 6) s 6)
    omega
  obtain ⟨K, a, b, c⟩ := least no
  exact ⟨K, a, Classical.not_not.mp b, c⟩
theorem p_op44 : op_44 Inv := by
  intro n D x1 h
  obtain ⟨m, d, gs, ins, t⟩ := iR.t h
  have hm := t.hm
  rcases has_or t.hm t.many_c t.many_m x1 with ⟨c1, c2⟩ | ⟨p, hp, rfl, c1, c2⟩
  · exact q_look h (r := -1) (v := 1) (by unfold fX11_chain; rw [if_pos c1]) (fun E he => by unfold fX12_chain; rw [if_pos (by rw [has_m he]; exact c2)])
  · obtain ⟨A, hA⟩ : ∃ A : Nat → Nat, A = fun a => crS 1 D a 6 := ⟨_, rfl⟩
    have hA64 : ∀ a, A a < 64 := fun a => by rw [hA]; exact crS_lt 1 D a 6 (Nat.le_refl _)
    have p0 : ∀ p, p < 6 → (1 : Int32) <<< (nI p &&& 31) = nI (2 ^ p) ∧ 2 ^ p < 64 ∧ 1 ≤ pcS (2 ^ p) ∧ ¬ nI (2 ^ p) = 0 := by decide +kernel
    obtain ⟨q1, q2, q3, q4⟩ := p0 p (by omega)
    obtain ⟨K, hK, fix, nofix⟩ := chn hA64 q2 q3
    obtain ⟨it, hit⟩ : ∃ it, it = iteS (fun s => pasS A s 6) (2 ^ p) := ⟨_, rfl⟩
    have lt : ∀ k, it k < 64 := by
      intro k
      rw [hit]
      induction k with
      | zero => exact q2
      | succ k ih => exact pasS_lt hA64 ih 6
    have its : ∀ k, it (k + 1) = pasS A (it k) 6 := fun k => by rw [hit]; rfl
    rw [← hit] at fix nofix
    have st6 : it 6 = it K := by
      have := iteS_st (f := fun s => pasS A s 6) (s := 2 ^ p) (k := K) (by rw [← hit]; exact fix) (6 - K)
      rw [show K + (6 - K) = 6 by omega, ← hit] at this
      exact this
    have pm : ∀ s, pasS A s 6 = pasS A s m := fun s => by
      unfold pasS
      have := foldN_add (fun a s => if s.testBit a then s ||| A a else s) m (6 - m) 0 s
      rw [show m + (6 - m) = 6 by omega] at this
      rw [this]
      refine foldN_id _ _ _ (fun a s h1 h2 => ?_)
      have z : A a = 0 := by
        rw [hA]
        show crS 1 D a 6 = 0
        unfold crS
        refine foldN_id _ _ _ (fun b s h3 h4 => ?_)
        have z1 := t.nodebt a b (by omega) (by omega) (by omega)
        rw [Nat.mul_comm] at z1
        rw [z1, if_neg (by decide)]
      rw [z, Nat.or_zero]
      split <;> rfl
    have cm : ∀ a, a < m → crS 1 D a m = A a := fun a ha => by
      rw [hA]
      show crS 1 D a m = crS 1 D a 6
      unfold crS
      have := foldN_add (fun b s => if 0 < D.1 1 114 (a * 6 + b) then s ||| 2 ^ b else s) m (6 - m) 0 0
      rw [show m + (6 - m) = 6 by omega] at this
      rw [this]
      refine (foldN_id _ _ _ (fun b s h3 h4 => ?_)).symm
      have z1 := t.nodebt a b (by omega) (by omega) (by omega)
      rw [Nat.mul_comm] at z1
      rw [z1, if_neg (by decide)]
    refine q_look h (r := nI (clr (it K) p)) (v := 0) ?_ (fun E he => ?_)
    · unfold fX11_chain
      rw [if_neg (by rw [c1]; exact one_ne), q1]
      have key := lpD (fun n s k => fX11_chain_26 n (nI p) s k D) (fun k => nI (it k)) 6 (r := some (nI (clr (it K) p), mz_wi D 0 0 13 0)) (fun n k hk => by
        show fX11_chain_26 (n + 1) (nI p) (nI (it k)) (nI k) D = fX11_chain_26 n (nI p) (nI (it (k + 1))) (nI (k + 1)) D
        rw [fX11_chain_26]
        dsimp only
        rw [if_neg (by rw [ol_le (c := 6) (by omega) (by omega)]; omega), its]
        exact lpD (fun n' s j => fX11_chain_35 (fX11_chain_26 n) n' (nI p) s (nI k) j D) (fun j => nI (pasS A (it k) j)) 6 (fun n' j hj => by
          show fX11_chain_35 (fX11_chain_26 n) (n' + 1) (nI p) (nI (pasS A (it k) j)) (nI k) (nI j) D = fX11_chain_35 (fX11_chain_26 n) n' (nI p) (nI (pasS A (it k) (j + 1))) (nI k) (nI (j + 1)) D
          have l1 := pasS_lt hA64 (lt k) j
          have ea : crS 1 D j 6 = A j := by rw [hA]
          rw [fX11_chain_35]
          simp (disch := omega) only [isIn_e, credC, a1r, Option.bind_some, ea]
          rw [if_neg (by rw [ol_le (c := 6) (by omega) (by omega)]; omega), pasS_s, (or_2 _ l1 _ (hA64 j)).1]
          cases b : (pasS A (it k) j).testBit j <;> simp) (fun n' => by
          show fX11_chain_35 (fX11_chain_26 n) (n' + 1) (nI p) (nI (pasS A (it k) 6)) (nI k) (nI 6) D = _
          rw [fX11_chain_35]
          dsimp only
          rw [if_pos (by decide), a1r]) 6 0 mz_N rfl (N_lt (by omega))) (fun n => by
        show fX11_chain_26 (n + 1) (nI p) (nI (it 6)) (nI 6) D = _
        rw [fX11_chain_26]
        dsimp only
        rw [if_pos (by decide), clr_e _ (lt 6) p (by omega), st6]) 6 0 mz_N rfl (N_lt (by omega))
      have k0 : it 0 = 2 ^ p := by rw [hit]; rfl
      have key2 : fX11_chain_26 mz_N (nI p) (nI (it 0)) (nI 0) D = _ := key
      rw [k0] at key2
      exact key2
    · have t2 := t.m he
      unfold fX12_chain
      rw [if_neg (by rw [has_m he, c2]; exact one_ne), q1]
      have pass : ∀ (n : Nat) (s old : Nat), s < 64 → fX12_chain_30 (fX12_chain_20 n) mz_N (nI p) (nI s) (nI old) 0 E = fX12_chain_20 n (nI p) (nI (pasS A s 6)) (nI old) E := by
        intro n s old hs
        rw [pm]
        exact lpD (fun n' s' j => fX12_chain_30 (fX12_chain_20 n) n' (nI p) s' (nI old) j E) (fun j => nI (pasS A s j)) m (fun n' j hj => by
          show fX12_chain_30 (fX12_chain_20 n) (n' + 1) (nI p) (nI (pasS A s j)) (nI old) (nI j) E = fX12_chain_30 (fX12_chain_20 n) n' (nI p) (nI (pasS A s (j + 1))) (nI old) (nI (j + 1)) E
          rw [fX12_chain_30]
          dsimp only
          rw [z0, t2.uMany, if_neg (by rw [nJ_le (by omega) (by omega)]; omega), pasS_s]
          have l1 := pasS_lt hA64 hs j
          generalize pasS A s j = s1 at l1
          have key := lpD (fun n'' s' b => fX12_chain_44 (fX12_chain_20 n) (fX12_chain_30 (fX12_chain_20 n) n') n'' (nI p) s' (nI old) (nI j) b E) (fun b => nI (if s1.testBit j then s1 ||| crS 1 D j b else s1)) m (r := fX12_chain_30 (fX12_chain_20 n) n' (nI p) (nI (if s1.testBit j then s1 ||| A j else s1)) (nI old) (nI (j + 1)) E) (fun n'' b hb => by
            show fX12_chain_44 (fX12_chain_20 n) (fX12_chain_30 (fX12_chain_20 n) n') (n'' + 1) (nI p) (nI (if s1.testBit j then s1 ||| crS 1 D j b else s1)) (nI old) (nI j) (nI b) E = fX12_chain_44 (fX12_chain_20 n) (fX12_chain_30 (fX12_chain_20 n) n') n'' (nI p) (nI (if s1.testBit j then s1 ||| crS 1 D j (b + 1) else s1)) (nI old) (nI j) (nI (b + 1)) E
            rw [fX12_chain_44]
            dsimp only
            rw [z0, t2.uMany, if_neg (by rw [nJ_le (by omega) (by omega)]; omega), isIn_m]
            cases hb1 : s1.testBit j with
            | false =>
              simp only [Bool.false_eq_true, if_false]
              rw [isIn_e l1 (by omega), hb1]
              simp (disch := omega) only [a1r, Bool.false_eq_true, if_false, if_true]
            | true =>
              simp only [if_true]
              have lb := crS_lt 1 D j b (by omega)
              have l2 := (or_2 _ l1 _ lb).2
              have tb : (s1 ||| crS 1 D j b).testBit j = true := by rw [Nat.testBit_or, hb1]; rfl
              rw [isIn_e l2 (by omega), tb]
              simp (disch := omega) only [l6m, a92l, nI_add, nI_ix, gd_tt, nI_cl, a1r, t2.uDebt (show j < 6 by omega) (show b < 6 by omega), one_ne, if_true, if_false, (or_e _ l2 b (by omega)).1]
              rw [crS_s]
              by_cases hd0 : D.1 1 114 (j * 6 + b) ≤ 0
              · rw [if_pos hd0, if_neg (Int32.not_lt.mpr hd0)]
              · rw [if_neg hd0, if_pos (Int32.not_le.mp hd0), Nat.or_assoc]) (fun n'' => by
            show fX12_chain_44 (fX12_chain_20 n) (fX12_chain_30 (fX12_chain_20 n) n') (n'' + 1) (nI p) (nI (if s1.testBit j then s1 ||| crS 1 D j m else s1)) (nI old) (nI j) (nI m) E = _
            rw [fX12_chain_44]
            dsimp only
            rw [z0, t2.uMany, if_pos (Int32.le_refl _), a1r, cm j hj]) m 0 mz_N (by omega) (N_lt (by omega))
          have z : (if s1.testBit j then s1 ||| crS 1 D j 0 else s1) = s1 := by
            show (if s1.testBit j then s1 ||| 0 else s1) = s1
            rw [Nat.or_zero]
            split <;> rfl
          have key2 : fX12_chain_44 (fX12_chain_20 n) (fX12_chain_30 (fX12_chain_20 n) n') mz_N (nI p) (nI (if s1.testBit j then s1 ||| crS 1 D j 0 else s1)) (nI old) (nI j) (nI 0) E = _ := key
          rw [z] at key2
          exact key2) (fun n' => by
          show fX12_chain_30 (fX12_chain_20 n) (n' + 1) (nI p) (nI (pasS A s m)) (nI old) (nI m) E = _
          rw [fX12_chain_30]
          dsimp only
          rw [z0, t2.uMany, if_pos (Int32.le_refl _)]) m 0 mz_N (by omega) (N_lt (by omega))
      have fin : ∀ d j n, j + d = K → d + 1 < n → ∀ old, old < 64 → it j ≠ old → fX12_chain_20 n (nI p) (nI (it j)) (nI old) E = some (nI (clr (it K) p), mz_wi E 0 200 2 0) := by
        intro d
        induction d with
        | zero =>
          intro j n hj hn old ho hne
          obtain ⟨n, rfl⟩ : ∃ n', n = n' + 1 + 1 := ⟨n - 2, by omega⟩
          have lj := lt j
          rw [fX12_chain_20]
          dsimp only
          rw [if_neg (by rw [nJ_eq (by omega) (by omega)]; exact hne)]
          refine (pass (n + 1) (it j) (it j) lj).trans ?_
          rw [show j = K by omega, fix, fX12_chain_20]
          dsimp only
          rw [if_pos rfl, clr_e _ (lt K) p (by omega)]
        | succ d ih =>
          intro j n hj hn old ho hne
          obtain ⟨n, rfl⟩ : ∃ n', n = n' + 1 := ⟨n - 1, by omega⟩
          have lj := lt j
          rw [fX12_chain_20]
          dsimp only
          rw [if_neg (by rw [nJ_eq (by omega) (by omega)]; exact hne)]
          refine (pass n (it j) (it j) lj).trans ?_
          rw [← its]
          exact ih (j + 1) n (by omega) (by omega) (it j) lj (by rw [its]; exact nofix j (by omega))
      have k0 : it 0 = 2 ^ p := by rw [hit]; rfl
      have := fin K 0 mz_N (by omega) (N_lt (by omega)) 0 (by omega) (by rw [k0]; intro e; rw [e] at q3; exact absurd q3 (by decide))
      rw [k0] at this
      exact this
