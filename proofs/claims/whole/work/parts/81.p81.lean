/-! ===== a second bill: the call ===== -/
theorem or_add {s i : Nat} (h : s < 2 ^ i) : s ||| 2 ^ i = s + 2 ^ i := by
  have := Nat.two_pow_add_eq_or_of_lt h 1
  rw [Nat.mul_one] at this
  rw [Nat.or_comm, ← this, Nat.add_comm]
theorem p2_16 {d : Nat} (h : d ≤ 16) : 2 ^ d ≤ 65536 := Nat.pow_le_pow_right (n := 2) (by omega) h
theorem srC {g d : Nat} {D : mz_D} {pN : Nat → Nat} (hd : d ≤ 16) (ed : D.1 g 109 0 = nI d) (hp : ∀ j, j < d → D.1 g 110 j = nI (pN j) ∧ 1 ≤ pN j ∧ pN j ≤ 999) (hr : ∀ j, j ≤ d → D.1 g 112 j = nI (rsK pN j (d - j))) : ∀ k i, i + k = d → ∀ (n : Nat) (l : Int32) (s : Nat) (t : Nat × Option Nat), k + 1 < n → -1000 ≤ l.toInt → l.toInt ≤ 9999 → s < 2 ^ i → okT (2 ^ d) t → t.1 + 2 ^ k ≤ 70000 → fX1_sr n g (nI i) l (nI s) (msS g D t) = some (msS g D (rngQ (QQ pN d i l.toInt s) (2 ^ d) t)) ∧ okT (2 ^ d) (rngQ (QQ pN d i l.toInt s) (2 ^ d) t) ∧ (rngQ (QQ pN d i l.toInt s) (2 ^ d) t).1 ≤ t.1 + 2 ^ k := by
  have h65 := p2_16 hd
  intro k
  induction k with
  | zero =>
    intro i hi n l s t hn hl1 hl2 hs ht hc
    obtain ⟨n, rfl⟩ : ∃ n', n = n' + 1 := ⟨n - 1, by omega⟩
    have ei : i = d := by omega
    subst ei
    have nb : ∀ S, S < 2 ^ i → (QQ pN i i l.toInt s S = true ↔ (S = s ∧ l.toInt = 0)) := fun S hS => by
      unfold QQ
      rw [Nat.sub_self, Nat.mod_eq_of_lt hS]
      show (decide (S = s) && decide (((0 : Nat) : Int) = l.toInt)) = true ↔ _
      simp only [Bool.and_eq_true, decide_eq_true_eq]
      constructor
      · intro ⟨a, b⟩; exact ⟨a, by omega⟩
      · intro ⟨a, b⟩; exact ⟨a, by omega⟩
    by_cases l0 : l = 0
    · have lz : l.toInt = 0 := by rw [l0]; rfl
      have e := rngQ_one (Q := QQ pN i i l.toInt s) t (S0 := s) (2 ^ i) hs (fun S hS => by rw [nb S hS]; exact ⟨fun h => h.1, fun h => ⟨h, lz⟩⟩)
      rw [e]
      refine ⟨?_, okT_acc ht hs, by show t.1 + 1 ≤ t.1 + 2 ^ 0; omega⟩
      rw [fX1_sr]
      dsimp only
      rw [if_pos l0, cntC ht.1 (by omega) (by omega) (fun x hx => by have := ht.2 x hx; omega)]
      rfl
    · have lz : l.toInt ≠ 0 := fun e => l0 (z_i.mpr e)
      have e := rngQ_none (Q := QQ pN i i l.toInt s) t (2 ^ i) (fun S hS => by
        cases c : QQ pN i i l.toInt s S with
        | false => rfl
        | true => exact absurd ((nb S hS).mp c).2 lz)
      rw [e]
      refine ⟨?_, ht, by omega⟩
      rw [fX1_sr]
      dsimp only
      rw [if_neg l0, msS_n (by omega), ed, if_pos (Int32.le_refl _)]
  | succ k ih =>
    intro i hi n l s t hn hl1 hl2 hs ht hc
    obtain ⟨n, rfl⟩ : ∃ n', n = n' + 1 := ⟨n - 1, by omega⟩
    have hid : i < d := by omega
    have pw : 2 ^ (k + 1) = 2 ^ k + 2 ^ k := by rw [Nat.pow_succ]; omega
    have p1 : 1 ≤ 2 ^ k := Nat.one_le_two_pow
    have psl : ∀ S, psK pN S i (d - i) ≤ rsK pN i (d - i) := fun S => ps_le pN S (d - i) i
    by_cases l0 : l = 0
    · have lz : l.toInt = 0 := by rw [l0]; rfl
      have hsd : s < 2 ^ d := Nat.lt_of_lt_of_le hs (Nat.pow_le_pow_right (by omega) (by omega))
      have ps0 : psK pN s i (d - i) = 0 := by
        have z : ∀ k i, s < 2 ^ i → psK pN s i k = 0 := by
          intro k
          induction k with
          | zero => intro i _; rfl
          | succ k ih =>
            intro i h
            show (if s.testBit i then pN i else 0) + psK pN s (i + 1) k = 0
            rw [tb_lt h (Nat.le_refl _), ih (i + 1) (Nat.lt_of_lt_of_le h (Nat.pow_le_pow_right (by omega) (by omega)))]
            rfl
        exact z _ _ hs
      have e := rngQ_one (Q := QQ pN d i l.toInt s) t (S0 := s) (2 ^ d) hsd (fun S hS => by
        unfold QQ
        rw [lz]
        simp only [Bool.and_eq_true, decide_eq_true_eq]
        constructor
        · intro ⟨a, b⟩
          have q := ps_0 (pN := pN) (d := d) (S := S) (fun j hj => (hp j hj).2.1) (d - i) i (by omega) (by omega) (by rw [show i + (d - i) = d by omega]; exact hS)
          rw [Nat.mod_eq_of_lt q] at a
          exact a
        · intro a
          rw [a, ps0, Nat.mod_eq_of_lt hs]
          exact ⟨rfl, rfl⟩)
      rw [e]
      refine ⟨?_, okT_acc ht hsd, by show t.1 + 1 ≤ _; omega⟩
      rw [fX1_sr]
      dsimp only
      rw [if_pos l0, cntC ht.1 (by omega) (by omega) (fun x hx => by have := ht.2 x hx; omega)]
      rfl
    · have lz : l.toInt ≠ 0 := fun e => l0 (z_i.mpr e)
      have rb := rs_b (pN := pN) (d := d) (fun j hj => (hp j hj).2.2) (d - i) i (by omega)
      have stop : (l.toInt ≤ 0 ∨ (rsK pN i (d - i) : Int) < l.toInt) → rngQ (QQ pN d i l.toInt s) (2 ^ d) t = t := fun hx => rngQ_none t (2 ^ d) (fun S hS => by
        unfold QQ
        have := psl S
        have f : decide ((psK pN S i (d - i) : Int) = l.toInt) = false := by
          rw [decide_eq_false_iff_not]
          omega
        rw [f, Bool.and_false])
      by_cases c1 : l.toInt ≤ 0
      · rw [stop (Or.inl c1)]
        refine ⟨?_, ht, by omega⟩
        rw [fX1_sr]
        dsimp only
        rw [if_neg l0, msS_n (by omega), ed, if_neg (by rw [nJ_le (by omega) (by omega)]; omega), if_pos (by rw [i_le]; exact c1)]
      · by_cases c2 : (rsK pN i (d - i) : Int) < l.toInt
        · rw [stop (Or.inr c2)]
          refine ⟨?_, ht, by omega⟩
          rw [fX1_sr]
          dsimp only
          rw [if_neg l0, msS_n (by omega), ed, if_neg (by rw [nJ_le (by omega) (by omega)]; omega), if_neg (by rw [i_le]; exact c1), nI_ix (by omega) (by omega), gd_tt, nI_cl (by omega), msS_n (by omega), hr i (by omega), if_pos (by rw [i_lt, nI_toInt (by omega)]; exact c2)]
        · have pr := hp i hid
          have lI : (l - nI (pN i)).toInt = l.toInt - pN i := by rw [i_sub (by rw [nI_toInt (by omega)]; omega) (by rw [nI_toInt (by omega)]; omega), nI_toInt (by omega)]
          have hs2 : s + 2 ^ i < 2 ^ (i + 1) := by rw [Nat.pow_succ]; omega
          have hs3 : s < 2 ^ (i + 1) := by omega
          obtain ⟨a1, a2, a3⟩ := ih (i + 1) (by omega) n (l - nI (pN i)) (s + 2 ^ i) t (by omega) (by rw [lI]; omega) (by rw [lI]; omega) hs2 ht (by omega)
          rw [lI] at a1 a2 a3
          obtain ⟨b1, b2, b3⟩ := ih (i + 1) (by omega) n l s (rngQ (QQ pN d (i + 1) (l.toInt - pN i) (s + 2 ^ i)) (2 ^ d) t) (by omega) hl1 hl2 hs3 a2 (by omega)
          have sp := rngQ_split (Q := QQ pN d i l.toInt s) (Q1 := QQ pN d (i + 1) (l.toInt - pN i) (s + 2 ^ i)) (Q2 := QQ pN d (i + 1) l.toInt s) t (2 ^ d) (fun S _ => (QQ_split hid hs).1) (fun S _ => (QQ_split hid hs).2)
          rw [sp]
          refine ⟨?_, b2, by omega⟩
          rw [fX1_sr]
          dsimp only
          rw [if_neg l0, msS_n (by omega), ed, if_neg (by rw [nJ_le (by omega) (by omega)]; omega), if_neg (by rw [i_le]; exact c1), nI_ix (by omega) (by omega), gd_tt, nI_cl (by omega), msS_n (by omega), hr i (by omega), if_neg (by rw [i_lt, nI_toInt (by omega)]; exact c2), nI_ix (by omega) (by omega), gd_tt, msS_n (by omega), pr.1, a1r, shl_n i (by omega), nI_or, or_add hs, a1, Option.bind_some, b1]
          rfl
/-! the rests -/
theorem lkC {g d : Nat} {D : mz_D} {pN : Nat → Nat} (hd : d ≤ 16) (ed : D.1 g 109 0 = nI d) (hp : ∀ j, j < d → D.1 g 110 j = nI (pN j) ∧ 1 ≤ pN j ∧ pN j ≤ 999) {A : Nat} (h1 : 1 ≤ A) (h2 : A ≤ 9999) : ∃ f, fX1_lookForSets g (nI A) D = some (msS g (wr D g 112 f) (rngQ (QQ pN d 0 A 0) (2 ^ d) (0, none))) ∧ okT (2 ^ d) (rngQ (QQ pN d 0 A 0) (2 ^ d) (0, none)) := by
  have h65 := p2_16 hd
  obtain ⟨R, hR⟩ : ∃ R : Nat → Nat → Int32, R = fun i j => if i ≤ j ∧ j ≤ d then nI (rsK pN j (d - j)) else D.1 g 112 j := ⟨_, rfl⟩
  have Ru : ∀ i, i < d → up (R (i + 1)) i (nI (rsK pN i (d - i))) = R i := fun i hi => by
    funext j
    rw [hR]
    unfold up
    dsimp only
    by_cases e : j = i
    · rw [if_pos e, if_pos (by omega), e]
    · rw [if_neg e]
      by_cases e2 : i + 1 ≤ j ∧ j ≤ d
      · rw [if_pos e2, if_pos (by omega)]
      · rw [if_neg e2, if_neg (by omega)]
  have m0 : ∀ f, msS g (wr D g 112 f) (0, none) = wr (mz_wi (mz_wi (mz_wi D g 109 4 0) g 109 5 0) g 109 6 0) g 112 f := fun f => by
    unfold msS
    rw [wi_wrc (Or.inl (by decide)), wi_wrc (Or.inl (by decide)), wi_wrc (Or.inl (by decide))]
    rfl
  have run : ∀ i n, i ≤ d → i < n → fX1_lookForSets_32 g n (nI A) (nI i - 1) (msS g (wr D g 112 (R i)) (0, none)) = Option.bind (fX1_search g 0 (nI A) 0 (msS g (wr D g 112 (R 0)) (0, none))) fun q2 => some q2 := by
    intro i
    induction i with
    | zero =>
      intro n _ hn
      obtain ⟨n, rfl⟩ : ∃ n', n = n' + 1 := ⟨n - 1, by omega⟩
      rw [fX1_lookForSets_32]
      dsimp only
      rw [if_pos (by decide)]
    | succ i ih =>
      intro n hi hn
      obtain ⟨n, rfl⟩ : ∃ n', n = n' + 1 := ⟨n - 1, by omega⟩
      have r1 : R (i + 1) (i + 1) = nI (rsK pN (i + 1) (d - (i + 1))) := by rw [hR]; exact if_pos (by omega)
      have r2 : rsK pN i (d - i) = pN i + rsK pN (i + 1) (d - (i + 1)) := by
        rw [show d - i = (d - (i + 1)) + 1 by omega]
        rfl
      have x112 : (msS g (wr D g 112 (R (i + 1))) (0, none)).1 g 112 (i + 1) = nI (rsK pN (i + 1) (d - (i + 1))) := by rw [msS_n (by omega), wr_s, r1]
      have x110 : (msS g (wr D g 112 (R (i + 1))) (0, none)).1 g 110 i = nI (pN i) := by rw [msS_n (by omega), wr_n (Or.inl (by decide))]; exact (hp i (by omega)).1
      rw [s1r, fX1_lookForSets_32]
      dsimp only
      rw [if_neg (nI_neg (by omega)).mp, a1r, nI_ix (by omega) (by omega), nI_ix (by omega) (by omega), nI_ix (by omega) (by omega), gd_tt, gd_tt, gd_tt, nI_cl (by omega), nI_cl (by omega), x112, x110, nI_add, show rsK pN (i + 1) (d - (i + 1)) + pN i = rsK pN i (d - i) by omega, show nI i + (-1 : Int32) = nI i - 1 by grind, m0, wr_up, Ru i (by omega), ← m0]
      exact ih n (by omega) (by omega)
  have r0 : ∀ j, j ≤ d → (wr D g 112 (R 0)).1 g 112 j = nI (rsK pN j (d - j)) := fun j hj => by rw [wr_s, hR]; exact if_pos (by omega)
  have aI : (nI A).toInt = (A : Int) := nI_toInt (by omega)
  obtain ⟨s1, s2, s3⟩ := srC (D := wr D g 112 (R 0)) (pN := pN) hd (by rw [wr_n (Or.inl (by decide))]; exact ed) (fun j hj => by rw [wr_n (Or.inl (by decide))]; exact hp j hj) r0 d 0 (by omega) 18 (nI A) 0 (0, none) (by omega) (by rw [aI]; omega) (by rw [aI]; omega) (by show 0 < 2 ^ 0; decide) ⟨⟨fun _ => rfl, fun _ => rfl⟩, fun s e => (by cases e)⟩ (by show 0 + 2 ^ d ≤ 70000; omega)
  rw [aI] at s1 s2
  refine ⟨R 0, ?_, s2⟩
  unfold fX1_lookForSets
  have e9 : (mz_wi (mz_wi (mz_wi D g 109 4 (0 : Int32)) g 109 5 (0 : Int32)) g 109 6 (0 : Int32)).1 g 109 0 = nI d := by rw [wi_n (by omega), wi_n (by omega), wi_n (by omega)]; exact ed
  rw [e9, nI_ix (by omega) (by omega), gd_tt, nI_cl (by omega)]
  have st : mz_wi (mz_wi (mz_wi (mz_wi D g 109 4 (0 : Int32)) g 109 5 (0 : Int32)) g 109 6 (0 : Int32)) g 112 d 0 = msS g (wr D g 112 (R d)) (0, none) := by
    rw [m0, wi_wr]
    congr 1
    funext j
    rw [hR]
    unfold up
    dsimp only
    by_cases e : j = d
    · rw [if_pos e, if_pos (by omega), e, Nat.sub_self]; rfl
    · rw [if_neg e, if_neg (by omega), wi_n (by omega), wi_n (by omega), wi_n (by omega)]
  rw [st, run d mz_N (Nat.le_refl _) (N_lt (by omega))]
  unfold fX1_search
  have s1' : fX1_sr 18 g 0 (nI A) 0 (msS g (wr D g 112 (R 0)) (0, none)) = _ := s1
  rw [s1']
  rfl
/-! the reference -/
theorem ps_all (pN : Nat → Nat) (S : Nat) : ∀ k i, psK pN S i (k + 1) = psK pN S i k + (if S.testBit (i + k) then pN (i + k) else 0) := by
  intro k
  induction k with
  | zero => intro i; show (if S.testBit i then pN i else 0) + 0 = 0 + _; simp
  | succ k ih =>
    intro i
    show (if S.testBit i then pN i else 0) + psK pN S (i + 1) (k + 1) = (if S.testBit i then pN i else 0) + psK pN S (i + 1) k + _
    rw [ih (i + 1), show i + 1 + k = i + (k + 1) by omega]
    omega
theorem secM {n : Nat} {Dc E : mz_D} {m d gs ins : Nat} (t : tR n 1 0 0 Dc E m d gs ins) {pN : Nat → Nat} (hp : ∀ j, j < d → Dc.1 1 110 j = nI (pN j) ∧ 1 ≤ pN j ∧ pN j ≤ 999) {A : Nat} (h1 : 1 ≤ A) (h2 : A ≤ 9999) (x2 : Int32) : fX12_second_35 mz_N (nI A) x2 0 (-1) 1 E = (match (rngQ (QQ pN d 0 A 0) (2 ^ d) (0, none)).2 with | none => some (-1, mz_wi E 0 200 2 6) | some s => if x2 = 0 then some (bc s, mz_wi E 0 200 2 0) else if x2 = 1 then some (nI (rngQ (QQ pN d 0 A 0) (2 ^ d) (0, none)).1, mz_wi E 0 200 2 0) else some (nI s, mz_wi E 0 200 2 0)) := by
  have hd := t.hd
  have h65 := p2_16 hd
  have p1 : 1 ≤ 2 ^ d := Nat.one_le_two_pow
  have q0 : QQ pN d 0 A 0 0 = false := by
    unfold QQ
    have z : ∀ k i, psK pN 0 i k = 0 := by
      intro k
      induction k with
      | zero => intro i; rfl
      | succ k ih => intro i; show (if Nat.testBit 0 i then pN i else 0) + psK pN 0 (i + 1) k = 0; rw [Nat.zero_testBit, ih]; rfl
    rw [z]
    have : decide (((0 : Nat) : Int) = (A : Int)) = false := by rw [decide_eq_false_iff_not]; omega
    rw [this, Bool.and_false]
  have e1 : rngQ (QQ pN d 0 A 0) 1 (0, none) = (0, none) := by rw [rngQ_s, q0]; rfl
  have key := lpC (fun n (s : Nat × Option Nat) k => fX12_second_35 n (nI A) x2 (nI s.1) (enc s.2) k E) (fun k => rngQ (QQ pN d 0 A 0) k (0, none)) 1 (2 ^ d) (r := (match (rngQ (QQ pN d 0 A 0) (2 ^ d) (0, none)).2 with | none => some (-1, mz_wi E 0 200 2 6) | some s => if x2 = 0 then some (bc s, mz_wi E 0 200 2 0) else if x2 = 1 then some (nI (rngQ (QQ pN d 0 A 0) (2 ^ d) (0, none)).1, mz_wi E 0 200 2 0) else some (nI s, mz_wi E 0 200 2 0))) (fun n S h0 hS => by
    show fX12_second_35 (n + 1) (nI A) x2 (nI (rngQ (QQ pN d 0 A 0) S (0, none)).1) (enc (rngQ (QQ pN d 0 A 0) S (0, none)).2) (nI S) E = fX12_second_35 n (nI A) x2 (nI (rngQ (QQ pN d 0 A 0) (S + 1) (0, none)).1) (enc (rngQ (QQ pN d 0 A 0) (S + 1) (0, none)).2) (nI (S + 1)) E
    obtain ⟨i1, i2, i3⟩ := rngQ_in (QQ pN d 0 A 0) S
    rw [fX12_second_35]
    dsimp only
    rw [z2, t.uDish, shl_n d (by omega), if_neg (by rw [nJ_le (by omega) (by omega)]; omega), rngQ_s]
    generalize hT : rngQ (QQ pN d 0 A 0) S (0, none) = T at i1 i2 i3
    have rb := rs_b (pN := pN) (d := d) (fun j hj => (hp j hj).2.2)
    exact lpD (fun n' s k => fX12_second_54 (fX12_second_35 n) n' (nI A) x2 (nI T.1) (enc T.2) (nI S) s k E) (fun k => nI (psK pN S 0 k)) d (fun n' k hk => by
      show fX12_second_54 (fX12_second_35 n) (n' + 1) (nI A) x2 (nI T.1) (enc T.2) (nI S) (nI (psK pN S 0 k)) (nI k) E = fX12_second_54 (fX12_second_35 n) n' (nI A) x2 (nI T.1) (enc T.2) (nI S) (nI (psK pN S 0 (k + 1))) (nI (k + 1)) E
      rw [fX12_second_54]
      unfold fX12_second_94
      simp (disch := omega) only [z2, t.uDish, nJ_le, isIn_m, isIn_n, l2m, a60l, nI_ix, gd_tt, nI_cl, a1r, t.uPrice hk, (hp k hk).1, nI_add]
      rw [if_neg (by omega), ps_all, Nat.zero_add]
      cases hb : S.testBit k with
      | false => simp [add0]
      | true => simp) (fun n' => by
      show fX12_second_54 (fX12_second_35 n) (n' + 1) (nI A) x2 (nI T.1) (enc T.2) (nI S) (nI (psK pN S 0 d)) (nI d) E = _
      have pb : psK pN S 0 d ≤ 999 * 16 := by
        have a := ps_le pN S d 0
        have b := rb d 0 (by omega)
        omega
      have qe : QQ pN d 0 A 0 S = decide (psK pN S 0 d = A) := by
        unfold QQ
        rw [Nat.pow_zero, Nat.mod_one, Nat.sub_zero]
        by_cases h : psK pN S 0 d = A
        · rw [h]; simp
        · have h2 : ¬ ((psK pN S 0 d : Nat) : Int) = (A : Int) := by omega
          rw [decide_eq_false h, decide_eq_false h2, Bool.and_false]
      rw [fX12_second_54]
      unfold fX12_second_134
      dsimp only
      rw [z2, t.uDish, if_pos (Int32.le_refl _), qe]
      by_cases h : psK pN S 0 d = A
      · rw [if_pos (by rw [h]), a1r, a1r, decide_eq_true h, if_pos rfl]
        obtain ⟨c, b⟩ := T
        cases b with
        | none => rw [if_pos (show enc (none : Option Nat) = -1 from rfl)]; rfl
        | some s =>
          have hs : s < S := i1 s rfl
          rw [show enc (some s) = nI s from rfl, if_neg (fun e => (nI_ne1 (k := s) (by omega)).mp e), bits16 (by omega), bits16 (by omega), Option.bind_some, Option.bind_some]
          by_cases h3 : bc s ≤ bc S
          · rw [if_pos h3]
            have : acc (c, some s) S = (c + 1, some s) := by
              unfold acc
              show (c + 1, some (acB S (some s))) = _
              rw [acB_n]
              intro h4
              rcases h4 with h4 | ⟨-, h4⟩
              · exact absurd h3 (Int32.not_le.mpr h4)
              · omega
            rw [this]
            rfl
          · rw [if_neg h3]
            have : acc (c, some s) S = (c + 1, some S) := by
              unfold acc
              show (c + 1, some (acB S (some s))) = _
              rw [acB_p (Or.inl (Int32.not_le.mp h3))]
            rw [this]
            rfl
      · rw [if_neg (by rw [nJ_eq (by omega) (by omega)]; exact h), decide_eq_false h, a1r]
        simp) d 0 mz_N (by omega) (N_lt (by omega))) (fun n => by
    show fX12_second_35 (n + 1) (nI A) x2 (nI (rngQ (QQ pN d 0 A 0) (2 ^ d) (0, none)).1) (enc (rngQ (QQ pN d 0 A 0) (2 ^ d) (0, none)).2) (nI (2 ^ d)) E = _
    obtain ⟨i1, i2, i3⟩ := rngQ_in (QQ pN d 0 A 0) (2 ^ d)
    rw [fX12_second_35]
    dsimp only
    rw [z2, t.uDish, shl_n d (by omega), if_pos (Int32.le_refl _)]
    generalize rngQ (QQ pN d 0 A 0) (2 ^ d) (0, none) = T at i1 i2 i3
    obtain ⟨c, b⟩ := T
    cases b with
    | none => rw [if_pos (show enc (none : Option Nat) = -1 from rfl)]
    | some s =>
      have hs : s < 2 ^ d := i1 s rfl
      rw [show enc (some s) = nI s from rfl, if_neg (fun e => (nI_ne1 (k := s) (by omega)).mp e), bits16 (by omega), Option.bind_some]) (2 ^ d - 1) 1 mz_N (Nat.le_refl _) (by omega) (N_lt (by omega))
  rw [e1] at key
  exact key
theorem p_op24 : op_24 Inv := by
  intro n D x1 x2 h
  obtain ⟨m, d, gs, ins, t⟩ := iR.t h
  have hd := t.hd
  have F1 : fX12_isFrom x1.toInt64 1 9999 = if x1 < 1 ∨ 9999 < x1 then 0 else 1 := rng rfl rfl x1
  by_cases hx : x1 < 1 ∨ 9999 < x1
  · refine q_look h (r := -1) (v := 1) ?_ (fun E he => by unfold fX12_second; rw [F1, if_pos hx, if_pos rfl])
    unfold fX11_second
    by_cases h1 : x1 < 1
    · rw [if_pos h1]
    · rw [if_neg h1, if_pos (by rcases hx with h | h; exact absurd h h1; exact h)]
  · have k1 : ¬ x1 < 1 := fun e => hx (Or.inl e)
    have k2 : ¬ 9999 < x1 := fun e => hx (Or.inr e)
    by_cases k3 : x2 < 0
    · exact q_look h (r := -1) (v := 1) (by unfold fX11_second; rw [if_neg k1, if_neg k2, if_pos k3]) (fun E he => by unfold fX12_second; rw [F1, if_neg hx, if_neg one_ne, if_pos k3])
    · by_cases k4 : x2 ≤ 2
      · have a1 := i_le.mp (Int32.not_lt.mp k1)
        have a2 := i_le.mp (Int32.not_lt.mp k2)
        have e1 : (1 : Int32).toInt = 1 := rfl
        have e2 : (9999 : Int32).toInt = 9999 := rfl
        obtain ⟨A, hA, rfl⟩ := nJ_of (i_le.mpr (by have : (0 : Int32).toInt = 0 := rfl; omega) : 0 ≤ x1)
        rw [nI_toInt hA] at a1 a2
        obtain ⟨pN, hp⟩ : ∃ pN : Nat → Nat, ∀ j, j < d → D.1 1 110 j = nI (pN j) ∧ 1 ≤ pN j ∧ pN j ≤ 999 := by
          refine ⟨fun j => (D.1 1 110 j).toNatClampNeg, fun j hj => ?_⟩
          have b := (t.price j hj).2
          unfold bd at b
          obtain ⟨p, hp, e⟩ := nJ_of (i_le.mpr (by have : (0 : Int32).toInt = 0 := rfl; omega) : 0 ≤ D.1 1 110 j)
          rw [e, nI_toInt hp] at b
          show D.1 1 110 j = nI (D.1 1 110 j).toNatClampNeg ∧ 1 ≤ (D.1 1 110 j).toNatClampNeg ∧ (D.1 1 110 j).toNatClampNeg ≤ 999
          rw [e, nI_cl hp]
          exact ⟨rfl, by omega, by omega⟩
        obtain ⟨f, ec, ok⟩ := lkC (g := 1) (D := D) (pN := pN) hd t.dish_c hp (A := A) (by omega) (by omega)
        have em : ∀ E, eM D E → _ := fun E he => secM (t.m he) hp (A := A) (by omega) (by omega) x2
        have cb := (rngQ_in (QQ pN d 0 A 0) (2 ^ d)).2.2
        have h65 := p2_16 hd
        have M0 : ∀ E, fX12_second (nI A) x2 E = fX12_second_35 mz_N (nI A) x2 0 (-1) 1 E := fun E => by unfold fX12_second; rw [F1, if_neg hx, if_neg one_ne, if_neg k3, if_pos k4]
        generalize rngQ (QQ pN d 0 A 0) (2 ^ d) (0, none) = T at ec ok em cb
        have C0 : fX11_second (nI A) x2 D = (if nI T.1 = 0 then (some ((-1 : Int32), (mz_wi (msS 1 (wr D 1 112 f) T) 0 0 13 (6 : Int32)))) else (if x2 = 0 then (some (fwB T.2, (mz_wi (msS 1 (wr D 1 112 f) T) 0 0 13 (0 : Int32)))) else (if x2 = (1 : Int32) then (some (nI T.1, (mz_wi (msS 1 (wr D 1 112 f) T) 0 0 13 (0 : Int32)))) else (some (lsB T.2, (mz_wi (msS 1 (wr D 1 112 f) T) 0 0 13 (0 : Int32))))))) := by
          unfold fX11_second
          rw [if_neg k1, if_neg k2, if_neg k3, if_pos k4, ec, Option.bind_some, msS_4, msS_5, msS_6]
        have sc : sC D (msS 1 (wr D 1 112 f) T) := fun a o j hn => by
          have q1 : ¬ o = 112 := fun e => hn (by unfold sCq; omega)
          have q2 : ¬ (o = 109 ∧ 4 ≤ j) := fun e => hn (by unfold sCq; omega)
          exact ⟨by rw [msS_n (by omega), wr_n (by omega)], rfl⟩
        obtain ⟨c, b⟩ := T
        cases b with
        | none =>
          have c0 : c = 0 := ok.1.mpr rfl
          subst c0
          exact q_see h (r := -1) (v := 6) sc (by rw [C0, if_pos (by decide)]) (fun E he => by rw [M0, em E he])
        | some s =>
          have c0 : c ≠ 0 := fun e => by have := ok.1.mp e; cases this
          have cz : ¬ nI c = 0 := by
            have cb : c ≤ 2 ^ d := cb
            rw [ol_eqi (c := 0) (by omega) (by omega)]
            exact c0
          by_cases e0 : x2 = 0
          · exact q_see h (r := bc s) (v := 0) sc (by rw [C0, if_neg cz, if_pos e0]; rfl) (fun E he => by rw [M0, em E he]; dsimp only; rw [if_pos e0])
          · by_cases e1 : x2 = 1
            · exact q_see h (r := nI c) (v := 0) sc (by rw [C0, if_neg cz, if_neg e0, if_pos e1]) (fun E he => by rw [M0, em E he]; dsimp only; rw [if_neg e0, if_pos e1])
            · exact q_see h (r := nI s) (v := 0) sc (by rw [C0, if_neg cz, if_neg e0, if_neg e1]; rfl) (fun E he => by rw [M0, em E he]; dsimp only; rw [if_neg e0, if_neg e1])
      · exact q_look h (r := -1) (v := 1) (by unfold fX11_second; rw [if_neg k1, if_neg k2, if_neg k3, if_neg k4]) (fun E he => by unfold fX12_second; rw [F1, if_neg hx, if_neg one_ne, if_neg k3, if_neg k4])
