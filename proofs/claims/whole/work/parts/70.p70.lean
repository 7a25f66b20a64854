/-! ===== gifts that grow ===== -/
theorem n_sub {a b : Nat} (h : b ≤ a) : nI a - nI b = nI (a - b) := by
  have e : nI a = nI (a - b) + nI b := by rw [nI_add, show a - b + b = a by omega]
  rw [e]
  grind
theorem n_div {a b : Nat} (ha : a < 2147483648) (hb : b < 2147483648) : nI a / nI b = nI (a / b) := by
  have hq : a / b ≤ a := Nat.div_le_self _ _
  rw [i_eq, div_t hb, nI_toInt ha, nI_toInt (by omega), Int.tdiv_eq_ediv_of_nonneg (by omega)]
  exact (Int.natCast_ediv a b).symm
theorem par {k : Nat} (hk : k < 2147483648) : (nI k - nI k / (2 : Int32) * (2 : Int32) = 0) ↔ k % 2 = 0 := by
  have e : nI k - nI k / (2 : Int32) * (2 : Int32) = nI (k - k / 2 * 2) := by
    rw [show (2 : Int32) = nI 2 from rfl, n_div hk (by omega), nI_mul, n_sub (by omega)]
  rw [e, ol_eqi (c := 0) (by omega) (by omega)]
  omega
def nxG (b a : Nat) : Nat := a + a * b / 100 + 1
def gfG (b a : Nat) : Nat → Nat
  | 0 => a
  | k + 1 => nxG b (gfG b a k)
theorem nxG_gt (b a : Nat) : a < nxG b a := by unfold nxG; omega
theorem gfG_ge (b a : Nat) : ∀ k, a + k ≤ gfG b a k := by
  intro k
  induction k with
  | zero => exact Nat.le_refl _
  | succ k ih => have := nxG_gt b (gfG b a k); show _ ≤ nxG b (gfG b a k); omega
theorem gfG_mono (b a : Nat) (i : Nat) : ∀ d, gfG b a i ≤ gfG b a (i + d) := by
  intro d
  induction d with
  | zero => exact Nat.le_refl _
  | succ d ih => have := nxG_gt b (gfG b a (i + d)); show _ ≤ nxG b (gfG b a (i + d)); omega
theorem nx_c {b a : Nat} (hb : b ≤ 100) (ha : a ≤ 999999) : (nI a + (nI a * nI b) / (100 : Int32)) + (1 : Int32) = nI (nxG b a) := by
  have : a * b ≤ 999999 * 100 := Nat.mul_le_mul ha hb
  rw [nI_mul, show (100 : Int32) = nI 100 from rfl, n_div (by omega) (by omega), nI_add, a1r]
  rfl
theorem nx_m {b a : Nat} (hb : b ≤ 100) (ha : a ≤ 999999) : (nI a + (((nI a).toInt64 * (nI b).toInt64) / (100 : Int64)).toInt32) + (1 : Int32) = nI (nxG b a) := by
  have h1 : a * b ≤ 999999 * 100 := Nat.mul_le_mul ha hb
  have e1 : (nI a).toInt64 * (nI b).toInt64 = nL (a * b) := by rw [tl_nI (by omega), tl_nI (by omega), nL_mul]
  have e2 : (nL (a * b) / (100 : Int64)).toInt = ((a * b / 100 : Nat) : Int) := by
    rw [div64 (by rw [nL_toInt (by omega)]; omega) (by decide), nL_toInt (by omega)]
    exact (Int.natCast_ediv (a * b) 100).symm
  have e3 : (nL (a * b) / (100 : Int64)).toInt32 = nI (a * b / 100) := by
    rw [i_eq, Int64.toInt_toInt32, e2, nI_toInt (by omega)]
    exact Int.bmod_eq_of_le (by omega) (by omega)
  rw [e1, e3, nI_add, a1r]
  rfl
theorem gft_or (x y : Int32) : (fX11_isGiftRow x y = 0 ∧ fX12_areGifts x y = 0) ∨ ∃ a b, 1 ≤ a ∧ a ≤ 999 ∧ b ≤ 100 ∧ x = nI a ∧ y = nI b ∧ fX11_isGiftRow x y = 1 ∧ fX12_areGifts x y = 1 := by
  have F1 : fX12_isFrom x.toInt64 1 999 = if x < 1 ∨ 999 < x then 0 else 1 := rng rfl rfl x
  have F2 : fX12_isFrom y.toInt64 0 100 = if y < 0 ∨ 100 < y then 0 else 1 := rng rfl rfl y
  unfold fX11_isGiftRow fX12_areGifts
  rw [F1, F2]
  by_cases h1 : x < 1
  · exact Or.inl ⟨if_pos h1, by rw [if_pos (Or.inl h1), if_pos rfl]⟩
  · by_cases h2 : 999 < x
    · exact Or.inl ⟨by rw [if_neg h1, if_pos h2], by rw [if_pos (Or.inr h2), if_pos rfl]⟩
    · have q1 : ¬ (x < 1 ∨ 999 < x) := fun e => by rcases e with e | e; exact h1 e; exact h2 e
      by_cases h3 : y < 0
      · exact Or.inl ⟨by rw [if_neg h1, if_neg h2, if_pos h3], by rw [if_neg q1, if_neg one_ne, if_pos (Or.inl h3), if_pos rfl]⟩
      · by_cases h4 : 100 < y
        · exact Or.inl ⟨by rw [if_neg h1, if_neg h2, if_neg h3, if_pos h4], by rw [if_neg q1, if_neg one_ne, if_pos (Or.inr h4), if_pos rfl]⟩
        · have q2 : ¬ (y < 0 ∨ 100 < y) := fun e => by rcases e with e | e; exact h3 e; exact h4 e
          right
          have a1 := i_le.mp (Int32.not_lt.mp h1)
          have a2 := i_le.mp (Int32.not_lt.mp h2)
          have a3 := i_le.mp (Int32.not_lt.mp h3)
          have a4 := i_le.mp (Int32.not_lt.mp h4)
          have e0 : (0 : Int32).toInt = 0 := rfl
          have e1 : (1 : Int32).toInt = 1 := rfl
          have e2 : (999 : Int32).toInt = 999 := rfl
          have e3 : (100 : Int32).toInt = 100 := rfl
          obtain ⟨a, ha, rfl⟩ := nJ_of (i_le.mpr (by omega) : 0 ≤ x)
          obtain ⟨b, hb, rfl⟩ := nJ_of (i_le.mpr (by omega) : 0 ≤ y)
          rw [nI_toInt ha] at a1 a2
          rw [nI_toInt hb] at a3 a4
          exact ⟨a, b, by omega, by omega, by omega, rfl, rfl, by rw [if_neg h1, if_neg h2, if_neg h3, if_neg h4], by rw [if_neg q1, if_neg one_ne, if_neg q2, if_neg one_ne]⟩
theorem p_op52 : op_52 Inv := by
  intro n D x1 x2 x3 h
  rcases gft_or x1 x2 with ⟨s1, s2⟩ | ⟨a, b, ha1, ha, hb, rfl, rfl, s1, s2⟩
  · exact q_look h (r := -1) (v := 1) (by unfold fX11_giftAt; rw [if_pos s1]) (fun E he => by unfold fX12_giftAt; rw [if_pos s2])
  · have k1 : ¬ fX11_isGiftRow (nI a) (nI b) = 0 := by rw [s1]; exact one_ne
    have k2 : ¬ fX12_areGifts (nI a) (nI b) = 0 := by rw [s2]; exact one_ne
    have F1 : fX12_isFrom x3.toInt64 0 60 = if x3 < 0 ∨ 60 < x3 then 0 else 1 := rng rfl rfl x3
    by_cases hx : x3 < 0 ∨ 60 < x3
    · refine q_look h (r := -1) (v := 1) ?_ (fun E he => by unfold fX12_giftAt; rw [if_neg k2, F1, if_pos hx, if_pos rfl])
      unfold fX11_giftAt
      by_cases h1 : x3 < 0
      · rw [if_neg k1, if_pos h1]
      · rw [if_neg k1, if_neg h1, if_neg (by rcases hx with h | h; exact absurd h h1; exact Int32.not_le.mpr h)]
    · have h1 : ¬ x3 < 0 := fun e => hx (Or.inl e)
      have h2 : x3 ≤ 60 := Int32.not_lt.mp (fun e => hx (Or.inr e))
      obtain ⟨k, hk, rfl⟩ := nJ_of (Int32.not_lt.mp h1)
      have hk60 : k ≤ 60 := (ol_ler (c := 60) (by omega) hk).mp h2
      have C0 : fX11_giftAt (nI a) (nI b) (nI k) D = fX11_giftAt_30 mz_N (nI b) (nI k) (nI a) 0 D := by unfold fX11_giftAt; rw [if_neg k1, if_neg h1, if_pos h2]
      have M0 : ∀ E, fX12_giftAt (nI a) (nI b) (nI k) E = fX12_giftAt_33 mz_N (nI b) (nI k) (nI a) 0 E := fun E => by unfold fX12_giftAt; rw [if_neg k2, F1, if_neg hx, if_neg one_ne]
      have ge := gfG_ge b a
      by_cases ok : ∀ i, i < k + 1 → gfG b a i ≤ 999999
      · refine q_look h (r := nI (gfG b a k)) (v := 0) ?_ (fun E he => ?_)
        · rw [C0]
          exact lpD (fun n s i => fX11_giftAt_30 n (nI b) (nI k) s i D) (fun i => nI (gfG b a i)) k (fun n i hi => by
            show fX11_giftAt_30 (n + 1) (nI b) (nI k) (nI (gfG b a i)) (nI i) D = fX11_giftAt_30 n (nI b) (nI k) (nI (gfG b a (i + 1))) (nI (i + 1)) D
            have o1 := ok i (by omega)
            have o2 := ok (i + 1) (by omega)
            rw [fX11_giftAt_30]
            dsimp only
            rw [if_neg (by rw [nJ_le (by omega) (by omega)]; omega), nx_c hb o1, a1r, if_pos (by rw [ol_ler (c := 999999) (by omega) (by have : nxG b (gfG b a i) = gfG b a (i + 1) := rfl; omega)]; exact o2)]
            rfl) (fun n => by
            show fX11_giftAt_30 (n + 1) (nI b) (nI k) (nI (gfG b a k)) (nI k) D = _
            rw [fX11_giftAt_30]
            dsimp only
            rw [if_pos (Int32.le_refl _)]) k 0 mz_N (by omega) (N_lt (by omega))
        · rw [M0]
          exact lpD (fun n s i => fX12_giftAt_33 n (nI b) (nI k) s i E) (fun i => nI (gfG b a i)) k (fun n i hi => by
            show fX12_giftAt_33 (n + 1) (nI b) (nI k) (nI (gfG b a i)) (nI i) E = fX12_giftAt_33 n (nI b) (nI k) (nI (gfG b a (i + 1))) (nI (i + 1)) E
            have o1 := ok i (by omega)
            rw [fX12_giftAt_33]
            dsimp only
            rw [if_neg (by rw [nJ_le (by omega) (by omega)]; omega), if_neg (by rw [ol_lt (c := 999999) (by omega) (by omega)]; omega), nx_m hb o1, a1r]
            rfl) (fun n => by
            show fX12_giftAt_33 (n + 1) (nI b) (nI k) (nI (gfG b a k)) (nI k) E = _
            have o1 := ok k (by omega)
            rw [fX12_giftAt_33]
            unfold fX12_giftAt_61
            dsimp only
            rw [if_pos (Int32.le_refl _), if_pos (by rw [ol_ler (c := 999999) (by omega) (by omega)]; exact o1)]) k 0 mz_N (by omega) (N_lt (by omega))
      · obtain ⟨K, hK, hbad, hlt⟩ := least ok
        have hK0 : 0 < K := by
          by_cases e : K = 0
          · rw [e] at hbad; exact absurd (show a ≤ 999999 by omega) hbad
          · omega
        obtain ⟨J, rfl⟩ : ∃ J, K = J + 1 := ⟨K - 1, by omega⟩
        have oJ := hlt J (by omega)
        have big : nxG b (gfG b a J) ≤ 999999 + 999999 + 1 := by
          unfold nxG
          have : gfG b a J * b / 100 ≤ 999999 * 100 / 100 := Nat.div_le_div_right (Nat.mul_le_mul oJ hb)
          omega
        have gt : 999999 < nxG b (gfG b a J) := Nat.not_le.mp hbad
        refine q_look h (r := -1) (v := 7) ?_ (fun E he => ?_)
        · rw [C0]
          exact lpD (fun n s i => fX11_giftAt_30 n (nI b) (nI k) s i D) (fun i => nI (gfG b a i)) J (fun n i hi => by
            show fX11_giftAt_30 (n + 1) (nI b) (nI k) (nI (gfG b a i)) (nI i) D = fX11_giftAt_30 n (nI b) (nI k) (nI (gfG b a (i + 1))) (nI (i + 1)) D
            have o1 := hlt i (by omega)
            have o2 := hlt (i + 1) (by omega)
            rw [fX11_giftAt_30]
            dsimp only
            rw [if_neg (by rw [nJ_le (by omega) (by omega)]; omega), nx_c hb o1, a1r, if_pos (by rw [ol_ler (c := 999999) (by omega) (by have : nxG b (gfG b a i) = gfG b a (i + 1) := rfl; omega)]; exact o2)]
            rfl) (fun n => by
            show fX11_giftAt_30 (n + 1) (nI b) (nI k) (nI (gfG b a J)) (nI J) D = _
            rw [fX11_giftAt_30]
            dsimp only
            rw [if_neg (by rw [nJ_le (by omega) (by omega)]; omega), nx_c hb oJ, if_neg (by rw [ol_ler (c := 999999) (by omega) (by omega)]; omega)]) J 0 mz_N (by omega) (N_lt (by omega))
        · rw [M0]
          exact lpD (fun n s i => fX12_giftAt_33 n (nI b) (nI k) s i E) (fun i => nI (gfG b a i)) (J + 1) (fun n i hi => by
            show fX12_giftAt_33 (n + 1) (nI b) (nI k) (nI (gfG b a i)) (nI i) E = fX12_giftAt_33 n (nI b) (nI k) (nI (gfG b a (i + 1))) (nI (i + 1)) E
            have o1 := hlt i (by omega)
            rw [fX12_giftAt_33]
            dsimp only
            rw [if_neg (by rw [nJ_le (by omega) (by omega)]; omega), if_neg (by rw [ol_lt (c := 999999) (by omega) (by omega)]; omega), nx_m hb o1, a1r]
            rfl) (fun n => by
            show fX12_giftAt_33 (n + 1) (nI b) (nI k) (nI (nxG b (gfG b a J))) (nI (J + 1)) E = _
            rw [fX12_giftAt_33]
            unfold fX12_giftAt_61
            dsimp only
            have nle : ¬ nI (nxG b (gfG b a J)) ≤ 999999 := by rw [ol_ler (c := 999999) (by omega) (by omega)]; omega
            rw [if_pos (show (999999 : Int32) < nI (nxG b (gfG b a J)) by rw [ol_lt (c := 999999) (by omega) (by omega)]; exact gt), if_neg nle]
            split <;> rfl) (J + 1) 0 mz_N (by omega) (N_lt (by omega))
/-! where it ends -/
def gvS (b a k : Nat) : Int32 := foldN (fun i s => s + nI (gfG b a i)) 0 k 0
theorem gvS_s (b a k : Nat) : gvS b a (k + 1) = gvS b a k + nI (gfG b a k) := by
  unfold gvS
  rw [foldN_end, Nat.zero_add]
theorem endB {n : Nat} {D : mz_D} {m d gs ins : Nat} (t : tR n 1 0 0 D D m d gs ins) {p q a b : Nat} (hp : p < m) (hq : q < m) (ha1 : 1 ≤ a) (ha : a ≤ 999) (hb : b ≤ 100) : ∃ K, K < 1000 ∧ (∀ i, i < K → gfG b a i ≤ 999) ∧ fX11_giftsUntilEnd (nI p) (nI q) (nI a) (nI b) D = some (nI K) ∧ ∀ E, eM D E → fX12_endOf (nI p) (nI q) (nI a) (nI b) E = some (nI K, mz_wi E 0 200 27 (gvS b a K)) := by
  have hm := t.hm
  have mp := (t.means p hp).2
  have mq := (t.means q hq).2
  obtain ⟨M, hM⟩ : ∃ M : Nat → Int32, M = fun k => if k % 2 = 0 then D.1 1 106 p else D.1 1 106 q := ⟨_, rfl⟩
  have Me : ∀ k, k % 2 = 0 → M k = D.1 1 106 p := fun k e => by rw [hM]; exact if_pos e
  have Mo : ∀ k, ¬ k % 2 = 0 → M k = D.1 1 106 q := fun k e => by rw [hM]; exact if_neg e
  have Mb : ∀ k, (M k).toInt ≤ 999 := fun k => by
    rw [hM]
    unfold bd at mp mq
    show (if k % 2 = 0 then D.1 1 106 p else D.1 1 106 q).toInt ≤ 999
    split <;> omega
  have no : ¬ ∀ k, k < 1000 → ¬ M k < nI (gfG b a k) := by
    intro all
    have ge := gfG_ge b a 999
    have h2 := all 999 (by omega)
    -- the first that is above 999
    have ok : ∀ k, k < 1000 → gfG b a k ≤ 999 := by
      intro k
      induction k with
      | zero => intro _; exact ha
      | succ k ih =>
        intro hk
        have i1 := ih (by omega)
        have i2 := all (k + 1) hk
        have big : nxG b (gfG b a k) ≤ 999 + 999 + 1 := by
          unfold nxG
          have : gfG b a k * b / 100 ≤ 999 * 100 / 100 := Nat.div_le_div_right (Nat.mul_le_mul i1 hb)
          omega
        rw [i_lt, nI_toInt (by have : gfG b a (k + 1) = nxG b (gfG b a k) := rfl; omega)] at i2
        have := Mb (k + 1)
        omega
    have := ok 999 (by omega)
    omega
  obtain ⟨K, hK, hbad, hlt⟩ := least no
  have hend : M K < nI (gfG b a K) := Classical.not_not.mp hbad
  have sm : ∀ k, k ≤ K → gfG b a k ≤ 1999 ∧ (k < K → gfG b a k ≤ 999) := by
    intro k
    induction k with
    | zero =>
      intro _
      exact ⟨by show a ≤ 1999; omega, fun _ => ha⟩
    | succ k ih =>
      intro hk
      have i1 := (ih (by omega)).2 (by omega)
      have big : nxG b (gfG b a k) ≤ 999 + 999 + 1 := by
        unfold nxG
        have : gfG b a k * b / 100 ≤ 999 * 100 / 100 := Nat.div_le_div_right (Nat.mul_le_mul i1 hb)
        omega
      have e : gfG b a (k + 1) = nxG b (gfG b a k) := rfl
      refine ⟨by omega, fun h3 => ?_⟩
      have i2 := hlt (k + 1) h3
      rw [i_lt, nI_toInt (by omega)] at i2
      have := Mb (k + 1)
      omega
  refine ⟨K, hK, fun i hi => (sm i (by omega)).2 hi, ?_, fun E he => ?_⟩
  · unfold fX11_giftsUntilEnd
    have st : ∀ n k, k ≤ K → fX11_giftsUntilEnd_18 D (n + 1) (nI p) (nI q) (nI b) (nI (gfG b a k)) (nI k) = if M k < nI (gfG b a k) then some (nI k) else fX11_giftsUntilEnd_18 D n (nI p) (nI q) (nI b) (nI (gfG b a k) + nI (gfG b a k) * nI b / 100 + 1) (nI (k + 1)) := by
      intro n k hk
      rw [fX11_giftsUntilEnd_18]
      unfold fX11_giftsUntilEnd_42
      simp (disch := omega) only [nI_ix, gd_tt, nI_cl, a1r]
      rw [if_neg (by rw [ol_le (c := 1000) (by omega) (by omega)]; omega)]
      by_cases e : k % 2 = 0
      · rw [if_pos ((par (by omega)).mpr e), Me k e]
      · rw [if_neg (fun q => e ((par (by omega)).mp q)), Mo k e]
    exact lpD (fun n s k => fX11_giftsUntilEnd_18 D n (nI p) (nI q) (nI b) s k) (fun k => nI (gfG b a k)) K (fun n k hk => by
      show fX11_giftsUntilEnd_18 D (n + 1) (nI p) (nI q) (nI b) (nI (gfG b a k)) (nI k) = fX11_giftsUntilEnd_18 D n (nI p) (nI q) (nI b) (nI (gfG b a (k + 1))) (nI (k + 1))
      have s1 := (sm k (by omega)).2 hk
      rw [st n k (by omega), if_neg (hlt k hk), nx_c hb (by omega)]
      rfl) (fun n => by
      show fX11_giftsUntilEnd_18 D (n + 1) (nI p) (nI q) (nI b) (nI (gfG b a K)) (nI K) = _
      rw [st n K (Nat.le_refl _), if_pos hend]) K 0 mz_N (by omega) (N_lt (by omega))
  · have t2 := t.m he
    unfold fX12_endOf
    have st : ∀ n k x, k ≤ K → fX12_endOf_11 (n + 1) (nI p) (nI q) (nI b) (nI (gfG b a k)) (nI k) (mz_wi E 0 200 27 x) = if M k < nI (gfG b a k) then some (nI k, mz_wi E 0 200 27 x) else fX12_endOf_11 n (nI p) (nI q) (nI b) (nI (gfG b a k) + (((nI (gfG b a k)).toInt64 * (nI b).toInt64) / (100 : Int64)).toInt32 + 1) (nI (k + 1)) (mz_wi (mz_wi E 0 200 27 x) 0 200 27 (x + nI (gfG b a k))) := by
      intro n k x hk
      rw [fX12_endOf_11]
      unfold fX12_endOf_29
      simp (disch := omega) only [l8m, a12l, a3r, nI_ix, gd_tt, nI_cl, a1r, wi_s, wi_n, t2.uMeans hp, t2.uMeans hq]
      by_cases e : k % 2 = 0
      · rw [if_pos ((par (by omega)).mpr e), Me k e]
      · rw [if_neg (fun q => e ((par (by omega)).mp q)), Mo k e]
    have ww : ∀ x y : Int32, mz_wi (mz_wi E 0 200 27 x) 0 200 27 y = mz_wi E 0 200 27 y := fun x y => by
      refine mzD_ext (fun a b c => ?_) rfl
      by_cases e : b = 200 ∧ a = 0 ∧ c = 27
      · rw [e.1, e.2.1, e.2.2, wi_s, wi_s]
      · rw [wi_n (by omega), wi_n (by omega), wi_n (by omega)]
    exact lpD (fun n (s : Int32 × Int32) k => fX12_endOf_11 n (nI p) (nI q) (nI b) s.1 k (mz_wi E 0 200 27 s.2)) (fun k => (nI (gfG b a k), gvS b a k)) K (fun n k hk => by
      show fX12_endOf_11 (n + 1) (nI p) (nI q) (nI b) (nI (gfG b a k)) (nI k) (mz_wi E 0 200 27 (gvS b a k)) = fX12_endOf_11 n (nI p) (nI q) (nI b) (nI (gfG b a (k + 1))) (nI (k + 1)) (mz_wi E 0 200 27 (gvS b a (k + 1)))
      have s1 := (sm k (by omega)).2 hk
      rw [st n k _ (by omega), if_neg (hlt k hk), nx_m hb (by omega), ww, gvS_s]
      rfl) (fun n => by
      show fX12_endOf_11 (n + 1) (nI p) (nI q) (nI b) (nI (gfG b a K)) (nI K) (mz_wi E 0 200 27 (gvS b a K)) = _
      rw [st n K _ (Nat.le_refl _), if_pos hend]) K 0 mz_N (by omega) (N_lt (by omega))
theorem sM_27 {E : mz_D} (x : Int32) : sM E (mz_wi E 0 200 27 x) := fun a b c hn => ⟨by rw [wi_1, if_neg (fun e => hn (by unfold sMq; omega))], rfl⟩
theorem p_op53 : op_53 Inv := by
  intro n D x1 x2 x3 x4 h
  refine q_two (x1 := x1) (x2 := x2) (x3 := x3) h (fun e => by unfold fX11_ends; rw [if_pos e]) (fun E e => by unfold fX12_ends; rw [if_pos e]) ?_
  intro m d gs ins p q t hp hq hne e1 e2 c1 c2
  rcases gft_or x3 x4 with ⟨s1, s2⟩ | ⟨a, b, ha1, ha, hb, rfl, rfl, s1, s2⟩
  · exact q_look h (r := -1) (v := 1) (by unfold fX11_ends; rw [if_neg c1, if_pos s1]) (fun E he => by unfold fX12_ends; rw [if_neg (c2 E he), if_pos s2])
  · subst e1 e2
    obtain ⟨K, hK, hs, k1, k2⟩ := endB t hp hq ha1 ha hb
    refine q_pair h (r := nI K) (v := 0) sC.rf ?_ (fun E he => ⟨_, sM_27 (gvS b a K), ?_⟩)
    · unfold fX11_ends
      rw [if_neg c1, if_neg (by rw [s1]; exact one_ne), k1]
      rfl
    · unfold fX12_ends
      rw [if_neg (c2 E he), if_neg (by rw [s2]; exact one_ne), k2 E he]
      rfl
theorem p_op54 : op_54 Inv := by
  intro n D x1 x2 x3 x4 h
  refine q_two (x1 := x1) (x2 := x2) (x3 := x3) h (fun e => by unfold fX11_wasted; rw [if_pos e]) (fun E e => by unfold fX12_wasted; rw [if_pos e]) ?_
  intro m d gs ins p q t hp hq hne e1 e2 c1 c2
  rcases gft_or x3 x4 with ⟨s1, s2⟩ | ⟨a, b, ha1, ha, hb, rfl, rfl, s1, s2⟩
  · exact q_look h (r := -1) (v := 1) (by unfold fX11_wasted; rw [if_neg c1, if_pos s1]) (fun E he => by unfold fX12_wasted; rw [if_neg (c2 E he), if_pos s2])
  · subst e1 e2
    obtain ⟨K, hK, hs, k1, k2⟩ := endB t hp hq ha1 ha hb
    refine q_pair h (r := gvS b a K) (v := 0) sC.rf ?_ (fun E he => ⟨_, sM_27 (gvS b a K), ?_⟩)
    · unfold fX11_wasted
      rw [if_neg c1, if_neg (by rw [s1]; exact one_ne), k1, Option.bind_some]
      exact lpD (fun n (s : Int32 × Int32) k => fX11_wasted_44 n (nI b) (nI K) s.1 s.2 k D) (fun k => (nI (gfG b a k), gvS b a k)) K (fun n k hk => by
        show fX11_wasted_44 (n + 1) (nI b) (nI K) (nI (gfG b a k)) (gvS b a k) (nI k) D = fX11_wasted_44 n (nI b) (nI K) (nI (gfG b a (k + 1))) (gvS b a (k + 1)) (nI (k + 1)) D
        have s := hs k hk
        rw [fX11_wasted_44]
        dsimp only
        rw [if_neg (by rw [nJ_le (by omega) (by omega)]; omega), nx_c hb (by omega), a1r, gvS_s]
        rfl) (fun n => by
        show fX11_wasted_44 (n + 1) (nI b) (nI K) (nI (gfG b a K)) (gvS b a K) (nI K) D = _
        rw [fX11_wasted_44]
        dsimp only
        rw [if_pos (Int32.le_refl _)]) K 0 mz_N (by omega) (N_lt (by omega))
    · unfold fX12_wasted
      rw [if_neg (c2 E he), if_neg (by rw [s2]; exact one_ne), k2 E he, Option.bind_some]
      dsimp only
      rw [wi_s]
