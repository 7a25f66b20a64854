/-! ===== when it is even ===== -/
theorem div_t {a : Int32} {k : Nat} (h2 : k < 2147483648) : (a / nI k).toInt = a.toInt.tdiv k := by
  rw [Int32.toInt_div_of_ne_right _ _ (fun e => (nI_ne1 (k := k) h2).mp e), nI_toInt h2]
theorem rem_t {a : Int32} {k : Nat} (h1 : 1 ≤ k) (h2 : k < 2147483648) : (a - a / nI k * nI k).toInt = a.toInt.tmod k := by
  have e0 : (nI k).toInt = (k : Int) := nI_toInt h2
  have e1 := div_t (a := a) h2
  have b1 := Int.lt_tmod_of_pos a.toInt (b := (k : Int)) (by omega)
  have b2 := Int.tmod_lt_of_pos a.toInt (b := (k : Int)) (by omega)
  have b3 := Int.mul_tdiv_add_tmod a.toInt k
  have l1 := Int32.toInt_lt a
  have l2 := Int32.le_toInt a
  have m0 : a.toInt.tdiv k * k = k * a.toInt.tdiv k := Int.mul_comm _ _
  have hle : (a.toInt.tdiv k * k).natAbs ≤ a.toInt.natAbs := by
    rw [Int.natAbs_mul, Int.natAbs_tdiv, Int.natAbs_natCast]
    exact Nat.div_mul_le_self _ _
  have e2 : (a / nI k * nI k).toInt = a.toInt.tdiv k * k := by
    rw [Int32.toInt_mul, e1, e0]
    exact Int.bmod_eq_of_le (by omega) (by omega)
  have hr : (a.toInt.tmod k).natAbs ≤ a.toInt.natAbs := by
    rw [Int.natAbs_tmod, Int.natAbs_natCast]
    exact Nat.mod_le _ _
  rw [Int32.toInt_sub, e2]
  rw [show a.toInt - a.toInt.tdiv k * k = a.toInt.tmod k by omega]
  exact Int.bmod_eq_of_le (by omega) (by omega)
theorem z_i {a : Int32} : a = 0 ↔ a.toInt = 0 := by rw [i_eq]; rfl
theorem lt0 {a : Int32} : a < 0 ↔ a.toInt < 0 := by rw [i_lt]; rfl
/-- how often one pays, the class's way -/
def sEv (nn H dn : Nat) (b : Int32) : Int32 := if nI nn * nI dn - b < 0 then -1 else if (nI nn * nI dn - b) - (nI nn * nI dn - b) / nI (nn * H) * nI (nn * H) = 0 then (nI nn * nI dn - b) / nI (nn * H) else -1
theorem ev_m {nn H dn : Nat} {b : Int32} (h1 : 1 ≤ nn) (h2 : nn ≤ 99) (h3 : 1 ≤ H) (h4 : H ≤ 6) (h5 : dn ≤ 99) (hb : -5999994 ≤ b.toInt ∧ b.toInt ≤ 5999994) : (if b - b / nI nn * nI nn = 0 then (if ((nI dn - b / nI nn) - (nI dn - b / nI nn) / nI H * nI H) = 0 then (if b / nI nn ≤ nI dn then (nI dn - b / nI nn) / nI H else -1) else -1) else -1) = sEv nn H dn b := by
  have en : nn * H ≤ 99 * 6 := Nat.mul_le_mul h2 h4
  have ed : nn * dn ≤ 99 * 99 := Nat.mul_le_mul h2 h5
  have e1 : (nI nn * nI dn).toInt = ((nn * dn : Nat) : Int) := by rw [nI_mul, nI_toInt (by omega)]
  have el : (nI nn * nI dn - b).toInt = ((nn * dn : Nat) : Int) - b.toInt := by rw [i_sub (by rw [e1]; omega) (by rw [e1]; omega), e1]
  have eq := div_t (a := b) (k := nn) (by omega)
  have er := rem_t (a := b) (k := nn) (by omega) (by omega)
  have eR := rem_t (a := nI nn * nI dn - b) (k := nn * H) (by have : 1 * 1 ≤ nn * H := Nat.mul_le_mul h1 h3; omega) (by omega)
  have eQ := div_t (a := nI nn * nI dn - b) (k := nn * H) (by omega)
  have md := Int.mul_tdiv_add_tmod b.toInt nn
  have qb : (b.toInt.tdiv nn).natAbs ≤ b.toInt.natAbs := by
    rw [Int.natAbs_tdiv, Int.natAbs_natCast]
    exact Nat.div_le_self _ _
  have ex : (nI dn - b / nI nn).toInt = (dn : Int) - b.toInt.tdiv nn := by
    rw [i_sub (by rw [nI_toInt (by omega), eq]; omega) (by rw [nI_toInt (by omega), eq]; omega), nI_toInt (by omega), eq]
  have eS := rem_t (a := nI dn - b / nI nn) (k := H) (by omega) (by omega)
  have eT := div_t (a := nI dn - b / nI nn) (k := H) (by omega)
  unfold sEv
  by_cases hd : b.toInt.tmod nn = 0
  · rw [if_pos (z_i.mpr (by rw [er]; exact hd))]
    obtain ⟨q, hq⟩ : ∃ q, q = b.toInt.tdiv nn := ⟨_, rfl⟩
    rw [← hq] at md ex eq qb
    have bq : b.toInt = nn * q := by omega
    have lk : ((nn * dn : Nat) : Int) - b.toInt = nn * ((dn : Int) - q) := by rw [bq, Int.natCast_mul, ← Int.mul_sub]
    by_cases hlt : (dn : Int) < q
    · have neg : nI nn * nI dn - b < 0 := lt0.mpr (by
        rw [el, lk]
        exact Int.mul_neg_of_pos_of_neg (by omega) (by omega))
      rw [if_pos neg]
      have : ¬ b / nI nn ≤ nI dn := by rw [i_le, eq, nI_toInt (by omega)]; omega
      rw [if_neg this]
      split <;> rfl
    · have nn0 : 0 ≤ (nn : Int) * ((dn : Int) - q) := Int.mul_nonneg (by omega) (by omega)
      have neg : ¬ nI nn * nI dn - b < 0 := fun e => by have := lt0.mp e; rw [el, lk] at this; omega
      rw [if_neg neg]
      have le : b / nI nn ≤ nI dn := by rw [i_le, eq, nI_toInt (by omega)]; omega
      rw [if_pos le]
      rw [ex] at eS eT
      rw [el, lk] at eR eQ
      have c1 : ((nn : Int) * ((dn : Int) - q)).tmod ((nn * H : Nat) : Int) = nn * ((dn : Int) - q).tmod H := by
        rw [Int.natCast_mul, Int.mul_tmod_mul_of_pos _ _ (by omega)]
      have c2 : ((nn : Int) * ((dn : Int) - q)).tdiv ((nn * H : Nat) : Int) = ((dn : Int) - q).tdiv H := by
        rw [Int.natCast_mul, Int.mul_tdiv_mul_of_pos _ _ (by omega)]
      by_cases hz : ((dn : Int) - q).tmod H = 0
      · rw [if_pos (z_i.mpr (by rw [eS]; exact hz)), if_pos (z_i.mpr (by rw [eR, c1, hz, Int.mul_zero]))]
        exact i_eq.mpr (by rw [eT, eQ, c2])
      · rw [if_neg (fun e => hz (by have := z_i.mp e; rw [eS] at this; exact this)), if_neg (fun e => by
          have := z_i.mp e
          rw [eR, c1] at this
          rcases Int.mul_eq_zero.mp this with h | h
          · omega
          · exact hz h)]
  · rw [if_neg (fun e => hd (by have := z_i.mp e; rw [er] at this; exact this))]
    by_cases neg : nI nn * nI dn - b < 0
    · rw [if_pos neg]
    · rw [if_neg neg, if_neg (fun e => ?_)]
      have := z_i.mp e
      rw [eR] at this
      have dv : ((nn * H : Nat) : Int) ∣ (nI nn * nI dn - b).toInt := Int.dvd_of_tmod_eq_zero this
      have dn' : (nn : Int) ∣ (nI nn * nI dn - b).toInt := Int.dvd_trans ⟨(H : Int), by rw [Int.natCast_mul]⟩ dv
      rw [el] at dn'
      have d2 : (nn : Int) ∣ ((nn * dn : Nat) : Int) := ⟨(dn : Int), by rw [Int.natCast_mul]⟩
      have d3 : (nn : Int) ∣ b.toInt := by
        have := Int.dvd_sub d2 dn'
        rw [show ((nn * dn : Nat) : Int) - (((nn * dn : Nat) : Int) - b.toInt) = b.toInt by omega] at this
        exact this
      exact hd (Int.tmod_eq_zero_of_dvd d3)
theorem ev_b {nn H dn : Nat} {b : Int32} (h1 : 1 ≤ nn) (h2 : nn ≤ 99) (h3 : 1 ≤ H) (h4 : H ≤ 6) (h5 : dn ≤ 99) (hb : -5999994 ≤ b.toInt ∧ b.toInt ≤ 5999994) : sEv nn H dn b = -1 ∨ (0 ≤ (sEv nn H dn b).toInt ∧ (sEv nn H dn b).toInt ≤ 6009795) := by
  have en : nn * H ≤ 99 * 6 := Nat.mul_le_mul h2 h4
  have ed : nn * dn ≤ 99 * 99 := Nat.mul_le_mul h2 h5
  have e1 : (nI nn * nI dn).toInt = ((nn * dn : Nat) : Int) := by rw [nI_mul, nI_toInt (by omega)]
  have el : (nI nn * nI dn - b).toInt = ((nn * dn : Nat) : Int) - b.toInt := by rw [i_sub (by rw [e1]; omega) (by rw [e1]; omega), e1]
  have eQ := div_t (a := nI nn * nI dn - b) (k := nn * H) (by omega)
  unfold sEv
  by_cases neg : nI nn * nI dn - b < 0
  · rw [if_pos neg]; exact Or.inl rfl
  · rw [if_neg neg]
    have h0 : 0 ≤ (nI nn * nI dn - b).toInt := by have := mt lt0.mpr neg; omega
    split
    · right
      rw [eQ, Int.tdiv_eq_ediv_of_nonneg h0]
      have := Int.ediv_nonneg h0 (show (0 : Int) ≤ ((nn * H : Nat) : Int) by omega)
      have := Int.ediv_le_self ((nn * H : Nat) : Int) h0
      omega
    · exact Or.inl rfl
def sEvS (g : Nat) (D : mz_D) (nn m Hs dn k : Nat) : Int32 := foldN (fun j a => a + if Hs.testBit j then sEv nn (pcS Hs) dn (sBal g D j) else 0) 0 k 0
theorem sEvS_s (g : Nat) (D : mz_D) (nn m Hs dn k : Nat) : sEvS g D nn m Hs dn (k + 1) = sEvS g D nn m Hs dn k + (if Hs.testBit k then sEv nn (pcS Hs) dn (sBal g D k) else 0) := by
  unfold sEvS
  rw [foldN_end, Nat.zero_add]
theorem tR.dinC {n g : Nat} {Dc Dm : mz_D} {m d gs ins : Nat} (h : tR n g 0 0 Dc Dm m d gs ins) {nn dn p : Nat} (h1 : 1 ≤ nn) (h2 : nn ≤ 99) (h5 : dn ≤ 99) (hp : p < m) (hb : (hdS m gs).testBit p = true) : fX6_dinnersBy g (nI nn) (nI dn) (nI p) Dc = some (sEv nn (pcS (hdS m gs)) dn (sBal g Dc p)) := by
  have hm := h.hm
  have hH := hd_64 hm h.hgs
  have h3 := (part_a (hdS m gs) hH p (by omega)).2.2 hb
  have h4 := pc_le (hdS m gs)
  have e1 : 1 * 1 ≤ nn * pcS (hdS m gs) := Nat.mul_le_mul h1 h3
  have e2 : nn * pcS (hdS m gs) ≤ 99 * 6 := Nat.mul_le_mul h2 h4
  unfold fX6_dinnersBy sEv
  rw [h.heads, bc_e hH, nI_mul, tR.bal (by omega), Option.bind_some, if_neg (by rw [ol_ler (c := 0) (by omega) (by omega)]; omega), nz_t (by omega) (by omega), gd_tt]
  split
  · rfl
  · split <;> rfl
theorem tR.dinM {n g : Nat} {Dc Dm : mz_D} {m d gs ins : Nat} (h : tR n g 0 0 Dc Dm m d gs ins) {nn dn p : Nat} (h1 : 1 ≤ nn) (h2 : nn ≤ 99) (h5 : dn ≤ 99) (hp : p < m) (hb : (hdS m gs).testBit p = true) : fX12_evenPays (nI nn) (nI dn) (nI p) Dm = some (sEv nn (pcS (hdS m gs)) dn (sBal g Dc p)) := by
  have hm := h.hm
  have hH := hd_64 hm h.hgs
  have h3 := (part_a (hdS m gs) hH p (by omega)).2.2 hb
  have h4 := pc_le (hdS m gs)
  rw [← ev_m h1 h2 h3 h4 h5 (h.balB (by omega))]
  unfold fX12_evenPays
  rw [h.headsM, bits_e hH, Option.bind_some, h.balM (by omega), Option.bind_some, nz_t h1 (by omega), gd_tt, nz_t h3 (by omega), gd_tt]
  split
  · split
    · split <;> rfl
    · rfl
  · rfl
/-- whether so many dinners make it even -/
def evP (g : Nat) (D : mz_D) (nn m Hs dn : Nat) : Prop := (∀ k, k < m → Hs.testBit k = true → sEv nn (pcS Hs) dn (sBal g D k) ≠ -1) ∧ sEvS g D nn m Hs dn m = nI dn
theorem tR.evSb {n g : Nat} {Dc Dm : mz_D} {m d gs ins : Nat} (h : tR n g 0 0 Dc Dm m d gs ins) {nn dn k : Nat} (h1 : 1 ≤ nn) (h2 : nn ≤ 99) (h5 : dn ≤ 99) (hk : k ≤ m) (ok : ∀ j, j < k → (hdS m gs).testBit j = true → sEv nn (pcS (hdS m gs)) dn (sBal g Dc j) ≠ -1) : 0 ≤ (sEvS g Dc nn m (hdS m gs) dn k).toInt := by
  have hm := h.hm
  have hH := hd_64 hm h.hgs
  have := bd_sum (F := fun j => if (hdS m gs).testBit j then sEv nn (pcS (hdS m gs)) dn (sBal g Dc j) else 0) (B := 6009795) (M := k) (by omega) (fun j hj => by
    show 0 ≤ (if (hdS m gs).testBit j then sEv nn (pcS (hdS m gs)) dn (sBal g Dc j) else 0).toInt ∧ (if (hdS m gs).testBit j then sEv nn (pcS (hdS m gs)) dn (sBal g Dc j) else 0).toInt ≤ 6009795
    cases hb : (hdS m gs).testBit j with
    | false => simp only [Bool.false_eq_true, if_false]; decide
    | true =>
      simp only [if_true]
      have h3 := (part_a (hdS m gs) hH j (by omega)).2.2 hb
      rcases ev_b h1 h2 h3 (pc_le _) h5 (h.balB (p := j) (by omega)) with e | e
      · exact absurd e (ok j hj hb)
      · exact e) (by omega) k (Nat.le_refl _)
  unfold sEvS
  omega
theorem nn_ne1 {x : Int32} (h : 0 ≤ x.toInt) : ¬ x = -1 := fun e => by rw [e] at h; exact absurd h (by decide)
theorem tR.evC {n g : Nat} {Dc Dm : mz_D} {m d gs ins : Nat} (h : tR n g 0 0 Dc Dm m d gs ins) {nn dn : Nat} (h1 : 1 ≤ nn) (h2 : nn ≤ 99) (h5 : dn ≤ 99) : (evP g Dc nn m (hdS m gs) dn → fX6_isEvenBehind g (nI nn) (nI dn) Dc = some 1) ∧ (¬ evP g Dc nn m (hdS m gs) dn → fX6_isEvenBehind g (nI nn) (nI dn) Dc = some 0) := by
  have hm := h.hm
  have hH := hd_64 hm h.hgs
  have step : ∀ n k, k < m → (¬ ((hdS m gs).testBit k = true ∧ sEv nn (pcS (hdS m gs)) dn (sBal g Dc k) = -1)) → fX6_isEvenBehind_14 g Dc (n + 1) (nI nn) (nI dn) (nI (hdS m gs)) (sEvS g Dc nn m (hdS m gs) dn k) (nI k) = fX6_isEvenBehind_14 g Dc n (nI nn) (nI dn) (nI (hdS m gs)) (sEvS g Dc nn m (hdS m gs) dn (k + 1)) (nI (k + 1)) := by
    intro n k hk hok
    rw [fX6_isEvenBehind_14]
    dsimp only
    rw [h.many_c, if_neg (by rw [nJ_le (by omega) (by omega)]; omega), isIn_e hH (by omega), sEvS_s, a1r]
    cases hb : (hdS m gs).testBit k with
    | false => simp
    | true =>
      rw [h.dinC h1 h2 h5 hk hb]
      simp only [if_true, one_ne, if_false, Option.bind_some]
      rw [if_neg (fun e => hok ⟨hb, e⟩)]
  unfold fX6_isEvenBehind
  rw [h.heads]
  by_cases ok : ∀ k, k < m → ¬ ((hdS m gs).testBit k = true ∧ sEv nn (pcS (hdS m gs)) dn (sBal g Dc k) = -1)
  · have key := lpD (fun n s k => fX6_isEvenBehind_14 g Dc n (nI nn) (nI dn) (nI (hdS m gs)) s k) (fun k => sEvS g Dc nn m (hdS m gs) dn k) m (r := if sEvS g Dc nn m (hdS m gs) dn m = nI dn then some 1 else some 0) (fun n k hk => step n k hk (ok k hk)) (fun n => by
      show fX6_isEvenBehind_14 g Dc (n + 1) (nI nn) (nI dn) (nI (hdS m gs)) (sEvS g Dc nn m (hdS m gs) dn m) (nI m) = _
      rw [fX6_isEvenBehind_14]
      dsimp only
      rw [h.many_c, if_pos (Int32.le_refl _)]) m 0 mz_N (by omega) (N_lt (by omega))
    have key2 : fX6_isEvenBehind_14 g Dc mz_N (nI nn) (nI dn) (nI (hdS m gs)) 0 0 = _ := key
    rw [key2]
    exact ⟨fun p => if_pos p.2, fun p => if_neg (fun e => p ⟨fun k hk hb e1 => ok k hk ⟨hb, e1⟩, e⟩)⟩
  · obtain ⟨k, hk, hb, hlt⟩ := least ok
    have hb := Classical.not_not.mp hb
    have key := lpD (fun n s k => fX6_isEvenBehind_14 g Dc n (nI nn) (nI dn) (nI (hdS m gs)) s k) (fun k => sEvS g Dc nn m (hdS m gs) dn k) k (r := some 0) (fun n j hj => step n j (by omega) (hlt j hj)) (fun n => by
      show fX6_isEvenBehind_14 g Dc (n + 1) (nI nn) (nI dn) (nI (hdS m gs)) (sEvS g Dc nn m (hdS m gs) dn k) (nI k) = _
      rw [fX6_isEvenBehind_14]
      dsimp only
      rw [h.many_c, if_neg (by rw [nJ_le (by omega) (by omega)]; omega), isIn_e hH (by omega), hb.1, h.dinC h1 h2 h5 hk hb.1]
      simp only [if_true, one_ne, if_false, Option.bind_some]
      rw [if_pos hb.2]) k 0 mz_N (by omega) (N_lt (by omega))
    have key2 : fX6_isEvenBehind_14 g Dc mz_N (nI nn) (nI dn) (nI (hdS m gs)) 0 0 = _ := key
    rw [key2]
    exact ⟨fun p => absurd hb.2 (p.1 k hk hb.1), fun _ => rfl⟩
theorem tR.evM {n g : Nat} {Dc Dm : mz_D} {m d gs ins : Nat} (h : tR n g 0 0 Dc Dm m d gs ins) {nn dn : Nat} (h1 : 1 ≤ nn) (h2 : nn ≤ 99) (h5 : dn ≤ 99) (k2 : Int32 → Int32 → Option Int32) : (evP g Dc nn m (hdS m gs) dn → fX12_evenIn_13 Dm k2 mz_N (nI nn) (nI dn) 0 0 = some (nI dn)) ∧ (¬ evP g Dc nn m (hdS m gs) dn → fX12_evenIn_13 Dm k2 mz_N (nI nn) (nI dn) 0 0 = k2 (nI nn) (nI (dn + 1))) := by
  have hm := h.hm
  have hH := hd_64 hm h.hgs
  have step : ∀ n k, k < m → (∀ j, j < k → ¬ ((hdS m gs).testBit j = true ∧ sEv nn (pcS (hdS m gs)) dn (sBal g Dc j) = -1)) → ∀ r, (¬ (hdS m gs).testBit k = true → fX12_evenIn_13 Dm k2 n (nI nn) (nI dn) (sEvS g Dc nn m (hdS m gs) dn k) (nI (k + 1)) = r) → ((hdS m gs).testBit k = true → sEv nn (pcS (hdS m gs)) dn (sBal g Dc k) = -1 → fX12_evenIn_13 Dm k2 n (nI nn) (nI dn) (-1) (nI (k + 1)) = r) → ((hdS m gs).testBit k = true → sEv nn (pcS (hdS m gs)) dn (sBal g Dc k) ≠ -1 → fX12_evenIn_13 Dm k2 n (nI nn) (nI dn) (sEvS g Dc nn m (hdS m gs) dn (k + 1)) (nI (k + 1)) = r) → fX12_evenIn_13 Dm k2 (n + 1) (nI nn) (nI dn) (sEvS g Dc nn m (hdS m gs) dn k) (nI k) = r := by
    intro n k hk hok r r1 r2 r3
    have nn0 := h.evSb h1 h2 h5 (show k ≤ m by omega) (fun j hj hb e => hok j hj ⟨hb, e⟩)
    rw [fX12_evenIn_13]
    dsimp only
    rw [z0, h.uMany, if_neg (by rw [nJ_le (by omega) (by omega)]; omega), if_neg (nn_ne1 nn0), h.headsM, isIn_m, isIn_e hH (by omega), a1r]
    cases hb : (hdS m gs).testBit k with
    | false => simp only [Bool.false_eq_true, if_false, if_true]; exact r1 (by rw [hb]; simp)
    | true =>
      rw [h.dinM h1 h2 h5 hk hb]
      simp only [if_true, one_ne, if_false, Option.bind_some]
      by_cases e : sEv nn (pcS (hdS m gs)) dn (sBal g Dc k) = -1
      · rw [if_pos e]; exact r2 hb e
      · rw [if_neg e]
        have := r3 hb e
        rw [sEvS_s, hb] at this
        exact this
  have goOn : ∀ n k, k < m → (∀ j, j < k + 1 → ¬ ((hdS m gs).testBit j = true ∧ sEv nn (pcS (hdS m gs)) dn (sBal g Dc j) = -1)) → fX12_evenIn_13 Dm k2 (n + 1) (nI nn) (nI dn) (sEvS g Dc nn m (hdS m gs) dn k) (nI k) = fX12_evenIn_13 Dm k2 n (nI nn) (nI dn) (sEvS g Dc nn m (hdS m gs) dn (k + 1)) (nI (k + 1)) := by
    intro n k hk hok
    refine step n k hk (fun j hj => hok j (by omega)) _ (fun hb => ?_) (fun hb e => absurd ⟨hb, e⟩ (hok k (by omega))) (fun _ _ => rfl)
    rw [sEvS_s, if_neg hb, add0]
  by_cases ok : ∀ k, k < m → ¬ ((hdS m gs).testBit k = true ∧ sEv nn (pcS (hdS m gs)) dn (sBal g Dc k) = -1)
  · have key := lpD (fun n s k => fX12_evenIn_13 Dm k2 n (nI nn) (nI dn) s k) (fun k => sEvS g Dc nn m (hdS m gs) dn k) m (r := if sEvS g Dc nn m (hdS m gs) dn m = nI dn then some (nI dn) else k2 (nI nn) (nI (dn + 1))) (fun n k hk => goOn n k hk (fun j hj => ok j (by omega))) (fun n => by
      show fX12_evenIn_13 Dm k2 (n + 1) (nI nn) (nI dn) (sEvS g Dc nn m (hdS m gs) dn m) (nI m) = _
      rw [fX12_evenIn_13]
      dsimp only
      rw [z0, h.uMany, if_pos (Int32.le_refl _)]
      unfold fX12_evenIn_76
      rw [a1r]) m 0 mz_N (by omega) (N_lt (by omega))
    have key2 : fX12_evenIn_13 Dm k2 mz_N (nI nn) (nI dn) 0 0 = _ := key
    rw [key2]
    exact ⟨fun p => if_pos p.2, fun p => if_neg (fun e => p ⟨fun k hk hb e1 => ok k hk ⟨hb, e1⟩, e⟩)⟩
  · obtain ⟨k, hk, hb, hlt⟩ := least ok
    have hb := Classical.not_not.mp hb
    have endd : ∀ n j, 0 < n → j ≤ m → fX12_evenIn_13 Dm k2 n (nI nn) (nI dn) (-1) (nI j) = k2 (nI nn) (nI (dn + 1)) := by
      intro n j hn hj
      obtain ⟨n, rfl⟩ : ∃ n', n = n' + 1 := ⟨n - 1, by omega⟩
      rw [fX12_evenIn_13]
      unfold fX12_evenIn_76
      dsimp only
      rw [if_pos (show (-1 : Int32) = -1 from rfl), if_neg (fun e => (nI_ne1' (k := dn) (by omega)).mp e), a1r]
      split <;> rfl
    have key : ∀ d c n, c + d = k → d + 1 < n → fX12_evenIn_13 Dm k2 n (nI nn) (nI dn) (sEvS g Dc nn m (hdS m gs) dn c) (nI c) = k2 (nI nn) (nI (dn + 1)) := by
      intro d
      induction d with
      | zero =>
        intro c n hc hn
        obtain ⟨n, rfl⟩ : ∃ n', n = n' + 1 := ⟨n - 1, by omega⟩
        have e : c = k := by omega
        subst e
        exact step n c hk hlt _ (fun hb' => absurd hb.1 hb') (fun _ _ => endd n (c + 1) (by omega) (by omega)) (fun _ e => absurd hb.2 e)
      | succ d ih =>
        intro c n hc hn
        obtain ⟨n, rfl⟩ : ∃ n', n = n' + 1 := ⟨n - 1, by omega⟩
        rw [goOn n c (by omega) (fun j hj => hlt j (by omega))]
        exact ih (c + 1) n (by omega) (by omega)
    have key2 : fX12_evenIn_13 Dm k2 mz_N (nI nn) (nI dn) 0 0 = _ := key k 0 mz_N (by omega) (N_lt (by omega))
    rw [key2]
    exact ⟨fun p => absurd hb.2 (p.1 k hk hb.1), fun _ => rfl⟩
theorem evenB {n : Nat} {D : mz_D} {m d gs ins : Nat} (t : tR n 1 0 0 D D m d gs ins) {nn : Nat} (h1 : 1 ≤ nn) (h2 : nn ≤ 99) : ∃ r, inb 100 r ∧ fX6_fewestDinners 1 (nI nn) D = some (enc r) ∧ ∀ E, eM D E → fX12_evenIn (nI nn) E = some (enc r) := by
  by_cases no : ∀ dn, dn < 100 → ¬ evP 1 D nn m (hdS m gs) dn
  · refine ⟨none, (fun j e => by cases e), ?_, fun E he => ?_⟩
    · exact lpD (fun n (_ : Unit) k => fX6_fewestDinners_2 1 D n (nI nn) k) (fun _ => ()) 100 (fun n k hk => by
        show fX6_fewestDinners_2 1 D (n + 1) (nI nn) (nI k) = fX6_fewestDinners_2 1 D n (nI nn) (nI (k + 1))
        rw [fX6_fewestDinners_2]
        dsimp only
        rw [if_neg (by rw [ol_lt (c := 99) (by omega) (by omega)]; omega), (t.evC h1 h2 (show k ≤ 99 by omega)).2 (no k hk), Option.bind_some, if_pos rfl, a1r]) (fun n => by
        show fX6_fewestDinners_2 1 D (n + 1) (nI nn) (nI 100) = _
        rw [fX6_fewestDinners_2]
        dsimp only
        rw [if_pos (by decide)]
        rfl) 100 0 mz_N (by omega) (N_lt (by omega))
    · exact lpD (fun n (_ : Unit) k => fX12_evenIn_2 E n (nI nn) k) (fun _ => ()) 100 (fun n k hk => by
        show fX12_evenIn_2 E (n + 1) (nI nn) (nI k) = fX12_evenIn_2 E n (nI nn) (nI (k + 1))
        rw [fX12_evenIn_2]
        dsimp only
        rw [if_neg (by rw [ol_le (c := 100) (by omega) (by omega)]; omega)]
        exact ((t.m he).evM h1 h2 (show k ≤ 99 by omega) (fX12_evenIn_2 E n)).2 (no k hk)) (fun n => by
        show fX12_evenIn_2 E (n + 1) (nI nn) (nI 100) = _
        rw [fX12_evenIn_2]
        dsimp only
        rw [if_pos (by decide)]
        rfl) 100 0 mz_N (by omega) (N_lt (by omega))
  · obtain ⟨K, hK, hb, hlt⟩ := least no
    have hb := Classical.not_not.mp hb
    refine ⟨some K, (fun j e => by cases e; exact hK), ?_, fun E he => ?_⟩
    · exact lpD (fun n (_ : Unit) k => fX6_fewestDinners_2 1 D n (nI nn) k) (fun _ => ()) K (fun n k hk => by
        show fX6_fewestDinners_2 1 D (n + 1) (nI nn) (nI k) = fX6_fewestDinners_2 1 D n (nI nn) (nI (k + 1))
        rw [fX6_fewestDinners_2]
        dsimp only
        rw [if_neg (by rw [ol_lt (c := 99) (by omega) (by omega)]; omega), (t.evC h1 h2 (show k ≤ 99 by omega)).2 (hlt k hk), Option.bind_some, if_pos rfl, a1r]) (fun n => by
        show fX6_fewestDinners_2 1 D (n + 1) (nI nn) (nI K) = _
        rw [fX6_fewestDinners_2]
        dsimp only
        rw [if_neg (by rw [ol_lt (c := 99) (by omega) (by omega)]; omega), (t.evC h1 h2 (show K ≤ 99 by omega)).1 hb, Option.bind_some, if_neg one_ne]
        rfl) K 0 mz_N (by omega) (N_lt (by omega))
    · exact lpD (fun n (_ : Unit) k => fX12_evenIn_2 E n (nI nn) k) (fun _ => ()) K (fun n k hk => by
        show fX12_evenIn_2 E (n + 1) (nI nn) (nI k) = fX12_evenIn_2 E n (nI nn) (nI (k + 1))
        rw [fX12_evenIn_2]
        dsimp only
        rw [if_neg (by rw [ol_le (c := 100) (by omega) (by omega)]; omega)]
        exact ((t.m he).evM h1 h2 (show k ≤ 99 by omega) (fX12_evenIn_2 E n)).2 (hlt k hk)) (fun n => by
        show fX12_evenIn_2 E (n + 1) (nI nn) (nI K) = _
        rw [fX12_evenIn_2]
        dsimp only
        rw [if_neg (by rw [ol_le (c := 100) (by omega) (by omega)]; omega)]
        exact ((t.m he).evM h1 h2 (show K ≤ 99 by omega) (fX12_evenIn_2 E n)).1 hb) K 0 mz_N (by omega) (N_lt (by omega))
theorem hpr (x : Int32) : (fX11_isHeadPrice x = 0 ∧ fX12_isFrom x.toInt64 1 99 = 0) ∨ ∃ nn, 1 ≤ nn ∧ nn ≤ 99 ∧ x = nI nn ∧ fX11_isHeadPrice x = 1 ∧ fX12_isFrom x.toInt64 1 99 = 1 := by
  have F1 : fX12_isFrom x.toInt64 1 99 = if x < 1 ∨ 99 < x then 0 else 1 := rng rfl rfl x
  rw [F1]
  unfold fX11_isHeadPrice
  by_cases h1 : x < 1
  · exact Or.inl ⟨if_pos h1, if_pos (Or.inl h1)⟩
  · by_cases h2 : 99 < x
    · exact Or.inl ⟨by rw [if_neg h1, if_pos h2], if_pos (Or.inr h2)⟩
    · right
      have a1 := i_le.mp (Int32.not_lt.mp h1)
      have a2 := i_le.mp (Int32.not_lt.mp h2)
      have e1 : (1 : Int32).toInt = 1 := rfl
      have e2 : (99 : Int32).toInt = 99 := rfl
      obtain ⟨k, hk, rfl⟩ := nJ_of (i_le.mpr (by have : (0 : Int32).toInt = 0 := rfl; omega) : 0 ≤ x)
      rw [nI_toInt hk] at a1 a2
      refine ⟨k, by omega, by omega, rfl, by rw [if_neg h1, if_neg h2], if_neg (fun e => ?_)⟩
      rcases e with e | e
      · exact h1 e
      · exact h2 e
theorem p_op45 : op_45 Inv := by
  intro n D x1 h
  obtain ⟨m, d, gs, ins, t⟩ := iR.t h
  rcases hpr x1 with ⟨s1, s2⟩ | ⟨nn, h1, h2, rfl, s1, s2⟩
  · exact q_look h (r := -1) (v := 1) (by unfold fX11_even; rw [if_pos s1]) (fun E he => by unfold fX12_even; rw [if_pos s2])
  · obtain ⟨r, hin, e1, e2⟩ := evenB t h1 h2
    exact q_look h (r := enc r) (v := sv r) (by unfold fX11_even; rw [if_neg (by rw [s1]; exact one_ne), e1, Option.bind_some, ans_c hin (by omega)]; rfl) (fun E he => by unfold fX12_even; rw [if_neg (by rw [s2]; exact one_ne), e2 E he, Option.bind_some, ans_m hin (by omega)]; rfl)
theorem p_op46 : op_46 Inv := by
  intro n D x1 x2 h
  obtain ⟨m, d, gs, ins, t⟩ := iR.t h
  have hm := t.hm
  have hH := hd_64 hm t.hgs
  rcases hpr x1 with ⟨s1, s2⟩ | ⟨nn, h1, h2, rfl, s1, s2⟩
  · exact q_look h (r := -1) (v := 1) (by unfold fX11_evenBy; rw [if_pos s1]) (fun E he => by unfold fX12_evenBy; rw [if_pos s2])
  · have k1 : ¬ fX11_isHeadPrice (nI nn) = 0 := by rw [s1]; exact one_ne
    have k2 : ¬ fX12_isFrom (nI nn).toInt64 1 99 = 0 := by rw [s2]; exact one_ne
    rcases has_or t.hm t.many_c t.many_m x2 with ⟨c1, c2⟩ | ⟨p, hp, rfl, c1, c2⟩
    · exact q_look h (r := -1) (v := 1) (by unfold fX11_evenBy; rw [if_neg k1, if_pos c1]) (fun E he => by unfold fX12_evenBy; rw [if_neg k2, if_pos (by rw [has_m he]; exact c2)])
    · have hc : ¬ fX4_has 1 (nI p) D = 0 := by rw [c1]; exact one_ne
      have hq : ∀ E, eM D E → ¬ fX12_isPerson (nI p) E = 0 := fun E he => by rw [has_m he, c2]; exact one_ne
      obtain ⟨r, hin, e1, e2⟩ := evenB t h1 h2
      cases r with
      | none => exact q_look h (r := -1) (v := 6) (by unfold fX11_evenBy; rw [if_neg k1, if_neg hc, e1, Option.bind_some, if_pos (show enc none = -1 from rfl)]) (fun E he => by unfold fX12_evenBy; rw [if_neg k2, if_neg (hq E he), e2 E he, Option.bind_some, if_pos (show enc none = -1 from rfl)])
      | some K =>
        have hK := hin K rfl
        have ne : ¬ enc (some K) = -1 := fun e => (nI_ne1 (k := K) (by omega)).mp e
        cases hb : (hdS m gs).testBit p with
        | false => exact q_look h (r := 0) (v := 0) (by unfold fX11_evenBy; rw [if_neg k1, if_neg hc, e1, Option.bind_some, if_neg ne, t.heads, isIn_e hH (by omega), hb]; rfl) (fun E he => by unfold fX12_evenBy; rw [if_neg k2, if_neg (hq E he), e2 E he, Option.bind_some, if_neg ne, (t.m he).headsM, isIn_m, isIn_e hH (by omega), hb]; rfl)
        | true => exact q_look h (r := sEv nn (pcS (hdS m gs)) K (sBal 1 D p)) (v := 0) (by unfold fX11_evenBy; rw [if_neg k1, if_neg hc, e1, Option.bind_some, if_neg ne, t.heads, isIn_e hH (by omega), hb, if_neg (by decide), show enc (some K) = nI K from rfl, t.dinC h1 h2 (by omega) hp hb]; rfl) (fun E he => by unfold fX12_evenBy; rw [if_neg k2, if_neg (hq E he), e2 E he, Option.bind_some, if_neg ne, (t.m he).headsM, isIn_m, isIn_e hH (by omega), hb, if_neg (by decide), show enc (some K) = nI K from rfl, (t.m he).dinM h1 h2 (by omega) hp hb]; rfl)
