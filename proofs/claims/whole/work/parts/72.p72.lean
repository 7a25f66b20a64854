/-! ===== pouring, feeding ===== -/
theorem cpg_t {s d n N N' : Nat} (h1 : s + n ≤ N) (h2 : d + n ≤ N') (hN : N < 2147483648) (hN' : N' < 2147483648) : mz_cpg (nI s) (nI d) (nI n) N N' = true := by
  unfold mz_cpg
  rw [nI_cl (by omega), nI_cl (by omega), nI_cl (by omega)]
  simp only [Bool.and_eq_true, decide_eq_true_eq]
  exact ⟨⟨⟨⟨(nI_neg (by omega)).mp, (nI_neg (by omega)).mp⟩, (nI_neg (by omega)).mp⟩, h1⟩, h2⟩
theorem cpl_wl (D : mz_D) (g o s d n : Nat) : mz_cpl D g o g o s d n = wl D g o (va_cpy (D.2 g o) (D.2 g o) s d n) := rfl
theorem hld {D : mz_D} {t z : Nat} (ht : t < 4) (hz : z ≤ 60) (e : D.1 0 6 t = nI z) {p k : Nat} (hp : p < 2147483648) (hk : k < 2147483648) : fX8_holds (nI t) (nI p) (nI k) D = some (if p + k ≤ z then 1 else 0) := by
  unfold fX8_holds
  rw [nI_ix ht (by omega), gd_tt, nI_cl (by omega), e]
  by_cases h1 : z < p
  · rw [if_pos (by rw [nJ_lt (by omega) hp]; exact h1), if_neg (by omega)]
  · rw [if_neg (by rw [nJ_lt (by omega) hp]; exact h1), n_sub (by omega)]
    by_cases h2 : z - p < k
    · rw [if_pos (by rw [nJ_lt (by omega) hk]; exact h2), if_neg (by omega)]
    · rw [if_neg (by rw [nJ_lt (by omega) hk]; exact h2), if_pos (by omega)]
theorem sub_lt {z p k : Nat} (hz : z ≤ 60) (hp : p < 2147483648) (hk : k < 2147483648) : (nI z - nI p < nI k) ↔ ¬ (p + k ≤ z) := by
  rw [i_lt, i_sub (by rw [nI_toInt (by omega), nI_toInt hp]; omega) (by rw [nI_toInt (by omega), nI_toInt hp]; omega), nI_toInt (by omega), nI_toInt hp, nI_toInt hk]
  omega
theorem tr_cs {t : Nat} {D E : mz_D} (h : trR t D E) : (D.1 0 5 t = -1 ∧ E.1 0 204 t = -1) ∨ (¬ D.1 0 5 t = -1 ∧ ¬ E.1 0 204 t = -1 ∧ ∃ z, z ≤ 60 ∧ D.1 0 6 t = nI z ∧ E.1 0 204 t = nI z ∧ E.1 0 203 t = D.1 0 5 t ∧ ∀ j, j < z → E.2 0 205 (60 * t + j) = D.2 0 7 (60 * t + j)) := by
  rcases h with h | ⟨z, h1, h2, h3, h4, h5, h6⟩
  · exact Or.inl h
  · exact Or.inr ⟨by rcases h4 with e | e | e | e <;> rw [e] <;> decide, fun e => (nI_ne1 (k := z) (by omega)).mp (by rw [← h3]; exact e), z, h1, h2, h3, h5, h6⟩
theorem mis {D : mz_D} {t : Nat} (ht : t < 4) : fX8_isMissing (nI t) D = some (if D.1 0 5 t = -1 then 1 else 0) := by
  unfold fX8_isMissing
  rw [nI_ix ht (by omega), gd_tt, nI_cl (by omega)]
  split <;> rfl
def pF (f : Nat → Int64) (s d i : Nat) : Nat → Int64 := fun c => if d ≤ c ∧ c < d + i then f (s + (c - d)) else f c
def pB (f : Nat → Int64) (s d k i : Nat) : Nat → Int64 := fun c => if d + (k - i) ≤ c ∧ c < d + k then f (s + (c - d)) else f c
theorem pF_s {f : Nat → Int64} {s d i : Nat} (h : ¬ (d ≤ s + i ∧ s + i < d + i)) : upl (pF f s d i) (d + i) (pF f s d i (s + i)) = pF f s d (i + 1) := by
  have e : pF f s d i (s + i) = f (s + i) := if_neg h
  rw [e]
  funext c
  unfold upl pF
  by_cases h1 : c = d + i
  · rw [if_pos h1, if_pos (by omega), h1, show s + (d + i - d) = s + i by omega]
  · rw [if_neg h1]
    by_cases h2 : d ≤ c ∧ c < d + i
    · rw [if_pos h2, if_pos (by omega)]
    · rw [if_neg h2, if_neg (by omega)]
theorem pB_s {f : Nat → Int64} {s d k i : Nat} (hi : i < k) (h : ¬ (d + (k - i) ≤ s + (k - 1 - i) ∧ s + (k - 1 - i) < d + k)) : upl (pB f s d k i) (d + (k - 1 - i)) (pB f s d k i (s + (k - 1 - i))) = pB f s d k (i + 1) := by
  have e : pB f s d k i (s + (k - 1 - i)) = f (s + (k - 1 - i)) := if_neg h
  rw [e]
  funext c
  unfold upl pB
  by_cases h1 : c = d + (k - 1 - i)
  · rw [if_pos h1, if_pos (by omega), h1, show s + (d + (k - 1 - i) - d) = s + (k - 1 - i) by omega]
  · rw [if_neg h1]
    by_cases h2 : d + (k - i) ≤ c ∧ c < d + k
    · rw [if_pos h2, if_pos (by omega)]
    · rw [if_neg h2, if_neg (by omega)]
theorem pourM {E : mz_D} {a b p q k : Nat} (ha : a < 4) (hb : b < 4) (hp : p + k ≤ 60) (hq : q + k ≤ 60) : fX12_pour_118 mz_N (nI a) (nI p) (nI b) (nI q) (nI k) 0 E = some (1, mz_wi (wl E 0 205 (pF (E.2 0 205) (60 * a + p) (60 * b + q) k)) 0 200 2 0) := by
  by_cases dir : q ≤ p
  · have hc : nI q ≤ nI p := (nJ_le (by omega) (by omega)).mpr dir
    have key := lpD (fun n s i => fX12_pour_118 n (nI a) (nI p) (nI b) (nI q) (nI k) i s) (fun i => wl E 0 205 (pF (E.2 0 205) (60 * a + p) (60 * b + q) i)) k (r := some (1, mz_wi (wl E 0 205 (pF (E.2 0 205) (60 * a + p) (60 * b + q) k)) 0 200 2 0)) (fun n i hi => by
      show fX12_pour_118 (n + 1) (nI a) (nI p) (nI b) (nI q) (nI k) (nI i) _ = fX12_pour_118 n (nI a) (nI p) (nI b) (nI q) (nI k) (nI (i + 1)) _
      rw [fX12_pour_118]
      unfold fX12_pour_143
      simp (disch := omega) only [l60m, nI_add, nI_ix, gd_tt, nI_cl, a1r, nJ_le, wl_up, wl_s]
      rw [if_neg (by omega), if_pos dir, pF_s (by omega)]) (fun n => by
      show fX12_pour_118 (n + 1) (nI a) (nI p) (nI b) (nI q) (nI k) (nI k) _ = _
      rw [fX12_pour_118]
      dsimp only
      rw [if_pos (Int32.le_refl _), is_e]
      rfl) k 0 mz_N (by omega) (N_lt (by omega))
    have z : pF (E.2 0 205) (60 * a + p) (60 * b + q) 0 = E.2 0 205 := by funext c; exact if_neg (by omega)
    have key2 : fX12_pour_118 mz_N (nI a) (nI p) (nI b) (nI q) (nI k) (nI 0) (wl E 0 205 (pF (E.2 0 205) (60 * a + p) (60 * b + q) 0)) = _ := key
    rw [z, wl_id] at key2
    exact key2
  · have fin : pB (E.2 0 205) (60 * a + p) (60 * b + q) k k = pF (E.2 0 205) (60 * a + p) (60 * b + q) k := by
      funext c
      unfold pB pF
      rw [Nat.sub_self, Nat.add_zero]
    have key := lpD (fun n s i => fX12_pour_118 n (nI a) (nI p) (nI b) (nI q) (nI k) i s) (fun i => wl E 0 205 (pB (E.2 0 205) (60 * a + p) (60 * b + q) k i)) k (r := some (1, mz_wi (wl E 0 205 (pF (E.2 0 205) (60 * a + p) (60 * b + q) k)) 0 200 2 0)) (fun n i hi => by
      show fX12_pour_118 (n + 1) (nI a) (nI p) (nI b) (nI q) (nI k) (nI i) _ = fX12_pour_118 n (nI a) (nI p) (nI b) (nI q) (nI k) (nI (i + 1)) _
      have ek : (nI k - (1 : Int32)) - nI i = nI (k - 1 - i) := by rw [show (1 : Int32) = nI 1 from rfl, n_sub (by omega), n_sub (by omega)]
      rw [fX12_pour_118]
      unfold fX12_pour_143
      simp (disch := omega) only [ek, l60m, nI_add, nI_ix, gd_tt, nI_cl, a1r, nJ_le, wl_up, wl_s]
      rw [if_neg (by omega), if_neg dir, pB_s hi (by omega)]) (fun n => by
      show fX12_pour_118 (n + 1) (nI a) (nI p) (nI b) (nI q) (nI k) (nI k) _ = _
      rw [fX12_pour_118]
      dsimp only
      rw [if_pos (Int32.le_refl _), is_e, fin]
      rfl) k 0 mz_N (by omega) (N_lt (by omega))
    have z : pB (E.2 0 205) (60 * a + p) (60 * b + q) k 0 = E.2 0 205 := by funext c; exact if_neg (by omega)
    have key2 : fX12_pour_118 mz_N (nI a) (nI p) (nI b) (nI q) (nI k) (nI 0) (wl E 0 205 (pB (E.2 0 205) (60 * a + p) (60 * b + q) k 0)) = _ := key
    rw [z, wl_id] at key2
    exact key2
theorem p_op6 : op_6 Inv := by
  intro n D x1 x2 x3 x4 x5 h
  have ref : (fX8_has x1 = 0 ∨ fX8_has x3 = 0 ∨ x2 < 0 ∨ x4 < 0 ∨ x5 < 0) → fX8_has x1 = fX12_isTray x1 → fX8_has x3 = fX12_isTray x3 → ∃ (r : Int32) (D1 D2 : mz_D), fX11_pour x1 x2 x3 x4 x5 D = some (r, D1) ∧ fX12_pour x1 x2 x3 x4 x5 D1 = some (r, D2) ∧ Inv (n + 1) D2 := by
    intro hx e1 e3
    refine q_look h (r := 0) (v := 1) ?_ (fun E he => ?_)
    · unfold fX11_pour
      by_cases c1 : fX8_has x1 = 0
      · rw [if_pos c1]
      · by_cases c2 : fX8_has x3 = 0
        · rw [if_neg c1, if_pos c2]
        · by_cases c3 : x2 < 0
          · rw [if_neg c1, if_neg c2, if_pos c3]
          · by_cases c4 : x4 < 0
            · rw [if_neg c1, if_neg c2, if_neg c3, if_pos c4]
            · rw [if_neg c1, if_neg c2, if_neg c3, if_neg c4, if_neg (Int32.not_le.mpr (by rcases hx with h | h | h | h | h <;> first | exact absurd h c1 | exact absurd h c2 | exact absurd h c3 | exact absurd h c4 | exact h))]
    · unfold fX12_pour fX12_pour_28
      rw [← e1, ← e3, is_e]
      by_cases c1 : fX8_has x1 = 0
      · rw [if_pos c1]; rfl
      · by_cases c2 : fX8_has x3 = 0
        · rw [if_neg c1, if_pos c2]; rfl
        · by_cases c3 : x2 < 0
          · rw [if_neg c1, if_neg c2, if_pos c3]; rfl
          · by_cases c4 : x4 < 0
            · rw [if_neg c1, if_neg c2, if_neg c3, if_pos c4]; rfl
            · rw [if_neg c1, if_neg c2, if_neg c3, if_neg c4, if_neg (Int32.not_le.mpr (by rcases hx with h | h | h | h | h <;> first | exact absurd h c1 | exact absurd h c2 | exact absurd h c3 | exact absurd h c4 | exact h))]; rfl
  have h13 : ∀ x, fX8_has x = fX12_isTray x := fun _ => rfl
  rcases try_or x1 with ⟨c1, c2⟩ | ⟨a, ha, rfl, c1, c2⟩
  · exact ref (Or.inl c1) (h13 _) (h13 _)
  · rcases try_or x3 with ⟨d1, d2⟩ | ⟨b, hb, rfl, d1, d2⟩
    · exact ref (Or.inr (Or.inl d1)) (h13 _) (h13 _)
    · by_cases k2 : x2 < 0
      · exact ref (Or.inr (Or.inr (Or.inl k2))) (h13 _) (h13 _)
      · by_cases k4 : x4 < 0
        · exact ref (Or.inr (Or.inr (Or.inr (Or.inl k4)))) (h13 _) (h13 _)
        · by_cases k5 : x5 < 0
          · exact ref (Or.inr (Or.inr (Or.inr (Or.inr k5)))) (h13 _) (h13 _)
          · obtain ⟨p, hp, rfl⟩ := nJ_of (Int32.not_lt.mp k2)
            obtain ⟨q, hq, rfl⟩ := nJ_of (Int32.not_lt.mp k4)
            obtain ⟨k, hk, rfl⟩ := nJ_of (Int32.not_lt.mp k5)
            have n1 : ¬ fX8_has (nI a) = 0 := by rw [c1]; exact one_ne
            have n2 : ¬ fX8_has (nI b) = 0 := by rw [d1]; exact one_ne
            have m1 : ¬ fX12_isTray (nI a) = 0 := by rw [c2]; exact one_ne
            have m2 : ¬ fX12_isTray (nI b) = 0 := by rw [d2]; exact one_ne
            have k5' := Int32.not_lt.mp k5
            have C0 : fX11_pour (nI a) (nI p) (nI b) (nI q) (nI k) D = (if (if D.1 0 5 a = -1 then (1 : Int32) else 0) = 0 then (if (if D.1 0 5 b = -1 then (1 : Int32) else 0) = 0 then (if D.1 0 5 a = D.1 0 5 b then (Option.bind (fX8_holds (nI a) (nI p) (nI k) D) fun q13 => (if q13 = 0 then (some ((0 : Int32), (mz_wi D 0 0 13 (3 : Int32)))) else (Option.bind (fX8_holds (nI b) (nI q) (nI k) D) fun q15 => (if q15 = 0 then (some ((0 : Int32), (mz_wi D 0 0 13 (3 : Int32)))) else (Option.bind (fX8_move (nI a) (nI p) (nI b) (nI q) (nI k) D) fun q17 => (some ((1 : Int32), (mz_wi q17 0 0 13 (0 : Int32))))))))) else (some ((0 : Int32), (mz_wi D 0 0 13 (8 : Int32))))) else (some ((0 : Int32), (mz_wi D 0 0 13 (2 : Int32))))) else (some ((0 : Int32), (mz_wi D 0 0 13 (2 : Int32))))) := by
              unfold fX11_pour fX8_sortOf
              rw [if_neg n1, if_neg n2, if_neg k2, if_neg k4, if_pos k5', mis ha, Option.bind_some, mis hb, Option.bind_some, nI_ix ha (by omega), nI_ix hb (by omega), gd_tt, gd_tt, nI_cl (by omega), nI_cl (by omega), Option.bind_some, Option.bind_some]
            have M0 : ∀ E, fX12_pour (nI a) (nI p) (nI b) (nI q) (nI k) E = (if (E.1 0 204 a) = (-1 : Int32) then (fX12_pour_54 E) else (if (E.1 0 204 b) = (-1 : Int32) then (fX12_pour_54 E) else (if (E.1 0 203 a) = (E.1 0 203 b) then (if ((E.1 0 204 a) - nI p) < nI k then (fX12_pour_109 E) else (if nI k ≤ ((E.1 0 204 b) - nI q) then (fX12_pour_118 mz_N (nI a) (nI p) (nI b) (nI q) (nI k) (0 : Int32) E) else (fX12_pour_109 E))) else (Option.bind (fX12_is (8 : Int32) E) fun q13 => (mz_gd (mz_bo q13.1) (some (q13.1, q13.2))))))) := fun E => by
              unfold fX12_pour
              rw [if_neg m1, if_neg m2, if_neg k2, if_neg k4, if_pos k5', nI_ix ha (by omega), gd_tt, nI_ix hb (by omega), gd_tt, nI_cl (by omega), nI_cl (by omega)]
            have TA : ∀ E, eM D E → trR a D E := fun E he => iR.tE h he ha
            have TB : ∀ E, eM D E → trR b D E := fun E he => iR.tE h he hb
            rcases tr_cs (iR.trays h a ha) with ⟨a1, a2⟩ | ⟨a1, a2, z, z1, z2, z3, z4, z5⟩
            · exact q_look h (r := 0) (v := 2) (by rw [C0, if_pos a1, if_neg one_ne]) (fun E he => by rw [M0, (he _ _ _ (by omega) (by omega)).1, if_pos a2]; unfold fX12_pour_54; rw [is_e]; rfl)
            · rcases tr_cs (iR.trays h b hb) with ⟨b1, b2⟩ | ⟨b1, b2, w, w1, w2, w3, w4, w5⟩
              · exact q_look h (r := 0) (v := 2) (by rw [C0, if_neg a1, if_pos rfl, if_pos b1, if_neg one_ne]) (fun E he => by rw [M0, (he 0 204 a (by omega) (by omega)).1, if_neg a2, (he 0 204 b (by omega) (by omega)).1, if_pos b2]; unfold fX12_pour_54; rw [is_e]; rfl)
              · by_cases hs : D.1 0 5 a = D.1 0 5 b
                · have C1 : fX11_pour (nI a) (nI p) (nI b) (nI q) (nI k) D = (if p + k ≤ z then (if q + k ≤ w then (Option.bind (fX8_move (nI a) (nI p) (nI b) (nI q) (nI k) D) fun q17 => (some ((1 : Int32), (mz_wi q17 0 0 13 (0 : Int32))))) else (some ((0 : Int32), (mz_wi D 0 0 13 (3 : Int32))))) else (some ((0 : Int32), (mz_wi D 0 0 13 (3 : Int32))))) := by
                    rw [C0, if_neg a1, if_pos rfl, if_neg b1, if_pos rfl, if_pos hs, hld ha z1 z2 hp hk, Option.bind_some, hld hb w1 w2 hq hk, Option.bind_some]
                    by_cases e1 : p + k ≤ z
                    · rw [if_pos e1, if_pos e1, if_neg one_ne]
                      by_cases e2 : q + k ≤ w
                      · rw [if_pos e2, if_pos e2, if_neg one_ne]
                      · rw [if_neg e2, if_neg e2, if_pos rfl]
                    · rw [if_neg e1, if_neg e1, if_pos rfl]
                  have M1 : ∀ E, eM D E → fX12_pour (nI a) (nI p) (nI b) (nI q) (nI k) E = (if p + k ≤ z then (if q + k ≤ w then (fX12_pour_118 mz_N (nI a) (nI p) (nI b) (nI q) (nI k) (0 : Int32) E) else (some ((0 : Int32), (mz_wi E 0 200 2 (3 : Int32))))) else (some ((0 : Int32), (mz_wi E 0 200 2 (3 : Int32))))) := fun E he => by
                    have r109 : fX12_pour_109 E = some (0, mz_wi E 0 200 2 3) := by unfold fX12_pour_109; rw [is_e]; rfl
                    rw [M0, (he 0 204 a (by omega) (by omega)).1, (he 0 204 b (by omega) (by omega)).1, (he 0 203 a (by omega) (by omega)).1, (he 0 203 b (by omega) (by omega)).1, if_neg a2, if_neg b2, z4, w4, if_pos hs, z3, w3, r109]
                    by_cases e1 : p + k ≤ z
                    · rw [if_neg (by rw [sub_lt z1 hp hk]; exact fun e => e e1), if_pos e1]
                      by_cases e2 : q + k ≤ w
                      · rw [if_pos (Int32.not_lt.mp (by rw [sub_lt w1 hq hk]; exact fun e => e e2)), if_pos e2]
                      · rw [if_neg (Int32.not_le.mpr (by rw [sub_lt w1 hq hk]; exact e2)), if_neg e2]
                    · rw [if_pos (by rw [sub_lt z1 hp hk]; exact e1), if_neg e1]
                  by_cases e1 : p + k ≤ z
                  · by_cases e2 : q + k ≤ w
                    · have mv : fX8_move (nI a) (nI p) (nI b) (nI q) (nI k) D = some (wl D 0 7 (pF (D.2 0 7) (60 * a + p) (60 * b + q) k)) := by
                        unfold fX8_move
                        simp only [r60m, nI_add]
                        rw [cpg_t (by omega) (by omega) (by omega) (by omega), gd_tt, nI_cl (by omega), nI_cl (by omega), nI_cl (by omega), cpl_wl, show a * 60 + p = 60 * a + p by omega, show b * 60 + q = 60 * b + q by omega]
                        rfl
                      refine q_trs h (r := 1) (v := 0) (E := wl D 0 7 (pF (D.2 0 7) (60 * a + p) (60 * b + q) k)) (fun g o c hn => ?_) ?_ (fun E he => ⟨wl E 0 205 (pF (E.2 0 205) (60 * a + p) (60 * b + q) k), fun g o c hn => ?_, ?_, fun t' ht' => ?_⟩)
                      · have hq : ¬ (g = 0 ∧ 5 ≤ o ∧ o ≤ 7) := fun q => hn (Or.inr q)
                        exact ⟨rfl, by rw [wl_n (by omega)]⟩
                      · rw [C1, if_pos e1, if_pos e2, mv]
                        rfl
                      · have hq : ¬ (203 ≤ o ∧ o ≤ 205) := fun q => hn (Or.inr q)
                        exact ⟨rfl, by rw [wl_n (by omega)]⟩
                      · rw [M1 E he, if_pos e1, if_pos e2, pourM ha hb (by omega) (by omega)]
                      · have tr := iR.tE h he ht'
                        unfold trR at tr ⊢
                        rcases tr with tr | ⟨z', h1, h2, h3, h4, h5, h6⟩
                        · exact Or.inl tr
                        · refine Or.inr ⟨z', h1, h2, h3, h4, h5, fun i hi => ?_⟩
                          rw [wl_s, wl_s]
                          unfold pF
                          by_cases e : 60 * b + q ≤ 60 * t' + i ∧ 60 * t' + i < 60 * b + q + k
                          · rw [if_pos e, if_pos e, show 60 * a + p + (60 * t' + i - (60 * b + q)) = 60 * a + (p + (60 * t' + i - (60 * b + q))) by omega, (he 0 205 _ (by omega) (by omega)).2]
                            exact z5 _ (by omega)
                          · rw [if_neg e, if_neg e]
                            exact h6 i hi
                    · exact q_look h (r := 0) (v := 3) (by rw [C1, if_pos e1, if_neg e2]) (fun E he => by rw [M1 E he, if_pos e1, if_neg e2])
                  · exact q_look h (r := 0) (v := 3) (by rw [C1, if_neg e1]) (fun E he => by rw [M1 E he, if_neg e1])
                · exact q_look h (r := 0) (v := 8) (by rw [C0, if_neg a1, if_pos rfl, if_neg b1, if_pos rfl, if_neg hs]) (fun E he => by rw [M0, (he 0 204 a (by omega) (by omega)).1, (he 0 204 b (by omega) (by omega)).1, (he 0 203 a (by omega) (by omega)).1, (he 0 203 b (by omega) (by omega)).1, if_neg a2, if_neg b2, z4, w4, if_neg hs, is_e]; rfl)
/-! the tape -/
def tpC (D : mz_D) (f : Nat → Int32) (t : Nat) : mz_D := mz_wi (wr D 0 1 f) 0 0 1 (nI t)
def tpM (D : mz_D) (f : Nat → Int32) (t : Nat) : mz_D := mz_wi (wr D 0 206 f) 0 200 10 (nI t)
theorem wi_id {D : mz_D} {g o j : Nat} {v : Int32} (h : D.1 g o j = v) : mz_wi D g o j v = D := by
  refine mzD_ext (fun a b c => ?_) rfl
  by_cases e : b = o ∧ a = g ∧ c = j
  · rw [e.1, e.2.1, e.2.2, wi_s, h]
  · rw [wi_n (by omega)]
theorem tpC_0 {D : mz_D} {t : Nat} (h : D.1 0 0 1 = nI t) : tpC D (D.1 0 1) t = D := by unfold tpC; rw [wr_id, wi_id h]
theorem tpM_0 {D : mz_D} {t : Nat} (h : D.1 0 200 10 = nI t) : tpM D (D.1 0 206) t = D := by unfold tpM; rw [wr_id, wi_id h]
theorem tpC_t (D : mz_D) (f : Nat → Int32) (t : Nat) : (tpC D f t).1 0 0 1 = nI t := wi_s _ _ _ _ _
theorem tpM_t (D : mz_D) (f : Nat → Int32) (t : Nat) : (tpM D f t).1 0 200 10 = nI t := wi_s _ _ _ _ _
theorem tpC_s (D : mz_D) (f : Nat → Int32) (t : Nat) (v : Int32) : mz_wi (mz_wi (tpC D f t) 0 1 t v) 0 0 1 (nI (t + 1)) = tpC D (up f t v) (t + 1) := by
  unfold tpC
  refine mzD_ext (fun a b c => ?_) rfl
  by_cases e : b = 0 ∧ a = 0 ∧ c = 1
  · rw [e.1, e.2.1, e.2.2, wi_s, wi_s]
  · rw [wi_n (by omega), wi_n (show b ≠ 0 ∨ a ≠ 0 ∨ c ≠ 1 by omega)]
    by_cases e2 : b = 1 ∧ a = 0
    · rw [e2.1, e2.2, wr_s]
      unfold up
      by_cases e3 : c = t
      · rw [e3, wi_s, if_pos rfl]
      · rw [wi_n (by omega), wi_n (by omega), wr_s, if_neg e3]
    · rw [wi_n (by omega), wi_n (by omega), wr_n (by omega), wr_n (by omega)]
theorem tpM_s (D : mz_D) (f : Nat → Int32) (t : Nat) (v : Int32) : mz_wi (mz_wi (tpM D f t) 0 206 t v) 0 200 10 (nI (t + 1)) = tpM D (up f t v) (t + 1) := by
  unfold tpM
  refine mzD_ext (fun a b c => ?_) rfl
  by_cases e : b = 200 ∧ a = 0 ∧ c = 10
  · rw [e.1, e.2.1, e.2.2, wi_s, wi_s]
  · rw [wi_n (by omega), wi_n (show b ≠ 200 ∨ a ≠ 0 ∨ c ≠ 10 by omega)]
    by_cases e2 : b = 206 ∧ a = 0
    · rw [e2.1, e2.2, wr_s]
      unfold up
      by_cases e3 : c = t
      · rw [e3, wi_s, if_pos rfl]
      · rw [wi_n (by omega), wi_n (by omega), wr_s, if_neg e3]
    · rw [wi_n (by omega), wi_n (by omega), wr_n (by omega), wr_n (by omega)]
def byt (x k : Int32) : Int32 := (((x >>> (k &&& 31))).toInt8.toInt32).toInt8.toInt32
def fou (f : Nat → Int32) (t : Nat) (x : Int32) : Nat → Int32 := up (up (up (up f t (byt x 24)) (t + 1) (byt x 16)) (t + 2) (byt x 8)) (t + 3) (byt x 0)
theorem tapC {D : mz_D} {f : Nat → Int32} {t : Nat} (ht : t + 4 ≤ 900) (x : Int32) : fX11_tapeInt x (tpC D f t) = some (tpC D (fou f t x) (t + 4)) := by
  have st : ∀ n (k : Int32) f t, t < 900 → ¬ k < 0 → fX11_tapeInt_3 (n + 1) x k (tpC D f t) = fX11_tapeInt_3 n x (k + (-8 : Int32)) (tpC D (up f t (byt x k)) (t + 1)) := by
    intro n k f t h1 h2
    rw [fX11_tapeInt_3]
    simp (disch := omega) only [tpC_t, nI_ix, gd_tt, nI_cl, a1r]
    rw [if_neg h2, if_neg (by rw [ol_le (c := 900) (by omega) (by omega)]; omega)]
    have := tpC_s D f t (byt x k)
    unfold byt at this
    rw [this]
    rfl
  unfold fX11_tapeInt
  rw [show mz_N = 999995 + 1 + 1 + 1 + 1 + 1 from rfl, st _ _ _ _ (by omega) (by decide), show (24 : Int32) + (-8) = 16 by decide, st _ _ _ _ (by omega) (by decide), show (16 : Int32) + (-8) = 8 by decide, st _ _ _ _ (by omega) (by decide), show (8 : Int32) + (-8) = 0 by decide, st _ _ _ _ (by omega) (by decide), show (0 : Int32) + (-8) = -8 by decide, fX11_tapeInt_3]
  dsimp only
  rw [if_pos (by decide)]
  rfl
theorem tapM {D : mz_D} {f : Nat → Int32} {t : Nat} (ht : t + 4 ≤ 900) (x : Int32) : fX12_four x (tpM D f t) = some (tpM D (fou f t x) (t + 4)) := by
  have st : ∀ n (k : Int32) f t, t < 900 → ¬ k < 0 → fX12_four_3 (n + 1) x k (tpM D f t) = fX12_four_3 n x (k + (-8 : Int32)) (tpM D (up f t (byt x k)) (t + 1)) := by
    intro n k f t h1 h2
    rw [fX12_four_3]
    simp (disch := omega) only [tpM_t, nI_ix, gd_tt, nI_cl, a1r]
    rw [if_neg h2]
    have := tpM_s D f t (byt x k)
    unfold byt at this
    rw [this]
    rfl
  unfold fX12_four
  rw [show mz_N = 999995 + 1 + 1 + 1 + 1 + 1 from rfl, st _ _ _ _ (by omega) (by decide), show (24 : Int32) + (-8) = 16 by decide, st _ _ _ _ (by omega) (by decide), show (16 : Int32) + (-8) = 8 by decide, st _ _ _ _ (by omega) (by decide), show (8 : Int32) + (-8) = 0 by decide, st _ _ _ _ (by omega) (by decide), show (0 : Int32) + (-8) = -8 by decide, fX12_four_3]
  dsimp only
  rw [if_pos (by decide)]
  rfl
theorem byt_b (x k : Int32) : bd (byt x k) (-128) 127 := by
  unfold byt bd
  have h1 := Int8.toInt_lt ((x >>> (k &&& 31)).toInt8.toInt32.toInt8)
  have h2 := Int8.le_toInt ((x >>> (k &&& 31)).toInt8.toInt32.toInt8)
  rw [Int8.toInt_toInt32]
  omega
def tpE (f g : Nat → Int32) : Prop := ∀ j, j < 900 → g j = f j ∧ bd (f j) (-128) 127
theorem tpE.upb {f g : Nat → Int32} (h : tpE f g) (t : Nat) (x k : Int32) : tpE (up f t (byt x k)) (up g t (byt x k)) := fun j hj => by
  unfold up
  by_cases e : j = t
  · rw [if_pos e, if_pos e]; exact ⟨rfl, byt_b x k⟩
  · rw [if_neg e, if_neg e]; exact h j hj
theorem tpE.fou {f g : Nat → Int32} (h : tpE f g) (t : Nat) (x : Int32) : tpE (fou f t x) (fou g t x) := (((h.upb t x 24).upb (t + 1) x 16).upb (t + 2) x 8).upb (t + 3) x 0
theorem iR.tap {n : Nat} {Dc Dm : mz_D} (h : iR n Dc Dm) {f g : Nat → Int32} {t : Nat} (ht : t ≤ 900) (hfg : tpE f g) : iR n (tpC Dc f t) (tpM Dm g t) := by
  have hc : ∀ g o j, ¬ (o = 1 ∧ g = 0) → ¬ (o = 0 ∧ g = 0 ∧ j = 1) → (tpC Dc f t).1 g o j = Dc.1 g o j := fun g o j h1 h2 => by unfold tpC; rw [wi_n (by omega), wr_n (by omega)]
  have hm : ∀ a o j, ¬ (o = 206 ∧ a = 0) → ¬ (o = 200 ∧ a = 0 ∧ j = 10) → (tpM Dm g t).1 a o j = Dm.1 a o j := fun a o j h1 h2 => by unfold tpM; rw [wi_n (by omega), wr_n (by omega)]
  exact iR.mk
    (status := by rw [hc _ _ _ (by omega) (by omega), hm _ _ _ (by omega) (by omega)]; exact h.status)
    (top := h.top)
    (bottom := h.bottom)
    (fk := by rw [hc _ _ _ (by omega) (by omega), hm _ _ _ (by omega) (by omega)]; exact h.fk)
    (fp := by rw [hc _ _ _ (by omega) (by omega), hm _ _ _ (by omega) (by omega)]; exact h.fp)
    (taped := ⟨t, ht, tpM_t Dm g t, tpC_t Dc f t⟩)
    (tape := fun j hj => by
      have e1 : (tpC Dc f t).1 0 1 j = f j := by unfold tpC; rw [wi_n (by omega), wr_s]
      have e2 : (tpM Dm g t).1 0 206 j = g j := by unfold tpM; rw [wi_n (by omega), wr_s]
      rw [e1, e2]
      exact hfg j hj)
    (trays := fun s hs => (h.trays s hs).congr hs (fun o j h1 h2 => ⟨hc _ _ _ (by omega) (by omega), rfl⟩) (fun o j h1 h2 => ⟨hm _ _ _ (by omega) (by omega), rfl⟩))
    (lived := by rw [hc _ _ _ (by omega) (by omega), hm _ _ _ (by omega) (by omega)]; exact h.lived)
    (told := fun j hj => by rw [hc _ _ _ (by omega) (by omega), hm _ _ _ (by omega) (by omega)]; exact h.told j hj)
    (keys := h.keys)
    (table := by
      obtain ⟨m, d, gs, ins, ht⟩ := h.table
      exact ⟨m, d, gs, ins, ht.congr (fun o j hq => ⟨hc _ _ _ (by unfold tq at hq; omega) (by unfold tq at hq; omega), rfl⟩) (fun j hj => hm _ _ _ (by omega) (by omega)) (fun p hp => rfl)⟩)
    (marks := by
      obtain ⟨mk, h1, h2, h3, h4⟩ := h.marks
      refine ⟨mk, h1, by rw [hm _ _ _ (by omega) (by omega)]; exact h2, by rw [hc _ _ _ (by omega) (by omega)]; exact h3, fun i hi => ?_⟩
      obtain ⟨m, d, gs, ins, ht⟩ := h4 i hi
      exact ⟨m, d, gs, ins, ht.congr (fun o j hq => ⟨hc _ _ _ (by unfold tq at hq; omega) (by unfold tq at hq; omega), rfl⟩) (fun j hj => hm _ _ _ (by omega) (by omega)) (fun p hp => rfl)⟩)
theorem p_op7 : op_7 Inv := by
  intro n D x1 x2 x3 x4 x5 h
  obtain ⟨t, ht, e2, e1⟩ := iR.taped h
  by_cases hf : t + 20 ≤ 900
  · have c0 : D = tpC D (D.1 0 1) t := (tpC_0 e1).symm
    obtain ⟨f, hF⟩ : ∃ f, f = fou (fou (fou (fou (fou (D.1 0 1) t x1) (t + 4) x2) (t + 4 + 4) x3) (t + 4 + 4 + 4) x4) (t + 4 + 4 + 4 + 4) x5 := ⟨_, rfl⟩
    have eCC : fX11_feed x1 x2 x3 x4 x5 D = some (nI (t + 20), tpC D f (t + 20)) := by
      unfold fX11_feed
      rw [e1, if_pos (by rw [show nI t + (20 : Int32) = nI (t + 20) from nI_add t 20, ol_ler (c := 900) (by omega) (by omega)]; omega)]
      conv => lhs; rw [c0]
      rw [tapC (by omega), Option.bind_some, tapC (by omega), Option.bind_some, tapC (by omega), Option.bind_some, tapC (by omega), Option.bind_some, tapC (by omega), Option.bind_some, tpC_t, hF]
    have me : ∀ a o j, 200 ≤ o → (tpC D f (t + 20)).1 a o j = D.1 a o j := fun a o j ho => by unfold tpC; rw [wi_n (by omega), wr_n (by omega)]
    have e3 : (tpC D f (t + 20)).1 0 200 10 = nI t := by rw [me _ _ _ (by omega)]; exact e2
    have m0 : tpC D f (t + 20) = tpM (tpC D f (t + 20)) ((tpC D f (t + 20)).1 0 206) t := (tpM_0 e3).symm
    have r206 : (tpC D f (t + 20)).1 0 206 = D.1 0 206 := by funext j; exact me _ _ _ (by omega)
    obtain ⟨g, hG⟩ : ∃ g, g = fou (fou (fou (fou (fou (D.1 0 206) t x1) (t + 4) x2) (t + 4 + 4) x3) (t + 4 + 4 + 4) x4) (t + 4 + 4 + 4 + 4) x5 := ⟨_, rfl⟩
    have eM' : fX12_feed x1 x2 x3 x4 x5 (tpC D f (t + 20)) = some (nI (t + 20), tpM (tpC D f (t + 20)) g (t + 20)) := by
      unfold fX12_feed
      rw [e3, if_pos (by rw [show nI t + (20 : Int32) = nI (t + 20) from nI_add t 20, ol_ler (c := 900) (by omega) (by omega)]; omega)]
      conv => lhs; rw [m0]
      rw [tapM (by omega), Option.bind_some, tapM (by omega), Option.bind_some, tapM (by omega), Option.bind_some, tapM (by omega), Option.bind_some, tapM (by omega), Option.bind_some, tpM_t, hG, r206]
    have T : tpE (D.1 0 1) (D.1 0 206) := fun j hj => iR.tape h j hj
    have T2 : tpE f g := by
      rw [hF, hG]
      exact ((((T.fou t x1).fou (t + 4) x2).fou (t + 4 + 4) x3).fou (t + 4 + 4 + 4) x4).fou (t + 4 + 4 + 4 + 4) x5
    refine ⟨_, _, _, eCC, eM', ?_⟩
    have a1 : iR n D (tpC D f (t + 20)) := iR.cells h eC.rf (fun a o j h1 h2 => ⟨me a o j h1, rfl⟩)
    have a2 := (a1.tap (show t + 20 ≤ 900 from hf) T2).mono (Nat.le_succ n)
    refine a2.cells (fun a o j ho => ⟨?_, rfl⟩) eM.rf
    unfold tpM
    rw [wi_n (by omega), wr_n (by omega)]
  · refine ⟨-1, D, D, ?_, ?_, iR.mono h (Nat.le_succ n)⟩
    · unfold fX11_feed
      rw [e1, if_neg (by rw [show nI t + (20 : Int32) = nI (t + 20) from nI_add t 20, ol_ler (c := 900) (by omega) (by omega)]; omega)]
    · unfold fX12_feed
      rw [e2, if_neg (by rw [show nI t + (20 : Int32) = nI (t + 20) from nI_add t 20, ol_ler (c := 900) (by omega) (by omega)]; omega)]
