/-! ===== receipts: the call ===== -/
theorem wrM_write {E : mz_D} {b z k : Nat} (hb : b < 4) (hz : z ≤ 60) (hk : k < z) (e : E.1 0 204 b = nI z) (y : Int64) : fX12_write (nI b) (nI k) y E = some (1, mz_wi (mz_wg E 0 205 (60 * b + k) (fX8_cut (E.1 0 203 b) y)) 0 200 2 0) := by
  have it : fX12_isTray (nI b) = 1 := by
    unfold fX12_isTray
    rw [if_neg (nI_neg (by omega)).mp, if_neg (by rw [ol_le (c := 4) (by omega) (by omega)]; omega)]
  unfold fX12_write fX12_wrongPlace fX12_write_34
  rw [it, if_neg one_ne, nI_ix hb (by omega), gd_tt, nI_cl (by omega), e, if_neg (fun q => (nI_ne1 (k := z) (by omega)).mp q), if_neg (nI_neg (by omega)).mp, if_pos (by rw [nJ_lt (by omega) (by omega)]; exact hk), Option.bind_some, if_pos rfl, gd_tt]
  simp (disch := omega) only [l60m, nI_add, nI_ix, gd_tt, nI_cl]
  rw [is_e]
  rfl
theorem wi_ww (D : mz_D) (g o j : Nat) (x y : Int32) : mz_wi (mz_wi D g o j x) g o j y = mz_wi D g o j y := by
  refine mzD_ext (fun a b c => ?_) rfl
  by_cases e : b = o ∧ a = g ∧ c = j
  · rw [e.1, e.2.1, e.2.2, wi_s, wi_s]
  · rw [wi_n (by omega), wi_n (by omega), wi_n (by omega)]
theorem wg_wi (D : mz_D) (g o j g' o' j' : Nat) (x : Int32) (y : Int64) : mz_wg (mz_wi D g o j x) g' o' j' y = mz_wi (mz_wg D g' o' j' y) g o j x := rfl
theorem p_op56 : op_56 Inv := by
  intro n D x1 x2 x3 x4 h
  obtain ⟨m, d, gs, ins, tt⟩ := iR.t h
  have hm := tt.hm
  have F1 : fX12_isFrom x3.toInt64 1 999 = if x3 < 1 ∨ 999 < x3 then 0 else 1 := rng rfl rfl x3
  have ref : (fX8_has x1 = 0 ∨ fX8_has x4 = 0 ∨ x3 < 1 ∨ 999 < x3 ∨ x2 < 0 ∨ m = 0) → ∃ (r : Int32) (D1 D2 : mz_D), fX11_receipts x1 x2 x3 x4 D = some (r, D1) ∧ fX12_receipts x1 x2 x3 x4 D1 = some (r, D2) ∧ Inv (n + 1) D2 := by
    intro hx
    refine q_look h (r := -1) (v := 1) ?_ (fun E he => ?_)
    · unfold fX11_receipts
      by_cases c1 : fX8_has x1 = 0
      · rw [if_pos c1]
      · by_cases c2 : fX8_has x4 = 0
        · rw [if_neg c1, if_pos c2]
        · by_cases c3 : x3 < 1
          · rw [if_neg c1, if_neg c2, if_pos c3]
          · by_cases c4 : 999 < x3
            · rw [if_neg c1, if_neg c2, if_neg c3, if_pos c4]
            · by_cases c5 : x2 < 0
              · rw [if_neg c1, if_neg c2, if_neg c3, if_neg c4, if_pos c5]
              · have hz : m = 0 := by rcases hx with h | h | h | h | h | h <;> first | exact absurd h c1 | exact absurd h c2 | exact absurd h c3 | exact absurd h c4 | exact absurd h c5 | exact h
                rw [if_neg c1, if_neg c2, if_neg c3, if_neg c4, if_neg c5, tt.many_c, hz, if_pos (by decide)]
    · unfold fX12_receipts
      rw [F1]
      by_cases c1 : fX8_has x1 = 0
      · rw [if_pos (show fX12_isTray x1 = 0 from c1)]
      · by_cases c2 : fX8_has x4 = 0
        · rw [if_neg (show ¬ fX12_isTray x1 = 0 from c1), if_pos (show fX12_isTray x4 = 0 from c2)]
        · by_cases c5 : x2 < 0
          · rw [if_neg (show ¬ fX12_isTray x1 = 0 from c1), if_neg (show ¬ fX12_isTray x4 = 0 from c2), if_pos c5]
          · by_cases c3 : x3 < 1 ∨ 999 < x3
            · rw [if_neg (show ¬ fX12_isTray x1 = 0 from c1), if_neg (show ¬ fX12_isTray x4 = 0 from c2), if_neg c5, if_pos c3, if_pos rfl]
            · have hz : m = 0 := by rcases hx with h | h | h | h | h | h <;> first | exact absurd h c1 | exact absurd h c2 | exact absurd (Or.inl h) c3 | exact absurd (Or.inr h) c3 | exact absurd h c5 | exact h
              rw [if_neg (show ¬ fX12_isTray x1 = 0 from c1), if_neg (show ¬ fX12_isTray x4 = 0 from c2), if_neg c5, if_neg c3, if_neg one_ne, z0, (tt.m he).uMany, hz, if_pos (by decide)]
  rcases try_or x1 with ⟨c1, c2⟩ | ⟨a, ha, rfl, c1, c2⟩
  · exact ref (Or.inl c1)
  · rcases try_or x4 with ⟨d1, d2⟩ | ⟨b, hb, rfl, d1, d2⟩
    · exact ref (Or.inr (Or.inl d1))
    · by_cases k3 : x3 < 1
      · exact ref (Or.inr (Or.inr (Or.inl k3)))
      · by_cases k4 : 999 < x3
        · exact ref (Or.inr (Or.inr (Or.inr (Or.inl k4))))
        · by_cases k2 : x2 < 0
          · exact ref (Or.inr (Or.inr (Or.inr (Or.inr (Or.inl k2)))))
          · by_cases k0 : m = 0
            · exact ref (Or.inr (Or.inr (Or.inr (Or.inr (Or.inr k0)))))
            · obtain ⟨dn, hdn, rfl⟩ := nJ_of (Int32.not_lt.mp k2)
              have n1 : ¬ fX8_has (nI a) = 0 := by rw [c1]; exact one_ne
              have n2 : ¬ fX8_has (nI b) = 0 := by rw [d1]; exact one_ne
              have m1 : ¬ fX12_isTray (nI a) = 0 := by rw [c2]; exact one_ne
              have m2 : ¬ fX12_isTray (nI b) = 0 := by rw [d2]; exact one_ne
              have nz : ¬ nI m = 0 := by rw [ol_eqi (c := 0) (by omega) (by omega)]; exact k0
              have k34 : ¬ (x3 < 1 ∨ 999 < x3) := fun e => by rcases e with e | e; exact k3 e; exact k4 e
              have C0 : fX11_receipts (nI a) (nI dn) x3 (nI b) D = (if (if D.1 0 5 a = -1 then (1 : Int32) else 0) = 0 then (if (if D.1 0 5 b = -1 then (1 : Int32) else 0) = 0 then (Option.bind (fX8_holds (nI a) (0 : Int32) (nI dn) D) fun q11 => (if q11 = 0 then (some ((-1 : Int32), (mz_wi D 0 0 13 (3 : Int32)))) else (Option.bind (fX8_holds (nI b) (0 : Int32) (nI m) D) fun q13 => (if q13 = 0 then (some ((-1 : Int32), (mz_wi D 0 0 13 (3 : Int32)))) else (Option.bind (fX8_areWithin (nI a) (nI dn) (0 : Int64) ((nI m - (1 : Int32))).toInt64 D) fun q15 => (if q15 = 0 then (some ((-1 : Int32), (mz_wi D 0 0 13 (5 : Int32)))) else (Option.bind (fJ7_fill_53178_14 (0 : Int32) D) fun q17 => (fX11_receipts_160 mz_N (nI a) (nI dn) x3 (nI b) (nI m) (0 : Int32) q17)))))))) else (some ((-1 : Int32), (mz_wi D 0 0 13 (2 : Int32))))) else (some ((-1 : Int32), (mz_wi D 0 0 13 (2 : Int32))))) := by
                unfold fX11_receipts
                rw [if_neg n1, if_neg n2, if_neg k3, if_neg k4, if_neg k2, tt.many_c, if_neg nz, mis ha, Option.bind_some, mis hb, Option.bind_some]
              have M0 : ∀ E, eM D E → fX12_receipts (nI a) (nI dn) x3 (nI b) E = (if (E.1 0 204 a) = (-1 : Int32) then (some ((-1 : Int32), (mz_wi E 0 200 2 (2 : Int32)))) else (if (E.1 0 204 b) = (-1 : Int32) then (some ((-1 : Int32), (mz_wi E 0 200 2 (2 : Int32)))) else (if (E.1 0 204 a) < nI dn then (some ((-1 : Int32), (mz_wi E 0 200 2 (3 : Int32)))) else (if nI m ≤ (E.1 0 204 b) then (fX12_receipts_108 mz_N (nI a) (nI dn) x3 (nI b) (0 : Int32) E) else (some ((-1 : Int32), (mz_wi E 0 200 2 (3 : Int32)))))))) := fun E he => by
                unfold fX12_receipts
                rw [if_neg m1, if_neg m2, if_neg k2, F1, if_neg k34, if_neg one_ne, z0, (tt.m he).uMany, if_neg nz, nI_ix ha (by omega), gd_tt, nI_ix hb (by omega), gd_tt, nI_cl (by omega), nI_cl (by omega)]
              rcases tr_cs (iR.trays h a ha) with ⟨a1, a2⟩ | ⟨a1, a2, z, z1, z2, z3, z4, z5⟩
              · exact q_look h (r := -1) (v := 2) (by rw [C0, if_pos a1, if_neg one_ne]) (fun E he => by rw [M0 E he, (he _ _ _ (by omega) (by omega)).1, if_pos a2])
              · rcases tr_cs (iR.trays h b hb) with ⟨b1, b2⟩ | ⟨b1, b2, w, w1, w2, w3, w4, w5⟩
                · exact q_look h (r := -1) (v := 2) (by rw [C0, if_neg a1, if_pos rfl, if_pos b1, if_neg one_ne]) (fun E he => by rw [M0 E he, (he 0 204 a (by omega) (by omega)).1, if_neg a2, (he 0 204 b (by omega) (by omega)).1, if_pos b2])
                · rw [if_neg a1, if_pos rfl, if_neg b1, if_pos rfl, hld0 ha z1 z2 (by omega), hld0 hb w1 w2 (by omega), Option.bind_some, Option.bind_some] at C0
                  have M1 : ∀ E, eM D E → fX12_receipts (nI a) (nI dn) x3 (nI b) E = (if nI z < nI dn then (some ((-1 : Int32), (mz_wi E 0 200 2 (3 : Int32)))) else (if nI m ≤ nI w then (fX12_receipts_108 mz_N (nI a) (nI dn) x3 (nI b) (0 : Int32) E) else (some ((-1 : Int32), (mz_wi E 0 200 2 (3 : Int32)))))) := fun E he => by
                    rw [M0 E he, (he 0 204 a (by omega) (by omega)).1, if_neg a2, (he 0 204 b (by omega) (by omega)).1, if_neg b2, z3, w3]
                  by_cases e1 : dn ≤ z
                  · by_cases e2 : m ≤ w
                    · rw [if_pos e1, if_neg one_ne, if_pos e2, if_neg one_ne] at C0
                      have M2 : ∀ E, eM D E → fX12_receipts (nI a) (nI dn) x3 (nI b) E = fX12_receipts_108 mz_N (nI a) (nI dn) x3 (nI b) (0 : Int32) E := fun E he => by
                        rw [M1 E he, if_neg (by rw [nJ_lt (by omega) (by omega)]; omega), if_pos (by rw [nJ_le (by omega) (by omega)]; exact e2)]
                      have hi1 : ((nI m - (1 : Int32)).toInt64).toInt = (m : Int) - 1 := by
                        rw [t64, i_sub (by rw [nI_toInt (by omega), show (1 : Int32).toInt = 1 from rfl]; omega) (by rw [nI_toInt (by omega), show (1 : Int32).toInt = 1 from rfl]; omega), nI_toInt (by omega)]
                        rfl
                      have hi2 : ((nI m).toInt64 - (1 : Int64)).toInt = (m : Int) - 1 := by
                        rw [tl_nI (by omega), show (1 : Int64) = nL 1 from rfl, nL_sub (by omega), nL_toInt (by omega)]
                        omega
                      have step : ∀ E, eM D E → ∀ n k, k < dn → fX12_receipts_108 (n + 1) (nI a) (nI dn) x3 (nI b) (nI k) E = if ((0 : Int64).toInt ≤ (D.2 0 7 (60 * a + k)).toInt ∧ (D.2 0 7 (60 * a + k)).toInt ≤ ((nI m - (1 : Int32)).toInt64).toInt) then fX12_receipts_108 n (nI a) (nI dn) x3 (nI b) (nI (k + 1)) E else some (-1, mz_wi E 0 200 2 5) := fun E he n k hk => by
                        rw [fX12_receipts_108]
                        simp (disch := omega) only [z0, (tt.m he).uMany, nJ_le, l60m, nI_add, nI_ix, gd_tt, nI_cl, a1r, (he 0 205 (60 * a + k) (by omega) (by omega)).2, z5 k (by omega), from_e, hi1, hi2]
                        rw [if_neg (by omega)]
                        by_cases c : ((0 : Int64).toInt ≤ (D.2 0 7 (60 * a + k)).toInt ∧ (D.2 0 7 (60 * a + k)).toInt ≤ (m : Int) - 1)
                        · rw [if_pos c, if_neg (show ¬ ((D.2 0 7 (60 * a + k)).toInt < (0 : Int64).toInt ∨ (m : Int) - 1 < (D.2 0 7 (60 * a + k)).toInt) by omega), if_neg one_ne]
                        · rw [if_neg c, if_pos (show ((D.2 0 7 (60 * a + k)).toInt < (0 : Int64).toInt ∨ (m : Int) - 1 < (D.2 0 7 (60 * a + k)).toInt) by omega), if_pos rfl]
                      by_cases ok : ∀ i, i < dn → (0 : Int64).toInt ≤ (D.2 0 7 (60 * a + i)).toInt ∧ (D.2 0 7 (60 * a + i)).toInt ≤ ((nI m - (1 : Int32)).toInt64).toInt
                      · obtain ⟨by0, hby⟩ : ∃ by0 : Nat → Nat, ∀ k, k < dn → by0 k < m ∧ (D.2 0 7 (60 * a + k)).toInt32 = nI (by0 k) := by
                          refine ⟨fun k => (D.2 0 7 (60 * a + k)).toInt.toNat, fun k hk => ?_⟩
                          have o := ok k hk
                          rw [hi1, show (0 : Int64).toInt = 0 from rfl] at o
                          refine ⟨by show (D.2 0 7 (60 * a + k)).toInt.toNat < m; omega, ?_⟩
                          show (D.2 0 7 (60 * a + k)).toInt32 = nI (D.2 0 7 (60 * a + k)).toInt.toNat
                          rw [i_eq, Int64.toInt_toInt32, nI_toInt (by omega), Int.bmod_eq_of_le (by omega) (by omega)]
                          omega
                        obtain ⟨f0, hf0⟩ : ∃ f0 : Nat → Int32, f0 = fun i => if i < 6 then 0 else D.1 0 14 i := ⟨_, rfl⟩
                        obtain ⟨W, hW⟩ : ∃ W : Nat → Int32, W = rcD by0 x3 (hdS m gs) m f0 dn := ⟨_, rfl⟩
                        refine q_trs h (r := nI m) (v := 0) (E := wl (wr D 0 14 W) 0 7 (ptR (D.2 0 7) b (D.1 0 5 b) W m)) (fun g o c hn => ?_) ?_ (fun E he => ?_)
                        · have hq1 : ¬ (g = 0 ∧ 5 ≤ o ∧ o ≤ 7) := fun q => hn (Or.inr q)
                          have hq2 : ¬ (o = 14) := fun q => hn (Or.inl (by unfold sCq; omega))
                          exact ⟨by rw [wl_1, wr_n (by omega)], by rw [wl_n (by omega)]; rfl⟩
                        · rw [C0, (witC ha (by omega) _ _).1 ok, Option.bind_some, if_neg one_ne, fill_14, Option.bind_some, ← hf0]
                          refine Eq.trans (lpD (fun n s k => fX11_receipts_160 n (nI a) (nI dn) x3 (nI b) (nI m) k s) (fun k => wr D 0 14 (rcD by0 x3 (hdS m gs) m f0 k)) dn (r := fX11_receipts_191 mz_N (nI b) (nI m) 0 (wr D 0 14 W)) (fun n k hk => ?_) (fun n => ?_) dn 0 mz_N (by omega) (N_lt (by omega))) ?_
                          · show fX11_receipts_160 (n + 1) (nI a) (nI dn) x3 (nI b) (nI m) (nI k) (wr D 0 14 (rcD by0 x3 (hdS m gs) m f0 k)) = fX11_receipts_160 n (nI a) (nI dn) x3 (nI b) (nI m) (nI (k + 1)) (wr D 0 14 (rcD by0 x3 (hdS m gs) m f0 (k + 1)))
                            rw [fX11_receipts_160]
                            dsimp only
                            rw [if_neg (by rw [nJ_le (by omega) (by omega)]; omega), getC ha (by omega), Option.bind_some, wr_2, (hby k hk).2, addRC hm tt.hgs (hby k hk).1 tt.many_c tt.guests_c, Option.bind_some, a1r]
                            rfl
                          · show fX11_receipts_160 (n + 1) (nI a) (nI dn) x3 (nI b) (nI m) (nI dn) (wr D 0 14 (rcD by0 x3 (hdS m gs) m f0 dn)) = _
                            rw [fX11_receipts_160]
                            dsimp only
                            rw [if_pos (Int32.le_refl _), hW]
                          have key : fX11_receipts_191 mz_N (nI b) (nI m) (nI 0) (wl (wr D 0 14 W) 0 7 (ptR (D.2 0 7) b (D.1 0 5 b) W 0)) = some (nI m, mz_wi (wl (wr D 0 14 W) 0 7 (ptR (D.2 0 7) b (D.1 0 5 b) W m)) 0 0 13 0) := lpD (fun n s k => fX11_receipts_191 n (nI b) (nI m) k s) (fun k => wl (wr D 0 14 W) 0 7 (ptR (D.2 0 7) b (D.1 0 5 b) W k)) m (fun n k hk => by
                            show fX11_receipts_191 (n + 1) (nI b) (nI m) (nI k) (wl (wr D 0 14 W) 0 7 (ptR (D.2 0 7) b (D.1 0 5 b) W k)) = fX11_receipts_191 n (nI b) (nI m) (nI (k + 1)) (wl (wr D 0 14 W) 0 7 (ptR (D.2 0 7) b (D.1 0 5 b) W (k + 1)))
                            rw [fX11_receipts_191]
                            unfold fX8_put
                            simp (disch := omega) only [wl_1, wr_s, wr_n (show 5 ≠ 14 ∨ 0 ≠ 0 from Or.inl (by decide)), r60m, nI_add, nI_ix, gd_tt, nI_cl, nJ_le, a1r, Option.bind_some, wl_up]
                            rw [if_neg (by omega), show b * 60 + k = 60 * b + k by omega, ptR_s]) (fun n => by
                            show fX11_receipts_191 (n + 1) (nI b) (nI m) (nI m) _ = _
                            rw [fX11_receipts_191]
                            dsimp only
                            rw [if_pos (Int32.le_refl _)]) m 0 mz_N (by omega) (N_lt (by omega))
                          rw [ptR_0] at key
                          have e0 : wl (wr D 0 14 W) 0 7 (D.2 0 7) = wr D 0 14 W := wl_id (wr D 0 14 W) 0 7
                          rw [e0] at key
                          exact key
                        · have t2 := tt.m he
                          have r3 : E.1 0 203 b = D.1 0 5 b := by rw [(he 0 203 b (by omega) (by omega)).1]; exact w4
                          have r4 : E.1 0 204 b = nI w := by rw [(he 0 204 b (by omega) (by omega)).1]; exact w3
                          obtain ⟨g0, hg0⟩ : ∃ g0 : Nat → Int32, g0 = fun i => if i < m then 0 else E.1 0 210 i := ⟨_, rfl⟩
                          obtain ⟨V, hV⟩ : ∃ V : Nat → Int32, V = rcD by0 x3 (hdS m gs) m g0 dn := ⟨_, rfl⟩
                          have WV : ∀ i, i < m → W i = V i := by
                            rw [hW, hV]
                            refine rcD_c (K := dn) (fun k hk => (hby k hk).1) (fun i hi => ?_) dn (Nat.le_refl _)
                            rw [hf0, hg0]
                            dsimp only
                            rw [if_pos (show i < 6 by omega), if_pos hi]
                          refine ⟨wl (wr E 0 210 V) 0 205 (ptR (E.2 0 205) b (D.1 0 5 b) V m), fun g o c hn => ?_, ?_, fun t' ht' => ?_⟩
                          · have hq1 : ¬ (203 ≤ o ∧ o ≤ 205) := fun q => hn (Or.inr q)
                            have hq2 : ¬ (o = 210) := fun q => hn (Or.inl (by unfold sMq; omega))
                            exact ⟨by rw [wl_1, wr_n (by omega)], by rw [wl_n (by omega)]; rfl⟩
                          · rw [M2 E he]
                            refine Eq.trans (lpD (fun n (_ : Unit) k => fX12_receipts_108 n (nI a) (nI dn) x3 (nI b) k E) (fun _ => ()) dn (r := fX12_receipts_157 mz_N (nI a) (nI dn) x3 (nI b) 0 E) (fun n k hk => ?_) (fun n => ?_) dn 0 mz_N (by omega) (N_lt (by omega))) ?_
                            · show fX12_receipts_108 (n + 1) (nI a) (nI dn) x3 (nI b) (nI k) E = fX12_receipts_108 n (nI a) (nI dn) x3 (nI b) (nI (k + 1)) E
                              rw [step E he n k hk, if_pos (ok k hk)]
                            · show fX12_receipts_108 (n + 1) (nI a) (nI dn) x3 (nI b) (nI dn) E = _
                              rw [fX12_receipts_108]
                              dsimp only
                              rw [if_pos (Int32.le_refl _)]
                            have k157 : fX12_receipts_157 mz_N (nI a) (nI dn) x3 (nI b) (nI 0) (wr E 0 210 (fun i => if i < 0 then 0 else E.1 0 210 i)) = fX12_receipts_185 mz_N (nI a) (nI dn) x3 (nI b) 0 (wr E 0 210 g0) := lpD (fun n s k => fX12_receipts_157 n (nI a) (nI dn) x3 (nI b) k s) (fun k => wr E 0 210 (fun i => if i < k then 0 else E.1 0 210 i)) m (fun n k hk => by
                              show fX12_receipts_157 (n + 1) (nI a) (nI dn) x3 (nI b) (nI k) (wr E 0 210 (fun i => if i < k then 0 else E.1 0 210 i)) = fX12_receipts_157 n (nI a) (nI dn) x3 (nI b) (nI (k + 1)) (wr E 0 210 (fun i => if i < k + 1 then 0 else E.1 0 210 i))
                              have tk := t2.wrM (o := 210) (by decide) (fun i => if i < k then 0 else E.1 0 210 i)
                              rw [fX12_receipts_157]
                              simp (disch := omega) only [z0, tk.uMany, nJ_le, nI_ix, gd_tt, nI_cl, a1r, wr_up]
                              rw [if_neg (by omega), fill_up E 0 210 k 0 m hk]) (fun n => by
                              show fX12_receipts_157 (n + 1) (nI a) (nI dn) x3 (nI b) (nI m) (wr E 0 210 (fun i => if i < m then 0 else E.1 0 210 i)) = _
                              have tk := t2.wrM (o := 210) (by decide) (fun i => if i < m then 0 else E.1 0 210 i)
                              rw [fX12_receipts_157]
                              dsimp only
                              rw [z0, tk.uMany, if_pos (Int32.le_refl _), hg0]) m 0 mz_N (by omega) (N_lt (by omega))
                            have e0 : (fun i => if i < 0 then 0 else E.1 0 210 i) = E.1 0 210 := by funext i; exact if_neg (by omega)
                            rw [e0, wr_id] at k157
                            refine Eq.trans k157 ?_
                            refine Eq.trans (lpD (fun n s k => fX12_receipts_185 n (nI a) (nI dn) x3 (nI b) k s) (fun k => wr E 0 210 (rcD by0 x3 (hdS m gs) m g0 k)) dn (r := fX12_receipts_280 mz_N (nI b) 0 (wr E 0 210 V)) (fun n k hk => ?_) (fun n => ?_) dn 0 mz_N (by omega) (N_lt (by omega))) ?_
                            · show fX12_receipts_185 (n + 1) (nI a) (nI dn) x3 (nI b) (nI k) (wr E 0 210 (rcD by0 x3 (hdS m gs) m g0 k)) = fX12_receipts_185 n (nI a) (nI dn) x3 (nI b) (nI (k + 1)) (wr E 0 210 (rcD by0 x3 (hdS m gs) m g0 (k + 1)))
                              rw [fX12_receipts_185]
                              simp (disch := omega) only [nJ_le, l60m, nI_add, nI_ix, gd_tt, nI_cl, wr_2, (he 0 205 (60 * a + k) (by omega) (by omega)).2, z5 k (by omega), (hby k hk).2]
                              rw [if_neg (by omega), addRM t2 (hby k hk).1, a1r]
                              rfl
                            · show fX12_receipts_185 (n + 1) (nI a) (nI dn) x3 (nI b) (nI dn) (wr E 0 210 (rcD by0 x3 (hdS m gs) m g0 dn)) = _
                              rw [fX12_receipts_185]
                              dsimp only
                              rw [if_pos (Int32.le_refl _), hV]
                            obtain ⟨s', n', ⟨x, hs'⟩, eq⟩ := lpE (fun n s k => fX12_receipts_280 n (nI b) k s) (fun k s => ∃ x, s = mz_wi (wl (wr E 0 210 V) 0 205 (ptR (E.2 0 205) b (D.1 0 5 b) V k)) 0 200 2 x) m (fun n s k hk hS => by
                              obtain ⟨x, rfl⟩ := hS
                              refine ⟨mz_wi (wl (wr E 0 210 V) 0 205 (ptR (E.2 0 205) b (D.1 0 5 b) V (k + 1))) 0 200 2 0, ⟨0, rfl⟩, ?_⟩
                              have q0 : (mz_wi (wl (wr E 0 210 V) 0 205 (ptR (E.2 0 205) b (D.1 0 5 b) V k)) 0 200 2 x).1 0 201 0 = nI m := by rw [wi_n (by omega), wl_1, wr_n (Or.inl (by decide))]; exact t2.uMany
                              have q1 : (mz_wi (wl (wr E 0 210 V) 0 205 (ptR (E.2 0 205) b (D.1 0 5 b) V k)) 0 200 2 x).1 0 210 k = V k := by rw [wi_n (by omega), wl_1, wr_s]
                              have q2 : (mz_wi (wl (wr E 0 210 V) 0 205 (ptR (E.2 0 205) b (D.1 0 5 b) V k)) 0 200 2 x).1 0 204 b = nI w := by rw [wi_n (by omega), wl_1, wr_n (Or.inl (by decide))]; exact r4
                              have q3 : (mz_wi (wl (wr E 0 210 V) 0 205 (ptR (E.2 0 205) b (D.1 0 5 b) V k)) 0 200 2 x).1 0 203 b = D.1 0 5 b := by rw [wi_n (by omega), wl_1, wr_n (Or.inl (by decide))]; exact r3
                              rw [fX12_receipts_280]
                              dsimp only
                              rw [z0, q0, if_neg (by rw [nJ_le (by omega) (by omega)]; omega), nI_ix (by omega) (by omega), gd_tt, nI_cl (by omega), q1, wrM_write hb w1 (show k < w by omega) q2, q3, Option.bind_some, a1r, wg_wi, wi_ww, wl_up, ptR_s]) m mz_N 0 (wr E 0 210 V) (by omega) (N_lt (by omega)) ⟨E.1 0 200 2, by
                                rw [ptR_0]
                                have e5 : wl (wr E 0 210 V) 0 205 (E.2 0 205) = wr E 0 210 V := wl_id (wr E 0 210 V) 0 205
                                rw [e5, wi_id (wr_n (Or.inl (by decide)))]⟩
                            refine Eq.trans eq ?_
                            show fX12_receipts_280 (n' + 1) (nI b) (nI m) s' = _
                            rw [hs', fX12_receipts_280]
                            dsimp only
                            have q0 : (mz_wi (wl (wr E 0 210 V) 0 205 (ptR (E.2 0 205) b (D.1 0 5 b) V m)) 0 200 2 x).1 0 201 0 = nI m := by rw [wi_n (by omega), wl_1, wr_n (Or.inl (by decide))]; exact t2.uMany
                            rw [z0, q0, if_pos (Int32.le_refl _), wi_ww]
                          · have tr := iR.tE h he ht'
                            unfold trR at tr ⊢
                            rw [wl_1, wl_1]
                            simp (disch := omega) only [wr_n (show 5 ≠ 14 ∨ 0 ≠ 0 from Or.inl (by decide)), wr_n (show 6 ≠ 14 ∨ 0 ≠ 0 from Or.inl (by decide)), wr_n (show 203 ≠ 210 ∨ 0 ≠ 0 from Or.inl (by decide)), wr_n (show 204 ≠ 210 ∨ 0 ≠ 0 from Or.inl (by decide)), wl_s]
                            rcases tr with tr | ⟨z', h1, h2, h3, h4, h5, h6⟩
                            · exact Or.inl tr
                            · refine Or.inr ⟨z', h1, h2, h3, h4, h5, fun i hi => ?_⟩
                              unfold ptR
                              by_cases e : 60 * b ≤ 60 * t' + i ∧ 60 * t' + i < 60 * b + m
                              · rw [if_pos e, if_pos e, WV _ (by omega)]
                              · rw [if_neg e, if_neg e]
                                exact h6 i hi
                      · obtain ⟨K, hK, hbad, hlt⟩ := least ok
                        refine q_look h (r := -1) (v := 5) ?_ (fun E he => ?_)
                        · rw [C0, (witC ha (by omega) _ _).2 ok, Option.bind_some, if_pos rfl]
                        · rw [M2 E he]
                          exact lpD (fun n (_ : Unit) k => fX12_receipts_108 n (nI a) (nI dn) x3 (nI b) k E) (fun _ => ()) K (fun n k hk => by
                            show fX12_receipts_108 (n + 1) (nI a) (nI dn) x3 (nI b) (nI k) E = fX12_receipts_108 n (nI a) (nI dn) x3 (nI b) (nI (k + 1)) E
                            rw [step E he n k (by omega), if_pos (hlt k hk)]) (fun n => by
                            show fX12_receipts_108 (n + 1) (nI a) (nI dn) x3 (nI b) (nI K) E = _
                            rw [step E he n K hK, if_neg hbad]) K 0 mz_N (by omega) (N_lt (by omega))
                    · rw [if_pos e1, if_neg one_ne, if_neg e2, if_pos rfl] at C0
                      exact q_look h (r := -1) (v := 3) C0 (fun E he => by rw [M1 E he, if_neg (by rw [nJ_lt (by omega) (by omega)]; omega), if_neg (by rw [nJ_le (by omega) (by omega)]; exact e2)])
                  · rw [if_neg e1, if_pos rfl] at C0
                    exact q_look h (r := -1) (v := 3) C0 (fun E he => by rw [M1 E he, if_pos (by rw [nJ_lt (by omega) (by omega)]; omega)])
