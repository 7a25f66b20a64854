/-! ===== mean: the call ===== -/
theorem m43 (E : mz_D) : fX12_mean_43 E = some (0, mz_wi E 0 200 2 1) := by
  unfold fX12_mean_43
  rw [is_e, if_neg one_ne]
theorem p_op60 : op_60 Inv := by
  intro n D x1 x2 x3 hn h
  obtain ⟨m, d, gs, ins, t⟩ := iR.t h
  have hm := t.hm
  have F2 : fX12_isFrom x2.toInt64 0 9999 = if x2 < 0 ∨ 9999 < x2 then 0 else 1 := rng rfl rfl x2
  have F3 : fX12_isFrom x3.toInt64 1 20 = if x3 < 1 ∨ 20 < x3 then 0 else 1 := rng rfl rfl x3
  rcases has_or t.hm t.many_c t.many_m x1 with ⟨c1, c2⟩ | ⟨p, hp, rfl, c1, c2⟩
  · exact q_look h (r := 0) (v := 1) (by unfold fX11_mean; rw [if_pos c1]) (fun E he => by unfold fX12_mean; rw [if_pos (by rw [has_m he]; exact c2), m43])
  · have hc : ¬ fX4_has 1 (nI p) D = 0 := by rw [c1]; exact one_ne
    have hq : ∀ E, eM D E → ¬ fX12_isPerson (nI p) E = 0 := fun E he => by rw [has_m he, c2]; exact one_ne
    by_cases h3 : x3 < 1 ∨ 20 < x3
    · refine q_look h (r := 0) (v := 1) ?_ (fun E he => ?_)
      · unfold fX11_mean
        rw [if_neg hc]
        by_cases q : x3 < 1
        · rw [if_pos q]
        · rw [if_neg q, if_pos (by rcases h3 with h | h; exact absurd h q; exact h)]
      · unfold fX12_mean
        rw [if_neg (hq E he)]
        by_cases hx2 : x2 < 0 ∨ 9999 < x2
        · rw [F2, if_pos hx2, if_pos rfl, m43]
        · rw [F2, if_neg hx2, if_neg one_ne, F3, if_pos h3, if_pos rfl, m43]
    · have k1 : ¬ x3 < 1 := fun e => h3 (Or.inl e)
      have k2 : ¬ 20 < x3 := fun e => h3 (Or.inr e)
      have i1 := i_le.mp (Int32.not_lt.mp k1)
      have i2 := i_le.mp (Int32.not_lt.mp k2)
      have o1 : (1 : Int32).toInt = 1 := rfl
      have o2 : (20 : Int32).toInt = 20 := rfl
      obtain ⟨b0, hb, rfl⟩ := nJ_of (i_le.mpr (by have : (0 : Int32).toInt = 0 := rfl; omega) : 0 ≤ x3)
      rw [nI_toInt hb] at i1 i2
      by_cases k3 : x2 < 0
      · exact q_look h (r := 0) (v := 1) (by unfold fX11_mean; rw [if_neg hc, if_neg k1, if_neg k2, if_pos k3]) (fun E he => by unfold fX12_mean; rw [if_neg (hq E he), F2, if_pos (Or.inl k3), if_pos rfl, m43])
      · obtain ⟨a0, ha, rfl⟩ := nJ_of (Int32.not_lt.mp k3)
        have sb : (10000 : Int32) - nI b0 = nI (10000 - b0) := n_sub (a := 10000) (by omega)
        have C0 : fX11_mean (nI p) (nI a0) (nI b0) D = if nI a0 ≤ nI (10000 - b0) then (if D.1 1 119 0 = 0 then some (0, mz_wi D 0 0 13 6) else fX11_mean_70 mz_N (nI p) (nI a0) (nI b0) 0 0 D) else some (0, mz_wi D 0 0 13 1) := by
          unfold fX11_mean
          rw [if_neg hc, if_neg k1, if_neg k2, if_neg k3, sb]
        by_cases k4 : a0 + b0 ≤ 10000
        · rw [if_pos (by rw [nJ_le (by omega) (by omega)]; omega)] at C0
          have hx2 : ¬ (nI a0 < 0 ∨ 9999 < nI a0) := by
            intro e
            rcases e with e | e
            · exact k3 e
            · have e : nI 9999 < nI a0 := e
              rw [nJ_lt (by omega) (by omega)] at e
              omega
          have M0 : ∀ E, eM D E → fX12_mean (nI p) (nI a0) (nI b0) E = if D.1 0 201 9 = -1 then some (0, mz_wi E 0 200 2 6) else fX12_mean_70 mz_N (nI p) (nI a0) (nI b0) 0 E := fun E he => by
            unfold fX12_mean
            rw [if_neg (hq E he), F2, if_neg hx2, if_neg one_ne, F3, if_neg h3, if_neg one_ne, nI_add, show nI (a0 + b0) - (1 : Int32) = nI (a0 + b0 - 1) from n_sub (b := 1) (by omega), if_pos (by show nI _ ≤ nI 9999; rw [nJ_le (by omega) (by omega)]; omega), z9, (he _ _ _ (by omega) (by omega)).1, is_e, show (if (6 : Int32) = 0 then (1 : Int32) else 0) = 0 from by decide]
          rcases t.year with ⟨y1, y2⟩ | ⟨y1, N, S, c, e, enc, y2, -, Y⟩
          · have y2 : D.1 0 201 9 = -1 := y2
            exact q_look h (r := 0) (v := 6) (by rw [C0, if_pos y1]) (fun E he => by rw [M0 E he, if_pos y2])
          · have n9 : ¬ D.1 0 201 9 = -1 := by
              have y2 : D.1 0 201 9 = nI N := y2
              have := Y.hN
              rw [y2]
              exact fun e => (nI_ne1 (by omega)).mp e
            have z64 : (0 : Int64).toInt = 0 := rfl
            obtain ⟨yE, DcE, e1, e2, e3, e4⟩ := meanL hn t y1 hp k4 (by omega) b0 0 (by omega) 0 D sC.rf (by rw [z64]; omega) (by rw [z64]; omega)
            have R : ∀ E, ∃ FE, eM D E → sM E FE ∧ fX12_mean (nI p) (nI a0) (nI b0) E = Option.bind (fX12_tellsBy yE (nI b0).toInt64 FE) fun q => mz_gd (mz_bo q.1) (some (q.1, q.2)) := fun E => by
              by_cases he : eM D E
              · obtain ⟨FE, f1, f2⟩ := e4 E (wr E 0 201 (fun j => if 2500 ≤ j ∧ j < 2630 then E.1 0 201 (j - 2500) else E.1 0 201 j)) mz_N he (fun a o j hq => by
                  refine ⟨?_, rfl⟩
                  by_cases e : a = 0 ∧ o = 201
                  · obtain ⟨rfl, rfl⟩ := e
                    rw [wr_s]
                    exact if_neg (fun x => hq (by unfold sMq; omega))
                  · exact wr_n (by omega)) (fun j hj => by rw [wr_s, if_pos (by omega), show 2500 + j - 2500 = j by omega]) (N_lt (by omega))
                exact ⟨FE, fun _ => ⟨f1, by rw [M0 E he, if_neg n9, sav]; exact f2⟩⟩
              · exact ⟨E, fun x => absurd x he⟩
            obtain ⟨F0, hF⟩ := Classical.skolem.mp R
            have b64 : ((nI b0).toInt64).toInt = b0 := by rw [t64, nI_toInt hb]
            refine q_tell h (y1 := yE) (y3 := (nI b0).toInt64) (k := 1) (by omega) (one_k rfl) (one_k rfl) e2 (by rw [b64]; omega) (by rw [b64]; omega) DcE e1 ?_ F0 hF
            rw [C0, if_neg (by rw [y1]; exact one_ne)]
            exact e3 mz_N (N_lt (by omega))
        · refine q_look h (r := 0) (v := 1) (by rw [C0, if_neg (by rw [nJ_le (by omega) (by omega)]; omega)]) (fun E he => ?_)
          unfold fX12_mean
          rw [if_neg (hq E he)]
          by_cases hx2 : nI a0 < 0 ∨ 9999 < nI a0
          · rw [F2, if_pos hx2, if_pos rfl, m43]
          · have a9 : a0 ≤ 9999 := by
              have : ¬ nI 9999 < nI a0 := fun e => hx2 (Or.inr e)
              rw [nJ_lt (by omega) (by omega)] at this
              omega
            rw [F2, if_neg hx2, if_neg one_ne, F3, if_neg h3, if_neg one_ne, nI_add, show nI (a0 + b0) - (1 : Int32) = nI (a0 + b0 - 1) from n_sub (b := 1) (by omega), if_neg (by show ¬ nI _ ≤ nI 9999; rw [nJ_le (by omega) (by omega)]; omega), m43]
