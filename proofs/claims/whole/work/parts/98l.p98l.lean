theorem zr_n {D : mz_D} {g o a b c : Nat} (h : b ≠ o ∨ a ≠ g) : (mz_zr D g o).1 a b c = D.1 a b c := if_neg (by omega)
theorem zr_s (D : mz_D) (g o c : Nat) : (mz_zr D g o).1 g o c = 0 := if_pos ⟨rfl, rfl⟩
theorem zr_2 (D : mz_D) (g o : Nat) : (mz_zr D g o).2 = D.2 := rfl
/-- a text is opened, in both -/
theorem opn {C M1 : mz_D} {L : Nat} (hL : L ≤ 900) (hk : C.2 0 3 = cz_DK.2 0 3) (hb : ∀ j, j < L → M1.1 0 207 j = C.1 0 1 j ∧ bd (C.1 0 1 j) (-128) 127) (m11 : M1.1 0 200 11 = nI L) (m14 : M1.1 0 200 14 = 0) (m18 : M1.1 0 200 18 = 0) (m17 : M1.1 0 200 17 = -1) : ∃ s C' M', fX5_open (nI L) C = some C' ∧ fX12_ahead M1 = some M' ∧ rdR L s C' M' ∧ (∀ g o j, ¬ (g = 0 ∧ o = 2) → C'.1 g o j = C.1 g o j ∧ C'.2 g o j = C.2 g o j) ∧ pM M1 M' := by
  have mn : fJ9_min_7cf53 (nI L) (Int32.ofNat 900) = nI L := by
    unfold fJ9_min_7cf53
    rw [if_neg (by show ¬ nI 900 < nI L; rw [nJ_lt (by omega) (by omega)]; omega)]
  have t0 : tx L (mz_wi (mz_wi (mz_wi (mz_wi C 0 2 4 (nI L)) 0 2 5 0) 0 2 0 0) 0 2 1 (-1)) M1 := by
    refine ⟨hL, ?_, m11, fun j hj => ?_, ?_⟩
    · rw [wi_n (by omega), wi_n (by omega), wi_n (by omega), wi_s]
    · rw [wi_n (by omega), wi_n (by omega), wi_n (by omega), wi_n (by omega)]
      exact hb j hj
    · exact hk
  obtain ⟨s, C', M', a1, a2, a3, a4, a5, a6⟩ := adv0 t0 (Nat.zero_le L) (by rw [wi_n (by omega), wi_n (by omega), wi_s]; rfl) (by rw [m14]; rfl) m18 m17
  refine ⟨s, C', M', ?_, a3, a4, fun g o j hn => ?_, a6⟩
  · unfold fX5_open
    rw [mn, a2]; rfl
  · rw [(a5 _ _ _ (by omega)).1, (a5 _ _ _ (by omega)).2, wi_n (by omega), wi_n (by omega), wi_n (by omega), wi_n (by omega), wi_2, wi_2, wi_2, wi_2]
    exact ⟨rfl, rfl⟩
/-- the new slot becomes the first -/
theorem cpyT (M : mz_D) : fX12_table_59 mz_N 0 M = fX12_table_117 (wl (wr M 0 201 (fun j => if j < 500 then M.1 0 201 (2000 + j) else M.1 0 201 j)) 0 202 (fun j => if j < 6 then M.2 0 202 (24 + j) else M.2 0 202 j)) := by
  have k2 : ∀ X : mz_D, fX12_table_90 mz_N (nI 0) (wl X 0 202 (fun j => if j < 0 then X.2 0 202 (24 + j) else X.2 0 202 j)) = fX12_table_117 (wl X 0 202 (fun j => if j < 6 then X.2 0 202 (24 + j) else X.2 0 202 j)) := fun X => lpD (fun n s k => fX12_table_90 n k s) (fun k => wl X 0 202 (fun j => if j < k then X.2 0 202 (24 + j) else X.2 0 202 j)) 6 (fun n k hk => by
    show fX12_table_90 (n + 1) (nI k) _ = _
    rw [fX12_table_90]
    dsimp only
    rw [if_neg (by show ¬ nI 6 ≤ nI k; rw [nJ_le (by omega) (by omega)]; omega), a24l, nI_ix (show 24 + k < 36 by omega) (by omega), gd_tt, nI_ix (show k < 36 by omega) (by omega), gd_tt, nI_cl (show k < 2147483648 by omega), nI_cl (show 24 + k < 2147483648 by omega), a1r, wl_s, if_neg (by omega), wl_up]
    congr 2
    funext i
    unfold upl
    by_cases e : i = k
    · rw [if_pos e, if_pos (by omega), e]
    · rw [if_neg e]
      dsimp only
      by_cases e2 : i < k
      · rw [if_pos e2, if_pos (by omega)]
      · rw [if_neg e2, if_neg (by omega)]) (fun n => by
    show fX12_table_90 (n + 1) (nI 6) _ = _
    rw [fX12_table_90]
    dsimp only
    rw [if_pos (by decide)]) 6 0 mz_N rfl (N_lt (by omega))
  have z2 : ∀ X : mz_D, wl X 0 202 (fun j => if j < 0 then X.2 0 202 (24 + j) else X.2 0 202 j) = X := fun X => by
    rw [show (fun j => if j < 0 then X.2 0 202 (24 + j) else X.2 0 202 j) = X.2 0 202 from by funext j; exact if_neg (by omega), wl_id]
  have k1 := lpD (fun n s k => fX12_table_59 n k s) (fun k => wr M 0 201 (fun j => if j < k then M.1 0 201 (2000 + j) else M.1 0 201 j)) 500 (r := fX12_table_90 mz_N 0 (wr M 0 201 (fun j => if j < 500 then M.1 0 201 (2000 + j) else M.1 0 201 j))) (fun n k hk => by
    show fX12_table_59 (n + 1) (nI k) _ = _
    rw [fX12_table_59]
    dsimp only
    rw [if_neg (by show ¬ nI 500 ≤ nI k; rw [nJ_le (by omega) (by omega)]; omega), a2000l, nI_ix (show 2000 + k < 3000 by omega) (by omega), gd_tt, nI_ix (show k < 3000 by omega) (by omega), gd_tt, nI_cl (show k < 2147483648 by omega), nI_cl (show 2000 + k < 2147483648 by omega), a1r, wr_s, if_neg (by omega), wr_up]
    congr 2
    funext i
    unfold up
    by_cases e : i = k
    · rw [if_pos e, if_pos (by omega), e]
    · rw [if_neg e]
      dsimp only
      by_cases e2 : i < k
      · rw [if_pos e2, if_pos (by omega)]
      · rw [if_neg e2, if_neg (by omega)]) (fun n => by
    show fX12_table_59 (n + 1) (nI 500) _ = _
    rw [fX12_table_59]
    dsimp only
    rw [if_pos (by decide)]) 500 0 mz_N rfl (N_lt (by omega))
  rw [show (fun j => if j < 0 then M.1 0 201 (2000 + j) else M.1 0 201 j) = M.1 0 201 from by funext j; exact if_neg (by omega), wr_id] at k1
  have k3 := k2 (wr M 0 201 (fun j => if j < 500 then M.1 0 201 (2000 + j) else M.1 0 201 j))
  rw [z2] at k3
  exact k1.trans k3
theorem hear1 (C : mz_D) : fX11_hearFault 1 C = some (1, mz_wi (mz_wi C 0 0 16 0) 0 0 17 (-1)) := by
  unfold fX11_hearFault fX11_hearFault_16
  rw [if_neg one_ne, if_neg one_ne]; rfl
theorem hear0 (C : mz_D) : fX11_hearFault 0 C = some (0, mz_wi (mz_wi C 0 0 16 (C.1 0 2 0)) 0 0 17 (C.1 0 2 1)) := by
  unfold fX11_hearFault fX11_hearFault_16
  rw [if_pos rfl, if_pos rfl]; rfl
theorem taken1 {x : Int32} {M : mz_D} (h : M.1 0 200 18 = 0) : fX12_taken x M = some (x, mz_wi (mz_wi M 0 200 16 0) 0 200 2 0) := by
  unfold fX12_taken
  rw [h, if_pos (Int32.le_refl _)]
theorem taken0 {x : Int32} {M : mz_D} (h : ¬ M.1 0 200 18 ≤ 0) : fX12_taken x M = some (-1, mz_wi (mz_wi M 0 200 16 (M.1 0 200 18)) 0 200 2 9) := by
  unfold fX12_taken
  rw [if_neg h]
theorem bd0 : bd 0 0 999999 := bdk (x := 0) (mo := 999999) (by omega) (by omega)
theorem tB0 {n : Nat} {C M : mz_D} (z101 : ∀ j, j < 3 → C.1 2 101 j = 0) (z109 : ∀ j, j < 2 → C.1 2 109 j = 0) (z114 : ∀ j, j < 36 → C.1 2 114 j = 0) (z117 : ∀ j, j < 2 → C.1 2 117 j = 0) (z118 : ∀ j, j < 6 → C.1 2 118 j = 0) (z119 : ∀ j, j < 2 → C.1 2 119 j = 0) (z5 : C.1 2 100 5 = 0) (z6 : C.1 2 100 6 = 0) (p9 : M.1 0 201 2009 = -1) (p0 : ∀ j, j < 500 → j ≠ 9 → M.1 0 201 (2000 + j) = 0) : tB n 0 0 0 C M := by
  have px : ∀ i j, i = 2000 + j → j < 500 → j ≠ 9 → M.1 0 201 i = 0 := fun i j e h1 h2 => by rw [e]; exact p0 j h1 h2
  refine ⟨tR.mk (m := 0) (d := 0) (gs := 0) (ins := 2 ^ 0 - 1) (hm := Nat.zero_le _) (hd := Nat.zero_le _) (hgs := by decide) (hins := by decide) ?_ ?_ ?_ ?_ ?_ ?_ ?_ ?_ ?_ ?_ ?_ ?_ ?_ ?_ ?_ ?_ ?_ ?_ ?_ ?_ ?_ ?_ ?_ ?_ ?_ ?_ ?_ ?_, z119 0 (by omega), p9, ⟨0, by omega, z101 1 (by omega)⟩, fun p h1 h2 => ⟨px _ (12 + 8 * p) (by omega) (by omega) (by omega), px _ (14 + 8 * p) (by omega) (by omega) (by omega), px _ (17 + 8 * p) (by omega) (by omega) (by omega), px _ (18 + 8 * p) (by omega) (by omega) (by omega), px _ (19 + 8 * p) (by omega) (by omega) (by omega)⟩, z118⟩
  · rw [wi_n (by omega), z101 0 (by omega)]; rfl
  · rw [sh_1, p0 0 (by omega) (by omega)]; rfl
  · rw [sh_1, p0 _ (by omega) (by omega), wi_n (by omega), z101 1 (by omega)]
  · rw [wi_n (by omega), z109 0 (by omega)]; rfl
  · rw [sh_1, p0 _ (by omega) (by omega)]; rfl
  · rw [sh_1, p0 _ (by omega) (by omega), wi_n (by omega), z109 1 (by omega)]
  · rw [wi_n (by omega), z109 1 (by omega)]; exact Or.inl rfl
  · rw [sh_1, p0 _ (by omega) (by omega), wi_n (by omega), z5]
  · rw [wi_n (by omega), z5]; exact Or.inl rfl
  · rw [sh_1, p0 _ (by omega) (by omega), wi_n (by omega), z117 1 (by omega)]
  · rw [sh_1, p0 _ (by omega) (by omega), wi_n (by omega), z6]
  · rw [wi_n (by omega), z101 2 (by omega)]; rfl
  · rw [sh_1, p0 _ (by omega) (by omega)]; rfl
  · rw [wi_s]
  · rw [sh_1, p0 _ (by omega) (by omega)]; rfl
  · intro p hp; omega
  · intro p hp; omega
  · intro p hp; omega
  · intro p hp; omega
  · intro p hp; omega
  · intro p hp; omega
  · intro p hp; omega
  · intro p hp; omega
  · intro k hk; omega
  · intro k hk; omega
  · intro k hk
    rw [sh_1, p0 _ (by omega) (by omega), wi_n (by omega), z114 k hk]
    exact ⟨rfl, bd0⟩
  · intro p q hp hq _
    rw [wi_n (by omega), z114 _ (by omega)]
  · unfold yR
    refine Or.inl ⟨?_, ?_⟩
    · rw [wi_n (by omega), z119 0 (by omega)]
    · rw [sh_1]; exact p9
theorem p_op8 : op_8 Inv := by
  intro n D x1 h
  obtain ⟨t, t9, te, td⟩ := iR.taped h
  by_cases hx : x1 < 0 ∨ ¬ x1 ≤ nI t
  · refine q_look h (r := -1) (v := 1) ?_ (fun E he => ?_)
    · unfold fX11_table
      rw [td]
      by_cases h1 : x1 < 0
      · rw [if_pos h1]
      · rw [if_neg h1, if_neg (by rcases hx with h | h; exact absurd h h1; exact h)]
    · have e10 : E.1 0 200 10 = nI t := by rw [(he _ _ _ (by omega) (by omega)).1, te]
      have b0 : fX12_begins x1 900 E = some (0, E) := by
        unfold fX12_begins
        rw [e10]
        by_cases h1 : x1 < 0
        · rw [if_pos h1]
        · rw [if_neg h1, if_pos (by rcases hx with h | h; exact absurd h h1; exact Int32.not_le.mp h)]
      unfold fX12_table
      rw [b0, Option.bind_some, if_pos rfl]
  · have k1 : ¬ x1 < 0 := fun e => hx (Or.inl e)
    have k2 : x1 ≤ nI t := by
      by_cases q : x1 ≤ nI t
      · exact q
      · exact absurd (Or.inr q) hx
    obtain ⟨L, hL, rfl⟩ := nJ_of (Int32.not_lt.mp k1)
    have hLt : L ≤ t := (nJ_le hL (by omega)).mp k2
    refine q_txt h (fun E hE => ?_)
    obtain ⟨t', t9', te', td'⟩ := iR.taped hE
    have tt : t' = t := (nJ_eq (by omega) (by omega)).mp (by rw [← td', td])
    subst tt
    obtain ⟨E1, c1, z101, z109, z114, z117, z118, z119, z5, z6, fr, f2⟩ := clr2 (mz_wi D 0 0 1 0)
    obtain ⟨M1, b1, m11, m10, m18, m17, m14, m207, bfr, bf2⟩ := begM (D := E) (L := L) (t := t') (mo := 900) te' t9 hLt (by show nI L ≤ nI 900; rw [nJ_le (by omega) (by omega)]; omega) (fun j hj => by rw [(iR.tape hE j hj).1]; exact (iR.tape hE j hj).2)
    have e1t : ∀ j, E1.1 0 1 j = D.1 0 1 j := fun j => by rw [fr _ _ _ (by omega), wi_n (by omega)]
    obtain ⟨s, C1, M2, o1, o2, rd, fo, po⟩ := opn (C := E1) (M1 := M1) (L := L) (by omega) (by rw [f2, wi_2]; exact iR.keys hE) (fun j hj => by rw [m207 j hj, e1t, (iR.tape hE j (by omega)).1]; exact ⟨rfl, (iR.tape hE j (by omega)).2⟩) m11 m14 m18 m17
    obtain ⟨M3, p1, p9, p0, pf, pf2⟩ := pln2 M2
    have cz : ∀ o j, (mz_zr C1 0 300).1 2 o j = E1.1 2 o j := fun o j => by rw [zr_n (by omega), (fo _ _ _ (by omega)).1]
    have S : st (n + 1) L s (mz_zr C1 0 300) (mz_wi M3 0 200 20 0) := by
      refine ⟨rd.fr ⟨fun j => zr_n (by omega), fun j => zr_n (by omega), by rw [zr_2], by rw [zr_2]⟩ ((show qM M2 M3 from ⟨fun j h1 h2 => pf _ _ _ (by omega), fun j => pf _ _ _ (by omega)⟩).tr (qM_wi (by omega))), 0, 0, 0, 0, 0, tB0 (fun j hj => by rw [cz]; exact z101 j hj) (fun j hj => by rw [cz]; exact z109 j hj) (fun j hj => by rw [cz]; exact z114 j hj) (fun j hj => by rw [cz]; exact z117 j hj) (fun j hj => by rw [cz]; exact z118 j hj) (fun j hj => by rw [cz]; exact z119 j hj) (by rw [cz]; exact z5) (by rw [cz]; exact z6) (by rw [wi_n (by omega)]; exact p9) (fun j h1 h2 => by rw [wi_n (by omega)]; exact p0 j h1 h2), by omega, by omega, wi_s _ _ _ _ _, zr_s _ _ _ _, zr_s _ _ _ _⟩
    obtain ⟨r, C', M', l1, l2, fc, fm, res⟩ := tabL L s _ _ mz_N mz_N 0 S (by omega) (by omega) (N_lt (by omega)) (N_lt (by omega))
    have l1 : fX7_isTaken (mz_zr C1 0 300) = some (r, C') := l1
    have HM : fX12_table (nI L) E = fX12_table_50 M' := by
      unfold fX12_table
      rw [b1, o2, Option.bind_some, Option.bind_some, if_neg one_ne, p1, Option.bind_some]
      exact l2
    have HC : ∀ y, fX11_table_t (nI L) (mz_zr C1 0 300) = y → fX11_table (nI L) D = y := fun y hy => by
      unfold fX11_table
      rw [if_neg k1, td', if_pos k2, c1, Option.bind_some, o1, Option.bind_some]
      exact hy
    -- what is as it was
    have gC : ∀ g o j, ¬ ((g = 2 ∧ 100 ≤ o ∧ o < 127) ∨ (g = 0 ∧ (o = 2 ∨ 300 ≤ o ∨ (o = 0 ∧ j = 1)))) → C'.1 g o j = D.1 g o j ∧ C'.2 g o j = D.2 g o j := fun g o j hn => by
      rw [(fc _ _ _ (by omega)).1, (fc _ _ _ (by omega)).2, zr_n (by omega), zr_2, (fo _ _ _ (by omega)).1, (fo _ _ _ (by omega)).2, fr _ _ _ (by omega), f2, wi_n (by omega), wi_2]
      exact ⟨rfl, rfl⟩
    have gM : ∀ g o j, ¬ (g = 0 ∧ ((o = 200 ∧ 10 ≤ j ∧ j ≤ 23 ∧ j ≠ 16) ∨ o = 207 ∨ o = 208 ∨ (o = 201 ∧ 2000 ≤ j) ∨ (o = 202 ∧ 24 ≤ j))) → M'.1 g o j = E.1 g o j ∧ M'.2 g o j = E.2 g o j := fun g o j hn => by
      rw [(fm _ _ _ (by omega)).1, (fm _ _ _ (by omega)).2, wi_n (by omega), wi_2, pf _ _ _ (by omega), pf2, (po _ _ _ (by omega)).1, (po _ _ _ (by omega)).2, bfr _ _ _ (by omega), bf2]
      exact ⟨rfl, rfl⟩
    have c01 : C'.1 0 0 1 = 0 := by rw [(fc _ _ _ (by omega)).1, zr_n (by omega), (fo _ _ _ (by omega)).1, fr _ _ _ (by omega), wi_s]
    have m210 : M'.1 0 200 10 = 0 := by rw [(fm _ _ _ (by omega)).1, wi_n (by omega), pf _ _ _ (by omega), (po _ _ _ (by omega)).1, m10]
    rcases res with ⟨rfl, u1, u2, u3, m, d, gs, T⟩ | ⟨rfl, F1, F2, F3⟩
    · obtain ⟨E5, q1, q2, q3, q4⟩ := cpT (g0 := 1) (g1 := 2) (D := mz_wi (mz_wi C' 0 0 16 0) 0 0 17 (-1)) (by decide) (by rw [wi_n (by omega), wi_n (by omega)]; exact Or.inl u3)
      have T0 : M'.1 0 201 2000 = nI m := by
        have := T.uMany
        rw [sh_1] at this
        exact this
      have C0 : E5.1 1 101 0 = nI m := by rw [q2 _ _ (by unfold rqi; omega), wi_n (by omega), wi_n (by omega)]; exact T.many_c
      refine ⟨nI m, mz_wi E5 0 0 13 0, mz_wi (mz_wi (wl (wr M' 0 201 (fun j => if j < 500 then M'.1 0 201 (2000 + j) else M'.1 0 201 j)) 0 202 (fun j => if j < 6 then M'.2 0 202 (24 + j) else M'.2 0 202 j)) 0 200 16 0) 0 200 2 0, HC _ ?_, HM.trans ?_, fun g o j h1 h2 => ?_, fun g o j h1 => ?_, hE.txt (Nat.le_succ n) (fun g o j hn => ?_) (fun g o j hn => ?_) ?_ ?_ ?_ ?_ ⟨m, d, gs, 2 ^ m - 1, T.cp4 (fun o j hq => ?_) (fun j hj => ?_) (fun j hj => ?_) (fun p hp => ?_)⟩⟩
      · unfold fX11_table_t
        rw [l1, Option.bind_some, hear1, Option.bind_some, if_neg one_ne, q1, Option.bind_some, C0]
      · unfold fX12_table_50
        rw [if_pos u1, cpyT]
        unfold fX12_table_117
        rw [taken1 (by rw [wl_1, wr_n (by omega)]; exact u1), wl_1, z0, wr_s, if_pos (by omega), T0]; rfl
      · rw [wi_n (by omega), wi_2, (q4 _ _ _ (by omega)).1, (q4 _ _ _ (by omega)).2, wi_n (by omega), wi_n (by omega), wi_2, wi_2]
        exact gC _ _ _ (by omega)
      · rw [wi_n (by omega), wi_n (by omega), wl_1, wr_n (by omega), wi_2, wi_2, wl_n (by omega), wr_2]
        exact gM _ _ _ (by omega)
      · unfold sCq at hn
        rw [wi_n (by omega), wi_2, (q4 _ _ _ (by omega)).1, (q4 _ _ _ (by omega)).2, wi_n (by omega), wi_n (by omega), wi_2, wi_2]
        exact gC _ _ _ (by omega)
      · unfold sMq at hn
        rw [wi_n (by omega), wi_n (by omega), wl_1, wi_2, wi_2, wr_1]
        show (if o = 201 ∧ g = 0 then _ else M'.1 g o j) = _ ∧ (if o = 202 ∧ g = 0 then _ else M'.2 g o j) = _
        by_cases e1 : o = 201 ∧ g = 0
        · rw [if_pos e1, if_neg (by omega), if_neg (by omega)]
          obtain ⟨rfl, rfl⟩ := e1
          exact gM _ _ _ (by omega)
        · rw [if_neg e1]
          by_cases e2 : o = 202 ∧ g = 0
          · rw [if_pos e2, if_neg (by omega)]
            obtain ⟨rfl, rfl⟩ := e2
            exact gM _ _ _ (by omega)
          · rw [if_neg e2]
            exact gM _ _ _ (by omega)
      · rw [wi_s, wi_s]
      · rw [wi_n (by omega), wi_s, wi_n (by omega), (q4 _ _ _ (by omega)).1, wi_n (by omega), wi_s]
      · rw [wi_n (by omega), wi_n (by omega), wl_1, wr_n (by omega), u2, wi_n (by omega), (q4 _ _ _ (by omega)).1, wi_s]
      · rw [wi_n (by omega), wi_n (by omega), wl_1, wr_n (by omega), wi_n (by omega), (q4 _ _ _ (by omega)).1, wi_n (by omega), wi_n (by omega)]
        exact ⟨m210, c01⟩
      · rw [wi_n (by omega), q2 _ _ hq, wi_n (by omega), wi_n (by omega)]
      · rw [wi_2, q3 _ hj, wi_2, wi_2]
      · rw [Nat.zero_add, wi_n (by omega), wi_n (by omega), wl_1, wr_s, if_pos (by omega), sh_1]
      · rw [Nat.zero_add, wi_2, wi_2, wl_s, if_pos hp, sh_2]
    · obtain ⟨m, d, gs, ins, T⟩ := iR.table hE
      refine ⟨-1, mz_wi (mz_wi (mz_wi C' 0 0 16 (C'.1 0 2 0)) 0 0 17 (C'.1 0 2 1)) 0 0 13 9, mz_wi (mz_wi M' 0 200 16 (M'.1 0 200 18)) 0 200 2 9, HC _ ?_, HM.trans ?_, fun g o j h1 h2 => ?_, fun g o j h1 => ?_, hE.txt (Nat.le_succ n) (fun g o j hn => ?_) (fun g o j hn => ?_) ?_ ?_ ?_ ?_ ⟨m, d, gs, ins, (T.congr (fun o j hq => ?_) (fun j hj => ?_) (fun p hp => ?_)).mono (Nat.le_succ n)⟩⟩
      · unfold fX11_table_t
        rw [l1, Option.bind_some, hear0, Option.bind_some, if_pos rfl]
      · unfold fX12_table_50 fX12_table_117
        rw [if_neg (fun q => F2 (by rw [q]; exact Int32.le_refl _)), taken0 F2]; rfl
      · rw [wi_n (by omega), wi_n (by omega), wi_n (by omega), wi_2, wi_2, wi_2]
        exact gC _ _ _ (by omega)
      · rw [wi_n (by omega), wi_n (by omega), wi_2, wi_2]
        exact gM _ _ _ (by omega)
      · unfold sCq at hn
        rw [wi_n (by omega), wi_n (by omega), wi_n (by omega), wi_2, wi_2, wi_2]
        exact gC _ _ _ (by omega)
      · unfold sMq at hn
        rw [wi_n (by omega), wi_n (by omega), wi_2, wi_2]
        exact gM _ _ _ (by omega)
      · rw [wi_s, wi_s]
      · rw [wi_n (by omega), wi_s, wi_n (by omega), wi_n (by omega), wi_s, F1]
      · rw [wi_n (by omega), wi_n (by omega), wi_n (by omega), wi_s, F3]
      · rw [wi_n (by omega), wi_n (by omega), wi_n (by omega), wi_n (by omega), wi_n (by omega)]
        exact ⟨m210, c01⟩
      · unfold tq at hq
        rw [wi_n (by omega), wi_n (by omega), wi_n (by omega), wi_2, wi_2, wi_2]
        exact gC _ _ _ (by omega)
      · rw [wi_n (by omega), wi_n (by omega)]
        exact (gM _ _ _ (by omega)).1
      · rw [wi_2, wi_2]
        exact (gM _ _ _ (by omega)).2
