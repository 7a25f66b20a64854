/-! ===== the mean ===== -/
theorem l_add {a b : Int64} (h1 : -9000000000 ≤ a.toInt + b.toInt) (h2 : a.toInt + b.toInt < 9000000000) : (a + b).toInt = a.toInt + b.toInt := by
  rw [Int64.toInt_add, Int.bmod_eq_of_le (by omega) (by omega)]
theorem rst {k108 : Int32 → Int32 → Int32 → Int64 → Int32 → mz_D → Option (Int32 × mz_D)} {x1 x2 x3 x6 : Int32} {y4 : Int64} {D : mz_D} : fX12_mean_142 k108 mz_N x1 x2 x3 y4 x6 0 D = k108 x1 x2 x3 y4 (x6 + 1) (wr D 0 201 (fun j => if j < 130 then D.1 0 201 (2500 + j) else D.1 0 201 j)) := by
  have e0 : wr D 0 201 (fun j => if j < 0 then D.1 0 201 (2500 + j) else D.1 0 201 j) = D := by
    have : (fun j => if j < 0 then D.1 0 201 (2500 + j) else D.1 0 201 j) = D.1 0 201 := by funext j; exact if_neg (by omega)
    rw [this, wr_id]
  have := lpD (fun n s k => fX12_mean_142 k108 n x1 x2 x3 y4 x6 k s) (fun k => wr D 0 201 (fun j => if j < k then D.1 0 201 (2500 + j) else D.1 0 201 j)) 130 (r := k108 x1 x2 x3 y4 (x6 + 1) (wr D 0 201 (fun j => if j < 130 then D.1 0 201 (2500 + j) else D.1 0 201 j))) (fun n k hk => by
    show fX12_mean_142 k108 (n + 1) x1 x2 x3 y4 x6 (nI k) (wr D 0 201 (fun j => if j < k then D.1 0 201 (2500 + j) else D.1 0 201 j)) = fX12_mean_142 k108 n x1 x2 x3 y4 x6 (nI (k + 1)) (wr D 0 201 (fun j => if j < k + 1 then D.1 0 201 (2500 + j) else D.1 0 201 j))
    rw [fX12_mean_142]
    dsimp only
    rw [if_neg (by show ¬ nI 130 ≤ nI k; rw [nJ_le (by omega) (by omega)]; omega), show (2500 : Int32) + nI k = nI (2500 + k) from nI_add 2500 k, nI_ix (by omega) (by omega), gd_tt, nI_ix (by omega) (by omega), gd_tt, nI_cl (by omega), nI_cl (by omega), a1r, wr_s, wr_up]
    rw [if_neg (by omega)]
    congr 2
    funext j
    unfold up
    by_cases e : j = k
    · rw [if_pos e, if_pos (by omega), e]
    · rw [if_neg e]
      dsimp only
      by_cases e2 : j < k
      · rw [if_pos e2, if_pos (by omega)]
      · rw [if_neg e2, if_neg (by omega)]) (fun n => by
    show fX12_mean_142 k108 (n + 1) x1 x2 x3 y4 x6 (nI 130) (wr D 0 201 (fun j => if j < 130 then D.1 0 201 (2500 + j) else D.1 0 201 j)) = _
    rw [fX12_mean_142]
    dsimp only
    rw [if_pos (by decide)]) 130 0 mz_N (by omega) (N_lt (by omega))
  have this : fX12_mean_142 k108 mz_N x1 x2 x3 y4 x6 0 (wr D 0 201 (fun j => if j < 0 then D.1 0 201 (2500 + j) else D.1 0 201 j)) = _ := this
  rw [e0] at this
  exact this
theorem sav {x1 x2 x3 : Int32} {D : mz_D} : fX12_mean_70 mz_N x1 x2 x3 0 D = fX12_mean_108 mz_N x1 x2 x3 0 0 (wr D 0 201 (fun j => if 2500 ≤ j ∧ j < 2630 then D.1 0 201 (j - 2500) else D.1 0 201 j)) := by
  have e0 : wr D 0 201 (fun j => if 2500 ≤ j ∧ j < 2500 + 0 then D.1 0 201 (j - 2500) else D.1 0 201 j) = D := by
    have : (fun j => if 2500 ≤ j ∧ j < 2500 + 0 then D.1 0 201 (j - 2500) else D.1 0 201 j) = D.1 0 201 := by funext j; exact if_neg (by omega)
    rw [this, wr_id]
  have := lpD (fun n s k => fX12_mean_70 n x1 x2 x3 k s) (fun k => wr D 0 201 (fun j => if 2500 ≤ j ∧ j < 2500 + k then D.1 0 201 (j - 2500) else D.1 0 201 j)) 130 (r := fX12_mean_108 mz_N x1 x2 x3 0 0 (wr D 0 201 (fun j => if 2500 ≤ j ∧ j < 2630 then D.1 0 201 (j - 2500) else D.1 0 201 j))) (fun n k hk => by
    show fX12_mean_70 (n + 1) x1 x2 x3 (nI k) (wr D 0 201 (fun j => if 2500 ≤ j ∧ j < 2500 + k then D.1 0 201 (j - 2500) else D.1 0 201 j)) = fX12_mean_70 n x1 x2 x3 (nI (k + 1)) (wr D 0 201 (fun j => if 2500 ≤ j ∧ j < 2500 + (k + 1) then D.1 0 201 (j - 2500) else D.1 0 201 j))
    rw [fX12_mean_70]
    dsimp only
    rw [if_neg (by show ¬ nI 130 ≤ nI k; rw [nJ_le (by omega) (by omega)]; omega), show (2500 : Int32) + nI k = nI (2500 + k) from nI_add 2500 k, nI_ix (by omega) (by omega), gd_tt, nI_ix (by omega) (by omega), gd_tt, nI_cl (by omega), nI_cl (by omega), a1r, wr_s, wr_up]
    rw [if_neg (by omega)]
    congr 2
    funext j
    unfold up
    by_cases e : j = 2500 + k
    · rw [if_pos e, if_pos (by omega), e, show 2500 + k - 2500 = k by omega]
    · rw [if_neg e]
      dsimp only
      by_cases e2 : 2500 ≤ j ∧ j < 2500 + k
      · rw [if_pos e2, if_pos (by omega)]
      · rw [if_neg e2, if_neg (by omega)]) (fun n => by
    show fX12_mean_70 (n + 1) x1 x2 x3 (nI 130) (wr D 0 201 (fun j => if 2500 ≤ j ∧ j < 2500 + 130 then D.1 0 201 (j - 2500) else D.1 0 201 j)) = _
    rw [fX12_mean_70]
    dsimp only
    rw [if_pos (by decide)]) 130 0 mz_N (by omega) (N_lt (by omega))
  have this : fX12_mean_70 mz_N x1 x2 x3 0 (wr D 0 201 (fun j => if 2500 ≤ j ∧ j < 2500 + 0 then D.1 0 201 (j - 2500) else D.1 0 201 j)) = _ := this
  rw [e0] at this
  exact this
theorem meanL {n : Nat} (hn : n < 600) {D : mz_D} {m d gs ins : Nat} (t : tR n 1 0 0 D D m d gs ins) (y1 : D.1 1 119 0 = 1) {p a0 b0 : Nat} (hp : p < m) (hab : a0 + b0 ≤ 10000) (hb : b0 ≤ 20) : ∀ r i, i + r = b0 → ∀ (y : Int64) (Dc : mz_D), sC D Dc → 0 ≤ y.toInt → y.toInt ≤ 200000 * i → ∃ yE DcE, sC D DcE ∧ 0 ≤ yE.toInt ∧ (∀ n1, r < n1 → fX11_mean_70 n1 (nI p) (nI a0) (nI b0) y (nI i) Dc = Option.bind (fX11_tell yE (nI b0).toInt64 DcE) fun q => mz_gd (mz_bo q.1) (some (q.1, q.2))) ∧ ∀ E F n2, eM D E → sM E F → (∀ j, j < 130 → F.1 0 201 (2500 + j) = E.1 0 201 j) → r < n2 → ∃ FE, sM E FE ∧ fX12_mean_108 n2 (nI p) (nI a0) (nI b0) y (nI i) F = Option.bind (fX12_tellsBy yE (nI b0).toInt64 FE) fun q => mz_gd (mz_bo q.1) (some (q.1, q.2)) := by
  have hm := t.hm
  intro r
  induction r with
  | zero =>
    intro i hi y Dc hc h0 h1
    have hi : i = b0 := by omega
    subst hi
    refine ⟨y, Dc, hc, h0, fun n1 h => ?_, fun E F n2 he hs hv h => ⟨F, hs, ?_⟩⟩
    · obtain ⟨n1, rfl⟩ : ∃ n', n1 = n' + 1 := ⟨n1 - 1, by omega⟩
      rw [fX11_mean_70]
      dsimp only
      rw [if_pos (Int32.le_refl _)]
    · obtain ⟨n2, rfl⟩ : ∃ n', n2 = n' + 1 := ⟨n2 - 1, by omega⟩
      rw [fX12_mean_108]
      dsimp only
      rw [if_pos (Int32.le_refl _)]
  | succ r ih =>
    intro i hi y Dc hc h0 h1
    have tF : ∀ E F, eM D E → sM E F → tR n 1 0 0 Dc F m d gs ins := fun E F he hs => t.congr (fun o j hq => hc 1 o j (by unfold tq at hq; unfold sCq; omega)) (fun j hj => by rw [(hs _ _ _ (by unfold sMq; omega)).1, (he _ _ _ (by omega) (by omega)).1]) (fun q hq => by rw [(hs _ _ _ (by unfold sMq; omega)).2, (he _ _ _ (by omega) (by omega)).2])
    have d119 : Dc.1 1 119 0 = 1 := by rw [(hc 1 119 0 (by unfold sCq; omega)).1]; exact y1
    obtain ⟨C, e1, C1, C2, C3⟩ := cpT (g0 := 2) (g1 := 1) (by decide) (D := Dc) (Or.inr d119)
    have tC : ∀ E F, eM D E → sM E F → tR n 2 0 0 C F m d gs ins := fun E F he hs => (tF E F he hs).cp C1 C2 (fun _ _ => rfl) (fun _ _ => rfl)
    have c119 : C.1 2 119 0 = 1 := by rw [C1 119 0 (by unfold rqi; omega)]; exact d119
    have n20 : (2 : Nat) ≠ 0 := by decide
    obtain ⟨Dq, _, _, r1, -, v1, -, s, s1, s2, -⟩ := liveS n20 hn (tC D D eM.rf sM.rf) c119 (z := a0 + i) (by omega)
    have sq : sC D Dq := fun a o j hq => by
      have q1 := v1.1 a o j (fun x => hq (by unfold sCq; omega))
      have q2 := C3 a o j (fun x => hq (by unfold sCq; omega))
      have q3 := hc a o j hq
      exact ⟨by rw [q1, q2.1, q3.1], by rw [v1.2, q2.2, q3.2]⟩
    have pb := s2.2.1 p hp
    unfold bd at pb
    have ya : (y + (Dq.1 2 108 p).toInt64).toInt = y.toInt + (Dq.1 2 108 p).toInt := by rw [l_add (by rw [t64]; omega) (by rw [t64]; omega), t64]
    obtain ⟨yE, DcE, k1, k2, k3, k4⟩ := ih (i + 1) (by omega) (y + (Dq.1 2 108 p).toInt64) Dq sq (by rw [ya]; omega) (by rw [ya]; omega)
    refine ⟨yE, DcE, k1, k2, fun n1 h => ?_, fun E F n2 he hs hv h => ?_⟩
    · obtain ⟨n1, rfl⟩ : ∃ n', n1 = n' + 1 := ⟨n1 - 1, by omega⟩
      rw [fX11_mean_70]
      dsimp only
      rw [if_neg (by rw [nJ_le (by omega) (by omega)]; omega), e1, Option.bind_some, nI_add, r1, Option.bind_some, nI_ix (by omega) (by omega), gd_tt, nI_cl (by omega), a1r]
      exact k3 n1 (by omega)
    · obtain ⟨n2, rfl⟩ : ∃ n', n2 = n' + 1 := ⟨n2 - 1, by omega⟩
      obtain ⟨Dq', Dm, v, r1', r2, -, u1, s', -, s2', -⟩ := liveS n20 hn (tC E F he hs) c119 (z := a0 + i) (by omega)
      rw [r1] at r1'
      cases r1'
      have up := s2'.1.uPaid hp
      obtain ⟨FE, f1, f2⟩ := k4 E (wr Dm 0 201 (fun j => if j < 130 then Dm.1 0 201 (2500 + j) else Dm.1 0 201 j)) n2 he (fun a o j hq => by
        by_cases e : a = 0 ∧ o = 201
        · obtain ⟨rfl, rfl⟩ := e
          refine ⟨?_, ?_⟩
          · rw [wr_s]
            by_cases e2 : j < 130
            · rw [if_pos e2, u1.1 _ _ _ (by omega), hv j e2]
            · rw [if_neg e2, u1.1 _ _ _ (by omega), (hs _ _ _ hq).1]
          · show Dm.2 0 201 j = _
            rw [u1.2, (hs _ _ _ hq).2]
        · refine ⟨?_, ?_⟩
          · rw [wr_n (by omega), u1.1 _ _ _ (fun x => hq (by unfold sMq; omega)), (hs _ _ _ hq).1]
          · show Dm.2 a o j = _
            rw [u1.2, (hs _ _ _ hq).2]) (fun j hj => by rw [wr_s, if_neg (by omega), u1.1 _ _ _ (by omega), hv j hj]) (by omega)
      refine ⟨FE, f1, ?_⟩
      rw [fX12_mean_108]
      dsimp only
      rw [if_neg (by rw [nJ_le (by omega) (by omega)]; omega), nI_add, r2, Option.bind_some, rst]
      simp (disch := omega) only [l8m, a12l, a5r, nI_ix, gd_tt, nI_cl, up, a1r]
      exact f2
