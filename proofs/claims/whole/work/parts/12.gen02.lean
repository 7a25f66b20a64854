abbrev IX1_fillEaten_12 : mz_I := (yX1_fillEaten, cX1_fillEaten, 6, none, 0, 2, 0, 0)
theorem kX1_fillEaten_12 : mz_okm IX1_fillEaten_12 1061 136 1059 2 = true := by decide +kernel
theorem vX1_fillEaten_12 : mz_okV IX1_fillEaten_12 1059 1060 = true := by decide +kernel
def fX1_fillEaten_12_10 (g0 : Nat) (g1 : Nat) : Nat → Int32 → Int32 → mz_D → Option mz_D
  | 0 => fun _ _ _ => none
  | n + 1 => fun x3 x4 D => (if (D.1 g0 109 0) ≤ x4 then (Option.bind (fX1_spread_12 x3 (((1 : Int32) <<< ((D.1 g1 101 0) &&& 31)) - (1 : Int32)) D) fun q2 => (some q2)) else (mz_gd (mz_ix x4 16) (if (fX4_has g1 (D.1 g0 111 (x4).toNatClampNeg) D) = 0 then ((fX1_fillEaten_12_10 g0 g1 n) (x3 + (D.1 g0 110 (x4).toNatClampNeg)) (x4 + (1 : Int32)) D) else (mz_gd (mz_ix (D.1 g0 111 (x4).toNatClampNeg) 6) ((fX1_fillEaten_12_10 g0 g1 n) x3 (x4 + (1 : Int32)) (mz_wi D 0 12 ((D.1 g0 111 (x4).toNatClampNeg)).toNatClampNeg ((D.1 0 12 ((D.1 g0 111 (x4).toNatClampNeg)).toNatClampNeg) + (D.1 g0 110 (x4).toNatClampNeg))))))))
set_option maxHeartbeats 4000000 in
theorem tX1_fillEaten_12_10 (g0 : Nat) (g1 : Nat) (hg0 : mz_tb g0 = true) (hg1 : mz_tb g1 = true) (r : mz_D) : ∀ (n : Nat) (x3 : Int32) (x4 : Int32) (D : mz_D), fX1_fillEaten_12_10 g0 g1 n x3 x4 D = some r → mz_Go IX1_fillEaten_12 (none, r) 0 0 (10, [some (.inr (.inr (some (g0, 109)))), some (.inr (.inr (some (g1, 101)))), some (.inr (.inr (some (0, 12)))), some (.inl x3), some (.inl x4), none], [], D) := by
  intro n
  induction n with
  | zero => intro x3 x4 D h; have h : (none : Option mz_D) = some r := h; cases h
  | succ n ih =>
    intro x3 x4 D h
    rw [fX1_fillEaten_12_10] at h
    refine mz_Go.run (gs := [mz_kz 0 g0 109]) (st' := (if (D.1 g0 109 0) ≤ x4 then (70, [some (.inr (.inr (some (g0, 109)))), some (.inr (.inr (some (g1, 101)))), some (.inr (.inr (some (0, 12)))), some (.inl x3), some (.inl x4), none], [], D) else (19, [some (.inr (.inr (some (g0, 109)))), some (.inr (.inr (some (g1, 101)))), some (.inr (.inr (some (0, 12)))), some (.inl x3), some (.inl x4), none], [], D))) bX1_fillEaten_10 oX1_fillEaten_10 rfl ⟨hg0, trivial⟩ ?_
    refine mz_Go.ite (fun hc1 => ?_) (fun hc1 => ?_)
    · have h := mz_ifp hc1 h
      refine mz_Go.run (gs := []) (st' := (72, [some (.inr (.inr (some (g0, 109)))), some (.inr (.inr (some (g1, 101)))), some (.inr (.inr (some (0, 12)))), some (.inl x3), some (.inl x4), none], [.inr (.inr (some (g1, 101))), .inl x3], D)) bX1_fillEaten_70 oX1_fillEaten_70 rfl trivial ?_
      refine mz_Go.callV (I := IX1_fillEaten_12) (J := IX4_everyone) (as := []) (ci := 4) (g := g1) (o := 101) (idx := 44) (pl := 1064) (rest := [.inl x3]) (mX4_everyone g1 D hg1) kX4_everyone vX4_everyone (by decide +kernel) (by decide +kernel) (by decide +kernel) rfl rfl ⟨rfl, rfl⟩ rfl rfl hg1 rfl ?_
      refine mz_Go.run (gs := []) (st' := (76, [some (.inr (.inr (some (g0, 109)))), some (.inr (.inr (some (g1, 101)))), some (.inr (.inr (some (0, 12)))), some (.inl x3), some (.inl x4), none], [.inr (.inr (some (0, 12))), .inl (((1 : Int32) <<< ((D.1 g1 101 0) &&& 31)) - (1 : Int32)), .inl x3], D)) bX1_fillEaten_75 oX1_fillEaten_75 rfl trivial ?_
      obtain ⟨q2, hq2, h⟩ := mz_bd_some h
      refine mz_Go.callS (I := IX1_fillEaten_12) (J := IX1_spread_12) (as := [.inl x3, .inl (((1 : Int32) <<< ((D.1 g1 101 0) &&& 31)) - (1 : Int32)), .inr (.inr (some (0, 12)))]) (idx := 48) (pl := 1065) (rest := []) (mX1_spread_12 x3 (((1 : Int32) <<< ((D.1 g1 101 0) &&& 31)) - (1 : Int32)) D q2 hq2) kX1_spread_12 vX1_spread_12 (by decide +kernel) (by decide +kernel) (by decide +kernel) rfl rfl ⟨rfl, rfl⟩ rfl ?_
      cases h
      exact mz_Go.retv (by decide +kernel) rfl ⟨Nat.le_refl _, Nat.le_refl _⟩ rfl
    · have h := mz_ifn hc1 h
      obtain ⟨hb3, h⟩ := mz_gd_some h
      refine mz_Go.run (gs := [mz_kz 0 g0 109, mz_kz 0 g0 111, mz_ix x4 16]) (st' := (31, [some (.inr (.inr (some (g0, 109)))), some (.inr (.inr (some (g1, 101)))), some (.inr (.inr (some (0, 12)))), some (.inl x3), some (.inl x4), some (.inl (D.1 g0 111 (x4).toNatClampNeg))], [.inl (D.1 g0 111 (x4).toNatClampNeg), .inr (.inr (some (g1, 101)))], D)) bX1_fillEaten_19 oX1_fillEaten_19 rfl ⟨hg0, hg0, hb3, trivial⟩ ?_
      refine mz_Go.callV (I := IX1_fillEaten_12) (J := IX4_has) (as := [.inl (D.1 g0 111 (x4).toNatClampNeg)]) (ci := 4) (g := g1) (o := 101) (idx := 38) (pl := 1063) (rest := []) (mX4_has g1 (D.1 g0 111 (x4).toNatClampNeg) D hg1 _ rfl) kX4_has vX4_has (by decide +kernel) (by decide +kernel) (by decide +kernel) rfl rfl ⟨rfl, rfl⟩ rfl rfl hg1 rfl ?_
      refine mz_Go.run (gs := []) (st' := (if (fX4_has g1 (D.1 g0 111 (x4).toNatClampNeg) D) = 0 then (54, [some (.inr (.inr (some (g0, 109)))), some (.inr (.inr (some (g1, 101)))), some (.inr (.inr (some (0, 12)))), some (.inl x3), some (.inl x4), some (.inl (D.1 g0 111 (x4).toNatClampNeg))], [], D) else (37, [some (.inr (.inr (some (g0, 109)))), some (.inr (.inr (some (g1, 101)))), some (.inr (.inr (some (0, 12)))), some (.inl x3), some (.inl x4), some (.inl (D.1 g0 111 (x4).toNatClampNeg))], [], D))) bX1_fillEaten_34 oX1_fillEaten_34 rfl trivial ?_
      refine mz_Go.ite (fun hc4 => ?_) (fun hc4 => ?_)
      · have h := mz_ifp hc4 h
        refine mz_Go.run (gs := [mz_kz 0 g0 109, mz_kz 0 g0 110, mz_ix x4 16]) (st' := (10, [some (.inr (.inr (some (g0, 109)))), some (.inr (.inr (some (g1, 101)))), some (.inr (.inr (some (0, 12)))), some (.inl (x3 + (D.1 g0 110 (x4).toNatClampNeg))), some (.inl (x4 + (1 : Int32))), some (.inl (D.1 g0 111 (x4).toNatClampNeg))], [], D)) bX1_fillEaten_54 oX1_fillEaten_54 rfl ⟨hg0, hg0, hb3, trivial⟩ ?_
        exact mz_Go.drop [true, true, true, true, true, false] (ih (x3 + (D.1 g0 110 (x4).toNatClampNeg)) (x4 + (1 : Int32)) D h)
      · have h := mz_ifn hc4 h
        obtain ⟨hb5, h⟩ := mz_gd_some h
        refine mz_Go.run (gs := [mz_kz 0 0 12, mz_ix (D.1 g0 111 (x4).toNatClampNeg) 6, mz_kz 0 g0 109, mz_kz 0 g0 110, mz_ix x4 16, mz_kz 0 0 12, mz_ix (D.1 g0 111 (x4).toNatClampNeg) 6]) (st' := (10, [some (.inr (.inr (some (g0, 109)))), some (.inr (.inr (some (g1, 101)))), some (.inr (.inr (some (0, 12)))), some (.inl x3), some (.inl (x4 + (1 : Int32))), some (.inl (D.1 g0 111 (x4).toNatClampNeg))], [], (mz_wi D 0 12 ((D.1 g0 111 (x4).toNatClampNeg)).toNatClampNeg ((D.1 0 12 ((D.1 g0 111 (x4).toNatClampNeg)).toNatClampNeg) + (D.1 g0 110 (x4).toNatClampNeg))))) bX1_fillEaten_37 oX1_fillEaten_37 rfl ⟨rfl, hb5, hg0, hg0, hb3, rfl, hb5, trivial⟩ ?_
        exact mz_Go.drop [true, true, true, true, true, false] (ih x3 (x4 + (1 : Int32)) (mz_wi D 0 12 ((D.1 g0 111 (x4).toNatClampNeg)).toNatClampNeg ((D.1 0 12 ((D.1 g0 111 (x4).toNatClampNeg)).toNatClampNeg) + (D.1 g0 110 (x4).toNatClampNeg))) h)
def fX1_fillEaten_12 (g0 : Nat) (g1 : Nat) (D : mz_D) : Option mz_D := (Option.bind (fJ7_fill_53178_12 (0 : Int32) D) fun q1 => (fX1_fillEaten_12_10 g0 g1 mz_N (0 : Int32) (0 : Int32) q1))
set_option maxHeartbeats 4000000 in
theorem mX1_fillEaten_12 (g0 : Nat) (g1 : Nat) (D : mz_D) (hg0 : mz_tb g0 = true) (hg1 : mz_tb g1 = true) (r : mz_D) (h : fX1_fillEaten_12 g0 g1 D = some r) : mz_Met IX1_fillEaten_12 [.inr (.inr (some (g0, 109))), .inr (.inr (some (g1, 101))), .inr (.inr (some (0, 12)))] D (none, r) := by
  refine mz_Met.of (by decide +kernel) (Nat.le_of_ble_eq_true rfl) ?_
  show mz_Go IX1_fillEaten_12 (none, r) 0 0 (0, [some (.inr (.inr (some (g0, 109)))), some (.inr (.inr (some (g1, 101)))), some (.inr (.inr (some (0, 12)))), none, none, none], [], D)
  rw [fX1_fillEaten_12] at h
  refine mz_Go.run (gs := []) (st' := (2, [some (.inr (.inr (some (g0, 109)))), some (.inr (.inr (some (g1, 101)))), some (.inr (.inr (some (0, 12)))), none, none, none], [.inl (0 : Int32), .inr (.inr (some (0, 12)))], D)) bX1_fillEaten_0 oX1_fillEaten_0 rfl trivial ?_
  obtain ⟨q1, hq1, h⟩ := mz_bd_some h
  refine mz_Go.callS (I := IX1_fillEaten_12) (J := IJ7_fill_53178_12) (as := [.inr (.inr (some (0, 12))), .inl (0 : Int32)]) (idx := 32) (pl := 1062) (rest := []) (mJ7_fill_53178_12 (0 : Int32) D q1 hq1) kJ7_fill_53178_12 vJ7_fill_53178_12 (by decide +kernel) (by decide +kernel) (by decide +kernel) rfl rfl ⟨rfl, rfl⟩ rfl ?_
  refine mz_Go.run (gs := []) (st' := (10, [some (.inr (.inr (some (g0, 109)))), some (.inr (.inr (some (g1, 101)))), some (.inr (.inr (some (0, 12)))), some (.inl (0 : Int32)), some (.inl (0 : Int32)), none], [], q1)) bX1_fillEaten_5 oX1_fillEaten_5 rfl trivial ?_
  exact mz_Go.drop [true, true, true, true, true, false] (tX1_fillEaten_12_10 g0 g1 hg0 hg1 r mz_N (0 : Int32) (0 : Int32) q1 h)
abbrev IX1_takeFromGuests_12 : mz_I := (yX1_takeFromGuests, cX1_takeFromGuests, 5, (some .int), 0, 2, 0, 0)
theorem kX1_takeFromGuests_12 : mz_okm IX1_takeFromGuests_12 1086 136 1085 2 = true := by decide +kernel
theorem vX1_takeFromGuests_12 : mz_okS IX1_takeFromGuests_12 1085 = true := by decide +kernel
def fX1_takeFromGuests_12_10 (g0 : Nat) : Nat → Int32 → Int32 → Int32 → mz_D → Option (Int32 × mz_D)
  | 0 => fun _ _ _ _ => none
  | n + 1 => fun x2 x3 x4 D => (if (D.1 g0 101 0) ≤ x4 then (some (x3, D)) else (if (fX11_isIn x2 x4) = 0 then (mz_gd (mz_ix x4 6) ((fX1_takeFromGuests_12_10 g0 n) x2 (x3 + (D.1 0 12 (x4).toNatClampNeg)) (x4 + (1 : Int32)) (mz_wi D 0 12 (x4).toNatClampNeg (0 : Int32)))) else ((fX1_takeFromGuests_12_10 g0 n) x2 x3 (x4 + (1 : Int32)) D)))
set_option maxHeartbeats 4000000 in
theorem tX1_takeFromGuests_12_10 (g0 : Nat) (hg0 : mz_tb g0 = true) (r : (Int32 × mz_D)) : ∀ (n : Nat) (x2 : Int32) (x3 : Int32) (x4 : Int32) (D : mz_D), fX1_takeFromGuests_12_10 g0 n x2 x3 x4 D = some r → mz_Go IX1_takeFromGuests_12 (some (.inl r.1), r.2) 0 0 (10, [some (.inr (.inr (some (g0, 101)))), some (.inr (.inr (some (0, 12)))), some (.inl x2), some (.inl x3), some (.inl x4)], [], D) := by
  intro n
  induction n with
  | zero => intro x2 x3 x4 D h; have h : (none : Option (Int32 × mz_D)) = some r := h; cases h
  | succ n ih =>
    intro x2 x3 x4 D h
    rw [fX1_takeFromGuests_12_10] at h
    refine mz_Go.run (gs := [mz_kz 0 g0 101]) (st' := (if (D.1 g0 101 0) ≤ x4 then (46, [some (.inr (.inr (some (g0, 101)))), some (.inr (.inr (some (0, 12)))), some (.inl x2), some (.inl x3), some (.inl x4)], [], D) else (19, [some (.inr (.inr (some (g0, 101)))), some (.inr (.inr (some (0, 12)))), some (.inl x2), some (.inl x3), some (.inl x4)], [], D))) bX1_takeFromGuests_10 oX1_takeFromGuests_10 rfl ⟨hg0, trivial⟩ ?_
    refine mz_Go.ite (fun hc1 => ?_) (fun hc1 => ?_)
    · have h := mz_ifp hc1 h
      refine mz_Go.run (gs := []) (st' := (47, [some (.inr (.inr (some (g0, 101)))), some (.inr (.inr (some (0, 12)))), some (.inl x2), some (.inl x3), some (.inl x4)], [.inl x3], D)) bX1_takeFromGuests_46 oX1_takeFromGuests_46 rfl trivial ?_
      cases h
      exact mz_Go.reti (by decide +kernel) rfl ⟨Nat.le_refl _, Nat.le_refl _⟩ rfl
    · have h := mz_ifn hc1 h
      refine mz_Go.run (gs := []) (st' := (22, [some (.inr (.inr (some (g0, 101)))), some (.inr (.inr (some (0, 12)))), some (.inl x2), some (.inl x3), some (.inl x4)], [.inl x4, .inl x2], D)) bX1_takeFromGuests_19 oX1_takeFromGuests_19 rfl trivial ?_
      refine mz_Go.callSN (I := IX1_takeFromGuests_12) (J := IX11_isIn) (as := [.inl x2, .inl x4]) (idx := 70) (pl := 1069) (rest := []) (mX11_isIn x2 x4 D _ rfl) kX11_isIn vX11_isIn (by decide +kernel) (by decide +kernel) (by decide +kernel) rfl rfl ⟨rfl, rfl⟩ rfl ?_
      refine mz_Go.run (gs := []) (st' := (if (fX11_isIn x2 x4) = 0 then (28, [some (.inr (.inr (some (g0, 101)))), some (.inr (.inr (some (0, 12)))), some (.inl x2), some (.inl x3), some (.inl x4)], [], D) else (40, [some (.inr (.inr (some (g0, 101)))), some (.inr (.inr (some (0, 12)))), some (.inl x2), some (.inl x3), some (.inl x4)], [], D))) bX1_takeFromGuests_25 oX1_takeFromGuests_25 rfl trivial ?_
      refine mz_Go.ite (fun hc2 => ?_) (fun hc2 => ?_)
      · have h := mz_ifp hc2 h
        obtain ⟨hb3, h⟩ := mz_gd_some h
        refine mz_Go.run (gs := [mz_kz 0 0 12, mz_ix x4 6, mz_kz 0 0 12, mz_ix x4 6]) (st' := (10, [some (.inr (.inr (some (g0, 101)))), some (.inr (.inr (some (0, 12)))), some (.inl x2), some (.inl (x3 + (D.1 0 12 (x4).toNatClampNeg))), some (.inl (x4 + (1 : Int32)))], [], (mz_wi D 0 12 (x4).toNatClampNeg (0 : Int32)))) bX1_takeFromGuests_28 oX1_takeFromGuests_28 rfl ⟨rfl, hb3, rfl, hb3, trivial⟩ ?_
        exact mz_Go.drop [true, true, true, true, true] (ih x2 (x3 + (D.1 0 12 (x4).toNatClampNeg)) (x4 + (1 : Int32)) (mz_wi D 0 12 (x4).toNatClampNeg (0 : Int32)) h)
      · have h := mz_ifn hc2 h
        refine mz_Go.run (gs := []) (st' := (10, [some (.inr (.inr (some (g0, 101)))), some (.inr (.inr (some (0, 12)))), some (.inl x2), some (.inl x3), some (.inl (x4 + (1 : Int32)))], [], D)) bX1_takeFromGuests_40 oX1_takeFromGuests_40 rfl trivial ?_
        exact mz_Go.drop [true, true, true, true, true] (ih x2 x3 (x4 + (1 : Int32)) D h)
def fX1_takeFromGuests_12 (g0 : Nat) (D : mz_D) : Option (Int32 × mz_D) := (fX1_takeFromGuests_12_10 g0 mz_N (fX4_heads g0 D) (0 : Int32) (0 : Int32) D)
set_option maxHeartbeats 4000000 in
theorem mX1_takeFromGuests_12 (g0 : Nat) (D : mz_D) (hg0 : mz_tb g0 = true) (r : (Int32 × mz_D)) (h : fX1_takeFromGuests_12 g0 D = some r) : mz_Met IX1_takeFromGuests_12 [.inr (.inr (some (g0, 101))), .inr (.inr (some (0, 12)))] D (some (.inl r.1), r.2) := by
  refine mz_Met.of (by decide +kernel) (Nat.le_of_ble_eq_true rfl) ?_
  show mz_Go IX1_takeFromGuests_12 (some (.inl r.1), r.2) 0 0 (0, [some (.inr (.inr (some (g0, 101)))), some (.inr (.inr (some (0, 12)))), none, none, none], [], D)
  rw [fX1_takeFromGuests_12] at h
  refine mz_Go.run (gs := []) (st' := (1, [some (.inr (.inr (some (g0, 101)))), some (.inr (.inr (some (0, 12)))), none, none, none], [.inr (.inr (some (g0, 101)))], D)) bX1_takeFromGuests_0 oX1_takeFromGuests_0 rfl trivial ?_
  refine mz_Go.callV (I := IX1_takeFromGuests_12) (J := IX4_heads) (as := []) (ci := 4) (g := g0) (o := 101) (idx := 60) (pl := 1087) (rest := []) (mX4_heads g0 D hg0 _ rfl) kX4_heads vX4_heads (by decide +kernel) (by decide +kernel) (by decide +kernel) rfl rfl ⟨rfl, rfl⟩ rfl rfl hg0 rfl ?_
  refine mz_Go.run (gs := []) (st' := (10, [some (.inr (.inr (some (g0, 101)))), some (.inr (.inr (some (0, 12)))), some (.inl (fX4_heads g0 D)), some (.inl (0 : Int32)), some (.inl (0 : Int32))], [], D)) bX1_takeFromGuests_4 oX1_takeFromGuests_4 rfl trivial ?_
  exact mz_Go.drop [true, true, true, true, true] (tX1_takeFromGuests_12_10 g0 hg0 r mz_N (fX4_heads g0 D) (0 : Int32) (0 : Int32) D h)
abbrev IX1_fillDues_12 : mz_I := (yX1_fillDues, cX1_fillDues, 4, none, 0, 3, 0, 0)
theorem kX1_fillDues_12 : mz_okm IX1_fillDues_12 1082 136 1080 3 = true := by decide +kernel
theorem vX1_fillDues_12 : mz_okV IX1_fillDues_12 1080 1081 = true := by decide +kernel
def fX1_fillDues_12_52 (g0 : Nat) (g1 : Nat) (s0 : Int32) (s1 : Int32) (D : mz_D) : Option mz_D := (Option.bind (fX1_spread_12 s1 s0 D) fun q1 => (some q1))
set_option maxHeartbeats 4000000 in
theorem tX1_fillDues_12_52 (g0 : Nat) (g1 : Nat) (hg0 : mz_tb g0 = true) (hg1 : mz_tb g1 = true) (r : mz_D) : ∀ (s0 : Int32) (s1 : Int32) (D : mz_D), fX1_fillDues_12_52 g0 g1 s0 s1 D = some r → mz_Go IX1_fillDues_12 (none, r) 0 0 (52, [none, none, none, some (.inr (.inr (some (0, 12))))], [.inl s0, .inl s1], D) := by
  intro s0 s1 D h
  rw [fX1_fillDues_12_52] at h
  refine mz_Go.run (gs := []) (st' := (53, [none, none, none, some (.inr (.inr (some (0, 12))))], [.inr (.inr (some (0, 12))), .inl s0, .inl s1], D)) bX1_fillDues_52 oX1_fillDues_52 rfl trivial ?_
  obtain ⟨q1, hq1, h⟩ := mz_bd_some h
  refine mz_Go.callS (I := IX1_fillDues_12) (J := IX1_spread_12) (as := [.inl s1, .inl s0, .inr (.inr (some (0, 12)))]) (idx := 48) (pl := 1065) (rest := []) (mX1_spread_12 s1 s0 D q1 hq1) kX1_spread_12 vX1_spread_12 (by decide +kernel) (by decide +kernel) (by decide +kernel) rfl rfl ⟨rfl, rfl⟩ rfl ?_
  cases h
  exact mz_Go.retv (by decide +kernel) rfl ⟨Nat.le_refl _, Nat.le_refl _⟩ rfl
def fX1_fillDues_12 (g0 : Nat) (g1 : Nat) (x2 : Int32) (D : mz_D) : Option mz_D := (if x2 = (1 : Int32) then (Option.bind (fX1_fillEaten_12 g0 g1 D) fun q2 => (Option.bind (fX1_takeFromGuests_12 g1 q2) fun q3 => (Option.bind (fX1_spread_12 q3.1 (fX4_heads g1 q3.2) q3.2) fun q4 => (some q4)))) else (Option.bind (fJ7_fill_53178_12 (0 : Int32) D) fun q5 => (Option.bind (fX1_total g0 q5) fun q6 => (if x2 = (2 : Int32) then (Option.bind (fX4_unitPayers g1 q5) fun q8 => (fX1_fillDues_12_52 g0 g1 q8 q6 q5)) else (fX1_fillDues_12_52 g0 g1 (fX4_heads g1 q5) q6 q5)))))
set_option maxHeartbeats 4000000 in
theorem mX1_fillDues_12 (g0 : Nat) (g1 : Nat) (x2 : Int32) (D : mz_D) (hg0 : mz_tb g0 = true) (hg1 : mz_tb g1 = true) (r : mz_D) (h : fX1_fillDues_12 g0 g1 x2 D = some r) : mz_Met IX1_fillDues_12 [.inr (.inr (some (g0, 109))), .inr (.inr (some (g1, 101))), .inl x2, .inr (.inr (some (0, 12)))] D (none, r) := by
  refine mz_Met.of (by decide +kernel) (Nat.le_of_ble_eq_true rfl) ?_
  show mz_Go IX1_fillDues_12 (none, r) 0 0 (0, [some (.inr (.inr (some (g0, 109)))), some (.inr (.inr (some (g1, 101)))), some (.inl x2), some (.inr (.inr (some (0, 12))))], [], D)
  rw [fX1_fillDues_12] at h
  refine mz_Go.run (gs := []) (st' := (if x2 = (1 : Int32) then (5, [some (.inr (.inr (some (g0, 109)))), some (.inr (.inr (some (g1, 101)))), some (.inl x2), some (.inr (.inr (some (0, 12))))], [], D) else (27, [some (.inr (.inr (some (g0, 109)))), some (.inr (.inr (some (g1, 101)))), some (.inl x2), some (.inr (.inr (some (0, 12))))], [], D))) bX1_fillDues_0 oX1_fillDues_0 rfl trivial ?_
  refine mz_Go.ite (fun hc1 => ?_) (fun hc1 => ?_)
  · have h := mz_ifp hc1 h
    refine mz_Go.run (gs := []) (st' := (8, [some (.inr (.inr (some (g0, 109)))), some (.inr (.inr (some (g1, 101)))), some (.inl x2), some (.inr (.inr (some (0, 12))))], [.inr (.inr (some (0, 12))), .inr (.inr (some (g1, 101))), .inr (.inr (some (g0, 109)))], D)) bX1_fillDues_5 oX1_fillDues_5 rfl trivial ?_
    obtain ⟨q2, hq2, h⟩ := mz_bd_some h
    refine mz_Go.callV (I := IX1_fillDues_12) (J := IX1_fillEaten_12) (as := [.inr (.inr (some (g1, 101))), .inr (.inr (some (0, 12)))]) (ci := 1) (g := g0) (o := 109) (idx := 52) (pl := 1083) (rest := []) (mX1_fillEaten_12 g0 g1 D hg0 hg1 q2 hq2) kX1_fillEaten_12 vX1_fillEaten_12 (by decide +kernel) (by decide +kernel) (by decide +kernel) rfl rfl ⟨rfl, rfl⟩ rfl rfl hg0 rfl ?_
    refine mz_Go.run (gs := []) (st' := (13, [some (.inr (.inr (some (g0, 109)))), some (.inr (.inr (some (g1, 101)))), some (.inl x2), some (.inr (.inr (some (0, 12))))], [.inr (.inr (some (0, 12))), .inr (.inr (some (g1, 101)))], q2)) bX1_fillDues_11 oX1_fillDues_11 rfl trivial ?_
    obtain ⟨q3, hq3, h⟩ := mz_bd_some h
    refine mz_Go.callS (I := IX1_fillDues_12) (J := IX1_takeFromGuests_12) (as := [.inr (.inr (some (g1, 101))), .inr (.inr (some (0, 12)))]) (idx := 56) (pl := 1084) (rest := []) (mX1_takeFromGuests_12 g1 q2 hg1 q3 hq3) kX1_takeFromGuests_12 vX1_takeFromGuests_12 (by decide +kernel) (by decide +kernel) (by decide +kernel) rfl rfl ⟨rfl, rfl⟩ rfl ?_
    refine mz_Go.run (gs := []) (st' := (17, [some (.inr (.inr (some (g0, 109)))), some (.inr (.inr (some (g1, 101)))), some (.inl x2), some (.inr (.inr (some (0, 12))))], [.inr (.inr (some (g1, 101))), .inl q3.1], q3.2)) bX1_fillDues_16 oX1_fillDues_16 rfl trivial ?_
    refine mz_Go.callV (I := IX1_fillDues_12) (J := IX4_heads) (as := []) (ci := 4) (g := g1) (o := 101) (idx := 60) (pl := 1087) (rest := [.inl q3.1]) (mX4_heads g1 q3.2 hg1 _ rfl) kX4_heads vX4_heads (by decide +kernel) (by decide +kernel) (by decide +kernel) rfl rfl ⟨rfl, rfl⟩ rfl rfl hg1 rfl ?_
    refine mz_Go.run (gs := []) (st' := (21, [some (.inr (.inr (some (g0, 109)))), some (.inr (.inr (some (g1, 101)))), some (.inl x2), some (.inr (.inr (some (0, 12))))], [.inr (.inr (some (0, 12))), .inl (fX4_heads g1 q3.2), .inl q3.1], q3.2)) bX1_fillDues_20 oX1_fillDues_20 rfl trivial ?_
    obtain ⟨q4, hq4, h⟩ := mz_bd_some h
    refine mz_Go.callS (I := IX1_fillDues_12) (J := IX1_spread_12) (as := [.inl q3.1, .inl (fX4_heads g1 q3.2), .inr (.inr (some (0, 12)))]) (idx := 48) (pl := 1065) (rest := []) (mX1_spread_12 q3.1 (fX4_heads g1 q3.2) q3.2 q4 hq4) kX1_spread_12 vX1_spread_12 (by decide +kernel) (by decide +kernel) (by decide +kernel) rfl rfl ⟨rfl, rfl⟩ rfl ?_
    refine mz_Go.run (gs := []) (st' := (56, [some (.inr (.inr (some (g0, 109)))), some (.inr (.inr (some (g1, 101)))), some (.inl x2), some (.inr (.inr (some (0, 12))))], [], q4)) bX1_fillDues_24 oX1_fillDues_24 rfl trivial ?_
    cases h
    exact mz_Go.retv (by decide +kernel) rfl ⟨Nat.le_refl _, Nat.le_refl _⟩ rfl
  · have h := mz_ifn hc1 h
    refine mz_Go.run (gs := []) (st' := (29, [some (.inr (.inr (some (g0, 109)))), some (.inr (.inr (some (g1, 101)))), some (.inl x2), some (.inr (.inr (some (0, 12))))], [.inl (0 : Int32), .inr (.inr (some (0, 12)))], D)) bX1_fillDues_27 oX1_fillDues_27 rfl trivial ?_
    obtain ⟨q5, hq5, h⟩ := mz_bd_some h
    refine mz_Go.callS (I := IX1_fillDues_12) (J := IJ7_fill_53178_12) (as := [.inr (.inr (some (0, 12))), .inl (0 : Int32)]) (idx := 32) (pl := 1062) (rest := []) (mJ7_fill_53178_12 (0 : Int32) D q5 hq5) kJ7_fill_53178_12 vJ7_fill_53178_12 (by decide +kernel) (by decide +kernel) (by decide +kernel) rfl rfl ⟨rfl, rfl⟩ rfl ?_
    refine mz_Go.run (gs := []) (st' := (33, [some (.inr (.inr (some (g0, 109)))), some (.inr (.inr (some (g1, 101)))), some (.inl x2), some (.inr (.inr (some (0, 12))))], [.inr (.inr (some (g0, 109)))], q5)) bX1_fillDues_32 oX1_fillDues_32 rfl trivial ?_
    obtain ⟨q6, hq6, h⟩ := mz_bd_some h
    refine mz_Go.callV (I := IX1_fillDues_12) (J := IX1_total) (as := []) (ci := 1) (g := g0) (o := 109) (idx := 63) (pl := 1088) (rest := []) (mX1_total g0 q5 hg0 q6 hq6) kX1_total vX1_total (by decide +kernel) (by decide +kernel) (by decide +kernel) rfl rfl ⟨rfl, rfl⟩ rfl rfl hg0 rfl ?_
    refine mz_Go.run (gs := []) (st' := (if x2 = (2 : Int32) then (41, [some (.inr (.inr (some (g0, 109)))), some (.inr (.inr (some (g1, 101)))), some (.inl x2), some (.inr (.inr (some (0, 12))))], [.inl q6], q5) else (48, [some (.inr (.inr (some (g0, 109)))), some (.inr (.inr (some (g1, 101)))), some (.inl x2), some (.inr (.inr (some (0, 12))))], [.inl q6], q5))) bX1_fillDues_36 oX1_fillDues_36 rfl trivial ?_
    refine mz_Go.ite (fun hc7 => ?_) (fun hc7 => ?_)
    · have h := mz_ifp hc7 h
      refine mz_Go.run (gs := []) (st' := (42, [some (.inr (.inr (some (g0, 109)))), some (.inr (.inr (some (g1, 101)))), some (.inl x2), some (.inr (.inr (some (0, 12))))], [.inr (.inr (some (g1, 101))), .inl q6], q5)) bX1_fillDues_41 oX1_fillDues_41 rfl trivial ?_
      obtain ⟨q8, hq8, h⟩ := mz_bd_some h
      refine mz_Go.callV (I := IX1_fillDues_12) (J := IX4_unitPayers) (as := []) (ci := 4) (g := g1) (o := 101) (idx := 66) (pl := 1089) (rest := [.inl q6]) (mX4_unitPayers g1 q5 hg1 q8 hq8) kX4_unitPayers vX4_unitPayers (by decide +kernel) (by decide +kernel) (by decide +kernel) rfl rfl ⟨rfl, rfl⟩ rfl rfl hg1 rfl ?_
      refine mz_Go.run (gs := []) (st' := (52, [some (.inr (.inr (some (g0, 109)))), some (.inr (.inr (some (g1, 101)))), some (.inl x2), some (.inr (.inr (some (0, 12))))], [.inl q8, .inl q6], q5)) bX1_fillDues_45 oX1_fillDues_45 rfl trivial ?_
      exact mz_Go.drop [false, false, false, true] (tX1_fillDues_12_52 g0 g1 hg0 hg1 r q8 q6 q5 h)
    · have h := mz_ifn hc7 h
      refine mz_Go.run (gs := []) (st' := (49, [some (.inr (.inr (some (g0, 109)))), some (.inr (.inr (some (g1, 101)))), some (.inl x2), some (.inr (.inr (some (0, 12))))], [.inr (.inr (some (g1, 101))), .inl q6], q5)) bX1_fillDues_48 oX1_fillDues_48 rfl trivial ?_
      refine mz_Go.callV (I := IX1_fillDues_12) (J := IX4_heads) (as := []) (ci := 4) (g := g1) (o := 101) (idx := 60) (pl := 1087) (rest := [.inl q6]) (mX4_heads g1 q5 hg1 _ rfl) kX4_heads vX4_heads (by decide +kernel) (by decide +kernel) (by decide +kernel) rfl rfl ⟨rfl, rfl⟩ rfl rfl hg1 rfl ?_
      exact mz_Go.drop [false, false, false, true] (tX1_fillDues_12_52 g0 g1 hg0 hg1 r (fX4_heads g1 q5) q6 q5 h)
def bX3_run_0 : List mz_E := [(0, .aload_n 0, 0, 0, 0, 0, 0), (1, .iload_n 2, 0, 0, 0, 0, 0)]
theorem oX3_run_0 : bX3_run_0.all (mz_ok RX3 cX3_run 6) = true := by decide +kernel
def bX3_run_5 : List mz_E := [(5, .aload_n 1, 0, 0, 0, 0, 0), (6, .getfield 42, 6, 1, 479, 0, 0), (9, .aload_n 1, 0, 0, 0, 0, 0), (10, .getfield 48, 6, 0, 476, 0, 0), (13, .aload_n 1, 0, 0, 0, 0, 0), (14, .getfield 42, 6, 1, 479, 0, 0), (17, .getfield 52, 1, 1, 354, 0, 0), (20, .aload_n 0, 0, 0, 0, 0, 0), (21, .getfield 18, 3, 11, 533, 0, 0)]
theorem oX3_run_5 : bX3_run_5.all (mz_ok RX3 cX3_run 6) = true := by decide +kernel
def bX3_run_27 : List mz_E := [(27, .aload_n 1, 0, 0, 0, 0, 0), (28, .getfield 61, 6, 4, 491, 0, 0), (31, .astore_n 3, 0, 0, 0, 0, 0), (32, .iconst 0, 0, 0, 0, 0, 0), (33, .istore 4, 0, 0, 0, 0, 0), (35, .iconst 0, 0, 0, 0, 0, 0), (36, .istore 5, 0, 0, 0, 0, 0)]
theorem oX3_run_27 : bX3_run_27.all (mz_ok RX3 cX3_run 6) = true := by decide +kernel
def bX3_run_38 : List mz_E := [(38, .iload 5, 0, 0, 0, 0, 0), (40, .ldc 65, 0, 0, 1496, 1000000, 0), (42, .if_icmp .ge 119, 0, 161, 0, 0, 0)]
theorem oX3_run_38 : bX3_run_38.all (mz_ok RX3 cX3_run 6) = true := by decide +kernel
def bX3_run_45 : List mz_E := [(45, .aload_n 0, 0, 0, 0, 0, 0), (46, .getfield 66, 3, 6, 528, 0, 0), (49, .ifCond .ne 112, 0, 161, 0, 0, 0)]
theorem oX3_run_45 : bX3_run_45.all (mz_ok RX3 cX3_run 6) = true := by decide +kernel
def bX3_run_52 : List mz_E := [(52, .aload_n 0, 0, 0, 0, 0, 0), (53, .getfield 69, 3, 8, 530, 0, 0), (56, .ifCond .le 35, 0, 91, 0, 0, 0)]
theorem oX3_run_52 : bX3_run_52.all (mz_ok RX3 cX3_run 6) = true := by decide +kernel
def bX3_run_91 : List mz_E := [(91, .iload 4, 0, 0, 0, 0, 0), (93, .ifCond .lt 12, 0, 105, 0, 0, 0)]
theorem oX3_run_91 : bX3_run_91.all (mz_ok RX3 cX3_run 6) = true := by decide +kernel
def bX3_run_105 : List mz_E := [(105, .aload_n 0, 0, 0, 0, 0, 0), (106, .iconst 1, 0, 0, 0, 1, 0), (107, .putfield 66, 3, 6, 528, 0, 0), (110, .goto 45, 0, 155, 0, 0, 0), (155, .iinc 5 1, 0, 0, 0, 1, 0), (158, .goto (-120), 0, 38, 0, 0, 0)]
theorem oX3_run_105 : bX3_run_105.all (mz_ok RX3 cX3_run 6) = true := by decide +kernel
def bX3_run_96 : List mz_E := [(96, .iload 4, 0, 0, 0, 0, 0), (98, .aload_n 3, 0, 0, 0, 0, 0), (99, .getfield 81, 9, 1, 432, 0, 0), (102, .if_icmp .lt 11, 0, 113, 0, 0, 0)]
theorem oX3_run_96 : bX3_run_96.all (mz_ok RX3 cX3_run 6) = true := by decide +kernel
def bX3_run_113 : List mz_E := [(113, .aload_n 0, 0, 0, 0, 0, 0), (114, .getfield 84, 3, 0, 521, 0, 0), (117, .sipush 300, 0, 0, 0, 300, 0), (120, .if_icmp .lt 16, 0, 136, 0, 0, 0)]
theorem oX3_run_113 : bX3_run_113.all (mz_ok RX3 cX3_run 6) = true := by decide +kernel
def bX3_run_136 : List mz_E := [(136, .aload_n 0, 0, 0, 0, 0, 0), (137, .dup, 0, 0, 0, 0, 0), (138, .getfield 84, 3, 0, 521, 0, 0), (141, .iconst 1, 0, 0, 0, 1, 0), (142, .iadd, 0, 0, 0, 0, 0), (143, .putfield 84, 3, 0, 521, 0, 0), (146, .aload_n 0, 0, 0, 0, 0, 0), (147, .aload_n 1, 0, 0, 0, 0, 0), (148, .iload 4, 0, 0, 0, 0, 0)]
theorem oX3_run_136 : bX3_run_136.all (mz_ok RX3 cX3_run 6) = true := by decide +kernel
def bX3_run_153 : List mz_E := [(153, .istore 4, 0, 0, 0, 0, 0), (155, .iinc 5 1, 0, 0, 0, 1, 0), (158, .goto (-120), 0, 38, 0, 0, 0)]
theorem oX3_run_153 : bX3_run_153.all (mz_ok RX3 cX3_run 6) = true := by decide +kernel
def bX3_run_123 : List mz_E := [(123, .aload_n 0, 0, 0, 0, 0, 0), (124, .iconst 1, 0, 0, 0, 1, 0), (125, .putfield 34, 3, 5, 527, 0, 0), (128, .aload_n 0, 0, 0, 0, 0, 0), (129, .iconst 1, 0, 0, 0, 1, 0), (130, .putfield 66, 3, 6, 528, 0, 0), (133, .goto 22, 0, 155, 0, 0, 0), (155, .iinc 5 1, 0, 0, 0, 1, 0), (158, .goto (-120), 0, 38, 0, 0, 0)]
theorem oX3_run_123 : bX3_run_123.all (mz_ok RX3 cX3_run 6) = true := by decide +kernel
def bX3_run_59 : List mz_E := [(59, .iload 4, 0, 0, 0, 0, 0), (61, .aload_n 3, 0, 0, 0, 0, 0), (62, .getfield 72, 9, 8, 454, 0, 0), (65, .aload_n 0, 0, 0, 0, 0, 0), (66, .getfield 9, 3, 9, 531, 0, 0), (69, .aload_n 0, 0, 0, 0, 0, 0), (70, .getfield 69, 3, 8, 530, 0, 0), (73, .iconst 1, 0, 0, 0, 1, 0), (74, .isub, 0, 0, 0, 0, 0), (75, .iaload, 0, 0, 0, 0, 0), (76, .iaload, 0, 0, 0, 0, 0), (77, .if_icmp .lt 14, 0, 91, 0, 0, 0)]
theorem oX3_run_59 : bX3_run_59.all (mz_ok RX3 cX3_run 6) = true := by decide +kernel
def bX3_run_80 : List mz_E := [(80, .aload_n 0, 0, 0, 0, 0, 0), (81, .iload 4, 0, 0, 0, 0, 0)]
theorem oX3_run_80 : bX3_run_80.all (mz_ok RX3 cX3_run 6) = true := by decide +kernel
def bX3_run_86 : List mz_E := [(86, .istore 4, 0, 0, 0, 0, 0), (88, .goto 67, 0, 155, 0, 0, 0), (155, .iinc 5 1, 0, 0, 0, 1, 0), (158, .goto (-120), 0, 38, 0, 0, 0)]
theorem oX3_run_86 : bX3_run_86.all (mz_ok RX3 cX3_run 6) = true := by decide +kernel
abbrev IX3_run : mz_I := (yX3_run, cX3_run, 6, none, 0, 5, 0, 0)
theorem kX3_run : mz_okm IX3_run 1490 140 1488 2 = true := by decide +kernel
theorem vX3_run : mz_okV IX3_run 1488 1489 = true := by decide +kernel
def fX3_run_105 (g1 : Nat) (k38 : Int32 → Int32 → mz_D → Option mz_D) (x4 : Int32) (x5 : Int32) (D : mz_D) : Option mz_D := (k38 x4 (x5 + (1 : Int32)) (mz_wi D 0 9 6 (1 : Int32)))
set_option maxHeartbeats 4000000 in
theorem tX3_run_105 (g1 : Nat) (hg1 : mz_tb g1 = true) (r : mz_D) (k38 : Int32 → Int32 → mz_D → Option mz_D) (hk38 : ∀ (x4 : Int32) (x5 : Int32) (D : mz_D), k38 x4 x5 D = some r → mz_Go IX3_run (none, r) 0 0 (38, [some (.inr (.inr (some (0, 9)))), some (.inr (.inr (some (g1, 100)))), none, some (.inr (.inr (some (g1, 119)))), some (.inl x4), some (.inl x5)], [], D)) : ∀ (x4 : Int32) (x5 : Int32) (D : mz_D), fX3_run_105 g1 k38 x4 x5 D = some r → mz_Go IX3_run (none, r) 0 0 (105, [some (.inr (.inr (some (0, 9)))), some (.inr (.inr (some (g1, 100)))), none, some (.inr (.inr (some (g1, 119)))), some (.inl x4), some (.inl x5)], [], D) := by
  intro x4 x5 D h
  rw [fX3_run_105] at h
  refine mz_Go.run (gs := [mz_kz 0 0 9, mz_bo (1 : Int32)]) (st' := (38, [some (.inr (.inr (some (0, 9)))), some (.inr (.inr (some (g1, 100)))), none, some (.inr (.inr (some (g1, 119)))), some (.inl x4), some (.inl (x5 + (1 : Int32)))], [], (mz_wi D 0 9 6 (1 : Int32)))) bX3_run_105 oX3_run_105 rfl ⟨rfl, (by decide), trivial⟩ ?_
  exact mz_Go.drop [true, true, false, true, true, true] (hk38 x4 (x5 + (1 : Int32)) (mz_wi D 0 9 6 (1 : Int32)) h)
def fX3_run_91 (g1 : Nat) (k38 : Int32 → Int32 → mz_D → Option mz_D) (x4 : Int32) (x5 : Int32) (D : mz_D) : Option mz_D := (if x4 < 0 then (fX3_run_105 g1 k38 x4 x5 D) else (if x4 < (D.1 g1 119 1) then (if (D.1 0 9 0) < (300 : Int32) then (Option.bind (fX3_comeTo g1 x4 (mz_wi D 0 9 0 ((D.1 0 9 0) + (1 : Int32)))) fun q4 => (k38 q4.1 (x5 + (1 : Int32)) q4.2)) else (k38 x4 (x5 + (1 : Int32)) (mz_wi (mz_wi D 0 9 5 (1 : Int32)) 0 9 6 (1 : Int32)))) else (fX3_run_105 g1 k38 x4 x5 D)))
set_option maxHeartbeats 4000000 in
theorem tX3_run_91 (g1 : Nat) (hg1 : mz_tb g1 = true) (r : mz_D) (k38 : Int32 → Int32 → mz_D → Option mz_D) (hk38 : ∀ (x4 : Int32) (x5 : Int32) (D : mz_D), k38 x4 x5 D = some r → mz_Go IX3_run (none, r) 0 0 (38, [some (.inr (.inr (some (0, 9)))), some (.inr (.inr (some (g1, 100)))), none, some (.inr (.inr (some (g1, 119)))), some (.inl x4), some (.inl x5)], [], D)) : ∀ (x4 : Int32) (x5 : Int32) (D : mz_D), fX3_run_91 g1 k38 x4 x5 D = some r → mz_Go IX3_run (none, r) 0 0 (91, [some (.inr (.inr (some (0, 9)))), some (.inr (.inr (some (g1, 100)))), none, some (.inr (.inr (some (g1, 119)))), some (.inl x4), some (.inl x5)], [], D) := by
  intro x4 x5 D h
  rw [fX3_run_91] at h
  refine mz_Go.run (gs := []) (st' := (if x4 < 0 then (105, [some (.inr (.inr (some (0, 9)))), some (.inr (.inr (some (g1, 100)))), none, some (.inr (.inr (some (g1, 119)))), some (.inl x4), some (.inl x5)], [], D) else (96, [some (.inr (.inr (some (0, 9)))), some (.inr (.inr (some (g1, 100)))), none, some (.inr (.inr (some (g1, 119)))), some (.inl x4), some (.inl x5)], [], D))) bX3_run_91 oX3_run_91 rfl trivial ?_
  refine mz_Go.ite (fun hc1 => ?_) (fun hc1 => ?_)
  · have h := mz_ifp hc1 h
    exact mz_Go.drop [true, true, false, true, true, true] (tX3_run_105 g1 hg1 r k38 hk38 x4 x5 D h)
  · have h := mz_ifn hc1 h
    refine mz_Go.run (gs := [mz_kz 0 g1 119]) (st' := (if x4 < (D.1 g1 119 1) then (113, [some (.inr (.inr (some (0, 9)))), some (.inr (.inr (some (g1, 100)))), none, some (.inr (.inr (some (g1, 119)))), some (.inl x4), some (.inl x5)], [], D) else (105, [some (.inr (.inr (some (0, 9)))), some (.inr (.inr (some (g1, 100)))), none, some (.inr (.inr (some (g1, 119)))), some (.inl x4), some (.inl x5)], [], D))) bX3_run_96 oX3_run_96 rfl ⟨hg1, trivial⟩ ?_
    refine mz_Go.ite (fun hc2 => ?_) (fun hc2 => ?_)
    · have h := mz_ifp hc2 h
      refine mz_Go.run (gs := [mz_kz 0 0 9]) (st' := (if (D.1 0 9 0) < (300 : Int32) then (136, [some (.inr (.inr (some (0, 9)))), some (.inr (.inr (some (g1, 100)))), none, some (.inr (.inr (some (g1, 119)))), some (.inl x4), some (.inl x5)], [], D) else (123, [some (.inr (.inr (some (0, 9)))), some (.inr (.inr (some (g1, 100)))), none, some (.inr (.inr (some (g1, 119)))), some (.inl x4), some (.inl x5)], [], D))) bX3_run_113 oX3_run_113 rfl ⟨rfl, trivial⟩ ?_
      refine mz_Go.ite (fun hc3 => ?_) (fun hc3 => ?_)
      · have h := mz_ifp hc3 h
        refine mz_Go.run (gs := [mz_kz 0 0 9, mz_kz 0 0 9]) (st' := (150, [some (.inr (.inr (some (0, 9)))), some (.inr (.inr (some (g1, 100)))), none, some (.inr (.inr (some (g1, 119)))), some (.inl x4), some (.inl x5)], [.inl x4, .inr (.inr (some (g1, 100))), .inr (.inr (some (0, 9)))], (mz_wi D 0 9 0 ((D.1 0 9 0) + (1 : Int32))))) bX3_run_136 oX3_run_136 rfl ⟨rfl, rfl, trivial⟩ ?_
        obtain ⟨q4, hq4, h⟩ := mz_bd_some h
        refine mz_Go.callV (I := IX3_run) (J := IX3_comeTo) (as := [.inr (.inr (some (g1, 100))), .inl x4]) (ci := 3) (g := 0) (o := 9) (idx := 87) (pl := 1501) (rest := []) (mX3_comeTo g1 x4 (mz_wi D 0 9 0 ((D.1 0 9 0) + (1 : Int32))) hg1 q4 hq4) kX3_comeTo vX3_comeTo (by decide +kernel) (by decide +kernel) (by decide +kernel) rfl rfl ⟨rfl, rfl⟩ rfl rfl rfl rfl ?_
        refine mz_Go.run (gs := []) (st' := (38, [some (.inr (.inr (some (0, 9)))), some (.inr (.inr (some (g1, 100)))), none, some (.inr (.inr (some (g1, 119)))), some (.inl q4.1), some (.inl (x5 + (1 : Int32)))], [], q4.2)) bX3_run_153 oX3_run_153 rfl trivial ?_
        exact mz_Go.drop [true, true, false, true, true, true] (hk38 q4.1 (x5 + (1 : Int32)) q4.2 h)
      · have h := mz_ifn hc3 h
        refine mz_Go.run (gs := [mz_kz 0 0 9, mz_bo (1 : Int32), mz_kz 0 0 9, mz_bo (1 : Int32)]) (st' := (38, [some (.inr (.inr (some (0, 9)))), some (.inr (.inr (some (g1, 100)))), none, some (.inr (.inr (some (g1, 119)))), some (.inl x4), some (.inl (x5 + (1 : Int32)))], [], (mz_wi (mz_wi D 0 9 5 (1 : Int32)) 0 9 6 (1 : Int32)))) bX3_run_123 oX3_run_123 rfl ⟨rfl, (by decide), rfl, (by decide), trivial⟩ ?_
        exact mz_Go.drop [true, true, false, true, true, true] (hk38 x4 (x5 + (1 : Int32)) (mz_wi (mz_wi D 0 9 5 (1 : Int32)) 0 9 6 (1 : Int32)) h)
    · have h := mz_ifn hc2 h
      exact mz_Go.drop [true, true, false, true, true, true] (tX3_run_105 g1 hg1 r k38 hk38 x4 x5 D h)
def fX3_run_38 (g1 : Nat) : Nat → Int32 → Int32 → mz_D → Option mz_D
  | 0 => fun _ _ _ => none
  | n + 1 => fun x4 x5 D => (if (1000000 : Int32) ≤ x5 then (some D) else (if (D.1 0 9 6) = 0 then (if (D.1 0 9 8) ≤ 0 then (fX3_run_91 g1 (fX3_run_38 g1 n) x4 x5 D) else (mz_gd (mz_ix ((D.1 0 9 8) - (1 : Int32)) 3) (mz_gd (mz_ix (D.1 0 10 (((D.1 0 9 8) - (1 : Int32))).toNatClampNeg) 30) (if x4 < (D.1 g1 126 ((D.1 0 10 (((D.1 0 9 8) - (1 : Int32))).toNatClampNeg)).toNatClampNeg) then (fX3_run_91 g1 (fX3_run_38 g1 n) x4 x5 D) else (Option.bind (fX3_leaveOrRepeat x4 D) fun q7 => ((fX3_run_38 g1 n) q7.1 (x5 + (1 : Int32)) q7.2)))))) else (some D)))
set_option maxHeartbeats 4000000 in
theorem tX3_run_38 (g1 : Nat) (hg1 : mz_tb g1 = true) (r : mz_D) : ∀ (n : Nat) (x4 : Int32) (x5 : Int32) (D : mz_D), fX3_run_38 g1 n x4 x5 D = some r → mz_Go IX3_run (none, r) 0 0 (38, [some (.inr (.inr (some (0, 9)))), some (.inr (.inr (some (g1, 100)))), none, some (.inr (.inr (some (g1, 119)))), some (.inl x4), some (.inl x5)], [], D) := by
  intro n
  induction n with
  | zero => intro x4 x5 D h; have h : (none : Option mz_D) = some r := h; cases h
  | succ n ih =>
    intro x4 x5 D h
    rw [fX3_run_38] at h
    refine mz_Go.run (gs := []) (st' := (if (1000000 : Int32) ≤ x5 then (161, [some (.inr (.inr (some (0, 9)))), some (.inr (.inr (some (g1, 100)))), none, some (.inr (.inr (some (g1, 119)))), some (.inl x4), some (.inl x5)], [], D) else (45, [some (.inr (.inr (some (0, 9)))), some (.inr (.inr (some (g1, 100)))), none, some (.inr (.inr (some (g1, 119)))), some (.inl x4), some (.inl x5)], [], D))) bX3_run_38 oX3_run_38 rfl trivial ?_
    refine mz_Go.ite (fun hc1 => ?_) (fun hc1 => ?_)
    · have h := mz_ifp hc1 h
      cases h
      exact mz_Go.retv (by decide +kernel) rfl ⟨Nat.le_refl _, Nat.le_refl _⟩ rfl
    · have h := mz_ifn hc1 h
      refine mz_Go.run (gs := [mz_kz 0 0 9]) (st' := (if (D.1 0 9 6) = 0 then (52, [some (.inr (.inr (some (0, 9)))), some (.inr (.inr (some (g1, 100)))), none, some (.inr (.inr (some (g1, 119)))), some (.inl x4), some (.inl x5)], [], D) else (161, [some (.inr (.inr (some (0, 9)))), some (.inr (.inr (some (g1, 100)))), none, some (.inr (.inr (some (g1, 119)))), some (.inl x4), some (.inl x5)], [], D))) bX3_run_45 oX3_run_45 rfl ⟨rfl, trivial⟩ ?_
      refine mz_Go.ite (fun hc2 => ?_) (fun hc2 => ?_)
      · have h := mz_ifp hc2 h
        refine mz_Go.run (gs := [mz_kz 0 0 9]) (st' := (if (D.1 0 9 8) ≤ 0 then (91, [some (.inr (.inr (some (0, 9)))), some (.inr (.inr (some (g1, 100)))), none, some (.inr (.inr (some (g1, 119)))), some (.inl x4), some (.inl x5)], [], D) else (59, [some (.inr (.inr (some (0, 9)))), some (.inr (.inr (some (g1, 100)))), none, some (.inr (.inr (some (g1, 119)))), some (.inl x4), some (.inl x5)], [], D))) bX3_run_52 oX3_run_52 rfl ⟨rfl, trivial⟩ ?_
        refine mz_Go.ite (fun hc3 => ?_) (fun hc3 => ?_)
        · have h := mz_ifp hc3 h
          exact mz_Go.drop [true, true, false, true, true, true] (tX3_run_91 g1 hg1 r (fX3_run_38 g1 n) ih x4 x5 D h)
        · have h := mz_ifn hc3 h
          obtain ⟨hb4, h⟩ := mz_gd_some h
          obtain ⟨hb5, h⟩ := mz_gd_some h
          refine mz_Go.run (gs := [mz_kz 0 g1 119, mz_kz 0 0 9, mz_kz 0 0 9, mz_kz 0 0 10, mz_ix ((D.1 0 9 8) - (1 : Int32)) 3, mz_kz 0 g1 126, mz_ix (D.1 0 10 (((D.1 0 9 8) - (1 : Int32))).toNatClampNeg) 30]) (st' := (if x4 < (D.1 g1 126 ((D.1 0 10 (((D.1 0 9 8) - (1 : Int32))).toNatClampNeg)).toNatClampNeg) then (91, [some (.inr (.inr (some (0, 9)))), some (.inr (.inr (some (g1, 100)))), none, some (.inr (.inr (some (g1, 119)))), some (.inl x4), some (.inl x5)], [], D) else (80, [some (.inr (.inr (some (0, 9)))), some (.inr (.inr (some (g1, 100)))), none, some (.inr (.inr (some (g1, 119)))), some (.inl x4), some (.inl x5)], [], D))) bX3_run_59 oX3_run_59 rfl ⟨hg1, rfl, rfl, rfl, hb4, hg1, hb5, trivial⟩ ?_
          refine mz_Go.ite (fun hc6 => ?_) (fun hc6 => ?_)
          · have h := mz_ifp hc6 h
            exact mz_Go.drop [true, true, false, true, true, true] (tX3_run_91 g1 hg1 r (fX3_run_38 g1 n) ih x4 x5 D h)
          · have h := mz_ifn hc6 h
            refine mz_Go.run (gs := []) (st' := (83, [some (.inr (.inr (some (0, 9)))), some (.inr (.inr (some (g1, 100)))), none, some (.inr (.inr (some (g1, 119)))), some (.inl x4), some (.inl x5)], [.inl x4, .inr (.inr (some (0, 9)))], D)) bX3_run_80 oX3_run_80 rfl trivial ?_
            obtain ⟨q7, hq7, h⟩ := mz_bd_some h
            refine mz_Go.callV (I := IX3_run) (J := IX3_leaveOrRepeat) (as := [.inl x4]) (ci := 3) (g := 0) (o := 9) (idx := 77) (pl := 1497) (rest := []) (mX3_leaveOrRepeat x4 D q7 hq7) kX3_leaveOrRepeat vX3_leaveOrRepeat (by decide +kernel) (by decide +kernel) (by decide +kernel) rfl rfl ⟨rfl, rfl⟩ rfl rfl rfl rfl ?_
            refine mz_Go.run (gs := []) (st' := (38, [some (.inr (.inr (some (0, 9)))), some (.inr (.inr (some (g1, 100)))), none, some (.inr (.inr (some (g1, 119)))), some (.inl q7.1), some (.inl (x5 + (1 : Int32)))], [], q7.2)) bX3_run_86 oX3_run_86 rfl trivial ?_
            exact mz_Go.drop [true, true, false, true, true, true] (ih q7.1 (x5 + (1 : Int32)) q7.2 h)
      · have h := mz_ifn hc2 h
        cases h
        exact mz_Go.retv (by decide +kernel) rfl ⟨Nat.le_refl _, Nat.le_refl _⟩ rfl
def fX3_run (g1 : Nat) (x2 : Int32) (D : mz_D) : Option mz_D := (Option.bind (fX1_fillDues_12 g1 g1 (D.1 g1 109 1) (mz_wi (mz_wi (mz_wi (mz_wi (mz_wi (mz_wi (mz_wi (mz_wi (mz_wi D 0 9 7 x2) 0 9 0 (0 : Int32)) 0 9 1 (0 : Int32)) 0 9 2 (0 : Int32)) 0 9 3 (0 : Int32)) 0 9 4 (0 : Int32)) 0 9 8 (0 : Int32)) 0 9 5 (0 : Int32)) 0 9 6 (0 : Int32))) fun q1 => (fX3_run_38 g1 mz_N (0 : Int32) (0 : Int32) q1))
set_option maxHeartbeats 4000000 in
theorem mX3_run (g1 : Nat) (x2 : Int32) (D : mz_D) (hg1 : mz_tb g1 = true) (r : mz_D) (h : fX3_run g1 x2 D = some r) : mz_Met IX3_run [.inr (.inr (some (0, 9))), .inr (.inr (some (g1, 100))), .inl x2] D (none, r) := by
  refine mz_Met.of (by decide +kernel) (Nat.le_of_ble_eq_true rfl) ?_
  show mz_Go IX3_run (none, r) 0 0 (0, [some (.inr (.inr (some (0, 9)))), some (.inr (.inr (some (g1, 100)))), some (.inl x2), none, none, none], [], D)
  rw [fX3_run] at h
  refine mz_Go.run (gs := []) (st' := (2, [some (.inr (.inr (some (0, 9)))), some (.inr (.inr (some (g1, 100)))), some (.inl x2), none, none, none], [.inl x2, .inr (.inr (some (0, 9)))], D)) bX3_run_0 oX3_run_0 rfl trivial ?_
  refine mz_Go.callV (I := IX3_run) (J := IX3_begin) (as := [.inl x2]) (ci := 3) (g := 0) (o := 9) (idx := 38) (pl := 1491) (rest := []) (mX3_begin x2 D) kX3_begin vX3_begin (by decide +kernel) (by decide +kernel) (by decide +kernel) rfl rfl ⟨rfl, rfl⟩ rfl rfl rfl rfl ?_
  refine mz_Go.run (gs := [mz_kz 0 g1 100, mz_kz 0 g1 100, mz_kz 0 g1 100, mz_kz 0 g1 109, mz_kz 0 0 9]) (st' := (24, [some (.inr (.inr (some (0, 9)))), some (.inr (.inr (some (g1, 100)))), some (.inl x2), none, none, none], [.inr (.inr (some (0, 12))), .inl (D.1 g1 109 1), .inr (.inr (some (g1, 101))), .inr (.inr (some (g1, 109)))], (mz_wi (mz_wi (mz_wi (mz_wi (mz_wi (mz_wi (mz_wi (mz_wi (mz_wi D 0 9 7 x2) 0 9 0 (0 : Int32)) 0 9 1 (0 : Int32)) 0 9 2 (0 : Int32)) 0 9 3 (0 : Int32)) 0 9 4 (0 : Int32)) 0 9 8 (0 : Int32)) 0 9 5 (0 : Int32)) 0 9 6 (0 : Int32)))) bX3_run_5 oX3_run_5 rfl ⟨hg1, hg1, hg1, hg1, rfl, trivial⟩ ?_
  obtain ⟨q1, hq1, h⟩ := mz_bd_some h
  refine mz_Go.callV (I := IX3_run) (J := IX1_fillDues_12) (as := [.inr (.inr (some (g1, 101))), .inl (D.1 g1 109 1), .inr (.inr (some (0, 12)))]) (ci := 1) (g := g1) (o := 109) (idx := 57) (pl := 1495) (rest := []) (mX1_fillDues_12 g1 g1 (D.1 g1 109 1) (mz_wi (mz_wi (mz_wi (mz_wi (mz_wi (mz_wi (mz_wi (mz_wi (mz_wi D 0 9 7 x2) 0 9 0 (0 : Int32)) 0 9 1 (0 : Int32)) 0 9 2 (0 : Int32)) 0 9 3 (0 : Int32)) 0 9 4 (0 : Int32)) 0 9 8 (0 : Int32)) 0 9 5 (0 : Int32)) 0 9 6 (0 : Int32)) hg1 hg1 q1 hq1) kX1_fillDues_12 vX1_fillDues_12 (by decide +kernel) (by decide +kernel) (by decide +kernel) rfl rfl ⟨rfl, rfl⟩ rfl rfl hg1 rfl ?_
  refine mz_Go.run (gs := [mz_kz 0 g1 100]) (st' := (38, [some (.inr (.inr (some (0, 9)))), some (.inr (.inr (some (g1, 100)))), some (.inl x2), some (.inr (.inr (some (g1, 119)))), some (.inl (0 : Int32)), some (.inl (0 : Int32))], [], q1)) bX3_run_27 oX3_run_27 rfl ⟨hg1, trivial⟩ ?_
  exact mz_Go.drop [true, true, false, true, true, true] (tX3_run_38 g1 hg1 r mz_N (0 : Int32) (0 : Int32) q1 h)
def bX4_clear_0 : List mz_E := [(0, .aload_n 0, 0, 0, 0, 0, 0), (1, .iconst 0, 0, 0, 0, 0, 0), (2, .putfield 34, 4, 0, 286, 0, 0), (5, .aload_n 0, 0, 0, 0, 0, 0), (6, .iconst 0, 0, 0, 0, 0, 0), (7, .putfield 38, 4, 1, 292, 0, 0), (10, .aload_n 0, 0, 0, 0, 0, 0), (11, .iconst 0, 0, 0, 0, 0, 0), (12, .putfield 41, 4, 2, 295, 0, 0)]
theorem oX4_clear_0 : bX4_clear_0.all (mz_ok RX4 cX4_clear 1) = true := by decide +kernel
abbrev IX4_clear : mz_I := (yX4_clear, cX4_clear, 1, none, 0, 0, 0, 0)
theorem kX4_clear : mz_okm IX4_clear 715 135 713 0 = true := by decide +kernel
theorem vX4_clear : mz_okV IX4_clear 713 714 = true := by decide +kernel
theorem mX4_clear (g0 : Nat) (D : mz_D) (hg0 : mz_tb g0 = true) : mz_Met IX4_clear [.inr (.inr (some (g0, 101)))] D (none, (mz_wi (mz_wi (mz_wi D g0 101 0 (0 : Int32)) g0 101 1 (0 : Int32)) g0 101 2 (0 : Int32))) := by
  refine mz_Met.of (by decide +kernel) (Nat.le_of_ble_eq_true rfl) ?_
  show mz_Go IX4_clear (none, (mz_wi (mz_wi (mz_wi D g0 101 0 (0 : Int32)) g0 101 1 (0 : Int32)) g0 101 2 (0 : Int32))) 0 0 (0, [some (.inr (.inr (some (g0, 101))))], [], D)
  refine mz_Go.run (gs := [mz_kz 0 g0 101, mz_kz 0 g0 101, mz_kz 0 g0 101]) (st' := (15, [some (.inr (.inr (some (g0, 101))))], [], (mz_wi (mz_wi (mz_wi D g0 101 0 (0 : Int32)) g0 101 1 (0 : Int32)) g0 101 2 (0 : Int32)))) bX4_clear_0 oX4_clear_0 rfl ⟨hg0, hg0, hg0, trivial⟩ ?_
  exact mz_Go.retv (by decide +kernel) rfl ⟨Nat.le_refl _, Nat.le_refl _⟩ rfl
abbrev IX11_copyRow_104_104 : mz_I := (yX11_copyRow, cX11_copyRow, 2, none, 0, 1, 0, 0)
theorem kX11_copyRow_104_104 : mz_okm IX11_copyRow_104_104 891 126 890 2 = true := by decide +kernel
theorem vX11_copyRow_104_104 : mz_okS IX11_copyRow_104_104 890 = true := by decide +kernel
def fX11_copyRow_104_104 (g0 : Nat) (g1 : Nat) (D : mz_D) : Option mz_D := (mz_gd (mz_cpg (0 : Int32) (0 : Int32) (fJ9_min_7cf53 (Int32.ofNat 6) (Int32.ofNat 6)) 6 6) (some (mz_cpi D g0 104 g1 104 ((0 : Int32)).toNatClampNeg ((0 : Int32)).toNatClampNeg ((fJ9_min_7cf53 (Int32.ofNat 6) (Int32.ofNat 6))).toNatClampNeg)))
set_option maxHeartbeats 4000000 in
theorem mX11_copyRow_104_104 (g0 : Nat) (g1 : Nat) (D : mz_D) (hg0 : mz_tb g0 = true) (hg1 : mz_tb g1 = true) (r : mz_D) (h : fX11_copyRow_104_104 g0 g1 D = some r) : mz_Met IX11_copyRow_104_104 [.inr (.inr (some (g0, 104))), .inr (.inr (some (g1, 104)))] D (none, r) := by
  refine mz_Met.of (by decide +kernel) (Nat.le_of_ble_eq_true rfl) ?_
  show mz_Go IX11_copyRow_104_104 (none, r) 0 0 (0, [some (.inr (.inr (some (g0, 104)))), some (.inr (.inr (some (g1, 104))))], [], D)
  rw [fX11_copyRow_104_104] at h
  refine mz_Go.run (gs := [mz_kz 0 g0 104, mz_kz 0 g1 104]) (st' := (8, [some (.inr (.inr (some (g0, 104)))), some (.inr (.inr (some (g1, 104))))], [.inl (Int32.ofNat 6), .inl (Int32.ofNat 6), .inl (0 : Int32), .inr (.inr (some (g1, 104))), .inl (0 : Int32), .inr (.inr (some (g0, 104)))], D)) bX11_copyRow_0 oX11_copyRow_0 rfl ⟨hg0, hg1, trivial⟩ ?_
  refine mz_Go.callS (I := IX11_copyRow_104_104) (J := IJ9_min_7cf53) (as := [.inl (Int32.ofNat 6), .inl (Int32.ofNat 6)]) (idx := 362) (pl := 892) (rest := [.inl (0 : Int32), .inr (.inr (some (g1, 104))), .inl (0 : Int32), .inr (.inr (some (g0, 104)))]) (mJ9_min_7cf53 (Int32.ofNat 6) (Int32.ofNat 6) D _ rfl) kJ9_min_7cf53 vJ9_min_7cf53 (by decide +kernel) (by decide +kernel) (by decide +kernel) rfl rfl ⟨rfl, rfl⟩ rfl ?_
  obtain ⟨hb1, h⟩ := mz_gd_some h
  refine mz_Go.cpi (I := IX11_copyRow_104_104) (idx := 492) (pl := 893) (pn := 695) (ps := 694) (pi := 142) (by decide +kernel) (by decide +kernel) rfl rfl hg0 hg1 hb1 rfl ?_
  cases h
  exact mz_Go.retv (by decide +kernel) rfl ⟨Nat.le_refl _, Nat.le_refl _⟩ rfl
abbrev IX11_copyRow_105_105 : mz_I := (yX11_copyRow, cX11_copyRow, 2, none, 0, 1, 0, 0)
theorem kX11_copyRow_105_105 : mz_okm IX11_copyRow_105_105 891 126 890 2 = true := by decide +kernel
theorem vX11_copyRow_105_105 : mz_okS IX11_copyRow_105_105 890 = true := by decide +kernel
def fX11_copyRow_105_105 (g0 : Nat) (g1 : Nat) (D : mz_D) : Option mz_D := (mz_gd (mz_cpg (0 : Int32) (0 : Int32) (fJ9_min_7cf53 (Int32.ofNat 6) (Int32.ofNat 6)) 6 6) (some (mz_cpi D g0 105 g1 105 ((0 : Int32)).toNatClampNeg ((0 : Int32)).toNatClampNeg ((fJ9_min_7cf53 (Int32.ofNat 6) (Int32.ofNat 6))).toNatClampNeg)))
set_option maxHeartbeats 4000000 in
theorem mX11_copyRow_105_105 (g0 : Nat) (g1 : Nat) (D : mz_D) (hg0 : mz_tb g0 = true) (hg1 : mz_tb g1 = true) (r : mz_D) (h : fX11_copyRow_105_105 g0 g1 D = some r) : mz_Met IX11_copyRow_105_105 [.inr (.inr (some (g0, 105))), .inr (.inr (some (g1, 105)))] D (none, r) := by
  refine mz_Met.of (by decide +kernel) (Nat.le_of_ble_eq_true rfl) ?_
  show mz_Go IX11_copyRow_105_105 (none, r) 0 0 (0, [some (.inr (.inr (some (g0, 105)))), some (.inr (.inr (some (g1, 105))))], [], D)
  rw [fX11_copyRow_105_105] at h
  refine mz_Go.run (gs := [mz_kz 0 g0 105, mz_kz 0 g1 105]) (st' := (8, [some (.inr (.inr (some (g0, 105)))), some (.inr (.inr (some (g1, 105))))], [.inl (Int32.ofNat 6), .inl (Int32.ofNat 6), .inl (0 : Int32), .inr (.inr (some (g1, 105))), .inl (0 : Int32), .inr (.inr (some (g0, 105)))], D)) bX11_copyRow_0 oX11_copyRow_0 rfl ⟨hg0, hg1, trivial⟩ ?_
  refine mz_Go.callS (I := IX11_copyRow_105_105) (J := IJ9_min_7cf53) (as := [.inl (Int32.ofNat 6), .inl (Int32.ofNat 6)]) (idx := 362) (pl := 892) (rest := [.inl (0 : Int32), .inr (.inr (some (g1, 105))), .inl (0 : Int32), .inr (.inr (some (g0, 105)))]) (mJ9_min_7cf53 (Int32.ofNat 6) (Int32.ofNat 6) D _ rfl) kJ9_min_7cf53 vJ9_min_7cf53 (by decide +kernel) (by decide +kernel) (by decide +kernel) rfl rfl ⟨rfl, rfl⟩ rfl ?_
  obtain ⟨hb1, h⟩ := mz_gd_some h
  refine mz_Go.cpi (I := IX11_copyRow_105_105) (idx := 492) (pl := 893) (pn := 695) (ps := 694) (pi := 142) (by decide +kernel) (by decide +kernel) rfl rfl hg0 hg1 hb1 rfl ?_
  cases h
  exact mz_Go.retv (by decide +kernel) rfl ⟨Nat.le_refl _, Nat.le_refl _⟩ rfl
abbrev IX11_copyRow_106_106 : mz_I := (yX11_copyRow, cX11_copyRow, 2, none, 0, 1, 0, 0)
theorem kX11_copyRow_106_106 : mz_okm IX11_copyRow_106_106 891 126 890 2 = true := by decide +kernel
theorem vX11_copyRow_106_106 : mz_okS IX11_copyRow_106_106 890 = true := by decide +kernel
def fX11_copyRow_106_106 (g0 : Nat) (g1 : Nat) (D : mz_D) : Option mz_D := (mz_gd (mz_cpg (0 : Int32) (0 : Int32) (fJ9_min_7cf53 (Int32.ofNat 6) (Int32.ofNat 6)) 6 6) (some (mz_cpi D g0 106 g1 106 ((0 : Int32)).toNatClampNeg ((0 : Int32)).toNatClampNeg ((fJ9_min_7cf53 (Int32.ofNat 6) (Int32.ofNat 6))).toNatClampNeg)))
set_option maxHeartbeats 4000000 in
theorem mX11_copyRow_106_106 (g0 : Nat) (g1 : Nat) (D : mz_D) (hg0 : mz_tb g0 = true) (hg1 : mz_tb g1 = true) (r : mz_D) (h : fX11_copyRow_106_106 g0 g1 D = some r) : mz_Met IX11_copyRow_106_106 [.inr (.inr (some (g0, 106))), .inr (.inr (some (g1, 106)))] D (none, r) := by
  refine mz_Met.of (by decide +kernel) (Nat.le_of_ble_eq_true rfl) ?_
  show mz_Go IX11_copyRow_106_106 (none, r) 0 0 (0, [some (.inr (.inr (some (g0, 106)))), some (.inr (.inr (some (g1, 106))))], [], D)
  rw [fX11_copyRow_106_106] at h
  refine mz_Go.run (gs := [mz_kz 0 g0 106, mz_kz 0 g1 106]) (st' := (8, [some (.inr (.inr (some (g0, 106)))), some (.inr (.inr (some (g1, 106))))], [.inl (Int32.ofNat 6), .inl (Int32.ofNat 6), .inl (0 : Int32), .inr (.inr (some (g1, 106))), .inl (0 : Int32), .inr (.inr (some (g0, 106)))], D)) bX11_copyRow_0 oX11_copyRow_0 rfl ⟨hg0, hg1, trivial⟩ ?_
  refine mz_Go.callS (I := IX11_copyRow_106_106) (J := IJ9_min_7cf53) (as := [.inl (Int32.ofNat 6), .inl (Int32.ofNat 6)]) (idx := 362) (pl := 892) (rest := [.inl (0 : Int32), .inr (.inr (some (g1, 106))), .inl (0 : Int32), .inr (.inr (some (g0, 106)))]) (mJ9_min_7cf53 (Int32.ofNat 6) (Int32.ofNat 6) D _ rfl) kJ9_min_7cf53 vJ9_min_7cf53 (by decide +kernel) (by decide +kernel) (by decide +kernel) rfl rfl ⟨rfl, rfl⟩ rfl ?_
  obtain ⟨hb1, h⟩ := mz_gd_some h
  refine mz_Go.cpi (I := IX11_copyRow_106_106) (idx := 492) (pl := 893) (pn := 695) (ps := 694) (pi := 142) (by decide +kernel) (by decide +kernel) rfl rfl hg0 hg1 hb1 rfl ?_
  cases h
  exact mz_Go.retv (by decide +kernel) rfl ⟨Nat.le_refl _, Nat.le_refl _⟩ rfl
abbrev IX11_copyRow_107_107 : mz_I := (yX11_copyRow, cX11_copyRow, 2, none, 0, 1, 0, 0)
theorem kX11_copyRow_107_107 : mz_okm IX11_copyRow_107_107 891 126 890 2 = true := by decide +kernel
theorem vX11_copyRow_107_107 : mz_okS IX11_copyRow_107_107 890 = true := by decide +kernel
def fX11_copyRow_107_107 (g0 : Nat) (g1 : Nat) (D : mz_D) : Option mz_D := (mz_gd (mz_cpg (0 : Int32) (0 : Int32) (fJ9_min_7cf53 (Int32.ofNat 6) (Int32.ofNat 6)) 6 6) (some (mz_cpi D g0 107 g1 107 ((0 : Int32)).toNatClampNeg ((0 : Int32)).toNatClampNeg ((fJ9_min_7cf53 (Int32.ofNat 6) (Int32.ofNat 6))).toNatClampNeg)))
set_option maxHeartbeats 4000000 in
theorem mX11_copyRow_107_107 (g0 : Nat) (g1 : Nat) (D : mz_D) (hg0 : mz_tb g0 = true) (hg1 : mz_tb g1 = true) (r : mz_D) (h : fX11_copyRow_107_107 g0 g1 D = some r) : mz_Met IX11_copyRow_107_107 [.inr (.inr (some (g0, 107))), .inr (.inr (some (g1, 107)))] D (none, r) := by
  refine mz_Met.of (by decide +kernel) (Nat.le_of_ble_eq_true rfl) ?_
  show mz_Go IX11_copyRow_107_107 (none, r) 0 0 (0, [some (.inr (.inr (some (g0, 107)))), some (.inr (.inr (some (g1, 107))))], [], D)
  rw [fX11_copyRow_107_107] at h
  refine mz_Go.run (gs := [mz_kz 0 g0 107, mz_kz 0 g1 107]) (st' := (8, [some (.inr (.inr (some (g0, 107)))), some (.inr (.inr (some (g1, 107))))], [.inl (Int32.ofNat 6), .inl (Int32.ofNat 6), .inl (0 : Int32), .inr (.inr (some (g1, 107))), .inl (0 : Int32), .inr (.inr (some (g0, 107)))], D)) bX11_copyRow_0 oX11_copyRow_0 rfl ⟨hg0, hg1, trivial⟩ ?_
  refine mz_Go.callS (I := IX11_copyRow_107_107) (J := IJ9_min_7cf53) (as := [.inl (Int32.ofNat 6), .inl (Int32.ofNat 6)]) (idx := 362) (pl := 892) (rest := [.inl (0 : Int32), .inr (.inr (some (g1, 107))), .inl (0 : Int32), .inr (.inr (some (g0, 107)))]) (mJ9_min_7cf53 (Int32.ofNat 6) (Int32.ofNat 6) D _ rfl) kJ9_min_7cf53 vJ9_min_7cf53 (by decide +kernel) (by decide +kernel) (by decide +kernel) rfl rfl ⟨rfl, rfl⟩ rfl ?_
  obtain ⟨hb1, h⟩ := mz_gd_some h
  refine mz_Go.cpi (I := IX11_copyRow_107_107) (idx := 492) (pl := 893) (pn := 695) (ps := 694) (pi := 142) (by decide +kernel) (by decide +kernel) rfl rfl hg0 hg1 hb1 rfl ?_
  cases h
  exact mz_Go.retv (by decide +kernel) rfl ⟨Nat.le_refl _, Nat.le_refl _⟩ rfl
abbrev IX11_copyRow_108_108 : mz_I := (yX11_copyRow, cX11_copyRow, 2, none, 0, 1, 0, 0)
theorem kX11_copyRow_108_108 : mz_okm IX11_copyRow_108_108 891 126 890 2 = true := by decide +kernel
theorem vX11_copyRow_108_108 : mz_okS IX11_copyRow_108_108 890 = true := by decide +kernel
def fX11_copyRow_108_108 (g0 : Nat) (g1 : Nat) (D : mz_D) : Option mz_D := (mz_gd (mz_cpg (0 : Int32) (0 : Int32) (fJ9_min_7cf53 (Int32.ofNat 6) (Int32.ofNat 6)) 6 6) (some (mz_cpi D g0 108 g1 108 ((0 : Int32)).toNatClampNeg ((0 : Int32)).toNatClampNeg ((fJ9_min_7cf53 (Int32.ofNat 6) (Int32.ofNat 6))).toNatClampNeg)))
set_option maxHeartbeats 4000000 in
theorem mX11_copyRow_108_108 (g0 : Nat) (g1 : Nat) (D : mz_D) (hg0 : mz_tb g0 = true) (hg1 : mz_tb g1 = true) (r : mz_D) (h : fX11_copyRow_108_108 g0 g1 D = some r) : mz_Met IX11_copyRow_108_108 [.inr (.inr (some (g0, 108))), .inr (.inr (some (g1, 108)))] D (none, r) := by
  refine mz_Met.of (by decide +kernel) (Nat.le_of_ble_eq_true rfl) ?_
  show mz_Go IX11_copyRow_108_108 (none, r) 0 0 (0, [some (.inr (.inr (some (g0, 108)))), some (.inr (.inr (some (g1, 108))))], [], D)
  rw [fX11_copyRow_108_108] at h
  refine mz_Go.run (gs := [mz_kz 0 g0 108, mz_kz 0 g1 108]) (st' := (8, [some (.inr (.inr (some (g0, 108)))), some (.inr (.inr (some (g1, 108))))], [.inl (Int32.ofNat 6), .inl (Int32.ofNat 6), .inl (0 : Int32), .inr (.inr (some (g1, 108))), .inl (0 : Int32), .inr (.inr (some (g0, 108)))], D)) bX11_copyRow_0 oX11_copyRow_0 rfl ⟨hg0, hg1, trivial⟩ ?_
  refine mz_Go.callS (I := IX11_copyRow_108_108) (J := IJ9_min_7cf53) (as := [.inl (Int32.ofNat 6), .inl (Int32.ofNat 6)]) (idx := 362) (pl := 892) (rest := [.inl (0 : Int32), .inr (.inr (some (g1, 108))), .inl (0 : Int32), .inr (.inr (some (g0, 108)))]) (mJ9_min_7cf53 (Int32.ofNat 6) (Int32.ofNat 6) D _ rfl) kJ9_min_7cf53 vJ9_min_7cf53 (by decide +kernel) (by decide +kernel) (by decide +kernel) rfl rfl ⟨rfl, rfl⟩ rfl ?_
  obtain ⟨hb1, h⟩ := mz_gd_some h
  refine mz_Go.cpi (I := IX11_copyRow_108_108) (idx := 492) (pl := 893) (pn := 695) (ps := 694) (pi := 142) (by decide +kernel) (by decide +kernel) rfl rfl hg0 hg1 hb1 rfl ?_
  cases h
  exact mz_Go.retv (by decide +kernel) rfl ⟨Nat.le_refl _, Nat.le_refl _⟩ rfl
def bX4_copyFrom_0 : List mz_E := [(0, .aload_n 0, 0, 0, 0, 0, 0), (1, .aload_n 1, 0, 0, 0, 0, 0), (2, .getfield 34, 4, 0, 286, 0, 0), (5, .putfield 34, 4, 0, 286, 0, 0), (8, .aload_n 0, 0, 0, 0, 0, 0), (9, .aload_n 1, 0, 0, 0, 0, 0), (10, .getfield 38, 4, 1, 292, 0, 0), (13, .putfield 38, 4, 1, 292, 0, 0), (16, .aload_n 0, 0, 0, 0, 0, 0), (17, .aload_n 1, 0, 0, 0, 0, 0), (18, .getfield 41, 4, 2, 295, 0, 0), (21, .putfield 41, 4, 2, 295, 0, 0), (24, .aload_n 1, 0, 0, 0, 0, 0), (25, .getfield 9, 4, 3, 298, 0, 0), (28, .iconst 0, 0, 0, 0, 0, 0), (29, .aload_n 0, 0, 0, 0, 0, 0), (30, .getfield 9, 4, 3, 298, 0, 0), (33, .iconst 0, 0, 0, 0, 0, 0), (34, .bipush 6, 0, 0, 0, 6, 0)]
theorem oX4_copyFrom_0 : bX4_copyFrom_0.all (mz_ok RX4 cX4_copyFrom 2) = true := by decide +kernel
def bX4_copyFrom_39 : List mz_E := [(39, .aload_n 1, 0, 0, 0, 0, 0), (40, .getfield 15, 4, 4, 299, 0, 0), (43, .aload_n 0, 0, 0, 0, 0, 0), (44, .getfield 15, 4, 4, 299, 0, 0)]
theorem oX4_copyFrom_39 : bX4_copyFrom_39.all (mz_ok RX4 cX4_copyFrom 2) = true := by decide +kernel
def bX4_copyFrom_50 : List mz_E := [(50, .aload_n 1, 0, 0, 0, 0, 0), (51, .getfield 19, 4, 5, 304, 0, 0), (54, .aload_n 0, 0, 0, 0, 0, 0), (55, .getfield 19, 4, 5, 304, 0, 0)]
theorem oX4_copyFrom_50 : bX4_copyFrom_50.all (mz_ok RX4 cX4_copyFrom 2) = true := by decide +kernel
def bX4_copyFrom_61 : List mz_E := [(61, .aload_n 1, 0, 0, 0, 0, 0), (62, .getfield 22, 4, 6, 309, 0, 0), (65, .aload_n 0, 0, 0, 0, 0, 0), (66, .getfield 22, 4, 6, 309, 0, 0)]
theorem oX4_copyFrom_61 : bX4_copyFrom_61.all (mz_ok RX4 cX4_copyFrom 2) = true := by decide +kernel
def bX4_copyFrom_72 : List mz_E := [(72, .aload_n 1, 0, 0, 0, 0, 0), (73, .getfield 25, 4, 7, 313, 0, 0), (76, .aload_n 0, 0, 0, 0, 0, 0), (77, .getfield 25, 4, 7, 313, 0, 0)]
theorem oX4_copyFrom_72 : bX4_copyFrom_72.all (mz_ok RX4 cX4_copyFrom 2) = true := by decide +kernel
def bX4_copyFrom_83 : List mz_E := [(83, .aload_n 1, 0, 0, 0, 0, 0), (84, .getfield 28, 4, 8, 316, 0, 0), (87, .aload_n 0, 0, 0, 0, 0, 0), (88, .getfield 28, 4, 8, 316, 0, 0)]
theorem oX4_copyFrom_83 : bX4_copyFrom_83.all (mz_ok RX4 cX4_copyFrom 2) = true := by decide +kernel
def bX4_copyFrom_94 : List mz_E := [(94, .aload_n 1, 0, 0, 0, 0, 0), (95, .getfield 31, 4, 9, 319, 0, 0), (98, .aload_n 0, 0, 0, 0, 0, 0), (99, .getfield 31, 4, 9, 319, 0, 0)]
theorem oX4_copyFrom_94 : bX4_copyFrom_94.all (mz_ok RX4 cX4_copyFrom 2) = true := by decide +kernel
abbrev IX4_copyFrom : mz_I := (yX4_copyFrom, cX4_copyFrom, 2, none, 0, 2, 0, 0)
theorem kX4_copyFrom : mz_okm IX4_copyFrom 887 135 885 1 = true := by decide +kernel
theorem vX4_copyFrom : mz_okV IX4_copyFrom 885 886 = true := by decide +kernel
def fX4_copyFrom (g0 : Nat) (g1 : Nat) (D : mz_D) : Option mz_D := (mz_gd (mz_cpg (0 : Int32) (0 : Int32) (6 : Int32) 6 6) (Option.bind (fX11_copyRow_103_103 g1 g0 (mz_cpl (mz_wi (mz_wi (mz_wi D g0 101 0 (D.1 g1 101 0)) g0 101 1 ((mz_wi D g0 101 0 (D.1 g1 101 0)).1 g1 101 1)) g0 101 2 ((mz_wi (mz_wi D g0 101 0 (D.1 g1 101 0)) g0 101 1 ((mz_wi D g0 101 0 (D.1 g1 101 0)).1 g1 101 1)).1 g1 101 2)) g1 102 g0 102 ((0 : Int32)).toNatClampNeg ((0 : Int32)).toNatClampNeg ((6 : Int32)).toNatClampNeg)) fun q2 => (Option.bind (fX11_copyRow_104_104 g1 g0 q2) fun q3 => (Option.bind (fX11_copyRow_105_105 g1 g0 q3) fun q4 => (Option.bind (fX11_copyRow_106_106 g1 g0 q4) fun q5 => (Option.bind (fX11_copyRow_107_107 g1 g0 q5) fun q6 => (Option.bind (fX11_copyRow_108_108 g1 g0 q6) fun q7 => (some q7))))))))
set_option maxHeartbeats 4000000 in
theorem mX4_copyFrom (g0 : Nat) (g1 : Nat) (D : mz_D) (hg0 : mz_tb g0 = true) (hg1 : mz_tb g1 = true) (r : mz_D) (h : fX4_copyFrom g0 g1 D = some r) : mz_Met IX4_copyFrom [.inr (.inr (some (g0, 101))), .inr (.inr (some (g1, 101)))] D (none, r) := by
  refine mz_Met.of (by decide +kernel) (Nat.le_of_ble_eq_true rfl) ?_
  show mz_Go IX4_copyFrom (none, r) 0 0 (0, [some (.inr (.inr (some (g0, 101)))), some (.inr (.inr (some (g1, 101))))], [], D)
  rw [fX4_copyFrom] at h
  refine mz_Go.run (gs := [mz_kz 0 g1 101, mz_kz 0 g0 101, mz_kz 0 g1 101, mz_kz 0 g0 101, mz_kz 0 g1 101, mz_kz 0 g0 101, mz_kz 0 g1 101, mz_kz 0 g0 101]) (st' := (36, [some (.inr (.inr (some (g0, 101)))), some (.inr (.inr (some (g1, 101))))], [.inl (6 : Int32), .inl (0 : Int32), .inr (.inr (some (g0, 102))), .inl (0 : Int32), .inr (.inr (some (g1, 102)))], (mz_wi (mz_wi (mz_wi D g0 101 0 (D.1 g1 101 0)) g0 101 1 ((mz_wi D g0 101 0 (D.1 g1 101 0)).1 g1 101 1)) g0 101 2 ((mz_wi (mz_wi D g0 101 0 (D.1 g1 101 0)) g0 101 1 ((mz_wi D g0 101 0 (D.1 g1 101 0)).1 g1 101 1)).1 g1 101 2)))) bX4_copyFrom_0 oX4_copyFrom_0 rfl ⟨hg1, hg0, hg1, hg0, hg1, hg0, hg1, hg0, trivial⟩ ?_
  obtain ⟨hb1, h⟩ := mz_gd_some h
  refine mz_Go.cpl (I := IX4_copyFrom) (idx := 44) (pl := 888) (pn := 695) (ps := 694) (pi := 142) (by decide +kernel) (by decide +kernel) rfl rfl hg1 hg0 hb1 rfl ?_
  refine mz_Go.run (gs := [mz_kz 0 g1 101, mz_kz 0 g0 101]) (st' := (47, [some (.inr (.inr (some (g0, 101)))), some (.inr (.inr (some (g1, 101))))], [.inr (.inr (some (g0, 103))), .inr (.inr (some (g1, 103)))], (mz_cpl (mz_wi (mz_wi (mz_wi D g0 101 0 (D.1 g1 101 0)) g0 101 1 ((mz_wi D g0 101 0 (D.1 g1 101 0)).1 g1 101 1)) g0 101 2 ((mz_wi (mz_wi D g0 101 0 (D.1 g1 101 0)) g0 101 1 ((mz_wi D g0 101 0 (D.1 g1 101 0)).1 g1 101 1)).1 g1 101 2)) g1 102 g0 102 ((0 : Int32)).toNatClampNeg ((0 : Int32)).toNatClampNeg ((6 : Int32)).toNatClampNeg))) bX4_copyFrom_39 oX4_copyFrom_39 rfl ⟨hg1, hg0, trivial⟩ ?_
  obtain ⟨q2, hq2, h⟩ := mz_bd_some h
  refine mz_Go.callSN (I := IX4_copyFrom) (J := IX11_copyRow_103_103) (as := [.inr (.inr (some (g1, 103))), .inr (.inr (some (g0, 103)))]) (idx := 50) (pl := 889) (rest := []) (mX11_copyRow_103_103 g1 g0 (mz_cpl (mz_wi (mz_wi (mz_wi D g0 101 0 (D.1 g1 101 0)) g0 101 1 ((mz_wi D g0 101 0 (D.1 g1 101 0)).1 g1 101 1)) g0 101 2 ((mz_wi (mz_wi D g0 101 0 (D.1 g1 101 0)) g0 101 1 ((mz_wi D g0 101 0 (D.1 g1 101 0)).1 g1 101 1)).1 g1 101 2)) g1 102 g0 102 ((0 : Int32)).toNatClampNeg ((0 : Int32)).toNatClampNeg ((6 : Int32)).toNatClampNeg) hg1 hg0 q2 hq2) kX11_copyRow_103_103 vX11_copyRow_103_103 (by decide +kernel) (by decide +kernel) (by decide +kernel) rfl rfl ⟨rfl, rfl⟩ rfl ?_
  refine mz_Go.run (gs := [mz_kz 0 g1 101, mz_kz 0 g0 101]) (st' := (58, [some (.inr (.inr (some (g0, 101)))), some (.inr (.inr (some (g1, 101))))], [.inr (.inr (some (g0, 104))), .inr (.inr (some (g1, 104)))], q2)) bX4_copyFrom_50 oX4_copyFrom_50 rfl ⟨hg1, hg0, trivial⟩ ?_
  obtain ⟨q3, hq3, h⟩ := mz_bd_some h
  refine mz_Go.callSN (I := IX4_copyFrom) (J := IX11_copyRow_104_104) (as := [.inr (.inr (some (g1, 104))), .inr (.inr (some (g0, 104)))]) (idx := 50) (pl := 889) (rest := []) (mX11_copyRow_104_104 g1 g0 q2 hg1 hg0 q3 hq3) kX11_copyRow_104_104 vX11_copyRow_104_104 (by decide +kernel) (by decide +kernel) (by decide +kernel) rfl rfl ⟨rfl, rfl⟩ rfl ?_
  refine mz_Go.run (gs := [mz_kz 0 g1 101, mz_kz 0 g0 101]) (st' := (69, [some (.inr (.inr (some (g0, 101)))), some (.inr (.inr (some (g1, 101))))], [.inr (.inr (some (g0, 105))), .inr (.inr (some (g1, 105)))], q3)) bX4_copyFrom_61 oX4_copyFrom_61 rfl ⟨hg1, hg0, trivial⟩ ?_
  obtain ⟨q4, hq4, h⟩ := mz_bd_some h
  refine mz_Go.callSN (I := IX4_copyFrom) (J := IX11_copyRow_105_105) (as := [.inr (.inr (some (g1, 105))), .inr (.inr (some (g0, 105)))]) (idx := 50) (pl := 889) (rest := []) (mX11_copyRow_105_105 g1 g0 q3 hg1 hg0 q4 hq4) kX11_copyRow_105_105 vX11_copyRow_105_105 (by decide +kernel) (by decide +kernel) (by decide +kernel) rfl rfl ⟨rfl, rfl⟩ rfl ?_
  refine mz_Go.run (gs := [mz_kz 0 g1 101, mz_kz 0 g0 101]) (st' := (80, [some (.inr (.inr (some (g0, 101)))), some (.inr (.inr (some (g1, 101))))], [.inr (.inr (some (g0, 106))), .inr (.inr (some (g1, 106)))], q4)) bX4_copyFrom_72 oX4_copyFrom_72 rfl ⟨hg1, hg0, trivial⟩ ?_
  obtain ⟨q5, hq5, h⟩ := mz_bd_some h
  refine mz_Go.callSN (I := IX4_copyFrom) (J := IX11_copyRow_106_106) (as := [.inr (.inr (some (g1, 106))), .inr (.inr (some (g0, 106)))]) (idx := 50) (pl := 889) (rest := []) (mX11_copyRow_106_106 g1 g0 q4 hg1 hg0 q5 hq5) kX11_copyRow_106_106 vX11_copyRow_106_106 (by decide +kernel) (by decide +kernel) (by decide +kernel) rfl rfl ⟨rfl, rfl⟩ rfl ?_
  refine mz_Go.run (gs := [mz_kz 0 g1 101, mz_kz 0 g0 101]) (st' := (91, [some (.inr (.inr (some (g0, 101)))), some (.inr (.inr (some (g1, 101))))], [.inr (.inr (some (g0, 107))), .inr (.inr (some (g1, 107)))], q5)) bX4_copyFrom_83 oX4_copyFrom_83 rfl ⟨hg1, hg0, trivial⟩ ?_
  obtain ⟨q6, hq6, h⟩ := mz_bd_some h
  refine mz_Go.callSN (I := IX4_copyFrom) (J := IX11_copyRow_107_107) (as := [.inr (.inr (some (g1, 107))), .inr (.inr (some (g0, 107)))]) (idx := 50) (pl := 889) (rest := []) (mX11_copyRow_107_107 g1 g0 q5 hg1 hg0 q6 hq6) kX11_copyRow_107_107 vX11_copyRow_107_107 (by decide +kernel) (by decide +kernel) (by decide +kernel) rfl rfl ⟨rfl, rfl⟩ rfl ?_
  refine mz_Go.run (gs := [mz_kz 0 g1 101, mz_kz 0 g0 101]) (st' := (102, [some (.inr (.inr (some (g0, 101)))), some (.inr (.inr (some (g1, 101))))], [.inr (.inr (some (g0, 108))), .inr (.inr (some (g1, 108)))], q6)) bX4_copyFrom_94 oX4_copyFrom_94 rfl ⟨hg1, hg0, trivial⟩ ?_
  obtain ⟨q7, hq7, h⟩ := mz_bd_some h
  refine mz_Go.callSN (I := IX4_copyFrom) (J := IX11_copyRow_108_108) (as := [.inr (.inr (some (g1, 108))), .inr (.inr (some (g0, 108)))]) (idx := 50) (pl := 889) (rest := []) (mX11_copyRow_108_108 g1 g0 q6 hg1 hg0 q7 hq7) kX11_copyRow_108_108 vX11_copyRow_108_108 (by decide +kernel) (by decide +kernel) (by decide +kernel) rfl rfl ⟨rfl, rfl⟩ rfl ?_
  cases h
  exact mz_Go.retv (by decide +kernel) rfl ⟨Nat.le_refl _, Nat.le_refl _⟩ rfl
def bX4_find_0 : List mz_E := [(0, .iconst 0, 0, 0, 0, 0, 0), (1, .istore_n 3, 0, 0, 0, 0, 0)]
theorem oX4_find_0 : bX4_find_0.all (mz_ok RX4 cX4_find 4) = true := by decide +kernel
def bX4_find_2 : List mz_E := [(2, .iload_n 3, 0, 0, 0, 0, 0), (3, .aload_n 0, 0, 0, 0, 0, 0), (4, .getfield 34, 4, 0, 286, 0, 0), (7, .if_icmp .ge 22, 0, 29, 0, 0, 0)]
theorem oX4_find_2 : bX4_find_2.all (mz_ok RX4 cX4_find 4) = true := by decide +kernel
def bX4_find_29 : List mz_E := [(29, .iconst (-1), 0, 0, 0, -1, 0)]
theorem oX4_find_29 : bX4_find_29.all (mz_ok RX4 cX4_find 4) = true := by decide +kernel
def bX4_find_10 : List mz_E := [(10, .aload_n 0, 0, 0, 0, 0, 0), (11, .getfield 9, 4, 3, 298, 0, 0), (14, .iload_n 3, 0, 0, 0, 0, 0), (15, .laload, 0, 0, 0, 0, 0), (16, .lload_n 1, 0, 0, 0, 0, 0), (17, .lcmp, 0, 0, 0, 0, 0), (18, .ifCond .ne 5, 0, 23, 0, 0, 0)]
theorem oX4_find_10 : bX4_find_10.all (mz_ok RX4 cX4_find 4) = true := by decide +kernel
def bX4_find_21 : List mz_E := [(21, .iload_n 3, 0, 0, 0, 0, 0)]
theorem oX4_find_21 : bX4_find_21.all (mz_ok RX4 cX4_find 4) = true := by decide +kernel
def bX4_find_23 : List mz_E := [(23, .iinc 3 1, 0, 0, 0, 1, 0), (26, .goto (-24), 0, 2, 0, 0, 0)]
theorem oX4_find_23 : bX4_find_23.all (mz_ok RX4 cX4_find 4) = true := by decide +kernel
abbrev IX4_find : mz_I := (yX4_find, cX4_find, 4, (some .int), 0, 0, 0, 0)
theorem kX4_find : mz_okm IX4_find 799 135 797 1 = true := by decide +kernel
theorem vX4_find : mz_okV IX4_find 797 798 = true := by decide +kernel
def fX4_find_2 (g0 : Nat) (D : mz_D) : Nat → Int64 → Int32 → Option Int32
  | 0 => fun _ _ => none
  | n + 1 => fun y1 x3 => (if (D.1 g0 101 0) ≤ x3 then (some (-1 : Int32)) else (mz_gd (mz_ix x3 6) (if (lg_cmp (D.2 g0 102 (x3).toNatClampNeg) y1) = 0 then (some x3) else ((fX4_find_2 g0 D n) y1 (x3 + (1 : Int32))))))
set_option maxHeartbeats 4000000 in
theorem tX4_find_2 (g0 : Nat) (D : mz_D) (hg0 : mz_tb g0 = true) (r : Int32) : ∀ (n : Nat) (y1 : Int64) (x3 : Int32), fX4_find_2 g0 D n y1 x3 = some r → mz_Go IX4_find (some (.inl r), D) 0 0 (2, [some (.inr (.inr (some (g0, 101)))), some (.inr (.inl y1)), none, some (.inl x3)], [], D) := by
  intro n
  induction n with
  | zero => intro y1 x3 h; have h : (none : Option Int32) = some r := h; cases h
  | succ n ih =>
    intro y1 x3 h
    rw [fX4_find_2] at h
    refine mz_Go.run (gs := [mz_kz 0 g0 101]) (st' := (if (D.1 g0 101 0) ≤ x3 then (29, [some (.inr (.inr (some (g0, 101)))), some (.inr (.inl y1)), none, some (.inl x3)], [], D) else (10, [some (.inr (.inr (some (g0, 101)))), some (.inr (.inl y1)), none, some (.inl x3)], [], D))) bX4_find_2 oX4_find_2 rfl ⟨hg0, trivial⟩ ?_
    refine mz_Go.ite (fun hc1 => ?_) (fun hc1 => ?_)
    · have h := mz_ifp hc1 h
      refine mz_Go.run (gs := []) (st' := (30, [some (.inr (.inr (some (g0, 101)))), some (.inr (.inl y1)), none, some (.inl x3)], [.inl (-1 : Int32)], D)) bX4_find_29 oX4_find_29 rfl trivial ?_
      cases h
      exact mz_Go.reti (by decide +kernel) rfl ⟨Nat.le_refl _, Nat.le_refl _⟩ rfl
    · have h := mz_ifn hc1 h
      obtain ⟨hb2, h⟩ := mz_gd_some h
      refine mz_Go.run (gs := [mz_kz 0 g0 101, mz_kz 0 g0 102, mz_ix x3 6]) (st' := (if (lg_cmp (D.2 g0 102 (x3).toNatClampNeg) y1) = 0 then (21, [some (.inr (.inr (some (g0, 101)))), some (.inr (.inl y1)), none, some (.inl x3)], [], D) else (23, [some (.inr (.inr (some (g0, 101)))), some (.inr (.inl y1)), none, some (.inl x3)], [], D))) bX4_find_10 oX4_find_10 rfl ⟨hg0, hg0, hb2, trivial⟩ ?_
      refine mz_Go.ite (fun hc3 => ?_) (fun hc3 => ?_)
      · have h := mz_ifp hc3 h
        refine mz_Go.run (gs := []) (st' := (22, [some (.inr (.inr (some (g0, 101)))), some (.inr (.inl y1)), none, some (.inl x3)], [.inl x3], D)) bX4_find_21 oX4_find_21 rfl trivial ?_
        cases h
        exact mz_Go.reti (by decide +kernel) rfl ⟨Nat.le_refl _, Nat.le_refl _⟩ rfl
      · have h := mz_ifn hc3 h
        refine mz_Go.run (gs := []) (st' := (2, [some (.inr (.inr (some (g0, 101)))), some (.inr (.inl y1)), none, some (.inl (x3 + (1 : Int32)))], [], D)) bX4_find_23 oX4_find_23 rfl trivial ?_
        exact mz_Go.drop [true, true, false, true] (ih y1 (x3 + (1 : Int32)) h)
def fX4_find (g0 : Nat) (y1 : Int64) (D : mz_D) : Option Int32 := (fX4_find_2 g0 D mz_N y1 (0 : Int32))
set_option maxHeartbeats 4000000 in
theorem mX4_find (g0 : Nat) (y1 : Int64) (D : mz_D) (hg0 : mz_tb g0 = true) (r : Int32) (h : fX4_find g0 y1 D = some r) : mz_Met IX4_find [.inr (.inr (some (g0, 101))), .inr (.inl y1)] D (some (.inl r), D) := by
  refine mz_Met.of (by decide +kernel) (Nat.le_of_ble_eq_true rfl) ?_
  show mz_Go IX4_find (some (.inl r), D) 0 0 (0, [some (.inr (.inr (some (g0, 101)))), some (.inr (.inl y1)), none, none], [], D)
  rw [fX4_find] at h
  refine mz_Go.run (gs := []) (st' := (2, [some (.inr (.inr (some (g0, 101)))), some (.inr (.inl y1)), none, some (.inl (0 : Int32))], [], D)) bX4_find_0 oX4_find_0 rfl trivial ?_
  exact mz_Go.drop [true, true, false, true] (tX4_find_2 g0 D hg0 r mz_N y1 (0 : Int32) h)
def bX4_add_0 : List mz_E := [(0, .aload_n 0, 0, 0, 0, 0, 0), (1, .getfield 34, 4, 0, 286, 0, 0), (4, .istore_n 3, 0, 0, 0, 0, 0), (5, .aload_n 0, 0, 0, 0, 0, 0), (6, .getfield 9, 4, 3, 298, 0, 0), (9, .iload_n 3, 0, 0, 0, 0, 0), (10, .lload_n 1, 0, 0, 0, 0, 0), (11, .lastore, 0, 0, 0, 0, 0), (12, .aload_n 0, 0, 0, 0, 0, 0), (13, .getfield 28, 4, 8, 316, 0, 0), (16, .iload_n 3, 0, 0, 0, 0, 0), (17, .iconst (-1), 0, 0, 0, -1, 0), (18, .iastore, 0, 0, 0, 0, 0), (19, .aload_n 0, 0, 0, 0, 0, 0), (20, .getfield 31, 4, 9, 319, 0, 0), (23, .iload_n 3, 0, 0, 0, 0, 0), (24, .iconst 0, 0, 0, 0, 0, 0), (25, .iastore, 0, 0, 0, 0, 0), (26, .aload_n 0, 0, 0, 0, 0, 0), (27, .dup, 0, 0, 0, 0, 0), (28, .getfield 34, 4, 0, 286, 0, 0), (31, .iconst 1, 0, 0, 0, 1, 0), (32, .iadd, 0, 0, 0, 0, 0), (33, .putfield 34, 4, 0, 286, 0, 0), (36, .iload_n 3, 0, 0, 0, 0, 0)]
theorem oX4_add_0 : bX4_add_0.all (mz_ok RX4 cX4_add 4) = true := by decide +kernel
abbrev IX4_add : mz_I := (yX4_add, cX4_add, 4, (some .int), 0, 0, 0, 0)
theorem kX4_add : mz_okm IX4_add 803 135 801 1 = true := by decide +kernel
theorem vX4_add : mz_okV IX4_add 801 802 = true := by decide +kernel
def fX4_add (g0 : Nat) (y1 : Int64) (D : mz_D) : Option (Int32 × mz_D) := (mz_gd (mz_ix (D.1 g0 101 0) 6) (some ((D.1 g0 101 0), (mz_wi (mz_wi (mz_wi (mz_wg D g0 102 ((D.1 g0 101 0)).toNatClampNeg y1) g0 107 ((D.1 g0 101 0)).toNatClampNeg (-1 : Int32)) g0 108 ((D.1 g0 101 0)).toNatClampNeg (0 : Int32)) g0 101 0 ((D.1 g0 101 0) + (1 : Int32))))))
set_option maxHeartbeats 4000000 in
theorem mX4_add (g0 : Nat) (y1 : Int64) (D : mz_D) (hg0 : mz_tb g0 = true) (r : (Int32 × mz_D)) (h : fX4_add g0 y1 D = some r) : mz_Met IX4_add [.inr (.inr (some (g0, 101))), .inr (.inl y1)] D (some (.inl r.1), r.2) := by
  refine mz_Met.of (by decide +kernel) (Nat.le_of_ble_eq_true rfl) ?_
  show mz_Go IX4_add (some (.inl r.1), r.2) 0 0 (0, [some (.inr (.inr (some (g0, 101)))), some (.inr (.inl y1)), none, none], [], D)
  rw [fX4_add] at h
  obtain ⟨hb1, h⟩ := mz_gd_some h
  refine mz_Go.run (gs := [mz_kz 0 g0 101, mz_kz 0 g0 101, mz_kz 0 g0 102, mz_ix (D.1 g0 101 0) 6, mz_kz 0 g0 101, mz_kz 0 g0 107, mz_ix (D.1 g0 101 0) 6, mz_kz 0 g0 101, mz_kz 0 g0 108, mz_ix (D.1 g0 101 0) 6, mz_kz 0 g0 101, mz_kz 0 g0 101]) (st' := (37, [some (.inr (.inr (some (g0, 101)))), some (.inr (.inl y1)), none, some (.inl (D.1 g0 101 0))], [.inl (D.1 g0 101 0)], (mz_wi (mz_wi (mz_wi (mz_wg D g0 102 ((D.1 g0 101 0)).toNatClampNeg y1) g0 107 ((D.1 g0 101 0)).toNatClampNeg (-1 : Int32)) g0 108 ((D.1 g0 101 0)).toNatClampNeg (0 : Int32)) g0 101 0 ((D.1 g0 101 0) + (1 : Int32))))) bX4_add_0 oX4_add_0 rfl ⟨hg0, hg0, hg0, hb1, hg0, hg0, hb1, hg0, hg0, hb1, hg0, hg0, trivial⟩ ?_
  cases h
  exact mz_Go.reti (by decide +kernel) rfl ⟨Nat.le_refl _, Nat.le_refl _⟩ rfl
def bX4_join_0 : List mz_E := [(0, .aload_n 0, 0, 0, 0, 0, 0), (1, .getfield 28, 4, 8, 316, 0, 0), (4, .iload_n 1, 0, 0, 0, 0, 0), (5, .iload_n 2, 0, 0, 0, 0, 0), (6, .iastore, 0, 0, 0, 0, 0), (7, .aload_n 0, 0, 0, 0, 0, 0), (8, .getfield 28, 4, 8, 316, 0, 0), (11, .iload_n 2, 0, 0, 0, 0, 0), (12, .iload_n 1, 0, 0, 0, 0, 0), (13, .iastore, 0, 0, 0, 0, 0), (14, .aload_n 0, 0, 0, 0, 0, 0), (15, .dup, 0, 0, 0, 0, 0), (16, .getfield 38, 4, 1, 292, 0, 0), (19, .iconst 1, 0, 0, 0, 1, 0), (20, .iadd, 0, 0, 0, 0, 0), (21, .putfield 38, 4, 1, 292, 0, 0)]
theorem oX4_join_0 : bX4_join_0.all (mz_ok RX4 cX4_join 3) = true := by decide +kernel
abbrev IX4_join : mz_I := (yX4_join, cX4_join, 3, none, 0, 0, 0, 0)
theorem kX4_join : mz_okm IX4_join 830 135 828 2 = true := by decide +kernel
theorem vX4_join : mz_okV IX4_join 828 829 = true := by decide +kernel
def fX4_join (g0 : Nat) (x1 : Int32) (x2 : Int32) (D : mz_D) : Option mz_D := (mz_gd (mz_ix x1 6) (mz_gd (mz_ix x2 6) (some (mz_wi (mz_wi (mz_wi D g0 107 (x1).toNatClampNeg x2) g0 107 (x2).toNatClampNeg x1) g0 101 1 ((D.1 g0 101 1) + (1 : Int32))))))
set_option maxHeartbeats 4000000 in
theorem mX4_join (g0 : Nat) (x1 : Int32) (x2 : Int32) (D : mz_D) (hg0 : mz_tb g0 = true) (r : mz_D) (h : fX4_join g0 x1 x2 D = some r) : mz_Met IX4_join [.inr (.inr (some (g0, 101))), .inl x1, .inl x2] D (none, r) := by
  refine mz_Met.of (by decide +kernel) (Nat.le_of_ble_eq_true rfl) ?_
  show mz_Go IX4_join (none, r) 0 0 (0, [some (.inr (.inr (some (g0, 101)))), some (.inl x1), some (.inl x2)], [], D)
  rw [fX4_join] at h
  obtain ⟨hb1, h⟩ := mz_gd_some h
  obtain ⟨hb2, h⟩ := mz_gd_some h
  refine mz_Go.run (gs := [mz_kz 0 g0 101, mz_kz 0 g0 107, mz_ix x1 6, mz_kz 0 g0 101, mz_kz 0 g0 107, mz_ix x2 6, mz_kz 0 g0 101, mz_kz 0 g0 101]) (st' := (24, [some (.inr (.inr (some (g0, 101)))), some (.inl x1), some (.inl x2)], [], (mz_wi (mz_wi (mz_wi D g0 107 (x1).toNatClampNeg x2) g0 107 (x2).toNatClampNeg x1) g0 101 1 ((D.1 g0 101 1) + (1 : Int32))))) bX4_join_0 oX4_join_0 rfl ⟨hg0, hg0, hb1, hg0, hg0, hb2, hg0, hg0, trivial⟩ ?_
  cases h
  exact mz_Go.retv (by decide +kernel) rfl ⟨Nat.le_refl _, Nat.le_refl _⟩ rfl
def bX4_paidByAll_0 : List mz_E := [(0, .iconst 0, 0, 0, 0, 0, 0), (1, .istore_n 1, 0, 0, 0, 0, 0), (2, .iconst 0, 0, 0, 0, 0, 0), (3, .istore_n 2, 0, 0, 0, 0, 0)]
theorem oX4_paidByAll_0 : bX4_paidByAll_0.all (mz_ok RX4 cX4_paidByAll 3) = true := by decide +kernel
def bX4_paidByAll_4 : List mz_E := [(4, .iload_n 2, 0, 0, 0, 0, 0), (5, .aload_n 0, 0, 0, 0, 0, 0), (6, .getfield 34, 4, 0, 286, 0, 0), (9, .if_icmp .ge 18, 0, 27, 0, 0, 0)]
theorem oX4_paidByAll_4 : bX4_paidByAll_4.all (mz_ok RX4 cX4_paidByAll 3) = true := by decide +kernel
def bX4_paidByAll_27 : List mz_E := [(27, .iload_n 1, 0, 0, 0, 0, 0)]
theorem oX4_paidByAll_27 : bX4_paidByAll_27.all (mz_ok RX4 cX4_paidByAll 3) = true := by decide +kernel
def bX4_paidByAll_12 : List mz_E := [(12, .iload_n 1, 0, 0, 0, 0, 0), (13, .aload_n 0, 0, 0, 0, 0, 0), (14, .getfield 31, 4, 9, 319, 0, 0), (17, .iload_n 2, 0, 0, 0, 0, 0), (18, .iaload, 0, 0, 0, 0, 0), (19, .iadd, 0, 0, 0, 0, 0), (20, .istore_n 1, 0, 0, 0, 0, 0), (21, .iinc 2 1, 0, 0, 0, 1, 0), (24, .goto (-20), 0, 4, 0, 0, 0)]
theorem oX4_paidByAll_12 : bX4_paidByAll_12.all (mz_ok RX4 cX4_paidByAll 3) = true := by decide +kernel
abbrev IX4_paidByAll : mz_I := (yX4_paidByAll, cX4_paidByAll, 3, (some .int), 0, 0, 0, 0)
theorem kX4_paidByAll : mz_okm IX4_paidByAll 1037 135 1035 0 = true := by decide +kernel
theorem vX4_paidByAll : mz_okV IX4_paidByAll 1035 1036 = true := by decide +kernel
def fX4_paidByAll_4 (g0 : Nat) (D : mz_D) : Nat → Int32 → Int32 → Option Int32
  | 0 => fun _ _ => none
  | n + 1 => fun x1 x2 => (if (D.1 g0 101 0) ≤ x2 then (some x1) else (mz_gd (mz_ix x2 6) ((fX4_paidByAll_4 g0 D n) (x1 + (D.1 g0 108 (x2).toNatClampNeg)) (x2 + (1 : Int32)))))
set_option maxHeartbeats 4000000 in
theorem tX4_paidByAll_4 (g0 : Nat) (D : mz_D) (hg0 : mz_tb g0 = true) (r : Int32) : ∀ (n : Nat) (x1 : Int32) (x2 : Int32), fX4_paidByAll_4 g0 D n x1 x2 = some r → mz_Go IX4_paidByAll (some (.inl r), D) 0 0 (4, [some (.inr (.inr (some (g0, 101)))), some (.inl x1), some (.inl x2)], [], D) := by
  intro n
  induction n with
  | zero => intro x1 x2 h; have h : (none : Option Int32) = some r := h; cases h
  | succ n ih =>
    intro x1 x2 h
    rw [fX4_paidByAll_4] at h
    refine mz_Go.run (gs := [mz_kz 0 g0 101]) (st' := (if (D.1 g0 101 0) ≤ x2 then (27, [some (.inr (.inr (some (g0, 101)))), some (.inl x1), some (.inl x2)], [], D) else (12, [some (.inr (.inr (some (g0, 101)))), some (.inl x1), some (.inl x2)], [], D))) bX4_paidByAll_4 oX4_paidByAll_4 rfl ⟨hg0, trivial⟩ ?_
    refine mz_Go.ite (fun hc1 => ?_) (fun hc1 => ?_)
    · have h := mz_ifp hc1 h
      refine mz_Go.run (gs := []) (st' := (28, [some (.inr (.inr (some (g0, 101)))), some (.inl x1), some (.inl x2)], [.inl x1], D)) bX4_paidByAll_27 oX4_paidByAll_27 rfl trivial ?_
      cases h
      exact mz_Go.reti (by decide +kernel) rfl ⟨Nat.le_refl _, Nat.le_refl _⟩ rfl
    · have h := mz_ifn hc1 h
      obtain ⟨hb2, h⟩ := mz_gd_some h
      refine mz_Go.run (gs := [mz_kz 0 g0 101, mz_kz 0 g0 108, mz_ix x2 6]) (st' := (4, [some (.inr (.inr (some (g0, 101)))), some (.inl (x1 + (D.1 g0 108 (x2).toNatClampNeg))), some (.inl (x2 + (1 : Int32)))], [], D)) bX4_paidByAll_12 oX4_paidByAll_12 rfl ⟨hg0, hg0, hb2, trivial⟩ ?_
      exact mz_Go.drop [true, true, true] (ih (x1 + (D.1 g0 108 (x2).toNatClampNeg)) (x2 + (1 : Int32)) h)
def fX4_paidByAll (g0 : Nat) (D : mz_D) : Option Int32 := (fX4_paidByAll_4 g0 D mz_N (0 : Int32) (0 : Int32))
set_option maxHeartbeats 4000000 in
theorem mX4_paidByAll (g0 : Nat) (D : mz_D) (hg0 : mz_tb g0 = true) (r : Int32) (h : fX4_paidByAll g0 D = some r) : mz_Met IX4_paidByAll [.inr (.inr (some (g0, 101)))] D (some (.inl r), D) := by
  refine mz_Met.of (by decide +kernel) (Nat.le_of_ble_eq_true rfl) ?_
  show mz_Go IX4_paidByAll (some (.inl r), D) 0 0 (0, [some (.inr (.inr (some (g0, 101)))), none, none], [], D)
  rw [fX4_paidByAll] at h
  refine mz_Go.run (gs := []) (st' := (4, [some (.inr (.inr (some (g0, 101)))), some (.inl (0 : Int32)), some (.inl (0 : Int32))], [], D)) bX4_paidByAll_0 oX4_paidByAll_0 rfl trivial ?_
  exact mz_Go.drop [true, true, true] (tX4_paidByAll_4 g0 D hg0 r mz_N (0 : Int32) (0 : Int32) h)
def bX5_sortOf_0 : List mz_E := [(0, .iload_n 0, 0, 0, 0, 0, 0), (1, .bipush 97, 0, 0, 0, 97, 0), (3, .if_icmp .lt 11, 0, 14, 0, 0, 0)]
theorem oX5_sortOf_0 : bX5_sortOf_0.all (mz_ok RX5 cX5_sortOf 1) = true := by decide +kernel
def bX5_sortOf_14 : List mz_E := [(14, .iload_n 0, 0, 0, 0, 0, 0), (15, .bipush 48, 0, 0, 0, 48, 0), (17, .if_icmp .lt 11, 0, 28, 0, 0, 0)]
theorem oX5_sortOf_14 : bX5_sortOf_14.all (mz_ok RX5 cX5_sortOf 1) = true := by decide +kernel
def bX5_sortOf_28 : List mz_E := [(28, .iload_n 0, 0, 0, 0, 0, 0), (29, .bipush 32, 0, 0, 0, 32, 0), (31, .if_icmp .eq 9, 0, 40, 0, 0, 0)]
theorem oX5_sortOf_28 : bX5_sortOf_28.all (mz_ok RX5 cX5_sortOf 1) = true := by decide +kernel
def bX5_sortOf_40 : List mz_E := [(40, .iconst 5, 0, 0, 0, 5, 0)]
theorem oX5_sortOf_40 : bX5_sortOf_40.all (mz_ok RX5 cX5_sortOf 1) = true := by decide +kernel
def bX5_sortOf_34 : List mz_E := [(34, .iload_n 0, 0, 0, 0, 0, 0), (35, .bipush 10, 0, 0, 0, 10, 0), (37, .if_icmp .ne 5, 0, 42, 0, 0, 0)]
theorem oX5_sortOf_34 : bX5_sortOf_34.all (mz_ok RX5 cX5_sortOf 1) = true := by decide +kernel
def bX5_sortOf_42 : List mz_E := [(42, .iload_n 0, 0, 0, 0, 0, 0), (43, .bipush 59, 0, 0, 0, 59, 0), (45, .if_icmp .eq 21, 0, 66, 0, 0, 0)]
theorem oX5_sortOf_42 : bX5_sortOf_42.all (mz_ok RX5 cX5_sortOf 1) = true := by decide +kernel
def bX5_sortOf_66 : List mz_E := [(66, .iconst 3, 0, 0, 0, 3, 0), (67, .goto 4, 0, 71, 0, 0, 0)]
theorem oX5_sortOf_66 : bX5_sortOf_66.all (mz_ok RX5 cX5_sortOf 1) = true := by decide +kernel
def bX5_sortOf_48 : List mz_E := [(48, .iload_n 0, 0, 0, 0, 0, 0), (49, .bipush 60, 0, 0, 0, 60, 0), (51, .if_icmp .eq 15, 0, 66, 0, 0, 0)]
theorem oX5_sortOf_48 : bX5_sortOf_48.all (mz_ok RX5 cX5_sortOf 1) = true := by decide +kernel
def bX5_sortOf_54 : List mz_E := [(54, .iload_n 0, 0, 0, 0, 0, 0), (55, .bipush 62, 0, 0, 0, 62, 0), (57, .if_icmp .eq 9, 0, 66, 0, 0, 0)]
theorem oX5_sortOf_54 : bX5_sortOf_54.all (mz_ok RX5 cX5_sortOf 1) = true := by decide +kernel
def bX5_sortOf_60 : List mz_E := [(60, .iload_n 0, 0, 0, 0, 0, 0), (61, .bipush 61, 0, 0, 0, 61, 0), (63, .if_icmp .ne 7, 0, 70, 0, 0, 0)]
theorem oX5_sortOf_60 : bX5_sortOf_60.all (mz_ok RX5 cX5_sortOf 1) = true := by decide +kernel
def bX5_sortOf_70 : List mz_E := [(70, .iconst 4, 0, 0, 0, 4, 0)]
theorem oX5_sortOf_70 : bX5_sortOf_70.all (mz_ok RX5 cX5_sortOf 1) = true := by decide +kernel
def bX5_sortOf_20 : List mz_E := [(20, .iload_n 0, 0, 0, 0, 0, 0), (21, .bipush 57, 0, 0, 0, 57, 0), (23, .if_icmp .gt 5, 0, 28, 0, 0, 0)]
theorem oX5_sortOf_20 : bX5_sortOf_20.all (mz_ok RX5 cX5_sortOf 1) = true := by decide +kernel
def bX5_sortOf_26 : List mz_E := [(26, .iconst 2, 0, 0, 0, 2, 0)]
theorem oX5_sortOf_26 : bX5_sortOf_26.all (mz_ok RX5 cX5_sortOf 1) = true := by decide +kernel
def bX5_sortOf_6 : List mz_E := [(6, .iload_n 0, 0, 0, 0, 0, 0), (7, .bipush 122, 0, 0, 0, 122, 0), (9, .if_icmp .gt 5, 0, 14, 0, 0, 0)]
theorem oX5_sortOf_6 : bX5_sortOf_6.all (mz_ok RX5 cX5_sortOf 1) = true := by decide +kernel
def bX5_sortOf_12 : List mz_E := [(12, .iconst 1, 0, 0, 0, 1, 0)]
theorem oX5_sortOf_12 : bX5_sortOf_12.all (mz_ok RX5 cX5_sortOf 1) = true := by decide +kernel
abbrev IX5_sortOf : mz_I := (yX5_sortOf, cX5_sortOf, 1, (some .int), 9, 0, 0, 0)
theorem kX5_sortOf : mz_okm IX5_sortOf 747 127 746 1 = true := by decide +kernel
theorem vX5_sortOf : mz_okS IX5_sortOf 746 = true := by decide +kernel
def fX5_sortOf_28 (x0 : Int32) : Int32 := (if x0 = (32 : Int32) then (5 : Int32) else (if x0 = (10 : Int32) then (5 : Int32) else (if x0 = (59 : Int32) then (3 : Int32) else (if x0 = (60 : Int32) then (3 : Int32) else (if x0 = (62 : Int32) then (3 : Int32) else (if x0 = (61 : Int32) then (3 : Int32) else (4 : Int32)))))))
set_option maxHeartbeats 4000000 in
theorem tX5_sortOf_28 (D : mz_D) (r : Int32) : ∀ (x0 : Int32), fX5_sortOf_28 x0 = r → mz_Go IX5_sortOf (some (.inl r), D) 0 0 (28, [some (.inl x0)], [], D) := by
  intro x0 h
  rw [fX5_sortOf_28] at h
  refine mz_Go.run (gs := []) (st' := (if x0 = (32 : Int32) then (40, [some (.inl x0)], [], D) else (34, [some (.inl x0)], [], D))) bX5_sortOf_28 oX5_sortOf_28 rfl trivial ?_
  refine mz_Go.ite (fun hc1 => ?_) (fun hc1 => ?_)
  · have h := mz_ifp hc1 h
    refine mz_Go.run (gs := []) (st' := (41, [some (.inl x0)], [.inl (5 : Int32)], D)) bX5_sortOf_40 oX5_sortOf_40 rfl trivial ?_
    subst h
    exact mz_Go.reti (by decide +kernel) rfl ⟨Nat.le_refl _, Nat.le_refl _⟩ rfl
  · have h := mz_ifn hc1 h
    refine mz_Go.run (gs := []) (st' := (if x0 = (10 : Int32) then (40, [some (.inl x0)], [], D) else (42, [some (.inl x0)], [], D))) bX5_sortOf_34 oX5_sortOf_34 rfl trivial ?_
    refine mz_Go.ite (fun hc2 => ?_) (fun hc2 => ?_)
    · have h := mz_ifp hc2 h
      refine mz_Go.run (gs := []) (st' := (41, [some (.inl x0)], [.inl (5 : Int32)], D)) bX5_sortOf_40 oX5_sortOf_40 rfl trivial ?_
      subst h
      exact mz_Go.reti (by decide +kernel) rfl ⟨Nat.le_refl _, Nat.le_refl _⟩ rfl
    · have h := mz_ifn hc2 h
      refine mz_Go.run (gs := []) (st' := (if x0 = (59 : Int32) then (66, [some (.inl x0)], [], D) else (48, [some (.inl x0)], [], D))) bX5_sortOf_42 oX5_sortOf_42 rfl trivial ?_
      refine mz_Go.ite (fun hc3 => ?_) (fun hc3 => ?_)
      · have h := mz_ifp hc3 h
        refine mz_Go.run (gs := []) (st' := (71, [some (.inl x0)], [.inl (3 : Int32)], D)) bX5_sortOf_66 oX5_sortOf_66 rfl trivial ?_
        subst h
        exact mz_Go.reti (by decide +kernel) rfl ⟨Nat.le_refl _, Nat.le_refl _⟩ rfl
      · have h := mz_ifn hc3 h
        refine mz_Go.run (gs := []) (st' := (if x0 = (60 : Int32) then (66, [some (.inl x0)], [], D) else (54, [some (.inl x0)], [], D))) bX5_sortOf_48 oX5_sortOf_48 rfl trivial ?_
        refine mz_Go.ite (fun hc4 => ?_) (fun hc4 => ?_)
        · have h := mz_ifp hc4 h
          refine mz_Go.run (gs := []) (st' := (71, [some (.inl x0)], [.inl (3 : Int32)], D)) bX5_sortOf_66 oX5_sortOf_66 rfl trivial ?_
          subst h
          exact mz_Go.reti (by decide +kernel) rfl ⟨Nat.le_refl _, Nat.le_refl _⟩ rfl
        · have h := mz_ifn hc4 h
          refine mz_Go.run (gs := []) (st' := (if x0 = (62 : Int32) then (66, [some (.inl x0)], [], D) else (60, [some (.inl x0)], [], D))) bX5_sortOf_54 oX5_sortOf_54 rfl trivial ?_
          refine mz_Go.ite (fun hc5 => ?_) (fun hc5 => ?_)
          · have h := mz_ifp hc5 h
            refine mz_Go.run (gs := []) (st' := (71, [some (.inl x0)], [.inl (3 : Int32)], D)) bX5_sortOf_66 oX5_sortOf_66 rfl trivial ?_
            subst h
            exact mz_Go.reti (by decide +kernel) rfl ⟨Nat.le_refl _, Nat.le_refl _⟩ rfl
          · have h := mz_ifn hc5 h
            refine mz_Go.run (gs := []) (st' := (if x0 = (61 : Int32) then (66, [some (.inl x0)], [], D) else (70, [some (.inl x0)], [], D))) bX5_sortOf_60 oX5_sortOf_60 rfl trivial ?_
            refine mz_Go.ite (fun hc6 => ?_) (fun hc6 => ?_)
            · have h := mz_ifp hc6 h
              refine mz_Go.run (gs := []) (st' := (71, [some (.inl x0)], [.inl (3 : Int32)], D)) bX5_sortOf_66 oX5_sortOf_66 rfl trivial ?_
              subst h
              exact mz_Go.reti (by decide +kernel) rfl ⟨Nat.le_refl _, Nat.le_refl _⟩ rfl
            · have h := mz_ifn hc6 h
              refine mz_Go.run (gs := []) (st' := (71, [some (.inl x0)], [.inl (4 : Int32)], D)) bX5_sortOf_70 oX5_sortOf_70 rfl trivial ?_
              subst h
              exact mz_Go.reti (by decide +kernel) rfl ⟨Nat.le_refl _, Nat.le_refl _⟩ rfl
def fX5_sortOf_14 (x0 : Int32) : Int32 := (if x0 < (48 : Int32) then (fX5_sortOf_28 x0) else (if (57 : Int32) < x0 then (fX5_sortOf_28 x0) else (2 : Int32)))
set_option maxHeartbeats 4000000 in
theorem tX5_sortOf_14 (D : mz_D) (r : Int32) : ∀ (x0 : Int32), fX5_sortOf_14 x0 = r → mz_Go IX5_sortOf (some (.inl r), D) 0 0 (14, [some (.inl x0)], [], D) := by
  intro x0 h
  rw [fX5_sortOf_14] at h
  refine mz_Go.run (gs := []) (st' := (if x0 < (48 : Int32) then (28, [some (.inl x0)], [], D) else (20, [some (.inl x0)], [], D))) bX5_sortOf_14 oX5_sortOf_14 rfl trivial ?_
  refine mz_Go.ite (fun hc1 => ?_) (fun hc1 => ?_)
  · have h := mz_ifp hc1 h
    exact mz_Go.drop [true] (tX5_sortOf_28 D r x0 h)
  · have h := mz_ifn hc1 h
    refine mz_Go.run (gs := []) (st' := (if (57 : Int32) < x0 then (28, [some (.inl x0)], [], D) else (26, [some (.inl x0)], [], D))) bX5_sortOf_20 oX5_sortOf_20 rfl trivial ?_
    refine mz_Go.ite (fun hc2 => ?_) (fun hc2 => ?_)
    · have h := mz_ifp hc2 h
      exact mz_Go.drop [true] (tX5_sortOf_28 D r x0 h)
    · have h := mz_ifn hc2 h
      refine mz_Go.run (gs := []) (st' := (27, [some (.inl x0)], [.inl (2 : Int32)], D)) bX5_sortOf_26 oX5_sortOf_26 rfl trivial ?_
      subst h
      exact mz_Go.reti (by decide +kernel) rfl ⟨Nat.le_refl _, Nat.le_refl _⟩ rfl
def fX5_sortOf (x0 : Int32) : Int32 := (if x0 < (97 : Int32) then (fX5_sortOf_14 x0) else (if (122 : Int32) < x0 then (fX5_sortOf_14 x0) else (1 : Int32)))
set_option maxHeartbeats 4000000 in
theorem mX5_sortOf (x0 : Int32) (D : mz_D) (r : Int32) (h : fX5_sortOf x0 = r) : mz_Met IX5_sortOf [.inl x0] D (some (.inl r), D) := by
  refine mz_Met.of (by decide +kernel) (Nat.le_of_ble_eq_true rfl) ?_
  show mz_Go IX5_sortOf (some (.inl r), D) 0 0 (0, [some (.inl x0)], [], D)
  rw [fX5_sortOf] at h
  refine mz_Go.run (gs := []) (st' := (if x0 < (97 : Int32) then (14, [some (.inl x0)], [], D) else (6, [some (.inl x0)], [], D))) bX5_sortOf_0 oX5_sortOf_0 rfl trivial ?_
  refine mz_Go.ite (fun hc1 => ?_) (fun hc1 => ?_)
  · have h := mz_ifp hc1 h
    exact mz_Go.drop [true] (tX5_sortOf_14 D r x0 h)
  · have h := mz_ifn hc1 h
    refine mz_Go.run (gs := []) (st' := (if (122 : Int32) < x0 then (14, [some (.inl x0)], [], D) else (12, [some (.inl x0)], [], D))) bX5_sortOf_6 oX5_sortOf_6 rfl trivial ?_
    refine mz_Go.ite (fun hc2 => ?_) (fun hc2 => ?_)
    · have h := mz_ifp hc2 h
      exact mz_Go.drop [true] (tX5_sortOf_14 D r x0 h)
    · have h := mz_ifn hc2 h
      refine mz_Go.run (gs := []) (st' := (13, [some (.inl x0)], [.inl (1 : Int32)], D)) bX5_sortOf_12 oX5_sortOf_12 rfl trivial ?_
      subst h
      exact mz_Go.reti (by decide +kernel) rfl ⟨Nat.le_refl _, Nat.le_refl _⟩ rfl
def bX5_withLetter_0 : List mz_E := [(0, .lload_n 0, 0, 0, 0, 0, 0), (1, .ldc2_w 101, 0, 0, 213, 0, 32), (4, .lmul, 0, 0, 0, 0, 0), (5, .iload_n 2, 0, 0, 0, 0, 0), (6, .bipush 97, 0, 0, 0, 97, 0), (8, .isub, 0, 0, 0, 0, 0), (9, .iconst 1, 0, 0, 0, 1, 0), (10, .iadd, 0, 0, 0, 0, 0), (11, .i2l, 0, 0, 0, 0, 0), (12, .ladd, 0, 0, 0, 0, 0)]
theorem oX5_withLetter_0 : bX5_withLetter_0.all (mz_ok RX5 cX5_withLetter 3) = true := by decide +kernel
abbrev IX5_withLetter : mz_I := (yX5_withLetter, cX5_withLetter, 3, (some .long), 9, 0, 0, 0)
theorem kX5_withLetter : mz_okm IX5_withLetter 212 127 211 2 = true := by decide +kernel
theorem vX5_withLetter : mz_okS IX5_withLetter 211 = true := by decide +kernel
theorem mX5_withLetter (y0 : Int64) (x2 : Int32) (D : mz_D) : mz_Met IX5_withLetter [.inr (.inl y0), .inl x2] D (some (.inr (.inl ((y0 * (32 : Int64)) + (((x2 - (97 : Int32)) + (1 : Int32))).toInt64))), D) := by
  refine mz_Met.of (by decide +kernel) (Nat.le_of_ble_eq_true rfl) ?_
  show mz_Go IX5_withLetter (some (.inr (.inl ((y0 * (32 : Int64)) + (((x2 - (97 : Int32)) + (1 : Int32))).toInt64))), D) 0 0 (0, [some (.inr (.inl y0)), none, some (.inl x2)], [], D)
  refine mz_Go.run (gs := []) (st' := (13, [some (.inr (.inl y0)), none, some (.inl x2)], [.inr (.inl ((y0 * (32 : Int64)) + (((x2 - (97 : Int32)) + (1 : Int32))).toInt64))], D)) bX5_withLetter_0 oX5_withLetter_0 rfl trivial ?_
  exact mz_Go.retl (by decide +kernel) rfl ⟨Nat.le_refl _, Nat.le_refl _⟩ rfl
def bX5_keywordHere_0 : List mz_E := [(0, .aload_n 0, 0, 0, 0, 0, 0), (1, .getfield 56, 5, 6, 224, 0, 0), (4, .iconst 1, 0, 0, 0, 1, 0), (5, .if_icmp .ne 21, 0, 26, 0, 0, 0)]
theorem oX5_keywordHere_0 : bX5_keywordHere_0.all (mz_ok RX5 cX5_keywordHere 3) = true := by decide +kernel
def bX5_keywordHere_8 : List mz_E := [(8, .aload_n 0, 0, 0, 0, 0, 0), (9, .getfield 44, 5, 5, 223, 0, 0), (12, .aload_n 0, 0, 0, 0, 0, 0), (13, .getfield 65, 5, 7, 225, 0, 0), (16, .isub, 0, 0, 0, 0, 0), (17, .bipush 8, 0, 0, 0, 8, 0), (19, .if_icmp .gt 7, 0, 26, 0, 0, 0)]
theorem oX5_keywordHere_8 : bX5_keywordHere_8.all (mz_ok RX5 cX5_keywordHere 3) = true := by decide +kernel
def bX5_keywordHere_26 : List mz_E := [(26, .iconst 0, 0, 0, 0, 0, 0), (27, .istore_n 1, 0, 0, 0, 0, 0), (28, .iconst 0, 0, 0, 0, 0, 0), (29, .istore_n 2, 0, 0, 0, 0, 0)]
theorem oX5_keywordHere_26 : bX5_keywordHere_26.all (mz_ok RX5 cX5_keywordHere 3) = true := by decide +kernel
def bX5_keywordHere_30 : List mz_E := [(30, .iload_n 2, 0, 0, 0, 0, 0), (31, .bipush 29, 0, 0, 0, 29, 0), (33, .if_icmp .ge 29, 0, 62, 0, 0, 0)]
theorem oX5_keywordHere_30 : bX5_keywordHere_30.all (mz_ok RX5 cX5_keywordHere 3) = true := by decide +kernel
def bX5_keywordHere_62 : List mz_E := [(62, .iconst (-1), 0, 0, 0, -1, 0)]
theorem oX5_keywordHere_62 : bX5_keywordHere_62.all (mz_ok RX5 cX5_keywordHere 3) = true := by decide +kernel
def bX5_keywordHere_36 : List mz_E := [(36, .iload_n 1, 0, 0, 0, 0, 0), (37, .ifCond .eq 25, 0, 62, 0, 0, 0)]
theorem oX5_keywordHere_36 : bX5_keywordHere_36.all (mz_ok RX5 cX5_keywordHere 3) = true := by decide +kernel
def bX5_keywordHere_40 : List mz_E := [(40, .aload_n 0, 0, 0, 0, 0, 0), (41, .getfield 11, 5, 10, 228, 0, 0), (44, .iload_n 2, 0, 0, 0, 0, 0), (45, .laload, 0, 0, 0, 0, 0), (46, .aload_n 0, 0, 0, 0, 0, 0), (47, .getfield 68, 5, 9, 227, 0, 0), (50, .lcmp, 0, 0, 0, 0, 0), (51, .ifCond .ne 5, 0, 56, 0, 0, 0)]
theorem oX5_keywordHere_40 : bX5_keywordHere_40.all (mz_ok RX5 cX5_keywordHere 3) = true := by decide +kernel
def bX5_keywordHere_54 : List mz_E := [(54, .iload_n 2, 0, 0, 0, 0, 0)]
theorem oX5_keywordHere_54 : bX5_keywordHere_54.all (mz_ok RX5 cX5_keywordHere 3) = true := by decide +kernel
def bX5_keywordHere_56 : List mz_E := [(56, .iinc 2 1, 0, 0, 0, 1, 0), (59, .goto (-29), 0, 30, 0, 0, 0)]
theorem oX5_keywordHere_56 : bX5_keywordHere_56.all (mz_ok RX5 cX5_keywordHere 3) = true := by decide +kernel
def bX5_keywordHere_22 : List mz_E := [(22, .iconst 1, 0, 0, 0, 1, 0), (23, .goto 4, 0, 27, 0, 0, 0), (27, .istore_n 1, 0, 0, 0, 0, 0), (28, .iconst 0, 0, 0, 0, 0, 0), (29, .istore_n 2, 0, 0, 0, 0, 0)]
theorem oX5_keywordHere_22 : bX5_keywordHere_22.all (mz_ok RX5 cX5_keywordHere 3) = true := by decide +kernel
abbrev IX5_keywordHere : mz_I := (yX5_keywordHere, cX5_keywordHere, 3, (some .int), 0, 0, 0, 0)
theorem kX5_keywordHere : mz_okm IX5_keywordHere 751 127 750 0 = true := by decide +kernel
theorem vX5_keywordHere : mz_okV IX5_keywordHere 750 5 = true := by decide +kernel
def fX5_keywordHere_30 (D : mz_D) : Nat → Int32 → Int32 → Option Int32
  | 0 => fun _ _ => none
  | n + 1 => fun x1 x2 => (if (29 : Int32) ≤ x2 then (some (-1 : Int32)) else (if x1 = 0 then (some (-1 : Int32)) else (mz_gd (mz_ix x2 29) (if (lg_cmp (D.2 0 3 (x2).toNatClampNeg) (D.2 0 2 9)) = 0 then (some x2) else ((fX5_keywordHere_30 D n) x1 (x2 + (1 : Int32)))))))
set_option maxHeartbeats 4000000 in
theorem tX5_keywordHere_30 (D : mz_D) (r : Int32) : ∀ (n : Nat) (x1 : Int32) (x2 : Int32), fX5_keywordHere_30 D n x1 x2 = some r → mz_Go IX5_keywordHere (some (.inl r), D) 0 0 (30, [some (.inr (.inr (some (0, 2)))), some (.inl x1), some (.inl x2)], [], D) := by
  intro n
  induction n with
  | zero => intro x1 x2 h; have h : (none : Option Int32) = some r := h; cases h
  | succ n ih =>
    intro x1 x2 h
    rw [fX5_keywordHere_30] at h
    refine mz_Go.run (gs := []) (st' := (if (29 : Int32) ≤ x2 then (62, [some (.inr (.inr (some (0, 2)))), some (.inl x1), some (.inl x2)], [], D) else (36, [some (.inr (.inr (some (0, 2)))), some (.inl x1), some (.inl x2)], [], D))) bX5_keywordHere_30 oX5_keywordHere_30 rfl trivial ?_
    refine mz_Go.ite (fun hc1 => ?_) (fun hc1 => ?_)
    · have h := mz_ifp hc1 h
      refine mz_Go.run (gs := []) (st' := (63, [some (.inr (.inr (some (0, 2)))), some (.inl x1), some (.inl x2)], [.inl (-1 : Int32)], D)) bX5_keywordHere_62 oX5_keywordHere_62 rfl trivial ?_
      cases h
      exact mz_Go.reti (by decide +kernel) rfl ⟨Nat.le_refl _, Nat.le_refl _⟩ rfl
    · have h := mz_ifn hc1 h
      refine mz_Go.run (gs := []) (st' := (if x1 = 0 then (62, [some (.inr (.inr (some (0, 2)))), some (.inl x1), some (.inl x2)], [], D) else (40, [some (.inr (.inr (some (0, 2)))), some (.inl x1), some (.inl x2)], [], D))) bX5_keywordHere_36 oX5_keywordHere_36 rfl trivial ?_
      refine mz_Go.ite (fun hc2 => ?_) (fun hc2 => ?_)
      · have h := mz_ifp hc2 h
        refine mz_Go.run (gs := []) (st' := (63, [some (.inr (.inr (some (0, 2)))), some (.inl x1), some (.inl x2)], [.inl (-1 : Int32)], D)) bX5_keywordHere_62 oX5_keywordHere_62 rfl trivial ?_
        cases h
        exact mz_Go.reti (by decide +kernel) rfl ⟨Nat.le_refl _, Nat.le_refl _⟩ rfl
      · have h := mz_ifn hc2 h
        obtain ⟨hb3, h⟩ := mz_gd_some h
        refine mz_Go.run (gs := [mz_kz 0 0 2, mz_kz 0 0 3, mz_ix x2 29, mz_kz 0 0 2]) (st' := (if (lg_cmp (D.2 0 3 (x2).toNatClampNeg) (D.2 0 2 9)) = 0 then (54, [some (.inr (.inr (some (0, 2)))), some (.inl x1), some (.inl x2)], [], D) else (56, [some (.inr (.inr (some (0, 2)))), some (.inl x1), some (.inl x2)], [], D))) bX5_keywordHere_40 oX5_keywordHere_40 rfl ⟨rfl, rfl, hb3, rfl, trivial⟩ ?_
        refine mz_Go.ite (fun hc4 => ?_) (fun hc4 => ?_)
        · have h := mz_ifp hc4 h
          refine mz_Go.run (gs := []) (st' := (55, [some (.inr (.inr (some (0, 2)))), some (.inl x1), some (.inl x2)], [.inl x2], D)) bX5_keywordHere_54 oX5_keywordHere_54 rfl trivial ?_
          cases h
          exact mz_Go.reti (by decide +kernel) rfl ⟨Nat.le_refl _, Nat.le_refl _⟩ rfl
        · have h := mz_ifn hc4 h
          refine mz_Go.run (gs := []) (st' := (30, [some (.inr (.inr (some (0, 2)))), some (.inl x1), some (.inl (x2 + (1 : Int32)))], [], D)) bX5_keywordHere_56 oX5_keywordHere_56 rfl trivial ?_
          exact mz_Go.drop [true, true, true] (ih x1 (x2 + (1 : Int32)) h)
def fX5_keywordHere_26 (D : mz_D) : Option Int32 := (fX5_keywordHere_30 D mz_N (0 : Int32) (0 : Int32))
set_option maxHeartbeats 4000000 in
theorem tX5_keywordHere_26 (D : mz_D) (r : Int32) : fX5_keywordHere_26 D  = some r → mz_Go IX5_keywordHere (some (.inl r), D) 0 0 (26, [some (.inr (.inr (some (0, 2)))), none, none], [], D) := by
  intro  h
  rw [fX5_keywordHere_26] at h
  refine mz_Go.run (gs := []) (st' := (30, [some (.inr (.inr (some (0, 2)))), some (.inl (0 : Int32)), some (.inl (0 : Int32))], [], D)) bX5_keywordHere_26 oX5_keywordHere_26 rfl trivial ?_
  exact mz_Go.drop [true, true, true] (tX5_keywordHere_30 D r mz_N (0 : Int32) (0 : Int32) h)
def fX5_keywordHere (D : mz_D) : Option Int32 := (if (D.1 0 2 6) = (1 : Int32) then (if (8 : Int32) < ((D.1 0 2 5) - (D.1 0 2 7)) then (fX5_keywordHere_26 D) else (fX5_keywordHere_30 D mz_N (1 : Int32) (0 : Int32))) else (fX5_keywordHere_26 D))
set_option maxHeartbeats 4000000 in
theorem mX5_keywordHere (D : mz_D) (r : Int32) (h : fX5_keywordHere D = some r) : mz_Met IX5_keywordHere [.inr (.inr (some (0, 2)))] D (some (.inl r), D) := by
  refine mz_Met.of (by decide +kernel) (Nat.le_of_ble_eq_true rfl) ?_
  show mz_Go IX5_keywordHere (some (.inl r), D) 0 0 (0, [some (.inr (.inr (some (0, 2)))), none, none], [], D)
  rw [fX5_keywordHere] at h
  refine mz_Go.run (gs := [mz_kz 0 0 2]) (st' := (if (D.1 0 2 6) = (1 : Int32) then (8, [some (.inr (.inr (some (0, 2)))), none, none], [], D) else (26, [some (.inr (.inr (some (0, 2)))), none, none], [], D))) bX5_keywordHere_0 oX5_keywordHere_0 rfl ⟨rfl, trivial⟩ ?_
  refine mz_Go.ite (fun hc1 => ?_) (fun hc1 => ?_)
  · have h := mz_ifp hc1 h
    refine mz_Go.run (gs := [mz_kz 0 0 2, mz_kz 0 0 2]) (st' := (if (8 : Int32) < ((D.1 0 2 5) - (D.1 0 2 7)) then (26, [some (.inr (.inr (some (0, 2)))), none, none], [], D) else (22, [some (.inr (.inr (some (0, 2)))), none, none], [], D))) bX5_keywordHere_8 oX5_keywordHere_8 rfl ⟨rfl, rfl, trivial⟩ ?_
    refine mz_Go.ite (fun hc2 => ?_) (fun hc2 => ?_)
    · have h := mz_ifp hc2 h
      exact mz_Go.drop [true, false, false] (tX5_keywordHere_26 D r h)
    · have h := mz_ifn hc2 h
      refine mz_Go.run (gs := []) (st' := (30, [some (.inr (.inr (some (0, 2)))), some (.inl (1 : Int32)), some (.inl (0 : Int32))], [], D)) bX5_keywordHere_22 oX5_keywordHere_22 rfl trivial ?_
      exact mz_Go.drop [true, true, true] (tX5_keywordHere_30 D r mz_N (1 : Int32) (0 : Int32) h)
  · have h := mz_ifn hc1 h
    exact mz_Go.drop [true, false, false] (tX5_keywordHere_26 D r h)
def bX5_advance_0 : List mz_E := [(0, .aload_n 0, 0, 0, 0, 0, 0), (1, .getfield 44, 5, 5, 223, 0, 0), (4, .aload_n 0, 0, 0, 0, 0, 0), (5, .getfield 41, 5, 4, 222, 0, 0), (8, .if_icmp .ge 32, 0, 40, 0, 0, 0)]
theorem oX5_advance_0 : bX5_advance_0.all (mz_ok RX5 cX5_advance 1) = true := by decide +kernel
def bX5_advance_40 : List mz_E := [(40, .aload_n 0, 0, 0, 0, 0, 0), (41, .aload_n 0, 0, 0, 0, 0, 0), (42, .getfield 44, 5, 5, 223, 0, 0), (45, .putfield 65, 5, 7, 225, 0, 0), (48, .aload_n 0, 0, 0, 0, 0, 0), (49, .lconst 0, 0, 0, 0, 0, 0), (50, .putfield 68, 5, 9, 227, 0, 0), (53, .aload_n 0, 0, 0, 0, 0, 0), (54, .iconst 0, 0, 0, 0, 0, 0), (55, .putfield 59, 5, 8, 226, 0, 0), (58, .aload_n 0, 0, 0, 0, 0, 0), (59, .aload_n 0, 0, 0, 0, 0, 0), (60, .getfield 44, 5, 5, 223, 0, 0), (63, .aload_n 0, 0, 0, 0, 0, 0), (64, .getfield 41, 5, 4, 222, 0, 0), (67, .if_icmp .ge 18, 0, 85, 0, 0, 0)]
theorem oX5_advance_40 : bX5_advance_40.all (mz_ok RX5 cX5_advance 1) = true := by decide +kernel
def bX5_advance_85 : List mz_E := [(85, .iconst 0, 0, 0, 0, 0, 0)]
theorem oX5_advance_85 : bX5_advance_85.all (mz_ok RX5 cX5_advance 1) = true := by decide +kernel
def bX5_advance_86 : List mz_E := [(86, .putfield 56, 5, 6, 224, 0, 0), (89, .aload_n 0, 0, 0, 0, 0, 0), (90, .getfield 56, 5, 6, 224, 0, 0), (93, .iconst 3, 0, 0, 0, 3, 0), (94, .if_icmp .ne 26, 0, 120, 0, 0, 0)]
theorem oX5_advance_86 : bX5_advance_86.all (mz_ok RX5 cX5_advance 1) = true := by decide +kernel
def bX5_advance_97 : List mz_E := [(97, .aload_n 0, 0, 0, 0, 0, 0), (98, .aload_n 0, 0, 0, 0, 0, 0), (99, .getfield 15, 5, 3, 221, 0, 0), (102, .aload_n 0, 0, 0, 0, 0, 0), (103, .getfield 44, 5, 5, 223, 0, 0), (106, .baload, 0, 0, 0, 0, 0), (107, .putfield 59, 5, 8, 226, 0, 0), (110, .aload_n 0, 0, 0, 0, 0, 0), (111, .dup, 0, 0, 0, 0, 0), (112, .getfield 44, 5, 5, 223, 0, 0), (115, .iconst 1, 0, 0, 0, 1, 0), (116, .iadd, 0, 0, 0, 0, 0), (117, .putfield 44, 5, 5, 223, 0, 0)]
theorem oX5_advance_97 : bX5_advance_97.all (mz_ok RX5 cX5_advance 1) = true := by decide +kernel
def bX5_advance_120 : List mz_E := [(120, .aload_n 0, 0, 0, 0, 0, 0), (121, .getfield 44, 5, 5, 223, 0, 0), (124, .aload_n 0, 0, 0, 0, 0, 0), (125, .getfield 41, 5, 4, 222, 0, 0), (128, .if_icmp .ge 95, 0, 223, 0, 0, 0)]
theorem oX5_advance_120 : bX5_advance_120.all (mz_ok RX5 cX5_advance 1) = true := by decide +kernel
def bX5_advance_223 : List mz_E := [(223, .aload_n 0, 0, 0, 0, 0, 0), (224, .aload_n 0, 0, 0, 0, 0, 0)]
theorem oX5_advance_223 : bX5_advance_223.all (mz_ok RX5 cX5_advance 1) = true := by decide +kernel
def bX5_advance_228 : List mz_E := [(228, .putfield 62, 5, 2, 220, 0, 0), (231, .aload_n 0, 0, 0, 0, 0, 0), (232, .getfield 56, 5, 6, 224, 0, 0), (235, .iconst 2, 0, 0, 0, 2, 0), (236, .if_icmp .ne 21, 0, 257, 0, 0, 0)]
theorem oX5_advance_228 : bX5_advance_228.all (mz_ok RX5 cX5_advance 1) = true := by decide +kernel
def bX5_advance_239 : List mz_E := [(239, .aload_n 0, 0, 0, 0, 0, 0), (240, .getfield 44, 5, 5, 223, 0, 0), (243, .aload_n 0, 0, 0, 0, 0, 0), (244, .getfield 65, 5, 7, 225, 0, 0), (247, .isub, 0, 0, 0, 0, 0), (248, .iconst 4, 0, 0, 0, 4, 0), (249, .if_icmp .le 8, 0, 257, 0, 0, 0)]
theorem oX5_advance_239 : bX5_advance_239.all (mz_ok RX5 cX5_advance 1) = true := by decide +kernel
def bX5_advance_252 : List mz_E := [(252, .aload_n 0, 0, 0, 0, 0, 0), (253, .iconst 4, 0, 0, 0, 4, 0), (254, .putfield 56, 5, 6, 224, 0, 0)]
theorem oX5_advance_252 : bX5_advance_252.all (mz_ok RX5 cX5_advance 1) = true := by decide +kernel
def bX5_advance_131 : List mz_E := [(131, .aload_n 0, 0, 0, 0, 0, 0), (132, .getfield 56, 5, 6, 224, 0, 0), (135, .iconst 1, 0, 0, 0, 1, 0), (136, .if_icmp .eq 11, 0, 147, 0, 0, 0)]
theorem oX5_advance_131 : bX5_advance_131.all (mz_ok RX5 cX5_advance 1) = true := by decide +kernel
def bX5_advance_147 : List mz_E := [(147, .aload_n 0, 0, 0, 0, 0, 0), (148, .getfield 15, 5, 3, 221, 0, 0), (151, .aload_n 0, 0, 0, 0, 0, 0), (152, .getfield 44, 5, 5, 223, 0, 0), (155, .baload, 0, 0, 0, 0, 0)]
theorem oX5_advance_147 : bX5_advance_147.all (mz_ok RX5 cX5_advance 1) = true := by decide +kernel
def bX5_advance_159 : List mz_E := [(159, .aload_n 0, 0, 0, 0, 0, 0), (160, .getfield 56, 5, 6, 224, 0, 0), (163, .if_icmp .ne 60, 0, 223, 0, 0, 0)]
theorem oX5_advance_159 : bX5_advance_159.all (mz_ok RX5 cX5_advance 1) = true := by decide +kernel
def bX5_advance_166 : List mz_E := [(166, .aload_n 0, 0, 0, 0, 0, 0), (167, .aload_n 0, 0, 0, 0, 0, 0), (168, .getfield 68, 5, 9, 227, 0, 0), (171, .aload_n 0, 0, 0, 0, 0, 0), (172, .getfield 15, 5, 3, 221, 0, 0), (175, .aload_n 0, 0, 0, 0, 0, 0), (176, .getfield 44, 5, 5, 223, 0, 0), (179, .baload, 0, 0, 0, 0, 0)]
theorem oX5_advance_166 : bX5_advance_166.all (mz_ok RX5 cX5_advance 1) = true := by decide +kernel
def bX5_advance_183 : List mz_E := [(183, .putfield 68, 5, 9, 227, 0, 0), (186, .aload_n 0, 0, 0, 0, 0, 0), (187, .aload_n 0, 0, 0, 0, 0, 0), (188, .getfield 59, 5, 8, 226, 0, 0), (191, .bipush 10, 0, 0, 0, 10, 0), (193, .imul, 0, 0, 0, 0, 0), (194, .aload_n 0, 0, 0, 0, 0, 0), (195, .getfield 15, 5, 3, 221, 0, 0), (198, .aload_n 0, 0, 0, 0, 0, 0), (199, .getfield 44, 5, 5, 223, 0, 0), (202, .baload, 0, 0, 0, 0, 0), (203, .bipush 48, 0, 0, 0, 48, 0), (205, .isub, 0, 0, 0, 0, 0), (206, .iadd, 0, 0, 0, 0, 0), (207, .putfield 59, 5, 8, 226, 0, 0), (210, .aload_n 0, 0, 0, 0, 0, 0), (211, .dup, 0, 0, 0, 0, 0), (212, .getfield 44, 5, 5, 223, 0, 0), (215, .iconst 1, 0, 0, 0, 1, 0), (216, .iadd, 0, 0, 0, 0, 0), (217, .putfield 44, 5, 5, 223, 0, 0), (220, .goto (-100), 0, 120, 0, 0, 0)]
theorem oX5_advance_183 : bX5_advance_183.all (mz_ok RX5 cX5_advance 1) = true := by decide +kernel
def bX5_advance_139 : List mz_E := [(139, .aload_n 0, 0, 0, 0, 0, 0), (140, .getfield 56, 5, 6, 224, 0, 0), (143, .iconst 2, 0, 0, 0, 2, 0), (144, .if_icmp .ne 79, 0, 223, 0, 0, 0)]
theorem oX5_advance_139 : bX5_advance_139.all (mz_ok RX5 cX5_advance 1) = true := by decide +kernel
def bX5_advance_70 : List mz_E := [(70, .aload_n 0, 0, 0, 0, 0, 0), (71, .getfield 15, 5, 3, 221, 0, 0), (74, .aload_n 0, 0, 0, 0, 0, 0), (75, .getfield 44, 5, 5, 223, 0, 0), (78, .baload, 0, 0, 0, 0, 0)]
theorem oX5_advance_70 : bX5_advance_70.all (mz_ok RX5 cX5_advance 1) = true := by decide +kernel
def bX5_advance_82 : List mz_E := [(82, .goto 4, 0, 86, 0, 0, 0)]
theorem oX5_advance_82 : bX5_advance_82.all (mz_ok RX5 cX5_advance 1) = true := by decide +kernel
def bX5_advance_11 : List mz_E := [(11, .aload_n 0, 0, 0, 0, 0, 0), (12, .getfield 15, 5, 3, 221, 0, 0), (15, .aload_n 0, 0, 0, 0, 0, 0), (16, .getfield 44, 5, 5, 223, 0, 0), (19, .baload, 0, 0, 0, 0, 0)]
theorem oX5_advance_11 : bX5_advance_11.all (mz_ok RX5 cX5_advance 1) = true := by decide +kernel
def bX5_advance_23 : List mz_E := [(23, .iconst 5, 0, 0, 0, 5, 0), (24, .if_icmp .ne 16, 0, 40, 0, 0, 0)]
theorem oX5_advance_23 : bX5_advance_23.all (mz_ok RX5 cX5_advance 1) = true := by decide +kernel
def bX5_advance_27 : List mz_E := [(27, .aload_n 0, 0, 0, 0, 0, 0), (28, .dup, 0, 0, 0, 0, 0), (29, .getfield 44, 5, 5, 223, 0, 0), (32, .iconst 1, 0, 0, 0, 1, 0), (33, .iadd, 0, 0, 0, 0, 0), (34, .putfield 44, 5, 5, 223, 0, 0), (37, .goto (-37), 0, 0, 0, 0, 0)]
theorem oX5_advance_27 : bX5_advance_27.all (mz_ok RX5 cX5_advance 1) = true := by decide +kernel
abbrev IX5_advance : mz_I := (yX5_advance, cX5_advance, 1, none, 0, 1, 0, 0)
theorem kX5_advance : mz_okm IX5_advance 744 127 742 0 = true := by decide +kernel
theorem vX5_advance : mz_okV IX5_advance 742 743 = true := by decide +kernel
def fX5_advance_223 (D : mz_D) : Option mz_D := (Option.bind (fX5_keywordHere D) fun q1 => (if (D.1 0 2 6) = (2 : Int32) then (if ((D.1 0 2 5) - (D.1 0 2 7)) ≤ (4 : Int32) then (some (mz_wi D 0 2 2 q1)) else (some (mz_wi (mz_wi D 0 2 2 q1) 0 2 6 (4 : Int32)))) else (some (mz_wi D 0 2 2 q1))))
set_option maxHeartbeats 4000000 in
theorem tX5_advance_223 (r : mz_D) : ∀ (D : mz_D), fX5_advance_223 D = some r → mz_Go IX5_advance (none, r) 0 0 (223, [some (.inr (.inr (some (0, 2))))], [], D) := by
  intro D h
  rw [fX5_advance_223] at h
  refine mz_Go.run (gs := []) (st' := (225, [some (.inr (.inr (some (0, 2))))], [.inr (.inr (some (0, 2))), .inr (.inr (some (0, 2)))], D)) bX5_advance_223 oX5_advance_223 rfl trivial ?_
  obtain ⟨q1, hq1, h⟩ := mz_bd_some h
  refine mz_Go.callV (I := IX5_advance) (J := IX5_keywordHere) (as := []) (ci := 5) (g := 0) (o := 2) (idx := 98) (pl := 748) (rest := [.inr (.inr (some (0, 2)))]) (mX5_keywordHere D q1 hq1) kX5_keywordHere vX5_keywordHere (by decide +kernel) (by decide +kernel) (by decide +kernel) rfl rfl ⟨rfl, rfl⟩ rfl rfl rfl rfl ?_
  refine mz_Go.run (gs := [mz_kz 0 0 2, mz_kz 0 0 2]) (st' := (if (D.1 0 2 6) = (2 : Int32) then (239, [some (.inr (.inr (some (0, 2))))], [], (mz_wi D 0 2 2 q1)) else (257, [some (.inr (.inr (some (0, 2))))], [], (mz_wi D 0 2 2 q1)))) bX5_advance_228 oX5_advance_228 rfl ⟨rfl, rfl, trivial⟩ ?_
  refine mz_Go.ite (fun hc2 => ?_) (fun hc2 => ?_)
  · have h := mz_ifp hc2 h
    refine mz_Go.run (gs := [mz_kz 0 0 2, mz_kz 0 0 2]) (st' := (if ((D.1 0 2 5) - (D.1 0 2 7)) ≤ (4 : Int32) then (257, [some (.inr (.inr (some (0, 2))))], [], (mz_wi D 0 2 2 q1)) else (252, [some (.inr (.inr (some (0, 2))))], [], (mz_wi D 0 2 2 q1)))) bX5_advance_239 oX5_advance_239 rfl ⟨rfl, rfl, trivial⟩ ?_
    refine mz_Go.ite (fun hc3 => ?_) (fun hc3 => ?_)
    · have h := mz_ifp hc3 h
      cases h
      exact mz_Go.retv (by decide +kernel) rfl ⟨Nat.le_refl _, Nat.le_refl _⟩ rfl
    · have h := mz_ifn hc3 h
      refine mz_Go.run (gs := [mz_kz 0 0 2]) (st' := (257, [some (.inr (.inr (some (0, 2))))], [], (mz_wi (mz_wi D 0 2 2 q1) 0 2 6 (4 : Int32)))) bX5_advance_252 oX5_advance_252 rfl ⟨rfl, trivial⟩ ?_
      cases h
      exact mz_Go.retv (by decide +kernel) rfl ⟨Nat.le_refl _, Nat.le_refl _⟩ rfl
  · have h := mz_ifn hc2 h
    cases h
    exact mz_Go.retv (by decide +kernel) rfl ⟨Nat.le_refl _, Nat.le_refl _⟩ rfl
def fX5_advance_147 (k120 : mz_D → Option mz_D) (D : mz_D) : Option mz_D := (mz_gd (mz_ix (D.1 0 2 5) 900) (if (fX5_sortOf (D.1 0 1 ((D.1 0 2 5)).toNatClampNeg)) = (D.1 0 2 6) then (k120 (mz_wi (mz_wi (mz_wg D 0 2 9 (((D.2 0 2 9) * (32 : Int64)) + ((((D.1 0 1 ((D.1 0 2 5)).toNatClampNeg) - (97 : Int32)) + (1 : Int32))).toInt64)) 0 2 8 (((D.1 0 2 8) * (10 : Int32)) + ((D.1 0 1 ((D.1 0 2 5)).toNatClampNeg) - (48 : Int32)))) 0 2 5 ((D.1 0 2 5) + (1 : Int32)))) else (fX5_advance_223 D)))
set_option maxHeartbeats 4000000 in
theorem tX5_advance_147 (r : mz_D) (k120 : mz_D → Option mz_D) (hk120 : ∀ (D : mz_D), k120 D = some r → mz_Go IX5_advance (none, r) 0 0 (120, [some (.inr (.inr (some (0, 2))))], [], D)) : ∀ (D : mz_D), fX5_advance_147 k120 D = some r → mz_Go IX5_advance (none, r) 0 0 (147, [some (.inr (.inr (some (0, 2))))], [], D) := by
  intro D h
  rw [fX5_advance_147] at h
  obtain ⟨hb1, h⟩ := mz_gd_some h
  refine mz_Go.run (gs := [mz_kz 0 0 2, mz_kz 0 0 2, mz_kz 0 0 1, mz_ix (D.1 0 2 5) 900]) (st' := (156, [some (.inr (.inr (some (0, 2))))], [.inl (D.1 0 1 ((D.1 0 2 5)).toNatClampNeg)], D)) bX5_advance_147 oX5_advance_147 rfl ⟨rfl, rfl, rfl, hb1, trivial⟩ ?_
  refine mz_Go.callS (I := IX5_advance) (J := IX5_sortOf) (as := [.inl (D.1 0 1 ((D.1 0 2 5)).toNatClampNeg)]) (idx := 94) (pl := 745) (rest := []) (mX5_sortOf (D.1 0 1 ((D.1 0 2 5)).toNatClampNeg) D _ rfl) kX5_sortOf vX5_sortOf (by decide +kernel) (by decide +kernel) (by decide +kernel) rfl rfl ⟨rfl, rfl⟩ rfl ?_
  refine mz_Go.run (gs := [mz_kz 0 0 2]) (st' := (if (fX5_sortOf (D.1 0 1 ((D.1 0 2 5)).toNatClampNeg)) = (D.1 0 2 6) then (166, [some (.inr (.inr (some (0, 2))))], [], D) else (223, [some (.inr (.inr (some (0, 2))))], [], D))) bX5_advance_159 oX5_advance_159 rfl ⟨rfl, trivial⟩ ?_
  refine mz_Go.ite (fun hc2 => ?_) (fun hc2 => ?_)
  · have h := mz_ifp hc2 h
    refine mz_Go.run (gs := [mz_kz 0 0 2, mz_kz 0 0 2, mz_kz 0 0 2, mz_kz 0 0 1, mz_ix (D.1 0 2 5) 900]) (st' := (180, [some (.inr (.inr (some (0, 2))))], [.inl (D.1 0 1 ((D.1 0 2 5)).toNatClampNeg), .inr (.inl (D.2 0 2 9)), .inr (.inr (some (0, 2)))], D)) bX5_advance_166 oX5_advance_166 rfl ⟨rfl, rfl, rfl, rfl, hb1, trivial⟩ ?_
    refine mz_Go.callS (I := IX5_advance) (J := IX5_withLetter) (as := [.inr (.inl (D.2 0 2 9)), .inl (D.1 0 1 ((D.1 0 2 5)).toNatClampNeg)]) (idx := 31) (pl := 210) (rest := [.inr (.inr (some (0, 2)))]) (mX5_withLetter (D.2 0 2 9) (D.1 0 1 ((D.1 0 2 5)).toNatClampNeg) D) kX5_withLetter vX5_withLetter (by decide +kernel) (by decide +kernel) (by decide +kernel) rfl rfl ⟨rfl, rfl⟩ rfl ?_
    refine mz_Go.run (gs := [mz_kz 0 0 2, mz_kz 0 0 2, mz_kz 0 0 2, mz_kz 0 0 2, mz_kz 0 0 1, mz_ix (D.1 0 2 5) 900, mz_kz 0 0 2, mz_kz 0 0 2, mz_kz 0 0 2]) (st' := (120, [some (.inr (.inr (some (0, 2))))], [], (mz_wi (mz_wi (mz_wg D 0 2 9 (((D.2 0 2 9) * (32 : Int64)) + ((((D.1 0 1 ((D.1 0 2 5)).toNatClampNeg) - (97 : Int32)) + (1 : Int32))).toInt64)) 0 2 8 (((D.1 0 2 8) * (10 : Int32)) + ((D.1 0 1 ((D.1 0 2 5)).toNatClampNeg) - (48 : Int32)))) 0 2 5 ((D.1 0 2 5) + (1 : Int32))))) bX5_advance_183 oX5_advance_183 rfl ⟨rfl, rfl, rfl, rfl, rfl, hb1, rfl, rfl, rfl, trivial⟩ ?_
    exact mz_Go.drop [true] (hk120 (mz_wi (mz_wi (mz_wg D 0 2 9 (((D.2 0 2 9) * (32 : Int64)) + ((((D.1 0 1 ((D.1 0 2 5)).toNatClampNeg) - (97 : Int32)) + (1 : Int32))).toInt64)) 0 2 8 (((D.1 0 2 8) * (10 : Int32)) + ((D.1 0 1 ((D.1 0 2 5)).toNatClampNeg) - (48 : Int32)))) 0 2 5 ((D.1 0 2 5) + (1 : Int32))) h)
  · have h := mz_ifn hc2 h
    exact mz_Go.drop [true] (tX5_advance_223 r D h)
def fX5_advance_120 : Nat → mz_D → Option mz_D
  | 0 => fun _ => none
  | n + 1 => fun D => (if (D.1 0 2 4) ≤ (D.1 0 2 5) then (fX5_advance_223 D) else (if (D.1 0 2 6) = (1 : Int32) then (fX5_advance_147 (fX5_advance_120 n) D) else (if (D.1 0 2 6) = (2 : Int32) then (fX5_advance_147 (fX5_advance_120 n) D) else (fX5_advance_223 D))))
set_option maxHeartbeats 4000000 in
theorem tX5_advance_120 (r : mz_D) : ∀ (n : Nat) (D : mz_D), fX5_advance_120 n D = some r → mz_Go IX5_advance (none, r) 0 0 (120, [some (.inr (.inr (some (0, 2))))], [], D) := by
  intro n
  induction n with
  | zero => intro D h; have h : (none : Option mz_D) = some r := h; cases h
  | succ n ih =>
    intro D h
    rw [fX5_advance_120] at h
    refine mz_Go.run (gs := [mz_kz 0 0 2, mz_kz 0 0 2]) (st' := (if (D.1 0 2 4) ≤ (D.1 0 2 5) then (223, [some (.inr (.inr (some (0, 2))))], [], D) else (131, [some (.inr (.inr (some (0, 2))))], [], D))) bX5_advance_120 oX5_advance_120 rfl ⟨rfl, rfl, trivial⟩ ?_
    refine mz_Go.ite (fun hc1 => ?_) (fun hc1 => ?_)
    · have h := mz_ifp hc1 h
      exact mz_Go.drop [true] (tX5_advance_223 r D h)
    · have h := mz_ifn hc1 h
      refine mz_Go.run (gs := [mz_kz 0 0 2]) (st' := (if (D.1 0 2 6) = (1 : Int32) then (147, [some (.inr (.inr (some (0, 2))))], [], D) else (139, [some (.inr (.inr (some (0, 2))))], [], D))) bX5_advance_131 oX5_advance_131 rfl ⟨rfl, trivial⟩ ?_
      refine mz_Go.ite (fun hc2 => ?_) (fun hc2 => ?_)
      · have h := mz_ifp hc2 h
        exact mz_Go.drop [true] (tX5_advance_147 r (fX5_advance_120 n) ih D h)
      · have h := mz_ifn hc2 h
        refine mz_Go.run (gs := [mz_kz 0 0 2]) (st' := (if (D.1 0 2 6) = (2 : Int32) then (147, [some (.inr (.inr (some (0, 2))))], [], D) else (223, [some (.inr (.inr (some (0, 2))))], [], D))) bX5_advance_139 oX5_advance_139 rfl ⟨rfl, trivial⟩ ?_
        refine mz_Go.ite (fun hc3 => ?_) (fun hc3 => ?_)
        · have h := mz_ifp hc3 h
          exact mz_Go.drop [true] (tX5_advance_147 r (fX5_advance_120 n) ih D h)
        · have h := mz_ifn hc3 h
          exact mz_Go.drop [true] (tX5_advance_223 r D h)
def fX5_advance_86 (s0 : Int32) (D : mz_D) : Option mz_D := (if s0 = (3 : Int32) then (mz_gd (mz_ix (D.1 0 2 5) 900) (fX5_advance_120 mz_N (mz_wi (mz_wi (mz_wi D 0 2 6 s0) 0 2 8 (D.1 0 1 ((D.1 0 2 5)).toNatClampNeg)) 0 2 5 ((D.1 0 2 5) + (1 : Int32))))) else (fX5_advance_120 mz_N (mz_wi D 0 2 6 s0)))
set_option maxHeartbeats 4000000 in
theorem tX5_advance_86 (r : mz_D) : ∀ (s0 : Int32) (D : mz_D), fX5_advance_86 s0 D = some r → mz_Go IX5_advance (none, r) 0 0 (86, [some (.inr (.inr (some (0, 2))))], [.inl s0, .inr (.inr (some (0, 2)))], D) := by
  intro s0 D h
  rw [fX5_advance_86] at h
  refine mz_Go.run (gs := [mz_kz 0 0 2, mz_kz 0 0 2]) (st' := (if s0 = (3 : Int32) then (97, [some (.inr (.inr (some (0, 2))))], [], (mz_wi D 0 2 6 s0)) else (120, [some (.inr (.inr (some (0, 2))))], [], (mz_wi D 0 2 6 s0)))) bX5_advance_86 oX5_advance_86 rfl ⟨rfl, rfl, trivial⟩ ?_
  refine mz_Go.ite (fun hc1 => ?_) (fun hc1 => ?_)
  · have h := mz_ifp hc1 h
    obtain ⟨hb2, h⟩ := mz_gd_some h
    refine mz_Go.run (gs := [mz_kz 0 0 2, mz_kz 0 0 2, mz_kz 0 0 1, mz_ix (D.1 0 2 5) 900, mz_kz 0 0 2, mz_kz 0 0 2, mz_kz 0 0 2]) (st' := (120, [some (.inr (.inr (some (0, 2))))], [], (mz_wi (mz_wi (mz_wi D 0 2 6 s0) 0 2 8 (D.1 0 1 ((D.1 0 2 5)).toNatClampNeg)) 0 2 5 ((D.1 0 2 5) + (1 : Int32))))) bX5_advance_97 oX5_advance_97 rfl ⟨rfl, rfl, rfl, hb2, rfl, rfl, rfl, trivial⟩ ?_
    exact mz_Go.drop [true] (tX5_advance_120 r mz_N (mz_wi (mz_wi (mz_wi D 0 2 6 s0) 0 2 8 (D.1 0 1 ((D.1 0 2 5)).toNatClampNeg)) 0 2 5 ((D.1 0 2 5) + (1 : Int32))) h)
  · have h := mz_ifn hc1 h
    exact mz_Go.drop [true] (tX5_advance_120 r mz_N (mz_wi D 0 2 6 s0) h)
def fX5_advance_40 (D : mz_D) : Option mz_D := (if (D.1 0 2 4) ≤ (D.1 0 2 5) then (fX5_advance_86 (0 : Int32) (mz_wi (mz_wg (mz_wi D 0 2 7 (D.1 0 2 5)) 0 2 9 (0 : Int64)) 0 2 8 (0 : Int32))) else (mz_gd (mz_ix (D.1 0 2 5) 900) (fX5_advance_86 (fX5_sortOf (D.1 0 1 ((D.1 0 2 5)).toNatClampNeg)) (mz_wi (mz_wg (mz_wi D 0 2 7 (D.1 0 2 5)) 0 2 9 (0 : Int64)) 0 2 8 (0 : Int32)))))
set_option maxHeartbeats 4000000 in
theorem tX5_advance_40 (r : mz_D) : ∀ (D : mz_D), fX5_advance_40 D = some r → mz_Go IX5_advance (none, r) 0 0 (40, [some (.inr (.inr (some (0, 2))))], [], D) := by
  intro D h
  rw [fX5_advance_40] at h
  refine mz_Go.run (gs := [mz_kz 0 0 2, mz_kz 0 0 2, mz_kz 0 0 2, mz_kz 0 0 2, mz_kz 0 0 2, mz_kz 0 0 2]) (st' := (if (D.1 0 2 4) ≤ (D.1 0 2 5) then (85, [some (.inr (.inr (some (0, 2))))], [.inr (.inr (some (0, 2)))], (mz_wi (mz_wg (mz_wi D 0 2 7 (D.1 0 2 5)) 0 2 9 (0 : Int64)) 0 2 8 (0 : Int32))) else (70, [some (.inr (.inr (some (0, 2))))], [.inr (.inr (some (0, 2)))], (mz_wi (mz_wg (mz_wi D 0 2 7 (D.1 0 2 5)) 0 2 9 (0 : Int64)) 0 2 8 (0 : Int32))))) bX5_advance_40 oX5_advance_40 rfl ⟨rfl, rfl, rfl, rfl, rfl, rfl, trivial⟩ ?_
  refine mz_Go.ite (fun hc1 => ?_) (fun hc1 => ?_)
  · have h := mz_ifp hc1 h
    refine mz_Go.run (gs := []) (st' := (86, [some (.inr (.inr (some (0, 2))))], [.inl (0 : Int32), .inr (.inr (some (0, 2)))], (mz_wi (mz_wg (mz_wi D 0 2 7 (D.1 0 2 5)) 0 2 9 (0 : Int64)) 0 2 8 (0 : Int32)))) bX5_advance_85 oX5_advance_85 rfl trivial ?_
    exact mz_Go.drop [true] (tX5_advance_86 r (0 : Int32) (mz_wi (mz_wg (mz_wi D 0 2 7 (D.1 0 2 5)) 0 2 9 (0 : Int64)) 0 2 8 (0 : Int32)) h)
  · have h := mz_ifn hc1 h
    obtain ⟨hb2, h⟩ := mz_gd_some h
    refine mz_Go.run (gs := [mz_kz 0 0 2, mz_kz 0 0 2, mz_kz 0 0 1, mz_ix (D.1 0 2 5) 900]) (st' := (79, [some (.inr (.inr (some (0, 2))))], [.inl (D.1 0 1 ((D.1 0 2 5)).toNatClampNeg), .inr (.inr (some (0, 2)))], (mz_wi (mz_wg (mz_wi D 0 2 7 (D.1 0 2 5)) 0 2 9 (0 : Int64)) 0 2 8 (0 : Int32)))) bX5_advance_70 oX5_advance_70 rfl ⟨rfl, rfl, rfl, hb2, trivial⟩ ?_
    refine mz_Go.callS (I := IX5_advance) (J := IX5_sortOf) (as := [.inl (D.1 0 1 ((D.1 0 2 5)).toNatClampNeg)]) (idx := 94) (pl := 745) (rest := [.inr (.inr (some (0, 2)))]) (mX5_sortOf (D.1 0 1 ((D.1 0 2 5)).toNatClampNeg) (mz_wi (mz_wg (mz_wi D 0 2 7 (D.1 0 2 5)) 0 2 9 (0 : Int64)) 0 2 8 (0 : Int32)) _ rfl) kX5_sortOf vX5_sortOf (by decide +kernel) (by decide +kernel) (by decide +kernel) rfl rfl ⟨rfl, rfl⟩ rfl ?_
    refine mz_Go.run (gs := []) (st' := (86, [some (.inr (.inr (some (0, 2))))], [.inl (fX5_sortOf (D.1 0 1 ((D.1 0 2 5)).toNatClampNeg)), .inr (.inr (some (0, 2)))], (mz_wi (mz_wg (mz_wi D 0 2 7 (D.1 0 2 5)) 0 2 9 (0 : Int64)) 0 2 8 (0 : Int32)))) bX5_advance_82 oX5_advance_82 rfl trivial ?_
    exact mz_Go.drop [true] (tX5_advance_86 r (fX5_sortOf (D.1 0 1 ((D.1 0 2 5)).toNatClampNeg)) (mz_wi (mz_wg (mz_wi D 0 2 7 (D.1 0 2 5)) 0 2 9 (0 : Int64)) 0 2 8 (0 : Int32)) h)
def fX5_advance_0 : Nat → mz_D → Option mz_D
  | 0 => fun _ => none
  | n + 1 => fun D => (if (D.1 0 2 4) ≤ (D.1 0 2 5) then (fX5_advance_40 D) else (mz_gd (mz_ix (D.1 0 2 5) 900) (if (fX5_sortOf (D.1 0 1 ((D.1 0 2 5)).toNatClampNeg)) = (5 : Int32) then ((fX5_advance_0 n) (mz_wi D 0 2 5 ((D.1 0 2 5) + (1 : Int32)))) else (fX5_advance_40 D))))
set_option maxHeartbeats 4000000 in
theorem tX5_advance_0 (r : mz_D) : ∀ (n : Nat) (D : mz_D), fX5_advance_0 n D = some r → mz_Go IX5_advance (none, r) 0 0 (0, [some (.inr (.inr (some (0, 2))))], [], D) := by
  intro n
  induction n with
  | zero => intro D h; have h : (none : Option mz_D) = some r := h; cases h
  | succ n ih =>
    intro D h
    rw [fX5_advance_0] at h
    refine mz_Go.run (gs := [mz_kz 0 0 2, mz_kz 0 0 2]) (st' := (if (D.1 0 2 4) ≤ (D.1 0 2 5) then (40, [some (.inr (.inr (some (0, 2))))], [], D) else (11, [some (.inr (.inr (some (0, 2))))], [], D))) bX5_advance_0 oX5_advance_0 rfl ⟨rfl, rfl, trivial⟩ ?_
    refine mz_Go.ite (fun hc1 => ?_) (fun hc1 => ?_)
    · have h := mz_ifp hc1 h
      exact mz_Go.drop [true] (tX5_advance_40 r D h)
    · have h := mz_ifn hc1 h
      obtain ⟨hb2, h⟩ := mz_gd_some h
      refine mz_Go.run (gs := [mz_kz 0 0 2, mz_kz 0 0 2, mz_kz 0 0 1, mz_ix (D.1 0 2 5) 900]) (st' := (20, [some (.inr (.inr (some (0, 2))))], [.inl (D.1 0 1 ((D.1 0 2 5)).toNatClampNeg)], D)) bX5_advance_11 oX5_advance_11 rfl ⟨rfl, rfl, rfl, hb2, trivial⟩ ?_
      refine mz_Go.callS (I := IX5_advance) (J := IX5_sortOf) (as := [.inl (D.1 0 1 ((D.1 0 2 5)).toNatClampNeg)]) (idx := 94) (pl := 745) (rest := []) (mX5_sortOf (D.1 0 1 ((D.1 0 2 5)).toNatClampNeg) D _ rfl) kX5_sortOf vX5_sortOf (by decide +kernel) (by decide +kernel) (by decide +kernel) rfl rfl ⟨rfl, rfl⟩ rfl ?_
      refine mz_Go.run (gs := []) (st' := (if (fX5_sortOf (D.1 0 1 ((D.1 0 2 5)).toNatClampNeg)) = (5 : Int32) then (27, [some (.inr (.inr (some (0, 2))))], [], D) else (40, [some (.inr (.inr (some (0, 2))))], [], D))) bX5_advance_23 oX5_advance_23 rfl trivial ?_
      refine mz_Go.ite (fun hc3 => ?_) (fun hc3 => ?_)
      · have h := mz_ifp hc3 h
        refine mz_Go.run (gs := [mz_kz 0 0 2, mz_kz 0 0 2]) (st' := (0, [some (.inr (.inr (some (0, 2))))], [], (mz_wi D 0 2 5 ((D.1 0 2 5) + (1 : Int32))))) bX5_advance_27 oX5_advance_27 rfl ⟨rfl, rfl, trivial⟩ ?_
        exact mz_Go.drop [true] (ih (mz_wi D 0 2 5 ((D.1 0 2 5) + (1 : Int32))) h)
      · have h := mz_ifn hc3 h
        exact mz_Go.drop [true] (tX5_advance_40 r D h)
def fX5_advance (D : mz_D) : Option mz_D := (fX5_advance_0 mz_N D)
set_option maxHeartbeats 4000000 in
theorem mX5_advance (D : mz_D) (r : mz_D) (h : fX5_advance D = some r) : mz_Met IX5_advance [.inr (.inr (some (0, 2)))] D (none, r) := by
  refine mz_Met.of (by decide +kernel) (Nat.le_of_ble_eq_true rfl) ?_
  show mz_Go IX5_advance (none, r) 0 0 (0, [some (.inr (.inr (some (0, 2))))], [], D)
  rw [fX5_advance] at h
  exact mz_Go.drop [true] (tX5_advance_0 r mz_N D h)
def bX5_open_0 : List mz_E := [(0, .aload_n 0, 0, 0, 0, 0, 0), (1, .iload_n 1, 0, 0, 0, 0, 0), (2, .aload_n 0, 0, 0, 0, 0, 0), (3, .getfield 15, 5, 3, 221, 0, 0), (6, .arraylength, 0, 0, 0, 0, 0)]
theorem oX5_open_0 : bX5_open_0.all (mz_ok RX5 cX5_open 2) = true := by decide +kernel
def bX5_open_10 : List mz_E := [(10, .putfield 41, 5, 4, 222, 0, 0), (13, .aload_n 0, 0, 0, 0, 0, 0), (14, .iconst 0, 0, 0, 0, 0, 0), (15, .putfield 44, 5, 5, 223, 0, 0), (18, .aload_n 0, 0, 0, 0, 0, 0), (19, .iconst 0, 0, 0, 0, 0, 0), (20, .putfield 47, 5, 0, 214, 0, 0), (23, .aload_n 0, 0, 0, 0, 0, 0), (24, .iconst (-1), 0, 0, 0, -1, 0), (25, .putfield 50, 5, 1, 216, 0, 0), (28, .aload_n 0, 0, 0, 0, 0, 0)]
theorem oX5_open_10 : bX5_open_10.all (mz_ok RX5 cX5_open 2) = true := by decide +kernel
abbrev IX5_open : mz_I := (yX5_open, cX5_open, 2, none, 0, 2, 0, 0)
theorem kX5_open : mz_okm IX5_open 737 127 735 1 = true := by decide +kernel
theorem vX5_open : mz_okV IX5_open 735 736 = true := by decide +kernel
def fX5_open (x1 : Int32) (D : mz_D) : Option mz_D := (Option.bind (fX5_advance (mz_wi (mz_wi (mz_wi (mz_wi D 0 2 4 (fJ9_min_7cf53 x1 (Int32.ofNat 900))) 0 2 5 (0 : Int32)) 0 2 0 (0 : Int32)) 0 2 1 (-1 : Int32))) fun q1 => (some q1))
set_option maxHeartbeats 4000000 in
theorem mX5_open (x1 : Int32) (D : mz_D) (r : mz_D) (h : fX5_open x1 D = some r) : mz_Met IX5_open [.inr (.inr (some (0, 2))), .inl x1] D (none, r) := by
  refine mz_Met.of (by decide +kernel) (Nat.le_of_ble_eq_true rfl) ?_
  show mz_Go IX5_open (none, r) 0 0 (0, [some (.inr (.inr (some (0, 2)))), some (.inl x1)], [], D)
  rw [fX5_open] at h
  refine mz_Go.run (gs := [mz_kz 0 0 2, mz_kz 0 0 1]) (st' := (7, [some (.inr (.inr (some (0, 2)))), some (.inl x1)], [.inl (Int32.ofNat 900), .inl x1, .inr (.inr (some (0, 2)))], D)) bX5_open_0 oX5_open_0 rfl ⟨rfl, rfl, trivial⟩ ?_
  refine mz_Go.callS (I := IX5_open) (J := IJ9_min_7cf53) (as := [.inl x1, .inl (Int32.ofNat 900)]) (idx := 35) (pl := 738) (rest := [.inr (.inr (some (0, 2)))]) (mJ9_min_7cf53 x1 (Int32.ofNat 900) D _ rfl) kJ9_min_7cf53 vJ9_min_7cf53 (by decide +kernel) (by decide +kernel) (by decide +kernel) rfl rfl ⟨rfl, rfl⟩ rfl ?_
  refine mz_Go.run (gs := [mz_kz 0 0 2, mz_kz 0 0 2, mz_kz 0 0 2, mz_kz 0 0 2]) (st' := (29, [some (.inr (.inr (some (0, 2)))), some (.inl x1)], [.inr (.inr (some (0, 2)))], (mz_wi (mz_wi (mz_wi (mz_wi D 0 2 4 (fJ9_min_7cf53 x1 (Int32.ofNat 900))) 0 2 5 (0 : Int32)) 0 2 0 (0 : Int32)) 0 2 1 (-1 : Int32)))) bX5_open_10 oX5_open_10 rfl ⟨rfl, rfl, rfl, rfl, trivial⟩ ?_
  obtain ⟨q1, hq1, h⟩ := mz_bd_some h
  refine mz_Go.callV (I := IX5_open) (J := IX5_advance) (as := []) (ci := 5) (g := 0) (o := 2) (idx := 53) (pl := 741) (rest := []) (mX5_advance (mz_wi (mz_wi (mz_wi (mz_wi D 0 2 4 (fJ9_min_7cf53 x1 (Int32.ofNat 900))) 0 2 5 (0 : Int32)) 0 2 0 (0 : Int32)) 0 2 1 (-1 : Int32)) q1 hq1) kX5_advance vX5_advance (by decide +kernel) (by decide +kernel) (by decide +kernel) rfl rfl ⟨rfl, rfl⟩ rfl rfl rfl rfl ?_
  cases h
  exact mz_Go.retv (by decide +kernel) rfl ⟨Nat.le_refl _, Nat.le_refl _⟩ rfl
def bX5_isOver_0 : List mz_E := [(0, .aload_n 0, 0, 0, 0, 0, 0), (1, .getfield 56, 5, 6, 224, 0, 0), (4, .ifCond .ne 7, 0, 11, 0, 0, 0)]
theorem oX5_isOver_0 : bX5_isOver_0.all (mz_ok RX5 cX5_isOver 1) = true := by decide +kernel
def bX5_isOver_7 : List mz_E := [(7, .iconst 1, 0, 0, 0, 1, 0), (8, .goto 4, 0, 12, 0, 0, 0)]
theorem oX5_isOver_7 : bX5_isOver_7.all (mz_ok RX5 cX5_isOver 1) = true := by decide +kernel
def bX5_isOver_11 : List mz_E := [(11, .iconst 0, 0, 0, 0, 0, 0)]
theorem oX5_isOver_11 : bX5_isOver_11.all (mz_ok RX5 cX5_isOver 1) = true := by decide +kernel
abbrev IX5_isOver : mz_I := (yX5_isOver, cX5_isOver, 1, (some .boolean), 0, 0, 0, 0)
theorem kX5_isOver : mz_okm IX5_isOver 778 127 776 0 = true := by decide +kernel
theorem vX5_isOver : mz_okV IX5_isOver 776 777 = true := by decide +kernel
def fX5_isOver (D : mz_D) : Int32 := (if (D.1 0 2 6) = 0 then (1 : Int32) else (0 : Int32))
set_option maxHeartbeats 4000000 in
theorem mX5_isOver (D : mz_D) (r : Int32) (h : fX5_isOver D = r) : mz_Met IX5_isOver [.inr (.inr (some (0, 2)))] D (some (.inl r), D) := by
  refine mz_Met.of (by decide +kernel) (Nat.le_of_ble_eq_true rfl) ?_
  show mz_Go IX5_isOver (some (.inl r), D) 0 0 (0, [some (.inr (.inr (some (0, 2))))], [], D)
  rw [fX5_isOver] at h
  refine mz_Go.run (gs := [mz_kz 0 0 2]) (st' := (if (D.1 0 2 6) = 0 then (7, [some (.inr (.inr (some (0, 2))))], [], D) else (11, [some (.inr (.inr (some (0, 2))))], [], D))) bX5_isOver_0 oX5_isOver_0 rfl ⟨rfl, trivial⟩ ?_
  refine mz_Go.ite (fun hc1 => ?_) (fun hc1 => ?_)
  · have h := mz_ifp hc1 h
    refine mz_Go.run (gs := []) (st' := (12, [some (.inr (.inr (some (0, 2))))], [.inl (1 : Int32)], D)) bX5_isOver_7 oX5_isOver_7 rfl trivial ?_
    subst h
    exact mz_Go.retz (by decide +kernel) rfl ⟨Nat.le_refl _, Nat.le_refl _⟩ (by decide) rfl
  · have h := mz_ifn hc1 h
    refine mz_Go.run (gs := []) (st' := (12, [some (.inr (.inr (some (0, 2))))], [.inl (0 : Int32)], D)) bX5_isOver_11 oX5_isOver_11 rfl trivial ?_
    subst h
    exact mz_Go.retz (by decide +kernel) rfl ⟨Nat.le_refl _, Nat.le_refl _⟩ (by decide) rfl
def bX5_isSign_0 : List mz_E := [(0, .aload_n 0, 0, 0, 0, 0, 0), (1, .getfield 56, 5, 6, 224, 0, 0), (4, .iconst 3, 0, 0, 0, 3, 0), (5, .if_icmp .ne 15, 0, 20, 0, 0, 0)]
theorem oX5_isSign_0 : bX5_isSign_0.all (mz_ok RX5 cX5_isSign 2) = true := by decide +kernel
def bX5_isSign_8 : List mz_E := [(8, .aload_n 0, 0, 0, 0, 0, 0), (9, .getfield 59, 5, 8, 226, 0, 0), (12, .iload_n 1, 0, 0, 0, 0, 0), (13, .if_icmp .ne 7, 0, 20, 0, 0, 0)]
theorem oX5_isSign_8 : bX5_isSign_8.all (mz_ok RX5 cX5_isSign 2) = true := by decide +kernel
def bX5_isSign_16 : List mz_E := [(16, .iconst 1, 0, 0, 0, 1, 0), (17, .goto 4, 0, 21, 0, 0, 0)]
theorem oX5_isSign_16 : bX5_isSign_16.all (mz_ok RX5 cX5_isSign 2) = true := by decide +kernel
def bX5_isSign_20 : List mz_E := [(20, .iconst 0, 0, 0, 0, 0, 0)]
theorem oX5_isSign_20 : bX5_isSign_20.all (mz_ok RX5 cX5_isSign 2) = true := by decide +kernel
abbrev IX5_isSign : mz_I := (yX5_isSign, cX5_isSign, 2, (some .boolean), 0, 0, 0, 0)
theorem kX5_isSign : mz_okm IX5_isSign 871 127 869 1 = true := by decide +kernel
theorem vX5_isSign : mz_okV IX5_isSign 869 870 = true := by decide +kernel
def fX5_isSign (x1 : Int32) (D : mz_D) : Int32 := (if (D.1 0 2 6) = (3 : Int32) then (if (D.1 0 2 8) = x1 then (1 : Int32) else (0 : Int32)) else (0 : Int32))
set_option maxHeartbeats 4000000 in
theorem mX5_isSign (x1 : Int32) (D : mz_D) (r : Int32) (h : fX5_isSign x1 D = r) : mz_Met IX5_isSign [.inr (.inr (some (0, 2))), .inl x1] D (some (.inl r), D) := by
  refine mz_Met.of (by decide +kernel) (Nat.le_of_ble_eq_true rfl) ?_
  show mz_Go IX5_isSign (some (.inl r), D) 0 0 (0, [some (.inr (.inr (some (0, 2)))), some (.inl x1)], [], D)
  rw [fX5_isSign] at h
  refine mz_Go.run (gs := [mz_kz 0 0 2]) (st' := (if (D.1 0 2 6) = (3 : Int32) then (8, [some (.inr (.inr (some (0, 2)))), some (.inl x1)], [], D) else (20, [some (.inr (.inr (some (0, 2)))), some (.inl x1)], [], D))) bX5_isSign_0 oX5_isSign_0 rfl ⟨rfl, trivial⟩ ?_
  refine mz_Go.ite (fun hc1 => ?_) (fun hc1 => ?_)
  · have h := mz_ifp hc1 h
    refine mz_Go.run (gs := [mz_kz 0 0 2]) (st' := (if (D.1 0 2 8) = x1 then (16, [some (.inr (.inr (some (0, 2)))), some (.inl x1)], [], D) else (20, [some (.inr (.inr (some (0, 2)))), some (.inl x1)], [], D))) bX5_isSign_8 oX5_isSign_8 rfl ⟨rfl, trivial⟩ ?_
    refine mz_Go.ite (fun hc2 => ?_) (fun hc2 => ?_)
    · have h := mz_ifp hc2 h
      refine mz_Go.run (gs := []) (st' := (21, [some (.inr (.inr (some (0, 2)))), some (.inl x1)], [.inl (1 : Int32)], D)) bX5_isSign_16 oX5_isSign_16 rfl trivial ?_
      subst h
      exact mz_Go.retz (by decide +kernel) rfl ⟨Nat.le_refl _, Nat.le_refl _⟩ (by decide) rfl
    · have h := mz_ifn hc2 h
      refine mz_Go.run (gs := []) (st' := (21, [some (.inr (.inr (some (0, 2)))), some (.inl x1)], [.inl (0 : Int32)], D)) bX5_isSign_20 oX5_isSign_20 rfl trivial ?_
      subst h
      exact mz_Go.retz (by decide +kernel) rfl ⟨Nat.le_refl _, Nat.le_refl _⟩ (by decide) rfl
  · have h := mz_ifn hc1 h
    refine mz_Go.run (gs := []) (st' := (21, [some (.inr (.inr (some (0, 2)))), some (.inl x1)], [.inl (0 : Int32)], D)) bX5_isSign_20 oX5_isSign_20 rfl trivial ?_
    subst h
    exact mz_Go.retz (by decide +kernel) rfl ⟨Nat.le_refl _, Nat.le_refl _⟩ (by decide) rfl
def bX5_isName_0 : List mz_E := [(0, .aload_n 0, 0, 0, 0, 0, 0), (1, .getfield 56, 5, 6, 224, 0, 0), (4, .iconst 1, 0, 0, 0, 1, 0), (5, .if_icmp .ne 29, 0, 34, 0, 0, 0)]
theorem oX5_isName_0 : bX5_isName_0.all (mz_ok RX5 cX5_isName 1) = true := by decide +kernel
def bX5_isName_8 : List mz_E := [(8, .aload_n 0, 0, 0, 0, 0, 0), (9, .getfield 62, 5, 2, 220, 0, 0), (12, .iconst (-1), 0, 0, 0, -1, 0), (13, .if_icmp .ne 21, 0, 34, 0, 0, 0)]
theorem oX5_isName_8 : bX5_isName_8.all (mz_ok RX5 cX5_isName 1) = true := by decide +kernel
def bX5_isName_16 : List mz_E := [(16, .aload_n 0, 0, 0, 0, 0, 0), (17, .getfield 44, 5, 5, 223, 0, 0), (20, .aload_n 0, 0, 0, 0, 0, 0), (21, .getfield 65, 5, 7, 225, 0, 0), (24, .isub, 0, 0, 0, 0, 0), (25, .bipush 8, 0, 0, 0, 8, 0), (27, .if_icmp .gt 7, 0, 34, 0, 0, 0)]
theorem oX5_isName_16 : bX5_isName_16.all (mz_ok RX5 cX5_isName 1) = true := by decide +kernel
def bX5_isName_34 : List mz_E := [(34, .iconst 0, 0, 0, 0, 0, 0)]
theorem oX5_isName_34 : bX5_isName_34.all (mz_ok RX5 cX5_isName 1) = true := by decide +kernel
def bX5_isName_30 : List mz_E := [(30, .iconst 1, 0, 0, 0, 1, 0), (31, .goto 4, 0, 35, 0, 0, 0)]
theorem oX5_isName_30 : bX5_isName_30.all (mz_ok RX5 cX5_isName 1) = true := by decide +kernel
abbrev IX5_isName : mz_I := (yX5_isName, cX5_isName, 1, (some .boolean), 0, 0, 0, 0)
theorem kX5_isName : mz_okm IX5_isName 791 127 789 0 = true := by decide +kernel
theorem vX5_isName : mz_okV IX5_isName 789 790 = true := by decide +kernel
def fX5_isName (D : mz_D) : Int32 := (if (D.1 0 2 6) = (1 : Int32) then (if (D.1 0 2 2) = (-1 : Int32) then (if (8 : Int32) < ((D.1 0 2 5) - (D.1 0 2 7)) then (0 : Int32) else (1 : Int32)) else (0 : Int32)) else (0 : Int32))
set_option maxHeartbeats 4000000 in
theorem mX5_isName (D : mz_D) (r : Int32) (h : fX5_isName D = r) : mz_Met IX5_isName [.inr (.inr (some (0, 2)))] D (some (.inl r), D) := by
  refine mz_Met.of (by decide +kernel) (Nat.le_of_ble_eq_true rfl) ?_
  show mz_Go IX5_isName (some (.inl r), D) 0 0 (0, [some (.inr (.inr (some (0, 2))))], [], D)
  rw [fX5_isName] at h
  refine mz_Go.run (gs := [mz_kz 0 0 2]) (st' := (if (D.1 0 2 6) = (1 : Int32) then (8, [some (.inr (.inr (some (0, 2))))], [], D) else (34, [some (.inr (.inr (some (0, 2))))], [], D))) bX5_isName_0 oX5_isName_0 rfl ⟨rfl, trivial⟩ ?_
  refine mz_Go.ite (fun hc1 => ?_) (fun hc1 => ?_)
  · have h := mz_ifp hc1 h
    refine mz_Go.run (gs := [mz_kz 0 0 2]) (st' := (if (D.1 0 2 2) = (-1 : Int32) then (16, [some (.inr (.inr (some (0, 2))))], [], D) else (34, [some (.inr (.inr (some (0, 2))))], [], D))) bX5_isName_8 oX5_isName_8 rfl ⟨rfl, trivial⟩ ?_
    refine mz_Go.ite (fun hc2 => ?_) (fun hc2 => ?_)
    · have h := mz_ifp hc2 h
      refine mz_Go.run (gs := [mz_kz 0 0 2, mz_kz 0 0 2]) (st' := (if (8 : Int32) < ((D.1 0 2 5) - (D.1 0 2 7)) then (34, [some (.inr (.inr (some (0, 2))))], [], D) else (30, [some (.inr (.inr (some (0, 2))))], [], D))) bX5_isName_16 oX5_isName_16 rfl ⟨rfl, rfl, trivial⟩ ?_
      refine mz_Go.ite (fun hc3 => ?_) (fun hc3 => ?_)
      · have h := mz_ifp hc3 h
        refine mz_Go.run (gs := []) (st' := (35, [some (.inr (.inr (some (0, 2))))], [.inl (0 : Int32)], D)) bX5_isName_34 oX5_isName_34 rfl trivial ?_
        subst h
        exact mz_Go.retz (by decide +kernel) rfl ⟨Nat.le_refl _, Nat.le_refl _⟩ (by decide) rfl
      · have h := mz_ifn hc3 h
        refine mz_Go.run (gs := []) (st' := (35, [some (.inr (.inr (some (0, 2))))], [.inl (1 : Int32)], D)) bX5_isName_30 oX5_isName_30 rfl trivial ?_
        subst h
        exact mz_Go.retz (by decide +kernel) rfl ⟨Nat.le_refl _, Nat.le_refl _⟩ (by decide) rfl
    · have h := mz_ifn hc2 h
      refine mz_Go.run (gs := []) (st' := (35, [some (.inr (.inr (some (0, 2))))], [.inl (0 : Int32)], D)) bX5_isName_34 oX5_isName_34 rfl trivial ?_
      subst h
      exact mz_Go.retz (by decide +kernel) rfl ⟨Nat.le_refl _, Nat.le_refl _⟩ (by decide) rfl
  · have h := mz_ifn hc1 h
    refine mz_Go.run (gs := []) (st' := (35, [some (.inr (.inr (some (0, 2))))], [.inl (0 : Int32)], D)) bX5_isName_34 oX5_isName_34 rfl trivial ?_
    subst h
    exact mz_Go.retz (by decide +kernel) rfl ⟨Nat.le_refl _, Nat.le_refl _⟩ (by decide) rfl
def bX5_nameHere_0 : List mz_E := [(0, .aload_n 0, 0, 0, 0, 0, 0), (1, .getfield 68, 5, 9, 227, 0, 0)]
theorem oX5_nameHere_0 : bX5_nameHere_0.all (mz_ok RX5 cX5_nameHere 1) = true := by decide +kernel
abbrev IX5_nameHere : mz_I := (yX5_nameHere, cX5_nameHere, 1, (some .long), 0, 0, 0, 0)
theorem kX5_nameHere : mz_okm IX5_nameHere 795 127 793 0 = true := by decide +kernel
theorem vX5_nameHere : mz_okV IX5_nameHere 793 794 = true := by decide +kernel
theorem mX5_nameHere (D : mz_D) : mz_Met IX5_nameHere [.inr (.inr (some (0, 2)))] D (some (.inr (.inl (D.2 0 2 9))), D) := by
  refine mz_Met.of (by decide +kernel) (Nat.le_of_ble_eq_true rfl) ?_
  show mz_Go IX5_nameHere (some (.inr (.inl (D.2 0 2 9))), D) 0 0 (0, [some (.inr (.inr (some (0, 2))))], [], D)
  refine mz_Go.run (gs := [mz_kz 0 0 2]) (st' := (4, [some (.inr (.inr (some (0, 2))))], [.inr (.inl (D.2 0 2 9))], D)) bX5_nameHere_0 oX5_nameHere_0 rfl ⟨rfl, trivial⟩ ?_
  exact mz_Go.retl (by decide +kernel) rfl ⟨Nat.le_refl _, Nat.le_refl _⟩ rfl
def bX5_signHere_0 : List mz_E := [(0, .aload_n 0, 0, 0, 0, 0, 0), (1, .getfield 56, 5, 6, 224, 0, 0), (4, .iconst 3, 0, 0, 0, 3, 0), (5, .if_icmp .ne 10, 0, 15, 0, 0, 0)]
theorem oX5_signHere_0 : bX5_signHere_0.all (mz_ok RX5 cX5_signHere 1) = true := by decide +kernel
def bX5_signHere_8 : List mz_E := [(8, .aload_n 0, 0, 0, 0, 0, 0), (9, .getfield 59, 5, 8, 226, 0, 0), (12, .goto 4, 0, 16, 0, 0, 0)]
theorem oX5_signHere_8 : bX5_signHere_8.all (mz_ok RX5 cX5_signHere 1) = true := by decide +kernel
def bX5_signHere_15 : List mz_E := [(15, .iconst 0, 0, 0, 0, 0, 0)]
theorem oX5_signHere_15 : bX5_signHere_15.all (mz_ok RX5 cX5_signHere 1) = true := by decide +kernel
abbrev IX5_signHere : mz_I := (yX5_signHere, cX5_signHere, 1, (some .int), 0, 0, 0, 0)
theorem kX5_signHere : mz_okm IX5_signHere 995 127 993 0 = true := by decide +kernel
theorem vX5_signHere : mz_okV IX5_signHere 993 994 = true := by decide +kernel
def fX5_signHere (D : mz_D) : Int32 := (if (D.1 0 2 6) = (3 : Int32) then (D.1 0 2 8) else (0 : Int32))
set_option maxHeartbeats 4000000 in
theorem mX5_signHere (D : mz_D) (r : Int32) (h : fX5_signHere D = r) : mz_Met IX5_signHere [.inr (.inr (some (0, 2)))] D (some (.inl r), D) := by
  refine mz_Met.of (by decide +kernel) (Nat.le_of_ble_eq_true rfl) ?_
  show mz_Go IX5_signHere (some (.inl r), D) 0 0 (0, [some (.inr (.inr (some (0, 2))))], [], D)
  rw [fX5_signHere] at h
  refine mz_Go.run (gs := [mz_kz 0 0 2]) (st' := (if (D.1 0 2 6) = (3 : Int32) then (8, [some (.inr (.inr (some (0, 2))))], [], D) else (15, [some (.inr (.inr (some (0, 2))))], [], D))) bX5_signHere_0 oX5_signHere_0 rfl ⟨rfl, trivial⟩ ?_
  refine mz_Go.ite (fun hc1 => ?_) (fun hc1 => ?_)
  · have h := mz_ifp hc1 h
    refine mz_Go.run (gs := [mz_kz 0 0 2]) (st' := (16, [some (.inr (.inr (some (0, 2))))], [.inl (D.1 0 2 8)], D)) bX5_signHere_8 oX5_signHere_8 rfl ⟨rfl, trivial⟩ ?_
    subst h
    exact mz_Go.reti (by decide +kernel) rfl ⟨Nat.le_refl _, Nat.le_refl _⟩ rfl
  · have h := mz_ifn hc1 h
    refine mz_Go.run (gs := []) (st' := (16, [some (.inr (.inr (some (0, 2))))], [.inl (0 : Int32)], D)) bX5_signHere_15 oX5_signHere_15 rfl trivial ?_
    subst h
    exact mz_Go.reti (by decide +kernel) rfl ⟨Nat.le_refl _, Nat.le_refl _⟩ rfl
def bX5_fail_0 : List mz_E := [(0, .aload_n 0, 0, 0, 0, 0, 0), (1, .aload_n 0, 0, 0, 0, 0, 0), (2, .getfield 56, 5, 6, 224, 0, 0), (5, .iconst 4, 0, 0, 0, 4, 0), (6, .if_icmp .ne 7, 0, 13, 0, 0, 0)]
theorem oX5_fail_0 : bX5_fail_0.all (mz_ok RX5 cX5_fail 2) = true := by decide +kernel
def bX5_fail_9 : List mz_E := [(9, .iconst 1, 0, 0, 0, 1, 0), (10, .goto 4, 0, 14, 0, 0, 0), (14, .putfield 47, 5, 0, 214, 0, 0), (17, .aload_n 0, 0, 0, 0, 0, 0), (18, .aload_n 0, 0, 0, 0, 0, 0), (19, .getfield 65, 5, 7, 225, 0, 0), (22, .putfield 50, 5, 1, 216, 0, 0), (25, .iconst 0, 0, 0, 0, 0, 0)]
theorem oX5_fail_9 : bX5_fail_9.all (mz_ok RX5 cX5_fail 2) = true := by decide +kernel
def bX5_fail_13 : List mz_E := [(13, .iload_n 1, 0, 0, 0, 0, 0), (14, .putfield 47, 5, 0, 214, 0, 0), (17, .aload_n 0, 0, 0, 0, 0, 0), (18, .aload_n 0, 0, 0, 0, 0, 0), (19, .getfield 65, 5, 7, 225, 0, 0), (22, .putfield 50, 5, 1, 216, 0, 0), (25, .iconst 0, 0, 0, 0, 0, 0)]
theorem oX5_fail_13 : bX5_fail_13.all (mz_ok RX5 cX5_fail 2) = true := by decide +kernel
abbrev IX5_fail : mz_I := (yX5_fail, cX5_fail, 2, (some .boolean), 0, 0, 0, 0)
theorem kX5_fail : mz_okm IX5_fail 786 127 784 1 = true := by decide +kernel
theorem vX5_fail : mz_okV IX5_fail 784 785 = true := by decide +kernel
def fX5_fail (x1 : Int32) (D : mz_D) : Option (Int32 × mz_D) := (if (D.1 0 2 6) = (4 : Int32) then (some ((0 : Int32), (mz_wi (mz_wi D 0 2 0 (1 : Int32)) 0 2 1 (D.1 0 2 7)))) else (some ((0 : Int32), (mz_wi (mz_wi D 0 2 0 x1) 0 2 1 (D.1 0 2 7)))))
set_option maxHeartbeats 4000000 in
theorem mX5_fail (x1 : Int32) (D : mz_D) (r : (Int32 × mz_D)) (h : fX5_fail x1 D = some r) : mz_Met IX5_fail [.inr (.inr (some (0, 2))), .inl x1] D (some (.inl r.1), r.2) := by
  refine mz_Met.of (by decide +kernel) (Nat.le_of_ble_eq_true rfl) ?_
  show mz_Go IX5_fail (some (.inl r.1), r.2) 0 0 (0, [some (.inr (.inr (some (0, 2)))), some (.inl x1)], [], D)
  rw [fX5_fail] at h
  refine mz_Go.run (gs := [mz_kz 0 0 2]) (st' := (if (D.1 0 2 6) = (4 : Int32) then (9, [some (.inr (.inr (some (0, 2)))), some (.inl x1)], [.inr (.inr (some (0, 2)))], D) else (13, [some (.inr (.inr (some (0, 2)))), some (.inl x1)], [.inr (.inr (some (0, 2)))], D))) bX5_fail_0 oX5_fail_0 rfl ⟨rfl, trivial⟩ ?_
  refine mz_Go.ite (fun hc1 => ?_) (fun hc1 => ?_)
  · have h := mz_ifp hc1 h
    refine mz_Go.run (gs := [mz_kz 0 0 2, mz_kz 0 0 2, mz_kz 0 0 2]) (st' := (26, [some (.inr (.inr (some (0, 2)))), some (.inl x1)], [.inl (0 : Int32)], (mz_wi (mz_wi D 0 2 0 (1 : Int32)) 0 2 1 (D.1 0 2 7)))) bX5_fail_9 oX5_fail_9 rfl ⟨rfl, rfl, rfl, trivial⟩ ?_
    cases h
    exact mz_Go.retz (by decide +kernel) rfl ⟨Nat.le_refl _, Nat.le_refl _⟩ (by decide) rfl
  · have h := mz_ifn hc1 h
    refine mz_Go.run (gs := [mz_kz 0 0 2, mz_kz 0 0 2, mz_kz 0 0 2]) (st' := (26, [some (.inr (.inr (some (0, 2)))), some (.inl x1)], [.inl (0 : Int32)], (mz_wi (mz_wi D 0 2 0 x1) 0 2 1 (D.1 0 2 7)))) bX5_fail_13 oX5_fail_13 rfl ⟨rfl, rfl, rfl, trivial⟩ ?_
    cases h
    exact mz_Go.retz (by decide +kernel) rfl ⟨Nat.le_refl _, Nat.le_refl _⟩ (by decide) rfl
def bX5_takes_0 : List mz_E := [(0, .aload_n 0, 0, 0, 0, 0, 0), (1, .getfield 62, 5, 2, 220, 0, 0), (4, .iload_n 1, 0, 0, 0, 0, 0), (5, .if_icmp .eq 9, 0, 14, 0, 0, 0)]
theorem oX5_takes_0 : bX5_takes_0.all (mz_ok RX5 cX5_takes 2) = true := by decide +kernel
def bX5_takes_14 : List mz_E := [(14, .aload_n 0, 0, 0, 0, 0, 0)]
theorem oX5_takes_14 : bX5_takes_14.all (mz_ok RX5 cX5_takes 2) = true := by decide +kernel
def bX5_takes_18 : List mz_E := [(18, .iconst 1, 0, 0, 0, 1, 0)]
theorem oX5_takes_18 : bX5_takes_18.all (mz_ok RX5 cX5_takes 2) = true := by decide +kernel
def bX5_takes_8 : List mz_E := [(8, .aload_n 0, 0, 0, 0, 0, 0), (9, .iconst 2, 0, 0, 0, 2, 0)]
theorem oX5_takes_8 : bX5_takes_8.all (mz_ok RX5 cX5_takes 2) = true := by decide +kernel
abbrev IX5_takes : mz_I := (yX5_takes, cX5_takes, 2, (some .boolean), 0, 2, 0, 0)
theorem kX5_takes : mz_okm IX5_takes 986 127 984 1 = true := by decide +kernel
theorem vX5_takes : mz_okV IX5_takes 984 985 = true := by decide +kernel
def fX5_takes (x1 : Int32) (D : mz_D) : Option (Int32 × mz_D) := (if (D.1 0 2 2) = x1 then (Option.bind (fX5_advance D) fun q2 => (some ((1 : Int32), q2))) else (Option.bind (fX5_fail (2 : Int32) D) fun q3 => (mz_gd (mz_bo q3.1) (some (q3.1, q3.2)))))
set_option maxHeartbeats 4000000 in
theorem mX5_takes (x1 : Int32) (D : mz_D) (r : (Int32 × mz_D)) (h : fX5_takes x1 D = some r) : mz_Met IX5_takes [.inr (.inr (some (0, 2))), .inl x1] D (some (.inl r.1), r.2) := by
  refine mz_Met.of (by decide +kernel) (Nat.le_of_ble_eq_true rfl) ?_
  show mz_Go IX5_takes (some (.inl r.1), r.2) 0 0 (0, [some (.inr (.inr (some (0, 2)))), some (.inl x1)], [], D)
  rw [fX5_takes] at h
  refine mz_Go.run (gs := [mz_kz 0 0 2]) (st' := (if (D.1 0 2 2) = x1 then (14, [some (.inr (.inr (some (0, 2)))), some (.inl x1)], [], D) else (8, [some (.inr (.inr (some (0, 2)))), some (.inl x1)], [], D))) bX5_takes_0 oX5_takes_0 rfl ⟨rfl, trivial⟩ ?_
  refine mz_Go.ite (fun hc1 => ?_) (fun hc1 => ?_)
  · have h := mz_ifp hc1 h
    refine mz_Go.run (gs := []) (st' := (15, [some (.inr (.inr (some (0, 2)))), some (.inl x1)], [.inr (.inr (some (0, 2)))], D)) bX5_takes_14 oX5_takes_14 rfl trivial ?_
    obtain ⟨q2, hq2, h⟩ := mz_bd_some h
    refine mz_Go.callV (I := IX5_takes) (J := IX5_advance) (as := []) (ci := 5) (g := 0) (o := 2) (idx := 53) (pl := 741) (rest := []) (mX5_advance D q2 hq2) kX5_advance vX5_advance (by decide +kernel) (by decide +kernel) (by decide +kernel) rfl rfl ⟨rfl, rfl⟩ rfl rfl rfl rfl ?_
    refine mz_Go.run (gs := []) (st' := (19, [some (.inr (.inr (some (0, 2)))), some (.inl x1)], [.inl (1 : Int32)], q2)) bX5_takes_18 oX5_takes_18 rfl trivial ?_
    cases h
    exact mz_Go.retz (by decide +kernel) rfl ⟨Nat.le_refl _, Nat.le_refl _⟩ (by decide) rfl
  · have h := mz_ifn hc1 h
    refine mz_Go.run (gs := []) (st' := (10, [some (.inr (.inr (some (0, 2)))), some (.inl x1)], [.inl (2 : Int32), .inr (.inr (some (0, 2)))], D)) bX5_takes_8 oX5_takes_8 rfl trivial ?_
    obtain ⟨q3, hq3, h⟩ := mz_bd_some h
    refine mz_Go.callV (I := IX5_takes) (J := IX5_fail) (as := [.inl (2 : Int32)]) (ci := 5) (g := 0) (o := 2) (idx := 72) (pl := 812) (rest := []) (mX5_fail (2 : Int32) D q3 hq3) kX5_fail vX5_fail (by decide +kernel) (by decide +kernel) (by decide +kernel) rfl rfl ⟨rfl, rfl⟩ rfl rfl rfl rfl ?_
    obtain ⟨hb4, h⟩ := mz_gd_some h
    cases h
    exact mz_Go.retz (by decide +kernel) rfl ⟨Nat.le_refl _, Nat.le_refl _⟩ hb4 rfl
def bX5_takesSemicolon_0 : List mz_E := [(0, .aload_n 0, 0, 0, 0, 0, 0), (1, .bipush 59, 0, 0, 0, 59, 0)]
theorem oX5_takesSemicolon_0 : bX5_takesSemicolon_0.all (mz_ok RX5 cX5_takesSemicolon 1) = true := by decide +kernel
def bX5_takesSemicolon_6 : List mz_E := [(6, .ifCond .ne 9, 0, 15, 0, 0, 0)]
theorem oX5_takesSemicolon_6 : bX5_takesSemicolon_6.all (mz_ok RX5 cX5_takesSemicolon 1) = true := by decide +kernel
def bX5_takesSemicolon_9 : List mz_E := [(9, .aload_n 0, 0, 0, 0, 0, 0), (10, .iconst 2, 0, 0, 0, 2, 0)]
theorem oX5_takesSemicolon_9 : bX5_takesSemicolon_9.all (mz_ok RX5 cX5_takesSemicolon 1) = true := by decide +kernel
def bX5_takesSemicolon_15 : List mz_E := [(15, .aload_n 0, 0, 0, 0, 0, 0)]
theorem oX5_takesSemicolon_15 : bX5_takesSemicolon_15.all (mz_ok RX5 cX5_takesSemicolon 1) = true := by decide +kernel
def bX5_takesSemicolon_19 : List mz_E := [(19, .iconst 1, 0, 0, 0, 1, 0)]
theorem oX5_takesSemicolon_19 : bX5_takesSemicolon_19.all (mz_ok RX5 cX5_takesSemicolon 1) = true := by decide +kernel
abbrev IX5_takesSemicolon : mz_I := (yX5_takesSemicolon, cX5_takesSemicolon, 1, (some .boolean), 0, 2, 0, 0)
theorem kX5_takesSemicolon : mz_okm IX5_takesSemicolon 867 127 865 0 = true := by decide +kernel
theorem vX5_takesSemicolon : mz_okV IX5_takesSemicolon 865 866 = true := by decide +kernel
def fX5_takesSemicolon (D : mz_D) : Option (Int32 × mz_D) := (if (fX5_isSign (59 : Int32) D) = 0 then (Option.bind (fX5_fail (2 : Int32) D) fun q2 => (mz_gd (mz_bo q2.1) (some (q2.1, q2.2)))) else (Option.bind (fX5_advance D) fun q4 => (some ((1 : Int32), q4))))
set_option maxHeartbeats 4000000 in
theorem mX5_takesSemicolon (D : mz_D) (r : (Int32 × mz_D)) (h : fX5_takesSemicolon D = some r) : mz_Met IX5_takesSemicolon [.inr (.inr (some (0, 2)))] D (some (.inl r.1), r.2) := by
  refine mz_Met.of (by decide +kernel) (Nat.le_of_ble_eq_true rfl) ?_
  show mz_Go IX5_takesSemicolon (some (.inl r.1), r.2) 0 0 (0, [some (.inr (.inr (some (0, 2))))], [], D)
  rw [fX5_takesSemicolon] at h
  refine mz_Go.run (gs := []) (st' := (3, [some (.inr (.inr (some (0, 2))))], [.inl (59 : Int32), .inr (.inr (some (0, 2)))], D)) bX5_takesSemicolon_0 oX5_takesSemicolon_0 rfl trivial ?_
  refine mz_Go.callV (I := IX5_takesSemicolon) (J := IX5_isSign) (as := [.inl (59 : Int32)]) (ci := 5) (g := 0) (o := 2) (idx := 76) (pl := 868) (rest := []) (mX5_isSign (59 : Int32) D _ rfl) kX5_isSign vX5_isSign (by decide +kernel) (by decide +kernel) (by decide +kernel) rfl rfl ⟨rfl, rfl⟩ rfl rfl rfl rfl ?_
  refine mz_Go.run (gs := []) (st' := (if (fX5_isSign (59 : Int32) D) = 0 then (9, [some (.inr (.inr (some (0, 2))))], [], D) else (15, [some (.inr (.inr (some (0, 2))))], [], D))) bX5_takesSemicolon_6 oX5_takesSemicolon_6 rfl trivial ?_
  refine mz_Go.ite (fun hc1 => ?_) (fun hc1 => ?_)
  · have h := mz_ifp hc1 h
    refine mz_Go.run (gs := []) (st' := (11, [some (.inr (.inr (some (0, 2))))], [.inl (2 : Int32), .inr (.inr (some (0, 2)))], D)) bX5_takesSemicolon_9 oX5_takesSemicolon_9 rfl trivial ?_
    obtain ⟨q2, hq2, h⟩ := mz_bd_some h
    refine mz_Go.callV (I := IX5_takesSemicolon) (J := IX5_fail) (as := [.inl (2 : Int32)]) (ci := 5) (g := 0) (o := 2) (idx := 72) (pl := 812) (rest := []) (mX5_fail (2 : Int32) D q2 hq2) kX5_fail vX5_fail (by decide +kernel) (by decide +kernel) (by decide +kernel) rfl rfl ⟨rfl, rfl⟩ rfl rfl rfl rfl ?_
    obtain ⟨hb3, h⟩ := mz_gd_some h
    cases h
    exact mz_Go.retz (by decide +kernel) rfl ⟨Nat.le_refl _, Nat.le_refl _⟩ hb3 rfl
  · have h := mz_ifn hc1 h
    refine mz_Go.run (gs := []) (st' := (16, [some (.inr (.inr (some (0, 2))))], [.inr (.inr (some (0, 2)))], D)) bX5_takesSemicolon_15 oX5_takesSemicolon_15 rfl trivial ?_
    obtain ⟨q4, hq4, h⟩ := mz_bd_some h
    refine mz_Go.callV (I := IX5_takesSemicolon) (J := IX5_advance) (as := []) (ci := 5) (g := 0) (o := 2) (idx := 53) (pl := 741) (rest := []) (mX5_advance D q4 hq4) kX5_advance vX5_advance (by decide +kernel) (by decide +kernel) (by decide +kernel) rfl rfl ⟨rfl, rfl⟩ rfl rfl rfl rfl ?_
    refine mz_Go.run (gs := []) (st' := (20, [some (.inr (.inr (some (0, 2))))], [.inl (1 : Int32)], q4)) bX5_takesSemicolon_19 oX5_takesSemicolon_19 rfl trivial ?_
    cases h
    exact mz_Go.retz (by decide +kernel) rfl ⟨Nat.le_refl _, Nat.le_refl _⟩ (by decide) rfl
def bX5_takeNumber_0 : List mz_E := [(0, .aload_n 0, 0, 0, 0, 0, 0), (1, .getfield 56, 5, 6, 224, 0, 0), (4, .iconst 2, 0, 0, 0, 2, 0), (5, .if_icmp .eq 11, 0, 16, 0, 0, 0)]
theorem oX5_takeNumber_0 : bX5_takeNumber_0.all (mz_ok RX5 cX5_takeNumber 4) = true := by decide +kernel
def bX5_takeNumber_16 : List mz_E := [(16, .aload_n 0, 0, 0, 0, 0, 0), (17, .getfield 59, 5, 8, 226, 0, 0), (20, .iload_n 1, 0, 0, 0, 0, 0), (21, .if_icmp .lt 11, 0, 32, 0, 0, 0)]
theorem oX5_takeNumber_16 : bX5_takeNumber_16.all (mz_ok RX5 cX5_takeNumber 4) = true := by decide +kernel
def bX5_takeNumber_32 : List mz_E := [(32, .aload_n 0, 0, 0, 0, 0, 0), (33, .iconst 4, 0, 0, 0, 4, 0)]
theorem oX5_takeNumber_32 : bX5_takeNumber_32.all (mz_ok RX5 cX5_takeNumber 4) = true := by decide +kernel
def bX5_takeNumber_37 : List mz_E := [(37, .pop, 0, 0, 0, 0, 0), (38, .iconst (-1), 0, 0, 0, -1, 0)]
theorem oX5_takeNumber_37 : bX5_takeNumber_37.all (mz_ok RX5 cX5_takeNumber 4) = true := by decide +kernel
def bX5_takeNumber_24 : List mz_E := [(24, .aload_n 0, 0, 0, 0, 0, 0), (25, .getfield 59, 5, 8, 226, 0, 0), (28, .iload_n 2, 0, 0, 0, 0, 0), (29, .if_icmp .le 11, 0, 40, 0, 0, 0)]
theorem oX5_takeNumber_24 : bX5_takeNumber_24.all (mz_ok RX5 cX5_takeNumber 4) = true := by decide +kernel
def bX5_takeNumber_40 : List mz_E := [(40, .aload_n 0, 0, 0, 0, 0, 0), (41, .getfield 59, 5, 8, 226, 0, 0), (44, .istore_n 3, 0, 0, 0, 0, 0), (45, .aload_n 0, 0, 0, 0, 0, 0)]
theorem oX5_takeNumber_40 : bX5_takeNumber_40.all (mz_ok RX5 cX5_takeNumber 4) = true := by decide +kernel
def bX5_takeNumber_49 : List mz_E := [(49, .iload_n 3, 0, 0, 0, 0, 0)]
theorem oX5_takeNumber_49 : bX5_takeNumber_49.all (mz_ok RX5 cX5_takeNumber 4) = true := by decide +kernel
def bX5_takeNumber_8 : List mz_E := [(8, .aload_n 0, 0, 0, 0, 0, 0), (9, .iconst 2, 0, 0, 0, 2, 0)]
theorem oX5_takeNumber_8 : bX5_takeNumber_8.all (mz_ok RX5 cX5_takeNumber 4) = true := by decide +kernel
def bX5_takeNumber_13 : List mz_E := [(13, .pop, 0, 0, 0, 0, 0), (14, .iconst (-1), 0, 0, 0, -1, 0)]
theorem oX5_takeNumber_13 : bX5_takeNumber_13.all (mz_ok RX5 cX5_takeNumber 4) = true := by decide +kernel
abbrev IX5_takeNumber : mz_I := (yX5_takeNumber, cX5_takeNumber, 4, (some .int), 0, 2, 0, 0)
theorem kX5_takeNumber : mz_okm IX5_takeNumber 811 127 809 2 = true := by decide +kernel
theorem vX5_takeNumber : mz_okV IX5_takeNumber 809 810 = true := by decide +kernel
def fX5_takeNumber_32 (D : mz_D) : Option (Int32 × mz_D) := (Option.bind (fX5_fail (4 : Int32) D) fun q1 => (some ((-1 : Int32), q1.2)))
set_option maxHeartbeats 4000000 in
theorem tX5_takeNumber_32 (r : (Int32 × mz_D)) : ∀ (D : mz_D), fX5_takeNumber_32 D = some r → mz_Go IX5_takeNumber (some (.inl r.1), r.2) 0 0 (32, [some (.inr (.inr (some (0, 2)))), none, none, none], [], D) := by
  intro D h
  rw [fX5_takeNumber_32] at h
  refine mz_Go.run (gs := []) (st' := (34, [some (.inr (.inr (some (0, 2)))), none, none, none], [.inl (4 : Int32), .inr (.inr (some (0, 2)))], D)) bX5_takeNumber_32 oX5_takeNumber_32 rfl trivial ?_
  obtain ⟨q1, hq1, h⟩ := mz_bd_some h
  refine mz_Go.callV (I := IX5_takeNumber) (J := IX5_fail) (as := [.inl (4 : Int32)]) (ci := 5) (g := 0) (o := 2) (idx := 72) (pl := 812) (rest := []) (mX5_fail (4 : Int32) D q1 hq1) kX5_fail vX5_fail (by decide +kernel) (by decide +kernel) (by decide +kernel) rfl rfl ⟨rfl, rfl⟩ rfl rfl rfl rfl ?_
  refine mz_Go.run (gs := []) (st' := (39, [some (.inr (.inr (some (0, 2)))), none, none, none], [.inl (-1 : Int32)], q1.2)) bX5_takeNumber_37 oX5_takeNumber_37 rfl trivial ?_
  cases h
  exact mz_Go.reti (by decide +kernel) rfl ⟨Nat.le_refl _, Nat.le_refl _⟩ rfl
def fX5_takeNumber (x1 : Int32) (x2 : Int32) (D : mz_D) : Option (Int32 × mz_D) := (if (D.1 0 2 6) = (2 : Int32) then (if (D.1 0 2 8) < x1 then (fX5_takeNumber_32 D) else (if (D.1 0 2 8) ≤ x2 then (Option.bind (fX5_advance D) fun q4 => (some ((D.1 0 2 8), q4))) else (fX5_takeNumber_32 D))) else (Option.bind (fX5_fail (2 : Int32) D) fun q5 => (some ((-1 : Int32), q5.2))))
set_option maxHeartbeats 4000000 in
theorem mX5_takeNumber (x1 : Int32) (x2 : Int32) (D : mz_D) (r : (Int32 × mz_D)) (h : fX5_takeNumber x1 x2 D = some r) : mz_Met IX5_takeNumber [.inr (.inr (some (0, 2))), .inl x1, .inl x2] D (some (.inl r.1), r.2) := by
  refine mz_Met.of (by decide +kernel) (Nat.le_of_ble_eq_true rfl) ?_
  show mz_Go IX5_takeNumber (some (.inl r.1), r.2) 0 0 (0, [some (.inr (.inr (some (0, 2)))), some (.inl x1), some (.inl x2), none], [], D)
  rw [fX5_takeNumber] at h
  refine mz_Go.run (gs := [mz_kz 0 0 2]) (st' := (if (D.1 0 2 6) = (2 : Int32) then (16, [some (.inr (.inr (some (0, 2)))), some (.inl x1), some (.inl x2), none], [], D) else (8, [some (.inr (.inr (some (0, 2)))), some (.inl x1), some (.inl x2), none], [], D))) bX5_takeNumber_0 oX5_takeNumber_0 rfl ⟨rfl, trivial⟩ ?_
  refine mz_Go.ite (fun hc1 => ?_) (fun hc1 => ?_)
  · have h := mz_ifp hc1 h
    refine mz_Go.run (gs := [mz_kz 0 0 2]) (st' := (if (D.1 0 2 8) < x1 then (32, [some (.inr (.inr (some (0, 2)))), some (.inl x1), some (.inl x2), none], [], D) else (24, [some (.inr (.inr (some (0, 2)))), some (.inl x1), some (.inl x2), none], [], D))) bX5_takeNumber_16 oX5_takeNumber_16 rfl ⟨rfl, trivial⟩ ?_
    refine mz_Go.ite (fun hc2 => ?_) (fun hc2 => ?_)
    · have h := mz_ifp hc2 h
      exact mz_Go.drop [true, false, false, false] (tX5_takeNumber_32 r D h)
    · have h := mz_ifn hc2 h
      refine mz_Go.run (gs := [mz_kz 0 0 2]) (st' := (if (D.1 0 2 8) ≤ x2 then (40, [some (.inr (.inr (some (0, 2)))), some (.inl x1), some (.inl x2), none], [], D) else (32, [some (.inr (.inr (some (0, 2)))), some (.inl x1), some (.inl x2), none], [], D))) bX5_takeNumber_24 oX5_takeNumber_24 rfl ⟨rfl, trivial⟩ ?_
      refine mz_Go.ite (fun hc3 => ?_) (fun hc3 => ?_)
      · have h := mz_ifp hc3 h
        refine mz_Go.run (gs := [mz_kz 0 0 2]) (st' := (46, [some (.inr (.inr (some (0, 2)))), some (.inl x1), some (.inl x2), some (.inl (D.1 0 2 8))], [.inr (.inr (some (0, 2)))], D)) bX5_takeNumber_40 oX5_takeNumber_40 rfl ⟨rfl, trivial⟩ ?_
        obtain ⟨q4, hq4, h⟩ := mz_bd_some h
        refine mz_Go.callV (I := IX5_takeNumber) (J := IX5_advance) (as := []) (ci := 5) (g := 0) (o := 2) (idx := 53) (pl := 741) (rest := []) (mX5_advance D q4 hq4) kX5_advance vX5_advance (by decide +kernel) (by decide +kernel) (by decide +kernel) rfl rfl ⟨rfl, rfl⟩ rfl rfl rfl rfl ?_
        refine mz_Go.run (gs := []) (st' := (50, [some (.inr (.inr (some (0, 2)))), some (.inl x1), some (.inl x2), some (.inl (D.1 0 2 8))], [.inl (D.1 0 2 8)], q4)) bX5_takeNumber_49 oX5_takeNumber_49 rfl trivial ?_
        cases h
        exact mz_Go.reti (by decide +kernel) rfl ⟨Nat.le_refl _, Nat.le_refl _⟩ rfl
      · have h := mz_ifn hc3 h
        exact mz_Go.drop [true, false, false, false] (tX5_takeNumber_32 r D h)
  · have h := mz_ifn hc1 h
    refine mz_Go.run (gs := []) (st' := (10, [some (.inr (.inr (some (0, 2)))), some (.inl x1), some (.inl x2), none], [.inl (2 : Int32), .inr (.inr (some (0, 2)))], D)) bX5_takeNumber_8 oX5_takeNumber_8 rfl trivial ?_
    obtain ⟨q5, hq5, h⟩ := mz_bd_some h
    refine mz_Go.callV (I := IX5_takeNumber) (J := IX5_fail) (as := [.inl (2 : Int32)]) (ci := 5) (g := 0) (o := 2) (idx := 72) (pl := 812) (rest := []) (mX5_fail (2 : Int32) D q5 hq5) kX5_fail vX5_fail (by decide +kernel) (by decide +kernel) (by decide +kernel) rfl rfl ⟨rfl, rfl⟩ rfl rfl rfl rfl ?_
    refine mz_Go.run (gs := []) (st' := (15, [some (.inr (.inr (some (0, 2)))), some (.inl x1), some (.inl x2), none], [.inl (-1 : Int32)], q5.2)) bX5_takeNumber_13 oX5_takeNumber_13 rfl trivial ?_
    cases h
    exact mz_Go.reti (by decide +kernel) rfl ⟨Nat.le_refl _, Nat.le_refl _⟩ rfl
def bX5_personHere_0 : List mz_E := [(0, .aload_n 0, 0, 0, 0, 0, 0)]
theorem oX5_personHere_0 : bX5_personHere_0.all (mz_ok RX5 cX5_personHere 3) = true := by decide +kernel
def bX5_personHere_4 : List mz_E := [(4, .ifCond .ne 11, 0, 15, 0, 0, 0)]
theorem oX5_personHere_4 : bX5_personHere_4.all (mz_ok RX5 cX5_personHere 3) = true := by decide +kernel
def bX5_personHere_7 : List mz_E := [(7, .aload_n 0, 0, 0, 0, 0, 0), (8, .iconst 2, 0, 0, 0, 2, 0)]
theorem oX5_personHere_7 : bX5_personHere_7.all (mz_ok RX5 cX5_personHere 3) = true := by decide +kernel
def bX5_personHere_12 : List mz_E := [(12, .pop, 0, 0, 0, 0, 0), (13, .iconst (-1), 0, 0, 0, -1, 0)]
theorem oX5_personHere_12 : bX5_personHere_12.all (mz_ok RX5 cX5_personHere 3) = true := by decide +kernel
def bX5_personHere_15 : List mz_E := [(15, .aload_n 1, 0, 0, 0, 0, 0), (16, .aload_n 0, 0, 0, 0, 0, 0), (17, .getfield 68, 5, 9, 227, 0, 0)]
theorem oX5_personHere_15 : bX5_personHere_15.all (mz_ok RX5 cX5_personHere 3) = true := by decide +kernel
def bX5_personHere_23 : List mz_E := [(23, .istore_n 2, 0, 0, 0, 0, 0), (24, .iload_n 2, 0, 0, 0, 0, 0), (25, .iconst (-1), 0, 0, 0, -1, 0), (26, .if_icmp .ne 9, 0, 35, 0, 0, 0)]
theorem oX5_personHere_23 : bX5_personHere_23.all (mz_ok RX5 cX5_personHere 3) = true := by decide +kernel
def bX5_personHere_29 : List mz_E := [(29, .aload_n 0, 0, 0, 0, 0, 0), (30, .iconst 3, 0, 0, 0, 3, 0)]
theorem oX5_personHere_29 : bX5_personHere_29.all (mz_ok RX5 cX5_personHere 3) = true := by decide +kernel
def bX5_personHere_34 : List mz_E := [(34, .pop, 0, 0, 0, 0, 0), (35, .iload_n 2, 0, 0, 0, 0, 0)]
theorem oX5_personHere_34 : bX5_personHere_34.all (mz_ok RX5 cX5_personHere 3) = true := by decide +kernel
def bX5_personHere_35 : List mz_E := [(35, .iload_n 2, 0, 0, 0, 0, 0)]
theorem oX5_personHere_35 : bX5_personHere_35.all (mz_ok RX5 cX5_personHere 3) = true := by decide +kernel
abbrev IX5_personHere : mz_I := (yX5_personHere, cX5_personHere, 3, (some .int), 0, 1, 0, 0)
theorem kX5_personHere : mz_okm IX5_personHere 824 127 822 1 = true := by decide +kernel
theorem vX5_personHere : mz_okV IX5_personHere 822 823 = true := by decide +kernel
def fX5_personHere (g1 : Nat) (D : mz_D) : Option (Int32 × mz_D) := (if (fX5_isName D) = 0 then (Option.bind (fX5_fail (2 : Int32) D) fun q2 => (some ((-1 : Int32), q2.2))) else (Option.bind (fX4_find g1 (D.2 0 2 9) D) fun q3 => (if q3 = (-1 : Int32) then (Option.bind (fX5_fail (3 : Int32) D) fun q5 => (some (q3, q5.2))) else (some (q3, D)))))
set_option maxHeartbeats 4000000 in
theorem mX5_personHere (g1 : Nat) (D : mz_D) (hg1 : mz_tb g1 = true) (r : (Int32 × mz_D)) (h : fX5_personHere g1 D = some r) : mz_Met IX5_personHere [.inr (.inr (some (0, 2))), .inr (.inr (some (g1, 101)))] D (some (.inl r.1), r.2) := by
  refine mz_Met.of (by decide +kernel) (Nat.le_of_ble_eq_true rfl) ?_
  show mz_Go IX5_personHere (some (.inl r.1), r.2) 0 0 (0, [some (.inr (.inr (some (0, 2)))), some (.inr (.inr (some (g1, 101)))), none], [], D)
  rw [fX5_personHere] at h
  refine mz_Go.run (gs := []) (st' := (1, [some (.inr (.inr (some (0, 2)))), some (.inr (.inr (some (g1, 101)))), none], [.inr (.inr (some (0, 2)))], D)) bX5_personHere_0 oX5_personHere_0 rfl trivial ?_
  refine mz_Go.callV (I := IX5_personHere) (J := IX5_isName) (as := []) (ci := 5) (g := 0) (o := 2) (idx := 80) (pl := 825) (rest := []) (mX5_isName D _ rfl) kX5_isName vX5_isName (by decide +kernel) (by decide +kernel) (by decide +kernel) rfl rfl ⟨rfl, rfl⟩ rfl rfl rfl rfl ?_
  refine mz_Go.run (gs := []) (st' := (if (fX5_isName D) = 0 then (7, [some (.inr (.inr (some (0, 2)))), some (.inr (.inr (some (g1, 101)))), none], [], D) else (15, [some (.inr (.inr (some (0, 2)))), some (.inr (.inr (some (g1, 101)))), none], [], D))) bX5_personHere_4 oX5_personHere_4 rfl trivial ?_
  refine mz_Go.ite (fun hc1 => ?_) (fun hc1 => ?_)
  · have h := mz_ifp hc1 h
    refine mz_Go.run (gs := []) (st' := (9, [some (.inr (.inr (some (0, 2)))), some (.inr (.inr (some (g1, 101)))), none], [.inl (2 : Int32), .inr (.inr (some (0, 2)))], D)) bX5_personHere_7 oX5_personHere_7 rfl trivial ?_
    obtain ⟨q2, hq2, h⟩ := mz_bd_some h
    refine mz_Go.callV (I := IX5_personHere) (J := IX5_fail) (as := [.inl (2 : Int32)]) (ci := 5) (g := 0) (o := 2) (idx := 72) (pl := 812) (rest := []) (mX5_fail (2 : Int32) D q2 hq2) kX5_fail vX5_fail (by decide +kernel) (by decide +kernel) (by decide +kernel) rfl rfl ⟨rfl, rfl⟩ rfl rfl rfl rfl ?_
    refine mz_Go.run (gs := []) (st' := (14, [some (.inr (.inr (some (0, 2)))), some (.inr (.inr (some (g1, 101)))), none], [.inl (-1 : Int32)], q2.2)) bX5_personHere_12 oX5_personHere_12 rfl trivial ?_
    cases h
    exact mz_Go.reti (by decide +kernel) rfl ⟨Nat.le_refl _, Nat.le_refl _⟩ rfl
  · have h := mz_ifn hc1 h
    refine mz_Go.run (gs := [mz_kz 0 0 2]) (st' := (20, [some (.inr (.inr (some (0, 2)))), some (.inr (.inr (some (g1, 101)))), none], [.inr (.inl (D.2 0 2 9)), .inr (.inr (some (g1, 101)))], D)) bX5_personHere_15 oX5_personHere_15 rfl ⟨rfl, trivial⟩ ?_
    obtain ⟨q3, hq3, h⟩ := mz_bd_some h
    refine mz_Go.callV (I := IX5_personHere) (J := IX4_find) (as := [.inr (.inl (D.2 0 2 9))]) (ci := 4) (g := g1) (o := 101) (idx := 84) (pl := 826) (rest := []) (mX4_find g1 (D.2 0 2 9) D hg1 q3 hq3) kX4_find vX4_find (by decide +kernel) (by decide +kernel) (by decide +kernel) rfl rfl ⟨rfl, rfl⟩ rfl rfl hg1 rfl ?_
    refine mz_Go.run (gs := []) (st' := (if q3 = (-1 : Int32) then (29, [some (.inr (.inr (some (0, 2)))), some (.inr (.inr (some (g1, 101)))), some (.inl q3)], [], D) else (35, [some (.inr (.inr (some (0, 2)))), some (.inr (.inr (some (g1, 101)))), some (.inl q3)], [], D))) bX5_personHere_23 oX5_personHere_23 rfl trivial ?_
    refine mz_Go.ite (fun hc4 => ?_) (fun hc4 => ?_)
    · have h := mz_ifp hc4 h
      refine mz_Go.run (gs := []) (st' := (31, [some (.inr (.inr (some (0, 2)))), some (.inr (.inr (some (g1, 101)))), some (.inl q3)], [.inl (3 : Int32), .inr (.inr (some (0, 2)))], D)) bX5_personHere_29 oX5_personHere_29 rfl trivial ?_
      obtain ⟨q5, hq5, h⟩ := mz_bd_some h
      refine mz_Go.callV (I := IX5_personHere) (J := IX5_fail) (as := [.inl (3 : Int32)]) (ci := 5) (g := 0) (o := 2) (idx := 72) (pl := 812) (rest := []) (mX5_fail (3 : Int32) D q5 hq5) kX5_fail vX5_fail (by decide +kernel) (by decide +kernel) (by decide +kernel) rfl rfl ⟨rfl, rfl⟩ rfl rfl rfl rfl ?_
      refine mz_Go.run (gs := []) (st' := (36, [some (.inr (.inr (some (0, 2)))), some (.inr (.inr (some (g1, 101)))), some (.inl q3)], [.inl q3], q5.2)) bX5_personHere_34 oX5_personHere_34 rfl trivial ?_
      cases h
      exact mz_Go.reti (by decide +kernel) rfl ⟨Nat.le_refl _, Nat.le_refl _⟩ rfl
    · have h := mz_ifn hc4 h
      refine mz_Go.run (gs := []) (st' := (36, [some (.inr (.inr (some (0, 2)))), some (.inr (.inr (some (g1, 101)))), some (.inl q3)], [.inl q3], D)) bX5_personHere_35 oX5_personHere_35 rfl trivial ?_
      cases h
      exact mz_Go.reti (by decide +kernel) rfl ⟨Nat.le_refl _, Nat.le_refl _⟩ rfl
def bX5_takePerson_0 : List mz_E := [(0, .aload_n 0, 0, 0, 0, 0, 0), (1, .aload_n 1, 0, 0, 0, 0, 0)]
theorem oX5_takePerson_0 : bX5_takePerson_0.all (mz_ok RX5 cX5_takePerson 3) = true := by decide +kernel
def bX5_takePerson_5 : List mz_E := [(5, .istore_n 2, 0, 0, 0, 0, 0), (6, .iload_n 2, 0, 0, 0, 0, 0), (7, .iconst (-1), 0, 0, 0, -1, 0), (8, .if_icmp .eq 7, 0, 15, 0, 0, 0)]
theorem oX5_takePerson_5 : bX5_takePerson_5.all (mz_ok RX5 cX5_takePerson 3) = true := by decide +kernel
def bX5_takePerson_15 : List mz_E := [(15, .iload_n 2, 0, 0, 0, 0, 0)]
theorem oX5_takePerson_15 : bX5_takePerson_15.all (mz_ok RX5 cX5_takePerson 3) = true := by decide +kernel
def bX5_takePerson_11 : List mz_E := [(11, .aload_n 0, 0, 0, 0, 0, 0)]
theorem oX5_takePerson_11 : bX5_takePerson_11.all (mz_ok RX5 cX5_takePerson 3) = true := by decide +kernel
abbrev IX5_takePerson : mz_I := (yX5_takePerson, cX5_takePerson, 3, (some .int), 0, 2, 0, 0)
theorem kX5_takePerson : mz_okm IX5_takePerson 838 127 836 1 = true := by decide +kernel
theorem vX5_takePerson : mz_okV IX5_takePerson 836 837 = true := by decide +kernel
def fX5_takePerson (g1 : Nat) (D : mz_D) : Option (Int32 × mz_D) := (Option.bind (fX5_personHere g1 D) fun q1 => (if q1.1 = (-1 : Int32) then (some (q1.1, q1.2)) else (Option.bind (fX5_advance q1.2) fun q3 => (some (q1.1, q3)))))
set_option maxHeartbeats 4000000 in
theorem mX5_takePerson (g1 : Nat) (D : mz_D) (hg1 : mz_tb g1 = true) (r : (Int32 × mz_D)) (h : fX5_takePerson g1 D = some r) : mz_Met IX5_takePerson [.inr (.inr (some (0, 2))), .inr (.inr (some (g1, 101)))] D (some (.inl r.1), r.2) := by
  refine mz_Met.of (by decide +kernel) (Nat.le_of_ble_eq_true rfl) ?_
  show mz_Go IX5_takePerson (some (.inl r.1), r.2) 0 0 (0, [some (.inr (.inr (some (0, 2)))), some (.inr (.inr (some (g1, 101)))), none], [], D)
  rw [fX5_takePerson] at h
  refine mz_Go.run (gs := []) (st' := (2, [some (.inr (.inr (some (0, 2)))), some (.inr (.inr (some (g1, 101)))), none], [.inr (.inr (some (g1, 101))), .inr (.inr (some (0, 2)))], D)) bX5_takePerson_0 oX5_takePerson_0 rfl trivial ?_
  obtain ⟨q1, hq1, h⟩ := mz_bd_some h
  refine mz_Go.callV (I := IX5_takePerson) (J := IX5_personHere) (as := [.inr (.inr (some (g1, 101)))]) (ci := 5) (g := 0) (o := 2) (idx := 90) (pl := 839) (rest := []) (mX5_personHere g1 D hg1 q1 hq1) kX5_personHere vX5_personHere (by decide +kernel) (by decide +kernel) (by decide +kernel) rfl rfl ⟨rfl, rfl⟩ rfl rfl rfl rfl ?_
  refine mz_Go.run (gs := []) (st' := (if q1.1 = (-1 : Int32) then (15, [some (.inr (.inr (some (0, 2)))), some (.inr (.inr (some (g1, 101)))), some (.inl q1.1)], [], q1.2) else (11, [some (.inr (.inr (some (0, 2)))), some (.inr (.inr (some (g1, 101)))), some (.inl q1.1)], [], q1.2))) bX5_takePerson_5 oX5_takePerson_5 rfl trivial ?_
  refine mz_Go.ite (fun hc2 => ?_) (fun hc2 => ?_)
  · have h := mz_ifp hc2 h
    refine mz_Go.run (gs := []) (st' := (16, [some (.inr (.inr (some (0, 2)))), some (.inr (.inr (some (g1, 101)))), some (.inl q1.1)], [.inl q1.1], q1.2)) bX5_takePerson_15 oX5_takePerson_15 rfl trivial ?_
    cases h
    exact mz_Go.reti (by decide +kernel) rfl ⟨Nat.le_refl _, Nat.le_refl _⟩ rfl
  · have h := mz_ifn hc2 h
    refine mz_Go.run (gs := []) (st' := (12, [some (.inr (.inr (some (0, 2)))), some (.inr (.inr (some (g1, 101)))), some (.inl q1.1)], [.inr (.inr (some (0, 2)))], q1.2)) bX5_takePerson_11 oX5_takePerson_11 rfl trivial ?_
    obtain ⟨q3, hq3, h⟩ := mz_bd_some h
    refine mz_Go.callV (I := IX5_takePerson) (J := IX5_advance) (as := []) (ci := 5) (g := 0) (o := 2) (idx := 53) (pl := 741) (rest := []) (mX5_advance q1.2 q3 hq3) kX5_advance vX5_advance (by decide +kernel) (by decide +kernel) (by decide +kernel) rfl rfl ⟨rfl, rfl⟩ rfl rfl rfl rfl ?_
    refine mz_Go.run (gs := []) (st' := (16, [some (.inr (.inr (some (0, 2)))), some (.inr (.inr (some (g1, 101)))), some (.inl q1.1)], [.inl q1.1], q3)) bX5_takePerson_15 oX5_takePerson_15 rfl trivial ?_
    cases h
    exact mz_Go.reti (by decide +kernel) rfl ⟨Nat.le_refl _, Nat.le_refl _⟩ rfl
def bX5_takeOther_0 : List mz_E := [(0, .aload_n 0, 0, 0, 0, 0, 0), (1, .aload_n 1, 0, 0, 0, 0, 0)]
theorem oX5_takeOther_0 : bX5_takeOther_0.all (mz_ok RX5 cX5_takeOther 4) = true := by decide +kernel
def bX5_takeOther_5 : List mz_E := [(5, .istore_n 3, 0, 0, 0, 0, 0), (6, .iload_n 3, 0, 0, 0, 0, 0), (7, .iconst (-1), 0, 0, 0, -1, 0), (8, .if_icmp .ne 5, 0, 13, 0, 0, 0)]
theorem oX5_takeOther_5 : bX5_takeOther_5.all (mz_ok RX5 cX5_takeOther 4) = true := by decide +kernel
def bX5_takeOther_11 : List mz_E := [(11, .iconst (-1), 0, 0, 0, -1, 0)]
theorem oX5_takeOther_11 : bX5_takeOther_11.all (mz_ok RX5 cX5_takeOther 4) = true := by decide +kernel
def bX5_takeOther_13 : List mz_E := [(13, .iload_n 3, 0, 0, 0, 0, 0), (14, .iload_n 2, 0, 0, 0, 0, 0), (15, .if_icmp .ne 11, 0, 26, 0, 0, 0)]
theorem oX5_takeOther_13 : bX5_takeOther_13.all (mz_ok RX5 cX5_takeOther 4) = true := by decide +kernel
def bX5_takeOther_18 : List mz_E := [(18, .aload_n 0, 0, 0, 0, 0, 0), (19, .iconst 5, 0, 0, 0, 5, 0)]
theorem oX5_takeOther_18 : bX5_takeOther_18.all (mz_ok RX5 cX5_takeOther 4) = true := by decide +kernel
def bX5_takeOther_23 : List mz_E := [(23, .pop, 0, 0, 0, 0, 0), (24, .iconst (-1), 0, 0, 0, -1, 0)]
theorem oX5_takeOther_23 : bX5_takeOther_23.all (mz_ok RX5 cX5_takeOther 4) = true := by decide +kernel
def bX5_takeOther_26 : List mz_E := [(26, .aload_n 0, 0, 0, 0, 0, 0)]
theorem oX5_takeOther_26 : bX5_takeOther_26.all (mz_ok RX5 cX5_takeOther 4) = true := by decide +kernel
def bX5_takeOther_30 : List mz_E := [(30, .iload_n 3, 0, 0, 0, 0, 0)]
theorem oX5_takeOther_30 : bX5_takeOther_30.all (mz_ok RX5 cX5_takeOther 4) = true := by decide +kernel
abbrev IX5_takeOther : mz_I := (yX5_takeOther, cX5_takeOther, 4, (some .int), 0, 2, 0, 0)
theorem kX5_takeOther : mz_okm IX5_takeOther 851 127 849 2 = true := by decide +kernel
theorem vX5_takeOther : mz_okV IX5_takeOther 849 850 = true := by decide +kernel
def fX5_takeOther (g1 : Nat) (x2 : Int32) (D : mz_D) : Option (Int32 × mz_D) := (Option.bind (fX5_personHere g1 D) fun q1 => (if q1.1 = (-1 : Int32) then (some ((-1 : Int32), q1.2)) else (if q1.1 = x2 then (Option.bind (fX5_fail (5 : Int32) q1.2) fun q4 => (some ((-1 : Int32), q4.2))) else (Option.bind (fX5_advance q1.2) fun q5 => (some (q1.1, q5))))))
set_option maxHeartbeats 4000000 in
theorem mX5_takeOther (g1 : Nat) (x2 : Int32) (D : mz_D) (hg1 : mz_tb g1 = true) (r : (Int32 × mz_D)) (h : fX5_takeOther g1 x2 D = some r) : mz_Met IX5_takeOther [.inr (.inr (some (0, 2))), .inr (.inr (some (g1, 101))), .inl x2] D (some (.inl r.1), r.2) := by
  refine mz_Met.of (by decide +kernel) (Nat.le_of_ble_eq_true rfl) ?_
  show mz_Go IX5_takeOther (some (.inl r.1), r.2) 0 0 (0, [some (.inr (.inr (some (0, 2)))), some (.inr (.inr (some (g1, 101)))), some (.inl x2), none], [], D)
  rw [fX5_takeOther] at h
  refine mz_Go.run (gs := []) (st' := (2, [some (.inr (.inr (some (0, 2)))), some (.inr (.inr (some (g1, 101)))), some (.inl x2), none], [.inr (.inr (some (g1, 101))), .inr (.inr (some (0, 2)))], D)) bX5_takeOther_0 oX5_takeOther_0 rfl trivial ?_
  obtain ⟨q1, hq1, h⟩ := mz_bd_some h
  refine mz_Go.callV (I := IX5_takeOther) (J := IX5_personHere) (as := [.inr (.inr (some (g1, 101)))]) (ci := 5) (g := 0) (o := 2) (idx := 90) (pl := 839) (rest := []) (mX5_personHere g1 D hg1 q1 hq1) kX5_personHere vX5_personHere (by decide +kernel) (by decide +kernel) (by decide +kernel) rfl rfl ⟨rfl, rfl⟩ rfl rfl rfl rfl ?_
  refine mz_Go.run (gs := []) (st' := (if q1.1 = (-1 : Int32) then (11, [some (.inr (.inr (some (0, 2)))), some (.inr (.inr (some (g1, 101)))), some (.inl x2), some (.inl q1.1)], [], q1.2) else (13, [some (.inr (.inr (some (0, 2)))), some (.inr (.inr (some (g1, 101)))), some (.inl x2), some (.inl q1.1)], [], q1.2))) bX5_takeOther_5 oX5_takeOther_5 rfl trivial ?_
  refine mz_Go.ite (fun hc2 => ?_) (fun hc2 => ?_)
  · have h := mz_ifp hc2 h
    refine mz_Go.run (gs := []) (st' := (12, [some (.inr (.inr (some (0, 2)))), some (.inr (.inr (some (g1, 101)))), some (.inl x2), some (.inl q1.1)], [.inl (-1 : Int32)], q1.2)) bX5_takeOther_11 oX5_takeOther_11 rfl trivial ?_
    cases h
    exact mz_Go.reti (by decide +kernel) rfl ⟨Nat.le_refl _, Nat.le_refl _⟩ rfl
  · have h := mz_ifn hc2 h
    refine mz_Go.run (gs := []) (st' := (if q1.1 = x2 then (18, [some (.inr (.inr (some (0, 2)))), some (.inr (.inr (some (g1, 101)))), some (.inl x2), some (.inl q1.1)], [], q1.2) else (26, [some (.inr (.inr (some (0, 2)))), some (.inr (.inr (some (g1, 101)))), some (.inl x2), some (.inl q1.1)], [], q1.2))) bX5_takeOther_13 oX5_takeOther_13 rfl trivial ?_
    refine mz_Go.ite (fun hc3 => ?_) (fun hc3 => ?_)
    · have h := mz_ifp hc3 h
      refine mz_Go.run (gs := []) (st' := (20, [some (.inr (.inr (some (0, 2)))), some (.inr (.inr (some (g1, 101)))), some (.inl x2), some (.inl q1.1)], [.inl (5 : Int32), .inr (.inr (some (0, 2)))], q1.2)) bX5_takeOther_18 oX5_takeOther_18 rfl trivial ?_
      obtain ⟨q4, hq4, h⟩ := mz_bd_some h
      refine mz_Go.callV (I := IX5_takeOther) (J := IX5_fail) (as := [.inl (5 : Int32)]) (ci := 5) (g := 0) (o := 2) (idx := 72) (pl := 812) (rest := []) (mX5_fail (5 : Int32) q1.2 q4 hq4) kX5_fail vX5_fail (by decide +kernel) (by decide +kernel) (by decide +kernel) rfl rfl ⟨rfl, rfl⟩ rfl rfl rfl rfl ?_
      refine mz_Go.run (gs := []) (st' := (25, [some (.inr (.inr (some (0, 2)))), some (.inr (.inr (some (g1, 101)))), some (.inl x2), some (.inl q1.1)], [.inl (-1 : Int32)], q4.2)) bX5_takeOther_23 oX5_takeOther_23 rfl trivial ?_
      cases h
      exact mz_Go.reti (by decide +kernel) rfl ⟨Nat.le_refl _, Nat.le_refl _⟩ rfl
    · have h := mz_ifn hc3 h
      refine mz_Go.run (gs := []) (st' := (27, [some (.inr (.inr (some (0, 2)))), some (.inr (.inr (some (g1, 101)))), some (.inl x2), some (.inl q1.1)], [.inr (.inr (some (0, 2)))], q1.2)) bX5_takeOther_26 oX5_takeOther_26 rfl trivial ?_
      obtain ⟨q5, hq5, h⟩ := mz_bd_some h
      refine mz_Go.callV (I := IX5_takeOther) (J := IX5_advance) (as := []) (ci := 5) (g := 0) (o := 2) (idx := 53) (pl := 741) (rest := []) (mX5_advance q1.2 q5 hq5) kX5_advance vX5_advance (by decide +kernel) (by decide +kernel) (by decide +kernel) rfl rfl ⟨rfl, rfl⟩ rfl rfl rfl rfl ?_
      refine mz_Go.run (gs := []) (st' := (31, [some (.inr (.inr (some (0, 2)))), some (.inr (.inr (some (g1, 101)))), some (.inl x2), some (.inl q1.1)], [.inl q1.1], q5)) bX5_takeOther_30 oX5_takeOther_30 rfl trivial ?_
      cases h
      exact mz_Go.reti (by decide +kernel) rfl ⟨Nat.le_refl _, Nat.le_refl _⟩ rfl
def bX9_clear_0 : List mz_E := [(0, .aload_n 0, 0, 0, 0, 0, 0), (1, .iconst 0, 0, 0, 0, 0, 0), (2, .putfield 33, 9, 0, 427, 0, 0), (5, .aload_n 0, 0, 0, 0, 0, 0), (6, .iconst 0, 0, 0, 0, 0, 0), (7, .putfield 37, 9, 1, 430, 0, 0)]
theorem oX9_clear_0 : bX9_clear_0.all (mz_ok RX9 cX9_clear 1) = true := by decide +kernel
abbrev IX9_clear : mz_I := (yX9_clear, cX9_clear, 1, none, 0, 0, 0, 0)
theorem kX9_clear : mz_okm IX9_clear 733 139 731 0 = true := by decide +kernel
theorem vX9_clear : mz_okV IX9_clear 731 732 = true := by decide +kernel
theorem mX9_clear (g0 : Nat) (D : mz_D) (hg0 : mz_tb g0 = true) : mz_Met IX9_clear [.inr (.inr (some (g0, 119)))] D (none, (mz_wi (mz_wi D g0 119 0 (0 : Int32)) g0 119 1 (0 : Int32))) := by
  refine mz_Met.of (by decide +kernel) (Nat.le_of_ble_eq_true rfl) ?_
  show mz_Go IX9_clear (none, (mz_wi (mz_wi D g0 119 0 (0 : Int32)) g0 119 1 (0 : Int32))) 0 0 (0, [some (.inr (.inr (some (g0, 119))))], [], D)
  refine mz_Go.run (gs := [mz_kz 0 g0 119, mz_bo (0 : Int32), mz_kz 0 g0 119]) (st' := (10, [some (.inr (.inr (some (g0, 119))))], [], (mz_wi (mz_wi D g0 119 0 (0 : Int32)) g0 119 1 (0 : Int32)))) bX9_clear_0 oX9_clear_0 rfl ⟨hg0, (by decide), hg0, trivial⟩ ?_
  exact mz_Go.retv (by decide +kernel) rfl ⟨Nat.le_refl _, Nat.le_refl _⟩ rfl
def bX6_clear_0 : List mz_E := [(0, .aload_n 0, 0, 0, 0, 0, 0), (1, .getfield 12, 6, 0, 474, 0, 0)]
theorem oX6_clear_0 : bX6_clear_0.all (mz_ok RX6 cX6_clear 1) = true := by decide +kernel
def bX6_clear_7 : List mz_E := [(7, .aload_n 0, 0, 0, 0, 0, 0), (8, .getfield 21, 6, 1, 478, 0, 0)]
theorem oX6_clear_7 : bX6_clear_7.all (mz_ok RX6 cX6_clear 1) = true := by decide +kernel
def bX6_clear_14 : List mz_E := [(14, .aload_n 0, 0, 0, 0, 0, 0), (15, .getfield 28, 6, 2, 482, 0, 0)]
theorem oX6_clear_14 : bX6_clear_14.all (mz_ok RX6 cX6_clear 1) = true := by decide +kernel
def bX6_clear_21 : List mz_E := [(21, .aload_n 0, 0, 0, 0, 0, 0), (22, .getfield 35, 6, 3, 486, 0, 0)]
theorem oX6_clear_21 : bX6_clear_21.all (mz_ok RX6 cX6_clear 1) = true := by decide +kernel
def bX6_clear_28 : List mz_E := [(28, .aload_n 0, 0, 0, 0, 0, 0), (29, .getfield 42, 6, 4, 490, 0, 0)]
theorem oX6_clear_28 : bX6_clear_28.all (mz_ok RX6 cX6_clear 1) = true := by decide +kernel
def bX6_clear_35 : List mz_E := [(35, .aload_n 0, 0, 0, 0, 0, 0), (36, .iconst 0, 0, 0, 0, 0, 0), (37, .putfield 53, 6, 5, 493, 0, 0), (40, .aload_n 0, 0, 0, 0, 0, 0), (41, .iconst 0, 0, 0, 0, 0, 0), (42, .putfield 57, 6, 6, 497, 0, 0)]
theorem oX6_clear_35 : bX6_clear_35.all (mz_ok RX6 cX6_clear 1) = true := by decide +kernel
abbrev IX6_clear : mz_I := (yX6_clear, cX6_clear, 1, none, 0, 2, 0, 0)
theorem kX6_clear : mz_okm IX6_clear 711 134 709 0 = true := by decide +kernel
theorem vX6_clear : mz_okV IX6_clear 709 710 = true := by decide +kernel
def fX6_clear (g0 : Nat) (D : mz_D) : Option mz_D := (Option.bind (fX2_clear g0 (mz_wi (mz_wi (mz_wi (mz_wi (mz_wi D g0 101 0 (0 : Int32)) g0 101 1 (0 : Int32)) g0 101 2 (0 : Int32)) g0 109 0 (0 : Int32)) g0 109 1 (0 : Int32))) fun q1 => (Option.bind (fX0_clear g0 q1) fun q2 => (some (mz_wi (mz_wi (mz_wi (mz_wi q2 g0 119 0 (0 : Int32)) g0 119 1 (0 : Int32)) g0 100 5 (0 : Int32)) g0 100 6 (0 : Int32)))))
set_option maxHeartbeats 4000000 in
theorem mX6_clear (g0 : Nat) (D : mz_D) (hg0 : mz_tb g0 = true) (r : mz_D) (h : fX6_clear g0 D = some r) : mz_Met IX6_clear [.inr (.inr (some (g0, 100)))] D (none, r) := by
  refine mz_Met.of (by decide +kernel) (Nat.le_of_ble_eq_true rfl) ?_
  show mz_Go IX6_clear (none, r) 0 0 (0, [some (.inr (.inr (some (g0, 100))))], [], D)
  rw [fX6_clear] at h
  refine mz_Go.run (gs := [mz_kz 0 g0 100]) (st' := (4, [some (.inr (.inr (some (g0, 100))))], [.inr (.inr (some (g0, 101)))], D)) bX6_clear_0 oX6_clear_0 rfl ⟨hg0, trivial⟩ ?_
  refine mz_Go.callV (I := IX6_clear) (J := IX4_clear) (as := []) (ci := 4) (g := g0) (o := 101) (idx := 46) (pl := 712) (rest := []) (mX4_clear g0 D hg0) kX4_clear vX4_clear (by decide +kernel) (by decide +kernel) (by decide +kernel) rfl rfl ⟨rfl, rfl⟩ rfl rfl hg0 rfl ?_
  refine mz_Go.run (gs := [mz_kz 0 g0 100]) (st' := (11, [some (.inr (.inr (some (g0, 100))))], [.inr (.inr (some (g0, 109)))], (mz_wi (mz_wi (mz_wi D g0 101 0 (0 : Int32)) g0 101 1 (0 : Int32)) g0 101 2 (0 : Int32)))) bX6_clear_7 oX6_clear_7 rfl ⟨hg0, trivial⟩ ?_
  refine mz_Go.callV (I := IX6_clear) (J := IX1_clear) (as := []) (ci := 1) (g := g0) (o := 109) (idx := 49) (pl := 716) (rest := []) (mX1_clear g0 (mz_wi (mz_wi (mz_wi D g0 101 0 (0 : Int32)) g0 101 1 (0 : Int32)) g0 101 2 (0 : Int32)) hg0) kX1_clear vX1_clear (by decide +kernel) (by decide +kernel) (by decide +kernel) rfl rfl ⟨rfl, rfl⟩ rfl rfl hg0 rfl ?_
  refine mz_Go.run (gs := [mz_kz 0 g0 100]) (st' := (18, [some (.inr (.inr (some (g0, 100))))], [.inr (.inr (some (g0, 113)))], (mz_wi (mz_wi (mz_wi (mz_wi (mz_wi D g0 101 0 (0 : Int32)) g0 101 1 (0 : Int32)) g0 101 2 (0 : Int32)) g0 109 0 (0 : Int32)) g0 109 1 (0 : Int32)))) bX6_clear_14 oX6_clear_14 rfl ⟨hg0, trivial⟩ ?_
  obtain ⟨q1, hq1, h⟩ := mz_bd_some h
  refine mz_Go.callV (I := IX6_clear) (J := IX2_clear) (as := []) (ci := 2) (g := g0) (o := 113) (idx := 50) (pl := 720) (rest := []) (mX2_clear g0 (mz_wi (mz_wi (mz_wi (mz_wi (mz_wi D g0 101 0 (0 : Int32)) g0 101 1 (0 : Int32)) g0 101 2 (0 : Int32)) g0 109 0 (0 : Int32)) g0 109 1 (0 : Int32)) hg0 q1 hq1) kX2_clear vX2_clear (by decide +kernel) (by decide +kernel) (by decide +kernel) rfl rfl ⟨rfl, rfl⟩ rfl rfl hg0 rfl ?_
  refine mz_Go.run (gs := [mz_kz 0 g0 100]) (st' := (25, [some (.inr (.inr (some (g0, 100))))], [.inr (.inr (some (g0, 117)))], q1)) bX6_clear_21 oX6_clear_21 rfl ⟨hg0, trivial⟩ ?_
  obtain ⟨q2, hq2, h⟩ := mz_bd_some h
  refine mz_Go.callV (I := IX6_clear) (J := IX0_clear) (as := []) (ci := 0) (g := g0) (o := 117) (idx := 51) (pl := 725) (rest := []) (mX0_clear g0 q1 hg0 q2 hq2) kX0_clear vX0_clear (by decide +kernel) (by decide +kernel) (by decide +kernel) rfl rfl ⟨rfl, rfl⟩ rfl rfl hg0 rfl ?_
  refine mz_Go.run (gs := [mz_kz 0 g0 100]) (st' := (32, [some (.inr (.inr (some (g0, 100))))], [.inr (.inr (some (g0, 119)))], q2)) bX6_clear_28 oX6_clear_28 rfl ⟨hg0, trivial⟩ ?_
  refine mz_Go.callV (I := IX6_clear) (J := IX9_clear) (as := []) (ci := 9) (g := g0) (o := 119) (idx := 52) (pl := 730) (rest := []) (mX9_clear g0 q2 hg0) kX9_clear vX9_clear (by decide +kernel) (by decide +kernel) (by decide +kernel) rfl rfl ⟨rfl, rfl⟩ rfl rfl hg0 rfl ?_
  refine mz_Go.run (gs := [mz_kz 0 g0 100, mz_kz 0 g0 100]) (st' := (45, [some (.inr (.inr (some (g0, 100))))], [], (mz_wi (mz_wi (mz_wi (mz_wi q2 g0 119 0 (0 : Int32)) g0 119 1 (0 : Int32)) g0 100 5 (0 : Int32)) g0 100 6 (0 : Int32)))) bX6_clear_35 oX6_clear_35 rfl ⟨hg0, hg0, trivial⟩ ?_
  cases h
  exact mz_Go.retv (by decide +kernel) rfl ⟨Nat.le_refl _, Nat.le_refl _⟩ rfl
