def bX11_order_0 : List mz_E := [(0, .iload_n 1, 0, 0, 0, 0, 0), (1, .iconst 1, 0, 0, 0, 1, 0), (2, .if_icmp .lt 29, 0, 31, 0, 0, 0)]
theorem oX11_order_0 : bX11_order_0.all (mz_ok RX11 cX11_order 3) = true := by decide +kernel
def bX11_order_31 : List mz_E := [(31, .aload_n 0, 0, 0, 0, 0, 0), (32, .iconst 1, 0, 0, 0, 1, 0)]
theorem oX11_order_31 : bX11_order_31.all (mz_ok RX11 cX11_order 3) = true := by decide +kernel
def bX11_order_5 : List mz_E := [(5, .iload_n 1, 0, 0, 0, 0, 0), (6, .sipush 999, 0, 0, 0, 999, 0), (9, .if_icmp .gt 22, 0, 31, 0, 0, 0)]
theorem oX11_order_5 : bX11_order_5.all (mz_ok RX11 cX11_order 3) = true := by decide +kernel
def bX11_order_12 : List mz_E := [(12, .iload_n 2, 0, 0, 0, 0, 0), (13, .iconst (-1), 0, 0, 0, -1, 0), (14, .if_icmp .eq 23, 0, 37, 0, 0, 0)]
theorem oX11_order_12 : bX11_order_12.all (mz_ok RX11 cX11_order 3) = true := by decide +kernel
def bX11_order_37 : List mz_E := [(37, .aload_n 0, 0, 0, 0, 0, 0), (38, .getfield 32, 11, 4, 563, 0, 0), (41, .getfield 183, 6, 1, 481, 0, 0), (44, .getfield 187, 1, 0, 352, 0, 0), (47, .bipush 16, 0, 0, 0, 16, 0), (49, .if_icmp .lt 9, 0, 58, 0, 0, 0)]
theorem oX11_order_37 : bX11_order_37.all (mz_ok RX11 cX11_order 3) = true := by decide +kernel
def bX11_order_58 : List mz_E := [(58, .aload_n 0, 0, 0, 0, 0, 0), (59, .getfield 32, 11, 4, 563, 0, 0), (62, .getfield 183, 6, 1, 481, 0, 0), (65, .iload_n 1, 0, 0, 0, 0, 0), (66, .iload_n 2, 0, 0, 0, 0, 0)]
theorem oX11_order_58 : bX11_order_58.all (mz_ok RX11 cX11_order 3) = true := by decide +kernel
def bX11_order_70 : List mz_E := [(70, .aload_n 0, 0, 0, 0, 0, 0), (71, .aload_n 0, 0, 0, 0, 0, 0), (72, .getfield 32, 11, 4, 563, 0, 0), (75, .getfield 183, 6, 1, 481, 0, 0), (78, .getfield 187, 1, 0, 352, 0, 0)]
theorem oX11_order_70 : bX11_order_70.all (mz_ok RX11 cX11_order 3) = true := by decide +kernel
def bX11_order_52 : List mz_E := [(52, .aload_n 0, 0, 0, 0, 0, 0), (53, .iconst 4, 0, 0, 0, 4, 0)]
theorem oX11_order_52 : bX11_order_52.all (mz_ok RX11 cX11_order 3) = true := by decide +kernel
def bX11_order_17 : List mz_E := [(17, .aload_n 0, 0, 0, 0, 0, 0), (18, .getfield 32, 11, 4, 563, 0, 0), (21, .getfield 151, 6, 0, 477, 0, 0), (24, .iload_n 2, 0, 0, 0, 0, 0)]
theorem oX11_order_17 : bX11_order_17.all (mz_ok RX11 cX11_order 3) = true := by decide +kernel
def bX11_order_28 : List mz_E := [(28, .ifCond .ne 9, 0, 37, 0, 0, 0)]
theorem oX11_order_28 : bX11_order_28.all (mz_ok RX11 cX11_order 3) = true := by decide +kernel
abbrev IX11_order : mz_I := (yX11_order, cX11_order, 3, (some .int), 0, 1, 0, 0)
theorem kX11_order : mz_okm IX11_order 1124 126 1122 2 = true := by decide +kernel
theorem vX11_order : mz_okV IX11_order 1122 1123 = true := by decide +kernel
def fX11_order_37 (x1 : Int32) (x2 : Int32) (D : mz_D) : Option (Int32 × mz_D) := (if (D.1 1 109 0) < (16 : Int32) then (Option.bind (fX1_add 1 x1 x2 D) fun q2 => (some ((q2.1 1 109 0), (mz_wi q2 0 0 13 (0 : Int32))))) else (some ((-1 : Int32), (mz_wi D 0 0 13 (4 : Int32)))))
set_option maxHeartbeats 4000000 in
theorem tX11_order_37 (r : (Int32 × mz_D)) : ∀ (x1 : Int32) (x2 : Int32) (D : mz_D), fX11_order_37 x1 x2 D = some r → mz_Go IX11_order (some (.inl r.1), r.2) 0 0 (37, [some (.inr (.inr (some (0, 0)))), some (.inl x1), some (.inl x2)], [], D) := by
  intro x1 x2 D h
  rw [fX11_order_37] at h
  refine mz_Go.run (gs := [mz_kz 0 0 0, mz_kz 0 1 100, mz_kz 0 1 109]) (st' := (if (D.1 1 109 0) < (16 : Int32) then (58, [some (.inr (.inr (some (0, 0)))), some (.inl x1), some (.inl x2)], [], D) else (52, [some (.inr (.inr (some (0, 0)))), some (.inl x1), some (.inl x2)], [], D))) bX11_order_37 oX11_order_37 rfl ⟨rfl, rfl, rfl, trivial⟩ ?_
  refine mz_Go.ite (fun hc1 => ?_) (fun hc1 => ?_)
  · have h := mz_ifp hc1 h
    refine mz_Go.run (gs := [mz_kz 0 0 0, mz_kz 0 1 100]) (st' := (67, [some (.inr (.inr (some (0, 0)))), some (.inl x1), some (.inl x2)], [.inl x2, .inl x1, .inr (.inr (some (1, 109)))], D)) bX11_order_58 oX11_order_58 rfl ⟨rfl, rfl, trivial⟩ ?_
    obtain ⟨q2, hq2, h⟩ := mz_bd_some h
    refine mz_Go.callV (I := IX11_order) (J := IX1_add) (as := [.inl x1, .inl x2]) (ci := 1) (g := 1) (o := 109) (idx := 275) (pl := 1125) (rest := []) (mX1_add 1 x1 x2 D rfl q2 hq2) kX1_add vX1_add (by decide +kernel) (by decide +kernel) (by decide +kernel) rfl rfl ⟨rfl, rfl⟩ rfl rfl rfl rfl ?_
    refine mz_Go.run (gs := [mz_kz 0 0 0, mz_kz 0 1 100, mz_kz 0 1 109]) (st' := (81, [some (.inr (.inr (some (0, 0)))), some (.inl x1), some (.inl x2)], [.inl (q2.1 1 109 0), .inr (.inr (some (0, 0)))], q2)) bX11_order_70 oX11_order_70 rfl ⟨rfl, rfl, rfl, trivial⟩ ?_
    refine mz_Go.callV (I := IX11_order) (J := IX11_answer) (as := [.inl (q2.1 1 109 0)]) (ci := 11) (g := 0) (o := 0) (idx := 160) (pl := 914) (rest := []) (mX11_answer (q2.1 1 109 0) q2) kX11_answer vX11_answer (by decide +kernel) (by decide +kernel) (by decide +kernel) rfl rfl ⟨rfl, rfl⟩ rfl rfl rfl rfl ?_
    cases h
    exact mz_Go.reti (by decide +kernel) rfl ⟨Nat.le_refl _, Nat.le_refl _⟩ rfl
  · have h := mz_ifn hc1 h
    refine mz_Go.run (gs := []) (st' := (54, [some (.inr (.inr (some (0, 0)))), some (.inl x1), some (.inl x2)], [.inl (4 : Int32), .inr (.inr (some (0, 0)))], D)) bX11_order_52 oX11_order_52 rfl trivial ?_
    refine mz_Go.callV (I := IX11_order) (J := IX11_refuse) (as := [.inl (4 : Int32)]) (ci := 11) (g := 0) (o := 0) (idx := 100) (pl := 673) (rest := []) (mX11_refuse (4 : Int32) D) kX11_refuse vX11_refuse (by decide +kernel) (by decide +kernel) (by decide +kernel) rfl rfl ⟨rfl, rfl⟩ rfl rfl rfl rfl ?_
    cases h
    exact mz_Go.reti (by decide +kernel) rfl ⟨Nat.le_refl _, Nat.le_refl _⟩ rfl
def fX11_order (x1 : Int32) (x2 : Int32) (D : mz_D) : Option (Int32 × mz_D) := (if x1 < (1 : Int32) then (some ((-1 : Int32), (mz_wi D 0 0 13 (1 : Int32)))) else (if (999 : Int32) < x1 then (some ((-1 : Int32), (mz_wi D 0 0 13 (1 : Int32)))) else (if x2 = (-1 : Int32) then (fX11_order_37 x1 x2 D) else (if (fX4_has 1 x2 D) = 0 then (some ((-1 : Int32), (mz_wi D 0 0 13 (1 : Int32)))) else (fX11_order_37 x1 x2 D)))))
set_option maxHeartbeats 4000000 in
theorem mX11_order (x1 : Int32) (x2 : Int32) (D : mz_D) (r : (Int32 × mz_D)) (h : fX11_order x1 x2 D = some r) : mz_Met IX11_order [.inr (.inr (some (0, 0))), .inl x1, .inl x2] D (some (.inl r.1), r.2) := by
  refine mz_Met.of (by decide +kernel) (Nat.le_of_ble_eq_true rfl) ?_
  show mz_Go IX11_order (some (.inl r.1), r.2) 0 0 (0, [some (.inr (.inr (some (0, 0)))), some (.inl x1), some (.inl x2)], [], D)
  rw [fX11_order] at h
  refine mz_Go.run (gs := []) (st' := (if x1 < (1 : Int32) then (31, [some (.inr (.inr (some (0, 0)))), some (.inl x1), some (.inl x2)], [], D) else (5, [some (.inr (.inr (some (0, 0)))), some (.inl x1), some (.inl x2)], [], D))) bX11_order_0 oX11_order_0 rfl trivial ?_
  refine mz_Go.ite (fun hc1 => ?_) (fun hc1 => ?_)
  · have h := mz_ifp hc1 h
    refine mz_Go.run (gs := []) (st' := (33, [some (.inr (.inr (some (0, 0)))), some (.inl x1), some (.inl x2)], [.inl (1 : Int32), .inr (.inr (some (0, 0)))], D)) bX11_order_31 oX11_order_31 rfl trivial ?_
    refine mz_Go.callV (I := IX11_order) (J := IX11_refuse) (as := [.inl (1 : Int32)]) (ci := 11) (g := 0) (o := 0) (idx := 100) (pl := 673) (rest := []) (mX11_refuse (1 : Int32) D) kX11_refuse vX11_refuse (by decide +kernel) (by decide +kernel) (by decide +kernel) rfl rfl ⟨rfl, rfl⟩ rfl rfl rfl rfl ?_
    cases h
    exact mz_Go.reti (by decide +kernel) rfl ⟨Nat.le_refl _, Nat.le_refl _⟩ rfl
  · have h := mz_ifn hc1 h
    refine mz_Go.run (gs := []) (st' := (if (999 : Int32) < x1 then (31, [some (.inr (.inr (some (0, 0)))), some (.inl x1), some (.inl x2)], [], D) else (12, [some (.inr (.inr (some (0, 0)))), some (.inl x1), some (.inl x2)], [], D))) bX11_order_5 oX11_order_5 rfl trivial ?_
    refine mz_Go.ite (fun hc2 => ?_) (fun hc2 => ?_)
    · have h := mz_ifp hc2 h
      refine mz_Go.run (gs := []) (st' := (33, [some (.inr (.inr (some (0, 0)))), some (.inl x1), some (.inl x2)], [.inl (1 : Int32), .inr (.inr (some (0, 0)))], D)) bX11_order_31 oX11_order_31 rfl trivial ?_
      refine mz_Go.callV (I := IX11_order) (J := IX11_refuse) (as := [.inl (1 : Int32)]) (ci := 11) (g := 0) (o := 0) (idx := 100) (pl := 673) (rest := []) (mX11_refuse (1 : Int32) D) kX11_refuse vX11_refuse (by decide +kernel) (by decide +kernel) (by decide +kernel) rfl rfl ⟨rfl, rfl⟩ rfl rfl rfl rfl ?_
      cases h
      exact mz_Go.reti (by decide +kernel) rfl ⟨Nat.le_refl _, Nat.le_refl _⟩ rfl
    · have h := mz_ifn hc2 h
      refine mz_Go.run (gs := []) (st' := (if x2 = (-1 : Int32) then (37, [some (.inr (.inr (some (0, 0)))), some (.inl x1), some (.inl x2)], [], D) else (17, [some (.inr (.inr (some (0, 0)))), some (.inl x1), some (.inl x2)], [], D))) bX11_order_12 oX11_order_12 rfl trivial ?_
      refine mz_Go.ite (fun hc3 => ?_) (fun hc3 => ?_)
      · have h := mz_ifp hc3 h
        exact mz_Go.drop [true, true, true] (tX11_order_37 r x1 x2 D h)
      · have h := mz_ifn hc3 h
        refine mz_Go.run (gs := [mz_kz 0 0 0, mz_kz 0 1 100]) (st' := (25, [some (.inr (.inr (some (0, 0)))), some (.inl x1), some (.inl x2)], [.inl x2, .inr (.inr (some (1, 101)))], D)) bX11_order_17 oX11_order_17 rfl ⟨rfl, rfl, trivial⟩ ?_
        refine mz_Go.callV (I := IX11_order) (J := IX4_has) (as := [.inl x2]) (ci := 4) (g := 1) (o := 101) (idx := 229) (pl := 1042) (rest := []) (mX4_has 1 x2 D rfl _ rfl) kX4_has vX4_has (by decide +kernel) (by decide +kernel) (by decide +kernel) rfl rfl ⟨rfl, rfl⟩ rfl rfl rfl rfl ?_
        refine mz_Go.run (gs := []) (st' := (if (fX4_has 1 x2 D) = 0 then (31, [some (.inr (.inr (some (0, 0)))), some (.inl x1), some (.inl x2)], [], D) else (37, [some (.inr (.inr (some (0, 0)))), some (.inl x1), some (.inl x2)], [], D))) bX11_order_28 oX11_order_28 rfl trivial ?_
        refine mz_Go.ite (fun hc4 => ?_) (fun hc4 => ?_)
        · have h := mz_ifp hc4 h
          refine mz_Go.run (gs := []) (st' := (33, [some (.inr (.inr (some (0, 0)))), some (.inl x1), some (.inl x2)], [.inl (1 : Int32), .inr (.inr (some (0, 0)))], D)) bX11_order_31 oX11_order_31 rfl trivial ?_
          refine mz_Go.callV (I := IX11_order) (J := IX11_refuse) (as := [.inl (1 : Int32)]) (ci := 11) (g := 0) (o := 0) (idx := 100) (pl := 673) (rest := []) (mX11_refuse (1 : Int32) D) kX11_refuse vX11_refuse (by decide +kernel) (by decide +kernel) (by decide +kernel) rfl rfl ⟨rfl, rfl⟩ rfl rfl rfl rfl ?_
          cases h
          exact mz_Go.reti (by decide +kernel) rfl ⟨Nat.le_refl _, Nat.le_refl _⟩ rfl
        · have h := mz_ifn hc4 h
          exact mz_Go.drop [true, true, true] (tX11_order_37 r x1 x2 D h)
def bX11_strike_0 : List mz_E := [(0, .aload_n 0, 0, 0, 0, 0, 0), (1, .getfield 32, 11, 4, 563, 0, 0), (4, .getfield 183, 6, 1, 481, 0, 0), (7, .getfield 187, 1, 0, 352, 0, 0), (10, .ifCond .ne 10, 0, 20, 0, 0, 0)]
theorem oX11_strike_0 : bX11_strike_0.all (mz_ok RX11 cX11_strike 1) = true := by decide +kernel
def bX11_strike_13 : List mz_E := [(13, .aload_n 0, 0, 0, 0, 0, 0), (14, .bipush 6, 0, 0, 0, 6, 0)]
theorem oX11_strike_13 : bX11_strike_13.all (mz_ok RX11 cX11_strike 1) = true := by decide +kernel
def bX11_strike_20 : List mz_E := [(20, .aload_n 0, 0, 0, 0, 0, 0), (21, .aload_n 0, 0, 0, 0, 0, 0), (22, .getfield 32, 11, 4, 563, 0, 0), (25, .getfield 183, 6, 1, 481, 0, 0)]
theorem oX11_strike_20 : bX11_strike_20.all (mz_ok RX11 cX11_strike 1) = true := by decide +kernel
abbrev IX11_strike : mz_I := (yX11_strike, cX11_strike, 1, (some .int), 0, 1, 0, 0)
theorem kX11_strike : mz_okm IX11_strike 1129 126 1127 0 = true := by decide +kernel
theorem vX11_strike : mz_okV IX11_strike 1127 1128 = true := by decide +kernel
def fX11_strike (D : mz_D) : Option (Int32 × mz_D) := (if (D.1 1 109 0) = 0 then (some ((-1 : Int32), (mz_wi D 0 0 13 (6 : Int32)))) else (Option.bind (fX1_takeLast 1 D) fun q2 => (some (q2.1, (mz_wi q2.2 0 0 13 (0 : Int32))))))
set_option maxHeartbeats 4000000 in
theorem mX11_strike (D : mz_D) (r : (Int32 × mz_D)) (h : fX11_strike D = some r) : mz_Met IX11_strike [.inr (.inr (some (0, 0)))] D (some (.inl r.1), r.2) := by
  refine mz_Met.of (by decide +kernel) (Nat.le_of_ble_eq_true rfl) ?_
  show mz_Go IX11_strike (some (.inl r.1), r.2) 0 0 (0, [some (.inr (.inr (some (0, 0))))], [], D)
  rw [fX11_strike] at h
  refine mz_Go.run (gs := [mz_kz 0 0 0, mz_kz 0 1 100, mz_kz 0 1 109]) (st' := (if (D.1 1 109 0) = 0 then (13, [some (.inr (.inr (some (0, 0))))], [], D) else (20, [some (.inr (.inr (some (0, 0))))], [], D))) bX11_strike_0 oX11_strike_0 rfl ⟨rfl, rfl, rfl, trivial⟩ ?_
  refine mz_Go.ite (fun hc1 => ?_) (fun hc1 => ?_)
  · have h := mz_ifp hc1 h
    refine mz_Go.run (gs := []) (st' := (16, [some (.inr (.inr (some (0, 0))))], [.inl (6 : Int32), .inr (.inr (some (0, 0)))], D)) bX11_strike_13 oX11_strike_13 rfl trivial ?_
    refine mz_Go.callV (I := IX11_strike) (J := IX11_refuse) (as := [.inl (6 : Int32)]) (ci := 11) (g := 0) (o := 0) (idx := 100) (pl := 673) (rest := []) (mX11_refuse (6 : Int32) D) kX11_refuse vX11_refuse (by decide +kernel) (by decide +kernel) (by decide +kernel) rfl rfl ⟨rfl, rfl⟩ rfl rfl rfl rfl ?_
    cases h
    exact mz_Go.reti (by decide +kernel) rfl ⟨Nat.le_refl _, Nat.le_refl _⟩ rfl
  · have h := mz_ifn hc1 h
    refine mz_Go.run (gs := [mz_kz 0 0 0, mz_kz 0 1 100]) (st' := (28, [some (.inr (.inr (some (0, 0))))], [.inr (.inr (some (1, 109))), .inr (.inr (some (0, 0)))], D)) bX11_strike_20 oX11_strike_20 rfl ⟨rfl, rfl, trivial⟩ ?_
    obtain ⟨q2, hq2, h⟩ := mz_bd_some h
    refine mz_Go.callV (I := IX11_strike) (J := IX1_takeLast) (as := []) (ci := 1) (g := 1) (o := 109) (idx := 279) (pl := 1130) (rest := [.inr (.inr (some (0, 0)))]) (mX1_takeLast 1 D rfl q2 hq2) kX1_takeLast vX1_takeLast (by decide +kernel) (by decide +kernel) (by decide +kernel) rfl rfl ⟨rfl, rfl⟩ rfl rfl rfl rfl ?_
    refine mz_Go.callV (I := IX11_strike) (J := IX11_answer) (as := [.inl q2.1]) (ci := 11) (g := 0) (o := 0) (idx := 160) (pl := 914) (rest := []) (mX11_answer q2.1 q2.2) kX11_answer vX11_answer (by decide +kernel) (by decide +kernel) (by decide +kernel) rfl rfl ⟨rfl, rfl⟩ rfl rfl rfl rfl ?_
    cases h
    exact mz_Go.reti (by decide +kernel) rfl ⟨Nat.le_refl _, Nat.le_refl _⟩ rfl
def bX11_split_0 : List mz_E := [(0, .iload_n 1, 0, 0, 0, 0, 0)]
theorem oX11_split_0 : bX11_split_0.all (mz_ok RX11 cX11_split 2) = true := by decide +kernel
def bX11_split_4 : List mz_E := [(4, .ifCond .ne 9, 0, 13, 0, 0, 0)]
theorem oX11_split_4 : bX11_split_4.all (mz_ok RX11 cX11_split 2) = true := by decide +kernel
def bX11_split_7 : List mz_E := [(7, .aload_n 0, 0, 0, 0, 0, 0), (8, .iconst 1, 0, 0, 0, 1, 0)]
theorem oX11_split_7 : bX11_split_7.all (mz_ok RX11 cX11_split 2) = true := by decide +kernel
def bX11_split_13 : List mz_E := [(13, .aload_n 0, 0, 0, 0, 0, 0), (14, .getfield 32, 11, 4, 563, 0, 0), (17, .getfield 183, 6, 1, 481, 0, 0), (20, .iload_n 1, 0, 0, 0, 0, 0), (21, .putfield 190, 1, 1, 356, 0, 0), (24, .aload_n 0, 0, 0, 0, 0, 0)]
theorem oX11_split_13 : bX11_split_13.all (mz_ok RX11 cX11_split 2) = true := by decide +kernel
abbrev IX11_split : mz_I := (yX11_split, cX11_split, 2, (some .boolean), 0, 1, 0, 0)
theorem kX11_split : mz_okm IX11_split 1137 126 1135 1 = true := by decide +kernel
theorem vX11_split : mz_okV IX11_split 1135 1136 = true := by decide +kernel
def fX11_split (x1 : Int32) (D : mz_D) : Option (Int32 × mz_D) := (if (fX11_isSplit x1) = 0 then (some ((0 : Int32), (mz_wi D 0 0 13 (1 : Int32)))) else (some ((1 : Int32), (mz_wi (mz_wi D 1 109 1 x1) 0 0 13 (0 : Int32)))))
set_option maxHeartbeats 4000000 in
theorem mX11_split (x1 : Int32) (D : mz_D) (r : (Int32 × mz_D)) (h : fX11_split x1 D = some r) : mz_Met IX11_split [.inr (.inr (some (0, 0))), .inl x1] D (some (.inl r.1), r.2) := by
  refine mz_Met.of (by decide +kernel) (Nat.le_of_ble_eq_true rfl) ?_
  show mz_Go IX11_split (some (.inl r.1), r.2) 0 0 (0, [some (.inr (.inr (some (0, 0)))), some (.inl x1)], [], D)
  rw [fX11_split] at h
  refine mz_Go.run (gs := []) (st' := (1, [some (.inr (.inr (some (0, 0)))), some (.inl x1)], [.inl x1], D)) bX11_split_0 oX11_split_0 rfl trivial ?_
  refine mz_Go.callS (I := IX11_split) (J := IX11_isSplit) (as := [.inl x1]) (idx := 261) (pl := 1076) (rest := []) (mX11_isSplit x1 D _ rfl) kX11_isSplit vX11_isSplit (by decide +kernel) (by decide +kernel) (by decide +kernel) rfl rfl ⟨rfl, rfl⟩ rfl ?_
  refine mz_Go.run (gs := []) (st' := (if (fX11_isSplit x1) = 0 then (7, [some (.inr (.inr (some (0, 0)))), some (.inl x1)], [], D) else (13, [some (.inr (.inr (some (0, 0)))), some (.inl x1)], [], D))) bX11_split_4 oX11_split_4 rfl trivial ?_
  refine mz_Go.ite (fun hc1 => ?_) (fun hc1 => ?_)
  · have h := mz_ifp hc1 h
    refine mz_Go.run (gs := []) (st' := (9, [some (.inr (.inr (some (0, 0)))), some (.inl x1)], [.inl (1 : Int32), .inr (.inr (some (0, 0)))], D)) bX11_split_7 oX11_split_7 rfl trivial ?_
    refine mz_Go.callV (I := IX11_split) (J := IX11_deny) (as := [.inl (1 : Int32)]) (ci := 11) (g := 0) (o := 0) (idx := 81) (pl := 634) (rest := []) (mX11_deny (1 : Int32) D) kX11_deny vX11_deny (by decide +kernel) (by decide +kernel) (by decide +kernel) rfl rfl ⟨rfl, rfl⟩ rfl rfl rfl rfl ?_
    cases h
    exact mz_Go.retz (by decide +kernel) rfl ⟨Nat.le_refl _, Nat.le_refl _⟩ (by decide) rfl
  · have h := mz_ifn hc1 h
    refine mz_Go.run (gs := [mz_kz 0 0 0, mz_kz 0 1 100, mz_kz 0 1 109]) (st' := (25, [some (.inr (.inr (some (0, 0)))), some (.inl x1)], [.inr (.inr (some (0, 0)))], (mz_wi D 1 109 1 x1))) bX11_split_13 oX11_split_13 rfl ⟨rfl, rfl, rfl, trivial⟩ ?_
    refine mz_Go.callV (I := IX11_split) (J := IX11_grant) (as := []) (ci := 11) (g := 0) (o := 0) (idx := 88) (pl := 642) (rest := []) (mX11_grant (mz_wi D 1 109 1 x1)) kX11_grant vX11_grant (by decide +kernel) (by decide +kernel) (by decide +kernel) rfl rfl ⟨rfl, rfl⟩ rfl rfl rfl rfl ?_
    cases h
    exact mz_Go.retz (by decide +kernel) rfl ⟨Nat.le_refl _, Nat.le_refl _⟩ (by decide) rfl
def bX11_isLaw_0 : List mz_E := [(0, .iload_n 0, 0, 0, 0, 0, 0), (1, .ifCond .lt 12, 0, 13, 0, 0, 0)]
theorem oX11_isLaw_0 : bX11_isLaw_0.all (mz_ok RX11 cX11_isLaw 1) = true := by decide +kernel
def bX11_isLaw_13 : List mz_E := [(13, .iconst 0, 0, 0, 0, 0, 0)]
theorem oX11_isLaw_13 : bX11_isLaw_13.all (mz_ok RX11 cX11_isLaw 1) = true := by decide +kernel
def bX11_isLaw_4 : List mz_E := [(4, .iload_n 0, 0, 0, 0, 0, 0), (5, .iconst 3, 0, 0, 0, 3, 0), (6, .if_icmp .gt 7, 0, 13, 0, 0, 0)]
theorem oX11_isLaw_4 : bX11_isLaw_4.all (mz_ok RX11 cX11_isLaw 1) = true := by decide +kernel
def bX11_isLaw_9 : List mz_E := [(9, .iconst 1, 0, 0, 0, 1, 0), (10, .goto 4, 0, 14, 0, 0, 0)]
theorem oX11_isLaw_9 : bX11_isLaw_9.all (mz_ok RX11 cX11_isLaw 1) = true := by decide +kernel
abbrev IX11_isLaw : mz_I := (yX11_isLaw, cX11_isLaw, 1, (some .boolean), 9, 0, 0, 0)
theorem kX11_isLaw : mz_okm IX11_isLaw 1144 126 1143 1 = true := by decide +kernel
theorem vX11_isLaw : mz_okS IX11_isLaw 1143 = true := by decide +kernel
def fX11_isLaw (x0 : Int32) : Int32 := (if x0 < 0 then (0 : Int32) else (if (3 : Int32) < x0 then (0 : Int32) else (1 : Int32)))
set_option maxHeartbeats 4000000 in
theorem mX11_isLaw (x0 : Int32) (D : mz_D) (r : Int32) (h : fX11_isLaw x0 = r) : mz_Met IX11_isLaw [.inl x0] D (some (.inl r), D) := by
  refine mz_Met.of (by decide +kernel) (Nat.le_of_ble_eq_true rfl) ?_
  show mz_Go IX11_isLaw (some (.inl r), D) 0 0 (0, [some (.inl x0)], [], D)
  rw [fX11_isLaw] at h
  refine mz_Go.run (gs := []) (st' := (if x0 < 0 then (13, [some (.inl x0)], [], D) else (4, [some (.inl x0)], [], D))) bX11_isLaw_0 oX11_isLaw_0 rfl trivial ?_
  refine mz_Go.ite (fun hc1 => ?_) (fun hc1 => ?_)
  · have h := mz_ifp hc1 h
    refine mz_Go.run (gs := []) (st' := (14, [some (.inl x0)], [.inl (0 : Int32)], D)) bX11_isLaw_13 oX11_isLaw_13 rfl trivial ?_
    subst h
    exact mz_Go.retz (by decide +kernel) rfl ⟨Nat.le_refl _, Nat.le_refl _⟩ (by decide) rfl
  · have h := mz_ifn hc1 h
    refine mz_Go.run (gs := []) (st' := (if (3 : Int32) < x0 then (13, [some (.inl x0)], [], D) else (9, [some (.inl x0)], [], D))) bX11_isLaw_4 oX11_isLaw_4 rfl trivial ?_
    refine mz_Go.ite (fun hc2 => ?_) (fun hc2 => ?_)
    · have h := mz_ifp hc2 h
      refine mz_Go.run (gs := []) (st' := (14, [some (.inl x0)], [.inl (0 : Int32)], D)) bX11_isLaw_13 oX11_isLaw_13 rfl trivial ?_
      subst h
      exact mz_Go.retz (by decide +kernel) rfl ⟨Nat.le_refl _, Nat.le_refl _⟩ (by decide) rfl
    · have h := mz_ifn hc2 h
      refine mz_Go.run (gs := []) (st' := (14, [some (.inl x0)], [.inl (1 : Int32)], D)) bX11_isLaw_9 oX11_isLaw_9 rfl trivial ?_
      subst h
      exact mz_Go.retz (by decide +kernel) rfl ⟨Nat.le_refl _, Nat.le_refl _⟩ (by decide) rfl
def bX11_law_0 : List mz_E := [(0, .iload_n 1, 0, 0, 0, 0, 0)]
theorem oX11_law_0 : bX11_law_0.all (mz_ok RX11 cX11_law 2) = true := by decide +kernel
def bX11_law_4 : List mz_E := [(4, .ifCond .ne 9, 0, 13, 0, 0, 0)]
theorem oX11_law_4 : bX11_law_4.all (mz_ok RX11 cX11_law 2) = true := by decide +kernel
def bX11_law_7 : List mz_E := [(7, .aload_n 0, 0, 0, 0, 0, 0), (8, .iconst 1, 0, 0, 0, 1, 0)]
theorem oX11_law_7 : bX11_law_7.all (mz_ok RX11 cX11_law 2) = true := by decide +kernel
def bX11_law_13 : List mz_E := [(13, .aload_n 0, 0, 0, 0, 0, 0), (14, .getfield 32, 11, 4, 563, 0, 0), (17, .iload_n 1, 0, 0, 0, 0, 0), (18, .putfield 193, 6, 5, 495, 0, 0), (21, .aload_n 0, 0, 0, 0, 0, 0)]
theorem oX11_law_13 : bX11_law_13.all (mz_ok RX11 cX11_law 2) = true := by decide +kernel
abbrev IX11_law : mz_I := (yX11_law, cX11_law, 2, (some .boolean), 0, 1, 0, 0)
theorem kX11_law : mz_okm IX11_law 1141 126 1139 1 = true := by decide +kernel
theorem vX11_law : mz_okV IX11_law 1139 1140 = true := by decide +kernel
def fX11_law (x1 : Int32) (D : mz_D) : Option (Int32 × mz_D) := (if (fX11_isLaw x1) = 0 then (some ((0 : Int32), (mz_wi D 0 0 13 (1 : Int32)))) else (some ((1 : Int32), (mz_wi (mz_wi D 1 100 5 x1) 0 0 13 (0 : Int32)))))
set_option maxHeartbeats 4000000 in
theorem mX11_law (x1 : Int32) (D : mz_D) (r : (Int32 × mz_D)) (h : fX11_law x1 D = some r) : mz_Met IX11_law [.inr (.inr (some (0, 0))), .inl x1] D (some (.inl r.1), r.2) := by
  refine mz_Met.of (by decide +kernel) (Nat.le_of_ble_eq_true rfl) ?_
  show mz_Go IX11_law (some (.inl r.1), r.2) 0 0 (0, [some (.inr (.inr (some (0, 0)))), some (.inl x1)], [], D)
  rw [fX11_law] at h
  refine mz_Go.run (gs := []) (st' := (1, [some (.inr (.inr (some (0, 0)))), some (.inl x1)], [.inl x1], D)) bX11_law_0 oX11_law_0 rfl trivial ?_
  refine mz_Go.callS (I := IX11_law) (J := IX11_isLaw) (as := [.inl x1]) (idx := 282) (pl := 1142) (rest := []) (mX11_isLaw x1 D _ rfl) kX11_isLaw vX11_isLaw (by decide +kernel) (by decide +kernel) (by decide +kernel) rfl rfl ⟨rfl, rfl⟩ rfl ?_
  refine mz_Go.run (gs := []) (st' := (if (fX11_isLaw x1) = 0 then (7, [some (.inr (.inr (some (0, 0)))), some (.inl x1)], [], D) else (13, [some (.inr (.inr (some (0, 0)))), some (.inl x1)], [], D))) bX11_law_4 oX11_law_4 rfl trivial ?_
  refine mz_Go.ite (fun hc1 => ?_) (fun hc1 => ?_)
  · have h := mz_ifp hc1 h
    refine mz_Go.run (gs := []) (st' := (9, [some (.inr (.inr (some (0, 0)))), some (.inl x1)], [.inl (1 : Int32), .inr (.inr (some (0, 0)))], D)) bX11_law_7 oX11_law_7 rfl trivial ?_
    refine mz_Go.callV (I := IX11_law) (J := IX11_deny) (as := [.inl (1 : Int32)]) (ci := 11) (g := 0) (o := 0) (idx := 81) (pl := 634) (rest := []) (mX11_deny (1 : Int32) D) kX11_deny vX11_deny (by decide +kernel) (by decide +kernel) (by decide +kernel) rfl rfl ⟨rfl, rfl⟩ rfl rfl rfl rfl ?_
    cases h
    exact mz_Go.retz (by decide +kernel) rfl ⟨Nat.le_refl _, Nat.le_refl _⟩ (by decide) rfl
  · have h := mz_ifn hc1 h
    refine mz_Go.run (gs := [mz_kz 0 0 0, mz_kz 0 1 100]) (st' := (22, [some (.inr (.inr (some (0, 0)))), some (.inl x1)], [.inr (.inr (some (0, 0)))], (mz_wi D 1 100 5 x1))) bX11_law_13 oX11_law_13 rfl ⟨rfl, rfl, trivial⟩ ?_
    refine mz_Go.callV (I := IX11_law) (J := IX11_grant) (as := []) (ci := 11) (g := 0) (o := 0) (idx := 88) (pl := 642) (rest := []) (mX11_grant (mz_wi D 1 100 5 x1)) kX11_grant vX11_grant (by decide +kernel) (by decide +kernel) (by decide +kernel) rfl rfl ⟨rfl, rfl⟩ rfl rfl rfl rfl ?_
    cases h
    exact mz_Go.retz (by decide +kernel) rfl ⟨Nat.le_refl _, Nat.le_refl _⟩ (by decide) rfl
def bX11_padded_0 : List mz_E := [(0, .iload_n 1, 0, 0, 0, 0, 0), (1, .ifCond .lt 10, 0, 11, 0, 0, 0)]
theorem oX11_padded_0 : bX11_padded_0.all (mz_ok RX11 cX11_padded 2) = true := by decide +kernel
def bX11_padded_11 : List mz_E := [(11, .aload_n 0, 0, 0, 0, 0, 0), (12, .iconst 1, 0, 0, 0, 1, 0)]
theorem oX11_padded_11 : bX11_padded_11.all (mz_ok RX11 cX11_padded 2) = true := by decide +kernel
def bX11_padded_4 : List mz_E := [(4, .iload_n 1, 0, 0, 0, 0, 0), (5, .ldc_w 297, 0, 0, 1164, 99999, 0), (8, .if_icmp .le 9, 0, 17, 0, 0, 0)]
theorem oX11_padded_4 : bX11_padded_4.all (mz_ok RX11 cX11_padded 2) = true := by decide +kernel
def bX11_padded_17 : List mz_E := [(17, .aload_n 0, 0, 0, 0, 0, 0), (18, .iload_n 1, 0, 0, 0, 0, 0), (19, .aload_n 0, 0, 0, 0, 0, 0), (20, .getfield 32, 11, 4, 563, 0, 0), (23, .getfield 183, 6, 1, 481, 0, 0)]
theorem oX11_padded_17 : bX11_padded_17.all (mz_ok RX11 cX11_padded 2) = true := by decide +kernel
def bX11_padded_29 : List mz_E := [(29, .isub, 0, 0, 0, 0, 0)]
theorem oX11_padded_29 : bX11_padded_29.all (mz_ok RX11 cX11_padded 2) = true := by decide +kernel
abbrev IX11_padded : mz_I := (yX11_padded, cX11_padded, 2, (some .int), 0, 1, 0, 0)
theorem kX11_padded : mz_okm IX11_padded 1163 126 1161 1 = true := by decide +kernel
theorem vX11_padded : mz_okV IX11_padded 1161 1162 = true := by decide +kernel
def fX11_padded (x1 : Int32) (D : mz_D) : Option (Int32 × mz_D) := (if x1 < 0 then (some ((-1 : Int32), (mz_wi D 0 0 13 (1 : Int32)))) else (if x1 ≤ (99999 : Int32) then (Option.bind (fX1_total 1 D) fun q3 => (some ((x1 - q3), (mz_wi D 0 0 13 (0 : Int32))))) else (some ((-1 : Int32), (mz_wi D 0 0 13 (1 : Int32))))))
set_option maxHeartbeats 4000000 in
theorem mX11_padded (x1 : Int32) (D : mz_D) (r : (Int32 × mz_D)) (h : fX11_padded x1 D = some r) : mz_Met IX11_padded [.inr (.inr (some (0, 0))), .inl x1] D (some (.inl r.1), r.2) := by
  refine mz_Met.of (by decide +kernel) (Nat.le_of_ble_eq_true rfl) ?_
  show mz_Go IX11_padded (some (.inl r.1), r.2) 0 0 (0, [some (.inr (.inr (some (0, 0)))), some (.inl x1)], [], D)
  rw [fX11_padded] at h
  refine mz_Go.run (gs := []) (st' := (if x1 < 0 then (11, [some (.inr (.inr (some (0, 0)))), some (.inl x1)], [], D) else (4, [some (.inr (.inr (some (0, 0)))), some (.inl x1)], [], D))) bX11_padded_0 oX11_padded_0 rfl trivial ?_
  refine mz_Go.ite (fun hc1 => ?_) (fun hc1 => ?_)
  · have h := mz_ifp hc1 h
    refine mz_Go.run (gs := []) (st' := (13, [some (.inr (.inr (some (0, 0)))), some (.inl x1)], [.inl (1 : Int32), .inr (.inr (some (0, 0)))], D)) bX11_padded_11 oX11_padded_11 rfl trivial ?_
    refine mz_Go.callV (I := IX11_padded) (J := IX11_refuse) (as := [.inl (1 : Int32)]) (ci := 11) (g := 0) (o := 0) (idx := 100) (pl := 673) (rest := []) (mX11_refuse (1 : Int32) D) kX11_refuse vX11_refuse (by decide +kernel) (by decide +kernel) (by decide +kernel) rfl rfl ⟨rfl, rfl⟩ rfl rfl rfl rfl ?_
    cases h
    exact mz_Go.reti (by decide +kernel) rfl ⟨Nat.le_refl _, Nat.le_refl _⟩ rfl
  · have h := mz_ifn hc1 h
    refine mz_Go.run (gs := []) (st' := (if x1 ≤ (99999 : Int32) then (17, [some (.inr (.inr (some (0, 0)))), some (.inl x1)], [], D) else (11, [some (.inr (.inr (some (0, 0)))), some (.inl x1)], [], D))) bX11_padded_4 oX11_padded_4 rfl trivial ?_
    refine mz_Go.ite (fun hc2 => ?_) (fun hc2 => ?_)
    · have h := mz_ifp hc2 h
      refine mz_Go.run (gs := [mz_kz 0 0 0, mz_kz 0 1 100]) (st' := (26, [some (.inr (.inr (some (0, 0)))), some (.inl x1)], [.inr (.inr (some (1, 109))), .inl x1, .inr (.inr (some (0, 0)))], D)) bX11_padded_17 oX11_padded_17 rfl ⟨rfl, rfl, trivial⟩ ?_
      obtain ⟨q3, hq3, h⟩ := mz_bd_some h
      refine mz_Go.callV (I := IX11_padded) (J := IX1_total) (as := []) (ci := 1) (g := 1) (o := 109) (idx := 196) (pl := 1019) (rest := [.inl x1, .inr (.inr (some (0, 0)))]) (mX1_total 1 D rfl q3 hq3) kX1_total vX1_total (by decide +kernel) (by decide +kernel) (by decide +kernel) rfl rfl ⟨rfl, rfl⟩ rfl rfl rfl rfl ?_
      refine mz_Go.run (gs := []) (st' := (30, [some (.inr (.inr (some (0, 0)))), some (.inl x1)], [.inl (x1 - q3), .inr (.inr (some (0, 0)))], D)) bX11_padded_29 oX11_padded_29 rfl trivial ?_
      refine mz_Go.callV (I := IX11_padded) (J := IX11_answer) (as := [.inl (x1 - q3)]) (ci := 11) (g := 0) (o := 0) (idx := 160) (pl := 914) (rest := []) (mX11_answer (x1 - q3) D) kX11_answer vX11_answer (by decide +kernel) (by decide +kernel) (by decide +kernel) rfl rfl ⟨rfl, rfl⟩ rfl rfl rfl rfl ?_
      cases h
      exact mz_Go.reti (by decide +kernel) rfl ⟨Nat.le_refl _, Nat.le_refl _⟩ rfl
    · have h := mz_ifn hc2 h
      refine mz_Go.run (gs := []) (st' := (13, [some (.inr (.inr (some (0, 0)))), some (.inl x1)], [.inl (1 : Int32), .inr (.inr (some (0, 0)))], D)) bX11_padded_11 oX11_padded_11 rfl trivial ?_
      refine mz_Go.callV (I := IX11_padded) (J := IX11_refuse) (as := [.inl (1 : Int32)]) (ci := 11) (g := 0) (o := 0) (idx := 100) (pl := 673) (rest := []) (mX11_refuse (1 : Int32) D) kX11_refuse vX11_refuse (by decide +kernel) (by decide +kernel) (by decide +kernel) rfl rfl ⟨rfl, rfl⟩ rfl rfl rfl rfl ?_
      cases h
      exact mz_Go.reti (by decide +kernel) rfl ⟨Nat.le_refl _, Nat.le_refl _⟩ rfl
def bX11_pay_0 : List mz_E := [(0, .aload_n 0, 0, 0, 0, 0, 0), (1, .getfield 32, 11, 4, 563, 0, 0), (4, .getfield 151, 6, 0, 477, 0, 0), (7, .iload_n 1, 0, 0, 0, 0, 0)]
theorem oX11_pay_0 : bX11_pay_0.all (mz_ok RX11 cX11_pay 2) = true := by decide +kernel
def bX11_pay_11 : List mz_E := [(11, .ifCond .ne 9, 0, 20, 0, 0, 0)]
theorem oX11_pay_11 : bX11_pay_11.all (mz_ok RX11 cX11_pay 2) = true := by decide +kernel
def bX11_pay_14 : List mz_E := [(14, .aload_n 0, 0, 0, 0, 0, 0), (15, .iconst 1, 0, 0, 0, 1, 0)]
theorem oX11_pay_14 : bX11_pay_14.all (mz_ok RX11 cX11_pay 2) = true := by decide +kernel
def bX11_pay_20 : List mz_E := [(20, .aload_n 0, 0, 0, 0, 0, 0), (21, .getfield 32, 11, 4, 563, 0, 0), (24, .getfield 183, 6, 1, 481, 0, 0), (27, .aload_n 0, 0, 0, 0, 0, 0), (28, .getfield 32, 11, 4, 563, 0, 0), (31, .getfield 151, 6, 0, 477, 0, 0), (34, .aload_n 0, 0, 0, 0, 0, 0), (35, .getfield 32, 11, 4, 563, 0, 0), (38, .getfield 183, 6, 1, 481, 0, 0), (41, .getfield 190, 1, 1, 356, 0, 0), (44, .aload_n 0, 0, 0, 0, 0, 0), (45, .getfield 54, 11, 11, 570, 0, 0)]
theorem oX11_pay_20 : bX11_pay_20.all (mz_ok RX11 cX11_pay 2) = true := by decide +kernel
def bX11_pay_51 : List mz_E := [(51, .aload_n 0, 0, 0, 0, 0, 0), (52, .getfield 32, 11, 4, 563, 0, 0), (55, .iload_n 1, 0, 0, 0, 0, 0), (56, .aload_n 0, 0, 0, 0, 0, 0), (57, .getfield 54, 11, 11, 570, 0, 0)]
theorem oX11_pay_51 : bX11_pay_51.all (mz_ok RX11 cX11_pay 2) = true := by decide +kernel
def bX11_pay_63 : List mz_E := [(63, .ifCond .ne 10, 0, 73, 0, 0, 0)]
theorem oX11_pay_63 : bX11_pay_63.all (mz_ok RX11 cX11_pay 2) = true := by decide +kernel
def bX11_pay_66 : List mz_E := [(66, .aload_n 0, 0, 0, 0, 0, 0), (67, .bipush 7, 0, 0, 0, 7, 0)]
theorem oX11_pay_66 : bX11_pay_66.all (mz_ok RX11 cX11_pay 2) = true := by decide +kernel
def bX11_pay_73 : List mz_E := [(73, .aload_n 0, 0, 0, 0, 0, 0), (74, .aload_n 0, 0, 0, 0, 0, 0), (75, .getfield 32, 11, 4, 563, 0, 0), (78, .getfield 151, 6, 0, 477, 0, 0), (81, .getfield 248, 4, 9, 322, 0, 0), (84, .iload_n 1, 0, 0, 0, 0, 0), (85, .iaload, 0, 0, 0, 0, 0)]
theorem oX11_pay_73 : bX11_pay_73.all (mz_ok RX11 cX11_pay 2) = true := by decide +kernel
abbrev IX11_pay : mz_I := (yX11_pay, cX11_pay, 2, (some .int), 0, 4, 0, 0)
theorem kX11_pay : mz_okm IX11_pay 1168 126 1166 1 = true := by decide +kernel
theorem vX11_pay : mz_okV IX11_pay 1166 1167 = true := by decide +kernel
def fX11_pay (x1 : Int32) (D : mz_D) : Option (Int32 × mz_D) := (if (fX4_has 1 x1 D) = 0 then (some ((-1 : Int32), (mz_wi D 0 0 13 (1 : Int32)))) else (Option.bind (fX1_fillDues_14 1 1 (D.1 1 109 1) D) fun q2 => (Option.bind (fX6_charge_14 1 x1 q2) fun q3 => (if q3.1 = 0 then (some ((-1 : Int32), (mz_wi q3.2 0 0 13 (7 : Int32)))) else (mz_gd (mz_ix x1 6) (some ((q3.2.1 1 108 (x1).toNatClampNeg), (mz_wi q3.2 0 0 13 (0 : Int32)))))))))
set_option maxHeartbeats 4000000 in
theorem mX11_pay (x1 : Int32) (D : mz_D) (r : (Int32 × mz_D)) (h : fX11_pay x1 D = some r) : mz_Met IX11_pay [.inr (.inr (some (0, 0))), .inl x1] D (some (.inl r.1), r.2) := by
  refine mz_Met.of (by decide +kernel) (Nat.le_of_ble_eq_true rfl) ?_
  show mz_Go IX11_pay (some (.inl r.1), r.2) 0 0 (0, [some (.inr (.inr (some (0, 0)))), some (.inl x1)], [], D)
  rw [fX11_pay] at h
  refine mz_Go.run (gs := [mz_kz 0 0 0, mz_kz 0 1 100]) (st' := (8, [some (.inr (.inr (some (0, 0)))), some (.inl x1)], [.inl x1, .inr (.inr (some (1, 101)))], D)) bX11_pay_0 oX11_pay_0 rfl ⟨rfl, rfl, trivial⟩ ?_
  refine mz_Go.callV (I := IX11_pay) (J := IX4_has) (as := [.inl x1]) (ci := 4) (g := 1) (o := 101) (idx := 229) (pl := 1042) (rest := []) (mX4_has 1 x1 D rfl _ rfl) kX4_has vX4_has (by decide +kernel) (by decide +kernel) (by decide +kernel) rfl rfl ⟨rfl, rfl⟩ rfl rfl rfl rfl ?_
  refine mz_Go.run (gs := []) (st' := (if (fX4_has 1 x1 D) = 0 then (14, [some (.inr (.inr (some (0, 0)))), some (.inl x1)], [], D) else (20, [some (.inr (.inr (some (0, 0)))), some (.inl x1)], [], D))) bX11_pay_11 oX11_pay_11 rfl trivial ?_
  refine mz_Go.ite (fun hc1 => ?_) (fun hc1 => ?_)
  · have h := mz_ifp hc1 h
    refine mz_Go.run (gs := []) (st' := (16, [some (.inr (.inr (some (0, 0)))), some (.inl x1)], [.inl (1 : Int32), .inr (.inr (some (0, 0)))], D)) bX11_pay_14 oX11_pay_14 rfl trivial ?_
    refine mz_Go.callV (I := IX11_pay) (J := IX11_refuse) (as := [.inl (1 : Int32)]) (ci := 11) (g := 0) (o := 0) (idx := 100) (pl := 673) (rest := []) (mX11_refuse (1 : Int32) D) kX11_refuse vX11_refuse (by decide +kernel) (by decide +kernel) (by decide +kernel) rfl rfl ⟨rfl, rfl⟩ rfl rfl rfl rfl ?_
    cases h
    exact mz_Go.reti (by decide +kernel) rfl ⟨Nat.le_refl _, Nat.le_refl _⟩ rfl
  · have h := mz_ifn hc1 h
    refine mz_Go.run (gs := [mz_kz 0 0 0, mz_kz 0 1 100, mz_kz 0 0 0, mz_kz 0 1 100, mz_kz 0 0 0, mz_kz 0 1 100, mz_kz 0 1 109, mz_kz 0 0 0]) (st' := (48, [some (.inr (.inr (some (0, 0)))), some (.inl x1)], [.inr (.inr (some (0, 14))), .inl (D.1 1 109 1), .inr (.inr (some (1, 101))), .inr (.inr (some (1, 109)))], D)) bX11_pay_20 oX11_pay_20 rfl ⟨rfl, rfl, rfl, rfl, rfl, rfl, rfl, rfl, trivial⟩ ?_
    obtain ⟨q2, hq2, h⟩ := mz_bd_some h
    refine mz_Go.callV (I := IX11_pay) (J := IX1_fillDues_14) (as := [.inr (.inr (some (1, 101))), .inl (D.1 1 109 1), .inr (.inr (some (0, 14)))]) (ci := 1) (g := 1) (o := 109) (idx := 264) (pl := 1079) (rest := []) (mX1_fillDues_14 1 1 (D.1 1 109 1) D rfl rfl q2 hq2) kX1_fillDues_14 vX1_fillDues_14 (by decide +kernel) (by decide +kernel) (by decide +kernel) rfl rfl ⟨rfl, rfl⟩ rfl rfl rfl rfl ?_
    refine mz_Go.run (gs := [mz_kz 0 0 0, mz_kz 0 0 0]) (st' := (60, [some (.inr (.inr (some (0, 0)))), some (.inl x1)], [.inr (.inr (some (0, 14))), .inl x1, .inr (.inr (some (1, 100)))], q2)) bX11_pay_51 oX11_pay_51 rfl ⟨rfl, rfl, trivial⟩ ?_
    obtain ⟨q3, hq3, h⟩ := mz_bd_some h
    refine mz_Go.callV (I := IX11_pay) (J := IX6_charge_14) (as := [.inl x1, .inr (.inr (some (0, 14)))]) (ci := 6) (g := 1) (o := 100) (idx := 298) (pl := 1169) (rest := []) (mX6_charge_14 1 x1 q2 rfl q3 hq3) kX6_charge_14 vX6_charge_14 (by decide +kernel) (by decide +kernel) (by decide +kernel) rfl rfl ⟨rfl, rfl⟩ rfl rfl rfl rfl ?_
    refine mz_Go.run (gs := []) (st' := (if q3.1 = 0 then (66, [some (.inr (.inr (some (0, 0)))), some (.inl x1)], [], q3.2) else (73, [some (.inr (.inr (some (0, 0)))), some (.inl x1)], [], q3.2))) bX11_pay_63 oX11_pay_63 rfl trivial ?_
    refine mz_Go.ite (fun hc4 => ?_) (fun hc4 => ?_)
    · have h := mz_ifp hc4 h
      refine mz_Go.run (gs := []) (st' := (69, [some (.inr (.inr (some (0, 0)))), some (.inl x1)], [.inl (7 : Int32), .inr (.inr (some (0, 0)))], q3.2)) bX11_pay_66 oX11_pay_66 rfl trivial ?_
      refine mz_Go.callV (I := IX11_pay) (J := IX11_refuse) (as := [.inl (7 : Int32)]) (ci := 11) (g := 0) (o := 0) (idx := 100) (pl := 673) (rest := []) (mX11_refuse (7 : Int32) q3.2) kX11_refuse vX11_refuse (by decide +kernel) (by decide +kernel) (by decide +kernel) rfl rfl ⟨rfl, rfl⟩ rfl rfl rfl rfl ?_
      cases h
      exact mz_Go.reti (by decide +kernel) rfl ⟨Nat.le_refl _, Nat.le_refl _⟩ rfl
    · have h := mz_ifn hc4 h
      obtain ⟨hb5, h⟩ := mz_gd_some h
      refine mz_Go.run (gs := [mz_kz 0 0 0, mz_kz 0 1 100, mz_kz 0 1 101, mz_kz 0 1 108, mz_ix x1 6]) (st' := (86, [some (.inr (.inr (some (0, 0)))), some (.inl x1)], [.inl (q3.2.1 1 108 (x1).toNatClampNeg), .inr (.inr (some (0, 0)))], q3.2)) bX11_pay_73 oX11_pay_73 rfl ⟨rfl, rfl, rfl, rfl, hb5, trivial⟩ ?_
      refine mz_Go.callV (I := IX11_pay) (J := IX11_answer) (as := [.inl (q3.2.1 1 108 (x1).toNatClampNeg)]) (ci := 11) (g := 0) (o := 0) (idx := 160) (pl := 914) (rest := []) (mX11_answer (q3.2.1 1 108 (x1).toNatClampNeg) q3.2) kX11_answer vX11_answer (by decide +kernel) (by decide +kernel) (by decide +kernel) rfl rfl ⟨rfl, rfl⟩ rfl rfl rfl rfl ?_
      cases h
      exact mz_Go.reti (by decide +kernel) rfl ⟨Nat.le_refl _, Nat.le_refl _⟩ rfl
def bX11_turn_0 : List mz_E := [(0, .aload_n 0, 0, 0, 0, 0, 0), (1, .aload_n 0, 0, 0, 0, 0, 0), (2, .getfield 32, 11, 4, 563, 0, 0), (5, .aload_n 0, 0, 0, 0, 0, 0), (6, .getfield 32, 11, 4, 563, 0, 0), (9, .getfield 193, 6, 5, 495, 0, 0)]
theorem oX11_turn_0 : bX11_turn_0.all (mz_ok RX11 cX11_turn 1) = true := by decide +kernel
abbrev IX11_turn : mz_I := (yX11_turn, cX11_turn, 1, (some .int), 0, 3, 0, 0)
theorem kX11_turn : mz_okm IX11_turn 1191 126 1189 0 = true := by decide +kernel
theorem vX11_turn : mz_okV IX11_turn 1189 1190 = true := by decide +kernel
def fX11_turn (D : mz_D) : Option (Int32 × mz_D) := (Option.bind (fX6_nextPayer 1 (D.1 1 100 5) D) fun q1 => (Option.bind (fX11_answerIfAny q1 D) fun q2 => (some (q2.1, q2.2))))
set_option maxHeartbeats 4000000 in
theorem mX11_turn (D : mz_D) (r : (Int32 × mz_D)) (h : fX11_turn D = some r) : mz_Met IX11_turn [.inr (.inr (some (0, 0)))] D (some (.inl r.1), r.2) := by
  refine mz_Met.of (by decide +kernel) (Nat.le_of_ble_eq_true rfl) ?_
  show mz_Go IX11_turn (some (.inl r.1), r.2) 0 0 (0, [some (.inr (.inr (some (0, 0))))], [], D)
  rw [fX11_turn] at h
  refine mz_Go.run (gs := [mz_kz 0 0 0, mz_kz 0 0 0, mz_kz 0 1 100]) (st' := (12, [some (.inr (.inr (some (0, 0))))], [.inl (D.1 1 100 5), .inr (.inr (some (1, 100))), .inr (.inr (some (0, 0)))], D)) bX11_turn_0 oX11_turn_0 rfl ⟨rfl, rfl, rfl, trivial⟩ ?_
  obtain ⟨q1, hq1, h⟩ := mz_bd_some h
  refine mz_Go.callV (I := IX11_turn) (J := IX6_nextPayer) (as := [.inl (D.1 1 100 5)]) (ci := 6) (g := 1) (o := 100) (idx := 302) (pl := 1192) (rest := [.inr (.inr (some (0, 0)))]) (mX6_nextPayer 1 (D.1 1 100 5) D rfl q1 hq1) kX6_nextPayer vX6_nextPayer (by decide +kernel) (by decide +kernel) (by decide +kernel) rfl rfl ⟨rfl, rfl⟩ rfl rfl rfl rfl ?_
  obtain ⟨q2, hq2, h⟩ := mz_bd_some h
  refine mz_Go.callV (I := IX11_turn) (J := IX11_answerIfAny) (as := [.inl q1]) (ci := 11) (g := 0) (o := 0) (idx := 245) (pl := 1046) (rest := []) (mX11_answerIfAny q1 D q2 hq2) kX11_answerIfAny vX11_answerIfAny (by decide +kernel) (by decide +kernel) (by decide +kernel) rfl rfl ⟨rfl, rfl⟩ rfl rfl rfl rfl ?_
  cases h
  exact mz_Go.reti (by decide +kernel) rfl ⟨Nat.le_refl _, Nat.le_refl _⟩ rfl
def bX11_turnBy_0 : List mz_E := [(0, .iload_n 1, 0, 0, 0, 0, 0)]
theorem oX11_turnBy_0 : bX11_turnBy_0.all (mz_ok RX11 cX11_turnBy 2) = true := by decide +kernel
def bX11_turnBy_4 : List mz_E := [(4, .ifCond .eq 18, 0, 22, 0, 0, 0)]
theorem oX11_turnBy_4 : bX11_turnBy_4.all (mz_ok RX11 cX11_turnBy 2) = true := by decide +kernel
def bX11_turnBy_22 : List mz_E := [(22, .aload_n 0, 0, 0, 0, 0, 0), (23, .iconst 1, 0, 0, 0, 1, 0)]
theorem oX11_turnBy_22 : bX11_turnBy_22.all (mz_ok RX11 cX11_turnBy 2) = true := by decide +kernel
def bX11_turnBy_7 : List mz_E := [(7, .aload_n 0, 0, 0, 0, 0, 0), (8, .aload_n 0, 0, 0, 0, 0, 0), (9, .getfield 32, 11, 4, 563, 0, 0), (12, .iload_n 1, 0, 0, 0, 0, 0)]
theorem oX11_turnBy_7 : bX11_turnBy_7.all (mz_ok RX11 cX11_turnBy 2) = true := by decide +kernel
def bX11_turnBy_19 : List mz_E := [(19, .goto 8, 0, 27, 0, 0, 0)]
theorem oX11_turnBy_19 : bX11_turnBy_19.all (mz_ok RX11 cX11_turnBy 2) = true := by decide +kernel
abbrev IX11_turnBy : mz_I := (yX11_turnBy, cX11_turnBy, 2, (some .int), 0, 3, 0, 0)
theorem kX11_turnBy : mz_okm IX11_turnBy 1209 126 1207 1 = true := by decide +kernel
theorem vX11_turnBy : mz_okV IX11_turnBy 1207 1208 = true := by decide +kernel
def fX11_turnBy (x1 : Int32) (D : mz_D) : Option (Int32 × mz_D) := (if (fX11_isLaw x1) = 0 then (some ((-1 : Int32), (mz_wi D 0 0 13 (1 : Int32)))) else (Option.bind (fX6_nextPayer 1 x1 D) fun q2 => (Option.bind (fX11_answerIfAny q2 D) fun q3 => (some (q3.1, q3.2)))))
set_option maxHeartbeats 4000000 in
theorem mX11_turnBy (x1 : Int32) (D : mz_D) (r : (Int32 × mz_D)) (h : fX11_turnBy x1 D = some r) : mz_Met IX11_turnBy [.inr (.inr (some (0, 0))), .inl x1] D (some (.inl r.1), r.2) := by
  refine mz_Met.of (by decide +kernel) (Nat.le_of_ble_eq_true rfl) ?_
  show mz_Go IX11_turnBy (some (.inl r.1), r.2) 0 0 (0, [some (.inr (.inr (some (0, 0)))), some (.inl x1)], [], D)
  rw [fX11_turnBy] at h
  refine mz_Go.run (gs := []) (st' := (1, [some (.inr (.inr (some (0, 0)))), some (.inl x1)], [.inl x1], D)) bX11_turnBy_0 oX11_turnBy_0 rfl trivial ?_
  refine mz_Go.callS (I := IX11_turnBy) (J := IX11_isLaw) (as := [.inl x1]) (idx := 282) (pl := 1142) (rest := []) (mX11_isLaw x1 D _ rfl) kX11_isLaw vX11_isLaw (by decide +kernel) (by decide +kernel) (by decide +kernel) rfl rfl ⟨rfl, rfl⟩ rfl ?_
  refine mz_Go.run (gs := []) (st' := (if (fX11_isLaw x1) = 0 then (22, [some (.inr (.inr (some (0, 0)))), some (.inl x1)], [], D) else (7, [some (.inr (.inr (some (0, 0)))), some (.inl x1)], [], D))) bX11_turnBy_4 oX11_turnBy_4 rfl trivial ?_
  refine mz_Go.ite (fun hc1 => ?_) (fun hc1 => ?_)
  · have h := mz_ifp hc1 h
    refine mz_Go.run (gs := []) (st' := (24, [some (.inr (.inr (some (0, 0)))), some (.inl x1)], [.inl (1 : Int32), .inr (.inr (some (0, 0)))], D)) bX11_turnBy_22 oX11_turnBy_22 rfl trivial ?_
    refine mz_Go.callV (I := IX11_turnBy) (J := IX11_refuse) (as := [.inl (1 : Int32)]) (ci := 11) (g := 0) (o := 0) (idx := 100) (pl := 673) (rest := []) (mX11_refuse (1 : Int32) D) kX11_refuse vX11_refuse (by decide +kernel) (by decide +kernel) (by decide +kernel) rfl rfl ⟨rfl, rfl⟩ rfl rfl rfl rfl ?_
    cases h
    exact mz_Go.reti (by decide +kernel) rfl ⟨Nat.le_refl _, Nat.le_refl _⟩ rfl
  · have h := mz_ifn hc1 h
    refine mz_Go.run (gs := [mz_kz 0 0 0]) (st' := (13, [some (.inr (.inr (some (0, 0)))), some (.inl x1)], [.inl x1, .inr (.inr (some (1, 100))), .inr (.inr (some (0, 0)))], D)) bX11_turnBy_7 oX11_turnBy_7 rfl ⟨rfl, trivial⟩ ?_
    obtain ⟨q2, hq2, h⟩ := mz_bd_some h
    refine mz_Go.callV (I := IX11_turnBy) (J := IX6_nextPayer) (as := [.inl x1]) (ci := 6) (g := 1) (o := 100) (idx := 302) (pl := 1192) (rest := [.inr (.inr (some (0, 0)))]) (mX6_nextPayer 1 x1 D rfl q2 hq2) kX6_nextPayer vX6_nextPayer (by decide +kernel) (by decide +kernel) (by decide +kernel) rfl rfl ⟨rfl, rfl⟩ rfl rfl rfl rfl ?_
    obtain ⟨q3, hq3, h⟩ := mz_bd_some h
    refine mz_Go.callV (I := IX11_turnBy) (J := IX11_answerIfAny) (as := [.inl q2]) (ci := 11) (g := 0) (o := 0) (idx := 245) (pl := 1046) (rest := []) (mX11_answerIfAny q2 D q3 hq3) kX11_answerIfAny vX11_answerIfAny (by decide +kernel) (by decide +kernel) (by decide +kernel) rfl rfl ⟨rfl, rfl⟩ rfl rfl rfl rfl ?_
    refine mz_Go.run (gs := []) (st' := (27, [some (.inr (.inr (some (0, 0)))), some (.inl x1)], [.inl q3.1], q3.2)) bX11_turnBy_19 oX11_turnBy_19 rfl trivial ?_
    cases h
    exact mz_Go.reti (by decide +kernel) rfl ⟨Nat.le_refl _, Nat.le_refl _⟩ rfl
def bX11_areTwo_0 : List mz_E := [(0, .iload_n 1, 0, 0, 0, 0, 0), (1, .iload_n 2, 0, 0, 0, 0, 0), (2, .if_icmp .eq 35, 0, 37, 0, 0, 0)]
theorem oX11_areTwo_0 : bX11_areTwo_0.all (mz_ok RX11 cX11_areTwo 3) = true := by decide +kernel
def bX11_areTwo_37 : List mz_E := [(37, .iconst 0, 0, 0, 0, 0, 0)]
theorem oX11_areTwo_37 : bX11_areTwo_37.all (mz_ok RX11 cX11_areTwo 3) = true := by decide +kernel
def bX11_areTwo_5 : List mz_E := [(5, .aload_n 0, 0, 0, 0, 0, 0), (6, .getfield 32, 11, 4, 563, 0, 0), (9, .getfield 151, 6, 0, 477, 0, 0), (12, .iload_n 1, 0, 0, 0, 0, 0)]
theorem oX11_areTwo_5 : bX11_areTwo_5.all (mz_ok RX11 cX11_areTwo 3) = true := by decide +kernel
def bX11_areTwo_16 : List mz_E := [(16, .ifCond .eq 21, 0, 37, 0, 0, 0)]
theorem oX11_areTwo_16 : bX11_areTwo_16.all (mz_ok RX11 cX11_areTwo 3) = true := by decide +kernel
def bX11_areTwo_19 : List mz_E := [(19, .aload_n 0, 0, 0, 0, 0, 0), (20, .getfield 32, 11, 4, 563, 0, 0), (23, .getfield 151, 6, 0, 477, 0, 0), (26, .iload_n 2, 0, 0, 0, 0, 0)]
theorem oX11_areTwo_19 : bX11_areTwo_19.all (mz_ok RX11 cX11_areTwo 3) = true := by decide +kernel
def bX11_areTwo_30 : List mz_E := [(30, .ifCond .eq 7, 0, 37, 0, 0, 0)]
theorem oX11_areTwo_30 : bX11_areTwo_30.all (mz_ok RX11 cX11_areTwo 3) = true := by decide +kernel
def bX11_areTwo_33 : List mz_E := [(33, .iconst 1, 0, 0, 0, 1, 0), (34, .goto 4, 0, 38, 0, 0, 0)]
theorem oX11_areTwo_33 : bX11_areTwo_33.all (mz_ok RX11 cX11_areTwo 3) = true := by decide +kernel
abbrev IX11_areTwo : mz_I := (yX11_areTwo, cX11_areTwo, 3, (some .boolean), 0, 1, 0, 0)
theorem kX11_areTwo : mz_okm IX11_areTwo 1221 126 1220 2 = true := by decide +kernel
theorem vX11_areTwo : mz_okV IX11_areTwo 1220 30 = true := by decide +kernel
def fX11_areTwo (x1 : Int32) (x2 : Int32) (D : mz_D) : Int32 := (if x1 = x2 then (0 : Int32) else (if (fX4_has 1 x1 D) = 0 then (0 : Int32) else (if (fX4_has 1 x2 D) = 0 then (0 : Int32) else (1 : Int32))))
set_option maxHeartbeats 4000000 in
theorem mX11_areTwo (x1 : Int32) (x2 : Int32) (D : mz_D) (r : Int32) (h : fX11_areTwo x1 x2 D = r) : mz_Met IX11_areTwo [.inr (.inr (some (0, 0))), .inl x1, .inl x2] D (some (.inl r), D) := by
  refine mz_Met.of (by decide +kernel) (Nat.le_of_ble_eq_true rfl) ?_
  show mz_Go IX11_areTwo (some (.inl r), D) 0 0 (0, [some (.inr (.inr (some (0, 0)))), some (.inl x1), some (.inl x2)], [], D)
  rw [fX11_areTwo] at h
  refine mz_Go.run (gs := []) (st' := (if x1 = x2 then (37, [some (.inr (.inr (some (0, 0)))), some (.inl x1), some (.inl x2)], [], D) else (5, [some (.inr (.inr (some (0, 0)))), some (.inl x1), some (.inl x2)], [], D))) bX11_areTwo_0 oX11_areTwo_0 rfl trivial ?_
  refine mz_Go.ite (fun hc1 => ?_) (fun hc1 => ?_)
  · have h := mz_ifp hc1 h
    refine mz_Go.run (gs := []) (st' := (38, [some (.inr (.inr (some (0, 0)))), some (.inl x1), some (.inl x2)], [.inl (0 : Int32)], D)) bX11_areTwo_37 oX11_areTwo_37 rfl trivial ?_
    subst h
    exact mz_Go.retz (by decide +kernel) rfl ⟨Nat.le_refl _, Nat.le_refl _⟩ (by decide) rfl
  · have h := mz_ifn hc1 h
    refine mz_Go.run (gs := [mz_kz 0 0 0, mz_kz 0 1 100]) (st' := (13, [some (.inr (.inr (some (0, 0)))), some (.inl x1), some (.inl x2)], [.inl x1, .inr (.inr (some (1, 101)))], D)) bX11_areTwo_5 oX11_areTwo_5 rfl ⟨rfl, rfl, trivial⟩ ?_
    refine mz_Go.callV (I := IX11_areTwo) (J := IX4_has) (as := [.inl x1]) (ci := 4) (g := 1) (o := 101) (idx := 229) (pl := 1042) (rest := []) (mX4_has 1 x1 D rfl _ rfl) kX4_has vX4_has (by decide +kernel) (by decide +kernel) (by decide +kernel) rfl rfl ⟨rfl, rfl⟩ rfl rfl rfl rfl ?_
    refine mz_Go.run (gs := []) (st' := (if (fX4_has 1 x1 D) = 0 then (37, [some (.inr (.inr (some (0, 0)))), some (.inl x1), some (.inl x2)], [], D) else (19, [some (.inr (.inr (some (0, 0)))), some (.inl x1), some (.inl x2)], [], D))) bX11_areTwo_16 oX11_areTwo_16 rfl trivial ?_
    refine mz_Go.ite (fun hc2 => ?_) (fun hc2 => ?_)
    · have h := mz_ifp hc2 h
      refine mz_Go.run (gs := []) (st' := (38, [some (.inr (.inr (some (0, 0)))), some (.inl x1), some (.inl x2)], [.inl (0 : Int32)], D)) bX11_areTwo_37 oX11_areTwo_37 rfl trivial ?_
      subst h
      exact mz_Go.retz (by decide +kernel) rfl ⟨Nat.le_refl _, Nat.le_refl _⟩ (by decide) rfl
    · have h := mz_ifn hc2 h
      refine mz_Go.run (gs := [mz_kz 0 0 0, mz_kz 0 1 100]) (st' := (27, [some (.inr (.inr (some (0, 0)))), some (.inl x1), some (.inl x2)], [.inl x2, .inr (.inr (some (1, 101)))], D)) bX11_areTwo_19 oX11_areTwo_19 rfl ⟨rfl, rfl, trivial⟩ ?_
      refine mz_Go.callV (I := IX11_areTwo) (J := IX4_has) (as := [.inl x2]) (ci := 4) (g := 1) (o := 101) (idx := 229) (pl := 1042) (rest := []) (mX4_has 1 x2 D rfl _ rfl) kX4_has vX4_has (by decide +kernel) (by decide +kernel) (by decide +kernel) rfl rfl ⟨rfl, rfl⟩ rfl rfl rfl rfl ?_
      refine mz_Go.run (gs := []) (st' := (if (fX4_has 1 x2 D) = 0 then (37, [some (.inr (.inr (some (0, 0)))), some (.inl x1), some (.inl x2)], [], D) else (33, [some (.inr (.inr (some (0, 0)))), some (.inl x1), some (.inl x2)], [], D))) bX11_areTwo_30 oX11_areTwo_30 rfl trivial ?_
      refine mz_Go.ite (fun hc3 => ?_) (fun hc3 => ?_)
      · have h := mz_ifp hc3 h
        refine mz_Go.run (gs := []) (st' := (38, [some (.inr (.inr (some (0, 0)))), some (.inl x1), some (.inl x2)], [.inl (0 : Int32)], D)) bX11_areTwo_37 oX11_areTwo_37 rfl trivial ?_
        subst h
        exact mz_Go.retz (by decide +kernel) rfl ⟨Nat.le_refl _, Nat.le_refl _⟩ (by decide) rfl
      · have h := mz_ifn hc3 h
        refine mz_Go.run (gs := []) (st' := (38, [some (.inr (.inr (some (0, 0)))), some (.inl x1), some (.inl x2)], [.inl (1 : Int32)], D)) bX11_areTwo_33 oX11_areTwo_33 rfl trivial ?_
        subst h
        exact mz_Go.retz (by decide +kernel) rfl ⟨Nat.le_refl _, Nat.le_refl _⟩ (by decide) rfl
def bX11_neverEnds_0 : List mz_E := [(0, .iload_n 0, 0, 0, 0, 0, 0), (1, .bipush 16, 0, 0, 0, 16, 0), (3, .if_icmp .ne 13, 0, 16, 0, 0, 0)]
theorem oX11_neverEnds_0 : bX11_neverEnds_0.all (mz_ok RX11 cX11_neverEnds 2) = true := by decide +kernel
def bX11_neverEnds_6 : List mz_E := [(6, .iload_n 1, 0, 0, 0, 0, 0), (7, .bipush 16, 0, 0, 0, 16, 0), (9, .if_icmp .ne 7, 0, 16, 0, 0, 0)]
theorem oX11_neverEnds_6 : bX11_neverEnds_6.all (mz_ok RX11 cX11_neverEnds 2) = true := by decide +kernel
def bX11_neverEnds_12 : List mz_E := [(12, .iconst 1, 0, 0, 0, 1, 0), (13, .goto 4, 0, 17, 0, 0, 0)]
theorem oX11_neverEnds_12 : bX11_neverEnds_12.all (mz_ok RX11 cX11_neverEnds 2) = true := by decide +kernel
def bX11_neverEnds_16 : List mz_E := [(16, .iconst 0, 0, 0, 0, 0, 0)]
theorem oX11_neverEnds_16 : bX11_neverEnds_16.all (mz_ok RX11 cX11_neverEnds 2) = true := by decide +kernel
abbrev IX11_neverEnds : mz_I := (yX11_neverEnds, cX11_neverEnds, 2, (some .boolean), 9, 0, 0, 0)
theorem kX11_neverEnds : mz_okm IX11_neverEnds 1224 126 1223 2 = true := by decide +kernel
theorem vX11_neverEnds : mz_okS IX11_neverEnds 1223 = true := by decide +kernel
def fX11_neverEnds (x0 : Int32) (x1 : Int32) : Int32 := (if x0 = (16 : Int32) then (if x1 = (16 : Int32) then (1 : Int32) else (0 : Int32)) else (0 : Int32))
set_option maxHeartbeats 4000000 in
theorem mX11_neverEnds (x0 : Int32) (x1 : Int32) (D : mz_D) (r : Int32) (h : fX11_neverEnds x0 x1 = r) : mz_Met IX11_neverEnds [.inl x0, .inl x1] D (some (.inl r), D) := by
  refine mz_Met.of (by decide +kernel) (Nat.le_of_ble_eq_true rfl) ?_
  show mz_Go IX11_neverEnds (some (.inl r), D) 0 0 (0, [some (.inl x0), some (.inl x1)], [], D)
  rw [fX11_neverEnds] at h
  refine mz_Go.run (gs := []) (st' := (if x0 = (16 : Int32) then (6, [some (.inl x0), some (.inl x1)], [], D) else (16, [some (.inl x0), some (.inl x1)], [], D))) bX11_neverEnds_0 oX11_neverEnds_0 rfl trivial ?_
  refine mz_Go.ite (fun hc1 => ?_) (fun hc1 => ?_)
  · have h := mz_ifp hc1 h
    refine mz_Go.run (gs := []) (st' := (if x1 = (16 : Int32) then (12, [some (.inl x0), some (.inl x1)], [], D) else (16, [some (.inl x0), some (.inl x1)], [], D))) bX11_neverEnds_6 oX11_neverEnds_6 rfl trivial ?_
    refine mz_Go.ite (fun hc2 => ?_) (fun hc2 => ?_)
    · have h := mz_ifp hc2 h
      refine mz_Go.run (gs := []) (st' := (17, [some (.inl x0), some (.inl x1)], [.inl (1 : Int32)], D)) bX11_neverEnds_12 oX11_neverEnds_12 rfl trivial ?_
      subst h
      exact mz_Go.retz (by decide +kernel) rfl ⟨Nat.le_refl _, Nat.le_refl _⟩ (by decide) rfl
    · have h := mz_ifn hc2 h
      refine mz_Go.run (gs := []) (st' := (17, [some (.inl x0), some (.inl x1)], [.inl (0 : Int32)], D)) bX11_neverEnds_16 oX11_neverEnds_16 rfl trivial ?_
      subst h
      exact mz_Go.retz (by decide +kernel) rfl ⟨Nat.le_refl _, Nat.le_refl _⟩ (by decide) rfl
  · have h := mz_ifn hc1 h
    refine mz_Go.run (gs := []) (st' := (17, [some (.inl x0), some (.inl x1)], [.inl (0 : Int32)], D)) bX11_neverEnds_16 oX11_neverEnds_16 rfl trivial ?_
    subst h
    exact mz_Go.retz (by decide +kernel) rfl ⟨Nat.le_refl _, Nat.le_refl _⟩ (by decide) rfl
def bX11_duelTrouble_0 : List mz_E := [(0, .aload_n 0, 0, 0, 0, 0, 0), (1, .iload_n 1, 0, 0, 0, 0, 0), (2, .iload_n 2, 0, 0, 0, 0, 0)]
theorem oX11_duelTrouble_0 : bX11_duelTrouble_0.all (mz_ok RX11 cX11_duelTrouble 3) = true := by decide +kernel
def bX11_duelTrouble_6 : List mz_E := [(6, .ifCond .ne 5, 0, 11, 0, 0, 0)]
theorem oX11_duelTrouble_6 : bX11_duelTrouble_6.all (mz_ok RX11 cX11_duelTrouble 3) = true := by decide +kernel
def bX11_duelTrouble_9 : List mz_E := [(9, .iconst 1, 0, 0, 0, 1, 0)]
theorem oX11_duelTrouble_9 : bX11_duelTrouble_9.all (mz_ok RX11 cX11_duelTrouble 3) = true := by decide +kernel
def bX11_duelTrouble_11 : List mz_E := [(11, .aload_n 0, 0, 0, 0, 0, 0), (12, .getfield 32, 11, 4, 563, 0, 0), (15, .getfield 151, 6, 0, 477, 0, 0), (18, .getfield 230, 4, 4, 303, 0, 0), (21, .iload_n 1, 0, 0, 0, 0, 0), (22, .iaload, 0, 0, 0, 0, 0), (23, .aload_n 0, 0, 0, 0, 0, 0), (24, .getfield 32, 11, 4, 563, 0, 0), (27, .getfield 151, 6, 0, 477, 0, 0), (30, .getfield 230, 4, 4, 303, 0, 0), (33, .iload_n 2, 0, 0, 0, 0, 0), (34, .iaload, 0, 0, 0, 0, 0)]
theorem oX11_duelTrouble_11 : bX11_duelTrouble_11.all (mz_ok RX11 cX11_duelTrouble 3) = true := by decide +kernel
def bX11_duelTrouble_38 : List mz_E := [(38, .ifCond .eq 8, 0, 46, 0, 0, 0)]
theorem oX11_duelTrouble_38 : bX11_duelTrouble_38.all (mz_ok RX11 cX11_duelTrouble 3) = true := by decide +kernel
def bX11_duelTrouble_46 : List mz_E := [(46, .iconst 0, 0, 0, 0, 0, 0)]
theorem oX11_duelTrouble_46 : bX11_duelTrouble_46.all (mz_ok RX11 cX11_duelTrouble 3) = true := by decide +kernel
def bX11_duelTrouble_41 : List mz_E := [(41, .bipush 6, 0, 0, 0, 6, 0), (43, .goto 4, 0, 47, 0, 0, 0)]
theorem oX11_duelTrouble_41 : bX11_duelTrouble_41.all (mz_ok RX11 cX11_duelTrouble 3) = true := by decide +kernel
abbrev IX11_duelTrouble : mz_I := (yX11_duelTrouble, cX11_duelTrouble, 3, (some .int), 0, 2, 0, 0)
theorem kX11_duelTrouble : mz_okm IX11_duelTrouble 1217 126 1216 2 = true := by decide +kernel
theorem vX11_duelTrouble : mz_okV IX11_duelTrouble 1216 29 = true := by decide +kernel
def fX11_duelTrouble (x1 : Int32) (x2 : Int32) (D : mz_D) : Option Int32 := (if (fX11_areTwo x1 x2 D) = 0 then (some (1 : Int32)) else (mz_gd (mz_ix x1 6) (mz_gd (mz_ix x2 6) (if (fX11_neverEnds (D.1 1 103 (x1).toNatClampNeg) (D.1 1 103 (x2).toNatClampNeg)) = 0 then (some (0 : Int32)) else (some (6 : Int32))))))
set_option maxHeartbeats 4000000 in
theorem mX11_duelTrouble (x1 : Int32) (x2 : Int32) (D : mz_D) (r : Int32) (h : fX11_duelTrouble x1 x2 D = some r) : mz_Met IX11_duelTrouble [.inr (.inr (some (0, 0))), .inl x1, .inl x2] D (some (.inl r), D) := by
  refine mz_Met.of (by decide +kernel) (Nat.le_of_ble_eq_true rfl) ?_
  show mz_Go IX11_duelTrouble (some (.inl r), D) 0 0 (0, [some (.inr (.inr (some (0, 0)))), some (.inl x1), some (.inl x2)], [], D)
  rw [fX11_duelTrouble] at h
  refine mz_Go.run (gs := []) (st' := (3, [some (.inr (.inr (some (0, 0)))), some (.inl x1), some (.inl x2)], [.inl x2, .inl x1, .inr (.inr (some (0, 0)))], D)) bX11_duelTrouble_0 oX11_duelTrouble_0 rfl trivial ?_
  refine mz_Go.callV (I := IX11_duelTrouble) (J := IX11_areTwo) (as := [.inl x1, .inl x2]) (ci := 11) (g := 0) (o := 0) (idx := 320) (pl := 1218) (rest := []) (mX11_areTwo x1 x2 D _ rfl) kX11_areTwo vX11_areTwo (by decide +kernel) (by decide +kernel) (by decide +kernel) rfl rfl ⟨rfl, rfl⟩ rfl rfl rfl rfl ?_
  refine mz_Go.run (gs := []) (st' := (if (fX11_areTwo x1 x2 D) = 0 then (9, [some (.inr (.inr (some (0, 0)))), some (.inl x1), some (.inl x2)], [], D) else (11, [some (.inr (.inr (some (0, 0)))), some (.inl x1), some (.inl x2)], [], D))) bX11_duelTrouble_6 oX11_duelTrouble_6 rfl trivial ?_
  refine mz_Go.ite (fun hc1 => ?_) (fun hc1 => ?_)
  · have h := mz_ifp hc1 h
    refine mz_Go.run (gs := []) (st' := (10, [some (.inr (.inr (some (0, 0)))), some (.inl x1), some (.inl x2)], [.inl (1 : Int32)], D)) bX11_duelTrouble_9 oX11_duelTrouble_9 rfl trivial ?_
    cases h
    exact mz_Go.reti (by decide +kernel) rfl ⟨Nat.le_refl _, Nat.le_refl _⟩ rfl
  · have h := mz_ifn hc1 h
    obtain ⟨hb2, h⟩ := mz_gd_some h
    obtain ⟨hb3, h⟩ := mz_gd_some h
    refine mz_Go.run (gs := [mz_kz 0 0 0, mz_kz 0 1 100, mz_kz 0 1 101, mz_kz 0 1 103, mz_ix x1 6, mz_kz 0 0 0, mz_kz 0 1 100, mz_kz 0 1 101, mz_kz 0 1 103, mz_ix x2 6]) (st' := (35, [some (.inr (.inr (some (0, 0)))), some (.inl x1), some (.inl x2)], [.inl (D.1 1 103 (x2).toNatClampNeg), .inl (D.1 1 103 (x1).toNatClampNeg)], D)) bX11_duelTrouble_11 oX11_duelTrouble_11 rfl ⟨rfl, rfl, rfl, rfl, hb2, rfl, rfl, rfl, rfl, hb3, trivial⟩ ?_
    refine mz_Go.callS (I := IX11_duelTrouble) (J := IX11_neverEnds) (as := [.inl (D.1 1 103 (x1).toNatClampNeg), .inl (D.1 1 103 (x2).toNatClampNeg)]) (idx := 324) (pl := 1222) (rest := []) (mX11_neverEnds (D.1 1 103 (x1).toNatClampNeg) (D.1 1 103 (x2).toNatClampNeg) D _ rfl) kX11_neverEnds vX11_neverEnds (by decide +kernel) (by decide +kernel) (by decide +kernel) rfl rfl ⟨rfl, rfl⟩ rfl ?_
    refine mz_Go.run (gs := []) (st' := (if (fX11_neverEnds (D.1 1 103 (x1).toNatClampNeg) (D.1 1 103 (x2).toNatClampNeg)) = 0 then (46, [some (.inr (.inr (some (0, 0)))), some (.inl x1), some (.inl x2)], [], D) else (41, [some (.inr (.inr (some (0, 0)))), some (.inl x1), some (.inl x2)], [], D))) bX11_duelTrouble_38 oX11_duelTrouble_38 rfl trivial ?_
    refine mz_Go.ite (fun hc4 => ?_) (fun hc4 => ?_)
    · have h := mz_ifp hc4 h
      refine mz_Go.run (gs := []) (st' := (47, [some (.inr (.inr (some (0, 0)))), some (.inl x1), some (.inl x2)], [.inl (0 : Int32)], D)) bX11_duelTrouble_46 oX11_duelTrouble_46 rfl trivial ?_
      cases h
      exact mz_Go.reti (by decide +kernel) rfl ⟨Nat.le_refl _, Nat.le_refl _⟩ rfl
    · have h := mz_ifn hc4 h
      refine mz_Go.run (gs := []) (st' := (47, [some (.inr (.inr (some (0, 0)))), some (.inl x1), some (.inl x2)], [.inl (6 : Int32)], D)) bX11_duelTrouble_41 oX11_duelTrouble_41 rfl trivial ?_
      cases h
      exact mz_Go.reti (by decide +kernel) rfl ⟨Nat.le_refl _, Nat.le_refl _⟩ rfl
def bX11_wins_0 : List mz_E := [(0, .iload_n 0, 0, 0, 0, 0, 0), (1, .i2l, 0, 0, 0, 0, 0), (2, .bipush 16, 0, 0, 0, 16, 0), (4, .iload_n 1, 0, 0, 0, 0, 0), (5, .isub, 0, 0, 0, 0, 0), (6, .i2l, 0, 0, 0, 0, 0), (7, .lmul, 0, 0, 0, 0, 0)]
theorem oX11_wins_0 : bX11_wins_0.all (mz_ok RX11 cX11_wins 2) = true := by decide +kernel
abbrev IX11_wins : mz_I := (yX11_wins, cX11_wins, 2, (some .long), 9, 0, 0, 0)
theorem kX11_wins : mz_okm IX11_wins 1227 126 1226 2 = true := by decide +kernel
theorem vX11_wins : mz_okS IX11_wins 1226 = true := by decide +kernel
theorem mX11_wins (x0 : Int32) (x1 : Int32) (D : mz_D) : mz_Met IX11_wins [.inl x0, .inl x1] D (some (.inr (.inl ((x0).toInt64 * (((16 : Int32) - x1)).toInt64))), D) := by
  refine mz_Met.of (by decide +kernel) (Nat.le_of_ble_eq_true rfl) ?_
  show mz_Go IX11_wins (some (.inr (.inl ((x0).toInt64 * (((16 : Int32) - x1)).toInt64))), D) 0 0 (0, [some (.inl x0), some (.inl x1)], [], D)
  refine mz_Go.run (gs := []) (st' := (8, [some (.inl x0), some (.inl x1)], [.inr (.inl ((x0).toInt64 * (((16 : Int32) - x1)).toInt64))], D)) bX11_wins_0 oX11_wins_0 rfl trivial ?_
  exact mz_Go.retl (by decide +kernel) rfl ⟨Nat.le_refl _, Nat.le_refl _⟩ rfl
def bX11_whole_0 : List mz_E := [(0, .ldc2_w 482, 0, 0, 1231, 0, 256), (3, .iload_n 0, 0, 0, 0, 0, 0), (4, .i2l, 0, 0, 0, 0, 0), (5, .iload_n 1, 0, 0, 0, 0, 0), (6, .i2l, 0, 0, 0, 0, 0), (7, .lmul, 0, 0, 0, 0, 0), (8, .lsub, 0, 0, 0, 0, 0)]
theorem oX11_whole_0 : bX11_whole_0.all (mz_ok RX11 cX11_whole 2) = true := by decide +kernel
abbrev IX11_whole : mz_I := (yX11_whole, cX11_whole, 2, (some .long), 9, 0, 0, 0)
theorem kX11_whole : mz_okm IX11_whole 1230 126 1229 2 = true := by decide +kernel
theorem vX11_whole : mz_okS IX11_whole 1229 = true := by decide +kernel
theorem mX11_whole (x0 : Int32) (x1 : Int32) (D : mz_D) : mz_Met IX11_whole [.inl x0, .inl x1] D (some (.inr (.inl ((256 : Int64) - ((x0).toInt64 * (x1).toInt64)))), D) := by
  refine mz_Met.of (by decide +kernel) (Nat.le_of_ble_eq_true rfl) ?_
  show mz_Go IX11_whole (some (.inr (.inl ((256 : Int64) - ((x0).toInt64 * (x1).toInt64)))), D) 0 0 (0, [some (.inl x0), some (.inl x1)], [], D)
  refine mz_Go.run (gs := []) (st' := (9, [some (.inl x0), some (.inl x1)], [.inr (.inl ((256 : Int64) - ((x0).toInt64 * (x1).toInt64)))], D)) bX11_whole_0 oX11_whole_0 rfl trivial ?_
  exact mz_Go.retl (by decide +kernel) rfl ⟨Nat.le_refl _, Nat.le_refl _⟩ rfl
def bX11_commonDivisor_0 : List mz_E := [(0, .lload_n 0, 0, 0, 0, 0, 0), (1, .lstore 4, 0, 0, 0, 0, 0), (3, .lload_n 2, 0, 0, 0, 0, 0), (4, .lstore 6, 0, 0, 0, 0, 0), (6, .iconst 0, 0, 0, 0, 0, 0), (7, .istore 8, 0, 0, 0, 0, 0)]
theorem oX11_commonDivisor_0 : bX11_commonDivisor_0.all (mz_ok RX11 cX11_commonDivisor 11) = true := by decide +kernel
def bX11_commonDivisor_9 : List mz_E := [(9, .iload 8, 0, 0, 0, 0, 0), (11, .sipush 200, 0, 0, 0, 200, 0), (14, .if_icmp .ge 31, 0, 45, 0, 0, 0)]
theorem oX11_commonDivisor_9 : bX11_commonDivisor_9.all (mz_ok RX11 cX11_commonDivisor 11) = true := by decide +kernel
def bX11_commonDivisor_45 : List mz_E := [(45, .lload 4, 0, 0, 0, 0, 0)]
theorem oX11_commonDivisor_45 : bX11_commonDivisor_45.all (mz_ok RX11 cX11_commonDivisor 11) = true := by decide +kernel
def bX11_commonDivisor_17 : List mz_E := [(17, .lload 6, 0, 0, 0, 0, 0), (19, .lconst 0, 0, 0, 0, 0, 0), (20, .lcmp, 0, 0, 0, 0, 0), (21, .ifCond .eq 24, 0, 45, 0, 0, 0)]
theorem oX11_commonDivisor_17 : bX11_commonDivisor_17.all (mz_ok RX11 cX11_commonDivisor 11) = true := by decide +kernel
def bX11_commonDivisor_24 : List mz_E := [(24, .lload 4, 0, 0, 0, 0, 0), (26, .lload 6, 0, 0, 0, 0, 0), (28, .lrem, 0, 0, 0, 0, 0), (29, .lstore 9, 0, 0, 0, 0, 0), (31, .lload 6, 0, 0, 0, 0, 0), (33, .lstore 4, 0, 0, 0, 0, 0), (35, .lload 9, 0, 0, 0, 0, 0), (37, .lstore 6, 0, 0, 0, 0, 0), (39, .iinc 8 1, 0, 0, 0, 1, 0), (42, .goto (-33), 0, 9, 0, 0, 0)]
theorem oX11_commonDivisor_24 : bX11_commonDivisor_24.all (mz_ok RX11 cX11_commonDivisor 11) = true := by decide +kernel
abbrev IX11_commonDivisor : mz_I := (yX11_commonDivisor, cX11_commonDivisor, 11, (some .long), 9, 0, 0, 0)
theorem kX11_commonDivisor : mz_okm IX11_commonDivisor 1238 126 1237 2 = true := by decide +kernel
theorem vX11_commonDivisor : mz_okS IX11_commonDivisor 1237 = true := by decide +kernel
def fX11_commonDivisor_9 : Nat → Int64 → Int64 → Int32 → Option Int64
  | 0 => fun _ _ _ => none
  | n + 1 => fun y4 y6 x8 => (if (200 : Int32) ≤ x8 then (some y4) else (if (lg_cmp y6 (0 : Int64)) = 0 then (some y4) else (mz_gd (mz_nzl y6) ((fX11_commonDivisor_9 n) y6 (y4 - y4 / y6 * y6) (x8 + (1 : Int32))))))
set_option maxHeartbeats 4000000 in
theorem tX11_commonDivisor_9 (D : mz_D) (r : Int64) : ∀ (n : Nat) (y4 : Int64) (y6 : Int64) (x8 : Int32), fX11_commonDivisor_9 n y4 y6 x8 = some r → mz_Go IX11_commonDivisor (some (.inr (.inl r)), D) 0 0 (9, [none, none, none, none, some (.inr (.inl y4)), none, some (.inr (.inl y6)), none, some (.inl x8), none, none], [], D) := by
  intro n
  induction n with
  | zero => intro y4 y6 x8 h; have h : (none : Option Int64) = some r := h; cases h
  | succ n ih =>
    intro y4 y6 x8 h
    rw [fX11_commonDivisor_9] at h
    refine mz_Go.run (gs := []) (st' := (if (200 : Int32) ≤ x8 then (45, [none, none, none, none, some (.inr (.inl y4)), none, some (.inr (.inl y6)), none, some (.inl x8), none, none], [], D) else (17, [none, none, none, none, some (.inr (.inl y4)), none, some (.inr (.inl y6)), none, some (.inl x8), none, none], [], D))) bX11_commonDivisor_9 oX11_commonDivisor_9 rfl trivial ?_
    refine mz_Go.ite (fun hc1 => ?_) (fun hc1 => ?_)
    · have h := mz_ifp hc1 h
      refine mz_Go.run (gs := []) (st' := (47, [none, none, none, none, some (.inr (.inl y4)), none, some (.inr (.inl y6)), none, some (.inl x8), none, none], [.inr (.inl y4)], D)) bX11_commonDivisor_45 oX11_commonDivisor_45 rfl trivial ?_
      cases h
      exact mz_Go.retl (by decide +kernel) rfl ⟨Nat.le_refl _, Nat.le_refl _⟩ rfl
    · have h := mz_ifn hc1 h
      refine mz_Go.run (gs := []) (st' := (if (lg_cmp y6 (0 : Int64)) = 0 then (45, [none, none, none, none, some (.inr (.inl y4)), none, some (.inr (.inl y6)), none, some (.inl x8), none, none], [], D) else (24, [none, none, none, none, some (.inr (.inl y4)), none, some (.inr (.inl y6)), none, some (.inl x8), none, none], [], D))) bX11_commonDivisor_17 oX11_commonDivisor_17 rfl trivial ?_
      refine mz_Go.ite (fun hc2 => ?_) (fun hc2 => ?_)
      · have h := mz_ifp hc2 h
        refine mz_Go.run (gs := []) (st' := (47, [none, none, none, none, some (.inr (.inl y4)), none, some (.inr (.inl y6)), none, some (.inl x8), none, none], [.inr (.inl y4)], D)) bX11_commonDivisor_45 oX11_commonDivisor_45 rfl trivial ?_
        cases h
        exact mz_Go.retl (by decide +kernel) rfl ⟨Nat.le_refl _, Nat.le_refl _⟩ rfl
      · have h := mz_ifn hc2 h
        obtain ⟨hb3, h⟩ := mz_gd_some h
        refine mz_Go.run (gs := [mz_nzl y6]) (st' := (9, [none, none, none, none, some (.inr (.inl y6)), none, some (.inr (.inl (y4 - y4 / y6 * y6))), none, some (.inl (x8 + (1 : Int32))), some (.inr (.inl (y4 - y4 / y6 * y6))), none], [], D)) bX11_commonDivisor_24 oX11_commonDivisor_24 rfl ⟨hb3, trivial⟩ ?_
        exact mz_Go.drop [false, false, false, false, true, false, true, false, true, false, false] (ih y6 (y4 - y4 / y6 * y6) (x8 + (1 : Int32)) h)
def fX11_commonDivisor (y0 : Int64) (y2 : Int64) : Option Int64 := (fX11_commonDivisor_9 mz_N y0 y2 (0 : Int32))
set_option maxHeartbeats 4000000 in
theorem mX11_commonDivisor (y0 : Int64) (y2 : Int64) (D : mz_D) (r : Int64) (h : fX11_commonDivisor y0 y2 = some r) : mz_Met IX11_commonDivisor [.inr (.inl y0), .inr (.inl y2)] D (some (.inr (.inl r)), D) := by
  refine mz_Met.of (by decide +kernel) (Nat.le_of_ble_eq_true rfl) ?_
  show mz_Go IX11_commonDivisor (some (.inr (.inl r)), D) 0 0 (0, [some (.inr (.inl y0)), none, some (.inr (.inl y2)), none, none, none, none, none, none, none, none], [], D)
  rw [fX11_commonDivisor] at h
  refine mz_Go.run (gs := []) (st' := (9, [some (.inr (.inl y0)), none, some (.inr (.inl y2)), none, some (.inr (.inl y0)), none, some (.inr (.inl y2)), none, some (.inl (0 : Int32)), none, none], [], D)) bX11_commonDivisor_0 oX11_commonDivisor_0 rfl trivial ?_
  exact mz_Go.drop [false, false, false, false, true, false, true, false, true, false, false] (tX11_commonDivisor_9 D r mz_N y0 y2 (0 : Int32) h)
def bX11_tell_0 : List mz_E := [(0, .lload_n 1, 0, 0, 0, 0, 0), (1, .lload_n 3, 0, 0, 0, 0, 0)]
theorem oX11_tell_0 : bX11_tell_0.all (mz_ok RX11 cX11_tell 7) = true := by decide +kernel
def bX11_tell_5 : List mz_E := [(5, .lstore 5, 0, 0, 0, 0, 0), (7, .lload 5, 0, 0, 0, 0, 0), (9, .lconst 0, 0, 0, 0, 0, 0), (10, .lcmp, 0, 0, 0, 0, 0), (11, .ifCond .le 19, 0, 30, 0, 0, 0)]
theorem oX11_tell_5 : bX11_tell_5.all (mz_ok RX11 cX11_tell 7) = true := by decide +kernel
def bX11_tell_30 : List mz_E := [(30, .aload_n 0, 0, 0, 0, 0, 0)]
theorem oX11_tell_30 : bX11_tell_30.all (mz_ok RX11 cX11_tell 7) = true := by decide +kernel
def bX11_tell_14 : List mz_E := [(14, .aload_n 0, 0, 0, 0, 0, 0), (15, .lload_n 1, 0, 0, 0, 0, 0), (16, .lload 5, 0, 0, 0, 0, 0), (18, .ldiv, 0, 0, 0, 0, 0), (19, .putfield 74, 11, 14, 573, 0, 0), (22, .aload_n 0, 0, 0, 0, 0, 0), (23, .lload_n 3, 0, 0, 0, 0, 0), (24, .lload 5, 0, 0, 0, 0, 0), (26, .ldiv, 0, 0, 0, 0, 0), (27, .putfield 60, 11, 15, 574, 0, 0), (30, .aload_n 0, 0, 0, 0, 0, 0)]
theorem oX11_tell_14 : bX11_tell_14.all (mz_ok RX11 cX11_tell 7) = true := by decide +kernel
abbrev IX11_tell : mz_I := (yX11_tell, cX11_tell, 7, (some .boolean), 0, 1, 0, 0)
theorem kX11_tell : mz_okm IX11_tell 1235 126 1234 2 = true := by decide +kernel
theorem vX11_tell : mz_okV IX11_tell 1234 31 = true := by decide +kernel
def fX11_tell (y1 : Int64) (y3 : Int64) (D : mz_D) : Option (Int32 × mz_D) := (Option.bind (fX11_commonDivisor y1 y3) fun q1 => (if (lg_cmp q1 (0 : Int64)) ≤ 0 then (some ((1 : Int32), (mz_wi D 0 0 13 (0 : Int32)))) else (mz_gd (mz_nzl q1) (some ((1 : Int32), (mz_wi (mz_wg (mz_wg D 0 0 14 (y1 / q1)) 0 0 15 (y3 / q1)) 0 0 13 (0 : Int32)))))))
set_option maxHeartbeats 4000000 in
theorem mX11_tell (y1 : Int64) (y3 : Int64) (D : mz_D) (r : (Int32 × mz_D)) (h : fX11_tell y1 y3 D = some r) : mz_Met IX11_tell [.inr (.inr (some (0, 0))), .inr (.inl y1), .inr (.inl y3)] D (some (.inl r.1), r.2) := by
  refine mz_Met.of (by decide +kernel) (Nat.le_of_ble_eq_true rfl) ?_
  show mz_Go IX11_tell (some (.inl r.1), r.2) 0 0 (0, [some (.inr (.inr (some (0, 0)))), some (.inr (.inl y1)), none, some (.inr (.inl y3)), none, none, none], [], D)
  rw [fX11_tell] at h
  refine mz_Go.run (gs := []) (st' := (2, [some (.inr (.inr (some (0, 0)))), some (.inr (.inl y1)), none, some (.inr (.inl y3)), none, none, none], [.inr (.inl y3), .inr (.inl y1)], D)) bX11_tell_0 oX11_tell_0 rfl trivial ?_
  obtain ⟨q1, hq1, h⟩ := mz_bd_some h
  refine mz_Go.callS (I := IX11_tell) (J := IX11_commonDivisor) (as := [.inr (.inl y1), .inr (.inl y3)]) (idx := 474) (pl := 1236) (rest := []) (mX11_commonDivisor y1 y3 D q1 hq1) kX11_commonDivisor vX11_commonDivisor (by decide +kernel) (by decide +kernel) (by decide +kernel) rfl rfl ⟨rfl, rfl⟩ rfl ?_
  refine mz_Go.run (gs := []) (st' := (if (lg_cmp q1 (0 : Int64)) ≤ 0 then (30, [some (.inr (.inr (some (0, 0)))), some (.inr (.inl y1)), none, some (.inr (.inl y3)), none, some (.inr (.inl q1)), none], [], D) else (14, [some (.inr (.inr (some (0, 0)))), some (.inr (.inl y1)), none, some (.inr (.inl y3)), none, some (.inr (.inl q1)), none], [], D))) bX11_tell_5 oX11_tell_5 rfl trivial ?_
  refine mz_Go.ite (fun hc2 => ?_) (fun hc2 => ?_)
  · have h := mz_ifp hc2 h
    refine mz_Go.run (gs := []) (st' := (31, [some (.inr (.inr (some (0, 0)))), some (.inr (.inl y1)), none, some (.inr (.inl y3)), none, some (.inr (.inl q1)), none], [.inr (.inr (some (0, 0)))], D)) bX11_tell_30 oX11_tell_30 rfl trivial ?_
    refine mz_Go.callV (I := IX11_tell) (J := IX11_grant) (as := []) (ci := 11) (g := 0) (o := 0) (idx := 88) (pl := 642) (rest := []) (mX11_grant D) kX11_grant vX11_grant (by decide +kernel) (by decide +kernel) (by decide +kernel) rfl rfl ⟨rfl, rfl⟩ rfl rfl rfl rfl ?_
    cases h
    exact mz_Go.retz (by decide +kernel) rfl ⟨Nat.le_refl _, Nat.le_refl _⟩ (by decide) rfl
  · have h := mz_ifn hc2 h
    obtain ⟨hb3, h⟩ := mz_gd_some h
    refine mz_Go.run (gs := [mz_nzl q1, mz_kz 0 0 0, mz_nzl q1, mz_kz 0 0 0]) (st' := (31, [some (.inr (.inr (some (0, 0)))), some (.inr (.inl y1)), none, some (.inr (.inl y3)), none, some (.inr (.inl q1)), none], [.inr (.inr (some (0, 0)))], (mz_wg (mz_wg D 0 0 14 (y1 / q1)) 0 0 15 (y3 / q1)))) bX11_tell_14 oX11_tell_14 rfl ⟨hb3, rfl, hb3, rfl, trivial⟩ ?_
    refine mz_Go.callV (I := IX11_tell) (J := IX11_grant) (as := []) (ci := 11) (g := 0) (o := 0) (idx := 88) (pl := 642) (rest := []) (mX11_grant (mz_wg (mz_wg D 0 0 14 (y1 / q1)) 0 0 15 (y3 / q1))) kX11_grant vX11_grant (by decide +kernel) (by decide +kernel) (by decide +kernel) rfl rfl ⟨rfl, rfl⟩ rfl rfl rfl rfl ?_
    cases h
    exact mz_Go.retz (by decide +kernel) rfl ⟨Nat.le_refl _, Nat.le_refl _⟩ (by decide) rfl
def bX11_duel_0 : List mz_E := [(0, .aload_n 0, 0, 0, 0, 0, 0), (1, .iload_n 1, 0, 0, 0, 0, 0), (2, .iload_n 2, 0, 0, 0, 0, 0)]
theorem oX11_duel_0 : bX11_duel_0.all (mz_ok RX11 cX11_duel 6) = true := by decide +kernel
def bX11_duel_6 : List mz_E := [(6, .istore_n 3, 0, 0, 0, 0, 0), (7, .iload_n 3, 0, 0, 0, 0, 0), (8, .ifCond .eq 9, 0, 17, 0, 0, 0)]
theorem oX11_duel_6 : bX11_duel_6.all (mz_ok RX11 cX11_duel 6) = true := by decide +kernel
def bX11_duel_17 : List mz_E := [(17, .aload_n 0, 0, 0, 0, 0, 0), (18, .getfield 32, 11, 4, 563, 0, 0), (21, .getfield 151, 6, 0, 477, 0, 0), (24, .getfield 230, 4, 4, 303, 0, 0), (27, .iload_n 1, 0, 0, 0, 0, 0), (28, .iaload, 0, 0, 0, 0, 0), (29, .istore 4, 0, 0, 0, 0, 0), (31, .aload_n 0, 0, 0, 0, 0, 0), (32, .getfield 32, 11, 4, 563, 0, 0), (35, .getfield 151, 6, 0, 477, 0, 0), (38, .getfield 230, 4, 4, 303, 0, 0), (41, .iload_n 2, 0, 0, 0, 0, 0), (42, .iaload, 0, 0, 0, 0, 0), (43, .istore 5, 0, 0, 0, 0, 0), (45, .aload_n 0, 0, 0, 0, 0, 0), (46, .iload 4, 0, 0, 0, 0, 0), (48, .iload 5, 0, 0, 0, 0, 0)]
theorem oX11_duel_17 : bX11_duel_17.all (mz_ok RX11 cX11_duel 6) = true := by decide +kernel
def bX11_duel_53 : List mz_E := [(53, .iload 4, 0, 0, 0, 0, 0), (55, .iload 5, 0, 0, 0, 0, 0)]
theorem oX11_duel_53 : bX11_duel_53.all (mz_ok RX11 cX11_duel 6) = true := by decide +kernel
def bX11_duel_11 : List mz_E := [(11, .aload_n 0, 0, 0, 0, 0, 0), (12, .iload_n 3, 0, 0, 0, 0, 0)]
theorem oX11_duel_11 : bX11_duel_11.all (mz_ok RX11 cX11_duel 6) = true := by decide +kernel
abbrev IX11_duel : mz_I := (yX11_duel, cX11_duel, 6, (some .boolean), 0, 3, 0, 0)
theorem kX11_duel : mz_okm IX11_duel 1213 126 1211 2 = true := by decide +kernel
theorem vX11_duel : mz_okV IX11_duel 1211 1212 = true := by decide +kernel
def fX11_duel (x1 : Int32) (x2 : Int32) (D : mz_D) : Option (Int32 × mz_D) := (Option.bind (fX11_duelTrouble x1 x2 D) fun q1 => (if q1 = 0 then (mz_gd (mz_ix x1 6) (mz_gd (mz_ix x2 6) (Option.bind (fX11_tell (((D.1 1 103 (x1).toNatClampNeg)).toInt64 * (((16 : Int32) - (D.1 1 103 (x2).toNatClampNeg))).toInt64) ((256 : Int64) - (((D.1 1 103 (x1).toNatClampNeg)).toInt64 * ((D.1 1 103 (x2).toNatClampNeg)).toInt64)) D) fun q5 => (mz_gd (mz_bo q5.1) (some (q5.1, q5.2)))))) else (some ((0 : Int32), (mz_wi D 0 0 13 q1)))))
set_option maxHeartbeats 4000000 in
theorem mX11_duel (x1 : Int32) (x2 : Int32) (D : mz_D) (r : (Int32 × mz_D)) (h : fX11_duel x1 x2 D = some r) : mz_Met IX11_duel [.inr (.inr (some (0, 0))), .inl x1, .inl x2] D (some (.inl r.1), r.2) := by
  refine mz_Met.of (by decide +kernel) (Nat.le_of_ble_eq_true rfl) ?_
  show mz_Go IX11_duel (some (.inl r.1), r.2) 0 0 (0, [some (.inr (.inr (some (0, 0)))), some (.inl x1), some (.inl x2), none, none, none], [], D)
  rw [fX11_duel] at h
  refine mz_Go.run (gs := []) (st' := (3, [some (.inr (.inr (some (0, 0)))), some (.inl x1), some (.inl x2), none, none, none], [.inl x2, .inl x1, .inr (.inr (some (0, 0)))], D)) bX11_duel_0 oX11_duel_0 rfl trivial ?_
  obtain ⟨q1, hq1, h⟩ := mz_bd_some h
  refine mz_Go.callV (I := IX11_duel) (J := IX11_duelTrouble) (as := [.inl x1, .inl x2]) (ci := 11) (g := 0) (o := 0) (idx := 305) (pl := 1214) (rest := []) (mX11_duelTrouble x1 x2 D q1 hq1) kX11_duelTrouble vX11_duelTrouble (by decide +kernel) (by decide +kernel) (by decide +kernel) rfl rfl ⟨rfl, rfl⟩ rfl rfl rfl rfl ?_
  refine mz_Go.run (gs := []) (st' := (if q1 = 0 then (17, [some (.inr (.inr (some (0, 0)))), some (.inl x1), some (.inl x2), some (.inl q1), none, none], [], D) else (11, [some (.inr (.inr (some (0, 0)))), some (.inl x1), some (.inl x2), some (.inl q1), none, none], [], D))) bX11_duel_6 oX11_duel_6 rfl trivial ?_
  refine mz_Go.ite (fun hc2 => ?_) (fun hc2 => ?_)
  · have h := mz_ifp hc2 h
    obtain ⟨hb3, h⟩ := mz_gd_some h
    obtain ⟨hb4, h⟩ := mz_gd_some h
    refine mz_Go.run (gs := [mz_kz 0 0 0, mz_kz 0 1 100, mz_kz 0 1 101, mz_kz 0 1 103, mz_ix x1 6, mz_kz 0 0 0, mz_kz 0 1 100, mz_kz 0 1 101, mz_kz 0 1 103, mz_ix x2 6]) (st' := (50, [some (.inr (.inr (some (0, 0)))), some (.inl x1), some (.inl x2), some (.inl q1), some (.inl (D.1 1 103 (x1).toNatClampNeg)), some (.inl (D.1 1 103 (x2).toNatClampNeg))], [.inl (D.1 1 103 (x2).toNatClampNeg), .inl (D.1 1 103 (x1).toNatClampNeg), .inr (.inr (some (0, 0)))], D)) bX11_duel_17 oX11_duel_17 rfl ⟨rfl, rfl, rfl, rfl, hb3, rfl, rfl, rfl, rfl, hb4, trivial⟩ ?_
    refine mz_Go.callS (I := IX11_duel) (J := IX11_wins) (as := [.inl (D.1 1 103 (x1).toNatClampNeg), .inl (D.1 1 103 (x2).toNatClampNeg)]) (idx := 308) (pl := 1225) (rest := [.inr (.inr (some (0, 0)))]) (mX11_wins (D.1 1 103 (x1).toNatClampNeg) (D.1 1 103 (x2).toNatClampNeg) D) kX11_wins vX11_wins (by decide +kernel) (by decide +kernel) (by decide +kernel) rfl rfl ⟨rfl, rfl⟩ rfl ?_
    refine mz_Go.run (gs := []) (st' := (57, [some (.inr (.inr (some (0, 0)))), some (.inl x1), some (.inl x2), some (.inl q1), some (.inl (D.1 1 103 (x1).toNatClampNeg)), some (.inl (D.1 1 103 (x2).toNatClampNeg))], [.inl (D.1 1 103 (x2).toNatClampNeg), .inl (D.1 1 103 (x1).toNatClampNeg), .inr (.inl (((D.1 1 103 (x1).toNatClampNeg)).toInt64 * (((16 : Int32) - (D.1 1 103 (x2).toNatClampNeg))).toInt64)), .inr (.inr (some (0, 0)))], D)) bX11_duel_53 oX11_duel_53 rfl trivial ?_
    refine mz_Go.callS (I := IX11_duel) (J := IX11_whole) (as := [.inl (D.1 1 103 (x1).toNatClampNeg), .inl (D.1 1 103 (x2).toNatClampNeg)]) (idx := 311) (pl := 1228) (rest := [.inr (.inl (((D.1 1 103 (x1).toNatClampNeg)).toInt64 * (((16 : Int32) - (D.1 1 103 (x2).toNatClampNeg))).toInt64)), .inr (.inr (some (0, 0)))]) (mX11_whole (D.1 1 103 (x1).toNatClampNeg) (D.1 1 103 (x2).toNatClampNeg) D) kX11_whole vX11_whole (by decide +kernel) (by decide +kernel) (by decide +kernel) rfl rfl ⟨rfl, rfl⟩ rfl ?_
    obtain ⟨q5, hq5, h⟩ := mz_bd_some h
    refine mz_Go.callV (I := IX11_duel) (J := IX11_tell) (as := [.inr (.inl (((D.1 1 103 (x1).toNatClampNeg)).toInt64 * (((16 : Int32) - (D.1 1 103 (x2).toNatClampNeg))).toInt64)), .inr (.inl ((256 : Int64) - (((D.1 1 103 (x1).toNatClampNeg)).toInt64 * ((D.1 1 103 (x2).toNatClampNeg)).toInt64)))]) (ci := 11) (g := 0) (o := 0) (idx := 314) (pl := 1232) (rest := []) (mX11_tell (((D.1 1 103 (x1).toNatClampNeg)).toInt64 * (((16 : Int32) - (D.1 1 103 (x2).toNatClampNeg))).toInt64) ((256 : Int64) - (((D.1 1 103 (x1).toNatClampNeg)).toInt64 * ((D.1 1 103 (x2).toNatClampNeg)).toInt64)) D q5 hq5) kX11_tell vX11_tell (by decide +kernel) (by decide +kernel) (by decide +kernel) rfl rfl ⟨rfl, rfl⟩ rfl rfl rfl rfl ?_
    obtain ⟨hb6, h⟩ := mz_gd_some h
    cases h
    exact mz_Go.retz (by decide +kernel) rfl ⟨Nat.le_refl _, Nat.le_refl _⟩ hb6 rfl
  · have h := mz_ifn hc2 h
    refine mz_Go.run (gs := []) (st' := (13, [some (.inr (.inr (some (0, 0)))), some (.inl x1), some (.inl x2), some (.inl q1), none, none], [.inl q1, .inr (.inr (some (0, 0)))], D)) bX11_duel_11 oX11_duel_11 rfl trivial ?_
    refine mz_Go.callV (I := IX11_duel) (J := IX11_deny) (as := [.inl q1]) (ci := 11) (g := 0) (o := 0) (idx := 81) (pl := 634) (rest := []) (mX11_deny q1 D) kX11_deny vX11_deny (by decide +kernel) (by decide +kernel) (by decide +kernel) rfl rfl ⟨rfl, rfl⟩ rfl rfl rfl rfl ?_
    cases h
    exact mz_Go.retz (by decide +kernel) rfl ⟨Nat.le_refl _, Nat.le_refl _⟩ (by decide) rfl
def bX11_goes_0 : List mz_E := [(0, .aload_n 0, 0, 0, 0, 0, 0), (1, .iload_n 1, 0, 0, 0, 0, 0), (2, .iload_n 2, 0, 0, 0, 0, 0)]
theorem oX11_goes_0 : bX11_goes_0.all (mz_ok RX11 cX11_goes 6) = true := by decide +kernel
def bX11_goes_6 : List mz_E := [(6, .istore_n 3, 0, 0, 0, 0, 0), (7, .iload_n 3, 0, 0, 0, 0, 0), (8, .ifCond .eq 9, 0, 17, 0, 0, 0)]
theorem oX11_goes_6 : bX11_goes_6.all (mz_ok RX11 cX11_goes 6) = true := by decide +kernel
def bX11_goes_17 : List mz_E := [(17, .aload_n 0, 0, 0, 0, 0, 0), (18, .getfield 32, 11, 4, 563, 0, 0), (21, .getfield 151, 6, 0, 477, 0, 0), (24, .getfield 230, 4, 4, 303, 0, 0), (27, .iload_n 1, 0, 0, 0, 0, 0), (28, .iaload, 0, 0, 0, 0, 0), (29, .istore 4, 0, 0, 0, 0, 0), (31, .aload_n 0, 0, 0, 0, 0, 0), (32, .getfield 32, 11, 4, 563, 0, 0), (35, .getfield 151, 6, 0, 477, 0, 0), (38, .getfield 230, 4, 4, 303, 0, 0), (41, .iload_n 2, 0, 0, 0, 0, 0), (42, .iaload, 0, 0, 0, 0, 0), (43, .istore 5, 0, 0, 0, 0, 0), (45, .aload_n 0, 0, 0, 0, 0, 0), (46, .ldc2_w 318, 0, 0, 1243, 0, 16), (49, .bipush 16, 0, 0, 0, 16, 0), (51, .iload 4, 0, 0, 0, 0, 0), (53, .iadd, 0, 0, 0, 0, 0), (54, .i2l, 0, 0, 0, 0, 0), (55, .lmul, 0, 0, 0, 0, 0), (56, .iload 4, 0, 0, 0, 0, 0), (58, .iload 5, 0, 0, 0, 0, 0)]
theorem oX11_goes_17 : bX11_goes_17.all (mz_ok RX11 cX11_goes 6) = true := by decide +kernel
def bX11_goes_11 : List mz_E := [(11, .aload_n 0, 0, 0, 0, 0, 0), (12, .iload_n 3, 0, 0, 0, 0, 0)]
theorem oX11_goes_11 : bX11_goes_11.all (mz_ok RX11 cX11_goes 6) = true := by decide +kernel
abbrev IX11_goes : mz_I := (yX11_goes, cX11_goes, 6, (some .boolean), 0, 3, 0, 0)
theorem kX11_goes : mz_okm IX11_goes 1242 126 1240 2 = true := by decide +kernel
theorem vX11_goes : mz_okV IX11_goes 1240 1241 = true := by decide +kernel
def fX11_goes (x1 : Int32) (x2 : Int32) (D : mz_D) : Option (Int32 × mz_D) := (Option.bind (fX11_duelTrouble x1 x2 D) fun q1 => (if q1 = 0 then (mz_gd (mz_ix x1 6) (mz_gd (mz_ix x2 6) (Option.bind (fX11_tell ((16 : Int64) * (((16 : Int32) + (D.1 1 103 (x1).toNatClampNeg))).toInt64) ((256 : Int64) - (((D.1 1 103 (x1).toNatClampNeg)).toInt64 * ((D.1 1 103 (x2).toNatClampNeg)).toInt64)) D) fun q5 => (mz_gd (mz_bo q5.1) (some (q5.1, q5.2)))))) else (some ((0 : Int32), (mz_wi D 0 0 13 q1)))))
set_option maxHeartbeats 4000000 in
theorem mX11_goes (x1 : Int32) (x2 : Int32) (D : mz_D) (r : (Int32 × mz_D)) (h : fX11_goes x1 x2 D = some r) : mz_Met IX11_goes [.inr (.inr (some (0, 0))), .inl x1, .inl x2] D (some (.inl r.1), r.2) := by
  refine mz_Met.of (by decide +kernel) (Nat.le_of_ble_eq_true rfl) ?_
  show mz_Go IX11_goes (some (.inl r.1), r.2) 0 0 (0, [some (.inr (.inr (some (0, 0)))), some (.inl x1), some (.inl x2), none, none, none], [], D)
  rw [fX11_goes] at h
  refine mz_Go.run (gs := []) (st' := (3, [some (.inr (.inr (some (0, 0)))), some (.inl x1), some (.inl x2), none, none, none], [.inl x2, .inl x1, .inr (.inr (some (0, 0)))], D)) bX11_goes_0 oX11_goes_0 rfl trivial ?_
  obtain ⟨q1, hq1, h⟩ := mz_bd_some h
  refine mz_Go.callV (I := IX11_goes) (J := IX11_duelTrouble) (as := [.inl x1, .inl x2]) (ci := 11) (g := 0) (o := 0) (idx := 305) (pl := 1214) (rest := []) (mX11_duelTrouble x1 x2 D q1 hq1) kX11_duelTrouble vX11_duelTrouble (by decide +kernel) (by decide +kernel) (by decide +kernel) rfl rfl ⟨rfl, rfl⟩ rfl rfl rfl rfl ?_
  refine mz_Go.run (gs := []) (st' := (if q1 = 0 then (17, [some (.inr (.inr (some (0, 0)))), some (.inl x1), some (.inl x2), some (.inl q1), none, none], [], D) else (11, [some (.inr (.inr (some (0, 0)))), some (.inl x1), some (.inl x2), some (.inl q1), none, none], [], D))) bX11_goes_6 oX11_goes_6 rfl trivial ?_
  refine mz_Go.ite (fun hc2 => ?_) (fun hc2 => ?_)
  · have h := mz_ifp hc2 h
    obtain ⟨hb3, h⟩ := mz_gd_some h
    obtain ⟨hb4, h⟩ := mz_gd_some h
    refine mz_Go.run (gs := [mz_kz 0 0 0, mz_kz 0 1 100, mz_kz 0 1 101, mz_kz 0 1 103, mz_ix x1 6, mz_kz 0 0 0, mz_kz 0 1 100, mz_kz 0 1 101, mz_kz 0 1 103, mz_ix x2 6]) (st' := (60, [some (.inr (.inr (some (0, 0)))), some (.inl x1), some (.inl x2), some (.inl q1), some (.inl (D.1 1 103 (x1).toNatClampNeg)), some (.inl (D.1 1 103 (x2).toNatClampNeg))], [.inl (D.1 1 103 (x2).toNatClampNeg), .inl (D.1 1 103 (x1).toNatClampNeg), .inr (.inl ((16 : Int64) * (((16 : Int32) + (D.1 1 103 (x1).toNatClampNeg))).toInt64)), .inr (.inr (some (0, 0)))], D)) bX11_goes_17 oX11_goes_17 rfl ⟨rfl, rfl, rfl, rfl, hb3, rfl, rfl, rfl, rfl, hb4, trivial⟩ ?_
    refine mz_Go.callS (I := IX11_goes) (J := IX11_whole) (as := [.inl (D.1 1 103 (x1).toNatClampNeg), .inl (D.1 1 103 (x2).toNatClampNeg)]) (idx := 311) (pl := 1228) (rest := [.inr (.inl ((16 : Int64) * (((16 : Int32) + (D.1 1 103 (x1).toNatClampNeg))).toInt64)), .inr (.inr (some (0, 0)))]) (mX11_whole (D.1 1 103 (x1).toNatClampNeg) (D.1 1 103 (x2).toNatClampNeg) D) kX11_whole vX11_whole (by decide +kernel) (by decide +kernel) (by decide +kernel) rfl rfl ⟨rfl, rfl⟩ rfl ?_
    obtain ⟨q5, hq5, h⟩ := mz_bd_some h
    refine mz_Go.callV (I := IX11_goes) (J := IX11_tell) (as := [.inr (.inl ((16 : Int64) * (((16 : Int32) + (D.1 1 103 (x1).toNatClampNeg))).toInt64)), .inr (.inl ((256 : Int64) - (((D.1 1 103 (x1).toNatClampNeg)).toInt64 * ((D.1 1 103 (x2).toNatClampNeg)).toInt64)))]) (ci := 11) (g := 0) (o := 0) (idx := 314) (pl := 1232) (rest := []) (mX11_tell ((16 : Int64) * (((16 : Int32) + (D.1 1 103 (x1).toNatClampNeg))).toInt64) ((256 : Int64) - (((D.1 1 103 (x1).toNatClampNeg)).toInt64 * ((D.1 1 103 (x2).toNatClampNeg)).toInt64)) D q5 hq5) kX11_tell vX11_tell (by decide +kernel) (by decide +kernel) (by decide +kernel) rfl rfl ⟨rfl, rfl⟩ rfl rfl rfl rfl ?_
    obtain ⟨hb6, h⟩ := mz_gd_some h
    cases h
    exact mz_Go.retz (by decide +kernel) rfl ⟨Nat.le_refl _, Nat.le_refl _⟩ hb6 rfl
  · have h := mz_ifn hc2 h
    refine mz_Go.run (gs := []) (st' := (13, [some (.inr (.inr (some (0, 0)))), some (.inl x1), some (.inl x2), some (.inl q1), none, none], [.inl q1, .inr (.inr (some (0, 0)))], D)) bX11_goes_11 oX11_goes_11 rfl trivial ?_
    refine mz_Go.callV (I := IX11_goes) (J := IX11_deny) (as := [.inl q1]) (ci := 11) (g := 0) (o := 0) (idx := 81) (pl := 634) (rest := []) (mX11_deny q1 D) kX11_deny vX11_deny (by decide +kernel) (by decide +kernel) (by decide +kernel) rfl rfl ⟨rfl, rfl⟩ rfl rfl rfl rfl ?_
    cases h
    exact mz_Go.retz (by decide +kernel) rfl ⟨Nat.le_refl _, Nat.le_refl _⟩ (by decide) rfl
def bX11_pick_0 : List mz_E := [(0, .iload_n 3, 0, 0, 0, 0, 0), (1, .iconst 3, 0, 0, 0, 3, 0), (2, .irem, 0, 0, 0, 0, 0)]
theorem oX11_pick_0 : bX11_pick_0.all (mz_ok RX11 cX11_pick 4) = true := by decide +kernel
def bX11_pick_28 : List mz_E := [(28, .iload_n 0, 0, 0, 0, 0, 0)]
theorem oX11_pick_28 : bX11_pick_28.all (mz_ok RX11 cX11_pick 4) = true := by decide +kernel
def bX11_pick_30 : List mz_E := [(30, .iload_n 1, 0, 0, 0, 0, 0)]
theorem oX11_pick_30 : bX11_pick_30.all (mz_ok RX11 cX11_pick 4) = true := by decide +kernel
def bX11_pick_32 : List mz_E := [(32, .iload_n 2, 0, 0, 0, 0, 0)]
theorem oX11_pick_32 : bX11_pick_32.all (mz_ok RX11 cX11_pick 4) = true := by decide +kernel
abbrev IX11_pick : mz_I := (yX11_pick, cX11_pick, 4, (some .int), 9, 0, 0, 0)
theorem kX11_pick : mz_okm IX11_pick 1253 126 1252 4 = true := by decide +kernel
theorem vX11_pick : mz_okS IX11_pick 1252 = true := by decide +kernel
def fX11_pick (x0 : Int32) (x1 : Int32) (x2 : Int32) (x3 : Int32) : Int32 := (if (x3 - x3 / (3 : Int32) * (3 : Int32)) = (0 : Int32) then x0 else (if (x3 - x3 / (3 : Int32) * (3 : Int32)) = (1 : Int32) then x1 else x2))
set_option maxHeartbeats 4000000 in
theorem mX11_pick (x0 : Int32) (x1 : Int32) (x2 : Int32) (x3 : Int32) (D : mz_D) (r : Int32) (h : fX11_pick x0 x1 x2 x3 = r) : mz_Met IX11_pick [.inl x0, .inl x1, .inl x2, .inl x3] D (some (.inl r), D) := by
  refine mz_Met.of (by decide +kernel) (Nat.le_of_ble_eq_true rfl) ?_
  show mz_Go IX11_pick (some (.inl r), D) 0 0 (0, [some (.inl x0), some (.inl x1), some (.inl x2), some (.inl x3)], [], D)
  rw [fX11_pick] at h
  refine mz_Go.run (gs := [mz_nz (3 : Int32)]) (st' := (3, [some (.inl x0), some (.inl x1), some (.inl x2), some (.inl x3)], [.inl (x3 - x3 / (3 : Int32) * (3 : Int32))], D)) bX11_pick_0 oX11_pick_0 rfl ⟨(by decide), trivial⟩ ?_
  refine mz_Go.lsw [(0, 28), (1, 30)] 32 (show decode cX11_pick 3 = .ok (.lookupswitch 29 #[(0, 25), (1, 27)], 25) by decide +kernel) (by decide +kernel) ?_
  refine mz_Go.swc (fun hc1 => ?_) (fun hc1 => ?_)
  · have h := mz_ifp hc1 h
    refine mz_Go.run (gs := []) (st' := (29, [some (.inl x0), some (.inl x1), some (.inl x2), some (.inl x3)], [.inl x0], D)) bX11_pick_28 oX11_pick_28 rfl trivial ?_
    subst h
    exact mz_Go.reti (by decide +kernel) rfl ⟨Nat.le_refl _, Nat.le_refl _⟩ rfl
  · have h := mz_ifn hc1 h
    refine mz_Go.swc (fun hc2 => ?_) (fun hc2 => ?_)
    · have h := mz_ifp hc2 h
      refine mz_Go.run (gs := []) (st' := (31, [some (.inl x0), some (.inl x1), some (.inl x2), some (.inl x3)], [.inl x1], D)) bX11_pick_30 oX11_pick_30 rfl trivial ?_
      subst h
      exact mz_Go.reti (by decide +kernel) rfl ⟨Nat.le_refl _, Nat.le_refl _⟩ rfl
    · have h := mz_ifn hc2 h
      refine mz_Go.run (gs := []) (st' := (33, [some (.inl x0), some (.inl x1), some (.inl x2), some (.inl x3)], [.inl x2], D)) bX11_pick_32 oX11_pick_32 rfl trivial ?_
      subst h
      exact mz_Go.reti (by decide +kernel) rfl ⟨Nat.le_refl _, Nat.le_refl _⟩ rfl
def bX11_firstOut_0 : List mz_E := [(0, .iload_n 3, 0, 0, 0, 0, 0)]
theorem oX11_firstOut_0 : bX11_firstOut_0.all (mz_ok RX11 cX11_firstOut 4) = true := by decide +kernel
def bX11_firstOut_28 : List mz_E := [(28, .bipush 16, 0, 0, 0, 16, 0), (30, .iload_n 0, 0, 0, 0, 0, 0), (31, .isub, 0, 0, 0, 0, 0), (32, .i2l, 0, 0, 0, 0, 0), (33, .ldc2_w 318, 0, 0, 1243, 0, 16), (36, .lmul, 0, 0, 0, 0, 0), (37, .ldc2_w 318, 0, 0, 1243, 0, 16), (40, .lmul, 0, 0, 0, 0, 0)]
theorem oX11_firstOut_28 : bX11_firstOut_28.all (mz_ok RX11 cX11_firstOut 4) = true := by decide +kernel
def bX11_firstOut_42 : List mz_E := [(42, .iload_n 0, 0, 0, 0, 0, 0), (43, .i2l, 0, 0, 0, 0, 0), (44, .bipush 16, 0, 0, 0, 16, 0), (46, .iload_n 1, 0, 0, 0, 0, 0), (47, .isub, 0, 0, 0, 0, 0), (48, .i2l, 0, 0, 0, 0, 0), (49, .lmul, 0, 0, 0, 0, 0), (50, .ldc2_w 318, 0, 0, 1243, 0, 16), (53, .lmul, 0, 0, 0, 0, 0)]
theorem oX11_firstOut_42 : bX11_firstOut_42.all (mz_ok RX11 cX11_firstOut 4) = true := by decide +kernel
def bX11_firstOut_55 : List mz_E := [(55, .iload_n 0, 0, 0, 0, 0, 0), (56, .i2l, 0, 0, 0, 0, 0), (57, .iload_n 1, 0, 0, 0, 0, 0), (58, .i2l, 0, 0, 0, 0, 0), (59, .lmul, 0, 0, 0, 0, 0), (60, .bipush 16, 0, 0, 0, 16, 0), (62, .iload_n 2, 0, 0, 0, 0, 0), (63, .isub, 0, 0, 0, 0, 0), (64, .i2l, 0, 0, 0, 0, 0), (65, .lmul, 0, 0, 0, 0, 0)]
theorem oX11_firstOut_55 : bX11_firstOut_55.all (mz_ok RX11 cX11_firstOut 4) = true := by decide +kernel
abbrev IX11_firstOut : mz_I := (yX11_firstOut, cX11_firstOut, 4, (some .long), 9, 0, 0, 0)
theorem kX11_firstOut : mz_okm IX11_firstOut 1256 126 1255 4 = true := by decide +kernel
theorem vX11_firstOut : mz_okS IX11_firstOut 1255 = true := by decide +kernel
def fX11_firstOut (x0 : Int32) (x1 : Int32) (x2 : Int32) (x3 : Int32) : Int64 := (if x3 = (0 : Int32) then (((((16 : Int32) - x0)).toInt64 * (16 : Int64)) * (16 : Int64)) else (if x3 = (1 : Int32) then (((x0).toInt64 * (((16 : Int32) - x1)).toInt64) * (16 : Int64)) else (((x0).toInt64 * (x1).toInt64) * (((16 : Int32) - x2)).toInt64)))
set_option maxHeartbeats 4000000 in
theorem mX11_firstOut (x0 : Int32) (x1 : Int32) (x2 : Int32) (x3 : Int32) (D : mz_D) (r : Int64) (h : fX11_firstOut x0 x1 x2 x3 = r) : mz_Met IX11_firstOut [.inl x0, .inl x1, .inl x2, .inl x3] D (some (.inr (.inl r)), D) := by
  refine mz_Met.of (by decide +kernel) (Nat.le_of_ble_eq_true rfl) ?_
  show mz_Go IX11_firstOut (some (.inr (.inl r)), D) 0 0 (0, [some (.inl x0), some (.inl x1), some (.inl x2), some (.inl x3)], [], D)
  rw [fX11_firstOut] at h
  refine mz_Go.run (gs := []) (st' := (1, [some (.inl x0), some (.inl x1), some (.inl x2), some (.inl x3)], [.inl x3], D)) bX11_firstOut_0 oX11_firstOut_0 rfl trivial ?_
  refine mz_Go.lsw [(0, 28), (1, 42)] 55 (show decode cX11_firstOut 1 = .ok (.lookupswitch 54 #[(0, 27), (1, 41)], 27) by decide +kernel) (by decide +kernel) ?_
  refine mz_Go.swc (fun hc1 => ?_) (fun hc1 => ?_)
  · have h := mz_ifp hc1 h
    refine mz_Go.run (gs := []) (st' := (41, [some (.inl x0), some (.inl x1), some (.inl x2), some (.inl x3)], [.inr (.inl (((((16 : Int32) - x0)).toInt64 * (16 : Int64)) * (16 : Int64)))], D)) bX11_firstOut_28 oX11_firstOut_28 rfl trivial ?_
    subst h
    exact mz_Go.retl (by decide +kernel) rfl ⟨Nat.le_refl _, Nat.le_refl _⟩ rfl
  · have h := mz_ifn hc1 h
    refine mz_Go.swc (fun hc2 => ?_) (fun hc2 => ?_)
    · have h := mz_ifp hc2 h
      refine mz_Go.run (gs := []) (st' := (54, [some (.inl x0), some (.inl x1), some (.inl x2), some (.inl x3)], [.inr (.inl (((x0).toInt64 * (((16 : Int32) - x1)).toInt64) * (16 : Int64)))], D)) bX11_firstOut_42 oX11_firstOut_42 rfl trivial ?_
      subst h
      exact mz_Go.retl (by decide +kernel) rfl ⟨Nat.le_refl _, Nat.le_refl _⟩ rfl
    · have h := mz_ifn hc2 h
      refine mz_Go.run (gs := []) (st' := (66, [some (.inl x0), some (.inl x1), some (.inl x2), some (.inl x3)], [.inr (.inl (((x0).toInt64 * (x1).toInt64) * (((16 : Int32) - x2)).toInt64))], D)) bX11_firstOut_55 oX11_firstOut_55 rfl trivial ?_
      subst h
      exact mz_Go.retl (by decide +kernel) rfl ⟨Nat.le_refl _, Nat.le_refl _⟩ rfl
def bX11_trioTop_0 : List mz_E := [(0, .iload_n 0, 0, 0, 0, 0, 0), (1, .iload_n 1, 0, 0, 0, 0, 0), (2, .iload_n 2, 0, 0, 0, 0, 0), (3, .iload_n 3, 0, 0, 0, 0, 0)]
theorem oX11_trioTop_0 : bX11_trioTop_0.all (mz_ok RX11 cX11_trioTop 11) = true := by decide +kernel
def bX11_trioTop_7 : List mz_E := [(7, .istore 4, 0, 0, 0, 0, 0), (9, .iload_n 0, 0, 0, 0, 0, 0), (10, .iload_n 1, 0, 0, 0, 0, 0), (11, .iload_n 2, 0, 0, 0, 0, 0), (12, .iload_n 3, 0, 0, 0, 0, 0), (13, .iconst 1, 0, 0, 0, 1, 0), (14, .iadd, 0, 0, 0, 0, 0)]
theorem oX11_trioTop_7 : bX11_trioTop_7.all (mz_ok RX11 cX11_trioTop 11) = true := by decide +kernel
def bX11_trioTop_18 : List mz_E := [(18, .istore 5, 0, 0, 0, 0, 0), (20, .iload_n 0, 0, 0, 0, 0, 0), (21, .iload_n 1, 0, 0, 0, 0, 0), (22, .iload_n 2, 0, 0, 0, 0, 0), (23, .iload_n 3, 0, 0, 0, 0, 0), (24, .iconst 2, 0, 0, 0, 2, 0), (25, .iadd, 0, 0, 0, 0, 0)]
theorem oX11_trioTop_18 : bX11_trioTop_18.all (mz_ok RX11 cX11_trioTop 11) = true := by decide +kernel
def bX11_trioTop_29 : List mz_E := [(29, .istore 6, 0, 0, 0, 0, 0), (31, .iload_n 0, 0, 0, 0, 0, 0), (32, .iload_n 1, 0, 0, 0, 0, 0), (33, .iload_n 2, 0, 0, 0, 0, 0), (34, .iload_n 3, 0, 0, 0, 0, 0), (35, .iconst 2, 0, 0, 0, 2, 0), (36, .iadd, 0, 0, 0, 0, 0), (37, .iconst 3, 0, 0, 0, 3, 0), (38, .irem, 0, 0, 0, 0, 0)]
theorem oX11_trioTop_29 : bX11_trioTop_29.all (mz_ok RX11 cX11_trioTop 11) = true := by decide +kernel
def bX11_trioTop_42 : List mz_E := [(42, .iload 4, 0, 0, 0, 0, 0), (44, .iload 5, 0, 0, 0, 0, 0)]
theorem oX11_trioTop_42 : bX11_trioTop_42.all (mz_ok RX11 cX11_trioTop 11) = true := by decide +kernel
def bX11_trioTop_49 : List mz_E := [(49, .lmul, 0, 0, 0, 0, 0), (50, .iload 6, 0, 0, 0, 0, 0), (52, .iload 4, 0, 0, 0, 0, 0)]
theorem oX11_trioTop_49 : bX11_trioTop_49.all (mz_ok RX11 cX11_trioTop 11) = true := by decide +kernel
def bX11_trioTop_57 : List mz_E := [(57, .lmul, 0, 0, 0, 0, 0), (58, .lstore 7, 0, 0, 0, 0, 0), (60, .iload_n 0, 0, 0, 0, 0, 0), (61, .iload_n 1, 0, 0, 0, 0, 0), (62, .iload_n 2, 0, 0, 0, 0, 0), (63, .iload_n 3, 0, 0, 0, 0, 0), (64, .iconst 1, 0, 0, 0, 1, 0), (65, .iadd, 0, 0, 0, 0, 0), (66, .iconst 3, 0, 0, 0, 3, 0), (67, .irem, 0, 0, 0, 0, 0)]
theorem oX11_trioTop_57 : bX11_trioTop_57.all (mz_ok RX11 cX11_trioTop 11) = true := by decide +kernel
def bX11_trioTop_71 : List mz_E := [(71, .ldc2_w 318, 0, 0, 1243, 0, 16), (74, .lmul, 0, 0, 0, 0, 0), (75, .bipush 16, 0, 0, 0, 16, 0), (77, .iload 6, 0, 0, 0, 0, 0), (79, .isub, 0, 0, 0, 0, 0), (80, .i2l, 0, 0, 0, 0, 0), (81, .lmul, 0, 0, 0, 0, 0), (82, .iload 4, 0, 0, 0, 0, 0), (84, .iload 5, 0, 0, 0, 0, 0)]
theorem oX11_trioTop_71 : bX11_trioTop_71.all (mz_ok RX11 cX11_trioTop 11) = true := by decide +kernel
def bX11_trioTop_89 : List mz_E := [(89, .lmul, 0, 0, 0, 0, 0), (90, .lstore 9, 0, 0, 0, 0, 0), (92, .lload 7, 0, 0, 0, 0, 0), (94, .lload 9, 0, 0, 0, 0, 0), (96, .ladd, 0, 0, 0, 0, 0)]
theorem oX11_trioTop_89 : bX11_trioTop_89.all (mz_ok RX11 cX11_trioTop 11) = true := by decide +kernel
abbrev IX11_trioTop : mz_I := (yX11_trioTop, cX11_trioTop, 11, (some .long), 9, 1, 0, 0)
theorem kX11_trioTop : mz_okm IX11_trioTop 1250 126 1249 4 = true := by decide +kernel
theorem vX11_trioTop : mz_okS IX11_trioTop 1249 = true := by decide +kernel
def fX11_trioTop (x0 : Int32) (x1 : Int32) (x2 : Int32) (x3 : Int32) : Int64 := ((((fX11_firstOut x0 x1 x2 ((x3 + (2 : Int32)) - (x3 + (2 : Int32)) / (3 : Int32) * (3 : Int32))) * (((fX11_pick x0 x1 x2 x3)).toInt64 * (((16 : Int32) - (fX11_pick x0 x1 x2 (x3 + (1 : Int32))))).toInt64)) * ((256 : Int64) - (((fX11_pick x0 x1 x2 (x3 + (2 : Int32)))).toInt64 * ((fX11_pick x0 x1 x2 x3)).toInt64))) + ((((fX11_firstOut x0 x1 x2 ((x3 + (1 : Int32)) - (x3 + (1 : Int32)) / (3 : Int32) * (3 : Int32))) * (16 : Int64)) * (((16 : Int32) - (fX11_pick x0 x1 x2 (x3 + (2 : Int32))))).toInt64) * ((256 : Int64) - (((fX11_pick x0 x1 x2 x3)).toInt64 * ((fX11_pick x0 x1 x2 (x3 + (1 : Int32)))).toInt64))))
set_option maxHeartbeats 4000000 in
theorem mX11_trioTop (x0 : Int32) (x1 : Int32) (x2 : Int32) (x3 : Int32) (D : mz_D) (r : Int64) (h : fX11_trioTop x0 x1 x2 x3 = r) : mz_Met IX11_trioTop [.inl x0, .inl x1, .inl x2, .inl x3] D (some (.inr (.inl r)), D) := by
  refine mz_Met.of (by decide +kernel) (Nat.le_of_ble_eq_true rfl) ?_
  show mz_Go IX11_trioTop (some (.inr (.inl r)), D) 0 0 (0, [some (.inl x0), some (.inl x1), some (.inl x2), some (.inl x3), none, none, none, none, none, none, none], [], D)
  rw [fX11_trioTop] at h
  refine mz_Go.run (gs := []) (st' := (4, [some (.inl x0), some (.inl x1), some (.inl x2), some (.inl x3), none, none, none, none, none, none, none], [.inl x3, .inl x2, .inl x1, .inl x0], D)) bX11_trioTop_0 oX11_trioTop_0 rfl trivial ?_
  refine mz_Go.callS (I := IX11_trioTop) (J := IX11_pick) (as := [.inl x0, .inl x1, .inl x2, .inl x3]) (idx := 484) (pl := 1251) (rest := []) (mX11_pick x0 x1 x2 x3 D _ rfl) kX11_pick vX11_pick (by decide +kernel) (by decide +kernel) (by decide +kernel) rfl rfl ⟨rfl, rfl⟩ rfl ?_
  refine mz_Go.run (gs := []) (st' := (15, [some (.inl x0), some (.inl x1), some (.inl x2), some (.inl x3), some (.inl (fX11_pick x0 x1 x2 x3)), none, none, none, none, none, none], [.inl (x3 + (1 : Int32)), .inl x2, .inl x1, .inl x0], D)) bX11_trioTop_7 oX11_trioTop_7 rfl trivial ?_
  refine mz_Go.callS (I := IX11_trioTop) (J := IX11_pick) (as := [.inl x0, .inl x1, .inl x2, .inl (x3 + (1 : Int32))]) (idx := 484) (pl := 1251) (rest := []) (mX11_pick x0 x1 x2 (x3 + (1 : Int32)) D _ rfl) kX11_pick vX11_pick (by decide +kernel) (by decide +kernel) (by decide +kernel) rfl rfl ⟨rfl, rfl⟩ rfl ?_
  refine mz_Go.run (gs := []) (st' := (26, [some (.inl x0), some (.inl x1), some (.inl x2), some (.inl x3), some (.inl (fX11_pick x0 x1 x2 x3)), some (.inl (fX11_pick x0 x1 x2 (x3 + (1 : Int32)))), none, none, none, none, none], [.inl (x3 + (2 : Int32)), .inl x2, .inl x1, .inl x0], D)) bX11_trioTop_18 oX11_trioTop_18 rfl trivial ?_
  refine mz_Go.callS (I := IX11_trioTop) (J := IX11_pick) (as := [.inl x0, .inl x1, .inl x2, .inl (x3 + (2 : Int32))]) (idx := 484) (pl := 1251) (rest := []) (mX11_pick x0 x1 x2 (x3 + (2 : Int32)) D _ rfl) kX11_pick vX11_pick (by decide +kernel) (by decide +kernel) (by decide +kernel) rfl rfl ⟨rfl, rfl⟩ rfl ?_
  refine mz_Go.run (gs := [mz_nz (3 : Int32)]) (st' := (39, [some (.inl x0), some (.inl x1), some (.inl x2), some (.inl x3), some (.inl (fX11_pick x0 x1 x2 x3)), some (.inl (fX11_pick x0 x1 x2 (x3 + (1 : Int32)))), some (.inl (fX11_pick x0 x1 x2 (x3 + (2 : Int32)))), none, none, none, none], [.inl ((x3 + (2 : Int32)) - (x3 + (2 : Int32)) / (3 : Int32) * (3 : Int32)), .inl x2, .inl x1, .inl x0], D)) bX11_trioTop_29 oX11_trioTop_29 rfl ⟨(by decide), trivial⟩ ?_
  refine mz_Go.callS (I := IX11_trioTop) (J := IX11_firstOut) (as := [.inl x0, .inl x1, .inl x2, .inl ((x3 + (2 : Int32)) - (x3 + (2 : Int32)) / (3 : Int32) * (3 : Int32))]) (idx := 487) (pl := 1254) (rest := []) (mX11_firstOut x0 x1 x2 ((x3 + (2 : Int32)) - (x3 + (2 : Int32)) / (3 : Int32) * (3 : Int32)) D _ rfl) kX11_firstOut vX11_firstOut (by decide +kernel) (by decide +kernel) (by decide +kernel) rfl rfl ⟨rfl, rfl⟩ rfl ?_
  refine mz_Go.run (gs := []) (st' := (46, [some (.inl x0), some (.inl x1), some (.inl x2), some (.inl x3), some (.inl (fX11_pick x0 x1 x2 x3)), some (.inl (fX11_pick x0 x1 x2 (x3 + (1 : Int32)))), some (.inl (fX11_pick x0 x1 x2 (x3 + (2 : Int32)))), none, none, none, none], [.inl (fX11_pick x0 x1 x2 (x3 + (1 : Int32))), .inl (fX11_pick x0 x1 x2 x3), .inr (.inl (fX11_firstOut x0 x1 x2 ((x3 + (2 : Int32)) - (x3 + (2 : Int32)) / (3 : Int32) * (3 : Int32))))], D)) bX11_trioTop_42 oX11_trioTop_42 rfl trivial ?_
  refine mz_Go.callS (I := IX11_trioTop) (J := IX11_wins) (as := [.inl (fX11_pick x0 x1 x2 x3), .inl (fX11_pick x0 x1 x2 (x3 + (1 : Int32)))]) (idx := 308) (pl := 1225) (rest := [.inr (.inl (fX11_firstOut x0 x1 x2 ((x3 + (2 : Int32)) - (x3 + (2 : Int32)) / (3 : Int32) * (3 : Int32))))]) (mX11_wins (fX11_pick x0 x1 x2 x3) (fX11_pick x0 x1 x2 (x3 + (1 : Int32))) D) kX11_wins vX11_wins (by decide +kernel) (by decide +kernel) (by decide +kernel) rfl rfl ⟨rfl, rfl⟩ rfl ?_
  refine mz_Go.run (gs := []) (st' := (54, [some (.inl x0), some (.inl x1), some (.inl x2), some (.inl x3), some (.inl (fX11_pick x0 x1 x2 x3)), some (.inl (fX11_pick x0 x1 x2 (x3 + (1 : Int32)))), some (.inl (fX11_pick x0 x1 x2 (x3 + (2 : Int32)))), none, none, none, none], [.inl (fX11_pick x0 x1 x2 x3), .inl (fX11_pick x0 x1 x2 (x3 + (2 : Int32))), .inr (.inl ((fX11_firstOut x0 x1 x2 ((x3 + (2 : Int32)) - (x3 + (2 : Int32)) / (3 : Int32) * (3 : Int32))) * (((fX11_pick x0 x1 x2 x3)).toInt64 * (((16 : Int32) - (fX11_pick x0 x1 x2 (x3 + (1 : Int32))))).toInt64)))], D)) bX11_trioTop_49 oX11_trioTop_49 rfl trivial ?_
  refine mz_Go.callS (I := IX11_trioTop) (J := IX11_whole) (as := [.inl (fX11_pick x0 x1 x2 (x3 + (2 : Int32))), .inl (fX11_pick x0 x1 x2 x3)]) (idx := 311) (pl := 1228) (rest := [.inr (.inl ((fX11_firstOut x0 x1 x2 ((x3 + (2 : Int32)) - (x3 + (2 : Int32)) / (3 : Int32) * (3 : Int32))) * (((fX11_pick x0 x1 x2 x3)).toInt64 * (((16 : Int32) - (fX11_pick x0 x1 x2 (x3 + (1 : Int32))))).toInt64)))]) (mX11_whole (fX11_pick x0 x1 x2 (x3 + (2 : Int32))) (fX11_pick x0 x1 x2 x3) D) kX11_whole vX11_whole (by decide +kernel) (by decide +kernel) (by decide +kernel) rfl rfl ⟨rfl, rfl⟩ rfl ?_
  refine mz_Go.run (gs := [mz_nz (3 : Int32)]) (st' := (68, [some (.inl x0), some (.inl x1), some (.inl x2), some (.inl x3), some (.inl (fX11_pick x0 x1 x2 x3)), some (.inl (fX11_pick x0 x1 x2 (x3 + (1 : Int32)))), some (.inl (fX11_pick x0 x1 x2 (x3 + (2 : Int32)))), some (.inr (.inl (((fX11_firstOut x0 x1 x2 ((x3 + (2 : Int32)) - (x3 + (2 : Int32)) / (3 : Int32) * (3 : Int32))) * (((fX11_pick x0 x1 x2 x3)).toInt64 * (((16 : Int32) - (fX11_pick x0 x1 x2 (x3 + (1 : Int32))))).toInt64)) * ((256 : Int64) - (((fX11_pick x0 x1 x2 (x3 + (2 : Int32)))).toInt64 * ((fX11_pick x0 x1 x2 x3)).toInt64))))), none, none, none], [.inl ((x3 + (1 : Int32)) - (x3 + (1 : Int32)) / (3 : Int32) * (3 : Int32)), .inl x2, .inl x1, .inl x0], D)) bX11_trioTop_57 oX11_trioTop_57 rfl ⟨(by decide), trivial⟩ ?_
  refine mz_Go.callS (I := IX11_trioTop) (J := IX11_firstOut) (as := [.inl x0, .inl x1, .inl x2, .inl ((x3 + (1 : Int32)) - (x3 + (1 : Int32)) / (3 : Int32) * (3 : Int32))]) (idx := 487) (pl := 1254) (rest := []) (mX11_firstOut x0 x1 x2 ((x3 + (1 : Int32)) - (x3 + (1 : Int32)) / (3 : Int32) * (3 : Int32)) D _ rfl) kX11_firstOut vX11_firstOut (by decide +kernel) (by decide +kernel) (by decide +kernel) rfl rfl ⟨rfl, rfl⟩ rfl ?_
  refine mz_Go.run (gs := []) (st' := (86, [some (.inl x0), some (.inl x1), some (.inl x2), some (.inl x3), some (.inl (fX11_pick x0 x1 x2 x3)), some (.inl (fX11_pick x0 x1 x2 (x3 + (1 : Int32)))), some (.inl (fX11_pick x0 x1 x2 (x3 + (2 : Int32)))), some (.inr (.inl (((fX11_firstOut x0 x1 x2 ((x3 + (2 : Int32)) - (x3 + (2 : Int32)) / (3 : Int32) * (3 : Int32))) * (((fX11_pick x0 x1 x2 x3)).toInt64 * (((16 : Int32) - (fX11_pick x0 x1 x2 (x3 + (1 : Int32))))).toInt64)) * ((256 : Int64) - (((fX11_pick x0 x1 x2 (x3 + (2 : Int32)))).toInt64 * ((fX11_pick x0 x1 x2 x3)).toInt64))))), none, none, none], [.inl (fX11_pick x0 x1 x2 (x3 + (1 : Int32))), .inl (fX11_pick x0 x1 x2 x3), .inr (.inl (((fX11_firstOut x0 x1 x2 ((x3 + (1 : Int32)) - (x3 + (1 : Int32)) / (3 : Int32) * (3 : Int32))) * (16 : Int64)) * (((16 : Int32) - (fX11_pick x0 x1 x2 (x3 + (2 : Int32))))).toInt64))], D)) bX11_trioTop_71 oX11_trioTop_71 rfl trivial ?_
  refine mz_Go.callS (I := IX11_trioTop) (J := IX11_whole) (as := [.inl (fX11_pick x0 x1 x2 x3), .inl (fX11_pick x0 x1 x2 (x3 + (1 : Int32)))]) (idx := 311) (pl := 1228) (rest := [.inr (.inl (((fX11_firstOut x0 x1 x2 ((x3 + (1 : Int32)) - (x3 + (1 : Int32)) / (3 : Int32) * (3 : Int32))) * (16 : Int64)) * (((16 : Int32) - (fX11_pick x0 x1 x2 (x3 + (2 : Int32))))).toInt64))]) (mX11_whole (fX11_pick x0 x1 x2 x3) (fX11_pick x0 x1 x2 (x3 + (1 : Int32))) D) kX11_whole vX11_whole (by decide +kernel) (by decide +kernel) (by decide +kernel) rfl rfl ⟨rfl, rfl⟩ rfl ?_
  refine mz_Go.run (gs := []) (st' := (97, [some (.inl x0), some (.inl x1), some (.inl x2), some (.inl x3), some (.inl (fX11_pick x0 x1 x2 x3)), some (.inl (fX11_pick x0 x1 x2 (x3 + (1 : Int32)))), some (.inl (fX11_pick x0 x1 x2 (x3 + (2 : Int32)))), some (.inr (.inl (((fX11_firstOut x0 x1 x2 ((x3 + (2 : Int32)) - (x3 + (2 : Int32)) / (3 : Int32) * (3 : Int32))) * (((fX11_pick x0 x1 x2 x3)).toInt64 * (((16 : Int32) - (fX11_pick x0 x1 x2 (x3 + (1 : Int32))))).toInt64)) * ((256 : Int64) - (((fX11_pick x0 x1 x2 (x3 + (2 : Int32)))).toInt64 * ((fX11_pick x0 x1 x2 x3)).toInt64))))), none, some (.inr (.inl ((((fX11_firstOut x0 x1 x2 ((x3 + (1 : Int32)) - (x3 + (1 : Int32)) / (3 : Int32) * (3 : Int32))) * (16 : Int64)) * (((16 : Int32) - (fX11_pick x0 x1 x2 (x3 + (2 : Int32))))).toInt64) * ((256 : Int64) - (((fX11_pick x0 x1 x2 x3)).toInt64 * ((fX11_pick x0 x1 x2 (x3 + (1 : Int32)))).toInt64))))), none], [.inr (.inl ((((fX11_firstOut x0 x1 x2 ((x3 + (2 : Int32)) - (x3 + (2 : Int32)) / (3 : Int32) * (3 : Int32))) * (((fX11_pick x0 x1 x2 x3)).toInt64 * (((16 : Int32) - (fX11_pick x0 x1 x2 (x3 + (1 : Int32))))).toInt64)) * ((256 : Int64) - (((fX11_pick x0 x1 x2 (x3 + (2 : Int32)))).toInt64 * ((fX11_pick x0 x1 x2 x3)).toInt64))) + ((((fX11_firstOut x0 x1 x2 ((x3 + (1 : Int32)) - (x3 + (1 : Int32)) / (3 : Int32) * (3 : Int32))) * (16 : Int64)) * (((16 : Int32) - (fX11_pick x0 x1 x2 (x3 + (2 : Int32))))).toInt64) * ((256 : Int64) - (((fX11_pick x0 x1 x2 x3)).toInt64 * ((fX11_pick x0 x1 x2 (x3 + (1 : Int32)))).toInt64)))))], D)) bX11_trioTop_89 oX11_trioTop_89 rfl trivial ?_
  subst h
  exact mz_Go.retl (by decide +kernel) rfl ⟨Nat.le_refl _, Nat.le_refl _⟩ rfl
def bX11_trioBottom_0 : List mz_E := [(0, .iload_n 0, 0, 0, 0, 0, 0), (1, .iload_n 1, 0, 0, 0, 0, 0), (2, .iload_n 2, 0, 0, 0, 0, 0), (3, .iload_n 3, 0, 0, 0, 0, 0)]
theorem oX11_trioBottom_0 : bX11_trioBottom_0.all (mz_ok RX11 cX11_trioBottom 7) = true := by decide +kernel
def bX11_trioBottom_7 : List mz_E := [(7, .istore 4, 0, 0, 0, 0, 0), (9, .ldc2_w 490, 0, 0, 1260, 0, 4096), (12, .iload_n 0, 0, 0, 0, 0, 0), (13, .i2l, 0, 0, 0, 0, 0), (14, .iload_n 1, 0, 0, 0, 0, 0), (15, .i2l, 0, 0, 0, 0, 0), (16, .lmul, 0, 0, 0, 0, 0), (17, .iload_n 2, 0, 0, 0, 0, 0), (18, .i2l, 0, 0, 0, 0, 0), (19, .lmul, 0, 0, 0, 0, 0), (20, .lsub, 0, 0, 0, 0, 0), (21, .lstore 5, 0, 0, 0, 0, 0), (23, .lload 5, 0, 0, 0, 0, 0), (25, .iload 4, 0, 0, 0, 0, 0), (27, .iload_n 0, 0, 0, 0, 0, 0), (28, .iload_n 1, 0, 0, 0, 0, 0), (29, .iload_n 2, 0, 0, 0, 0, 0), (30, .iload_n 3, 0, 0, 0, 0, 0), (31, .iconst 1, 0, 0, 0, 1, 0), (32, .iadd, 0, 0, 0, 0, 0)]
theorem oX11_trioBottom_7 : bX11_trioBottom_7.all (mz_ok RX11 cX11_trioBottom 7) = true := by decide +kernel
def bX11_trioBottom_39 : List mz_E := [(39, .lmul, 0, 0, 0, 0, 0), (40, .iload_n 0, 0, 0, 0, 0, 0), (41, .iload_n 1, 0, 0, 0, 0, 0), (42, .iload_n 2, 0, 0, 0, 0, 0), (43, .iload_n 3, 0, 0, 0, 0, 0), (44, .iconst 2, 0, 0, 0, 2, 0), (45, .iadd, 0, 0, 0, 0, 0)]
theorem oX11_trioBottom_39 : bX11_trioBottom_39.all (mz_ok RX11 cX11_trioBottom 7) = true := by decide +kernel
def bX11_trioBottom_49 : List mz_E := [(49, .iload 4, 0, 0, 0, 0, 0)]
theorem oX11_trioBottom_49 : bX11_trioBottom_49.all (mz_ok RX11 cX11_trioBottom 7) = true := by decide +kernel
def bX11_trioBottom_54 : List mz_E := [(54, .lmul, 0, 0, 0, 0, 0)]
theorem oX11_trioBottom_54 : bX11_trioBottom_54.all (mz_ok RX11 cX11_trioBottom 7) = true := by decide +kernel
abbrev IX11_trioBottom : mz_I := (yX11_trioBottom, cX11_trioBottom, 7, (some .long), 9, 1, 0, 0)
theorem kX11_trioBottom : mz_okm IX11_trioBottom 1259 126 1258 4 = true := by decide +kernel
theorem vX11_trioBottom : mz_okS IX11_trioBottom 1258 = true := by decide +kernel
def fX11_trioBottom (x0 : Int32) (x1 : Int32) (x2 : Int32) (x3 : Int32) : Int64 := ((((4096 : Int64) - (((x0).toInt64 * (x1).toInt64) * (x2).toInt64)) * ((256 : Int64) - (((fX11_pick x0 x1 x2 x3)).toInt64 * ((fX11_pick x0 x1 x2 (x3 + (1 : Int32)))).toInt64))) * ((256 : Int64) - (((fX11_pick x0 x1 x2 (x3 + (2 : Int32)))).toInt64 * ((fX11_pick x0 x1 x2 x3)).toInt64)))
set_option maxHeartbeats 4000000 in
theorem mX11_trioBottom (x0 : Int32) (x1 : Int32) (x2 : Int32) (x3 : Int32) (D : mz_D) (r : Int64) (h : fX11_trioBottom x0 x1 x2 x3 = r) : mz_Met IX11_trioBottom [.inl x0, .inl x1, .inl x2, .inl x3] D (some (.inr (.inl r)), D) := by
  refine mz_Met.of (by decide +kernel) (Nat.le_of_ble_eq_true rfl) ?_
  show mz_Go IX11_trioBottom (some (.inr (.inl r)), D) 0 0 (0, [some (.inl x0), some (.inl x1), some (.inl x2), some (.inl x3), none, none, none], [], D)
  rw [fX11_trioBottom] at h
  refine mz_Go.run (gs := []) (st' := (4, [some (.inl x0), some (.inl x1), some (.inl x2), some (.inl x3), none, none, none], [.inl x3, .inl x2, .inl x1, .inl x0], D)) bX11_trioBottom_0 oX11_trioBottom_0 rfl trivial ?_
  refine mz_Go.callS (I := IX11_trioBottom) (J := IX11_pick) (as := [.inl x0, .inl x1, .inl x2, .inl x3]) (idx := 484) (pl := 1251) (rest := []) (mX11_pick x0 x1 x2 x3 D _ rfl) kX11_pick vX11_pick (by decide +kernel) (by decide +kernel) (by decide +kernel) rfl rfl ⟨rfl, rfl⟩ rfl ?_
  refine mz_Go.run (gs := []) (st' := (33, [some (.inl x0), some (.inl x1), some (.inl x2), some (.inl x3), some (.inl (fX11_pick x0 x1 x2 x3)), some (.inr (.inl ((4096 : Int64) - (((x0).toInt64 * (x1).toInt64) * (x2).toInt64)))), none], [.inl (x3 + (1 : Int32)), .inl x2, .inl x1, .inl x0, .inl (fX11_pick x0 x1 x2 x3), .inr (.inl ((4096 : Int64) - (((x0).toInt64 * (x1).toInt64) * (x2).toInt64)))], D)) bX11_trioBottom_7 oX11_trioBottom_7 rfl trivial ?_
  refine mz_Go.callS (I := IX11_trioBottom) (J := IX11_pick) (as := [.inl x0, .inl x1, .inl x2, .inl (x3 + (1 : Int32))]) (idx := 484) (pl := 1251) (rest := [.inl (fX11_pick x0 x1 x2 x3), .inr (.inl ((4096 : Int64) - (((x0).toInt64 * (x1).toInt64) * (x2).toInt64)))]) (mX11_pick x0 x1 x2 (x3 + (1 : Int32)) D _ rfl) kX11_pick vX11_pick (by decide +kernel) (by decide +kernel) (by decide +kernel) rfl rfl ⟨rfl, rfl⟩ rfl ?_
  refine mz_Go.callS (I := IX11_trioBottom) (J := IX11_whole) (as := [.inl (fX11_pick x0 x1 x2 x3), .inl (fX11_pick x0 x1 x2 (x3 + (1 : Int32)))]) (idx := 311) (pl := 1228) (rest := [.inr (.inl ((4096 : Int64) - (((x0).toInt64 * (x1).toInt64) * (x2).toInt64)))]) (mX11_whole (fX11_pick x0 x1 x2 x3) (fX11_pick x0 x1 x2 (x3 + (1 : Int32))) D) kX11_whole vX11_whole (by decide +kernel) (by decide +kernel) (by decide +kernel) rfl rfl ⟨rfl, rfl⟩ rfl ?_
  refine mz_Go.run (gs := []) (st' := (46, [some (.inl x0), some (.inl x1), some (.inl x2), some (.inl x3), some (.inl (fX11_pick x0 x1 x2 x3)), some (.inr (.inl ((4096 : Int64) - (((x0).toInt64 * (x1).toInt64) * (x2).toInt64)))), none], [.inl (x3 + (2 : Int32)), .inl x2, .inl x1, .inl x0, .inr (.inl (((4096 : Int64) - (((x0).toInt64 * (x1).toInt64) * (x2).toInt64)) * ((256 : Int64) - (((fX11_pick x0 x1 x2 x3)).toInt64 * ((fX11_pick x0 x1 x2 (x3 + (1 : Int32)))).toInt64))))], D)) bX11_trioBottom_39 oX11_trioBottom_39 rfl trivial ?_
  refine mz_Go.callS (I := IX11_trioBottom) (J := IX11_pick) (as := [.inl x0, .inl x1, .inl x2, .inl (x3 + (2 : Int32))]) (idx := 484) (pl := 1251) (rest := [.inr (.inl (((4096 : Int64) - (((x0).toInt64 * (x1).toInt64) * (x2).toInt64)) * ((256 : Int64) - (((fX11_pick x0 x1 x2 x3)).toInt64 * ((fX11_pick x0 x1 x2 (x3 + (1 : Int32)))).toInt64))))]) (mX11_pick x0 x1 x2 (x3 + (2 : Int32)) D _ rfl) kX11_pick vX11_pick (by decide +kernel) (by decide +kernel) (by decide +kernel) rfl rfl ⟨rfl, rfl⟩ rfl ?_
  refine mz_Go.run (gs := []) (st' := (51, [some (.inl x0), some (.inl x1), some (.inl x2), some (.inl x3), some (.inl (fX11_pick x0 x1 x2 x3)), some (.inr (.inl ((4096 : Int64) - (((x0).toInt64 * (x1).toInt64) * (x2).toInt64)))), none], [.inl (fX11_pick x0 x1 x2 x3), .inl (fX11_pick x0 x1 x2 (x3 + (2 : Int32))), .inr (.inl (((4096 : Int64) - (((x0).toInt64 * (x1).toInt64) * (x2).toInt64)) * ((256 : Int64) - (((fX11_pick x0 x1 x2 x3)).toInt64 * ((fX11_pick x0 x1 x2 (x3 + (1 : Int32)))).toInt64))))], D)) bX11_trioBottom_49 oX11_trioBottom_49 rfl trivial ?_
  refine mz_Go.callS (I := IX11_trioBottom) (J := IX11_whole) (as := [.inl (fX11_pick x0 x1 x2 (x3 + (2 : Int32))), .inl (fX11_pick x0 x1 x2 x3)]) (idx := 311) (pl := 1228) (rest := [.inr (.inl (((4096 : Int64) - (((x0).toInt64 * (x1).toInt64) * (x2).toInt64)) * ((256 : Int64) - (((fX11_pick x0 x1 x2 x3)).toInt64 * ((fX11_pick x0 x1 x2 (x3 + (1 : Int32)))).toInt64))))]) (mX11_whole (fX11_pick x0 x1 x2 (x3 + (2 : Int32))) (fX11_pick x0 x1 x2 x3) D) kX11_whole vX11_whole (by decide +kernel) (by decide +kernel) (by decide +kernel) rfl rfl ⟨rfl, rfl⟩ rfl ?_
  refine mz_Go.run (gs := []) (st' := (55, [some (.inl x0), some (.inl x1), some (.inl x2), some (.inl x3), some (.inl (fX11_pick x0 x1 x2 x3)), some (.inr (.inl ((4096 : Int64) - (((x0).toInt64 * (x1).toInt64) * (x2).toInt64)))), none], [.inr (.inl ((((4096 : Int64) - (((x0).toInt64 * (x1).toInt64) * (x2).toInt64)) * ((256 : Int64) - (((fX11_pick x0 x1 x2 x3)).toInt64 * ((fX11_pick x0 x1 x2 (x3 + (1 : Int32)))).toInt64))) * ((256 : Int64) - (((fX11_pick x0 x1 x2 (x3 + (2 : Int32)))).toInt64 * ((fX11_pick x0 x1 x2 x3)).toInt64))))], D)) bX11_trioBottom_54 oX11_trioBottom_54 rfl trivial ?_
  subst h
  exact mz_Go.retl (by decide +kernel) rfl ⟨Nat.le_refl _, Nat.le_refl _⟩ rfl
def bX11_trio_0 : List mz_E := [(0, .aload_n 0, 0, 0, 0, 0, 0), (1, .getfield 32, 11, 4, 563, 0, 0), (4, .getfield 151, 6, 0, 477, 0, 0), (7, .astore 5, 0, 0, 0, 0, 0), (9, .aload_n 0, 0, 0, 0, 0, 0), (10, .iload_n 1, 0, 0, 0, 0, 0), (11, .iload_n 2, 0, 0, 0, 0, 0)]
theorem oX11_trio_0 : bX11_trio_0.all (mz_ok RX11 cX11_trio 9) = true := by decide +kernel
def bX11_trio_15 : List mz_E := [(15, .ifCond .eq 32, 0, 47, 0, 0, 0)]
theorem oX11_trio_15 : bX11_trio_15.all (mz_ok RX11 cX11_trio 9) = true := by decide +kernel
def bX11_trio_47 : List mz_E := [(47, .aload_n 0, 0, 0, 0, 0, 0), (48, .iconst 1, 0, 0, 0, 1, 0)]
theorem oX11_trio_47 : bX11_trio_47.all (mz_ok RX11 cX11_trio 9) = true := by decide +kernel
def bX11_trio_18 : List mz_E := [(18, .aload_n 0, 0, 0, 0, 0, 0), (19, .iload_n 2, 0, 0, 0, 0, 0), (20, .iload_n 3, 0, 0, 0, 0, 0)]
theorem oX11_trio_18 : bX11_trio_18.all (mz_ok RX11 cX11_trio 9) = true := by decide +kernel
def bX11_trio_24 : List mz_E := [(24, .ifCond .eq 23, 0, 47, 0, 0, 0)]
theorem oX11_trio_24 : bX11_trio_24.all (mz_ok RX11 cX11_trio 9) = true := by decide +kernel
def bX11_trio_27 : List mz_E := [(27, .aload_n 0, 0, 0, 0, 0, 0), (28, .iload_n 1, 0, 0, 0, 0, 0), (29, .iload_n 3, 0, 0, 0, 0, 0)]
theorem oX11_trio_27 : bX11_trio_27.all (mz_ok RX11 cX11_trio 9) = true := by decide +kernel
def bX11_trio_33 : List mz_E := [(33, .ifCond .eq 14, 0, 47, 0, 0, 0)]
theorem oX11_trio_33 : bX11_trio_33.all (mz_ok RX11 cX11_trio 9) = true := by decide +kernel
def bX11_trio_36 : List mz_E := [(36, .iload 4, 0, 0, 0, 0, 0), (38, .ifCond .lt 9, 0, 47, 0, 0, 0)]
theorem oX11_trio_36 : bX11_trio_36.all (mz_ok RX11 cX11_trio 9) = true := by decide +kernel
def bX11_trio_41 : List mz_E := [(41, .iload 4, 0, 0, 0, 0, 0), (43, .iconst 2, 0, 0, 0, 2, 0), (44, .if_icmp .le 9, 0, 53, 0, 0, 0)]
theorem oX11_trio_41 : bX11_trio_41.all (mz_ok RX11 cX11_trio 9) = true := by decide +kernel
def bX11_trio_53 : List mz_E := [(53, .aload 5, 0, 0, 0, 0, 0), (55, .getfield 230, 4, 4, 303, 0, 0), (58, .iload_n 1, 0, 0, 0, 0, 0), (59, .iaload, 0, 0, 0, 0, 0), (60, .istore 6, 0, 0, 0, 0, 0), (62, .aload 5, 0, 0, 0, 0, 0), (64, .getfield 230, 4, 4, 303, 0, 0), (67, .iload_n 2, 0, 0, 0, 0, 0), (68, .iaload, 0, 0, 0, 0, 0), (69, .istore 7, 0, 0, 0, 0, 0), (71, .aload 5, 0, 0, 0, 0, 0), (73, .getfield 230, 4, 4, 303, 0, 0), (76, .iload_n 3, 0, 0, 0, 0, 0), (77, .iaload, 0, 0, 0, 0, 0), (78, .istore 8, 0, 0, 0, 0, 0), (80, .iload 6, 0, 0, 0, 0, 0), (82, .iload 7, 0, 0, 0, 0, 0)]
theorem oX11_trio_53 : bX11_trio_53.all (mz_ok RX11 cX11_trio 9) = true := by decide +kernel
def bX11_trio_87 : List mz_E := [(87, .ifCond .ne 23, 0, 110, 0, 0, 0)]
theorem oX11_trio_87 : bX11_trio_87.all (mz_ok RX11 cX11_trio 9) = true := by decide +kernel
def bX11_trio_90 : List mz_E := [(90, .iload 7, 0, 0, 0, 0, 0), (92, .iload 8, 0, 0, 0, 0, 0)]
theorem oX11_trio_90 : bX11_trio_90.all (mz_ok RX11 cX11_trio 9) = true := by decide +kernel
def bX11_trio_97 : List mz_E := [(97, .ifCond .ne 13, 0, 110, 0, 0, 0)]
theorem oX11_trio_97 : bX11_trio_97.all (mz_ok RX11 cX11_trio 9) = true := by decide +kernel
def bX11_trio_100 : List mz_E := [(100, .iload 6, 0, 0, 0, 0, 0), (102, .iload 8, 0, 0, 0, 0, 0)]
theorem oX11_trio_100 : bX11_trio_100.all (mz_ok RX11 cX11_trio 9) = true := by decide +kernel
def bX11_trio_107 : List mz_E := [(107, .ifCond .eq 10, 0, 117, 0, 0, 0)]
theorem oX11_trio_107 : bX11_trio_107.all (mz_ok RX11 cX11_trio 9) = true := by decide +kernel
def bX11_trio_117 : List mz_E := [(117, .aload_n 0, 0, 0, 0, 0, 0), (118, .iload 6, 0, 0, 0, 0, 0), (120, .iload 7, 0, 0, 0, 0, 0), (122, .iload 8, 0, 0, 0, 0, 0), (124, .iload 4, 0, 0, 0, 0, 0)]
theorem oX11_trio_117 : bX11_trio_117.all (mz_ok RX11 cX11_trio 9) = true := by decide +kernel
def bX11_trio_129 : List mz_E := [(129, .iload 6, 0, 0, 0, 0, 0), (131, .iload 7, 0, 0, 0, 0, 0), (133, .iload 8, 0, 0, 0, 0, 0), (135, .iload 4, 0, 0, 0, 0, 0)]
theorem oX11_trio_129 : bX11_trio_129.all (mz_ok RX11 cX11_trio 9) = true := by decide +kernel
def bX11_trio_110 : List mz_E := [(110, .aload_n 0, 0, 0, 0, 0, 0), (111, .bipush 6, 0, 0, 0, 6, 0)]
theorem oX11_trio_110 : bX11_trio_110.all (mz_ok RX11 cX11_trio 9) = true := by decide +kernel
abbrev IX11_trio : mz_I := (yX11_trio, cX11_trio, 9, (some .boolean), 0, 2, 0, 0)
theorem kX11_trio : mz_okm IX11_trio 1247 126 1245 4 = true := by decide +kernel
theorem vX11_trio : mz_okV IX11_trio 1245 1246 = true := by decide +kernel
def fX11_trio (x1 : Int32) (x2 : Int32) (x3 : Int32) (x4 : Int32) (D : mz_D) : Option (Int32 × mz_D) := (if (fX11_areTwo x1 x2 D) = 0 then (some ((0 : Int32), (mz_wi D 0 0 13 (1 : Int32)))) else (if (fX11_areTwo x2 x3 D) = 0 then (some ((0 : Int32), (mz_wi D 0 0 13 (1 : Int32)))) else (if (fX11_areTwo x1 x3 D) = 0 then (some ((0 : Int32), (mz_wi D 0 0 13 (1 : Int32)))) else (if x4 < 0 then (some ((0 : Int32), (mz_wi D 0 0 13 (1 : Int32)))) else (if x4 ≤ (2 : Int32) then (mz_gd (mz_ix x1 6) (mz_gd (mz_ix x2 6) (mz_gd (mz_ix x3 6) (if (fX11_neverEnds (D.1 1 103 (x1).toNatClampNeg) (D.1 1 103 (x2).toNatClampNeg)) = 0 then (if (fX11_neverEnds (D.1 1 103 (x2).toNatClampNeg) (D.1 1 103 (x3).toNatClampNeg)) = 0 then (if (fX11_neverEnds (D.1 1 103 (x1).toNatClampNeg) (D.1 1 103 (x3).toNatClampNeg)) = 0 then (Option.bind (fX11_tell (fX11_trioTop (D.1 1 103 (x1).toNatClampNeg) (D.1 1 103 (x2).toNatClampNeg) (D.1 1 103 (x3).toNatClampNeg) x4) (fX11_trioBottom (D.1 1 103 (x1).toNatClampNeg) (D.1 1 103 (x2).toNatClampNeg) (D.1 1 103 (x3).toNatClampNeg) x4) D) fun q12 => (mz_gd (mz_bo q12.1) (some (q12.1, q12.2)))) else (some ((0 : Int32), (mz_wi D 0 0 13 (6 : Int32))))) else (some ((0 : Int32), (mz_wi D 0 0 13 (6 : Int32))))) else (some ((0 : Int32), (mz_wi D 0 0 13 (6 : Int32)))))))) else (some ((0 : Int32), (mz_wi D 0 0 13 (1 : Int32)))))))))
set_option maxHeartbeats 4000000 in
theorem mX11_trio (x1 : Int32) (x2 : Int32) (x3 : Int32) (x4 : Int32) (D : mz_D) (r : (Int32 × mz_D)) (h : fX11_trio x1 x2 x3 x4 D = some r) : mz_Met IX11_trio [.inr (.inr (some (0, 0))), .inl x1, .inl x2, .inl x3, .inl x4] D (some (.inl r.1), r.2) := by
  refine mz_Met.of (by decide +kernel) (Nat.le_of_ble_eq_true rfl) ?_
  show mz_Go IX11_trio (some (.inl r.1), r.2) 0 0 (0, [some (.inr (.inr (some (0, 0)))), some (.inl x1), some (.inl x2), some (.inl x3), some (.inl x4), none, none, none, none], [], D)
  rw [fX11_trio] at h
  refine mz_Go.run (gs := [mz_kz 0 0 0, mz_kz 0 1 100]) (st' := (12, [some (.inr (.inr (some (0, 0)))), some (.inl x1), some (.inl x2), some (.inl x3), some (.inl x4), some (.inr (.inr (some (1, 101)))), none, none, none], [.inl x2, .inl x1, .inr (.inr (some (0, 0)))], D)) bX11_trio_0 oX11_trio_0 rfl ⟨rfl, rfl, trivial⟩ ?_
  refine mz_Go.callV (I := IX11_trio) (J := IX11_areTwo) (as := [.inl x1, .inl x2]) (ci := 11) (g := 0) (o := 0) (idx := 320) (pl := 1218) (rest := []) (mX11_areTwo x1 x2 D _ rfl) kX11_areTwo vX11_areTwo (by decide +kernel) (by decide +kernel) (by decide +kernel) rfl rfl ⟨rfl, rfl⟩ rfl rfl rfl rfl ?_
  refine mz_Go.run (gs := []) (st' := (if (fX11_areTwo x1 x2 D) = 0 then (47, [some (.inr (.inr (some (0, 0)))), some (.inl x1), some (.inl x2), some (.inl x3), some (.inl x4), some (.inr (.inr (some (1, 101)))), none, none, none], [], D) else (18, [some (.inr (.inr (some (0, 0)))), some (.inl x1), some (.inl x2), some (.inl x3), some (.inl x4), some (.inr (.inr (some (1, 101)))), none, none, none], [], D))) bX11_trio_15 oX11_trio_15 rfl trivial ?_
  refine mz_Go.ite (fun hc1 => ?_) (fun hc1 => ?_)
  · have h := mz_ifp hc1 h
    refine mz_Go.run (gs := []) (st' := (49, [some (.inr (.inr (some (0, 0)))), some (.inl x1), some (.inl x2), some (.inl x3), some (.inl x4), some (.inr (.inr (some (1, 101)))), none, none, none], [.inl (1 : Int32), .inr (.inr (some (0, 0)))], D)) bX11_trio_47 oX11_trio_47 rfl trivial ?_
    refine mz_Go.callV (I := IX11_trio) (J := IX11_deny) (as := [.inl (1 : Int32)]) (ci := 11) (g := 0) (o := 0) (idx := 81) (pl := 634) (rest := []) (mX11_deny (1 : Int32) D) kX11_deny vX11_deny (by decide +kernel) (by decide +kernel) (by decide +kernel) rfl rfl ⟨rfl, rfl⟩ rfl rfl rfl rfl ?_
    cases h
    exact mz_Go.retz (by decide +kernel) rfl ⟨Nat.le_refl _, Nat.le_refl _⟩ (by decide) rfl
  · have h := mz_ifn hc1 h
    refine mz_Go.run (gs := []) (st' := (21, [some (.inr (.inr (some (0, 0)))), some (.inl x1), some (.inl x2), some (.inl x3), some (.inl x4), some (.inr (.inr (some (1, 101)))), none, none, none], [.inl x3, .inl x2, .inr (.inr (some (0, 0)))], D)) bX11_trio_18 oX11_trio_18 rfl trivial ?_
    refine mz_Go.callV (I := IX11_trio) (J := IX11_areTwo) (as := [.inl x2, .inl x3]) (ci := 11) (g := 0) (o := 0) (idx := 320) (pl := 1218) (rest := []) (mX11_areTwo x2 x3 D _ rfl) kX11_areTwo vX11_areTwo (by decide +kernel) (by decide +kernel) (by decide +kernel) rfl rfl ⟨rfl, rfl⟩ rfl rfl rfl rfl ?_
    refine mz_Go.run (gs := []) (st' := (if (fX11_areTwo x2 x3 D) = 0 then (47, [some (.inr (.inr (some (0, 0)))), some (.inl x1), some (.inl x2), some (.inl x3), some (.inl x4), some (.inr (.inr (some (1, 101)))), none, none, none], [], D) else (27, [some (.inr (.inr (some (0, 0)))), some (.inl x1), some (.inl x2), some (.inl x3), some (.inl x4), some (.inr (.inr (some (1, 101)))), none, none, none], [], D))) bX11_trio_24 oX11_trio_24 rfl trivial ?_
    refine mz_Go.ite (fun hc2 => ?_) (fun hc2 => ?_)
    · have h := mz_ifp hc2 h
      refine mz_Go.run (gs := []) (st' := (49, [some (.inr (.inr (some (0, 0)))), some (.inl x1), some (.inl x2), some (.inl x3), some (.inl x4), some (.inr (.inr (some (1, 101)))), none, none, none], [.inl (1 : Int32), .inr (.inr (some (0, 0)))], D)) bX11_trio_47 oX11_trio_47 rfl trivial ?_
      refine mz_Go.callV (I := IX11_trio) (J := IX11_deny) (as := [.inl (1 : Int32)]) (ci := 11) (g := 0) (o := 0) (idx := 81) (pl := 634) (rest := []) (mX11_deny (1 : Int32) D) kX11_deny vX11_deny (by decide +kernel) (by decide +kernel) (by decide +kernel) rfl rfl ⟨rfl, rfl⟩ rfl rfl rfl rfl ?_
      cases h
      exact mz_Go.retz (by decide +kernel) rfl ⟨Nat.le_refl _, Nat.le_refl _⟩ (by decide) rfl
    · have h := mz_ifn hc2 h
      refine mz_Go.run (gs := []) (st' := (30, [some (.inr (.inr (some (0, 0)))), some (.inl x1), some (.inl x2), some (.inl x3), some (.inl x4), some (.inr (.inr (some (1, 101)))), none, none, none], [.inl x3, .inl x1, .inr (.inr (some (0, 0)))], D)) bX11_trio_27 oX11_trio_27 rfl trivial ?_
      refine mz_Go.callV (I := IX11_trio) (J := IX11_areTwo) (as := [.inl x1, .inl x3]) (ci := 11) (g := 0) (o := 0) (idx := 320) (pl := 1218) (rest := []) (mX11_areTwo x1 x3 D _ rfl) kX11_areTwo vX11_areTwo (by decide +kernel) (by decide +kernel) (by decide +kernel) rfl rfl ⟨rfl, rfl⟩ rfl rfl rfl rfl ?_
      refine mz_Go.run (gs := []) (st' := (if (fX11_areTwo x1 x3 D) = 0 then (47, [some (.inr (.inr (some (0, 0)))), some (.inl x1), some (.inl x2), some (.inl x3), some (.inl x4), some (.inr (.inr (some (1, 101)))), none, none, none], [], D) else (36, [some (.inr (.inr (some (0, 0)))), some (.inl x1), some (.inl x2), some (.inl x3), some (.inl x4), some (.inr (.inr (some (1, 101)))), none, none, none], [], D))) bX11_trio_33 oX11_trio_33 rfl trivial ?_
      refine mz_Go.ite (fun hc3 => ?_) (fun hc3 => ?_)
      · have h := mz_ifp hc3 h
        refine mz_Go.run (gs := []) (st' := (49, [some (.inr (.inr (some (0, 0)))), some (.inl x1), some (.inl x2), some (.inl x3), some (.inl x4), some (.inr (.inr (some (1, 101)))), none, none, none], [.inl (1 : Int32), .inr (.inr (some (0, 0)))], D)) bX11_trio_47 oX11_trio_47 rfl trivial ?_
        refine mz_Go.callV (I := IX11_trio) (J := IX11_deny) (as := [.inl (1 : Int32)]) (ci := 11) (g := 0) (o := 0) (idx := 81) (pl := 634) (rest := []) (mX11_deny (1 : Int32) D) kX11_deny vX11_deny (by decide +kernel) (by decide +kernel) (by decide +kernel) rfl rfl ⟨rfl, rfl⟩ rfl rfl rfl rfl ?_
        cases h
        exact mz_Go.retz (by decide +kernel) rfl ⟨Nat.le_refl _, Nat.le_refl _⟩ (by decide) rfl
      · have h := mz_ifn hc3 h
        refine mz_Go.run (gs := []) (st' := (if x4 < 0 then (47, [some (.inr (.inr (some (0, 0)))), some (.inl x1), some (.inl x2), some (.inl x3), some (.inl x4), some (.inr (.inr (some (1, 101)))), none, none, none], [], D) else (41, [some (.inr (.inr (some (0, 0)))), some (.inl x1), some (.inl x2), some (.inl x3), some (.inl x4), some (.inr (.inr (some (1, 101)))), none, none, none], [], D))) bX11_trio_36 oX11_trio_36 rfl trivial ?_
        refine mz_Go.ite (fun hc4 => ?_) (fun hc4 => ?_)
        · have h := mz_ifp hc4 h
          refine mz_Go.run (gs := []) (st' := (49, [some (.inr (.inr (some (0, 0)))), some (.inl x1), some (.inl x2), some (.inl x3), some (.inl x4), some (.inr (.inr (some (1, 101)))), none, none, none], [.inl (1 : Int32), .inr (.inr (some (0, 0)))], D)) bX11_trio_47 oX11_trio_47 rfl trivial ?_
          refine mz_Go.callV (I := IX11_trio) (J := IX11_deny) (as := [.inl (1 : Int32)]) (ci := 11) (g := 0) (o := 0) (idx := 81) (pl := 634) (rest := []) (mX11_deny (1 : Int32) D) kX11_deny vX11_deny (by decide +kernel) (by decide +kernel) (by decide +kernel) rfl rfl ⟨rfl, rfl⟩ rfl rfl rfl rfl ?_
          cases h
          exact mz_Go.retz (by decide +kernel) rfl ⟨Nat.le_refl _, Nat.le_refl _⟩ (by decide) rfl
        · have h := mz_ifn hc4 h
          refine mz_Go.run (gs := []) (st' := (if x4 ≤ (2 : Int32) then (53, [some (.inr (.inr (some (0, 0)))), some (.inl x1), some (.inl x2), some (.inl x3), some (.inl x4), some (.inr (.inr (some (1, 101)))), none, none, none], [], D) else (47, [some (.inr (.inr (some (0, 0)))), some (.inl x1), some (.inl x2), some (.inl x3), some (.inl x4), some (.inr (.inr (some (1, 101)))), none, none, none], [], D))) bX11_trio_41 oX11_trio_41 rfl trivial ?_
          refine mz_Go.ite (fun hc5 => ?_) (fun hc5 => ?_)
          · have h := mz_ifp hc5 h
            obtain ⟨hb6, h⟩ := mz_gd_some h
            obtain ⟨hb7, h⟩ := mz_gd_some h
            obtain ⟨hb8, h⟩ := mz_gd_some h
            refine mz_Go.run (gs := [mz_kz 0 1 101, mz_kz 0 1 103, mz_ix x1 6, mz_kz 0 1 101, mz_kz 0 1 103, mz_ix x2 6, mz_kz 0 1 101, mz_kz 0 1 103, mz_ix x3 6]) (st' := (84, [some (.inr (.inr (some (0, 0)))), some (.inl x1), some (.inl x2), some (.inl x3), some (.inl x4), some (.inr (.inr (some (1, 101)))), some (.inl (D.1 1 103 (x1).toNatClampNeg)), some (.inl (D.1 1 103 (x2).toNatClampNeg)), some (.inl (D.1 1 103 (x3).toNatClampNeg))], [.inl (D.1 1 103 (x2).toNatClampNeg), .inl (D.1 1 103 (x1).toNatClampNeg)], D)) bX11_trio_53 oX11_trio_53 rfl ⟨rfl, rfl, hb6, rfl, rfl, hb7, rfl, rfl, hb8, trivial⟩ ?_
            refine mz_Go.callS (I := IX11_trio) (J := IX11_neverEnds) (as := [.inl (D.1 1 103 (x1).toNatClampNeg), .inl (D.1 1 103 (x2).toNatClampNeg)]) (idx := 324) (pl := 1222) (rest := []) (mX11_neverEnds (D.1 1 103 (x1).toNatClampNeg) (D.1 1 103 (x2).toNatClampNeg) D _ rfl) kX11_neverEnds vX11_neverEnds (by decide +kernel) (by decide +kernel) (by decide +kernel) rfl rfl ⟨rfl, rfl⟩ rfl ?_
            refine mz_Go.run (gs := []) (st' := (if (fX11_neverEnds (D.1 1 103 (x1).toNatClampNeg) (D.1 1 103 (x2).toNatClampNeg)) = 0 then (90, [some (.inr (.inr (some (0, 0)))), some (.inl x1), some (.inl x2), some (.inl x3), some (.inl x4), some (.inr (.inr (some (1, 101)))), some (.inl (D.1 1 103 (x1).toNatClampNeg)), some (.inl (D.1 1 103 (x2).toNatClampNeg)), some (.inl (D.1 1 103 (x3).toNatClampNeg))], [], D) else (110, [some (.inr (.inr (some (0, 0)))), some (.inl x1), some (.inl x2), some (.inl x3), some (.inl x4), some (.inr (.inr (some (1, 101)))), some (.inl (D.1 1 103 (x1).toNatClampNeg)), some (.inl (D.1 1 103 (x2).toNatClampNeg)), some (.inl (D.1 1 103 (x3).toNatClampNeg))], [], D))) bX11_trio_87 oX11_trio_87 rfl trivial ?_
            refine mz_Go.ite (fun hc9 => ?_) (fun hc9 => ?_)
            · have h := mz_ifp hc9 h
              refine mz_Go.run (gs := []) (st' := (94, [some (.inr (.inr (some (0, 0)))), some (.inl x1), some (.inl x2), some (.inl x3), some (.inl x4), some (.inr (.inr (some (1, 101)))), some (.inl (D.1 1 103 (x1).toNatClampNeg)), some (.inl (D.1 1 103 (x2).toNatClampNeg)), some (.inl (D.1 1 103 (x3).toNatClampNeg))], [.inl (D.1 1 103 (x3).toNatClampNeg), .inl (D.1 1 103 (x2).toNatClampNeg)], D)) bX11_trio_90 oX11_trio_90 rfl trivial ?_
              refine mz_Go.callS (I := IX11_trio) (J := IX11_neverEnds) (as := [.inl (D.1 1 103 (x2).toNatClampNeg), .inl (D.1 1 103 (x3).toNatClampNeg)]) (idx := 324) (pl := 1222) (rest := []) (mX11_neverEnds (D.1 1 103 (x2).toNatClampNeg) (D.1 1 103 (x3).toNatClampNeg) D _ rfl) kX11_neverEnds vX11_neverEnds (by decide +kernel) (by decide +kernel) (by decide +kernel) rfl rfl ⟨rfl, rfl⟩ rfl ?_
              refine mz_Go.run (gs := []) (st' := (if (fX11_neverEnds (D.1 1 103 (x2).toNatClampNeg) (D.1 1 103 (x3).toNatClampNeg)) = 0 then (100, [some (.inr (.inr (some (0, 0)))), some (.inl x1), some (.inl x2), some (.inl x3), some (.inl x4), some (.inr (.inr (some (1, 101)))), some (.inl (D.1 1 103 (x1).toNatClampNeg)), some (.inl (D.1 1 103 (x2).toNatClampNeg)), some (.inl (D.1 1 103 (x3).toNatClampNeg))], [], D) else (110, [some (.inr (.inr (some (0, 0)))), some (.inl x1), some (.inl x2), some (.inl x3), some (.inl x4), some (.inr (.inr (some (1, 101)))), some (.inl (D.1 1 103 (x1).toNatClampNeg)), some (.inl (D.1 1 103 (x2).toNatClampNeg)), some (.inl (D.1 1 103 (x3).toNatClampNeg))], [], D))) bX11_trio_97 oX11_trio_97 rfl trivial ?_
              refine mz_Go.ite (fun hc10 => ?_) (fun hc10 => ?_)
              · have h := mz_ifp hc10 h
                refine mz_Go.run (gs := []) (st' := (104, [some (.inr (.inr (some (0, 0)))), some (.inl x1), some (.inl x2), some (.inl x3), some (.inl x4), some (.inr (.inr (some (1, 101)))), some (.inl (D.1 1 103 (x1).toNatClampNeg)), some (.inl (D.1 1 103 (x2).toNatClampNeg)), some (.inl (D.1 1 103 (x3).toNatClampNeg))], [.inl (D.1 1 103 (x3).toNatClampNeg), .inl (D.1 1 103 (x1).toNatClampNeg)], D)) bX11_trio_100 oX11_trio_100 rfl trivial ?_
                refine mz_Go.callS (I := IX11_trio) (J := IX11_neverEnds) (as := [.inl (D.1 1 103 (x1).toNatClampNeg), .inl (D.1 1 103 (x3).toNatClampNeg)]) (idx := 324) (pl := 1222) (rest := []) (mX11_neverEnds (D.1 1 103 (x1).toNatClampNeg) (D.1 1 103 (x3).toNatClampNeg) D _ rfl) kX11_neverEnds vX11_neverEnds (by decide +kernel) (by decide +kernel) (by decide +kernel) rfl rfl ⟨rfl, rfl⟩ rfl ?_
                refine mz_Go.run (gs := []) (st' := (if (fX11_neverEnds (D.1 1 103 (x1).toNatClampNeg) (D.1 1 103 (x3).toNatClampNeg)) = 0 then (117, [some (.inr (.inr (some (0, 0)))), some (.inl x1), some (.inl x2), some (.inl x3), some (.inl x4), some (.inr (.inr (some (1, 101)))), some (.inl (D.1 1 103 (x1).toNatClampNeg)), some (.inl (D.1 1 103 (x2).toNatClampNeg)), some (.inl (D.1 1 103 (x3).toNatClampNeg))], [], D) else (110, [some (.inr (.inr (some (0, 0)))), some (.inl x1), some (.inl x2), some (.inl x3), some (.inl x4), some (.inr (.inr (some (1, 101)))), some (.inl (D.1 1 103 (x1).toNatClampNeg)), some (.inl (D.1 1 103 (x2).toNatClampNeg)), some (.inl (D.1 1 103 (x3).toNatClampNeg))], [], D))) bX11_trio_107 oX11_trio_107 rfl trivial ?_
                refine mz_Go.ite (fun hc11 => ?_) (fun hc11 => ?_)
                · have h := mz_ifp hc11 h
                  refine mz_Go.run (gs := []) (st' := (126, [some (.inr (.inr (some (0, 0)))), some (.inl x1), some (.inl x2), some (.inl x3), some (.inl x4), some (.inr (.inr (some (1, 101)))), some (.inl (D.1 1 103 (x1).toNatClampNeg)), some (.inl (D.1 1 103 (x2).toNatClampNeg)), some (.inl (D.1 1 103 (x3).toNatClampNeg))], [.inl x4, .inl (D.1 1 103 (x3).toNatClampNeg), .inl (D.1 1 103 (x2).toNatClampNeg), .inl (D.1 1 103 (x1).toNatClampNeg), .inr (.inr (some (0, 0)))], D)) bX11_trio_117 oX11_trio_117 rfl trivial ?_
                  refine mz_Go.callS (I := IX11_trio) (J := IX11_trioTop) (as := [.inl (D.1 1 103 (x1).toNatClampNeg), .inl (D.1 1 103 (x2).toNatClampNeg), .inl (D.1 1 103 (x3).toNatClampNeg), .inl x4]) (idx := 327) (pl := 1248) (rest := [.inr (.inr (some (0, 0)))]) (mX11_trioTop (D.1 1 103 (x1).toNatClampNeg) (D.1 1 103 (x2).toNatClampNeg) (D.1 1 103 (x3).toNatClampNeg) x4 D _ rfl) kX11_trioTop vX11_trioTop (by decide +kernel) (by decide +kernel) (by decide +kernel) rfl rfl ⟨rfl, rfl⟩ rfl ?_
                  refine mz_Go.run (gs := []) (st' := (137, [some (.inr (.inr (some (0, 0)))), some (.inl x1), some (.inl x2), some (.inl x3), some (.inl x4), some (.inr (.inr (some (1, 101)))), some (.inl (D.1 1 103 (x1).toNatClampNeg)), some (.inl (D.1 1 103 (x2).toNatClampNeg)), some (.inl (D.1 1 103 (x3).toNatClampNeg))], [.inl x4, .inl (D.1 1 103 (x3).toNatClampNeg), .inl (D.1 1 103 (x2).toNatClampNeg), .inl (D.1 1 103 (x1).toNatClampNeg), .inr (.inl (fX11_trioTop (D.1 1 103 (x1).toNatClampNeg) (D.1 1 103 (x2).toNatClampNeg) (D.1 1 103 (x3).toNatClampNeg) x4)), .inr (.inr (some (0, 0)))], D)) bX11_trio_129 oX11_trio_129 rfl trivial ?_
                  refine mz_Go.callS (I := IX11_trio) (J := IX11_trioBottom) (as := [.inl (D.1 1 103 (x1).toNatClampNeg), .inl (D.1 1 103 (x2).toNatClampNeg), .inl (D.1 1 103 (x3).toNatClampNeg), .inl x4]) (idx := 331) (pl := 1257) (rest := [.inr (.inl (fX11_trioTop (D.1 1 103 (x1).toNatClampNeg) (D.1 1 103 (x2).toNatClampNeg) (D.1 1 103 (x3).toNatClampNeg) x4)), .inr (.inr (some (0, 0)))]) (mX11_trioBottom (D.1 1 103 (x1).toNatClampNeg) (D.1 1 103 (x2).toNatClampNeg) (D.1 1 103 (x3).toNatClampNeg) x4 D _ rfl) kX11_trioBottom vX11_trioBottom (by decide +kernel) (by decide +kernel) (by decide +kernel) rfl rfl ⟨rfl, rfl⟩ rfl ?_
                  obtain ⟨q12, hq12, h⟩ := mz_bd_some h
                  refine mz_Go.callV (I := IX11_trio) (J := IX11_tell) (as := [.inr (.inl (fX11_trioTop (D.1 1 103 (x1).toNatClampNeg) (D.1 1 103 (x2).toNatClampNeg) (D.1 1 103 (x3).toNatClampNeg) x4)), .inr (.inl (fX11_trioBottom (D.1 1 103 (x1).toNatClampNeg) (D.1 1 103 (x2).toNatClampNeg) (D.1 1 103 (x3).toNatClampNeg) x4))]) (ci := 11) (g := 0) (o := 0) (idx := 314) (pl := 1232) (rest := []) (mX11_tell (fX11_trioTop (D.1 1 103 (x1).toNatClampNeg) (D.1 1 103 (x2).toNatClampNeg) (D.1 1 103 (x3).toNatClampNeg) x4) (fX11_trioBottom (D.1 1 103 (x1).toNatClampNeg) (D.1 1 103 (x2).toNatClampNeg) (D.1 1 103 (x3).toNatClampNeg) x4) D q12 hq12) kX11_tell vX11_tell (by decide +kernel) (by decide +kernel) (by decide +kernel) rfl rfl ⟨rfl, rfl⟩ rfl rfl rfl rfl ?_
                  obtain ⟨hb13, h⟩ := mz_gd_some h
                  cases h
                  exact mz_Go.retz (by decide +kernel) rfl ⟨Nat.le_refl _, Nat.le_refl _⟩ hb13 rfl
                · have h := mz_ifn hc11 h
                  refine mz_Go.run (gs := []) (st' := (113, [some (.inr (.inr (some (0, 0)))), some (.inl x1), some (.inl x2), some (.inl x3), some (.inl x4), some (.inr (.inr (some (1, 101)))), some (.inl (D.1 1 103 (x1).toNatClampNeg)), some (.inl (D.1 1 103 (x2).toNatClampNeg)), some (.inl (D.1 1 103 (x3).toNatClampNeg))], [.inl (6 : Int32), .inr (.inr (some (0, 0)))], D)) bX11_trio_110 oX11_trio_110 rfl trivial ?_
                  refine mz_Go.callV (I := IX11_trio) (J := IX11_deny) (as := [.inl (6 : Int32)]) (ci := 11) (g := 0) (o := 0) (idx := 81) (pl := 634) (rest := []) (mX11_deny (6 : Int32) D) kX11_deny vX11_deny (by decide +kernel) (by decide +kernel) (by decide +kernel) rfl rfl ⟨rfl, rfl⟩ rfl rfl rfl rfl ?_
                  cases h
                  exact mz_Go.retz (by decide +kernel) rfl ⟨Nat.le_refl _, Nat.le_refl _⟩ (by decide) rfl
              · have h := mz_ifn hc10 h
                refine mz_Go.run (gs := []) (st' := (113, [some (.inr (.inr (some (0, 0)))), some (.inl x1), some (.inl x2), some (.inl x3), some (.inl x4), some (.inr (.inr (some (1, 101)))), some (.inl (D.1 1 103 (x1).toNatClampNeg)), some (.inl (D.1 1 103 (x2).toNatClampNeg)), some (.inl (D.1 1 103 (x3).toNatClampNeg))], [.inl (6 : Int32), .inr (.inr (some (0, 0)))], D)) bX11_trio_110 oX11_trio_110 rfl trivial ?_
                refine mz_Go.callV (I := IX11_trio) (J := IX11_deny) (as := [.inl (6 : Int32)]) (ci := 11) (g := 0) (o := 0) (idx := 81) (pl := 634) (rest := []) (mX11_deny (6 : Int32) D) kX11_deny vX11_deny (by decide +kernel) (by decide +kernel) (by decide +kernel) rfl rfl ⟨rfl, rfl⟩ rfl rfl rfl rfl ?_
                cases h
                exact mz_Go.retz (by decide +kernel) rfl ⟨Nat.le_refl _, Nat.le_refl _⟩ (by decide) rfl
            · have h := mz_ifn hc9 h
              refine mz_Go.run (gs := []) (st' := (113, [some (.inr (.inr (some (0, 0)))), some (.inl x1), some (.inl x2), some (.inl x3), some (.inl x4), some (.inr (.inr (some (1, 101)))), some (.inl (D.1 1 103 (x1).toNatClampNeg)), some (.inl (D.1 1 103 (x2).toNatClampNeg)), some (.inl (D.1 1 103 (x3).toNatClampNeg))], [.inl (6 : Int32), .inr (.inr (some (0, 0)))], D)) bX11_trio_110 oX11_trio_110 rfl trivial ?_
              refine mz_Go.callV (I := IX11_trio) (J := IX11_deny) (as := [.inl (6 : Int32)]) (ci := 11) (g := 0) (o := 0) (idx := 81) (pl := 634) (rest := []) (mX11_deny (6 : Int32) D) kX11_deny vX11_deny (by decide +kernel) (by decide +kernel) (by decide +kernel) rfl rfl ⟨rfl, rfl⟩ rfl rfl rfl rfl ?_
              cases h
              exact mz_Go.retz (by decide +kernel) rfl ⟨Nat.le_refl _, Nat.le_refl _⟩ (by decide) rfl
          · have h := mz_ifn hc5 h
            refine mz_Go.run (gs := []) (st' := (49, [some (.inr (.inr (some (0, 0)))), some (.inl x1), some (.inl x2), some (.inl x3), some (.inl x4), some (.inr (.inr (some (1, 101)))), none, none, none], [.inl (1 : Int32), .inr (.inr (some (0, 0)))], D)) bX11_trio_47 oX11_trio_47 rfl trivial ?_
            refine mz_Go.callV (I := IX11_trio) (J := IX11_deny) (as := [.inl (1 : Int32)]) (ci := 11) (g := 0) (o := 0) (idx := 81) (pl := 634) (rest := []) (mX11_deny (1 : Int32) D) kX11_deny vX11_deny (by decide +kernel) (by decide +kernel) (by decide +kernel) rfl rfl ⟨rfl, rfl⟩ rfl rfl rfl rfl ?_
            cases h
            exact mz_Go.retz (by decide +kernel) rfl ⟨Nat.le_refl _, Nat.le_refl _⟩ (by decide) rfl
def bX11_reach_0 : List mz_E := [(0, .aload_n 0, 0, 0, 0, 0, 0), (1, .getfield 32, 11, 4, 563, 0, 0), (4, .getfield 151, 6, 0, 477, 0, 0), (7, .astore_n 3, 0, 0, 0, 0, 0), (8, .aload_n 3, 0, 0, 0, 0, 0), (9, .iload_n 2, 0, 0, 0, 0, 0)]
theorem oX11_reach_0 : bX11_reach_0.all (mz_ok RX11 cX11_reach 5) = true := by decide +kernel
def bX11_reach_13 : List mz_E := [(13, .ifCond .eq 24, 0, 37, 0, 0, 0)]
theorem oX11_reach_13 : bX11_reach_13.all (mz_ok RX11 cX11_reach 5) = true := by decide +kernel
def bX11_reach_37 : List mz_E := [(37, .aload_n 0, 0, 0, 0, 0, 0), (38, .iconst 1, 0, 0, 0, 1, 0)]
theorem oX11_reach_37 : bX11_reach_37.all (mz_ok RX11 cX11_reach 5) = true := by decide +kernel
def bX11_reach_16 : List mz_E := [(16, .iload_n 1, 0, 0, 0, 0, 0), (17, .iconst 1, 0, 0, 0, 1, 0), (18, .if_icmp .lt 19, 0, 37, 0, 0, 0)]
theorem oX11_reach_16 : bX11_reach_16.all (mz_ok RX11 cX11_reach 5) = true := by decide +kernel
def bX11_reach_21 : List mz_E := [(21, .iload_n 1, 0, 0, 0, 0, 0), (22, .aload_n 3, 0, 0, 0, 0, 0)]
theorem oX11_reach_21 : bX11_reach_21.all (mz_ok RX11 cX11_reach 5) = true := by decide +kernel
def bX11_reach_26 : List mz_E := [(26, .if_icmp .gt 11, 0, 37, 0, 0, 0)]
theorem oX11_reach_26 : bX11_reach_26.all (mz_ok RX11 cX11_reach 5) = true := by decide +kernel
def bX11_reach_29 : List mz_E := [(29, .iload_n 1, 0, 0, 0, 0, 0), (30, .iload_n 2, 0, 0, 0, 0, 0)]
theorem oX11_reach_29 : bX11_reach_29.all (mz_ok RX11 cX11_reach 5) = true := by decide +kernel
def bX11_reach_34 : List mz_E := [(34, .ifCond .ne 9, 0, 43, 0, 0, 0)]
theorem oX11_reach_34 : bX11_reach_34.all (mz_ok RX11 cX11_reach 5) = true := by decide +kernel
def bX11_reach_43 : List mz_E := [(43, .aload_n 3, 0, 0, 0, 0, 0), (44, .iload_n 1, 0, 0, 0, 0, 0)]
theorem oX11_reach_43 : bX11_reach_43.all (mz_ok RX11 cX11_reach 5) = true := by decide +kernel
def bX11_reach_48 : List mz_E := [(48, .istore 4, 0, 0, 0, 0, 0), (50, .iload 4, 0, 0, 0, 0, 0), (52, .ifCond .ne 12, 0, 64, 0, 0, 0)]
theorem oX11_reach_48 : bX11_reach_48.all (mz_ok RX11 cX11_reach 5) = true := by decide +kernel
def bX11_reach_55 : List mz_E := [(55, .aload_n 0, 0, 0, 0, 0, 0), (56, .bipush 6, 0, 0, 0, 6, 0)]
theorem oX11_reach_55 : bX11_reach_55.all (mz_ok RX11 cX11_reach 5) = true := by decide +kernel
def bX11_reach_61 : List mz_E := [(61, .goto 17, 0, 78, 0, 0, 0)]
theorem oX11_reach_61 : bX11_reach_61.all (mz_ok RX11 cX11_reach 5) = true := by decide +kernel
def bX11_reach_64 : List mz_E := [(64, .aload_n 0, 0, 0, 0, 0, 0), (65, .aload_n 3, 0, 0, 0, 0, 0), (66, .getfield 233, 4, 5, 308, 0, 0), (69, .iload_n 2, 0, 0, 0, 0, 0), (70, .iaload, 0, 0, 0, 0, 0), (71, .i2l, 0, 0, 0, 0, 0), (72, .iload 4, 0, 0, 0, 0, 0), (74, .i2l, 0, 0, 0, 0, 0)]
theorem oX11_reach_64 : bX11_reach_64.all (mz_ok RX11 cX11_reach 5) = true := by decide +kernel
abbrev IX11_reach : mz_I := (yX11_reach, cX11_reach, 5, (some .boolean), 0, 2, 0, 0)
theorem kX11_reach : mz_okm IX11_reach 1264 126 1262 2 = true := by decide +kernel
theorem vX11_reach : mz_okV IX11_reach 1262 1263 = true := by decide +kernel
def fX11_reach (x1 : Int32) (x2 : Int32) (D : mz_D) : Option (Int32 × mz_D) := (if (fX4_has 1 x2 D) = 0 then (some ((0 : Int32), (mz_wi D 0 0 13 (1 : Int32)))) else (if x1 < (1 : Int32) then (some ((0 : Int32), (mz_wi D 0 0 13 (1 : Int32)))) else (if (((1 : Int32) <<< ((D.1 1 101 0) &&& 31)) - (1 : Int32)) < x1 then (some ((0 : Int32), (mz_wi D 0 0 13 (1 : Int32)))) else (if (fX11_isIn x1 x2) = 0 then (some ((0 : Int32), (mz_wi D 0 0 13 (1 : Int32)))) else (Option.bind (fX4_quickOf 1 x1 D) fun q5 => (if q5 = 0 then (some ((0 : Int32), (mz_wi D 0 0 13 (6 : Int32)))) else (mz_gd (mz_ix x2 6) (Option.bind (fX11_tell ((D.1 1 104 (x2).toNatClampNeg)).toInt64 (q5).toInt64 D) fun q8 => (mz_gd (mz_bo q8.1) (some (q8.1, q8.2)))))))))))
set_option maxHeartbeats 4000000 in
theorem mX11_reach (x1 : Int32) (x2 : Int32) (D : mz_D) (r : (Int32 × mz_D)) (h : fX11_reach x1 x2 D = some r) : mz_Met IX11_reach [.inr (.inr (some (0, 0))), .inl x1, .inl x2] D (some (.inl r.1), r.2) := by
  refine mz_Met.of (by decide +kernel) (Nat.le_of_ble_eq_true rfl) ?_
  show mz_Go IX11_reach (some (.inl r.1), r.2) 0 0 (0, [some (.inr (.inr (some (0, 0)))), some (.inl x1), some (.inl x2), none, none], [], D)
  rw [fX11_reach] at h
  refine mz_Go.run (gs := [mz_kz 0 0 0, mz_kz 0 1 100]) (st' := (10, [some (.inr (.inr (some (0, 0)))), some (.inl x1), some (.inl x2), some (.inr (.inr (some (1, 101)))), none], [.inl x2, .inr (.inr (some (1, 101)))], D)) bX11_reach_0 oX11_reach_0 rfl ⟨rfl, rfl, trivial⟩ ?_
  refine mz_Go.callV (I := IX11_reach) (J := IX4_has) (as := [.inl x2]) (ci := 4) (g := 1) (o := 101) (idx := 229) (pl := 1042) (rest := []) (mX4_has 1 x2 D rfl _ rfl) kX4_has vX4_has (by decide +kernel) (by decide +kernel) (by decide +kernel) rfl rfl ⟨rfl, rfl⟩ rfl rfl rfl rfl ?_
  refine mz_Go.run (gs := []) (st' := (if (fX4_has 1 x2 D) = 0 then (37, [some (.inr (.inr (some (0, 0)))), some (.inl x1), some (.inl x2), some (.inr (.inr (some (1, 101)))), none], [], D) else (16, [some (.inr (.inr (some (0, 0)))), some (.inl x1), some (.inl x2), some (.inr (.inr (some (1, 101)))), none], [], D))) bX11_reach_13 oX11_reach_13 rfl trivial ?_
  refine mz_Go.ite (fun hc1 => ?_) (fun hc1 => ?_)
  · have h := mz_ifp hc1 h
    refine mz_Go.run (gs := []) (st' := (39, [some (.inr (.inr (some (0, 0)))), some (.inl x1), some (.inl x2), some (.inr (.inr (some (1, 101)))), none], [.inl (1 : Int32), .inr (.inr (some (0, 0)))], D)) bX11_reach_37 oX11_reach_37 rfl trivial ?_
    refine mz_Go.callV (I := IX11_reach) (J := IX11_deny) (as := [.inl (1 : Int32)]) (ci := 11) (g := 0) (o := 0) (idx := 81) (pl := 634) (rest := []) (mX11_deny (1 : Int32) D) kX11_deny vX11_deny (by decide +kernel) (by decide +kernel) (by decide +kernel) rfl rfl ⟨rfl, rfl⟩ rfl rfl rfl rfl ?_
    cases h
    exact mz_Go.retz (by decide +kernel) rfl ⟨Nat.le_refl _, Nat.le_refl _⟩ (by decide) rfl
  · have h := mz_ifn hc1 h
    refine mz_Go.run (gs := []) (st' := (if x1 < (1 : Int32) then (37, [some (.inr (.inr (some (0, 0)))), some (.inl x1), some (.inl x2), some (.inr (.inr (some (1, 101)))), none], [], D) else (21, [some (.inr (.inr (some (0, 0)))), some (.inl x1), some (.inl x2), some (.inr (.inr (some (1, 101)))), none], [], D))) bX11_reach_16 oX11_reach_16 rfl trivial ?_
    refine mz_Go.ite (fun hc2 => ?_) (fun hc2 => ?_)
    · have h := mz_ifp hc2 h
      refine mz_Go.run (gs := []) (st' := (39, [some (.inr (.inr (some (0, 0)))), some (.inl x1), some (.inl x2), some (.inr (.inr (some (1, 101)))), none], [.inl (1 : Int32), .inr (.inr (some (0, 0)))], D)) bX11_reach_37 oX11_reach_37 rfl trivial ?_
      refine mz_Go.callV (I := IX11_reach) (J := IX11_deny) (as := [.inl (1 : Int32)]) (ci := 11) (g := 0) (o := 0) (idx := 81) (pl := 634) (rest := []) (mX11_deny (1 : Int32) D) kX11_deny vX11_deny (by decide +kernel) (by decide +kernel) (by decide +kernel) rfl rfl ⟨rfl, rfl⟩ rfl rfl rfl rfl ?_
      cases h
      exact mz_Go.retz (by decide +kernel) rfl ⟨Nat.le_refl _, Nat.le_refl _⟩ (by decide) rfl
    · have h := mz_ifn hc2 h
      refine mz_Go.run (gs := []) (st' := (23, [some (.inr (.inr (some (0, 0)))), some (.inl x1), some (.inl x2), some (.inr (.inr (some (1, 101)))), none], [.inr (.inr (some (1, 101))), .inl x1], D)) bX11_reach_21 oX11_reach_21 rfl trivial ?_
      refine mz_Go.callV (I := IX11_reach) (J := IX4_everyone) (as := []) (ci := 4) (g := 1) (o := 101) (idx := 334) (pl := 1265) (rest := [.inl x1]) (mX4_everyone 1 D rfl) kX4_everyone vX4_everyone (by decide +kernel) (by decide +kernel) (by decide +kernel) rfl rfl ⟨rfl, rfl⟩ rfl rfl rfl rfl ?_
      refine mz_Go.run (gs := []) (st' := (if (((1 : Int32) <<< ((D.1 1 101 0) &&& 31)) - (1 : Int32)) < x1 then (37, [some (.inr (.inr (some (0, 0)))), some (.inl x1), some (.inl x2), some (.inr (.inr (some (1, 101)))), none], [], D) else (29, [some (.inr (.inr (some (0, 0)))), some (.inl x1), some (.inl x2), some (.inr (.inr (some (1, 101)))), none], [], D))) bX11_reach_26 oX11_reach_26 rfl trivial ?_
      refine mz_Go.ite (fun hc3 => ?_) (fun hc3 => ?_)
      · have h := mz_ifp hc3 h
        refine mz_Go.run (gs := []) (st' := (39, [some (.inr (.inr (some (0, 0)))), some (.inl x1), some (.inl x2), some (.inr (.inr (some (1, 101)))), none], [.inl (1 : Int32), .inr (.inr (some (0, 0)))], D)) bX11_reach_37 oX11_reach_37 rfl trivial ?_
        refine mz_Go.callV (I := IX11_reach) (J := IX11_deny) (as := [.inl (1 : Int32)]) (ci := 11) (g := 0) (o := 0) (idx := 81) (pl := 634) (rest := []) (mX11_deny (1 : Int32) D) kX11_deny vX11_deny (by decide +kernel) (by decide +kernel) (by decide +kernel) rfl rfl ⟨rfl, rfl⟩ rfl rfl rfl rfl ?_
        cases h
        exact mz_Go.retz (by decide +kernel) rfl ⟨Nat.le_refl _, Nat.le_refl _⟩ (by decide) rfl
      · have h := mz_ifn hc3 h
        refine mz_Go.run (gs := []) (st' := (31, [some (.inr (.inr (some (0, 0)))), some (.inl x1), some (.inl x2), some (.inr (.inr (some (1, 101)))), none], [.inl x2, .inl x1], D)) bX11_reach_29 oX11_reach_29 rfl trivial ?_
        refine mz_Go.callS (I := IX11_reach) (J := IX11_isIn) (as := [.inl x1, .inl x2]) (idx := 337) (pl := 1266) (rest := []) (mX11_isIn x1 x2 D _ rfl) kX11_isIn vX11_isIn (by decide +kernel) (by decide +kernel) (by decide +kernel) rfl rfl ⟨rfl, rfl⟩ rfl ?_
        refine mz_Go.run (gs := []) (st' := (if (fX11_isIn x1 x2) = 0 then (37, [some (.inr (.inr (some (0, 0)))), some (.inl x1), some (.inl x2), some (.inr (.inr (some (1, 101)))), none], [], D) else (43, [some (.inr (.inr (some (0, 0)))), some (.inl x1), some (.inl x2), some (.inr (.inr (some (1, 101)))), none], [], D))) bX11_reach_34 oX11_reach_34 rfl trivial ?_
        refine mz_Go.ite (fun hc4 => ?_) (fun hc4 => ?_)
        · have h := mz_ifp hc4 h
          refine mz_Go.run (gs := []) (st' := (39, [some (.inr (.inr (some (0, 0)))), some (.inl x1), some (.inl x2), some (.inr (.inr (some (1, 101)))), none], [.inl (1 : Int32), .inr (.inr (some (0, 0)))], D)) bX11_reach_37 oX11_reach_37 rfl trivial ?_
          refine mz_Go.callV (I := IX11_reach) (J := IX11_deny) (as := [.inl (1 : Int32)]) (ci := 11) (g := 0) (o := 0) (idx := 81) (pl := 634) (rest := []) (mX11_deny (1 : Int32) D) kX11_deny vX11_deny (by decide +kernel) (by decide +kernel) (by decide +kernel) rfl rfl ⟨rfl, rfl⟩ rfl rfl rfl rfl ?_
          cases h
          exact mz_Go.retz (by decide +kernel) rfl ⟨Nat.le_refl _, Nat.le_refl _⟩ (by decide) rfl
        · have h := mz_ifn hc4 h
          refine mz_Go.run (gs := []) (st' := (45, [some (.inr (.inr (some (0, 0)))), some (.inl x1), some (.inl x2), some (.inr (.inr (some (1, 101)))), none], [.inl x1, .inr (.inr (some (1, 101)))], D)) bX11_reach_43 oX11_reach_43 rfl trivial ?_
          obtain ⟨q5, hq5, h⟩ := mz_bd_some h
          refine mz_Go.callV (I := IX11_reach) (J := IX4_quickOf) (as := [.inl x1]) (ci := 4) (g := 1) (o := 101) (idx := 340) (pl := 1267) (rest := []) (mX4_quickOf 1 x1 D rfl q5 hq5) kX4_quickOf vX4_quickOf (by decide +kernel) (by decide +kernel) (by decide +kernel) rfl rfl ⟨rfl, rfl⟩ rfl rfl rfl rfl ?_
          refine mz_Go.run (gs := []) (st' := (if q5 = 0 then (55, [some (.inr (.inr (some (0, 0)))), some (.inl x1), some (.inl x2), some (.inr (.inr (some (1, 101)))), some (.inl q5)], [], D) else (64, [some (.inr (.inr (some (0, 0)))), some (.inl x1), some (.inl x2), some (.inr (.inr (some (1, 101)))), some (.inl q5)], [], D))) bX11_reach_48 oX11_reach_48 rfl trivial ?_
          refine mz_Go.ite (fun hc6 => ?_) (fun hc6 => ?_)
          · have h := mz_ifp hc6 h
            refine mz_Go.run (gs := []) (st' := (58, [some (.inr (.inr (some (0, 0)))), some (.inl x1), some (.inl x2), some (.inr (.inr (some (1, 101)))), some (.inl q5)], [.inl (6 : Int32), .inr (.inr (some (0, 0)))], D)) bX11_reach_55 oX11_reach_55 rfl trivial ?_
            refine mz_Go.callV (I := IX11_reach) (J := IX11_deny) (as := [.inl (6 : Int32)]) (ci := 11) (g := 0) (o := 0) (idx := 81) (pl := 634) (rest := []) (mX11_deny (6 : Int32) D) kX11_deny vX11_deny (by decide +kernel) (by decide +kernel) (by decide +kernel) rfl rfl ⟨rfl, rfl⟩ rfl rfl rfl rfl ?_
            refine mz_Go.run (gs := []) (st' := (78, [some (.inr (.inr (some (0, 0)))), some (.inl x1), some (.inl x2), some (.inr (.inr (some (1, 101)))), some (.inl q5)], [.inl (0 : Int32)], (mz_wi D 0 0 13 (6 : Int32)))) bX11_reach_61 oX11_reach_61 rfl trivial ?_
            cases h
            exact mz_Go.retz (by decide +kernel) rfl ⟨Nat.le_refl _, Nat.le_refl _⟩ (by decide) rfl
          · have h := mz_ifn hc6 h
            obtain ⟨hb7, h⟩ := mz_gd_some h
            refine mz_Go.run (gs := [mz_kz 0 1 101, mz_kz 0 1 104, mz_ix x2 6]) (st' := (75, [some (.inr (.inr (some (0, 0)))), some (.inl x1), some (.inl x2), some (.inr (.inr (some (1, 101)))), some (.inl q5)], [.inr (.inl (q5).toInt64), .inr (.inl ((D.1 1 104 (x2).toNatClampNeg)).toInt64), .inr (.inr (some (0, 0)))], D)) bX11_reach_64 oX11_reach_64 rfl ⟨rfl, rfl, hb7, trivial⟩ ?_
            obtain ⟨q8, hq8, h⟩ := mz_bd_some h
            refine mz_Go.callV (I := IX11_reach) (J := IX11_tell) (as := [.inr (.inl ((D.1 1 104 (x2).toNatClampNeg)).toInt64), .inr (.inl (q5).toInt64)]) (ci := 11) (g := 0) (o := 0) (idx := 314) (pl := 1232) (rest := []) (mX11_tell ((D.1 1 104 (x2).toNatClampNeg)).toInt64 (q5).toInt64 D q8 hq8) kX11_tell vX11_tell (by decide +kernel) (by decide +kernel) (by decide +kernel) rfl rfl ⟨rfl, rfl⟩ rfl rfl rfl rfl ?_
            obtain ⟨hb9, h⟩ := mz_gd_some h
            cases h
            exact mz_Go.retz (by decide +kernel) rfl ⟨Nat.le_refl _, Nat.le_refl _⟩ hb9 rfl
def bX11_isWorse_0 : List mz_E := [(0, .iload_n 0, 0, 0, 0, 0, 0), (1, .iload_n 1, 0, 0, 0, 0, 0)]
theorem oX11_isWorse_0 : bX11_isWorse_0.all (mz_ok RX11 cX11_isWorse 3) = true := by decide +kernel
def bX11_isWorse_5 : List mz_E := [(5, .iload_n 0, 0, 0, 0, 0, 0), (6, .iload_n 2, 0, 0, 0, 0, 0)]
theorem oX11_isWorse_5 : bX11_isWorse_5.all (mz_ok RX11 cX11_isWorse 3) = true := by decide +kernel
def bX11_isWorse_10 : List mz_E := [(10, .lmul, 0, 0, 0, 0, 0), (11, .iload_n 0, 0, 0, 0, 0, 0), (12, .iload_n 2, 0, 0, 0, 0, 0)]
theorem oX11_isWorse_10 : bX11_isWorse_10.all (mz_ok RX11 cX11_isWorse 3) = true := by decide +kernel
def bX11_isWorse_16 : List mz_E := [(16, .iload_n 0, 0, 0, 0, 0, 0), (17, .iload_n 1, 0, 0, 0, 0, 0)]
theorem oX11_isWorse_16 : bX11_isWorse_16.all (mz_ok RX11 cX11_isWorse 3) = true := by decide +kernel
def bX11_isWorse_21 : List mz_E := [(21, .lmul, 0, 0, 0, 0, 0), (22, .lcmp, 0, 0, 0, 0, 0), (23, .ifCond .ge 7, 0, 30, 0, 0, 0)]
theorem oX11_isWorse_21 : bX11_isWorse_21.all (mz_ok RX11 cX11_isWorse 3) = true := by decide +kernel
def bX11_isWorse_30 : List mz_E := [(30, .iconst 0, 0, 0, 0, 0, 0)]
theorem oX11_isWorse_30 : bX11_isWorse_30.all (mz_ok RX11 cX11_isWorse 3) = true := by decide +kernel
def bX11_isWorse_26 : List mz_E := [(26, .iconst 1, 0, 0, 0, 1, 0), (27, .goto 4, 0, 31, 0, 0, 0)]
theorem oX11_isWorse_26 : bX11_isWorse_26.all (mz_ok RX11 cX11_isWorse 3) = true := by decide +kernel
abbrev IX11_isWorse : mz_I := (yX11_isWorse, cX11_isWorse, 3, (some .boolean), 9, 1, 0, 0)
theorem kX11_isWorse : mz_okm IX11_isWorse 1277 126 1276 3 = true := by decide +kernel
theorem vX11_isWorse : mz_okS IX11_isWorse 1276 = true := by decide +kernel
def fX11_isWorse (x0 : Int32) (x1 : Int32) (x2 : Int32) : Int32 := (if 0 ≤ (lg_cmp (((x0).toInt64 * (((16 : Int32) - x1)).toInt64) * ((256 : Int64) - ((x0).toInt64 * (x2).toInt64))) (((x0).toInt64 * (((16 : Int32) - x2)).toInt64) * ((256 : Int64) - ((x0).toInt64 * (x1).toInt64)))) then (0 : Int32) else (1 : Int32))
set_option maxHeartbeats 4000000 in
theorem mX11_isWorse (x0 : Int32) (x1 : Int32) (x2 : Int32) (D : mz_D) (r : Int32) (h : fX11_isWorse x0 x1 x2 = r) : mz_Met IX11_isWorse [.inl x0, .inl x1, .inl x2] D (some (.inl r), D) := by
  refine mz_Met.of (by decide +kernel) (Nat.le_of_ble_eq_true rfl) ?_
  show mz_Go IX11_isWorse (some (.inl r), D) 0 0 (0, [some (.inl x0), some (.inl x1), some (.inl x2)], [], D)
  rw [fX11_isWorse] at h
  refine mz_Go.run (gs := []) (st' := (2, [some (.inl x0), some (.inl x1), some (.inl x2)], [.inl x1, .inl x0], D)) bX11_isWorse_0 oX11_isWorse_0 rfl trivial ?_
  refine mz_Go.callS (I := IX11_isWorse) (J := IX11_wins) (as := [.inl x0, .inl x1]) (idx := 308) (pl := 1225) (rest := []) (mX11_wins x0 x1 D) kX11_wins vX11_wins (by decide +kernel) (by decide +kernel) (by decide +kernel) rfl rfl ⟨rfl, rfl⟩ rfl ?_
  refine mz_Go.run (gs := []) (st' := (7, [some (.inl x0), some (.inl x1), some (.inl x2)], [.inl x2, .inl x0, .inr (.inl ((x0).toInt64 * (((16 : Int32) - x1)).toInt64))], D)) bX11_isWorse_5 oX11_isWorse_5 rfl trivial ?_
  refine mz_Go.callS (I := IX11_isWorse) (J := IX11_whole) (as := [.inl x0, .inl x2]) (idx := 311) (pl := 1228) (rest := [.inr (.inl ((x0).toInt64 * (((16 : Int32) - x1)).toInt64))]) (mX11_whole x0 x2 D) kX11_whole vX11_whole (by decide +kernel) (by decide +kernel) (by decide +kernel) rfl rfl ⟨rfl, rfl⟩ rfl ?_
  refine mz_Go.run (gs := []) (st' := (13, [some (.inl x0), some (.inl x1), some (.inl x2)], [.inl x2, .inl x0, .inr (.inl (((x0).toInt64 * (((16 : Int32) - x1)).toInt64) * ((256 : Int64) - ((x0).toInt64 * (x2).toInt64))))], D)) bX11_isWorse_10 oX11_isWorse_10 rfl trivial ?_
  refine mz_Go.callS (I := IX11_isWorse) (J := IX11_wins) (as := [.inl x0, .inl x2]) (idx := 308) (pl := 1225) (rest := [.inr (.inl (((x0).toInt64 * (((16 : Int32) - x1)).toInt64) * ((256 : Int64) - ((x0).toInt64 * (x2).toInt64))))]) (mX11_wins x0 x2 D) kX11_wins vX11_wins (by decide +kernel) (by decide +kernel) (by decide +kernel) rfl rfl ⟨rfl, rfl⟩ rfl ?_
  refine mz_Go.run (gs := []) (st' := (18, [some (.inl x0), some (.inl x1), some (.inl x2)], [.inl x1, .inl x0, .inr (.inl ((x0).toInt64 * (((16 : Int32) - x2)).toInt64)), .inr (.inl (((x0).toInt64 * (((16 : Int32) - x1)).toInt64) * ((256 : Int64) - ((x0).toInt64 * (x2).toInt64))))], D)) bX11_isWorse_16 oX11_isWorse_16 rfl trivial ?_
  refine mz_Go.callS (I := IX11_isWorse) (J := IX11_whole) (as := [.inl x0, .inl x1]) (idx := 311) (pl := 1228) (rest := [.inr (.inl ((x0).toInt64 * (((16 : Int32) - x2)).toInt64)), .inr (.inl (((x0).toInt64 * (((16 : Int32) - x1)).toInt64) * ((256 : Int64) - ((x0).toInt64 * (x2).toInt64))))]) (mX11_whole x0 x1 D) kX11_whole vX11_whole (by decide +kernel) (by decide +kernel) (by decide +kernel) rfl rfl ⟨rfl, rfl⟩ rfl ?_
  refine mz_Go.run (gs := []) (st' := (if 0 ≤ (lg_cmp (((x0).toInt64 * (((16 : Int32) - x1)).toInt64) * ((256 : Int64) - ((x0).toInt64 * (x2).toInt64))) (((x0).toInt64 * (((16 : Int32) - x2)).toInt64) * ((256 : Int64) - ((x0).toInt64 * (x1).toInt64)))) then (30, [some (.inl x0), some (.inl x1), some (.inl x2)], [], D) else (26, [some (.inl x0), some (.inl x1), some (.inl x2)], [], D))) bX11_isWorse_21 oX11_isWorse_21 rfl trivial ?_
  refine mz_Go.ite (fun hc1 => ?_) (fun hc1 => ?_)
  · have h := mz_ifp hc1 h
    refine mz_Go.run (gs := []) (st' := (31, [some (.inl x0), some (.inl x1), some (.inl x2)], [.inl (0 : Int32)], D)) bX11_isWorse_30 oX11_isWorse_30 rfl trivial ?_
    subst h
    exact mz_Go.retz (by decide +kernel) rfl ⟨Nat.le_refl _, Nat.le_refl _⟩ (by decide) rfl
  · have h := mz_ifn hc1 h
    refine mz_Go.run (gs := []) (st' := (31, [some (.inl x0), some (.inl x1), some (.inl x2)], [.inl (1 : Int32)], D)) bX11_isWorse_26 oX11_isWorse_26 rfl trivial ?_
    subst h
    exact mz_Go.retz (by decide +kernel) rfl ⟨Nat.le_refl _, Nat.le_refl _⟩ (by decide) rfl
def bX11_easyOn_0 : List mz_E := [(0, .aload_n 0, 0, 0, 0, 0, 0), (1, .getfield 32, 11, 4, 563, 0, 0), (4, .getfield 151, 6, 0, 477, 0, 0), (7, .astore_n 2, 0, 0, 0, 0, 0), (8, .aload_n 2, 0, 0, 0, 0, 0), (9, .iload_n 1, 0, 0, 0, 0, 0)]
theorem oX11_easyOn_0 : bX11_easyOn_0.all (mz_ok RX11 cX11_easyOn 7) = true := by decide +kernel
def bX11_easyOn_13 : List mz_E := [(13, .ifCond .ne 9, 0, 22, 0, 0, 0)]
theorem oX11_easyOn_13 : bX11_easyOn_13.all (mz_ok RX11 cX11_easyOn 7) = true := by decide +kernel
def bX11_easyOn_16 : List mz_E := [(16, .aload_n 0, 0, 0, 0, 0, 0), (17, .iconst 1, 0, 0, 0, 1, 0)]
theorem oX11_easyOn_16 : bX11_easyOn_16.all (mz_ok RX11 cX11_easyOn 7) = true := by decide +kernel
def bX11_easyOn_22 : List mz_E := [(22, .aload_n 2, 0, 0, 0, 0, 0), (23, .getfield 230, 4, 4, 303, 0, 0), (26, .iload_n 1, 0, 0, 0, 0, 0), (27, .iaload, 0, 0, 0, 0, 0), (28, .istore_n 3, 0, 0, 0, 0, 0), (29, .iconst (-1), 0, 0, 0, -1, 0), (30, .istore 4, 0, 0, 0, 0, 0), (32, .iconst 0, 0, 0, 0, 0, 0), (33, .istore 5, 0, 0, 0, 0, 0)]
theorem oX11_easyOn_22 : bX11_easyOn_22.all (mz_ok RX11 cX11_easyOn 7) = true := by decide +kernel
def bX11_easyOn_35 : List mz_E := [(35, .iload 5, 0, 0, 0, 0, 0), (37, .aload_n 2, 0, 0, 0, 0, 0), (38, .getfield 155, 4, 0, 290, 0, 0), (41, .if_icmp .ge 62, 0, 103, 0, 0, 0)]
theorem oX11_easyOn_35 : bX11_easyOn_35.all (mz_ok RX11 cX11_easyOn 7) = true := by decide +kernel
def bX11_easyOn_103 : List mz_E := [(103, .aload_n 0, 0, 0, 0, 0, 0), (104, .iload 4, 0, 0, 0, 0, 0)]
theorem oX11_easyOn_103 : bX11_easyOn_103.all (mz_ok RX11 cX11_easyOn 7) = true := by decide +kernel
def bX11_easyOn_44 : List mz_E := [(44, .aload_n 2, 0, 0, 0, 0, 0), (45, .getfield 230, 4, 4, 303, 0, 0), (48, .iload 5, 0, 0, 0, 0, 0), (50, .iaload, 0, 0, 0, 0, 0), (51, .istore 6, 0, 0, 0, 0, 0), (53, .iload 5, 0, 0, 0, 0, 0), (55, .iload_n 1, 0, 0, 0, 0, 0), (56, .if_icmp .eq 41, 0, 97, 0, 0, 0)]
theorem oX11_easyOn_44 : bX11_easyOn_44.all (mz_ok RX11 cX11_easyOn 7) = true := by decide +kernel
def bX11_easyOn_97 : List mz_E := [(97, .iinc 5 1, 0, 0, 0, 1, 0), (100, .goto (-65), 0, 35, 0, 0, 0)]
theorem oX11_easyOn_97 : bX11_easyOn_97.all (mz_ok RX11 cX11_easyOn 7) = true := by decide +kernel
def bX11_easyOn_59 : List mz_E := [(59, .iload_n 3, 0, 0, 0, 0, 0), (60, .iload 6, 0, 0, 0, 0, 0)]
theorem oX11_easyOn_59 : bX11_easyOn_59.all (mz_ok RX11 cX11_easyOn 7) = true := by decide +kernel
def bX11_easyOn_65 : List mz_E := [(65, .ifCond .eq 6, 0, 71, 0, 0, 0)]
theorem oX11_easyOn_65 : bX11_easyOn_65.all (mz_ok RX11 cX11_easyOn 7) = true := by decide +kernel
def bX11_easyOn_71 : List mz_E := [(71, .iload 4, 0, 0, 0, 0, 0), (73, .iconst (-1), 0, 0, 0, -1, 0), (74, .if_icmp .eq 19, 0, 93, 0, 0, 0)]
theorem oX11_easyOn_71 : bX11_easyOn_71.all (mz_ok RX11 cX11_easyOn 7) = true := by decide +kernel
def bX11_easyOn_93 : List mz_E := [(93, .iload 5, 0, 0, 0, 0, 0), (95, .istore 4, 0, 0, 0, 0, 0), (97, .iinc 5 1, 0, 0, 0, 1, 0), (100, .goto (-65), 0, 35, 0, 0, 0)]
theorem oX11_easyOn_93 : bX11_easyOn_93.all (mz_ok RX11 cX11_easyOn 7) = true := by decide +kernel
def bX11_easyOn_77 : List mz_E := [(77, .iload_n 3, 0, 0, 0, 0, 0), (78, .iload 6, 0, 0, 0, 0, 0), (80, .aload_n 2, 0, 0, 0, 0, 0), (81, .getfield 230, 4, 4, 303, 0, 0), (84, .iload 4, 0, 0, 0, 0, 0), (86, .iaload, 0, 0, 0, 0, 0)]
theorem oX11_easyOn_77 : bX11_easyOn_77.all (mz_ok RX11 cX11_easyOn 7) = true := by decide +kernel
def bX11_easyOn_90 : List mz_E := [(90, .ifCond .eq 7, 0, 97, 0, 0, 0)]
theorem oX11_easyOn_90 : bX11_easyOn_90.all (mz_ok RX11 cX11_easyOn 7) = true := by decide +kernel
def bX11_easyOn_68 : List mz_E := [(68, .goto 29, 0, 97, 0, 0, 0), (97, .iinc 5 1, 0, 0, 0, 1, 0), (100, .goto (-65), 0, 35, 0, 0, 0)]
theorem oX11_easyOn_68 : bX11_easyOn_68.all (mz_ok RX11 cX11_easyOn 7) = true := by decide +kernel
abbrev IX11_easyOn : mz_I := (yX11_easyOn, cX11_easyOn, 7, (some .int), 0, 2, 0, 0)
theorem kX11_easyOn : mz_okm IX11_easyOn 1274 126 1272 1 = true := by decide +kernel
theorem vX11_easyOn : mz_okV IX11_easyOn 1272 1273 = true := by decide +kernel
def fX11_easyOn_93 (k35 : Int32 → Int32 → Int32 → Int32 → mz_D → Option (Int32 × mz_D)) (x1 : Int32) (x3 : Int32) (x5 : Int32) (D : mz_D) : Option (Int32 × mz_D) := (k35 x1 x3 x5 (x5 + (1 : Int32)) D)
set_option maxHeartbeats 4000000 in
theorem tX11_easyOn_93 (r : (Int32 × mz_D)) (k35 : Int32 → Int32 → Int32 → Int32 → mz_D → Option (Int32 × mz_D)) (hk35 : ∀ (x1 : Int32) (x3 : Int32) (x4 : Int32) (x5 : Int32) (D : mz_D), k35 x1 x3 x4 x5 D = some r → mz_Go IX11_easyOn (some (.inl r.1), r.2) 0 0 (35, [some (.inr (.inr (some (0, 0)))), some (.inl x1), some (.inr (.inr (some (1, 101)))), some (.inl x3), some (.inl x4), some (.inl x5), none], [], D)) : ∀ (x1 : Int32) (x3 : Int32) (x5 : Int32) (D : mz_D), fX11_easyOn_93 k35 x1 x3 x5 D = some r → mz_Go IX11_easyOn (some (.inl r.1), r.2) 0 0 (93, [some (.inr (.inr (some (0, 0)))), some (.inl x1), some (.inr (.inr (some (1, 101)))), some (.inl x3), none, some (.inl x5), none], [], D) := by
  intro x1 x3 x5 D h
  rw [fX11_easyOn_93] at h
  refine mz_Go.run (gs := []) (st' := (35, [some (.inr (.inr (some (0, 0)))), some (.inl x1), some (.inr (.inr (some (1, 101)))), some (.inl x3), some (.inl x5), some (.inl (x5 + (1 : Int32))), none], [], D)) bX11_easyOn_93 oX11_easyOn_93 rfl trivial ?_
  exact mz_Go.drop [true, true, true, true, true, true, false] (hk35 x1 x3 x5 (x5 + (1 : Int32)) D h)
def fX11_easyOn_35 : Nat → Int32 → Int32 → Int32 → Int32 → mz_D → Option (Int32 × mz_D)
  | 0 => fun _ _ _ _ _ => none
  | n + 1 => fun x1 x3 x4 x5 D => (if (D.1 1 101 0) ≤ x5 then (Option.bind (fX11_answerIfAny x4 D) fun q2 => (some (q2.1, q2.2))) else (mz_gd (mz_ix x5 6) (if x5 = x1 then ((fX11_easyOn_35 n) x1 x3 x4 (x5 + (1 : Int32)) D) else (if (fX11_neverEnds x3 (D.1 1 103 (x5).toNatClampNeg)) = 0 then (if x4 = (-1 : Int32) then (fX11_easyOn_93 (fX11_easyOn_35 n) x1 x3 x5 D) else (mz_gd (mz_ix x4 6) (if (fX11_isWorse x3 (D.1 1 103 (x5).toNatClampNeg) (D.1 1 103 (x4).toNatClampNeg)) = 0 then ((fX11_easyOn_35 n) x1 x3 x4 (x5 + (1 : Int32)) D) else (fX11_easyOn_93 (fX11_easyOn_35 n) x1 x3 x5 D)))) else ((fX11_easyOn_35 n) x1 x3 x4 (x5 + (1 : Int32)) D)))))
set_option maxHeartbeats 4000000 in
theorem tX11_easyOn_35 (r : (Int32 × mz_D)) : ∀ (n : Nat) (x1 : Int32) (x3 : Int32) (x4 : Int32) (x5 : Int32) (D : mz_D), fX11_easyOn_35 n x1 x3 x4 x5 D = some r → mz_Go IX11_easyOn (some (.inl r.1), r.2) 0 0 (35, [some (.inr (.inr (some (0, 0)))), some (.inl x1), some (.inr (.inr (some (1, 101)))), some (.inl x3), some (.inl x4), some (.inl x5), none], [], D) := by
  intro n
  induction n with
  | zero => intro x1 x3 x4 x5 D h; have h : (none : Option (Int32 × mz_D)) = some r := h; cases h
  | succ n ih =>
    intro x1 x3 x4 x5 D h
    rw [fX11_easyOn_35] at h
    refine mz_Go.run (gs := [mz_kz 0 1 101]) (st' := (if (D.1 1 101 0) ≤ x5 then (103, [some (.inr (.inr (some (0, 0)))), some (.inl x1), some (.inr (.inr (some (1, 101)))), some (.inl x3), some (.inl x4), some (.inl x5), none], [], D) else (44, [some (.inr (.inr (some (0, 0)))), some (.inl x1), some (.inr (.inr (some (1, 101)))), some (.inl x3), some (.inl x4), some (.inl x5), none], [], D))) bX11_easyOn_35 oX11_easyOn_35 rfl ⟨rfl, trivial⟩ ?_
    refine mz_Go.ite (fun hc1 => ?_) (fun hc1 => ?_)
    · have h := mz_ifp hc1 h
      refine mz_Go.run (gs := []) (st' := (106, [some (.inr (.inr (some (0, 0)))), some (.inl x1), some (.inr (.inr (some (1, 101)))), some (.inl x3), some (.inl x4), some (.inl x5), none], [.inl x4, .inr (.inr (some (0, 0)))], D)) bX11_easyOn_103 oX11_easyOn_103 rfl trivial ?_
      obtain ⟨q2, hq2, h⟩ := mz_bd_some h
      refine mz_Go.callV (I := IX11_easyOn) (J := IX11_answerIfAny) (as := [.inl x4]) (ci := 11) (g := 0) (o := 0) (idx := 245) (pl := 1046) (rest := []) (mX11_answerIfAny x4 D q2 hq2) kX11_answerIfAny vX11_answerIfAny (by decide +kernel) (by decide +kernel) (by decide +kernel) rfl rfl ⟨rfl, rfl⟩ rfl rfl rfl rfl ?_
      cases h
      exact mz_Go.reti (by decide +kernel) rfl ⟨Nat.le_refl _, Nat.le_refl _⟩ rfl
    · have h := mz_ifn hc1 h
      obtain ⟨hb3, h⟩ := mz_gd_some h
      refine mz_Go.run (gs := [mz_kz 0 1 101, mz_kz 0 1 103, mz_ix x5 6]) (st' := (if x5 = x1 then (97, [some (.inr (.inr (some (0, 0)))), some (.inl x1), some (.inr (.inr (some (1, 101)))), some (.inl x3), some (.inl x4), some (.inl x5), some (.inl (D.1 1 103 (x5).toNatClampNeg))], [], D) else (59, [some (.inr (.inr (some (0, 0)))), some (.inl x1), some (.inr (.inr (some (1, 101)))), some (.inl x3), some (.inl x4), some (.inl x5), some (.inl (D.1 1 103 (x5).toNatClampNeg))], [], D))) bX11_easyOn_44 oX11_easyOn_44 rfl ⟨rfl, rfl, hb3, trivial⟩ ?_
      refine mz_Go.ite (fun hc4 => ?_) (fun hc4 => ?_)
      · have h := mz_ifp hc4 h
        refine mz_Go.run (gs := []) (st' := (35, [some (.inr (.inr (some (0, 0)))), some (.inl x1), some (.inr (.inr (some (1, 101)))), some (.inl x3), some (.inl x4), some (.inl (x5 + (1 : Int32))), some (.inl (D.1 1 103 (x5).toNatClampNeg))], [], D)) bX11_easyOn_97 oX11_easyOn_97 rfl trivial ?_
        exact mz_Go.drop [true, true, true, true, true, true, false] (ih x1 x3 x4 (x5 + (1 : Int32)) D h)
      · have h := mz_ifn hc4 h
        refine mz_Go.run (gs := []) (st' := (62, [some (.inr (.inr (some (0, 0)))), some (.inl x1), some (.inr (.inr (some (1, 101)))), some (.inl x3), some (.inl x4), some (.inl x5), some (.inl (D.1 1 103 (x5).toNatClampNeg))], [.inl (D.1 1 103 (x5).toNatClampNeg), .inl x3], D)) bX11_easyOn_59 oX11_easyOn_59 rfl trivial ?_
        refine mz_Go.callS (I := IX11_easyOn) (J := IX11_neverEnds) (as := [.inl x3, .inl (D.1 1 103 (x5).toNatClampNeg)]) (idx := 324) (pl := 1222) (rest := []) (mX11_neverEnds x3 (D.1 1 103 (x5).toNatClampNeg) D _ rfl) kX11_neverEnds vX11_neverEnds (by decide +kernel) (by decide +kernel) (by decide +kernel) rfl rfl ⟨rfl, rfl⟩ rfl ?_
        refine mz_Go.run (gs := []) (st' := (if (fX11_neverEnds x3 (D.1 1 103 (x5).toNatClampNeg)) = 0 then (71, [some (.inr (.inr (some (0, 0)))), some (.inl x1), some (.inr (.inr (some (1, 101)))), some (.inl x3), some (.inl x4), some (.inl x5), some (.inl (D.1 1 103 (x5).toNatClampNeg))], [], D) else (68, [some (.inr (.inr (some (0, 0)))), some (.inl x1), some (.inr (.inr (some (1, 101)))), some (.inl x3), some (.inl x4), some (.inl x5), some (.inl (D.1 1 103 (x5).toNatClampNeg))], [], D))) bX11_easyOn_65 oX11_easyOn_65 rfl trivial ?_
        refine mz_Go.ite (fun hc5 => ?_) (fun hc5 => ?_)
        · have h := mz_ifp hc5 h
          refine mz_Go.run (gs := []) (st' := (if x4 = (-1 : Int32) then (93, [some (.inr (.inr (some (0, 0)))), some (.inl x1), some (.inr (.inr (some (1, 101)))), some (.inl x3), some (.inl x4), some (.inl x5), some (.inl (D.1 1 103 (x5).toNatClampNeg))], [], D) else (77, [some (.inr (.inr (some (0, 0)))), some (.inl x1), some (.inr (.inr (some (1, 101)))), some (.inl x3), some (.inl x4), some (.inl x5), some (.inl (D.1 1 103 (x5).toNatClampNeg))], [], D))) bX11_easyOn_71 oX11_easyOn_71 rfl trivial ?_
          refine mz_Go.ite (fun hc6 => ?_) (fun hc6 => ?_)
          · have h := mz_ifp hc6 h
            exact mz_Go.drop [true, true, true, true, false, true, false] (tX11_easyOn_93 r (fX11_easyOn_35 n) ih x1 x3 x5 D h)
          · have h := mz_ifn hc6 h
            obtain ⟨hb7, h⟩ := mz_gd_some h
            refine mz_Go.run (gs := [mz_kz 0 1 101, mz_kz 0 1 103, mz_ix x4 6]) (st' := (87, [some (.inr (.inr (some (0, 0)))), some (.inl x1), some (.inr (.inr (some (1, 101)))), some (.inl x3), some (.inl x4), some (.inl x5), some (.inl (D.1 1 103 (x5).toNatClampNeg))], [.inl (D.1 1 103 (x4).toNatClampNeg), .inl (D.1 1 103 (x5).toNatClampNeg), .inl x3], D)) bX11_easyOn_77 oX11_easyOn_77 rfl ⟨rfl, rfl, hb7, trivial⟩ ?_
            refine mz_Go.callS (I := IX11_easyOn) (J := IX11_isWorse) (as := [.inl x3, .inl (D.1 1 103 (x5).toNatClampNeg), .inl (D.1 1 103 (x4).toNatClampNeg)]) (idx := 343) (pl := 1275) (rest := []) (mX11_isWorse x3 (D.1 1 103 (x5).toNatClampNeg) (D.1 1 103 (x4).toNatClampNeg) D _ rfl) kX11_isWorse vX11_isWorse (by decide +kernel) (by decide +kernel) (by decide +kernel) rfl rfl ⟨rfl, rfl⟩ rfl ?_
            refine mz_Go.run (gs := []) (st' := (if (fX11_isWorse x3 (D.1 1 103 (x5).toNatClampNeg) (D.1 1 103 (x4).toNatClampNeg)) = 0 then (97, [some (.inr (.inr (some (0, 0)))), some (.inl x1), some (.inr (.inr (some (1, 101)))), some (.inl x3), some (.inl x4), some (.inl x5), some (.inl (D.1 1 103 (x5).toNatClampNeg))], [], D) else (93, [some (.inr (.inr (some (0, 0)))), some (.inl x1), some (.inr (.inr (some (1, 101)))), some (.inl x3), some (.inl x4), some (.inl x5), some (.inl (D.1 1 103 (x5).toNatClampNeg))], [], D))) bX11_easyOn_90 oX11_easyOn_90 rfl trivial ?_
            refine mz_Go.ite (fun hc8 => ?_) (fun hc8 => ?_)
            · have h := mz_ifp hc8 h
              refine mz_Go.run (gs := []) (st' := (35, [some (.inr (.inr (some (0, 0)))), some (.inl x1), some (.inr (.inr (some (1, 101)))), some (.inl x3), some (.inl x4), some (.inl (x5 + (1 : Int32))), some (.inl (D.1 1 103 (x5).toNatClampNeg))], [], D)) bX11_easyOn_97 oX11_easyOn_97 rfl trivial ?_
              exact mz_Go.drop [true, true, true, true, true, true, false] (ih x1 x3 x4 (x5 + (1 : Int32)) D h)
            · have h := mz_ifn hc8 h
              exact mz_Go.drop [true, true, true, true, false, true, false] (tX11_easyOn_93 r (fX11_easyOn_35 n) ih x1 x3 x5 D h)
        · have h := mz_ifn hc5 h
          refine mz_Go.run (gs := []) (st' := (35, [some (.inr (.inr (some (0, 0)))), some (.inl x1), some (.inr (.inr (some (1, 101)))), some (.inl x3), some (.inl x4), some (.inl (x5 + (1 : Int32))), some (.inl (D.1 1 103 (x5).toNatClampNeg))], [], D)) bX11_easyOn_68 oX11_easyOn_68 rfl trivial ?_
          exact mz_Go.drop [true, true, true, true, true, true, false] (ih x1 x3 x4 (x5 + (1 : Int32)) D h)
def fX11_easyOn (x1 : Int32) (D : mz_D) : Option (Int32 × mz_D) := (if (fX4_has 1 x1 D) = 0 then (some ((-1 : Int32), (mz_wi D 0 0 13 (1 : Int32)))) else (mz_gd (mz_ix x1 6) (fX11_easyOn_35 mz_N x1 (D.1 1 103 (x1).toNatClampNeg) (-1 : Int32) (0 : Int32) D)))
set_option maxHeartbeats 4000000 in
theorem mX11_easyOn (x1 : Int32) (D : mz_D) (r : (Int32 × mz_D)) (h : fX11_easyOn x1 D = some r) : mz_Met IX11_easyOn [.inr (.inr (some (0, 0))), .inl x1] D (some (.inl r.1), r.2) := by
  refine mz_Met.of (by decide +kernel) (Nat.le_of_ble_eq_true rfl) ?_
  show mz_Go IX11_easyOn (some (.inl r.1), r.2) 0 0 (0, [some (.inr (.inr (some (0, 0)))), some (.inl x1), none, none, none, none, none], [], D)
  rw [fX11_easyOn] at h
  refine mz_Go.run (gs := [mz_kz 0 0 0, mz_kz 0 1 100]) (st' := (10, [some (.inr (.inr (some (0, 0)))), some (.inl x1), some (.inr (.inr (some (1, 101)))), none, none, none, none], [.inl x1, .inr (.inr (some (1, 101)))], D)) bX11_easyOn_0 oX11_easyOn_0 rfl ⟨rfl, rfl, trivial⟩ ?_
  refine mz_Go.callV (I := IX11_easyOn) (J := IX4_has) (as := [.inl x1]) (ci := 4) (g := 1) (o := 101) (idx := 229) (pl := 1042) (rest := []) (mX4_has 1 x1 D rfl _ rfl) kX4_has vX4_has (by decide +kernel) (by decide +kernel) (by decide +kernel) rfl rfl ⟨rfl, rfl⟩ rfl rfl rfl rfl ?_
  refine mz_Go.run (gs := []) (st' := (if (fX4_has 1 x1 D) = 0 then (16, [some (.inr (.inr (some (0, 0)))), some (.inl x1), some (.inr (.inr (some (1, 101)))), none, none, none, none], [], D) else (22, [some (.inr (.inr (some (0, 0)))), some (.inl x1), some (.inr (.inr (some (1, 101)))), none, none, none, none], [], D))) bX11_easyOn_13 oX11_easyOn_13 rfl trivial ?_
  refine mz_Go.ite (fun hc1 => ?_) (fun hc1 => ?_)
  · have h := mz_ifp hc1 h
    refine mz_Go.run (gs := []) (st' := (18, [some (.inr (.inr (some (0, 0)))), some (.inl x1), some (.inr (.inr (some (1, 101)))), none, none, none, none], [.inl (1 : Int32), .inr (.inr (some (0, 0)))], D)) bX11_easyOn_16 oX11_easyOn_16 rfl trivial ?_
    refine mz_Go.callV (I := IX11_easyOn) (J := IX11_refuse) (as := [.inl (1 : Int32)]) (ci := 11) (g := 0) (o := 0) (idx := 100) (pl := 673) (rest := []) (mX11_refuse (1 : Int32) D) kX11_refuse vX11_refuse (by decide +kernel) (by decide +kernel) (by decide +kernel) rfl rfl ⟨rfl, rfl⟩ rfl rfl rfl rfl ?_
    cases h
    exact mz_Go.reti (by decide +kernel) rfl ⟨Nat.le_refl _, Nat.le_refl _⟩ rfl
  · have h := mz_ifn hc1 h
    obtain ⟨hb2, h⟩ := mz_gd_some h
    refine mz_Go.run (gs := [mz_kz 0 1 101, mz_kz 0 1 103, mz_ix x1 6]) (st' := (35, [some (.inr (.inr (some (0, 0)))), some (.inl x1), some (.inr (.inr (some (1, 101)))), some (.inl (D.1 1 103 (x1).toNatClampNeg)), some (.inl (-1 : Int32)), some (.inl (0 : Int32)), none], [], D)) bX11_easyOn_22 oX11_easyOn_22 rfl ⟨rfl, rfl, hb2, trivial⟩ ?_
    exact mz_Go.drop [true, true, true, true, true, true, false] (tX11_easyOn_35 r mz_N x1 (D.1 1 103 (x1).toNatClampNeg) (-1 : Int32) (0 : Int32) D h)
def bX11_regret_0 : List mz_E := [(0, .aload_n 0, 0, 0, 0, 0, 0), (1, .getfield 32, 11, 4, 563, 0, 0), (4, .getfield 151, 6, 0, 477, 0, 0), (7, .iload_n 1, 0, 0, 0, 0, 0)]
theorem oX11_regret_0 : bX11_regret_0.all (mz_ok RX11 cX11_regret 2) = true := by decide +kernel
def bX11_regret_11 : List mz_E := [(11, .ifCond .eq 18, 0, 29, 0, 0, 0)]
theorem oX11_regret_11 : bX11_regret_11.all (mz_ok RX11 cX11_regret 2) = true := by decide +kernel
def bX11_regret_29 : List mz_E := [(29, .aload_n 0, 0, 0, 0, 0, 0), (30, .iconst 1, 0, 0, 0, 1, 0)]
theorem oX11_regret_29 : bX11_regret_29.all (mz_ok RX11 cX11_regret 2) = true := by decide +kernel
def bX11_regret_14 : List mz_E := [(14, .aload_n 0, 0, 0, 0, 0, 0), (15, .aload_n 0, 0, 0, 0, 0, 0), (16, .getfield 32, 11, 4, 563, 0, 0), (19, .iload_n 1, 0, 0, 0, 0, 0)]
theorem oX11_regret_14 : bX11_regret_14.all (mz_ok RX11 cX11_regret 2) = true := by decide +kernel
def bX11_regret_26 : List mz_E := [(26, .goto 8, 0, 34, 0, 0, 0)]
theorem oX11_regret_26 : bX11_regret_26.all (mz_ok RX11 cX11_regret 2) = true := by decide +kernel
abbrev IX11_regret : mz_I := (yX11_regret, cX11_regret, 2, (some .int), 0, 2, 0, 0)
theorem kX11_regret : mz_okm IX11_regret 1281 126 1279 1 = true := by decide +kernel
theorem vX11_regret : mz_okV IX11_regret 1279 1280 = true := by decide +kernel
def fX11_regret (x1 : Int32) (D : mz_D) : Option (Int32 × mz_D) := (if (fX4_has 1 x1 D) = 0 then (some ((-1 : Int32), (mz_wi D 0 0 13 (1 : Int32)))) else (Option.bind (fX6_regretOf 1 x1 D) fun q2 => (some (q2, (mz_wi D 0 0 13 (0 : Int32))))))
set_option maxHeartbeats 4000000 in
theorem mX11_regret (x1 : Int32) (D : mz_D) (r : (Int32 × mz_D)) (h : fX11_regret x1 D = some r) : mz_Met IX11_regret [.inr (.inr (some (0, 0))), .inl x1] D (some (.inl r.1), r.2) := by
  refine mz_Met.of (by decide +kernel) (Nat.le_of_ble_eq_true rfl) ?_
  show mz_Go IX11_regret (some (.inl r.1), r.2) 0 0 (0, [some (.inr (.inr (some (0, 0)))), some (.inl x1)], [], D)
  rw [fX11_regret] at h
  refine mz_Go.run (gs := [mz_kz 0 0 0, mz_kz 0 1 100]) (st' := (8, [some (.inr (.inr (some (0, 0)))), some (.inl x1)], [.inl x1, .inr (.inr (some (1, 101)))], D)) bX11_regret_0 oX11_regret_0 rfl ⟨rfl, rfl, trivial⟩ ?_
  refine mz_Go.callV (I := IX11_regret) (J := IX4_has) (as := [.inl x1]) (ci := 4) (g := 1) (o := 101) (idx := 229) (pl := 1042) (rest := []) (mX4_has 1 x1 D rfl _ rfl) kX4_has vX4_has (by decide +kernel) (by decide +kernel) (by decide +kernel) rfl rfl ⟨rfl, rfl⟩ rfl rfl rfl rfl ?_
  refine mz_Go.run (gs := []) (st' := (if (fX4_has 1 x1 D) = 0 then (29, [some (.inr (.inr (some (0, 0)))), some (.inl x1)], [], D) else (14, [some (.inr (.inr (some (0, 0)))), some (.inl x1)], [], D))) bX11_regret_11 oX11_regret_11 rfl trivial ?_
  refine mz_Go.ite (fun hc1 => ?_) (fun hc1 => ?_)
  · have h := mz_ifp hc1 h
    refine mz_Go.run (gs := []) (st' := (31, [some (.inr (.inr (some (0, 0)))), some (.inl x1)], [.inl (1 : Int32), .inr (.inr (some (0, 0)))], D)) bX11_regret_29 oX11_regret_29 rfl trivial ?_
    refine mz_Go.callV (I := IX11_regret) (J := IX11_refuse) (as := [.inl (1 : Int32)]) (ci := 11) (g := 0) (o := 0) (idx := 100) (pl := 673) (rest := []) (mX11_refuse (1 : Int32) D) kX11_refuse vX11_refuse (by decide +kernel) (by decide +kernel) (by decide +kernel) rfl rfl ⟨rfl, rfl⟩ rfl rfl rfl rfl ?_
    cases h
    exact mz_Go.reti (by decide +kernel) rfl ⟨Nat.le_refl _, Nat.le_refl _⟩ rfl
  · have h := mz_ifn hc1 h
    refine mz_Go.run (gs := [mz_kz 0 0 0]) (st' := (20, [some (.inr (.inr (some (0, 0)))), some (.inl x1)], [.inl x1, .inr (.inr (some (1, 100))), .inr (.inr (some (0, 0)))], D)) bX11_regret_14 oX11_regret_14 rfl ⟨rfl, trivial⟩ ?_
    obtain ⟨q2, hq2, h⟩ := mz_bd_some h
    refine mz_Go.callV (I := IX11_regret) (J := IX6_regretOf) (as := [.inl x1]) (ci := 6) (g := 1) (o := 100) (idx := 346) (pl := 1282) (rest := [.inr (.inr (some (0, 0)))]) (mX6_regretOf 1 x1 D rfl q2 hq2) kX6_regretOf vX6_regretOf (by decide +kernel) (by decide +kernel) (by decide +kernel) rfl rfl ⟨rfl, rfl⟩ rfl rfl rfl rfl ?_
    refine mz_Go.callV (I := IX11_regret) (J := IX11_answer) (as := [.inl q2]) (ci := 11) (g := 0) (o := 0) (idx := 160) (pl := 914) (rest := []) (mX11_answer q2 D) kX11_answer vX11_answer (by decide +kernel) (by decide +kernel) (by decide +kernel) rfl rfl ⟨rfl, rfl⟩ rfl rfl rfl rfl ?_
    refine mz_Go.run (gs := []) (st' := (34, [some (.inr (.inr (some (0, 0)))), some (.inl x1)], [.inl q2], (mz_wi D 0 0 13 (0 : Int32)))) bX11_regret_26 oX11_regret_26 rfl trivial ?_
    cases h
    exact mz_Go.reti (by decide +kernel) rfl ⟨Nat.le_refl _, Nat.le_refl _⟩ rfl
