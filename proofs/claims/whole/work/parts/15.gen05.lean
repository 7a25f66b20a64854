def bX11_write_0 : List mz_E := [(0, .aload_n 0, 0, 0, 0, 0, 0), (1, .iload_n 1, 0, 0, 0, 0, 0), (2, .iload_n 2, 0, 0, 0, 0, 0)]
theorem oX11_write_0 : bX11_write_0.all (mz_ok RX11 cX11_write 6) = true := by decide +kernel
def bX11_write_6 : List mz_E := [(6, .istore 5, 0, 0, 0, 0, 0), (8, .iload 5, 0, 0, 0, 0, 0), (10, .ifCond .eq 10, 0, 20, 0, 0, 0)]
theorem oX11_write_6 : bX11_write_6.all (mz_ok RX11 cX11_write 6) = true := by decide +kernel
def bX11_write_20 : List mz_E := [(20, .aload_n 0, 0, 0, 0, 0, 0), (21, .getfield 25, 11, 3, 562, 0, 0), (24, .iload_n 1, 0, 0, 0, 0, 0), (25, .iload_n 2, 0, 0, 0, 0, 0), (26, .lload_n 3, 0, 0, 0, 0, 0)]
theorem oX11_write_20 : bX11_write_20.all (mz_ok RX11 cX11_write 6) = true := by decide +kernel
def bX11_write_30 : List mz_E := [(30, .aload_n 0, 0, 0, 0, 0, 0)]
theorem oX11_write_30 : bX11_write_30.all (mz_ok RX11 cX11_write 6) = true := by decide +kernel
def bX11_write_13 : List mz_E := [(13, .aload_n 0, 0, 0, 0, 0, 0), (14, .iload 5, 0, 0, 0, 0, 0)]
theorem oX11_write_13 : bX11_write_13.all (mz_ok RX11 cX11_write 6) = true := by decide +kernel
abbrev IX11_write : mz_I := (yX11_write, cX11_write, 6, (some .boolean), 0, 2, 0, 0)
theorem kX11_write : mz_okm IX11_write 649 126 647 3 = true := by decide +kernel
theorem vX11_write : mz_okV IX11_write 647 648 = true := by decide +kernel
def fX11_write (x1 : Int32) (x2 : Int32) (y3 : Int64) (D : mz_D) : Option (Int32 × mz_D) := (Option.bind (fX11_placeTrouble x1 x2 D) fun q1 => (if q1 = 0 then (Option.bind (fX8_put x1 x2 y3 D) fun q3 => (some ((1 : Int32), (mz_wi q3 0 0 13 (0 : Int32))))) else (some ((0 : Int32), (mz_wi D 0 0 13 q1)))))
set_option maxHeartbeats 4000000 in
theorem mX11_write (x1 : Int32) (x2 : Int32) (y3 : Int64) (D : mz_D) (r : (Int32 × mz_D)) (h : fX11_write x1 x2 y3 D = some r) : mz_Met IX11_write [.inr (.inr (some (0, 0))), .inl x1, .inl x2, .inr (.inl y3)] D (some (.inl r.1), r.2) := by
  refine mz_Met.of (by decide +kernel) (Nat.le_of_ble_eq_true rfl) ?_
  show mz_Go IX11_write (some (.inl r.1), r.2) 0 0 (0, [some (.inr (.inr (some (0, 0)))), some (.inl x1), some (.inl x2), some (.inr (.inl y3)), none, none], [], D)
  rw [fX11_write] at h
  refine mz_Go.run (gs := []) (st' := (3, [some (.inr (.inr (some (0, 0)))), some (.inl x1), some (.inl x2), some (.inr (.inl y3)), none, none], [.inl x2, .inl x1, .inr (.inr (some (0, 0)))], D)) bX11_write_0 oX11_write_0 rfl trivial ?_
  obtain ⟨q1, hq1, h⟩ := mz_bd_some h
  refine mz_Go.callV (I := IX11_write) (J := IX11_placeTrouble) (as := [.inl x1, .inl x2]) (ci := 11) (g := 0) (o := 0) (idx := 92) (pl := 650) (rest := []) (mX11_placeTrouble x1 x2 D q1 hq1) kX11_placeTrouble vX11_placeTrouble (by decide +kernel) (by decide +kernel) (by decide +kernel) rfl rfl ⟨rfl, rfl⟩ rfl rfl rfl rfl ?_
  refine mz_Go.run (gs := []) (st' := (if q1 = 0 then (20, [some (.inr (.inr (some (0, 0)))), some (.inl x1), some (.inl x2), some (.inr (.inl y3)), none, some (.inl q1)], [], D) else (13, [some (.inr (.inr (some (0, 0)))), some (.inl x1), some (.inl x2), some (.inr (.inl y3)), none, some (.inl q1)], [], D))) bX11_write_6 oX11_write_6 rfl trivial ?_
  refine mz_Go.ite (fun hc2 => ?_) (fun hc2 => ?_)
  · have h := mz_ifp hc2 h
    refine mz_Go.run (gs := [mz_kz 0 0 0]) (st' := (27, [some (.inr (.inr (some (0, 0)))), some (.inl x1), some (.inl x2), some (.inr (.inl y3)), none, some (.inl q1)], [.inr (.inl y3), .inl x2, .inl x1, .inr (.inr (some (0, 4)))], D)) bX11_write_20 oX11_write_20 rfl ⟨rfl, trivial⟩ ?_
    obtain ⟨q3, hq3, h⟩ := mz_bd_some h
    refine mz_Go.callV (I := IX11_write) (J := IX8_put) (as := [.inl x1, .inl x2, .inr (.inl y3)]) (ci := 8) (g := 0) (o := 4) (idx := 96) (pl := 662) (rest := []) (mX8_put x1 x2 y3 D q3 hq3) kX8_put vX8_put (by decide +kernel) (by decide +kernel) (by decide +kernel) rfl rfl ⟨rfl, rfl⟩ rfl rfl rfl rfl ?_
    refine mz_Go.run (gs := []) (st' := (31, [some (.inr (.inr (some (0, 0)))), some (.inl x1), some (.inl x2), some (.inr (.inl y3)), none, some (.inl q1)], [.inr (.inr (some (0, 0)))], q3)) bX11_write_30 oX11_write_30 rfl trivial ?_
    refine mz_Go.callV (I := IX11_write) (J := IX11_grant) (as := []) (ci := 11) (g := 0) (o := 0) (idx := 88) (pl := 642) (rest := []) (mX11_grant q3) kX11_grant vX11_grant (by decide +kernel) (by decide +kernel) (by decide +kernel) rfl rfl ⟨rfl, rfl⟩ rfl rfl rfl rfl ?_
    cases h
    exact mz_Go.retz (by decide +kernel) rfl ⟨Nat.le_refl _, Nat.le_refl _⟩ (by decide) rfl
  · have h := mz_ifn hc2 h
    refine mz_Go.run (gs := []) (st' := (16, [some (.inr (.inr (some (0, 0)))), some (.inl x1), some (.inl x2), some (.inr (.inl y3)), none, some (.inl q1)], [.inl q1, .inr (.inr (some (0, 0)))], D)) bX11_write_13 oX11_write_13 rfl trivial ?_
    refine mz_Go.callV (I := IX11_write) (J := IX11_deny) (as := [.inl q1]) (ci := 11) (g := 0) (o := 0) (idx := 81) (pl := 634) (rest := []) (mX11_deny q1 D) kX11_deny vX11_deny (by decide +kernel) (by decide +kernel) (by decide +kernel) rfl rfl ⟨rfl, rfl⟩ rfl rfl rfl rfl ?_
    cases h
    exact mz_Go.retz (by decide +kernel) rfl ⟨Nat.le_refl _, Nat.le_refl _⟩ (by decide) rfl
def bX11_refuse_0 : List mz_E := [(0, .aload_n 0, 0, 0, 0, 0, 0), (1, .iload_n 1, 0, 0, 0, 0, 0), (2, .putfield 71, 11, 13, 572, 0, 0), (5, .iconst (-1), 0, 0, 0, -1, 0)]
theorem oX11_refuse_0 : bX11_refuse_0.all (mz_ok RX11 cX11_refuse 2) = true := by decide +kernel
abbrev IX11_refuse : mz_I := (yX11_refuse, cX11_refuse, 2, (some .int), 0, 0, 0, 0)
theorem kX11_refuse : mz_okm IX11_refuse 676 126 675 1 = true := by decide +kernel
theorem vX11_refuse : mz_okV IX11_refuse 675 3 = true := by decide +kernel
theorem mX11_refuse (x1 : Int32) (D : mz_D) : mz_Met IX11_refuse [.inr (.inr (some (0, 0))), .inl x1] D (some (.inl (-1 : Int32)), (mz_wi D 0 0 13 x1)) := by
  refine mz_Met.of (by decide +kernel) (Nat.le_of_ble_eq_true rfl) ?_
  show mz_Go IX11_refuse (some (.inl (-1 : Int32)), (mz_wi D 0 0 13 x1)) 0 0 (0, [some (.inr (.inr (some (0, 0)))), some (.inl x1)], [], D)
  refine mz_Go.run (gs := [mz_kz 0 0 0]) (st' := (6, [some (.inr (.inr (some (0, 0)))), some (.inl x1)], [.inl (-1 : Int32)], (mz_wi D 0 0 13 x1))) bX11_refuse_0 oX11_refuse_0 rfl ⟨rfl, trivial⟩ ?_
  exact mz_Go.reti (by decide +kernel) rfl ⟨Nat.le_refl _, Nat.le_refl _⟩ rfl
def bX11_read_0 : List mz_E := [(0, .aload_n 0, 0, 0, 0, 0, 0), (1, .iload_n 1, 0, 0, 0, 0, 0), (2, .iload_n 2, 0, 0, 0, 0, 0)]
theorem oX11_read_0 : bX11_read_0.all (mz_ok RX11 cX11_read 4) = true := by decide +kernel
def bX11_read_6 : List mz_E := [(6, .istore_n 3, 0, 0, 0, 0, 0), (7, .iload_n 3, 0, 0, 0, 0, 0), (8, .ifCond .eq 10, 0, 18, 0, 0, 0)]
theorem oX11_read_6 : bX11_read_6.all (mz_ok RX11 cX11_read 4) = true := by decide +kernel
def bX11_read_18 : List mz_E := [(18, .aload_n 0, 0, 0, 0, 0, 0), (19, .iconst 0, 0, 0, 0, 0, 0), (20, .putfield 71, 11, 13, 572, 0, 0), (23, .aload_n 0, 0, 0, 0, 0, 0), (24, .getfield 25, 11, 3, 562, 0, 0), (27, .iload_n 1, 0, 0, 0, 0, 0), (28, .iload_n 2, 0, 0, 0, 0, 0)]
theorem oX11_read_18 : bX11_read_18.all (mz_ok RX11 cX11_read 4) = true := by decide +kernel
def bX11_read_11 : List mz_E := [(11, .aload_n 0, 0, 0, 0, 0, 0), (12, .iload_n 3, 0, 0, 0, 0, 0)]
theorem oX11_read_11 : bX11_read_11.all (mz_ok RX11 cX11_read 4) = true := by decide +kernel
def bX11_read_16 : List mz_E := [(16, .i2l, 0, 0, 0, 0, 0)]
theorem oX11_read_16 : bX11_read_16.all (mz_ok RX11 cX11_read 4) = true := by decide +kernel
abbrev IX11_read : mz_I := (yX11_read, cX11_read, 4, (some .long), 0, 2, 0, 0)
theorem kX11_read : mz_okm IX11_read 672 126 670 2 = true := by decide +kernel
theorem vX11_read : mz_okV IX11_read 670 671 = true := by decide +kernel
def fX11_read (x1 : Int32) (x2 : Int32) (D : mz_D) : Option (Int64 × mz_D) := (Option.bind (fX11_placeTrouble x1 x2 D) fun q1 => (if q1 = 0 then (Option.bind (fX8_get x1 x2 (mz_wi D 0 0 13 (0 : Int32))) fun q3 => (some (q3, (mz_wi D 0 0 13 (0 : Int32))))) else (some (((-1 : Int32)).toInt64, (mz_wi D 0 0 13 q1)))))
set_option maxHeartbeats 4000000 in
theorem mX11_read (x1 : Int32) (x2 : Int32) (D : mz_D) (r : (Int64 × mz_D)) (h : fX11_read x1 x2 D = some r) : mz_Met IX11_read [.inr (.inr (some (0, 0))), .inl x1, .inl x2] D (some (.inr (.inl r.1)), r.2) := by
  refine mz_Met.of (by decide +kernel) (Nat.le_of_ble_eq_true rfl) ?_
  show mz_Go IX11_read (some (.inr (.inl r.1)), r.2) 0 0 (0, [some (.inr (.inr (some (0, 0)))), some (.inl x1), some (.inl x2), none], [], D)
  rw [fX11_read] at h
  refine mz_Go.run (gs := []) (st' := (3, [some (.inr (.inr (some (0, 0)))), some (.inl x1), some (.inl x2), none], [.inl x2, .inl x1, .inr (.inr (some (0, 0)))], D)) bX11_read_0 oX11_read_0 rfl trivial ?_
  obtain ⟨q1, hq1, h⟩ := mz_bd_some h
  refine mz_Go.callV (I := IX11_read) (J := IX11_placeTrouble) (as := [.inl x1, .inl x2]) (ci := 11) (g := 0) (o := 0) (idx := 92) (pl := 650) (rest := []) (mX11_placeTrouble x1 x2 D q1 hq1) kX11_placeTrouble vX11_placeTrouble (by decide +kernel) (by decide +kernel) (by decide +kernel) rfl rfl ⟨rfl, rfl⟩ rfl rfl rfl rfl ?_
  refine mz_Go.run (gs := []) (st' := (if q1 = 0 then (18, [some (.inr (.inr (some (0, 0)))), some (.inl x1), some (.inl x2), some (.inl q1)], [], D) else (11, [some (.inr (.inr (some (0, 0)))), some (.inl x1), some (.inl x2), some (.inl q1)], [], D))) bX11_read_6 oX11_read_6 rfl trivial ?_
  refine mz_Go.ite (fun hc2 => ?_) (fun hc2 => ?_)
  · have h := mz_ifp hc2 h
    refine mz_Go.run (gs := [mz_kz 0 0 0, mz_kz 0 0 0]) (st' := (29, [some (.inr (.inr (some (0, 0)))), some (.inl x1), some (.inl x2), some (.inl q1)], [.inl x2, .inl x1, .inr (.inr (some (0, 4)))], (mz_wi D 0 0 13 (0 : Int32)))) bX11_read_18 oX11_read_18 rfl ⟨rfl, rfl, trivial⟩ ?_
    obtain ⟨q3, hq3, h⟩ := mz_bd_some h
    refine mz_Go.callV (I := IX11_read) (J := IX8_get) (as := [.inl x1, .inl x2]) (ci := 8) (g := 0) (o := 4) (idx := 104) (pl := 677) (rest := []) (mX8_get x1 x2 (mz_wi D 0 0 13 (0 : Int32)) q3 hq3) kX8_get vX8_get (by decide +kernel) (by decide +kernel) (by decide +kernel) rfl rfl ⟨rfl, rfl⟩ rfl rfl rfl rfl ?_
    cases h
    exact mz_Go.retl (by decide +kernel) rfl ⟨Nat.le_refl _, Nat.le_refl _⟩ rfl
  · have h := mz_ifn hc2 h
    refine mz_Go.run (gs := []) (st' := (13, [some (.inr (.inr (some (0, 0)))), some (.inl x1), some (.inl x2), some (.inl q1)], [.inl q1, .inr (.inr (some (0, 0)))], D)) bX11_read_11 oX11_read_11 rfl trivial ?_
    refine mz_Go.callV (I := IX11_read) (J := IX11_refuse) (as := [.inl q1]) (ci := 11) (g := 0) (o := 0) (idx := 100) (pl := 673) (rest := []) (mX11_refuse q1 D) kX11_refuse vX11_refuse (by decide +kernel) (by decide +kernel) (by decide +kernel) rfl rfl ⟨rfl, rfl⟩ rfl rfl rfl rfl ?_
    refine mz_Go.run (gs := []) (st' := (17, [some (.inr (.inr (some (0, 0)))), some (.inl x1), some (.inl x2), some (.inl q1)], [.inr (.inl ((-1 : Int32)).toInt64)], (mz_wi D 0 0 13 q1))) bX11_read_16 oX11_read_16 rfl trivial ?_
    cases h
    exact mz_Go.retl (by decide +kernel) rfl ⟨Nat.le_refl _, Nat.le_refl _⟩ rfl
def bX11_pour_0 : List mz_E := [(0, .aload_n 0, 0, 0, 0, 0, 0), (1, .getfield 25, 11, 3, 562, 0, 0), (4, .iload_n 1, 0, 0, 0, 0, 0)]
theorem oX11_pour_0 : bX11_pour_0.all (mz_ok RX11 cX11_pour 6) = true := by decide +kernel
def bX11_pour_8 : List mz_E := [(8, .ifCond .eq 28, 0, 36, 0, 0, 0)]
theorem oX11_pour_8 : bX11_pour_8.all (mz_ok RX11 cX11_pour 6) = true := by decide +kernel
def bX11_pour_36 : List mz_E := [(36, .aload_n 0, 0, 0, 0, 0, 0), (37, .iconst 1, 0, 0, 0, 1, 0)]
theorem oX11_pour_36 : bX11_pour_36.all (mz_ok RX11 cX11_pour 6) = true := by decide +kernel
def bX11_pour_11 : List mz_E := [(11, .aload_n 0, 0, 0, 0, 0, 0), (12, .getfield 25, 11, 3, 562, 0, 0), (15, .iload_n 3, 0, 0, 0, 0, 0)]
theorem oX11_pour_11 : bX11_pour_11.all (mz_ok RX11 cX11_pour 6) = true := by decide +kernel
def bX11_pour_19 : List mz_E := [(19, .ifCond .eq 17, 0, 36, 0, 0, 0)]
theorem oX11_pour_19 : bX11_pour_19.all (mz_ok RX11 cX11_pour 6) = true := by decide +kernel
def bX11_pour_22 : List mz_E := [(22, .iload_n 2, 0, 0, 0, 0, 0), (23, .ifCond .lt 13, 0, 36, 0, 0, 0)]
theorem oX11_pour_22 : bX11_pour_22.all (mz_ok RX11 cX11_pour 6) = true := by decide +kernel
def bX11_pour_26 : List mz_E := [(26, .iload 4, 0, 0, 0, 0, 0), (28, .ifCond .lt 8, 0, 36, 0, 0, 0)]
theorem oX11_pour_26 : bX11_pour_26.all (mz_ok RX11 cX11_pour 6) = true := by decide +kernel
def bX11_pour_31 : List mz_E := [(31, .iload 5, 0, 0, 0, 0, 0), (33, .ifCond .ge 9, 0, 42, 0, 0, 0)]
theorem oX11_pour_31 : bX11_pour_31.all (mz_ok RX11 cX11_pour 6) = true := by decide +kernel
def bX11_pour_42 : List mz_E := [(42, .aload_n 0, 0, 0, 0, 0, 0), (43, .getfield 25, 11, 3, 562, 0, 0), (46, .iload_n 1, 0, 0, 0, 0, 0)]
theorem oX11_pour_42 : bX11_pour_42.all (mz_ok RX11 cX11_pour 6) = true := by decide +kernel
def bX11_pour_50 : List mz_E := [(50, .ifCond .ne 14, 0, 64, 0, 0, 0)]
theorem oX11_pour_50 : bX11_pour_50.all (mz_ok RX11 cX11_pour 6) = true := by decide +kernel
def bX11_pour_53 : List mz_E := [(53, .aload_n 0, 0, 0, 0, 0, 0), (54, .getfield 25, 11, 3, 562, 0, 0), (57, .iload_n 3, 0, 0, 0, 0, 0)]
theorem oX11_pour_53 : bX11_pour_53.all (mz_ok RX11 cX11_pour 6) = true := by decide +kernel
def bX11_pour_61 : List mz_E := [(61, .ifCond .eq 9, 0, 70, 0, 0, 0)]
theorem oX11_pour_61 : bX11_pour_61.all (mz_ok RX11 cX11_pour 6) = true := by decide +kernel
def bX11_pour_70 : List mz_E := [(70, .aload_n 0, 0, 0, 0, 0, 0), (71, .getfield 25, 11, 3, 562, 0, 0), (74, .iload_n 1, 0, 0, 0, 0, 0)]
theorem oX11_pour_70 : bX11_pour_70.all (mz_ok RX11 cX11_pour 6) = true := by decide +kernel
def bX11_pour_78 : List mz_E := [(78, .aload_n 0, 0, 0, 0, 0, 0), (79, .getfield 25, 11, 3, 562, 0, 0), (82, .iload_n 3, 0, 0, 0, 0, 0)]
theorem oX11_pour_78 : bX11_pour_78.all (mz_ok RX11 cX11_pour 6) = true := by decide +kernel
def bX11_pour_86 : List mz_E := [(86, .if_icmp .eq 10, 0, 96, 0, 0, 0)]
theorem oX11_pour_86 : bX11_pour_86.all (mz_ok RX11 cX11_pour 6) = true := by decide +kernel
def bX11_pour_96 : List mz_E := [(96, .aload_n 0, 0, 0, 0, 0, 0), (97, .getfield 25, 11, 3, 562, 0, 0), (100, .iload_n 1, 0, 0, 0, 0, 0), (101, .iload_n 2, 0, 0, 0, 0, 0), (102, .iload 5, 0, 0, 0, 0, 0)]
theorem oX11_pour_96 : bX11_pour_96.all (mz_ok RX11 cX11_pour 6) = true := by decide +kernel
def bX11_pour_107 : List mz_E := [(107, .ifCond .eq 18, 0, 125, 0, 0, 0)]
theorem oX11_pour_107 : bX11_pour_107.all (mz_ok RX11 cX11_pour 6) = true := by decide +kernel
def bX11_pour_125 : List mz_E := [(125, .aload_n 0, 0, 0, 0, 0, 0), (126, .iconst 3, 0, 0, 0, 3, 0)]
theorem oX11_pour_125 : bX11_pour_125.all (mz_ok RX11 cX11_pour 6) = true := by decide +kernel
def bX11_pour_110 : List mz_E := [(110, .aload_n 0, 0, 0, 0, 0, 0), (111, .getfield 25, 11, 3, 562, 0, 0), (114, .iload_n 3, 0, 0, 0, 0, 0), (115, .iload 4, 0, 0, 0, 0, 0), (117, .iload 5, 0, 0, 0, 0, 0)]
theorem oX11_pour_110 : bX11_pour_110.all (mz_ok RX11 cX11_pour 6) = true := by decide +kernel
def bX11_pour_122 : List mz_E := [(122, .ifCond .ne 9, 0, 131, 0, 0, 0)]
theorem oX11_pour_122 : bX11_pour_122.all (mz_ok RX11 cX11_pour 6) = true := by decide +kernel
def bX11_pour_131 : List mz_E := [(131, .aload_n 0, 0, 0, 0, 0, 0), (132, .getfield 25, 11, 3, 562, 0, 0), (135, .iload_n 1, 0, 0, 0, 0, 0), (136, .iload_n 2, 0, 0, 0, 0, 0), (137, .iload_n 3, 0, 0, 0, 0, 0), (138, .iload 4, 0, 0, 0, 0, 0), (140, .iload 5, 0, 0, 0, 0, 0)]
theorem oX11_pour_131 : bX11_pour_131.all (mz_ok RX11 cX11_pour 6) = true := by decide +kernel
def bX11_pour_145 : List mz_E := [(145, .aload_n 0, 0, 0, 0, 0, 0)]
theorem oX11_pour_145 : bX11_pour_145.all (mz_ok RX11 cX11_pour 6) = true := by decide +kernel
def bX11_pour_89 : List mz_E := [(89, .aload_n 0, 0, 0, 0, 0, 0), (90, .bipush 8, 0, 0, 0, 8, 0)]
theorem oX11_pour_89 : bX11_pour_89.all (mz_ok RX11 cX11_pour 6) = true := by decide +kernel
def bX11_pour_64 : List mz_E := [(64, .aload_n 0, 0, 0, 0, 0, 0), (65, .iconst 2, 0, 0, 0, 2, 0)]
theorem oX11_pour_64 : bX11_pour_64.all (mz_ok RX11 cX11_pour 6) = true := by decide +kernel
abbrev IX11_pour : mz_I := (yX11_pour, cX11_pour, 6, (some .boolean), 0, 2, 0, 0)
theorem kX11_pour : mz_okm IX11_pour 684 126 682 5 = true := by decide +kernel
theorem vX11_pour : mz_okV IX11_pour 682 683 = true := by decide +kernel
def fX11_pour (x1 : Int32) (x2 : Int32) (x3 : Int32) (x4 : Int32) (x5 : Int32) (D : mz_D) : Option (Int32 × mz_D) := (if (fX8_has x1) = 0 then (some ((0 : Int32), (mz_wi D 0 0 13 (1 : Int32)))) else (if (fX8_has x3) = 0 then (some ((0 : Int32), (mz_wi D 0 0 13 (1 : Int32)))) else (if x2 < 0 then (some ((0 : Int32), (mz_wi D 0 0 13 (1 : Int32)))) else (if x4 < 0 then (some ((0 : Int32), (mz_wi D 0 0 13 (1 : Int32)))) else (if 0 ≤ x5 then (Option.bind (fX8_isMissing x1 D) fun q6 => (if q6 = 0 then (Option.bind (fX8_isMissing x3 D) fun q8 => (if q8 = 0 then (Option.bind (fX8_sortOf x1 D) fun q10 => (Option.bind (fX8_sortOf x3 D) fun q11 => (if q10 = q11 then (Option.bind (fX8_holds x1 x2 x5 D) fun q13 => (if q13 = 0 then (some ((0 : Int32), (mz_wi D 0 0 13 (3 : Int32)))) else (Option.bind (fX8_holds x3 x4 x5 D) fun q15 => (if q15 = 0 then (some ((0 : Int32), (mz_wi D 0 0 13 (3 : Int32)))) else (Option.bind (fX8_move x1 x2 x3 x4 x5 D) fun q17 => (some ((1 : Int32), (mz_wi q17 0 0 13 (0 : Int32))))))))) else (some ((0 : Int32), (mz_wi D 0 0 13 (8 : Int32))))))) else (some ((0 : Int32), (mz_wi D 0 0 13 (2 : Int32)))))) else (some ((0 : Int32), (mz_wi D 0 0 13 (2 : Int32)))))) else (some ((0 : Int32), (mz_wi D 0 0 13 (1 : Int32)))))))))
set_option maxHeartbeats 4000000 in
theorem mX11_pour (x1 : Int32) (x2 : Int32) (x3 : Int32) (x4 : Int32) (x5 : Int32) (D : mz_D) (r : (Int32 × mz_D)) (h : fX11_pour x1 x2 x3 x4 x5 D = some r) : mz_Met IX11_pour [.inr (.inr (some (0, 0))), .inl x1, .inl x2, .inl x3, .inl x4, .inl x5] D (some (.inl r.1), r.2) := by
  refine mz_Met.of (by decide +kernel) (Nat.le_of_ble_eq_true rfl) ?_
  show mz_Go IX11_pour (some (.inl r.1), r.2) 0 0 (0, [some (.inr (.inr (some (0, 0)))), some (.inl x1), some (.inl x2), some (.inl x3), some (.inl x4), some (.inl x5)], [], D)
  rw [fX11_pour] at h
  refine mz_Go.run (gs := [mz_kz 0 0 0]) (st' := (5, [some (.inr (.inr (some (0, 0)))), some (.inl x1), some (.inl x2), some (.inl x3), some (.inl x4), some (.inl x5)], [.inl x1, .inr (.inr (some (0, 4)))], D)) bX11_pour_0 oX11_pour_0 rfl ⟨rfl, trivial⟩ ?_
  refine mz_Go.callV (I := IX11_pour) (J := IX8_has) (as := [.inl x1]) (ci := 8) (g := 0) (o := 4) (idx := 77) (pl := 630) (rest := []) (mX8_has x1 D _ rfl) kX8_has vX8_has (by decide +kernel) (by decide +kernel) (by decide +kernel) rfl rfl ⟨rfl, rfl⟩ rfl rfl rfl rfl ?_
  refine mz_Go.run (gs := []) (st' := (if (fX8_has x1) = 0 then (36, [some (.inr (.inr (some (0, 0)))), some (.inl x1), some (.inl x2), some (.inl x3), some (.inl x4), some (.inl x5)], [], D) else (11, [some (.inr (.inr (some (0, 0)))), some (.inl x1), some (.inl x2), some (.inl x3), some (.inl x4), some (.inl x5)], [], D))) bX11_pour_8 oX11_pour_8 rfl trivial ?_
  refine mz_Go.ite (fun hc1 => ?_) (fun hc1 => ?_)
  · have h := mz_ifp hc1 h
    refine mz_Go.run (gs := []) (st' := (38, [some (.inr (.inr (some (0, 0)))), some (.inl x1), some (.inl x2), some (.inl x3), some (.inl x4), some (.inl x5)], [.inl (1 : Int32), .inr (.inr (some (0, 0)))], D)) bX11_pour_36 oX11_pour_36 rfl trivial ?_
    refine mz_Go.callV (I := IX11_pour) (J := IX11_deny) (as := [.inl (1 : Int32)]) (ci := 11) (g := 0) (o := 0) (idx := 81) (pl := 634) (rest := []) (mX11_deny (1 : Int32) D) kX11_deny vX11_deny (by decide +kernel) (by decide +kernel) (by decide +kernel) rfl rfl ⟨rfl, rfl⟩ rfl rfl rfl rfl ?_
    cases h
    exact mz_Go.retz (by decide +kernel) rfl ⟨Nat.le_refl _, Nat.le_refl _⟩ (by decide) rfl
  · have h := mz_ifn hc1 h
    refine mz_Go.run (gs := [mz_kz 0 0 0]) (st' := (16, [some (.inr (.inr (some (0, 0)))), some (.inl x1), some (.inl x2), some (.inl x3), some (.inl x4), some (.inl x5)], [.inl x3, .inr (.inr (some (0, 4)))], D)) bX11_pour_11 oX11_pour_11 rfl ⟨rfl, trivial⟩ ?_
    refine mz_Go.callV (I := IX11_pour) (J := IX8_has) (as := [.inl x3]) (ci := 8) (g := 0) (o := 4) (idx := 77) (pl := 630) (rest := []) (mX8_has x3 D _ rfl) kX8_has vX8_has (by decide +kernel) (by decide +kernel) (by decide +kernel) rfl rfl ⟨rfl, rfl⟩ rfl rfl rfl rfl ?_
    refine mz_Go.run (gs := []) (st' := (if (fX8_has x3) = 0 then (36, [some (.inr (.inr (some (0, 0)))), some (.inl x1), some (.inl x2), some (.inl x3), some (.inl x4), some (.inl x5)], [], D) else (22, [some (.inr (.inr (some (0, 0)))), some (.inl x1), some (.inl x2), some (.inl x3), some (.inl x4), some (.inl x5)], [], D))) bX11_pour_19 oX11_pour_19 rfl trivial ?_
    refine mz_Go.ite (fun hc2 => ?_) (fun hc2 => ?_)
    · have h := mz_ifp hc2 h
      refine mz_Go.run (gs := []) (st' := (38, [some (.inr (.inr (some (0, 0)))), some (.inl x1), some (.inl x2), some (.inl x3), some (.inl x4), some (.inl x5)], [.inl (1 : Int32), .inr (.inr (some (0, 0)))], D)) bX11_pour_36 oX11_pour_36 rfl trivial ?_
      refine mz_Go.callV (I := IX11_pour) (J := IX11_deny) (as := [.inl (1 : Int32)]) (ci := 11) (g := 0) (o := 0) (idx := 81) (pl := 634) (rest := []) (mX11_deny (1 : Int32) D) kX11_deny vX11_deny (by decide +kernel) (by decide +kernel) (by decide +kernel) rfl rfl ⟨rfl, rfl⟩ rfl rfl rfl rfl ?_
      cases h
      exact mz_Go.retz (by decide +kernel) rfl ⟨Nat.le_refl _, Nat.le_refl _⟩ (by decide) rfl
    · have h := mz_ifn hc2 h
      refine mz_Go.run (gs := []) (st' := (if x2 < 0 then (36, [some (.inr (.inr (some (0, 0)))), some (.inl x1), some (.inl x2), some (.inl x3), some (.inl x4), some (.inl x5)], [], D) else (26, [some (.inr (.inr (some (0, 0)))), some (.inl x1), some (.inl x2), some (.inl x3), some (.inl x4), some (.inl x5)], [], D))) bX11_pour_22 oX11_pour_22 rfl trivial ?_
      refine mz_Go.ite (fun hc3 => ?_) (fun hc3 => ?_)
      · have h := mz_ifp hc3 h
        refine mz_Go.run (gs := []) (st' := (38, [some (.inr (.inr (some (0, 0)))), some (.inl x1), some (.inl x2), some (.inl x3), some (.inl x4), some (.inl x5)], [.inl (1 : Int32), .inr (.inr (some (0, 0)))], D)) bX11_pour_36 oX11_pour_36 rfl trivial ?_
        refine mz_Go.callV (I := IX11_pour) (J := IX11_deny) (as := [.inl (1 : Int32)]) (ci := 11) (g := 0) (o := 0) (idx := 81) (pl := 634) (rest := []) (mX11_deny (1 : Int32) D) kX11_deny vX11_deny (by decide +kernel) (by decide +kernel) (by decide +kernel) rfl rfl ⟨rfl, rfl⟩ rfl rfl rfl rfl ?_
        cases h
        exact mz_Go.retz (by decide +kernel) rfl ⟨Nat.le_refl _, Nat.le_refl _⟩ (by decide) rfl
      · have h := mz_ifn hc3 h
        refine mz_Go.run (gs := []) (st' := (if x4 < 0 then (36, [some (.inr (.inr (some (0, 0)))), some (.inl x1), some (.inl x2), some (.inl x3), some (.inl x4), some (.inl x5)], [], D) else (31, [some (.inr (.inr (some (0, 0)))), some (.inl x1), some (.inl x2), some (.inl x3), some (.inl x4), some (.inl x5)], [], D))) bX11_pour_26 oX11_pour_26 rfl trivial ?_
        refine mz_Go.ite (fun hc4 => ?_) (fun hc4 => ?_)
        · have h := mz_ifp hc4 h
          refine mz_Go.run (gs := []) (st' := (38, [some (.inr (.inr (some (0, 0)))), some (.inl x1), some (.inl x2), some (.inl x3), some (.inl x4), some (.inl x5)], [.inl (1 : Int32), .inr (.inr (some (0, 0)))], D)) bX11_pour_36 oX11_pour_36 rfl trivial ?_
          refine mz_Go.callV (I := IX11_pour) (J := IX11_deny) (as := [.inl (1 : Int32)]) (ci := 11) (g := 0) (o := 0) (idx := 81) (pl := 634) (rest := []) (mX11_deny (1 : Int32) D) kX11_deny vX11_deny (by decide +kernel) (by decide +kernel) (by decide +kernel) rfl rfl ⟨rfl, rfl⟩ rfl rfl rfl rfl ?_
          cases h
          exact mz_Go.retz (by decide +kernel) rfl ⟨Nat.le_refl _, Nat.le_refl _⟩ (by decide) rfl
        · have h := mz_ifn hc4 h
          refine mz_Go.run (gs := []) (st' := (if 0 ≤ x5 then (42, [some (.inr (.inr (some (0, 0)))), some (.inl x1), some (.inl x2), some (.inl x3), some (.inl x4), some (.inl x5)], [], D) else (36, [some (.inr (.inr (some (0, 0)))), some (.inl x1), some (.inl x2), some (.inl x3), some (.inl x4), some (.inl x5)], [], D))) bX11_pour_31 oX11_pour_31 rfl trivial ?_
          refine mz_Go.ite (fun hc5 => ?_) (fun hc5 => ?_)
          · have h := mz_ifp hc5 h
            refine mz_Go.run (gs := [mz_kz 0 0 0]) (st' := (47, [some (.inr (.inr (some (0, 0)))), some (.inl x1), some (.inl x2), some (.inl x3), some (.inl x4), some (.inl x5)], [.inl x1, .inr (.inr (some (0, 4)))], D)) bX11_pour_42 oX11_pour_42 rfl ⟨rfl, trivial⟩ ?_
            obtain ⟨q6, hq6, h⟩ := mz_bd_some h
            refine mz_Go.callV (I := IX11_pour) (J := IX8_isMissing) (as := [.inl x1]) (ci := 8) (g := 0) (o := 4) (idx := 108) (pl := 654) (rest := []) (mX8_isMissing x1 D q6 hq6) kX8_isMissing vX8_isMissing (by decide +kernel) (by decide +kernel) (by decide +kernel) rfl rfl ⟨rfl, rfl⟩ rfl rfl rfl rfl ?_
            refine mz_Go.run (gs := []) (st' := (if q6 = 0 then (53, [some (.inr (.inr (some (0, 0)))), some (.inl x1), some (.inl x2), some (.inl x3), some (.inl x4), some (.inl x5)], [], D) else (64, [some (.inr (.inr (some (0, 0)))), some (.inl x1), some (.inl x2), some (.inl x3), some (.inl x4), some (.inl x5)], [], D))) bX11_pour_50 oX11_pour_50 rfl trivial ?_
            refine mz_Go.ite (fun hc7 => ?_) (fun hc7 => ?_)
            · have h := mz_ifp hc7 h
              refine mz_Go.run (gs := [mz_kz 0 0 0]) (st' := (58, [some (.inr (.inr (some (0, 0)))), some (.inl x1), some (.inl x2), some (.inl x3), some (.inl x4), some (.inl x5)], [.inl x3, .inr (.inr (some (0, 4)))], D)) bX11_pour_53 oX11_pour_53 rfl ⟨rfl, trivial⟩ ?_
              obtain ⟨q8, hq8, h⟩ := mz_bd_some h
              refine mz_Go.callV (I := IX11_pour) (J := IX8_isMissing) (as := [.inl x3]) (ci := 8) (g := 0) (o := 4) (idx := 108) (pl := 654) (rest := []) (mX8_isMissing x3 D q8 hq8) kX8_isMissing vX8_isMissing (by decide +kernel) (by decide +kernel) (by decide +kernel) rfl rfl ⟨rfl, rfl⟩ rfl rfl rfl rfl ?_
              refine mz_Go.run (gs := []) (st' := (if q8 = 0 then (70, [some (.inr (.inr (some (0, 0)))), some (.inl x1), some (.inl x2), some (.inl x3), some (.inl x4), some (.inl x5)], [], D) else (64, [some (.inr (.inr (some (0, 0)))), some (.inl x1), some (.inl x2), some (.inl x3), some (.inl x4), some (.inl x5)], [], D))) bX11_pour_61 oX11_pour_61 rfl trivial ?_
              refine mz_Go.ite (fun hc9 => ?_) (fun hc9 => ?_)
              · have h := mz_ifp hc9 h
                refine mz_Go.run (gs := [mz_kz 0 0 0]) (st' := (75, [some (.inr (.inr (some (0, 0)))), some (.inl x1), some (.inl x2), some (.inl x3), some (.inl x4), some (.inl x5)], [.inl x1, .inr (.inr (some (0, 4)))], D)) bX11_pour_70 oX11_pour_70 rfl ⟨rfl, trivial⟩ ?_
                obtain ⟨q10, hq10, h⟩ := mz_bd_some h
                refine mz_Go.callV (I := IX11_pour) (J := IX8_sortOf) (as := [.inl x1]) (ci := 8) (g := 0) (o := 4) (idx := 111) (pl := 685) (rest := []) (mX8_sortOf x1 D q10 hq10) kX8_sortOf vX8_sortOf (by decide +kernel) (by decide +kernel) (by decide +kernel) rfl rfl ⟨rfl, rfl⟩ rfl rfl rfl rfl ?_
                refine mz_Go.run (gs := [mz_kz 0 0 0]) (st' := (83, [some (.inr (.inr (some (0, 0)))), some (.inl x1), some (.inl x2), some (.inl x3), some (.inl x4), some (.inl x5)], [.inl x3, .inr (.inr (some (0, 4))), .inl q10], D)) bX11_pour_78 oX11_pour_78 rfl ⟨rfl, trivial⟩ ?_
                obtain ⟨q11, hq11, h⟩ := mz_bd_some h
                refine mz_Go.callV (I := IX11_pour) (J := IX8_sortOf) (as := [.inl x3]) (ci := 8) (g := 0) (o := 4) (idx := 111) (pl := 685) (rest := [.inl q10]) (mX8_sortOf x3 D q11 hq11) kX8_sortOf vX8_sortOf (by decide +kernel) (by decide +kernel) (by decide +kernel) rfl rfl ⟨rfl, rfl⟩ rfl rfl rfl rfl ?_
                refine mz_Go.run (gs := []) (st' := (if q10 = q11 then (96, [some (.inr (.inr (some (0, 0)))), some (.inl x1), some (.inl x2), some (.inl x3), some (.inl x4), some (.inl x5)], [], D) else (89, [some (.inr (.inr (some (0, 0)))), some (.inl x1), some (.inl x2), some (.inl x3), some (.inl x4), some (.inl x5)], [], D))) bX11_pour_86 oX11_pour_86 rfl trivial ?_
                refine mz_Go.ite (fun hc12 => ?_) (fun hc12 => ?_)
                · have h := mz_ifp hc12 h
                  refine mz_Go.run (gs := [mz_kz 0 0 0]) (st' := (104, [some (.inr (.inr (some (0, 0)))), some (.inl x1), some (.inl x2), some (.inl x3), some (.inl x4), some (.inl x5)], [.inl x5, .inl x2, .inl x1, .inr (.inr (some (0, 4)))], D)) bX11_pour_96 oX11_pour_96 rfl ⟨rfl, trivial⟩ ?_
                  obtain ⟨q13, hq13, h⟩ := mz_bd_some h
                  refine mz_Go.callV (I := IX11_pour) (J := IX8_holds) (as := [.inl x1, .inl x2, .inl x5]) (ci := 8) (g := 0) (o := 4) (idx := 114) (pl := 658) (rest := []) (mX8_holds x1 x2 x5 D q13 hq13) kX8_holds vX8_holds (by decide +kernel) (by decide +kernel) (by decide +kernel) rfl rfl ⟨rfl, rfl⟩ rfl rfl rfl rfl ?_
                  refine mz_Go.run (gs := []) (st' := (if q13 = 0 then (125, [some (.inr (.inr (some (0, 0)))), some (.inl x1), some (.inl x2), some (.inl x3), some (.inl x4), some (.inl x5)], [], D) else (110, [some (.inr (.inr (some (0, 0)))), some (.inl x1), some (.inl x2), some (.inl x3), some (.inl x4), some (.inl x5)], [], D))) bX11_pour_107 oX11_pour_107 rfl trivial ?_
                  refine mz_Go.ite (fun hc14 => ?_) (fun hc14 => ?_)
                  · have h := mz_ifp hc14 h
                    refine mz_Go.run (gs := []) (st' := (127, [some (.inr (.inr (some (0, 0)))), some (.inl x1), some (.inl x2), some (.inl x3), some (.inl x4), some (.inl x5)], [.inl (3 : Int32), .inr (.inr (some (0, 0)))], D)) bX11_pour_125 oX11_pour_125 rfl trivial ?_
                    refine mz_Go.callV (I := IX11_pour) (J := IX11_deny) (as := [.inl (3 : Int32)]) (ci := 11) (g := 0) (o := 0) (idx := 81) (pl := 634) (rest := []) (mX11_deny (3 : Int32) D) kX11_deny vX11_deny (by decide +kernel) (by decide +kernel) (by decide +kernel) rfl rfl ⟨rfl, rfl⟩ rfl rfl rfl rfl ?_
                    cases h
                    exact mz_Go.retz (by decide +kernel) rfl ⟨Nat.le_refl _, Nat.le_refl _⟩ (by decide) rfl
                  · have h := mz_ifn hc14 h
                    refine mz_Go.run (gs := [mz_kz 0 0 0]) (st' := (119, [some (.inr (.inr (some (0, 0)))), some (.inl x1), some (.inl x2), some (.inl x3), some (.inl x4), some (.inl x5)], [.inl x5, .inl x4, .inl x3, .inr (.inr (some (0, 4)))], D)) bX11_pour_110 oX11_pour_110 rfl ⟨rfl, trivial⟩ ?_
                    obtain ⟨q15, hq15, h⟩ := mz_bd_some h
                    refine mz_Go.callV (I := IX11_pour) (J := IX8_holds) (as := [.inl x3, .inl x4, .inl x5]) (ci := 8) (g := 0) (o := 4) (idx := 114) (pl := 658) (rest := []) (mX8_holds x3 x4 x5 D q15 hq15) kX8_holds vX8_holds (by decide +kernel) (by decide +kernel) (by decide +kernel) rfl rfl ⟨rfl, rfl⟩ rfl rfl rfl rfl ?_
                    refine mz_Go.run (gs := []) (st' := (if q15 = 0 then (125, [some (.inr (.inr (some (0, 0)))), some (.inl x1), some (.inl x2), some (.inl x3), some (.inl x4), some (.inl x5)], [], D) else (131, [some (.inr (.inr (some (0, 0)))), some (.inl x1), some (.inl x2), some (.inl x3), some (.inl x4), some (.inl x5)], [], D))) bX11_pour_122 oX11_pour_122 rfl trivial ?_
                    refine mz_Go.ite (fun hc16 => ?_) (fun hc16 => ?_)
                    · have h := mz_ifp hc16 h
                      refine mz_Go.run (gs := []) (st' := (127, [some (.inr (.inr (some (0, 0)))), some (.inl x1), some (.inl x2), some (.inl x3), some (.inl x4), some (.inl x5)], [.inl (3 : Int32), .inr (.inr (some (0, 0)))], D)) bX11_pour_125 oX11_pour_125 rfl trivial ?_
                      refine mz_Go.callV (I := IX11_pour) (J := IX11_deny) (as := [.inl (3 : Int32)]) (ci := 11) (g := 0) (o := 0) (idx := 81) (pl := 634) (rest := []) (mX11_deny (3 : Int32) D) kX11_deny vX11_deny (by decide +kernel) (by decide +kernel) (by decide +kernel) rfl rfl ⟨rfl, rfl⟩ rfl rfl rfl rfl ?_
                      cases h
                      exact mz_Go.retz (by decide +kernel) rfl ⟨Nat.le_refl _, Nat.le_refl _⟩ (by decide) rfl
                    · have h := mz_ifn hc16 h
                      refine mz_Go.run (gs := [mz_kz 0 0 0]) (st' := (142, [some (.inr (.inr (some (0, 0)))), some (.inl x1), some (.inl x2), some (.inl x3), some (.inl x4), some (.inl x5)], [.inl x5, .inl x4, .inl x3, .inl x2, .inl x1, .inr (.inr (some (0, 4)))], D)) bX11_pour_131 oX11_pour_131 rfl ⟨rfl, trivial⟩ ?_
                      obtain ⟨q17, hq17, h⟩ := mz_bd_some h
                      refine mz_Go.callV (I := IX11_pour) (J := IX8_move) (as := [.inl x1, .inl x2, .inl x3, .inl x4, .inl x5]) (ci := 8) (g := 0) (o := 4) (idx := 118) (pl := 689) (rest := []) (mX8_move x1 x2 x3 x4 x5 D q17 hq17) kX8_move vX8_move (by decide +kernel) (by decide +kernel) (by decide +kernel) rfl rfl ⟨rfl, rfl⟩ rfl rfl rfl rfl ?_
                      refine mz_Go.run (gs := []) (st' := (146, [some (.inr (.inr (some (0, 0)))), some (.inl x1), some (.inl x2), some (.inl x3), some (.inl x4), some (.inl x5)], [.inr (.inr (some (0, 0)))], q17)) bX11_pour_145 oX11_pour_145 rfl trivial ?_
                      refine mz_Go.callV (I := IX11_pour) (J := IX11_grant) (as := []) (ci := 11) (g := 0) (o := 0) (idx := 88) (pl := 642) (rest := []) (mX11_grant q17) kX11_grant vX11_grant (by decide +kernel) (by decide +kernel) (by decide +kernel) rfl rfl ⟨rfl, rfl⟩ rfl rfl rfl rfl ?_
                      cases h
                      exact mz_Go.retz (by decide +kernel) rfl ⟨Nat.le_refl _, Nat.le_refl _⟩ (by decide) rfl
                · have h := mz_ifn hc12 h
                  refine mz_Go.run (gs := []) (st' := (92, [some (.inr (.inr (some (0, 0)))), some (.inl x1), some (.inl x2), some (.inl x3), some (.inl x4), some (.inl x5)], [.inl (8 : Int32), .inr (.inr (some (0, 0)))], D)) bX11_pour_89 oX11_pour_89 rfl trivial ?_
                  refine mz_Go.callV (I := IX11_pour) (J := IX11_deny) (as := [.inl (8 : Int32)]) (ci := 11) (g := 0) (o := 0) (idx := 81) (pl := 634) (rest := []) (mX11_deny (8 : Int32) D) kX11_deny vX11_deny (by decide +kernel) (by decide +kernel) (by decide +kernel) rfl rfl ⟨rfl, rfl⟩ rfl rfl rfl rfl ?_
                  cases h
                  exact mz_Go.retz (by decide +kernel) rfl ⟨Nat.le_refl _, Nat.le_refl _⟩ (by decide) rfl
              · have h := mz_ifn hc9 h
                refine mz_Go.run (gs := []) (st' := (66, [some (.inr (.inr (some (0, 0)))), some (.inl x1), some (.inl x2), some (.inl x3), some (.inl x4), some (.inl x5)], [.inl (2 : Int32), .inr (.inr (some (0, 0)))], D)) bX11_pour_64 oX11_pour_64 rfl trivial ?_
                refine mz_Go.callV (I := IX11_pour) (J := IX11_deny) (as := [.inl (2 : Int32)]) (ci := 11) (g := 0) (o := 0) (idx := 81) (pl := 634) (rest := []) (mX11_deny (2 : Int32) D) kX11_deny vX11_deny (by decide +kernel) (by decide +kernel) (by decide +kernel) rfl rfl ⟨rfl, rfl⟩ rfl rfl rfl rfl ?_
                cases h
                exact mz_Go.retz (by decide +kernel) rfl ⟨Nat.le_refl _, Nat.le_refl _⟩ (by decide) rfl
            · have h := mz_ifn hc7 h
              refine mz_Go.run (gs := []) (st' := (66, [some (.inr (.inr (some (0, 0)))), some (.inl x1), some (.inl x2), some (.inl x3), some (.inl x4), some (.inl x5)], [.inl (2 : Int32), .inr (.inr (some (0, 0)))], D)) bX11_pour_64 oX11_pour_64 rfl trivial ?_
              refine mz_Go.callV (I := IX11_pour) (J := IX11_deny) (as := [.inl (2 : Int32)]) (ci := 11) (g := 0) (o := 0) (idx := 81) (pl := 634) (rest := []) (mX11_deny (2 : Int32) D) kX11_deny vX11_deny (by decide +kernel) (by decide +kernel) (by decide +kernel) rfl rfl ⟨rfl, rfl⟩ rfl rfl rfl rfl ?_
              cases h
              exact mz_Go.retz (by decide +kernel) rfl ⟨Nat.le_refl _, Nat.le_refl _⟩ (by decide) rfl
          · have h := mz_ifn hc5 h
            refine mz_Go.run (gs := []) (st' := (38, [some (.inr (.inr (some (0, 0)))), some (.inl x1), some (.inl x2), some (.inl x3), some (.inl x4), some (.inl x5)], [.inl (1 : Int32), .inr (.inr (some (0, 0)))], D)) bX11_pour_36 oX11_pour_36 rfl trivial ?_
            refine mz_Go.callV (I := IX11_pour) (J := IX11_deny) (as := [.inl (1 : Int32)]) (ci := 11) (g := 0) (o := 0) (idx := 81) (pl := 634) (rest := []) (mX11_deny (1 : Int32) D) kX11_deny vX11_deny (by decide +kernel) (by decide +kernel) (by decide +kernel) rfl rfl ⟨rfl, rfl⟩ rfl rfl rfl rfl ?_
            cases h
            exact mz_Go.retz (by decide +kernel) rfl ⟨Nat.le_refl _, Nat.le_refl _⟩ (by decide) rfl
def bX11_tapeInt_0 : List mz_E := [(0, .bipush 24, 0, 0, 0, 24, 0), (2, .istore_n 2, 0, 0, 0, 0, 0)]
theorem oX11_tapeInt_0 : bX11_tapeInt_0.all (mz_ok RX11 cX11_tapeInt 3) = true := by decide +kernel
def bX11_tapeInt_3 : List mz_E := [(3, .iload_n 2, 0, 0, 0, 0, 0), (4, .ifCond .lt 42, 0, 46, 0, 0, 0)]
theorem oX11_tapeInt_3 : bX11_tapeInt_3.all (mz_ok RX11 cX11_tapeInt 3) = true := by decide +kernel
def bX11_tapeInt_7 : List mz_E := [(7, .aload_n 0, 0, 0, 0, 0, 0), (8, .getfield 122, 11, 1, 560, 0, 0), (11, .sipush 900, 0, 0, 0, 900, 0), (14, .if_icmp .ge 32, 0, 46, 0, 0, 0)]
theorem oX11_tapeInt_7 : bX11_tapeInt_7.all (mz_ok RX11 cX11_tapeInt 3) = true := by decide +kernel
def bX11_tapeInt_17 : List mz_E := [(17, .aload_n 0, 0, 0, 0, 0, 0), (18, .getfield 9, 11, 0, 559, 0, 0), (21, .aload_n 0, 0, 0, 0, 0, 0), (22, .getfield 122, 11, 1, 560, 0, 0), (25, .iload_n 1, 0, 0, 0, 0, 0), (26, .iload_n 2, 0, 0, 0, 0, 0), (27, .ishr, 0, 0, 0, 0, 0), (28, .i2b, 0, 0, 0, 0, 0), (29, .bastore, 0, 0, 0, 0, 0), (30, .aload_n 0, 0, 0, 0, 0, 0), (31, .dup, 0, 0, 0, 0, 0), (32, .getfield 122, 11, 1, 560, 0, 0), (35, .iconst 1, 0, 0, 0, 1, 0), (36, .iadd, 0, 0, 0, 0, 0), (37, .putfield 122, 11, 1, 560, 0, 0), (40, .iinc 2 (-8), 0, 0, 0, -8, 0), (43, .goto (-40), 0, 3, 0, 0, 0)]
theorem oX11_tapeInt_17 : bX11_tapeInt_17.all (mz_ok RX11 cX11_tapeInt 3) = true := by decide +kernel
abbrev IX11_tapeInt : mz_I := (yX11_tapeInt, cX11_tapeInt, 3, none, 0, 0, 0, 0)
theorem kX11_tapeInt : mz_okm IX11_tapeInt 703 126 702 1 = true := by decide +kernel
theorem vX11_tapeInt : mz_okV IX11_tapeInt 702 4 = true := by decide +kernel
def fX11_tapeInt_3 : Nat → Int32 → Int32 → mz_D → Option mz_D
  | 0 => fun _ _ _ => none
  | n + 1 => fun x1 x2 D => (if x2 < 0 then (some D) else (if (900 : Int32) ≤ (D.1 0 0 1) then (some D) else (mz_gd (mz_ix (D.1 0 0 1) 900) ((fX11_tapeInt_3 n) x1 (x2 + (-8 : Int32)) (mz_wi (mz_wi D 0 1 ((D.1 0 0 1)).toNatClampNeg (((x1 >>> (x2 &&& 31))).toInt8.toInt32).toInt8.toInt32) 0 0 1 ((D.1 0 0 1) + (1 : Int32)))))))
set_option maxHeartbeats 4000000 in
theorem tX11_tapeInt_3 (r : mz_D) : ∀ (n : Nat) (x1 : Int32) (x2 : Int32) (D : mz_D), fX11_tapeInt_3 n x1 x2 D = some r → mz_Go IX11_tapeInt (none, r) 0 0 (3, [some (.inr (.inr (some (0, 0)))), some (.inl x1), some (.inl x2)], [], D) := by
  intro n
  induction n with
  | zero => intro x1 x2 D h; have h : (none : Option mz_D) = some r := h; cases h
  | succ n ih =>
    intro x1 x2 D h
    rw [fX11_tapeInt_3] at h
    refine mz_Go.run (gs := []) (st' := (if x2 < 0 then (46, [some (.inr (.inr (some (0, 0)))), some (.inl x1), some (.inl x2)], [], D) else (7, [some (.inr (.inr (some (0, 0)))), some (.inl x1), some (.inl x2)], [], D))) bX11_tapeInt_3 oX11_tapeInt_3 rfl trivial ?_
    refine mz_Go.ite (fun hc1 => ?_) (fun hc1 => ?_)
    · have h := mz_ifp hc1 h
      cases h
      exact mz_Go.retv (by decide +kernel) rfl ⟨Nat.le_refl _, Nat.le_refl _⟩ rfl
    · have h := mz_ifn hc1 h
      refine mz_Go.run (gs := [mz_kz 0 0 0]) (st' := (if (900 : Int32) ≤ (D.1 0 0 1) then (46, [some (.inr (.inr (some (0, 0)))), some (.inl x1), some (.inl x2)], [], D) else (17, [some (.inr (.inr (some (0, 0)))), some (.inl x1), some (.inl x2)], [], D))) bX11_tapeInt_7 oX11_tapeInt_7 rfl ⟨rfl, trivial⟩ ?_
      refine mz_Go.ite (fun hc2 => ?_) (fun hc2 => ?_)
      · have h := mz_ifp hc2 h
        cases h
        exact mz_Go.retv (by decide +kernel) rfl ⟨Nat.le_refl _, Nat.le_refl _⟩ rfl
      · have h := mz_ifn hc2 h
        obtain ⟨hb3, h⟩ := mz_gd_some h
        refine mz_Go.run (gs := [mz_kz 0 0 0, mz_kz 0 0 0, mz_kz 0 0 1, mz_ix (D.1 0 0 1) 900, mz_kz 0 0 0, mz_kz 0 0 0]) (st' := (3, [some (.inr (.inr (some (0, 0)))), some (.inl x1), some (.inl (x2 + (-8 : Int32)))], [], (mz_wi (mz_wi D 0 1 ((D.1 0 0 1)).toNatClampNeg (((x1 >>> (x2 &&& 31))).toInt8.toInt32).toInt8.toInt32) 0 0 1 ((D.1 0 0 1) + (1 : Int32))))) bX11_tapeInt_17 oX11_tapeInt_17 rfl ⟨rfl, rfl, rfl, hb3, rfl, rfl, trivial⟩ ?_
        exact mz_Go.drop [true, true, true] (ih x1 (x2 + (-8 : Int32)) (mz_wi (mz_wi D 0 1 ((D.1 0 0 1)).toNatClampNeg (((x1 >>> (x2 &&& 31))).toInt8.toInt32).toInt8.toInt32) 0 0 1 ((D.1 0 0 1) + (1 : Int32))) h)
def fX11_tapeInt (x1 : Int32) (D : mz_D) : Option mz_D := (fX11_tapeInt_3 mz_N x1 (24 : Int32) D)
set_option maxHeartbeats 4000000 in
theorem mX11_tapeInt (x1 : Int32) (D : mz_D) (r : mz_D) (h : fX11_tapeInt x1 D = some r) : mz_Met IX11_tapeInt [.inr (.inr (some (0, 0))), .inl x1] D (none, r) := by
  refine mz_Met.of (by decide +kernel) (Nat.le_of_ble_eq_true rfl) ?_
  show mz_Go IX11_tapeInt (none, r) 0 0 (0, [some (.inr (.inr (some (0, 0)))), some (.inl x1), none], [], D)
  rw [fX11_tapeInt] at h
  refine mz_Go.run (gs := []) (st' := (3, [some (.inr (.inr (some (0, 0)))), some (.inl x1), some (.inl (24 : Int32))], [], D)) bX11_tapeInt_0 oX11_tapeInt_0 rfl trivial ?_
  exact mz_Go.drop [true, true, true] (tX11_tapeInt_3 r mz_N x1 (24 : Int32) D h)
def bX11_feed_0 : List mz_E := [(0, .aload_n 0, 0, 0, 0, 0, 0), (1, .getfield 122, 11, 1, 560, 0, 0), (4, .bipush 20, 0, 0, 0, 20, 0), (6, .iadd, 0, 0, 0, 0, 0), (7, .sipush 900, 0, 0, 0, 900, 0), (10, .if_icmp .le 5, 0, 15, 0, 0, 0)]
theorem oX11_feed_0 : bX11_feed_0.all (mz_ok RX11 cX11_feed 6) = true := by decide +kernel
def bX11_feed_15 : List mz_E := [(15, .aload_n 0, 0, 0, 0, 0, 0), (16, .iload_n 1, 0, 0, 0, 0, 0)]
theorem oX11_feed_15 : bX11_feed_15.all (mz_ok RX11 cX11_feed 6) = true := by decide +kernel
def bX11_feed_20 : List mz_E := [(20, .aload_n 0, 0, 0, 0, 0, 0), (21, .iload_n 2, 0, 0, 0, 0, 0)]
theorem oX11_feed_20 : bX11_feed_20.all (mz_ok RX11 cX11_feed 6) = true := by decide +kernel
def bX11_feed_25 : List mz_E := [(25, .aload_n 0, 0, 0, 0, 0, 0), (26, .iload_n 3, 0, 0, 0, 0, 0)]
theorem oX11_feed_25 : bX11_feed_25.all (mz_ok RX11 cX11_feed 6) = true := by decide +kernel
def bX11_feed_30 : List mz_E := [(30, .aload_n 0, 0, 0, 0, 0, 0), (31, .iload 4, 0, 0, 0, 0, 0)]
theorem oX11_feed_30 : bX11_feed_30.all (mz_ok RX11 cX11_feed 6) = true := by decide +kernel
def bX11_feed_36 : List mz_E := [(36, .aload_n 0, 0, 0, 0, 0, 0), (37, .iload 5, 0, 0, 0, 0, 0)]
theorem oX11_feed_36 : bX11_feed_36.all (mz_ok RX11 cX11_feed 6) = true := by decide +kernel
def bX11_feed_42 : List mz_E := [(42, .aload_n 0, 0, 0, 0, 0, 0), (43, .getfield 122, 11, 1, 560, 0, 0)]
theorem oX11_feed_42 : bX11_feed_42.all (mz_ok RX11 cX11_feed 6) = true := by decide +kernel
def bX11_feed_13 : List mz_E := [(13, .iconst (-1), 0, 0, 0, -1, 0)]
theorem oX11_feed_13 : bX11_feed_13.all (mz_ok RX11 cX11_feed 6) = true := by decide +kernel
abbrev IX11_feed : mz_I := (yX11_feed, cX11_feed, 6, (some .int), 0, 1, 0, 0)
theorem kX11_feed : mz_okm IX11_feed 699 126 697 5 = true := by decide +kernel
theorem vX11_feed : mz_okV IX11_feed 697 698 = true := by decide +kernel
def fX11_feed (x1 : Int32) (x2 : Int32) (x3 : Int32) (x4 : Int32) (x5 : Int32) (D : mz_D) : Option (Int32 × mz_D) := (if ((D.1 0 0 1) + (20 : Int32)) ≤ (900 : Int32) then (Option.bind (fX11_tapeInt x1 D) fun q2 => (Option.bind (fX11_tapeInt x2 q2) fun q3 => (Option.bind (fX11_tapeInt x3 q3) fun q4 => (Option.bind (fX11_tapeInt x4 q4) fun q5 => (Option.bind (fX11_tapeInt x5 q5) fun q6 => (some ((q6.1 0 0 1), q6))))))) else (some ((-1 : Int32), D)))
set_option maxHeartbeats 4000000 in
theorem mX11_feed (x1 : Int32) (x2 : Int32) (x3 : Int32) (x4 : Int32) (x5 : Int32) (D : mz_D) (r : (Int32 × mz_D)) (h : fX11_feed x1 x2 x3 x4 x5 D = some r) : mz_Met IX11_feed [.inr (.inr (some (0, 0))), .inl x1, .inl x2, .inl x3, .inl x4, .inl x5] D (some (.inl r.1), r.2) := by
  refine mz_Met.of (by decide +kernel) (Nat.le_of_ble_eq_true rfl) ?_
  show mz_Go IX11_feed (some (.inl r.1), r.2) 0 0 (0, [some (.inr (.inr (some (0, 0)))), some (.inl x1), some (.inl x2), some (.inl x3), some (.inl x4), some (.inl x5)], [], D)
  rw [fX11_feed] at h
  refine mz_Go.run (gs := [mz_kz 0 0 0]) (st' := (if ((D.1 0 0 1) + (20 : Int32)) ≤ (900 : Int32) then (15, [some (.inr (.inr (some (0, 0)))), some (.inl x1), some (.inl x2), some (.inl x3), some (.inl x4), some (.inl x5)], [], D) else (13, [some (.inr (.inr (some (0, 0)))), some (.inl x1), some (.inl x2), some (.inl x3), some (.inl x4), some (.inl x5)], [], D))) bX11_feed_0 oX11_feed_0 rfl ⟨rfl, trivial⟩ ?_
  refine mz_Go.ite (fun hc1 => ?_) (fun hc1 => ?_)
  · have h := mz_ifp hc1 h
    refine mz_Go.run (gs := []) (st' := (17, [some (.inr (.inr (some (0, 0)))), some (.inl x1), some (.inl x2), some (.inl x3), some (.inl x4), some (.inl x5)], [.inl x1, .inr (.inr (some (0, 0)))], D)) bX11_feed_15 oX11_feed_15 rfl trivial ?_
    obtain ⟨q2, hq2, h⟩ := mz_bd_some h
    refine mz_Go.callV (I := IX11_feed) (J := IX11_tapeInt) (as := [.inl x1]) (ci := 11) (g := 0) (o := 0) (idx := 125) (pl := 700) (rest := []) (mX11_tapeInt x1 D q2 hq2) kX11_tapeInt vX11_tapeInt (by decide +kernel) (by decide +kernel) (by decide +kernel) rfl rfl ⟨rfl, rfl⟩ rfl rfl rfl rfl ?_
    refine mz_Go.run (gs := []) (st' := (22, [some (.inr (.inr (some (0, 0)))), some (.inl x1), some (.inl x2), some (.inl x3), some (.inl x4), some (.inl x5)], [.inl x2, .inr (.inr (some (0, 0)))], q2)) bX11_feed_20 oX11_feed_20 rfl trivial ?_
    obtain ⟨q3, hq3, h⟩ := mz_bd_some h
    refine mz_Go.callV (I := IX11_feed) (J := IX11_tapeInt) (as := [.inl x2]) (ci := 11) (g := 0) (o := 0) (idx := 125) (pl := 700) (rest := []) (mX11_tapeInt x2 q2 q3 hq3) kX11_tapeInt vX11_tapeInt (by decide +kernel) (by decide +kernel) (by decide +kernel) rfl rfl ⟨rfl, rfl⟩ rfl rfl rfl rfl ?_
    refine mz_Go.run (gs := []) (st' := (27, [some (.inr (.inr (some (0, 0)))), some (.inl x1), some (.inl x2), some (.inl x3), some (.inl x4), some (.inl x5)], [.inl x3, .inr (.inr (some (0, 0)))], q3)) bX11_feed_25 oX11_feed_25 rfl trivial ?_
    obtain ⟨q4, hq4, h⟩ := mz_bd_some h
    refine mz_Go.callV (I := IX11_feed) (J := IX11_tapeInt) (as := [.inl x3]) (ci := 11) (g := 0) (o := 0) (idx := 125) (pl := 700) (rest := []) (mX11_tapeInt x3 q3 q4 hq4) kX11_tapeInt vX11_tapeInt (by decide +kernel) (by decide +kernel) (by decide +kernel) rfl rfl ⟨rfl, rfl⟩ rfl rfl rfl rfl ?_
    refine mz_Go.run (gs := []) (st' := (33, [some (.inr (.inr (some (0, 0)))), some (.inl x1), some (.inl x2), some (.inl x3), some (.inl x4), some (.inl x5)], [.inl x4, .inr (.inr (some (0, 0)))], q4)) bX11_feed_30 oX11_feed_30 rfl trivial ?_
    obtain ⟨q5, hq5, h⟩ := mz_bd_some h
    refine mz_Go.callV (I := IX11_feed) (J := IX11_tapeInt) (as := [.inl x4]) (ci := 11) (g := 0) (o := 0) (idx := 125) (pl := 700) (rest := []) (mX11_tapeInt x4 q4 q5 hq5) kX11_tapeInt vX11_tapeInt (by decide +kernel) (by decide +kernel) (by decide +kernel) rfl rfl ⟨rfl, rfl⟩ rfl rfl rfl rfl ?_
    refine mz_Go.run (gs := []) (st' := (39, [some (.inr (.inr (some (0, 0)))), some (.inl x1), some (.inl x2), some (.inl x3), some (.inl x4), some (.inl x5)], [.inl x5, .inr (.inr (some (0, 0)))], q5)) bX11_feed_36 oX11_feed_36 rfl trivial ?_
    obtain ⟨q6, hq6, h⟩ := mz_bd_some h
    refine mz_Go.callV (I := IX11_feed) (J := IX11_tapeInt) (as := [.inl x5]) (ci := 11) (g := 0) (o := 0) (idx := 125) (pl := 700) (rest := []) (mX11_tapeInt x5 q5 q6 hq6) kX11_tapeInt vX11_tapeInt (by decide +kernel) (by decide +kernel) (by decide +kernel) rfl rfl ⟨rfl, rfl⟩ rfl rfl rfl rfl ?_
    refine mz_Go.run (gs := [mz_kz 0 0 0]) (st' := (46, [some (.inr (.inr (some (0, 0)))), some (.inl x1), some (.inl x2), some (.inl x3), some (.inl x4), some (.inl x5)], [.inl (q6.1 0 0 1)], q6)) bX11_feed_42 oX11_feed_42 rfl ⟨rfl, trivial⟩ ?_
    cases h
    exact mz_Go.reti (by decide +kernel) rfl ⟨Nat.le_refl _, Nat.le_refl _⟩ rfl
  · have h := mz_ifn hc1 h
    refine mz_Go.run (gs := []) (st' := (14, [some (.inr (.inr (some (0, 0)))), some (.inl x1), some (.inl x2), some (.inl x3), some (.inl x4), some (.inl x5)], [.inl (-1 : Int32)], D)) bX11_feed_13 oX11_feed_13 rfl trivial ?_
    cases h
    exact mz_Go.reti (by decide +kernel) rfl ⟨Nat.le_refl _, Nat.le_refl _⟩ rfl
def bX11_fault_0 : List mz_E := [(0, .iload_n 1, 0, 0, 0, 0, 0), (1, .ifCond .ne 8, 0, 9, 0, 0, 0)]
theorem oX11_fault_0 : bX11_fault_0.all (mz_ok RX11 cX11_fault 2) = true := by decide +kernel
def bX11_fault_4 : List mz_E := [(4, .aload_n 0, 0, 0, 0, 0, 0), (5, .getfield 64, 11, 16, 575, 0, 0)]
theorem oX11_fault_4 : bX11_fault_4.all (mz_ok RX11 cX11_fault 2) = true := by decide +kernel
def bX11_fault_9 : List mz_E := [(9, .iload_n 1, 0, 0, 0, 0, 0), (10, .iconst 1, 0, 0, 0, 1, 0), (11, .if_icmp .ne 10, 0, 21, 0, 0, 0)]
theorem oX11_fault_9 : bX11_fault_9.all (mz_ok RX11 cX11_fault 2) = true := by decide +kernel
def bX11_fault_14 : List mz_E := [(14, .aload_n 0, 0, 0, 0, 0, 0), (15, .getfield 68, 11, 17, 576, 0, 0), (18, .goto 4, 0, 22, 0, 0, 0)]
theorem oX11_fault_14 : bX11_fault_14.all (mz_ok RX11 cX11_fault 2) = true := by decide +kernel
def bX11_fault_21 : List mz_E := [(21, .iconst (-1), 0, 0, 0, -1, 0)]
theorem oX11_fault_21 : bX11_fault_21.all (mz_ok RX11 cX11_fault 2) = true := by decide +kernel
abbrev IX11_fault : mz_I := (yX11_fault, cX11_fault, 2, (some .int), 0, 0, 0, 0)
theorem kX11_fault : mz_okm IX11_fault 1014 126 1012 1 = true := by decide +kernel
theorem vX11_fault : mz_okV IX11_fault 1012 1013 = true := by decide +kernel
def fX11_fault (x1 : Int32) (D : mz_D) : Int32 := (if x1 = 0 then (D.1 0 0 16) else (if x1 = (1 : Int32) then (D.1 0 0 17) else (-1 : Int32)))
set_option maxHeartbeats 4000000 in
theorem mX11_fault (x1 : Int32) (D : mz_D) (r : Int32) (h : fX11_fault x1 D = r) : mz_Met IX11_fault [.inr (.inr (some (0, 0))), .inl x1] D (some (.inl r), D) := by
  refine mz_Met.of (by decide +kernel) (Nat.le_of_ble_eq_true rfl) ?_
  show mz_Go IX11_fault (some (.inl r), D) 0 0 (0, [some (.inr (.inr (some (0, 0)))), some (.inl x1)], [], D)
  rw [fX11_fault] at h
  refine mz_Go.run (gs := []) (st' := (if x1 = 0 then (4, [some (.inr (.inr (some (0, 0)))), some (.inl x1)], [], D) else (9, [some (.inr (.inr (some (0, 0)))), some (.inl x1)], [], D))) bX11_fault_0 oX11_fault_0 rfl trivial ?_
  refine mz_Go.ite (fun hc1 => ?_) (fun hc1 => ?_)
  · have h := mz_ifp hc1 h
    refine mz_Go.run (gs := [mz_kz 0 0 0]) (st' := (8, [some (.inr (.inr (some (0, 0)))), some (.inl x1)], [.inl (D.1 0 0 16)], D)) bX11_fault_4 oX11_fault_4 rfl ⟨rfl, trivial⟩ ?_
    subst h
    exact mz_Go.reti (by decide +kernel) rfl ⟨Nat.le_refl _, Nat.le_refl _⟩ rfl
  · have h := mz_ifn hc1 h
    refine mz_Go.run (gs := []) (st' := (if x1 = (1 : Int32) then (14, [some (.inr (.inr (some (0, 0)))), some (.inl x1)], [], D) else (21, [some (.inr (.inr (some (0, 0)))), some (.inl x1)], [], D))) bX11_fault_9 oX11_fault_9 rfl trivial ?_
    refine mz_Go.ite (fun hc2 => ?_) (fun hc2 => ?_)
    · have h := mz_ifp hc2 h
      refine mz_Go.run (gs := [mz_kz 0 0 0]) (st' := (22, [some (.inr (.inr (some (0, 0)))), some (.inl x1)], [.inl (D.1 0 0 17)], D)) bX11_fault_14 oX11_fault_14 rfl ⟨rfl, trivial⟩ ?_
      subst h
      exact mz_Go.reti (by decide +kernel) rfl ⟨Nat.le_refl _, Nat.le_refl _⟩ rfl
    · have h := mz_ifn hc2 h
      refine mz_Go.run (gs := []) (st' := (22, [some (.inr (.inr (some (0, 0)))), some (.inl x1)], [.inl (-1 : Int32)], D)) bX11_fault_21 oX11_fault_21 rfl trivial ?_
      subst h
      exact mz_Go.reti (by decide +kernel) rfl ⟨Nat.le_refl _, Nat.le_refl _⟩ rfl
def bX11_answer_0 : List mz_E := [(0, .aload_n 0, 0, 0, 0, 0, 0), (1, .iconst 0, 0, 0, 0, 0, 0), (2, .putfield 71, 11, 13, 572, 0, 0), (5, .iload_n 1, 0, 0, 0, 0, 0)]
theorem oX11_answer_0 : bX11_answer_0.all (mz_ok RX11 cX11_answer 2) = true := by decide +kernel
abbrev IX11_answer : mz_I := (yX11_answer, cX11_answer, 2, (some .int), 0, 0, 0, 0)
theorem kX11_answer : mz_okm IX11_answer 917 126 916 1 = true := by decide +kernel
theorem vX11_answer : mz_okV IX11_answer 916 15 = true := by decide +kernel
theorem mX11_answer (x1 : Int32) (D : mz_D) : mz_Met IX11_answer [.inr (.inr (some (0, 0))), .inl x1] D (some (.inl x1), (mz_wi D 0 0 13 (0 : Int32))) := by
  refine mz_Met.of (by decide +kernel) (Nat.le_of_ble_eq_true rfl) ?_
  show mz_Go IX11_answer (some (.inl x1), (mz_wi D 0 0 13 (0 : Int32))) 0 0 (0, [some (.inr (.inr (some (0, 0)))), some (.inl x1)], [], D)
  refine mz_Go.run (gs := [mz_kz 0 0 0]) (st' := (6, [some (.inr (.inr (some (0, 0)))), some (.inl x1)], [.inl x1], (mz_wi D 0 0 13 (0 : Int32)))) bX11_answer_0 oX11_answer_0 rfl ⟨rfl, trivial⟩ ?_
  exact mz_Go.reti (by decide +kernel) rfl ⟨Nat.le_refl _, Nat.le_refl _⟩ rfl
def bX11_told_0 : List mz_E := [(0, .aload_n 0, 0, 0, 0, 0, 0), (1, .getfield 32, 11, 4, 563, 0, 0), (4, .getfield 151, 6, 0, 477, 0, 0), (7, .astore_n 2, 0, 0, 0, 0, 0), (8, .iload_n 1, 0, 0, 0, 0, 0)]
theorem oX11_told_0 : bX11_told_0.all (mz_ok RX11 cX11_told 3) = true := by decide +kernel
def bX11_told_72 : List mz_E := [(72, .aload_n 0, 0, 0, 0, 0, 0), (73, .aload_n 2, 0, 0, 0, 0, 0), (74, .getfield 155, 4, 0, 290, 0, 0)]
theorem oX11_told_72 : bX11_told_72.all (mz_ok RX11 cX11_told 3) = true := by decide +kernel
def bX11_told_81 : List mz_E := [(81, .aload_n 0, 0, 0, 0, 0, 0), (82, .aload_n 2, 0, 0, 0, 0, 0), (83, .getfield 180, 4, 1, 294, 0, 0)]
theorem oX11_told_81 : bX11_told_81.all (mz_ok RX11 cX11_told 3) = true := by decide +kernel
def bX11_told_90 : List mz_E := [(90, .aload_n 0, 0, 0, 0, 0, 0), (91, .aload_n 0, 0, 0, 0, 0, 0), (92, .getfield 32, 11, 4, 563, 0, 0), (95, .getfield 183, 6, 1, 481, 0, 0), (98, .getfield 187, 1, 0, 352, 0, 0)]
theorem oX11_told_90 : bX11_told_90.all (mz_ok RX11 cX11_told 3) = true := by decide +kernel
def bX11_told_105 : List mz_E := [(105, .aload_n 0, 0, 0, 0, 0, 0), (106, .aload_n 0, 0, 0, 0, 0, 0), (107, .getfield 32, 11, 4, 563, 0, 0), (110, .getfield 183, 6, 1, 481, 0, 0), (113, .getfield 190, 1, 1, 356, 0, 0)]
theorem oX11_told_105 : bX11_told_105.all (mz_ok RX11 cX11_told 3) = true := by decide +kernel
def bX11_told_120 : List mz_E := [(120, .aload_n 0, 0, 0, 0, 0, 0), (121, .aload_n 0, 0, 0, 0, 0, 0), (122, .getfield 32, 11, 4, 563, 0, 0), (125, .getfield 193, 6, 5, 495, 0, 0)]
theorem oX11_told_120 : bX11_told_120.all (mz_ok RX11 cX11_told 3) = true := by decide +kernel
def bX11_told_132 : List mz_E := [(132, .aload_n 0, 0, 0, 0, 0, 0), (133, .aload_n 0, 0, 0, 0, 0, 0), (134, .getfield 32, 11, 4, 563, 0, 0), (137, .getfield 183, 6, 1, 481, 0, 0)]
theorem oX11_told_132 : bX11_told_132.all (mz_ok RX11 cX11_told 3) = true := by decide +kernel
def bX11_told_147 : List mz_E := [(147, .aload_n 0, 0, 0, 0, 0, 0), (148, .aload_n 2, 0, 0, 0, 0, 0)]
theorem oX11_told_147 : bX11_told_147.all (mz_ok RX11 cX11_told 3) = true := by decide +kernel
def bX11_told_159 : List mz_E := [(159, .aload_n 0, 0, 0, 0, 0, 0), (160, .aload_n 2, 0, 0, 0, 0, 0)]
theorem oX11_told_159 : bX11_told_159.all (mz_ok RX11 cX11_told 3) = true := by decide +kernel
def bX11_told_168 : List mz_E := [(168, .aload_n 0, 0, 0, 0, 0, 0), (169, .aload_n 0, 0, 0, 0, 0, 0), (170, .getfield 32, 11, 4, 563, 0, 0), (173, .getfield 211, 6, 3, 489, 0, 0), (176, .getfield 215, 0, 1, 411, 0, 0)]
theorem oX11_told_168 : bX11_told_168.all (mz_ok RX11 cX11_told 3) = true := by decide +kernel
def bX11_told_183 : List mz_E := [(183, .aload_n 0, 0, 0, 0, 0, 0), (184, .aload_n 0, 0, 0, 0, 0, 0), (185, .getfield 32, 11, 4, 563, 0, 0), (188, .getfield 220, 6, 6, 498, 0, 0)]
theorem oX11_told_183 : bX11_told_183.all (mz_ok RX11 cX11_told 3) = true := by decide +kernel
def bX11_told_195 : List mz_E := [(195, .aload_n 0, 0, 0, 0, 0, 0), (196, .aload_n 2, 0, 0, 0, 0, 0), (197, .getfield 223, 4, 2, 297, 0, 0)]
theorem oX11_told_195 : bX11_told_195.all (mz_ok RX11 cX11_told 3) = true := by decide +kernel
def bX11_told_204 : List mz_E := [(204, .aload_n 0, 0, 0, 0, 0, 0), (205, .aload_n 0, 0, 0, 0, 0, 0), (206, .getfield 32, 11, 4, 563, 0, 0), (209, .getfield 211, 6, 3, 489, 0, 0), (212, .getfield 226, 0, 0, 409, 0, 0)]
theorem oX11_told_204 : bX11_told_204.all (mz_ok RX11 cX11_told 3) = true := by decide +kernel
def bX11_told_219 : List mz_E := [(219, .aload_n 0, 0, 0, 0, 0, 0), (220, .iconst 1, 0, 0, 0, 1, 0)]
theorem oX11_told_219 : bX11_told_219.all (mz_ok RX11 cX11_told 3) = true := by decide +kernel
abbrev IX11_told : mz_I := (yX11_told, cX11_told, 3, (some .int), 0, 2, 0, 0)
theorem kX11_told : mz_okm IX11_told 1018 126 1016 1 = true := by decide +kernel
theorem vX11_told : mz_okV IX11_told 1016 1017 = true := by decide +kernel
def fX11_told (x1 : Int32) (D : mz_D) : Option (Int32 × mz_D) := (if x1 = (0 : Int32) then (some ((D.1 1 101 0), (mz_wi D 0 0 13 (0 : Int32)))) else (if x1 = (1 : Int32) then (some ((D.1 1 101 1), (mz_wi D 0 0 13 (0 : Int32)))) else (if x1 = (2 : Int32) then (some ((D.1 1 109 0), (mz_wi D 0 0 13 (0 : Int32)))) else (if x1 = (3 : Int32) then (some ((D.1 1 109 1), (mz_wi D 0 0 13 (0 : Int32)))) else (if x1 = (4 : Int32) then (some ((D.1 1 100 5), (mz_wi D 0 0 13 (0 : Int32)))) else (if x1 = (5 : Int32) then (Option.bind (fX1_total 1 D) fun q7 => (some (q7, (mz_wi D 0 0 13 (0 : Int32))))) else (if x1 = (6 : Int32) then (some ((fJ6_bitCount_0f7a4 (fX4_heads 1 D)), (mz_wi D 0 0 13 (0 : Int32)))) else (if x1 = (7 : Int32) then (Option.bind (fX4_paidByAll 1 D) fun q10 => (some (q10, (mz_wi D 0 0 13 (0 : Int32))))) else (if x1 = (8 : Int32) then (some ((D.1 1 117 1), (mz_wi D 0 0 13 (0 : Int32)))) else (if x1 = (9 : Int32) then (some ((D.1 1 100 6), (mz_wi D 0 0 13 (0 : Int32)))) else (if x1 = (10 : Int32) then (some ((D.1 1 101 2), (mz_wi D 0 0 13 (0 : Int32)))) else (if x1 = (11 : Int32) then (some ((D.1 1 117 0), (mz_wi D 0 0 13 (0 : Int32)))) else (some ((-1 : Int32), (mz_wi D 0 0 13 (1 : Int32))))))))))))))))
set_option maxHeartbeats 4000000 in
theorem mX11_told (x1 : Int32) (D : mz_D) (r : (Int32 × mz_D)) (h : fX11_told x1 D = some r) : mz_Met IX11_told [.inr (.inr (some (0, 0))), .inl x1] D (some (.inl r.1), r.2) := by
  refine mz_Met.of (by decide +kernel) (Nat.le_of_ble_eq_true rfl) ?_
  show mz_Go IX11_told (some (.inl r.1), r.2) 0 0 (0, [some (.inr (.inr (some (0, 0)))), some (.inl x1), none], [], D)
  rw [fX11_told] at h
  refine mz_Go.run (gs := [mz_kz 0 0 0, mz_kz 0 1 100]) (st' := (9, [some (.inr (.inr (some (0, 0)))), some (.inl x1), some (.inr (.inr (some (1, 101))))], [.inl x1], D)) bX11_told_0 oX11_told_0 rfl ⟨rfl, rfl, trivial⟩ ?_
  refine mz_Go.tsw [(0, 72), (1, 81), (2, 90), (3, 105), (4, 120), (5, 132), (6, 147), (7, 159), (8, 168), (9, 183), (10, 195), (11, 204)] 219 (show decode cX11_told 9 = .ok (.tableswitch 210 0 11 #[63, 72, 81, 96, 111, 123, 138, 150, 159, 174, 186, 195], 63) by decide +kernel) (by decide +kernel) ?_
  refine mz_Go.swc (fun hc1 => ?_) (fun hc1 => ?_)
  · have h := mz_ifp hc1 h
    refine mz_Go.run (gs := [mz_kz 0 1 101]) (st' := (77, [some (.inr (.inr (some (0, 0)))), some (.inl x1), some (.inr (.inr (some (1, 101))))], [.inl (D.1 1 101 0), .inr (.inr (some (0, 0)))], D)) bX11_told_72 oX11_told_72 rfl ⟨rfl, trivial⟩ ?_
    refine mz_Go.callV (I := IX11_told) (J := IX11_answer) (as := [.inl (D.1 1 101 0)]) (ci := 11) (g := 0) (o := 0) (idx := 160) (pl := 914) (rest := []) (mX11_answer (D.1 1 101 0) D) kX11_answer vX11_answer (by decide +kernel) (by decide +kernel) (by decide +kernel) rfl rfl ⟨rfl, rfl⟩ rfl rfl rfl rfl ?_
    cases h
    exact mz_Go.reti (by decide +kernel) rfl ⟨Nat.le_refl _, Nat.le_refl _⟩ rfl
  · have h := mz_ifn hc1 h
    refine mz_Go.swc (fun hc2 => ?_) (fun hc2 => ?_)
    · have h := mz_ifp hc2 h
      refine mz_Go.run (gs := [mz_kz 0 1 101]) (st' := (86, [some (.inr (.inr (some (0, 0)))), some (.inl x1), some (.inr (.inr (some (1, 101))))], [.inl (D.1 1 101 1), .inr (.inr (some (0, 0)))], D)) bX11_told_81 oX11_told_81 rfl ⟨rfl, trivial⟩ ?_
      refine mz_Go.callV (I := IX11_told) (J := IX11_answer) (as := [.inl (D.1 1 101 1)]) (ci := 11) (g := 0) (o := 0) (idx := 160) (pl := 914) (rest := []) (mX11_answer (D.1 1 101 1) D) kX11_answer vX11_answer (by decide +kernel) (by decide +kernel) (by decide +kernel) rfl rfl ⟨rfl, rfl⟩ rfl rfl rfl rfl ?_
      cases h
      exact mz_Go.reti (by decide +kernel) rfl ⟨Nat.le_refl _, Nat.le_refl _⟩ rfl
    · have h := mz_ifn hc2 h
      refine mz_Go.swc (fun hc3 => ?_) (fun hc3 => ?_)
      · have h := mz_ifp hc3 h
        refine mz_Go.run (gs := [mz_kz 0 0 0, mz_kz 0 1 100, mz_kz 0 1 109]) (st' := (101, [some (.inr (.inr (some (0, 0)))), some (.inl x1), some (.inr (.inr (some (1, 101))))], [.inl (D.1 1 109 0), .inr (.inr (some (0, 0)))], D)) bX11_told_90 oX11_told_90 rfl ⟨rfl, rfl, rfl, trivial⟩ ?_
        refine mz_Go.callV (I := IX11_told) (J := IX11_answer) (as := [.inl (D.1 1 109 0)]) (ci := 11) (g := 0) (o := 0) (idx := 160) (pl := 914) (rest := []) (mX11_answer (D.1 1 109 0) D) kX11_answer vX11_answer (by decide +kernel) (by decide +kernel) (by decide +kernel) rfl rfl ⟨rfl, rfl⟩ rfl rfl rfl rfl ?_
        cases h
        exact mz_Go.reti (by decide +kernel) rfl ⟨Nat.le_refl _, Nat.le_refl _⟩ rfl
      · have h := mz_ifn hc3 h
        refine mz_Go.swc (fun hc4 => ?_) (fun hc4 => ?_)
        · have h := mz_ifp hc4 h
          refine mz_Go.run (gs := [mz_kz 0 0 0, mz_kz 0 1 100, mz_kz 0 1 109]) (st' := (116, [some (.inr (.inr (some (0, 0)))), some (.inl x1), some (.inr (.inr (some (1, 101))))], [.inl (D.1 1 109 1), .inr (.inr (some (0, 0)))], D)) bX11_told_105 oX11_told_105 rfl ⟨rfl, rfl, rfl, trivial⟩ ?_
          refine mz_Go.callV (I := IX11_told) (J := IX11_answer) (as := [.inl (D.1 1 109 1)]) (ci := 11) (g := 0) (o := 0) (idx := 160) (pl := 914) (rest := []) (mX11_answer (D.1 1 109 1) D) kX11_answer vX11_answer (by decide +kernel) (by decide +kernel) (by decide +kernel) rfl rfl ⟨rfl, rfl⟩ rfl rfl rfl rfl ?_
          cases h
          exact mz_Go.reti (by decide +kernel) rfl ⟨Nat.le_refl _, Nat.le_refl _⟩ rfl
        · have h := mz_ifn hc4 h
          refine mz_Go.swc (fun hc5 => ?_) (fun hc5 => ?_)
          · have h := mz_ifp hc5 h
            refine mz_Go.run (gs := [mz_kz 0 0 0, mz_kz 0 1 100]) (st' := (128, [some (.inr (.inr (some (0, 0)))), some (.inl x1), some (.inr (.inr (some (1, 101))))], [.inl (D.1 1 100 5), .inr (.inr (some (0, 0)))], D)) bX11_told_120 oX11_told_120 rfl ⟨rfl, rfl, trivial⟩ ?_
            refine mz_Go.callV (I := IX11_told) (J := IX11_answer) (as := [.inl (D.1 1 100 5)]) (ci := 11) (g := 0) (o := 0) (idx := 160) (pl := 914) (rest := []) (mX11_answer (D.1 1 100 5) D) kX11_answer vX11_answer (by decide +kernel) (by decide +kernel) (by decide +kernel) rfl rfl ⟨rfl, rfl⟩ rfl rfl rfl rfl ?_
            cases h
            exact mz_Go.reti (by decide +kernel) rfl ⟨Nat.le_refl _, Nat.le_refl _⟩ rfl
          · have h := mz_ifn hc5 h
            refine mz_Go.swc (fun hc6 => ?_) (fun hc6 => ?_)
            · have h := mz_ifp hc6 h
              refine mz_Go.run (gs := [mz_kz 0 0 0, mz_kz 0 1 100]) (st' := (140, [some (.inr (.inr (some (0, 0)))), some (.inl x1), some (.inr (.inr (some (1, 101))))], [.inr (.inr (some (1, 109))), .inr (.inr (some (0, 0)))], D)) bX11_told_132 oX11_told_132 rfl ⟨rfl, rfl, trivial⟩ ?_
              obtain ⟨q7, hq7, h⟩ := mz_bd_some h
              refine mz_Go.callV (I := IX11_told) (J := IX1_total) (as := []) (ci := 1) (g := 1) (o := 109) (idx := 196) (pl := 1019) (rest := [.inr (.inr (some (0, 0)))]) (mX1_total 1 D rfl q7 hq7) kX1_total vX1_total (by decide +kernel) (by decide +kernel) (by decide +kernel) rfl rfl ⟨rfl, rfl⟩ rfl rfl rfl rfl ?_
              refine mz_Go.callV (I := IX11_told) (J := IX11_answer) (as := [.inl q7]) (ci := 11) (g := 0) (o := 0) (idx := 160) (pl := 914) (rest := []) (mX11_answer q7 D) kX11_answer vX11_answer (by decide +kernel) (by decide +kernel) (by decide +kernel) rfl rfl ⟨rfl, rfl⟩ rfl rfl rfl rfl ?_
              cases h
              exact mz_Go.reti (by decide +kernel) rfl ⟨Nat.le_refl _, Nat.le_refl _⟩ rfl
            · have h := mz_ifn hc6 h
              refine mz_Go.swc (fun hc8 => ?_) (fun hc8 => ?_)
              · have h := mz_ifp hc8 h
                refine mz_Go.run (gs := []) (st' := (149, [some (.inr (.inr (some (0, 0)))), some (.inl x1), some (.inr (.inr (some (1, 101))))], [.inr (.inr (some (1, 101))), .inr (.inr (some (0, 0)))], D)) bX11_told_147 oX11_told_147 rfl trivial ?_
                refine mz_Go.callV (I := IX11_told) (J := IX4_heads) (as := []) (ci := 4) (g := 1) (o := 101) (idx := 200) (pl := 1023) (rest := [.inr (.inr (some (0, 0)))]) (mX4_heads 1 D rfl _ rfl) kX4_heads vX4_heads (by decide +kernel) (by decide +kernel) (by decide +kernel) rfl rfl ⟨rfl, rfl⟩ rfl rfl rfl rfl ?_
                refine mz_Go.callS (I := IX11_told) (J := IJ6_bitCount_0f7a4) (as := [.inl (fX4_heads 1 D)]) (idx := 203) (pl := 1028) (rest := [.inr (.inr (some (0, 0)))]) (mJ6_bitCount_0f7a4 (fX4_heads 1 D) D _ rfl) kJ6_bitCount_0f7a4 vJ6_bitCount_0f7a4 (by decide +kernel) (by decide +kernel) (by decide +kernel) rfl rfl ⟨rfl, rfl⟩ rfl ?_
                refine mz_Go.callV (I := IX11_told) (J := IX11_answer) (as := [.inl (fJ6_bitCount_0f7a4 (fX4_heads 1 D))]) (ci := 11) (g := 0) (o := 0) (idx := 160) (pl := 914) (rest := []) (mX11_answer (fJ6_bitCount_0f7a4 (fX4_heads 1 D)) D) kX11_answer vX11_answer (by decide +kernel) (by decide +kernel) (by decide +kernel) rfl rfl ⟨rfl, rfl⟩ rfl rfl rfl rfl ?_
                cases h
                exact mz_Go.reti (by decide +kernel) rfl ⟨Nat.le_refl _, Nat.le_refl _⟩ rfl
              · have h := mz_ifn hc8 h
                refine mz_Go.swc (fun hc9 => ?_) (fun hc9 => ?_)
                · have h := mz_ifp hc9 h
                  refine mz_Go.run (gs := []) (st' := (161, [some (.inr (.inr (some (0, 0)))), some (.inl x1), some (.inr (.inr (some (1, 101))))], [.inr (.inr (some (1, 101))), .inr (.inr (some (0, 0)))], D)) bX11_told_159 oX11_told_159 rfl trivial ?_
                  obtain ⟨q10, hq10, h⟩ := mz_bd_some h
                  refine mz_Go.callV (I := IX11_told) (J := IX4_paidByAll) (as := []) (ci := 4) (g := 1) (o := 101) (idx := 208) (pl := 1034) (rest := [.inr (.inr (some (0, 0)))]) (mX4_paidByAll 1 D rfl q10 hq10) kX4_paidByAll vX4_paidByAll (by decide +kernel) (by decide +kernel) (by decide +kernel) rfl rfl ⟨rfl, rfl⟩ rfl rfl rfl rfl ?_
                  refine mz_Go.callV (I := IX11_told) (J := IX11_answer) (as := [.inl q10]) (ci := 11) (g := 0) (o := 0) (idx := 160) (pl := 914) (rest := []) (mX11_answer q10 D) kX11_answer vX11_answer (by decide +kernel) (by decide +kernel) (by decide +kernel) rfl rfl ⟨rfl, rfl⟩ rfl rfl rfl rfl ?_
                  cases h
                  exact mz_Go.reti (by decide +kernel) rfl ⟨Nat.le_refl _, Nat.le_refl _⟩ rfl
                · have h := mz_ifn hc9 h
                  refine mz_Go.swc (fun hc11 => ?_) (fun hc11 => ?_)
                  · have h := mz_ifp hc11 h
                    refine mz_Go.run (gs := [mz_kz 0 0 0, mz_kz 0 1 100, mz_kz 0 1 117]) (st' := (179, [some (.inr (.inr (some (0, 0)))), some (.inl x1), some (.inr (.inr (some (1, 101))))], [.inl (D.1 1 117 1), .inr (.inr (some (0, 0)))], D)) bX11_told_168 oX11_told_168 rfl ⟨rfl, rfl, rfl, trivial⟩ ?_
                    refine mz_Go.callV (I := IX11_told) (J := IX11_answer) (as := [.inl (D.1 1 117 1)]) (ci := 11) (g := 0) (o := 0) (idx := 160) (pl := 914) (rest := []) (mX11_answer (D.1 1 117 1) D) kX11_answer vX11_answer (by decide +kernel) (by decide +kernel) (by decide +kernel) rfl rfl ⟨rfl, rfl⟩ rfl rfl rfl rfl ?_
                    cases h
                    exact mz_Go.reti (by decide +kernel) rfl ⟨Nat.le_refl _, Nat.le_refl _⟩ rfl
                  · have h := mz_ifn hc11 h
                    refine mz_Go.swc (fun hc12 => ?_) (fun hc12 => ?_)
                    · have h := mz_ifp hc12 h
                      refine mz_Go.run (gs := [mz_kz 0 0 0, mz_kz 0 1 100]) (st' := (191, [some (.inr (.inr (some (0, 0)))), some (.inl x1), some (.inr (.inr (some (1, 101))))], [.inl (D.1 1 100 6), .inr (.inr (some (0, 0)))], D)) bX11_told_183 oX11_told_183 rfl ⟨rfl, rfl, trivial⟩ ?_
                      refine mz_Go.callV (I := IX11_told) (J := IX11_answer) (as := [.inl (D.1 1 100 6)]) (ci := 11) (g := 0) (o := 0) (idx := 160) (pl := 914) (rest := []) (mX11_answer (D.1 1 100 6) D) kX11_answer vX11_answer (by decide +kernel) (by decide +kernel) (by decide +kernel) rfl rfl ⟨rfl, rfl⟩ rfl rfl rfl rfl ?_
                      cases h
                      exact mz_Go.reti (by decide +kernel) rfl ⟨Nat.le_refl _, Nat.le_refl _⟩ rfl
                    · have h := mz_ifn hc12 h
                      refine mz_Go.swc (fun hc13 => ?_) (fun hc13 => ?_)
                      · have h := mz_ifp hc13 h
                        refine mz_Go.run (gs := [mz_kz 0 1 101]) (st' := (200, [some (.inr (.inr (some (0, 0)))), some (.inl x1), some (.inr (.inr (some (1, 101))))], [.inl (D.1 1 101 2), .inr (.inr (some (0, 0)))], D)) bX11_told_195 oX11_told_195 rfl ⟨rfl, trivial⟩ ?_
                        refine mz_Go.callV (I := IX11_told) (J := IX11_answer) (as := [.inl (D.1 1 101 2)]) (ci := 11) (g := 0) (o := 0) (idx := 160) (pl := 914) (rest := []) (mX11_answer (D.1 1 101 2) D) kX11_answer vX11_answer (by decide +kernel) (by decide +kernel) (by decide +kernel) rfl rfl ⟨rfl, rfl⟩ rfl rfl rfl rfl ?_
                        cases h
                        exact mz_Go.reti (by decide +kernel) rfl ⟨Nat.le_refl _, Nat.le_refl _⟩ rfl
                      · have h := mz_ifn hc13 h
                        refine mz_Go.swc (fun hc14 => ?_) (fun hc14 => ?_)
                        · have h := mz_ifp hc14 h
                          refine mz_Go.run (gs := [mz_kz 0 0 0, mz_kz 0 1 100, mz_kz 0 1 117]) (st' := (215, [some (.inr (.inr (some (0, 0)))), some (.inl x1), some (.inr (.inr (some (1, 101))))], [.inl (D.1 1 117 0), .inr (.inr (some (0, 0)))], D)) bX11_told_204 oX11_told_204 rfl ⟨rfl, rfl, rfl, trivial⟩ ?_
                          refine mz_Go.callV (I := IX11_told) (J := IX11_answer) (as := [.inl (D.1 1 117 0)]) (ci := 11) (g := 0) (o := 0) (idx := 160) (pl := 914) (rest := []) (mX11_answer (D.1 1 117 0) D) kX11_answer vX11_answer (by decide +kernel) (by decide +kernel) (by decide +kernel) rfl rfl ⟨rfl, rfl⟩ rfl rfl rfl rfl ?_
                          cases h
                          exact mz_Go.reti (by decide +kernel) rfl ⟨Nat.le_refl _, Nat.le_refl _⟩ rfl
                        · have h := mz_ifn hc14 h
                          refine mz_Go.run (gs := []) (st' := (221, [some (.inr (.inr (some (0, 0)))), some (.inl x1), some (.inr (.inr (some (1, 101))))], [.inl (1 : Int32), .inr (.inr (some (0, 0)))], D)) bX11_told_219 oX11_told_219 rfl trivial ?_
                          refine mz_Go.callV (I := IX11_told) (J := IX11_refuse) (as := [.inl (1 : Int32)]) (ci := 11) (g := 0) (o := 0) (idx := 100) (pl := 673) (rest := []) (mX11_refuse (1 : Int32) D) kX11_refuse vX11_refuse (by decide +kernel) (by decide +kernel) (by decide +kernel) rfl rfl ⟨rfl, rfl⟩ rfl rfl rfl rfl ?_
                          cases h
                          exact mz_Go.reti (by decide +kernel) rfl ⟨Nat.le_refl _, Nat.le_refl _⟩ rfl
def bX11_answerIfAny_0 : List mz_E := [(0, .iload_n 1, 0, 0, 0, 0, 0), (1, .iconst (-1), 0, 0, 0, -1, 0), (2, .if_icmp .ne 12, 0, 14, 0, 0, 0)]
theorem oX11_answerIfAny_0 : bX11_answerIfAny_0.all (mz_ok RX11 cX11_answerIfAny 2) = true := by decide +kernel
def bX11_answerIfAny_5 : List mz_E := [(5, .aload_n 0, 0, 0, 0, 0, 0), (6, .bipush 6, 0, 0, 0, 6, 0)]
theorem oX11_answerIfAny_5 : bX11_answerIfAny_5.all (mz_ok RX11 cX11_answerIfAny 2) = true := by decide +kernel
def bX11_answerIfAny_11 : List mz_E := [(11, .goto 8, 0, 19, 0, 0, 0)]
theorem oX11_answerIfAny_11 : bX11_answerIfAny_11.all (mz_ok RX11 cX11_answerIfAny 2) = true := by decide +kernel
def bX11_answerIfAny_14 : List mz_E := [(14, .aload_n 0, 0, 0, 0, 0, 0), (15, .iload_n 1, 0, 0, 0, 0, 0)]
theorem oX11_answerIfAny_14 : bX11_answerIfAny_14.all (mz_ok RX11 cX11_answerIfAny 2) = true := by decide +kernel
abbrev IX11_answerIfAny : mz_I := (yX11_answerIfAny, cX11_answerIfAny, 2, (some .int), 0, 1, 0, 0)
theorem kX11_answerIfAny : mz_okm IX11_answerIfAny 1049 126 1048 1 = true := by decide +kernel
theorem vX11_answerIfAny : mz_okV IX11_answerIfAny 1048 25 = true := by decide +kernel
def fX11_answerIfAny (x1 : Int32) (D : mz_D) : Option (Int32 × mz_D) := (if x1 = (-1 : Int32) then (some ((-1 : Int32), (mz_wi D 0 0 13 (6 : Int32)))) else (some (x1, (mz_wi D 0 0 13 (0 : Int32)))))
set_option maxHeartbeats 4000000 in
theorem mX11_answerIfAny (x1 : Int32) (D : mz_D) (r : (Int32 × mz_D)) (h : fX11_answerIfAny x1 D = some r) : mz_Met IX11_answerIfAny [.inr (.inr (some (0, 0))), .inl x1] D (some (.inl r.1), r.2) := by
  refine mz_Met.of (by decide +kernel) (Nat.le_of_ble_eq_true rfl) ?_
  show mz_Go IX11_answerIfAny (some (.inl r.1), r.2) 0 0 (0, [some (.inr (.inr (some (0, 0)))), some (.inl x1)], [], D)
  rw [fX11_answerIfAny] at h
  refine mz_Go.run (gs := []) (st' := (if x1 = (-1 : Int32) then (5, [some (.inr (.inr (some (0, 0)))), some (.inl x1)], [], D) else (14, [some (.inr (.inr (some (0, 0)))), some (.inl x1)], [], D))) bX11_answerIfAny_0 oX11_answerIfAny_0 rfl trivial ?_
  refine mz_Go.ite (fun hc1 => ?_) (fun hc1 => ?_)
  · have h := mz_ifp hc1 h
    refine mz_Go.run (gs := []) (st' := (8, [some (.inr (.inr (some (0, 0)))), some (.inl x1)], [.inl (6 : Int32), .inr (.inr (some (0, 0)))], D)) bX11_answerIfAny_5 oX11_answerIfAny_5 rfl trivial ?_
    refine mz_Go.callV (I := IX11_answerIfAny) (J := IX11_refuse) (as := [.inl (6 : Int32)]) (ci := 11) (g := 0) (o := 0) (idx := 100) (pl := 673) (rest := []) (mX11_refuse (6 : Int32) D) kX11_refuse vX11_refuse (by decide +kernel) (by decide +kernel) (by decide +kernel) rfl rfl ⟨rfl, rfl⟩ rfl rfl rfl rfl ?_
    refine mz_Go.run (gs := []) (st' := (19, [some (.inr (.inr (some (0, 0)))), some (.inl x1)], [.inl (-1 : Int32)], (mz_wi D 0 0 13 (6 : Int32)))) bX11_answerIfAny_11 oX11_answerIfAny_11 rfl trivial ?_
    cases h
    exact mz_Go.reti (by decide +kernel) rfl ⟨Nat.le_refl _, Nat.le_refl _⟩ rfl
  · have h := mz_ifn hc1 h
    refine mz_Go.run (gs := []) (st' := (16, [some (.inr (.inr (some (0, 0)))), some (.inl x1)], [.inl x1, .inr (.inr (some (0, 0)))], D)) bX11_answerIfAny_14 oX11_answerIfAny_14 rfl trivial ?_
    refine mz_Go.callV (I := IX11_answerIfAny) (J := IX11_answer) (as := [.inl x1]) (ci := 11) (g := 0) (o := 0) (idx := 160) (pl := 914) (rest := []) (mX11_answer x1 D) kX11_answer vX11_answer (by decide +kernel) (by decide +kernel) (by decide +kernel) rfl rfl ⟨rfl, rfl⟩ rfl rfl rfl rfl ?_
    cases h
    exact mz_Go.reti (by decide +kernel) rfl ⟨Nat.le_refl _, Nat.le_refl _⟩ rfl
def bX11_person_0 : List mz_E := [(0, .aload_n 0, 0, 0, 0, 0, 0), (1, .getfield 32, 11, 4, 563, 0, 0), (4, .getfield 151, 6, 0, 477, 0, 0), (7, .astore_n 3, 0, 0, 0, 0, 0), (8, .aload_n 3, 0, 0, 0, 0, 0), (9, .iload_n 1, 0, 0, 0, 0, 0)]
theorem oX11_person_0 : bX11_person_0.all (mz_ok RX11 cX11_person 4) = true := by decide +kernel
def bX11_person_13 : List mz_E := [(13, .ifCond .ne 9, 0, 22, 0, 0, 0)]
theorem oX11_person_13 : bX11_person_13.all (mz_ok RX11 cX11_person 4) = true := by decide +kernel
def bX11_person_16 : List mz_E := [(16, .aload_n 0, 0, 0, 0, 0, 0), (17, .iconst 1, 0, 0, 0, 1, 0)]
theorem oX11_person_16 : bX11_person_16.all (mz_ok RX11 cX11_person 4) = true := by decide +kernel
def bX11_person_22 : List mz_E := [(22, .iload_n 2, 0, 0, 0, 0, 0)]
theorem oX11_person_22 : bX11_person_22.all (mz_ok RX11 cX11_person 4) = true := by decide +kernel
def bX11_person_60 : List mz_E := [(60, .aload_n 0, 0, 0, 0, 0, 0), (61, .aload_n 3, 0, 0, 0, 0, 0), (62, .getfield 230, 4, 4, 303, 0, 0), (65, .iload_n 1, 0, 0, 0, 0, 0), (66, .iaload, 0, 0, 0, 0, 0)]
theorem oX11_person_60 : bX11_person_60.all (mz_ok RX11 cX11_person 4) = true := by decide +kernel
def bX11_person_71 : List mz_E := [(71, .aload_n 0, 0, 0, 0, 0, 0), (72, .aload_n 3, 0, 0, 0, 0, 0), (73, .getfield 233, 4, 5, 308, 0, 0), (76, .iload_n 1, 0, 0, 0, 0, 0), (77, .iaload, 0, 0, 0, 0, 0)]
theorem oX11_person_71 : bX11_person_71.all (mz_ok RX11 cX11_person 4) = true := by decide +kernel
def bX11_person_82 : List mz_E := [(82, .aload_n 0, 0, 0, 0, 0, 0), (83, .aload_n 3, 0, 0, 0, 0, 0), (84, .getfield 236, 4, 6, 312, 0, 0), (87, .iload_n 1, 0, 0, 0, 0, 0), (88, .iaload, 0, 0, 0, 0, 0)]
theorem oX11_person_82 : bX11_person_82.all (mz_ok RX11 cX11_person 4) = true := by decide +kernel
def bX11_person_93 : List mz_E := [(93, .aload_n 0, 0, 0, 0, 0, 0), (94, .aload_n 3, 0, 0, 0, 0, 0), (95, .getfield 239, 4, 7, 315, 0, 0), (98, .iload_n 1, 0, 0, 0, 0, 0), (99, .iaload, 0, 0, 0, 0, 0)]
theorem oX11_person_93 : bX11_person_93.all (mz_ok RX11 cX11_person 4) = true := by decide +kernel
def bX11_person_104 : List mz_E := [(104, .aload_n 0, 0, 0, 0, 0, 0), (105, .aload_n 3, 0, 0, 0, 0, 0), (106, .getfield 242, 4, 8, 318, 0, 0), (109, .iload_n 1, 0, 0, 0, 0, 0), (110, .iaload, 0, 0, 0, 0, 0)]
theorem oX11_person_104 : bX11_person_104.all (mz_ok RX11 cX11_person 4) = true := by decide +kernel
def bX11_person_115 : List mz_E := [(115, .aload_n 0, 0, 0, 0, 0, 0), (116, .aload_n 3, 0, 0, 0, 0, 0), (117, .getfield 248, 4, 9, 322, 0, 0), (120, .iload_n 1, 0, 0, 0, 0, 0), (121, .iaload, 0, 0, 0, 0, 0)]
theorem oX11_person_115 : bX11_person_115.all (mz_ok RX11 cX11_person 4) = true := by decide +kernel
def bX11_person_126 : List mz_E := [(126, .aload_n 0, 0, 0, 0, 0, 0), (127, .iconst 1, 0, 0, 0, 1, 0)]
theorem oX11_person_126 : bX11_person_126.all (mz_ok RX11 cX11_person 4) = true := by decide +kernel
abbrev IX11_person : mz_I := (yX11_person, cX11_person, 4, (some .int), 0, 2, 0, 0)
theorem kX11_person : mz_okm IX11_person 1041 126 1039 2 = true := by decide +kernel
theorem vX11_person : mz_okV IX11_person 1039 1040 = true := by decide +kernel
def fX11_person (x1 : Int32) (x2 : Int32) (D : mz_D) : Option (Int32 × mz_D) := (if (fX4_has 1 x1 D) = 0 then (some ((-1 : Int32), (mz_wi D 0 0 13 (1 : Int32)))) else (if x2 = (0 : Int32) then (mz_gd (mz_ix x1 6) (some ((D.1 1 103 (x1).toNatClampNeg), (mz_wi D 0 0 13 (0 : Int32))))) else (if x2 = (1 : Int32) then (mz_gd (mz_ix x1 6) (some ((D.1 1 104 (x1).toNatClampNeg), (mz_wi D 0 0 13 (0 : Int32))))) else (if x2 = (2 : Int32) then (mz_gd (mz_ix x1 6) (some ((D.1 1 105 (x1).toNatClampNeg), (mz_wi D 0 0 13 (0 : Int32))))) else (if x2 = (3 : Int32) then (mz_gd (mz_ix x1 6) (some ((D.1 1 106 (x1).toNatClampNeg), (mz_wi D 0 0 13 (0 : Int32))))) else (if x2 = (4 : Int32) then (mz_gd (mz_ix x1 6) (Option.bind (fX11_answerIfAny (D.1 1 107 (x1).toNatClampNeg) D) fun q12 => (some (q12.1, q12.2)))) else (if x2 = (5 : Int32) then (mz_gd (mz_ix x1 6) (some ((D.1 1 108 (x1).toNatClampNeg), (mz_wi D 0 0 13 (0 : Int32))))) else (some ((-1 : Int32), (mz_wi D 0 0 13 (1 : Int32)))))))))))
set_option maxHeartbeats 4000000 in
theorem mX11_person (x1 : Int32) (x2 : Int32) (D : mz_D) (r : (Int32 × mz_D)) (h : fX11_person x1 x2 D = some r) : mz_Met IX11_person [.inr (.inr (some (0, 0))), .inl x1, .inl x2] D (some (.inl r.1), r.2) := by
  refine mz_Met.of (by decide +kernel) (Nat.le_of_ble_eq_true rfl) ?_
  show mz_Go IX11_person (some (.inl r.1), r.2) 0 0 (0, [some (.inr (.inr (some (0, 0)))), some (.inl x1), some (.inl x2), none], [], D)
  rw [fX11_person] at h
  refine mz_Go.run (gs := [mz_kz 0 0 0, mz_kz 0 1 100]) (st' := (10, [some (.inr (.inr (some (0, 0)))), some (.inl x1), some (.inl x2), some (.inr (.inr (some (1, 101))))], [.inl x1, .inr (.inr (some (1, 101)))], D)) bX11_person_0 oX11_person_0 rfl ⟨rfl, rfl, trivial⟩ ?_
  refine mz_Go.callV (I := IX11_person) (J := IX4_has) (as := [.inl x1]) (ci := 4) (g := 1) (o := 101) (idx := 229) (pl := 1042) (rest := []) (mX4_has 1 x1 D rfl _ rfl) kX4_has vX4_has (by decide +kernel) (by decide +kernel) (by decide +kernel) rfl rfl ⟨rfl, rfl⟩ rfl rfl rfl rfl ?_
  refine mz_Go.run (gs := []) (st' := (if (fX4_has 1 x1 D) = 0 then (16, [some (.inr (.inr (some (0, 0)))), some (.inl x1), some (.inl x2), some (.inr (.inr (some (1, 101))))], [], D) else (22, [some (.inr (.inr (some (0, 0)))), some (.inl x1), some (.inl x2), some (.inr (.inr (some (1, 101))))], [], D))) bX11_person_13 oX11_person_13 rfl trivial ?_
  refine mz_Go.ite (fun hc1 => ?_) (fun hc1 => ?_)
  · have h := mz_ifp hc1 h
    refine mz_Go.run (gs := []) (st' := (18, [some (.inr (.inr (some (0, 0)))), some (.inl x1), some (.inl x2), some (.inr (.inr (some (1, 101))))], [.inl (1 : Int32), .inr (.inr (some (0, 0)))], D)) bX11_person_16 oX11_person_16 rfl trivial ?_
    refine mz_Go.callV (I := IX11_person) (J := IX11_refuse) (as := [.inl (1 : Int32)]) (ci := 11) (g := 0) (o := 0) (idx := 100) (pl := 673) (rest := []) (mX11_refuse (1 : Int32) D) kX11_refuse vX11_refuse (by decide +kernel) (by decide +kernel) (by decide +kernel) rfl rfl ⟨rfl, rfl⟩ rfl rfl rfl rfl ?_
    cases h
    exact mz_Go.reti (by decide +kernel) rfl ⟨Nat.le_refl _, Nat.le_refl _⟩ rfl
  · have h := mz_ifn hc1 h
    refine mz_Go.run (gs := []) (st' := (23, [some (.inr (.inr (some (0, 0)))), some (.inl x1), some (.inl x2), some (.inr (.inr (some (1, 101))))], [.inl x2], D)) bX11_person_22 oX11_person_22 rfl trivial ?_
    refine mz_Go.tsw [(0, 60), (1, 71), (2, 82), (3, 93), (4, 104), (5, 115)] 126 (show decode cX11_person 23 = .ok (.tableswitch 103 0 5 #[37, 48, 59, 70, 81, 92], 37) by decide +kernel) (by decide +kernel) ?_
    refine mz_Go.swc (fun hc2 => ?_) (fun hc2 => ?_)
    · have h := mz_ifp hc2 h
      obtain ⟨hb3, h⟩ := mz_gd_some h
      refine mz_Go.run (gs := [mz_kz 0 1 101, mz_kz 0 1 103, mz_ix x1 6]) (st' := (67, [some (.inr (.inr (some (0, 0)))), some (.inl x1), some (.inl x2), some (.inr (.inr (some (1, 101))))], [.inl (D.1 1 103 (x1).toNatClampNeg), .inr (.inr (some (0, 0)))], D)) bX11_person_60 oX11_person_60 rfl ⟨rfl, rfl, hb3, trivial⟩ ?_
      refine mz_Go.callV (I := IX11_person) (J := IX11_answer) (as := [.inl (D.1 1 103 (x1).toNatClampNeg)]) (ci := 11) (g := 0) (o := 0) (idx := 160) (pl := 914) (rest := []) (mX11_answer (D.1 1 103 (x1).toNatClampNeg) D) kX11_answer vX11_answer (by decide +kernel) (by decide +kernel) (by decide +kernel) rfl rfl ⟨rfl, rfl⟩ rfl rfl rfl rfl ?_
      cases h
      exact mz_Go.reti (by decide +kernel) rfl ⟨Nat.le_refl _, Nat.le_refl _⟩ rfl
    · have h := mz_ifn hc2 h
      refine mz_Go.swc (fun hc4 => ?_) (fun hc4 => ?_)
      · have h := mz_ifp hc4 h
        obtain ⟨hb5, h⟩ := mz_gd_some h
        refine mz_Go.run (gs := [mz_kz 0 1 101, mz_kz 0 1 104, mz_ix x1 6]) (st' := (78, [some (.inr (.inr (some (0, 0)))), some (.inl x1), some (.inl x2), some (.inr (.inr (some (1, 101))))], [.inl (D.1 1 104 (x1).toNatClampNeg), .inr (.inr (some (0, 0)))], D)) bX11_person_71 oX11_person_71 rfl ⟨rfl, rfl, hb5, trivial⟩ ?_
        refine mz_Go.callV (I := IX11_person) (J := IX11_answer) (as := [.inl (D.1 1 104 (x1).toNatClampNeg)]) (ci := 11) (g := 0) (o := 0) (idx := 160) (pl := 914) (rest := []) (mX11_answer (D.1 1 104 (x1).toNatClampNeg) D) kX11_answer vX11_answer (by decide +kernel) (by decide +kernel) (by decide +kernel) rfl rfl ⟨rfl, rfl⟩ rfl rfl rfl rfl ?_
        cases h
        exact mz_Go.reti (by decide +kernel) rfl ⟨Nat.le_refl _, Nat.le_refl _⟩ rfl
      · have h := mz_ifn hc4 h
        refine mz_Go.swc (fun hc6 => ?_) (fun hc6 => ?_)
        · have h := mz_ifp hc6 h
          obtain ⟨hb7, h⟩ := mz_gd_some h
          refine mz_Go.run (gs := [mz_kz 0 1 101, mz_kz 0 1 105, mz_ix x1 6]) (st' := (89, [some (.inr (.inr (some (0, 0)))), some (.inl x1), some (.inl x2), some (.inr (.inr (some (1, 101))))], [.inl (D.1 1 105 (x1).toNatClampNeg), .inr (.inr (some (0, 0)))], D)) bX11_person_82 oX11_person_82 rfl ⟨rfl, rfl, hb7, trivial⟩ ?_
          refine mz_Go.callV (I := IX11_person) (J := IX11_answer) (as := [.inl (D.1 1 105 (x1).toNatClampNeg)]) (ci := 11) (g := 0) (o := 0) (idx := 160) (pl := 914) (rest := []) (mX11_answer (D.1 1 105 (x1).toNatClampNeg) D) kX11_answer vX11_answer (by decide +kernel) (by decide +kernel) (by decide +kernel) rfl rfl ⟨rfl, rfl⟩ rfl rfl rfl rfl ?_
          cases h
          exact mz_Go.reti (by decide +kernel) rfl ⟨Nat.le_refl _, Nat.le_refl _⟩ rfl
        · have h := mz_ifn hc6 h
          refine mz_Go.swc (fun hc8 => ?_) (fun hc8 => ?_)
          · have h := mz_ifp hc8 h
            obtain ⟨hb9, h⟩ := mz_gd_some h
            refine mz_Go.run (gs := [mz_kz 0 1 101, mz_kz 0 1 106, mz_ix x1 6]) (st' := (100, [some (.inr (.inr (some (0, 0)))), some (.inl x1), some (.inl x2), some (.inr (.inr (some (1, 101))))], [.inl (D.1 1 106 (x1).toNatClampNeg), .inr (.inr (some (0, 0)))], D)) bX11_person_93 oX11_person_93 rfl ⟨rfl, rfl, hb9, trivial⟩ ?_
            refine mz_Go.callV (I := IX11_person) (J := IX11_answer) (as := [.inl (D.1 1 106 (x1).toNatClampNeg)]) (ci := 11) (g := 0) (o := 0) (idx := 160) (pl := 914) (rest := []) (mX11_answer (D.1 1 106 (x1).toNatClampNeg) D) kX11_answer vX11_answer (by decide +kernel) (by decide +kernel) (by decide +kernel) rfl rfl ⟨rfl, rfl⟩ rfl rfl rfl rfl ?_
            cases h
            exact mz_Go.reti (by decide +kernel) rfl ⟨Nat.le_refl _, Nat.le_refl _⟩ rfl
          · have h := mz_ifn hc8 h
            refine mz_Go.swc (fun hc10 => ?_) (fun hc10 => ?_)
            · have h := mz_ifp hc10 h
              obtain ⟨hb11, h⟩ := mz_gd_some h
              refine mz_Go.run (gs := [mz_kz 0 1 101, mz_kz 0 1 107, mz_ix x1 6]) (st' := (111, [some (.inr (.inr (some (0, 0)))), some (.inl x1), some (.inl x2), some (.inr (.inr (some (1, 101))))], [.inl (D.1 1 107 (x1).toNatClampNeg), .inr (.inr (some (0, 0)))], D)) bX11_person_104 oX11_person_104 rfl ⟨rfl, rfl, hb11, trivial⟩ ?_
              obtain ⟨q12, hq12, h⟩ := mz_bd_some h
              refine mz_Go.callV (I := IX11_person) (J := IX11_answerIfAny) (as := [.inl (D.1 1 107 (x1).toNatClampNeg)]) (ci := 11) (g := 0) (o := 0) (idx := 245) (pl := 1046) (rest := []) (mX11_answerIfAny (D.1 1 107 (x1).toNatClampNeg) D q12 hq12) kX11_answerIfAny vX11_answerIfAny (by decide +kernel) (by decide +kernel) (by decide +kernel) rfl rfl ⟨rfl, rfl⟩ rfl rfl rfl rfl ?_
              cases h
              exact mz_Go.reti (by decide +kernel) rfl ⟨Nat.le_refl _, Nat.le_refl _⟩ rfl
            · have h := mz_ifn hc10 h
              refine mz_Go.swc (fun hc13 => ?_) (fun hc13 => ?_)
              · have h := mz_ifp hc13 h
                obtain ⟨hb14, h⟩ := mz_gd_some h
                refine mz_Go.run (gs := [mz_kz 0 1 101, mz_kz 0 1 108, mz_ix x1 6]) (st' := (122, [some (.inr (.inr (some (0, 0)))), some (.inl x1), some (.inl x2), some (.inr (.inr (some (1, 101))))], [.inl (D.1 1 108 (x1).toNatClampNeg), .inr (.inr (some (0, 0)))], D)) bX11_person_115 oX11_person_115 rfl ⟨rfl, rfl, hb14, trivial⟩ ?_
                refine mz_Go.callV (I := IX11_person) (J := IX11_answer) (as := [.inl (D.1 1 108 (x1).toNatClampNeg)]) (ci := 11) (g := 0) (o := 0) (idx := 160) (pl := 914) (rest := []) (mX11_answer (D.1 1 108 (x1).toNatClampNeg) D) kX11_answer vX11_answer (by decide +kernel) (by decide +kernel) (by decide +kernel) rfl rfl ⟨rfl, rfl⟩ rfl rfl rfl rfl ?_
                cases h
                exact mz_Go.reti (by decide +kernel) rfl ⟨Nat.le_refl _, Nat.le_refl _⟩ rfl
              · have h := mz_ifn hc13 h
                refine mz_Go.run (gs := []) (st' := (128, [some (.inr (.inr (some (0, 0)))), some (.inl x1), some (.inl x2), some (.inr (.inr (some (1, 101))))], [.inl (1 : Int32), .inr (.inr (some (0, 0)))], D)) bX11_person_126 oX11_person_126 rfl trivial ?_
                refine mz_Go.callV (I := IX11_person) (J := IX11_refuse) (as := [.inl (1 : Int32)]) (ci := 11) (g := 0) (o := 0) (idx := 100) (pl := 673) (rest := []) (mX11_refuse (1 : Int32) D) kX11_refuse vX11_refuse (by decide +kernel) (by decide +kernel) (by decide +kernel) rfl rfl ⟨rfl, rfl⟩ rfl rfl rfl rfl ?_
                cases h
                exact mz_Go.reti (by decide +kernel) rfl ⟨Nat.le_refl _, Nat.le_refl _⟩ rfl
def bX11_dish_0 : List mz_E := [(0, .aload_n 0, 0, 0, 0, 0, 0), (1, .getfield 32, 11, 4, 563, 0, 0), (4, .getfield 183, 6, 1, 481, 0, 0), (7, .astore_n 3, 0, 0, 0, 0, 0), (8, .iload_n 1, 0, 0, 0, 0, 0), (9, .ifCond .lt 20, 0, 29, 0, 0, 0)]
theorem oX11_dish_0 : bX11_dish_0.all (mz_ok RX11 cX11_dish 4) = true := by decide +kernel
def bX11_dish_29 : List mz_E := [(29, .aload_n 0, 0, 0, 0, 0, 0), (30, .iconst 1, 0, 0, 0, 1, 0)]
theorem oX11_dish_29 : bX11_dish_29.all (mz_ok RX11 cX11_dish 4) = true := by decide +kernel
def bX11_dish_12 : List mz_E := [(12, .iload_n 1, 0, 0, 0, 0, 0), (13, .aload_n 3, 0, 0, 0, 0, 0), (14, .getfield 187, 1, 0, 352, 0, 0), (17, .if_icmp .ge 12, 0, 29, 0, 0, 0)]
theorem oX11_dish_12 : bX11_dish_12.all (mz_ok RX11 cX11_dish 4) = true := by decide +kernel
def bX11_dish_20 : List mz_E := [(20, .iload_n 2, 0, 0, 0, 0, 0), (21, .ifCond .lt 8, 0, 29, 0, 0, 0)]
theorem oX11_dish_20 : bX11_dish_20.all (mz_ok RX11 cX11_dish 4) = true := by decide +kernel
def bX11_dish_24 : List mz_E := [(24, .iload_n 2, 0, 0, 0, 0, 0), (25, .iconst 1, 0, 0, 0, 1, 0), (26, .if_icmp .le 9, 0, 35, 0, 0, 0)]
theorem oX11_dish_24 : bX11_dish_24.all (mz_ok RX11 cX11_dish 4) = true := by decide +kernel
def bX11_dish_35 : List mz_E := [(35, .iload_n 2, 0, 0, 0, 0, 0), (36, .ifCond .ne 16, 0, 52, 0, 0, 0)]
theorem oX11_dish_35 : bX11_dish_35.all (mz_ok RX11 cX11_dish 4) = true := by decide +kernel
def bX11_dish_39 : List mz_E := [(39, .aload_n 0, 0, 0, 0, 0, 0), (40, .aload_n 3, 0, 0, 0, 0, 0), (41, .getfield 251, 1, 2, 358, 0, 0), (44, .iload_n 1, 0, 0, 0, 0, 0), (45, .iaload, 0, 0, 0, 0, 0)]
theorem oX11_dish_39 : bX11_dish_39.all (mz_ok RX11 cX11_dish 4) = true := by decide +kernel
def bX11_dish_49 : List mz_E := [(49, .goto 13, 0, 62, 0, 0, 0)]
theorem oX11_dish_49 : bX11_dish_49.all (mz_ok RX11 cX11_dish 4) = true := by decide +kernel
def bX11_dish_52 : List mz_E := [(52, .aload_n 0, 0, 0, 0, 0, 0), (53, .aload_n 3, 0, 0, 0, 0, 0), (54, .getfield 254, 1, 3, 360, 0, 0), (57, .iload_n 1, 0, 0, 0, 0, 0), (58, .iaload, 0, 0, 0, 0, 0)]
theorem oX11_dish_52 : bX11_dish_52.all (mz_ok RX11 cX11_dish 4) = true := by decide +kernel
abbrev IX11_dish : mz_I := (yX11_dish, cX11_dish, 4, (some .int), 0, 2, 0, 0)
theorem kX11_dish : mz_okm IX11_dish 1053 126 1051 2 = true := by decide +kernel
theorem vX11_dish : mz_okV IX11_dish 1051 1052 = true := by decide +kernel
def fX11_dish (x1 : Int32) (x2 : Int32) (D : mz_D) : Option (Int32 × mz_D) := (if x1 < 0 then (some ((-1 : Int32), (mz_wi D 0 0 13 (1 : Int32)))) else (if (D.1 1 109 0) ≤ x1 then (some ((-1 : Int32), (mz_wi D 0 0 13 (1 : Int32)))) else (if x2 < 0 then (some ((-1 : Int32), (mz_wi D 0 0 13 (1 : Int32)))) else (if x2 ≤ (1 : Int32) then (if x2 = 0 then (mz_gd (mz_ix x1 16) (some ((D.1 1 110 (x1).toNatClampNeg), (mz_wi D 0 0 13 (0 : Int32))))) else (mz_gd (mz_ix x1 16) (Option.bind (fX11_answerIfAny (D.1 1 111 (x1).toNatClampNeg) D) fun q8 => (some (q8.1, q8.2))))) else (some ((-1 : Int32), (mz_wi D 0 0 13 (1 : Int32))))))))
set_option maxHeartbeats 4000000 in
theorem mX11_dish (x1 : Int32) (x2 : Int32) (D : mz_D) (r : (Int32 × mz_D)) (h : fX11_dish x1 x2 D = some r) : mz_Met IX11_dish [.inr (.inr (some (0, 0))), .inl x1, .inl x2] D (some (.inl r.1), r.2) := by
  refine mz_Met.of (by decide +kernel) (Nat.le_of_ble_eq_true rfl) ?_
  show mz_Go IX11_dish (some (.inl r.1), r.2) 0 0 (0, [some (.inr (.inr (some (0, 0)))), some (.inl x1), some (.inl x2), none], [], D)
  rw [fX11_dish] at h
  refine mz_Go.run (gs := [mz_kz 0 0 0, mz_kz 0 1 100]) (st' := (if x1 < 0 then (29, [some (.inr (.inr (some (0, 0)))), some (.inl x1), some (.inl x2), some (.inr (.inr (some (1, 109))))], [], D) else (12, [some (.inr (.inr (some (0, 0)))), some (.inl x1), some (.inl x2), some (.inr (.inr (some (1, 109))))], [], D))) bX11_dish_0 oX11_dish_0 rfl ⟨rfl, rfl, trivial⟩ ?_
  refine mz_Go.ite (fun hc1 => ?_) (fun hc1 => ?_)
  · have h := mz_ifp hc1 h
    refine mz_Go.run (gs := []) (st' := (31, [some (.inr (.inr (some (0, 0)))), some (.inl x1), some (.inl x2), some (.inr (.inr (some (1, 109))))], [.inl (1 : Int32), .inr (.inr (some (0, 0)))], D)) bX11_dish_29 oX11_dish_29 rfl trivial ?_
    refine mz_Go.callV (I := IX11_dish) (J := IX11_refuse) (as := [.inl (1 : Int32)]) (ci := 11) (g := 0) (o := 0) (idx := 100) (pl := 673) (rest := []) (mX11_refuse (1 : Int32) D) kX11_refuse vX11_refuse (by decide +kernel) (by decide +kernel) (by decide +kernel) rfl rfl ⟨rfl, rfl⟩ rfl rfl rfl rfl ?_
    cases h
    exact mz_Go.reti (by decide +kernel) rfl ⟨Nat.le_refl _, Nat.le_refl _⟩ rfl
  · have h := mz_ifn hc1 h
    refine mz_Go.run (gs := [mz_kz 0 1 109]) (st' := (if (D.1 1 109 0) ≤ x1 then (29, [some (.inr (.inr (some (0, 0)))), some (.inl x1), some (.inl x2), some (.inr (.inr (some (1, 109))))], [], D) else (20, [some (.inr (.inr (some (0, 0)))), some (.inl x1), some (.inl x2), some (.inr (.inr (some (1, 109))))], [], D))) bX11_dish_12 oX11_dish_12 rfl ⟨rfl, trivial⟩ ?_
    refine mz_Go.ite (fun hc2 => ?_) (fun hc2 => ?_)
    · have h := mz_ifp hc2 h
      refine mz_Go.run (gs := []) (st' := (31, [some (.inr (.inr (some (0, 0)))), some (.inl x1), some (.inl x2), some (.inr (.inr (some (1, 109))))], [.inl (1 : Int32), .inr (.inr (some (0, 0)))], D)) bX11_dish_29 oX11_dish_29 rfl trivial ?_
      refine mz_Go.callV (I := IX11_dish) (J := IX11_refuse) (as := [.inl (1 : Int32)]) (ci := 11) (g := 0) (o := 0) (idx := 100) (pl := 673) (rest := []) (mX11_refuse (1 : Int32) D) kX11_refuse vX11_refuse (by decide +kernel) (by decide +kernel) (by decide +kernel) rfl rfl ⟨rfl, rfl⟩ rfl rfl rfl rfl ?_
      cases h
      exact mz_Go.reti (by decide +kernel) rfl ⟨Nat.le_refl _, Nat.le_refl _⟩ rfl
    · have h := mz_ifn hc2 h
      refine mz_Go.run (gs := []) (st' := (if x2 < 0 then (29, [some (.inr (.inr (some (0, 0)))), some (.inl x1), some (.inl x2), some (.inr (.inr (some (1, 109))))], [], D) else (24, [some (.inr (.inr (some (0, 0)))), some (.inl x1), some (.inl x2), some (.inr (.inr (some (1, 109))))], [], D))) bX11_dish_20 oX11_dish_20 rfl trivial ?_
      refine mz_Go.ite (fun hc3 => ?_) (fun hc3 => ?_)
      · have h := mz_ifp hc3 h
        refine mz_Go.run (gs := []) (st' := (31, [some (.inr (.inr (some (0, 0)))), some (.inl x1), some (.inl x2), some (.inr (.inr (some (1, 109))))], [.inl (1 : Int32), .inr (.inr (some (0, 0)))], D)) bX11_dish_29 oX11_dish_29 rfl trivial ?_
        refine mz_Go.callV (I := IX11_dish) (J := IX11_refuse) (as := [.inl (1 : Int32)]) (ci := 11) (g := 0) (o := 0) (idx := 100) (pl := 673) (rest := []) (mX11_refuse (1 : Int32) D) kX11_refuse vX11_refuse (by decide +kernel) (by decide +kernel) (by decide +kernel) rfl rfl ⟨rfl, rfl⟩ rfl rfl rfl rfl ?_
        cases h
        exact mz_Go.reti (by decide +kernel) rfl ⟨Nat.le_refl _, Nat.le_refl _⟩ rfl
      · have h := mz_ifn hc3 h
        refine mz_Go.run (gs := []) (st' := (if x2 ≤ (1 : Int32) then (35, [some (.inr (.inr (some (0, 0)))), some (.inl x1), some (.inl x2), some (.inr (.inr (some (1, 109))))], [], D) else (29, [some (.inr (.inr (some (0, 0)))), some (.inl x1), some (.inl x2), some (.inr (.inr (some (1, 109))))], [], D))) bX11_dish_24 oX11_dish_24 rfl trivial ?_
        refine mz_Go.ite (fun hc4 => ?_) (fun hc4 => ?_)
        · have h := mz_ifp hc4 h
          refine mz_Go.run (gs := []) (st' := (if x2 = 0 then (39, [some (.inr (.inr (some (0, 0)))), some (.inl x1), some (.inl x2), some (.inr (.inr (some (1, 109))))], [], D) else (52, [some (.inr (.inr (some (0, 0)))), some (.inl x1), some (.inl x2), some (.inr (.inr (some (1, 109))))], [], D))) bX11_dish_35 oX11_dish_35 rfl trivial ?_
          refine mz_Go.ite (fun hc5 => ?_) (fun hc5 => ?_)
          · have h := mz_ifp hc5 h
            obtain ⟨hb6, h⟩ := mz_gd_some h
            refine mz_Go.run (gs := [mz_kz 0 1 109, mz_kz 0 1 110, mz_ix x1 16]) (st' := (46, [some (.inr (.inr (some (0, 0)))), some (.inl x1), some (.inl x2), some (.inr (.inr (some (1, 109))))], [.inl (D.1 1 110 (x1).toNatClampNeg), .inr (.inr (some (0, 0)))], D)) bX11_dish_39 oX11_dish_39 rfl ⟨rfl, rfl, hb6, trivial⟩ ?_
            refine mz_Go.callV (I := IX11_dish) (J := IX11_answer) (as := [.inl (D.1 1 110 (x1).toNatClampNeg)]) (ci := 11) (g := 0) (o := 0) (idx := 160) (pl := 914) (rest := []) (mX11_answer (D.1 1 110 (x1).toNatClampNeg) D) kX11_answer vX11_answer (by decide +kernel) (by decide +kernel) (by decide +kernel) rfl rfl ⟨rfl, rfl⟩ rfl rfl rfl rfl ?_
            refine mz_Go.run (gs := []) (st' := (62, [some (.inr (.inr (some (0, 0)))), some (.inl x1), some (.inl x2), some (.inr (.inr (some (1, 109))))], [.inl (D.1 1 110 (x1).toNatClampNeg)], (mz_wi D 0 0 13 (0 : Int32)))) bX11_dish_49 oX11_dish_49 rfl trivial ?_
            cases h
            exact mz_Go.reti (by decide +kernel) rfl ⟨Nat.le_refl _, Nat.le_refl _⟩ rfl
          · have h := mz_ifn hc5 h
            obtain ⟨hb7, h⟩ := mz_gd_some h
            refine mz_Go.run (gs := [mz_kz 0 1 109, mz_kz 0 1 111, mz_ix x1 16]) (st' := (59, [some (.inr (.inr (some (0, 0)))), some (.inl x1), some (.inl x2), some (.inr (.inr (some (1, 109))))], [.inl (D.1 1 111 (x1).toNatClampNeg), .inr (.inr (some (0, 0)))], D)) bX11_dish_52 oX11_dish_52 rfl ⟨rfl, rfl, hb7, trivial⟩ ?_
            obtain ⟨q8, hq8, h⟩ := mz_bd_some h
            refine mz_Go.callV (I := IX11_dish) (J := IX11_answerIfAny) (as := [.inl (D.1 1 111 (x1).toNatClampNeg)]) (ci := 11) (g := 0) (o := 0) (idx := 245) (pl := 1046) (rest := []) (mX11_answerIfAny (D.1 1 111 (x1).toNatClampNeg) D q8 hq8) kX11_answerIfAny vX11_answerIfAny (by decide +kernel) (by decide +kernel) (by decide +kernel) rfl rfl ⟨rfl, rfl⟩ rfl rfl rfl rfl ?_
            cases h
            exact mz_Go.reti (by decide +kernel) rfl ⟨Nat.le_refl _, Nat.le_refl _⟩ rfl
        · have h := mz_ifn hc4 h
          refine mz_Go.run (gs := []) (st' := (31, [some (.inr (.inr (some (0, 0)))), some (.inl x1), some (.inl x2), some (.inr (.inr (some (1, 109))))], [.inl (1 : Int32), .inr (.inr (some (0, 0)))], D)) bX11_dish_29 oX11_dish_29 rfl trivial ?_
          refine mz_Go.callV (I := IX11_dish) (J := IX11_refuse) (as := [.inl (1 : Int32)]) (ci := 11) (g := 0) (o := 0) (idx := 100) (pl := 673) (rest := []) (mX11_refuse (1 : Int32) D) kX11_refuse vX11_refuse (by decide +kernel) (by decide +kernel) (by decide +kernel) rfl rfl ⟨rfl, rfl⟩ rfl rfl rfl rfl ?_
          cases h
          exact mz_Go.reti (by decide +kernel) rfl ⟨Nat.le_refl _, Nat.le_refl _⟩ rfl
abbrev IJ7_fill_53178_15 : mz_I := (yJ7_fill_53178, cJ7_fill_53178, 4, none, 0, 0, 0, 0)
theorem kJ7_fill_53178_15 : mz_okm IJ7_fill_53178_15 262 133 261 2 = true := by decide +kernel
theorem vJ7_fill_53178_15 : mz_okS IJ7_fill_53178_15 261 = true := by decide +kernel
def fJ7_fill_53178_15_5 : Nat → Int32 → Int32 → Int32 → mz_D → Option mz_D
  | 0 => fun _ _ _ _ => none
  | n + 1 => fun x1 x2 x3 D => (if x3 ≤ x2 then (some D) else (mz_gd (mz_ix x2 6) ((fJ7_fill_53178_15_5 n) x1 (x2 + (1 : Int32)) x3 (mz_wi D 0 15 (x2).toNatClampNeg x1))))
set_option maxHeartbeats 4000000 in
theorem tJ7_fill_53178_15_5 (r : mz_D) : ∀ (n : Nat) (x1 : Int32) (x2 : Int32) (x3 : Int32) (D : mz_D), fJ7_fill_53178_15_5 n x1 x2 x3 D = some r → mz_Go IJ7_fill_53178_15 (none, r) 0 0 (5, [some (.inr (.inr (some (0, 15)))), some (.inl x1), some (.inl x2), some (.inl x3)], [], D) := by
  intro n
  induction n with
  | zero => intro x1 x2 x3 D h; have h : (none : Option mz_D) = some r := h; cases h
  | succ n ih =>
    intro x1 x2 x3 D h
    rw [fJ7_fill_53178_15_5] at h
    refine mz_Go.run (gs := []) (st' := (if x3 ≤ x2 then (20, [some (.inr (.inr (some (0, 15)))), some (.inl x1), some (.inl x2), some (.inl x3)], [], D) else (10, [some (.inr (.inr (some (0, 15)))), some (.inl x1), some (.inl x2), some (.inl x3)], [], D))) bJ7_fill_53178_5 oJ7_fill_53178_5 rfl trivial ?_
    refine mz_Go.ite (fun hc1 => ?_) (fun hc1 => ?_)
    · have h := mz_ifp hc1 h
      cases h
      exact mz_Go.retv (by decide +kernel) rfl ⟨Nat.le_refl _, Nat.le_refl _⟩ rfl
    · have h := mz_ifn hc1 h
      obtain ⟨hb2, h⟩ := mz_gd_some h
      refine mz_Go.run (gs := [mz_kz 0 0 15, mz_ix x2 6]) (st' := (5, [some (.inr (.inr (some (0, 15)))), some (.inl x1), some (.inl (x2 + (1 : Int32))), some (.inl x3)], [], (mz_wi D 0 15 (x2).toNatClampNeg x1))) bJ7_fill_53178_10 oJ7_fill_53178_10 rfl ⟨rfl, hb2, trivial⟩ ?_
      exact mz_Go.drop [true, true, true, true] (ih x1 (x2 + (1 : Int32)) x3 (mz_wi D 0 15 (x2).toNatClampNeg x1) h)
def fJ7_fill_53178_15 (x1 : Int32) (D : mz_D) : Option mz_D := (fJ7_fill_53178_15_5 mz_N x1 (0 : Int32) (Int32.ofNat 6) D)
set_option maxHeartbeats 4000000 in
theorem mJ7_fill_53178_15 (x1 : Int32) (D : mz_D) (r : mz_D) (h : fJ7_fill_53178_15 x1 D = some r) : mz_Met IJ7_fill_53178_15 [.inr (.inr (some (0, 15))), .inl x1] D (none, r) := by
  refine mz_Met.of (by decide +kernel) (Nat.le_of_ble_eq_true rfl) ?_
  show mz_Go IJ7_fill_53178_15 (none, r) 0 0 (0, [some (.inr (.inr (some (0, 15)))), some (.inl x1), none, none], [], D)
  rw [fJ7_fill_53178_15] at h
  refine mz_Go.run (gs := [mz_kz 0 0 15]) (st' := (5, [some (.inr (.inr (some (0, 15)))), some (.inl x1), some (.inl (0 : Int32)), some (.inl (Int32.ofNat 6))], [], D)) bJ7_fill_53178_0 oJ7_fill_53178_0 rfl ⟨rfl, trivial⟩ ?_
  exact mz_Go.drop [true, true, true, true] (tJ7_fill_53178_15_5 r mz_N x1 (0 : Int32) (Int32.ofNat 6) D h)
abbrev IX1_spread_15 : mz_I := (yX1_spread, cX1_spread, 7, none, 0, 1, 0, 0)
theorem kX1_spread_15 : mz_okm IX1_spread_15 1067 136 1066 3 = true := by decide +kernel
theorem vX1_spread_15 : mz_okS IX1_spread_15 1066 = true := by decide +kernel
def fX1_spread_15_58 (k23 : Int32 → Int32 → Int32 → Int32 → mz_D → Option mz_D) (x1 : Int32) (x4 : Int32) (x5 : Int32) (x6 : Int32) (s0 : Int32) (s1 : Int32) (s2 : Int32) (D : mz_D) : Option mz_D := (mz_gd (mz_ix s2 6) (k23 x1 x4 (x5 + (-1 : Int32)) (x6 + (1 : Int32)) (mz_wi D 0 15 (s2).toNatClampNeg (s1 + s0))))
set_option maxHeartbeats 4000000 in
theorem tX1_spread_15_58 (r : mz_D) (k23 : Int32 → Int32 → Int32 → Int32 → mz_D → Option mz_D) (hk23 : ∀ (x1 : Int32) (x4 : Int32) (x5 : Int32) (x6 : Int32) (D : mz_D), k23 x1 x4 x5 x6 D = some r → mz_Go IX1_spread_15 (none, r) 0 0 (23, [none, some (.inl x1), some (.inr (.inr (some (0, 15)))), none, some (.inl x4), some (.inl x5), some (.inl x6)], [], D)) : ∀ (x1 : Int32) (x4 : Int32) (x5 : Int32) (x6 : Int32) (s0 : Int32) (s1 : Int32) (s2 : Int32) (D : mz_D), fX1_spread_15_58 k23 x1 x4 x5 x6 s0 s1 s2 D = some r → mz_Go IX1_spread_15 (none, r) 0 0 (58, [none, some (.inl x1), some (.inr (.inr (some (0, 15)))), none, some (.inl x4), some (.inl x5), some (.inl x6)], [.inl s0, .inl s1, .inl s2, .inr (.inr (some (0, 15)))], D) := by
  intro x1 x4 x5 x6 s0 s1 s2 D h
  rw [fX1_spread_15_58] at h
  obtain ⟨hb1, h⟩ := mz_gd_some h
  refine mz_Go.run (gs := [mz_kz 0 0 15, mz_ix s2 6]) (st' := (23, [none, some (.inl x1), some (.inr (.inr (some (0, 15)))), none, some (.inl x4), some (.inl (x5 + (-1 : Int32))), some (.inl (x6 + (1 : Int32)))], [], (mz_wi D 0 15 (s2).toNatClampNeg (s1 + s0)))) bX1_spread_58 oX1_spread_58 rfl ⟨rfl, hb1, trivial⟩ ?_
  exact mz_Go.drop [false, true, true, false, true, true, true] (hk23 x1 x4 (x5 + (-1 : Int32)) (x6 + (1 : Int32)) (mz_wi D 0 15 (s2).toNatClampNeg (s1 + s0)) h)
def fX1_spread_15_23 : Nat → Int32 → Int32 → Int32 → Int32 → mz_D → Option mz_D
  | 0 => fun _ _ _ _ _ => none
  | n + 1 => fun x1 x4 x5 x6 D => (if (Int32.ofNat 6) ≤ x6 then (some D) else (if (fX11_isIn x1 x6) = 0 then ((fX1_spread_15_23 n) x1 x4 x5 (x6 + (1 : Int32)) D) else (mz_gd (mz_ix x6 6) (if x5 ≤ 0 then (fX1_spread_15_58 (fX1_spread_15_23 n) x1 x4 x5 x6 x4 (D.1 0 15 (x6).toNatClampNeg) x6 D) else (fX1_spread_15_58 (fX1_spread_15_23 n) x1 x4 x5 x6 (x4 + (1 : Int32)) (D.1 0 15 (x6).toNatClampNeg) x6 D)))))
set_option maxHeartbeats 4000000 in
theorem tX1_spread_15_23 (r : mz_D) : ∀ (n : Nat) (x1 : Int32) (x4 : Int32) (x5 : Int32) (x6 : Int32) (D : mz_D), fX1_spread_15_23 n x1 x4 x5 x6 D = some r → mz_Go IX1_spread_15 (none, r) 0 0 (23, [none, some (.inl x1), some (.inr (.inr (some (0, 15)))), none, some (.inl x4), some (.inl x5), some (.inl x6)], [], D) := by
  intro n
  induction n with
  | zero => intro x1 x4 x5 x6 D h; have h : (none : Option mz_D) = some r := h; cases h
  | succ n ih =>
    intro x1 x4 x5 x6 D h
    rw [fX1_spread_15_23] at h
    refine mz_Go.run (gs := [mz_kz 0 0 15]) (st' := (if (Int32.ofNat 6) ≤ x6 then (69, [none, some (.inl x1), some (.inr (.inr (some (0, 15)))), none, some (.inl x4), some (.inl x5), some (.inl x6)], [], D) else (30, [none, some (.inl x1), some (.inr (.inr (some (0, 15)))), none, some (.inl x4), some (.inl x5), some (.inl x6)], [], D))) bX1_spread_23 oX1_spread_23 rfl ⟨rfl, trivial⟩ ?_
    refine mz_Go.ite (fun hc1 => ?_) (fun hc1 => ?_)
    · have h := mz_ifp hc1 h
      cases h
      exact mz_Go.retv (by decide +kernel) rfl ⟨Nat.le_refl _, Nat.le_refl _⟩ rfl
    · have h := mz_ifn hc1 h
      refine mz_Go.run (gs := []) (st' := (33, [none, some (.inl x1), some (.inr (.inr (some (0, 15)))), none, some (.inl x4), some (.inl x5), some (.inl x6)], [.inl x6, .inl x1], D)) bX1_spread_30 oX1_spread_30 rfl trivial ?_
      refine mz_Go.callSN (I := IX1_spread_15) (J := IX11_isIn) (as := [.inl x1, .inl x6]) (idx := 70) (pl := 1069) (rest := []) (mX11_isIn x1 x6 D _ rfl) kX11_isIn vX11_isIn (by decide +kernel) (by decide +kernel) (by decide +kernel) rfl rfl ⟨rfl, rfl⟩ rfl ?_
      refine mz_Go.run (gs := []) (st' := (if (fX11_isIn x1 x6) = 0 then (63, [none, some (.inl x1), some (.inr (.inr (some (0, 15)))), none, some (.inl x4), some (.inl x5), some (.inl x6)], [], D) else (39, [none, some (.inl x1), some (.inr (.inr (some (0, 15)))), none, some (.inl x4), some (.inl x5), some (.inl x6)], [], D))) bX1_spread_36 oX1_spread_36 rfl trivial ?_
      refine mz_Go.ite (fun hc2 => ?_) (fun hc2 => ?_)
      · have h := mz_ifp hc2 h
        refine mz_Go.run (gs := []) (st' := (23, [none, some (.inl x1), some (.inr (.inr (some (0, 15)))), none, some (.inl x4), some (.inl x5), some (.inl (x6 + (1 : Int32)))], [], D)) bX1_spread_63 oX1_spread_63 rfl trivial ?_
        exact mz_Go.drop [false, true, true, false, true, true, true] (ih x1 x4 x5 (x6 + (1 : Int32)) D h)
      · have h := mz_ifn hc2 h
        obtain ⟨hb3, h⟩ := mz_gd_some h
        refine mz_Go.run (gs := [mz_kz 0 0 15, mz_ix x6 6]) (st' := (if x5 ≤ 0 then (56, [none, some (.inl x1), some (.inr (.inr (some (0, 15)))), none, some (.inl x4), some (.inl x5), some (.inl x6)], [.inl (D.1 0 15 (x6).toNatClampNeg), .inl x6, .inr (.inr (some (0, 15)))], D) else (49, [none, some (.inl x1), some (.inr (.inr (some (0, 15)))), none, some (.inl x4), some (.inl x5), some (.inl x6)], [.inl (D.1 0 15 (x6).toNatClampNeg), .inl x6, .inr (.inr (some (0, 15)))], D))) bX1_spread_39 oX1_spread_39 rfl ⟨rfl, hb3, trivial⟩ ?_
        refine mz_Go.ite (fun hc4 => ?_) (fun hc4 => ?_)
        · have h := mz_ifp hc4 h
          refine mz_Go.run (gs := []) (st' := (58, [none, some (.inl x1), some (.inr (.inr (some (0, 15)))), none, some (.inl x4), some (.inl x5), some (.inl x6)], [.inl x4, .inl (D.1 0 15 (x6).toNatClampNeg), .inl x6, .inr (.inr (some (0, 15)))], D)) bX1_spread_56 oX1_spread_56 rfl trivial ?_
          exact mz_Go.drop [false, true, true, false, true, true, true] (tX1_spread_15_58 r (fX1_spread_15_23 n) ih x1 x4 x5 x6 x4 (D.1 0 15 (x6).toNatClampNeg) x6 D h)
        · have h := mz_ifn hc4 h
          refine mz_Go.run (gs := []) (st' := (58, [none, some (.inl x1), some (.inr (.inr (some (0, 15)))), none, some (.inl x4), some (.inl x5), some (.inl x6)], [.inl (x4 + (1 : Int32)), .inl (D.1 0 15 (x6).toNatClampNeg), .inl x6, .inr (.inr (some (0, 15)))], D)) bX1_spread_49 oX1_spread_49 rfl trivial ?_
          exact mz_Go.drop [false, true, true, false, true, true, true] (tX1_spread_15_58 r (fX1_spread_15_23 n) ih x1 x4 x5 x6 (x4 + (1 : Int32)) (D.1 0 15 (x6).toNatClampNeg) x6 D h)
def fX1_spread_15 (x0 : Int32) (x1 : Int32) (D : mz_D) : Option mz_D := (if (fJ6_bitCount_0f7a4 x1) = 0 then (some D) else (mz_gd (mz_nz (fJ6_bitCount_0f7a4 x1)) (fX1_spread_15_23 mz_N x1 (x0 / (fJ6_bitCount_0f7a4 x1)) (x0 - x0 / (fJ6_bitCount_0f7a4 x1) * (fJ6_bitCount_0f7a4 x1)) (0 : Int32) D)))
set_option maxHeartbeats 4000000 in
theorem mX1_spread_15 (x0 : Int32) (x1 : Int32) (D : mz_D) (r : mz_D) (h : fX1_spread_15 x0 x1 D = some r) : mz_Met IX1_spread_15 [.inl x0, .inl x1, .inr (.inr (some (0, 15)))] D (none, r) := by
  refine mz_Met.of (by decide +kernel) (Nat.le_of_ble_eq_true rfl) ?_
  show mz_Go IX1_spread_15 (none, r) 0 0 (0, [some (.inl x0), some (.inl x1), some (.inr (.inr (some (0, 15)))), none, none, none, none], [], D)
  rw [fX1_spread_15] at h
  refine mz_Go.run (gs := []) (st' := (1, [some (.inl x0), some (.inl x1), some (.inr (.inr (some (0, 15)))), none, none, none, none], [.inl x1], D)) bX1_spread_0 oX1_spread_0 rfl trivial ?_
  refine mz_Go.callS (I := IX1_spread_15) (J := IJ6_bitCount_0f7a4) (as := [.inl x1]) (idx := 91) (pl := 1068) (rest := []) (mJ6_bitCount_0f7a4 x1 D _ rfl) kJ6_bitCount_0f7a4 vJ6_bitCount_0f7a4 (by decide +kernel) (by decide +kernel) (by decide +kernel) rfl rfl ⟨rfl, rfl⟩ rfl ?_
  refine mz_Go.run (gs := []) (st' := (if (fJ6_bitCount_0f7a4 x1) = 0 then (9, [some (.inl x0), some (.inl x1), some (.inr (.inr (some (0, 15)))), some (.inl (fJ6_bitCount_0f7a4 x1)), none, none, none], [], D) else (10, [some (.inl x0), some (.inl x1), some (.inr (.inr (some (0, 15)))), some (.inl (fJ6_bitCount_0f7a4 x1)), none, none, none], [], D))) bX1_spread_4 oX1_spread_4 rfl trivial ?_
  refine mz_Go.ite (fun hc1 => ?_) (fun hc1 => ?_)
  · have h := mz_ifp hc1 h
    cases h
    exact mz_Go.retv (by decide +kernel) rfl ⟨Nat.le_refl _, Nat.le_refl _⟩ rfl
  · have h := mz_ifn hc1 h
    obtain ⟨hb2, h⟩ := mz_gd_some h
    refine mz_Go.run (gs := [mz_nz (fJ6_bitCount_0f7a4 x1), mz_nz (fJ6_bitCount_0f7a4 x1)]) (st' := (23, [some (.inl x0), some (.inl x1), some (.inr (.inr (some (0, 15)))), some (.inl (fJ6_bitCount_0f7a4 x1)), some (.inl (x0 / (fJ6_bitCount_0f7a4 x1))), some (.inl (x0 - x0 / (fJ6_bitCount_0f7a4 x1) * (fJ6_bitCount_0f7a4 x1))), some (.inl (0 : Int32))], [], D)) bX1_spread_10 oX1_spread_10 rfl ⟨hb2, hb2, trivial⟩ ?_
    exact mz_Go.drop [false, true, true, false, true, true, true] (tX1_spread_15_23 r mz_N x1 (x0 / (fJ6_bitCount_0f7a4 x1)) (x0 - x0 / (fJ6_bitCount_0f7a4 x1) * (fJ6_bitCount_0f7a4 x1)) (0 : Int32) D h)
abbrev IX1_fillEaten_15 : mz_I := (yX1_fillEaten, cX1_fillEaten, 6, none, 0, 2, 0, 0)
theorem kX1_fillEaten_15 : mz_okm IX1_fillEaten_15 1061 136 1059 2 = true := by decide +kernel
theorem vX1_fillEaten_15 : mz_okV IX1_fillEaten_15 1059 1060 = true := by decide +kernel
def fX1_fillEaten_15_10 (g0 : Nat) (g1 : Nat) : Nat → Int32 → Int32 → mz_D → Option mz_D
  | 0 => fun _ _ _ => none
  | n + 1 => fun x3 x4 D => (if (D.1 g0 109 0) ≤ x4 then (Option.bind (fX1_spread_15 x3 (((1 : Int32) <<< ((D.1 g1 101 0) &&& 31)) - (1 : Int32)) D) fun q2 => (some q2)) else (mz_gd (mz_ix x4 16) (if (fX4_has g1 (D.1 g0 111 (x4).toNatClampNeg) D) = 0 then ((fX1_fillEaten_15_10 g0 g1 n) (x3 + (D.1 g0 110 (x4).toNatClampNeg)) (x4 + (1 : Int32)) D) else (mz_gd (mz_ix (D.1 g0 111 (x4).toNatClampNeg) 6) ((fX1_fillEaten_15_10 g0 g1 n) x3 (x4 + (1 : Int32)) (mz_wi D 0 15 ((D.1 g0 111 (x4).toNatClampNeg)).toNatClampNeg ((D.1 0 15 ((D.1 g0 111 (x4).toNatClampNeg)).toNatClampNeg) + (D.1 g0 110 (x4).toNatClampNeg))))))))
set_option maxHeartbeats 4000000 in
theorem tX1_fillEaten_15_10 (g0 : Nat) (g1 : Nat) (hg0 : mz_tb g0 = true) (hg1 : mz_tb g1 = true) (r : mz_D) : ∀ (n : Nat) (x3 : Int32) (x4 : Int32) (D : mz_D), fX1_fillEaten_15_10 g0 g1 n x3 x4 D = some r → mz_Go IX1_fillEaten_15 (none, r) 0 0 (10, [some (.inr (.inr (some (g0, 109)))), some (.inr (.inr (some (g1, 101)))), some (.inr (.inr (some (0, 15)))), some (.inl x3), some (.inl x4), none], [], D) := by
  intro n
  induction n with
  | zero => intro x3 x4 D h; have h : (none : Option mz_D) = some r := h; cases h
  | succ n ih =>
    intro x3 x4 D h
    rw [fX1_fillEaten_15_10] at h
    refine mz_Go.run (gs := [mz_kz 0 g0 109]) (st' := (if (D.1 g0 109 0) ≤ x4 then (70, [some (.inr (.inr (some (g0, 109)))), some (.inr (.inr (some (g1, 101)))), some (.inr (.inr (some (0, 15)))), some (.inl x3), some (.inl x4), none], [], D) else (19, [some (.inr (.inr (some (g0, 109)))), some (.inr (.inr (some (g1, 101)))), some (.inr (.inr (some (0, 15)))), some (.inl x3), some (.inl x4), none], [], D))) bX1_fillEaten_10 oX1_fillEaten_10 rfl ⟨hg0, trivial⟩ ?_
    refine mz_Go.ite (fun hc1 => ?_) (fun hc1 => ?_)
    · have h := mz_ifp hc1 h
      refine mz_Go.run (gs := []) (st' := (72, [some (.inr (.inr (some (g0, 109)))), some (.inr (.inr (some (g1, 101)))), some (.inr (.inr (some (0, 15)))), some (.inl x3), some (.inl x4), none], [.inr (.inr (some (g1, 101))), .inl x3], D)) bX1_fillEaten_70 oX1_fillEaten_70 rfl trivial ?_
      refine mz_Go.callV (I := IX1_fillEaten_15) (J := IX4_everyone) (as := []) (ci := 4) (g := g1) (o := 101) (idx := 44) (pl := 1064) (rest := [.inl x3]) (mX4_everyone g1 D hg1) kX4_everyone vX4_everyone (by decide +kernel) (by decide +kernel) (by decide +kernel) rfl rfl ⟨rfl, rfl⟩ rfl rfl hg1 rfl ?_
      refine mz_Go.run (gs := []) (st' := (76, [some (.inr (.inr (some (g0, 109)))), some (.inr (.inr (some (g1, 101)))), some (.inr (.inr (some (0, 15)))), some (.inl x3), some (.inl x4), none], [.inr (.inr (some (0, 15))), .inl (((1 : Int32) <<< ((D.1 g1 101 0) &&& 31)) - (1 : Int32)), .inl x3], D)) bX1_fillEaten_75 oX1_fillEaten_75 rfl trivial ?_
      obtain ⟨q2, hq2, h⟩ := mz_bd_some h
      refine mz_Go.callS (I := IX1_fillEaten_15) (J := IX1_spread_15) (as := [.inl x3, .inl (((1 : Int32) <<< ((D.1 g1 101 0) &&& 31)) - (1 : Int32)), .inr (.inr (some (0, 15)))]) (idx := 48) (pl := 1065) (rest := []) (mX1_spread_15 x3 (((1 : Int32) <<< ((D.1 g1 101 0) &&& 31)) - (1 : Int32)) D q2 hq2) kX1_spread_15 vX1_spread_15 (by decide +kernel) (by decide +kernel) (by decide +kernel) rfl rfl ⟨rfl, rfl⟩ rfl ?_
      cases h
      exact mz_Go.retv (by decide +kernel) rfl ⟨Nat.le_refl _, Nat.le_refl _⟩ rfl
    · have h := mz_ifn hc1 h
      obtain ⟨hb3, h⟩ := mz_gd_some h
      refine mz_Go.run (gs := [mz_kz 0 g0 109, mz_kz 0 g0 111, mz_ix x4 16]) (st' := (31, [some (.inr (.inr (some (g0, 109)))), some (.inr (.inr (some (g1, 101)))), some (.inr (.inr (some (0, 15)))), some (.inl x3), some (.inl x4), some (.inl (D.1 g0 111 (x4).toNatClampNeg))], [.inl (D.1 g0 111 (x4).toNatClampNeg), .inr (.inr (some (g1, 101)))], D)) bX1_fillEaten_19 oX1_fillEaten_19 rfl ⟨hg0, hg0, hb3, trivial⟩ ?_
      refine mz_Go.callV (I := IX1_fillEaten_15) (J := IX4_has) (as := [.inl (D.1 g0 111 (x4).toNatClampNeg)]) (ci := 4) (g := g1) (o := 101) (idx := 38) (pl := 1063) (rest := []) (mX4_has g1 (D.1 g0 111 (x4).toNatClampNeg) D hg1 _ rfl) kX4_has vX4_has (by decide +kernel) (by decide +kernel) (by decide +kernel) rfl rfl ⟨rfl, rfl⟩ rfl rfl hg1 rfl ?_
      refine mz_Go.run (gs := []) (st' := (if (fX4_has g1 (D.1 g0 111 (x4).toNatClampNeg) D) = 0 then (54, [some (.inr (.inr (some (g0, 109)))), some (.inr (.inr (some (g1, 101)))), some (.inr (.inr (some (0, 15)))), some (.inl x3), some (.inl x4), some (.inl (D.1 g0 111 (x4).toNatClampNeg))], [], D) else (37, [some (.inr (.inr (some (g0, 109)))), some (.inr (.inr (some (g1, 101)))), some (.inr (.inr (some (0, 15)))), some (.inl x3), some (.inl x4), some (.inl (D.1 g0 111 (x4).toNatClampNeg))], [], D))) bX1_fillEaten_34 oX1_fillEaten_34 rfl trivial ?_
      refine mz_Go.ite (fun hc4 => ?_) (fun hc4 => ?_)
      · have h := mz_ifp hc4 h
        refine mz_Go.run (gs := [mz_kz 0 g0 109, mz_kz 0 g0 110, mz_ix x4 16]) (st' := (10, [some (.inr (.inr (some (g0, 109)))), some (.inr (.inr (some (g1, 101)))), some (.inr (.inr (some (0, 15)))), some (.inl (x3 + (D.1 g0 110 (x4).toNatClampNeg))), some (.inl (x4 + (1 : Int32))), some (.inl (D.1 g0 111 (x4).toNatClampNeg))], [], D)) bX1_fillEaten_54 oX1_fillEaten_54 rfl ⟨hg0, hg0, hb3, trivial⟩ ?_
        exact mz_Go.drop [true, true, true, true, true, false] (ih (x3 + (D.1 g0 110 (x4).toNatClampNeg)) (x4 + (1 : Int32)) D h)
      · have h := mz_ifn hc4 h
        obtain ⟨hb5, h⟩ := mz_gd_some h
        refine mz_Go.run (gs := [mz_kz 0 0 15, mz_ix (D.1 g0 111 (x4).toNatClampNeg) 6, mz_kz 0 g0 109, mz_kz 0 g0 110, mz_ix x4 16, mz_kz 0 0 15, mz_ix (D.1 g0 111 (x4).toNatClampNeg) 6]) (st' := (10, [some (.inr (.inr (some (g0, 109)))), some (.inr (.inr (some (g1, 101)))), some (.inr (.inr (some (0, 15)))), some (.inl x3), some (.inl (x4 + (1 : Int32))), some (.inl (D.1 g0 111 (x4).toNatClampNeg))], [], (mz_wi D 0 15 ((D.1 g0 111 (x4).toNatClampNeg)).toNatClampNeg ((D.1 0 15 ((D.1 g0 111 (x4).toNatClampNeg)).toNatClampNeg) + (D.1 g0 110 (x4).toNatClampNeg))))) bX1_fillEaten_37 oX1_fillEaten_37 rfl ⟨rfl, hb5, hg0, hg0, hb3, rfl, hb5, trivial⟩ ?_
        exact mz_Go.drop [true, true, true, true, true, false] (ih x3 (x4 + (1 : Int32)) (mz_wi D 0 15 ((D.1 g0 111 (x4).toNatClampNeg)).toNatClampNeg ((D.1 0 15 ((D.1 g0 111 (x4).toNatClampNeg)).toNatClampNeg) + (D.1 g0 110 (x4).toNatClampNeg))) h)
def fX1_fillEaten_15 (g0 : Nat) (g1 : Nat) (D : mz_D) : Option mz_D := (Option.bind (fJ7_fill_53178_15 (0 : Int32) D) fun q1 => (fX1_fillEaten_15_10 g0 g1 mz_N (0 : Int32) (0 : Int32) q1))
set_option maxHeartbeats 4000000 in
theorem mX1_fillEaten_15 (g0 : Nat) (g1 : Nat) (D : mz_D) (hg0 : mz_tb g0 = true) (hg1 : mz_tb g1 = true) (r : mz_D) (h : fX1_fillEaten_15 g0 g1 D = some r) : mz_Met IX1_fillEaten_15 [.inr (.inr (some (g0, 109))), .inr (.inr (some (g1, 101))), .inr (.inr (some (0, 15)))] D (none, r) := by
  refine mz_Met.of (by decide +kernel) (Nat.le_of_ble_eq_true rfl) ?_
  show mz_Go IX1_fillEaten_15 (none, r) 0 0 (0, [some (.inr (.inr (some (g0, 109)))), some (.inr (.inr (some (g1, 101)))), some (.inr (.inr (some (0, 15)))), none, none, none], [], D)
  rw [fX1_fillEaten_15] at h
  refine mz_Go.run (gs := []) (st' := (2, [some (.inr (.inr (some (g0, 109)))), some (.inr (.inr (some (g1, 101)))), some (.inr (.inr (some (0, 15)))), none, none, none], [.inl (0 : Int32), .inr (.inr (some (0, 15)))], D)) bX1_fillEaten_0 oX1_fillEaten_0 rfl trivial ?_
  obtain ⟨q1, hq1, h⟩ := mz_bd_some h
  refine mz_Go.callS (I := IX1_fillEaten_15) (J := IJ7_fill_53178_15) (as := [.inr (.inr (some (0, 15))), .inl (0 : Int32)]) (idx := 32) (pl := 1062) (rest := []) (mJ7_fill_53178_15 (0 : Int32) D q1 hq1) kJ7_fill_53178_15 vJ7_fill_53178_15 (by decide +kernel) (by decide +kernel) (by decide +kernel) rfl rfl ⟨rfl, rfl⟩ rfl ?_
  refine mz_Go.run (gs := []) (st' := (10, [some (.inr (.inr (some (g0, 109)))), some (.inr (.inr (some (g1, 101)))), some (.inr (.inr (some (0, 15)))), some (.inl (0 : Int32)), some (.inl (0 : Int32)), none], [], q1)) bX1_fillEaten_5 oX1_fillEaten_5 rfl trivial ?_
  exact mz_Go.drop [true, true, true, true, true, false] (tX1_fillEaten_15_10 g0 g1 hg0 hg1 r mz_N (0 : Int32) (0 : Int32) q1 h)
def bX11_eaten_0 : List mz_E := [(0, .aload_n 0, 0, 0, 0, 0, 0), (1, .getfield 32, 11, 4, 563, 0, 0), (4, .getfield 151, 6, 0, 477, 0, 0), (7, .iload_n 1, 0, 0, 0, 0, 0)]
theorem oX11_eaten_0 : bX11_eaten_0.all (mz_ok RX11 cX11_eaten 2) = true := by decide +kernel
def bX11_eaten_11 : List mz_E := [(11, .ifCond .ne 9, 0, 20, 0, 0, 0)]
theorem oX11_eaten_11 : bX11_eaten_11.all (mz_ok RX11 cX11_eaten 2) = true := by decide +kernel
def bX11_eaten_14 : List mz_E := [(14, .aload_n 0, 0, 0, 0, 0, 0), (15, .iconst 1, 0, 0, 0, 1, 0)]
theorem oX11_eaten_14 : bX11_eaten_14.all (mz_ok RX11 cX11_eaten 2) = true := by decide +kernel
def bX11_eaten_20 : List mz_E := [(20, .aload_n 0, 0, 0, 0, 0, 0), (21, .getfield 32, 11, 4, 563, 0, 0), (24, .getfield 183, 6, 1, 481, 0, 0), (27, .aload_n 0, 0, 0, 0, 0, 0), (28, .getfield 32, 11, 4, 563, 0, 0), (31, .getfield 151, 6, 0, 477, 0, 0), (34, .aload_n 0, 0, 0, 0, 0, 0), (35, .getfield 57, 11, 12, 571, 0, 0)]
theorem oX11_eaten_20 : bX11_eaten_20.all (mz_ok RX11 cX11_eaten 2) = true := by decide +kernel
def bX11_eaten_41 : List mz_E := [(41, .aload_n 0, 0, 0, 0, 0, 0), (42, .aload_n 0, 0, 0, 0, 0, 0), (43, .getfield 57, 11, 12, 571, 0, 0), (46, .iload_n 1, 0, 0, 0, 0, 0), (47, .iaload, 0, 0, 0, 0, 0)]
theorem oX11_eaten_41 : bX11_eaten_41.all (mz_ok RX11 cX11_eaten 2) = true := by decide +kernel
abbrev IX11_eaten : mz_I := (yX11_eaten, cX11_eaten, 2, (some .int), 0, 3, 0, 0)
theorem kX11_eaten : mz_okm IX11_eaten 1057 126 1055 1 = true := by decide +kernel
theorem vX11_eaten : mz_okV IX11_eaten 1055 1056 = true := by decide +kernel
def fX11_eaten (x1 : Int32) (D : mz_D) : Option (Int32 × mz_D) := (if (fX4_has 1 x1 D) = 0 then (some ((-1 : Int32), (mz_wi D 0 0 13 (1 : Int32)))) else (Option.bind (fX1_fillEaten_15 1 1 D) fun q2 => (mz_gd (mz_ix x1 6) (some ((q2.1 0 15 (x1).toNatClampNeg), (mz_wi q2 0 0 13 (0 : Int32)))))))
set_option maxHeartbeats 4000000 in
theorem mX11_eaten (x1 : Int32) (D : mz_D) (r : (Int32 × mz_D)) (h : fX11_eaten x1 D = some r) : mz_Met IX11_eaten [.inr (.inr (some (0, 0))), .inl x1] D (some (.inl r.1), r.2) := by
  refine mz_Met.of (by decide +kernel) (Nat.le_of_ble_eq_true rfl) ?_
  show mz_Go IX11_eaten (some (.inl r.1), r.2) 0 0 (0, [some (.inr (.inr (some (0, 0)))), some (.inl x1)], [], D)
  rw [fX11_eaten] at h
  refine mz_Go.run (gs := [mz_kz 0 0 0, mz_kz 0 1 100]) (st' := (8, [some (.inr (.inr (some (0, 0)))), some (.inl x1)], [.inl x1, .inr (.inr (some (1, 101)))], D)) bX11_eaten_0 oX11_eaten_0 rfl ⟨rfl, rfl, trivial⟩ ?_
  refine mz_Go.callV (I := IX11_eaten) (J := IX4_has) (as := [.inl x1]) (ci := 4) (g := 1) (o := 101) (idx := 229) (pl := 1042) (rest := []) (mX4_has 1 x1 D rfl _ rfl) kX4_has vX4_has (by decide +kernel) (by decide +kernel) (by decide +kernel) rfl rfl ⟨rfl, rfl⟩ rfl rfl rfl rfl ?_
  refine mz_Go.run (gs := []) (st' := (if (fX4_has 1 x1 D) = 0 then (14, [some (.inr (.inr (some (0, 0)))), some (.inl x1)], [], D) else (20, [some (.inr (.inr (some (0, 0)))), some (.inl x1)], [], D))) bX11_eaten_11 oX11_eaten_11 rfl trivial ?_
  refine mz_Go.ite (fun hc1 => ?_) (fun hc1 => ?_)
  · have h := mz_ifp hc1 h
    refine mz_Go.run (gs := []) (st' := (16, [some (.inr (.inr (some (0, 0)))), some (.inl x1)], [.inl (1 : Int32), .inr (.inr (some (0, 0)))], D)) bX11_eaten_14 oX11_eaten_14 rfl trivial ?_
    refine mz_Go.callV (I := IX11_eaten) (J := IX11_refuse) (as := [.inl (1 : Int32)]) (ci := 11) (g := 0) (o := 0) (idx := 100) (pl := 673) (rest := []) (mX11_refuse (1 : Int32) D) kX11_refuse vX11_refuse (by decide +kernel) (by decide +kernel) (by decide +kernel) rfl rfl ⟨rfl, rfl⟩ rfl rfl rfl rfl ?_
    cases h
    exact mz_Go.reti (by decide +kernel) rfl ⟨Nat.le_refl _, Nat.le_refl _⟩ rfl
  · have h := mz_ifn hc1 h
    refine mz_Go.run (gs := [mz_kz 0 0 0, mz_kz 0 1 100, mz_kz 0 0 0, mz_kz 0 1 100, mz_kz 0 0 0]) (st' := (38, [some (.inr (.inr (some (0, 0)))), some (.inl x1)], [.inr (.inr (some (0, 15))), .inr (.inr (some (1, 101))), .inr (.inr (some (1, 109)))], D)) bX11_eaten_20 oX11_eaten_20 rfl ⟨rfl, rfl, rfl, rfl, rfl, trivial⟩ ?_
    obtain ⟨q2, hq2, h⟩ := mz_bd_some h
    refine mz_Go.callV (I := IX11_eaten) (J := IX1_fillEaten_15) (as := [.inr (.inr (some (1, 101))), .inr (.inr (some (0, 15)))]) (ci := 1) (g := 1) (o := 109) (idx := 257) (pl := 1058) (rest := []) (mX1_fillEaten_15 1 1 D rfl rfl q2 hq2) kX1_fillEaten_15 vX1_fillEaten_15 (by decide +kernel) (by decide +kernel) (by decide +kernel) rfl rfl ⟨rfl, rfl⟩ rfl rfl rfl rfl ?_
    obtain ⟨hb3, h⟩ := mz_gd_some h
    refine mz_Go.run (gs := [mz_kz 0 0 0, mz_kz 0 0 15, mz_ix x1 6]) (st' := (48, [some (.inr (.inr (some (0, 0)))), some (.inl x1)], [.inl (q2.1 0 15 (x1).toNatClampNeg), .inr (.inr (some (0, 0)))], q2)) bX11_eaten_41 oX11_eaten_41 rfl ⟨rfl, rfl, hb3, trivial⟩ ?_
    refine mz_Go.callV (I := IX11_eaten) (J := IX11_answer) (as := [.inl (q2.1 0 15 (x1).toNatClampNeg)]) (ci := 11) (g := 0) (o := 0) (idx := 160) (pl := 914) (rest := []) (mX11_answer (q2.1 0 15 (x1).toNatClampNeg) q2) kX11_answer vX11_answer (by decide +kernel) (by decide +kernel) (by decide +kernel) rfl rfl ⟨rfl, rfl⟩ rfl rfl rfl rfl ?_
    cases h
    exact mz_Go.reti (by decide +kernel) rfl ⟨Nat.le_refl _, Nat.le_refl _⟩ rfl
def bX11_isSplit_0 : List mz_E := [(0, .iload_n 0, 0, 0, 0, 0, 0), (1, .ifCond .lt 12, 0, 13, 0, 0, 0)]
theorem oX11_isSplit_0 : bX11_isSplit_0.all (mz_ok RX11 cX11_isSplit 1) = true := by decide +kernel
def bX11_isSplit_13 : List mz_E := [(13, .iconst 0, 0, 0, 0, 0, 0)]
theorem oX11_isSplit_13 : bX11_isSplit_13.all (mz_ok RX11 cX11_isSplit 1) = true := by decide +kernel
def bX11_isSplit_4 : List mz_E := [(4, .iload_n 0, 0, 0, 0, 0, 0), (5, .iconst 2, 0, 0, 0, 2, 0), (6, .if_icmp .gt 7, 0, 13, 0, 0, 0)]
theorem oX11_isSplit_4 : bX11_isSplit_4.all (mz_ok RX11 cX11_isSplit 1) = true := by decide +kernel
def bX11_isSplit_9 : List mz_E := [(9, .iconst 1, 0, 0, 0, 1, 0), (10, .goto 4, 0, 14, 0, 0, 0)]
theorem oX11_isSplit_9 : bX11_isSplit_9.all (mz_ok RX11 cX11_isSplit 1) = true := by decide +kernel
abbrev IX11_isSplit : mz_I := (yX11_isSplit, cX11_isSplit, 1, (some .boolean), 9, 0, 0, 0)
theorem kX11_isSplit : mz_okm IX11_isSplit 1078 126 1077 1 = true := by decide +kernel
theorem vX11_isSplit : mz_okS IX11_isSplit 1077 = true := by decide +kernel
def fX11_isSplit (x0 : Int32) : Int32 := (if x0 < 0 then (0 : Int32) else (if (2 : Int32) < x0 then (0 : Int32) else (1 : Int32)))
set_option maxHeartbeats 4000000 in
theorem mX11_isSplit (x0 : Int32) (D : mz_D) (r : Int32) (h : fX11_isSplit x0 = r) : mz_Met IX11_isSplit [.inl x0] D (some (.inl r), D) := by
  refine mz_Met.of (by decide +kernel) (Nat.le_of_ble_eq_true rfl) ?_
  show mz_Go IX11_isSplit (some (.inl r), D) 0 0 (0, [some (.inl x0)], [], D)
  rw [fX11_isSplit] at h
  refine mz_Go.run (gs := []) (st' := (if x0 < 0 then (13, [some (.inl x0)], [], D) else (4, [some (.inl x0)], [], D))) bX11_isSplit_0 oX11_isSplit_0 rfl trivial ?_
  refine mz_Go.ite (fun hc1 => ?_) (fun hc1 => ?_)
  · have h := mz_ifp hc1 h
    refine mz_Go.run (gs := []) (st' := (14, [some (.inl x0)], [.inl (0 : Int32)], D)) bX11_isSplit_13 oX11_isSplit_13 rfl trivial ?_
    subst h
    exact mz_Go.retz (by decide +kernel) rfl ⟨Nat.le_refl _, Nat.le_refl _⟩ (by decide) rfl
  · have h := mz_ifn hc1 h
    refine mz_Go.run (gs := []) (st' := (if (2 : Int32) < x0 then (13, [some (.inl x0)], [], D) else (9, [some (.inl x0)], [], D))) bX11_isSplit_4 oX11_isSplit_4 rfl trivial ?_
    refine mz_Go.ite (fun hc2 => ?_) (fun hc2 => ?_)
    · have h := mz_ifp hc2 h
      refine mz_Go.run (gs := []) (st' := (14, [some (.inl x0)], [.inl (0 : Int32)], D)) bX11_isSplit_13 oX11_isSplit_13 rfl trivial ?_
      subst h
      exact mz_Go.retz (by decide +kernel) rfl ⟨Nat.le_refl _, Nat.le_refl _⟩ (by decide) rfl
    · have h := mz_ifn hc2 h
      refine mz_Go.run (gs := []) (st' := (14, [some (.inl x0)], [.inl (1 : Int32)], D)) bX11_isSplit_9 oX11_isSplit_9 rfl trivial ?_
      subst h
      exact mz_Go.retz (by decide +kernel) rfl ⟨Nat.le_refl _, Nat.le_refl _⟩ (by decide) rfl
def bX11_due_0 : List mz_E := [(0, .aload_n 0, 0, 0, 0, 0, 0), (1, .getfield 32, 11, 4, 563, 0, 0), (4, .getfield 151, 6, 0, 477, 0, 0), (7, .iload_n 1, 0, 0, 0, 0, 0)]
theorem oX11_due_0 : bX11_due_0.all (mz_ok RX11 cX11_due 3) = true := by decide +kernel
def bX11_due_11 : List mz_E := [(11, .ifCond .eq 10, 0, 21, 0, 0, 0)]
theorem oX11_due_11 : bX11_due_11.all (mz_ok RX11 cX11_due 3) = true := by decide +kernel
def bX11_due_21 : List mz_E := [(21, .aload_n 0, 0, 0, 0, 0, 0), (22, .iconst 1, 0, 0, 0, 1, 0)]
theorem oX11_due_21 : bX11_due_21.all (mz_ok RX11 cX11_due 3) = true := by decide +kernel
def bX11_due_14 : List mz_E := [(14, .iload_n 2, 0, 0, 0, 0, 0)]
theorem oX11_due_14 : bX11_due_14.all (mz_ok RX11 cX11_due 3) = true := by decide +kernel
def bX11_due_18 : List mz_E := [(18, .ifCond .ne 9, 0, 27, 0, 0, 0)]
theorem oX11_due_18 : bX11_due_18.all (mz_ok RX11 cX11_due 3) = true := by decide +kernel
def bX11_due_27 : List mz_E := [(27, .aload_n 0, 0, 0, 0, 0, 0), (28, .getfield 32, 11, 4, 563, 0, 0), (31, .getfield 183, 6, 1, 481, 0, 0), (34, .aload_n 0, 0, 0, 0, 0, 0), (35, .getfield 32, 11, 4, 563, 0, 0), (38, .getfield 151, 6, 0, 477, 0, 0), (41, .iload_n 2, 0, 0, 0, 0, 0), (42, .aload_n 0, 0, 0, 0, 0, 0), (43, .getfield 54, 11, 11, 570, 0, 0)]
theorem oX11_due_27 : bX11_due_27.all (mz_ok RX11 cX11_due 3) = true := by decide +kernel
def bX11_due_49 : List mz_E := [(49, .aload_n 0, 0, 0, 0, 0, 0), (50, .aload_n 0, 0, 0, 0, 0, 0), (51, .getfield 54, 11, 11, 570, 0, 0), (54, .iload_n 1, 0, 0, 0, 0, 0), (55, .iaload, 0, 0, 0, 0, 0)]
theorem oX11_due_49 : bX11_due_49.all (mz_ok RX11 cX11_due 3) = true := by decide +kernel
abbrev IX11_due : mz_I := (yX11_due, cX11_due, 3, (some .int), 0, 4, 0, 0)
theorem kX11_due : mz_okm IX11_due 1075 126 1073 2 = true := by decide +kernel
theorem vX11_due : mz_okV IX11_due 1073 1074 = true := by decide +kernel
def fX11_due (x1 : Int32) (x2 : Int32) (D : mz_D) : Option (Int32 × mz_D) := (if (fX4_has 1 x1 D) = 0 then (some ((-1 : Int32), (mz_wi D 0 0 13 (1 : Int32)))) else (if (fX11_isSplit x2) = 0 then (some ((-1 : Int32), (mz_wi D 0 0 13 (1 : Int32)))) else (Option.bind (fX1_fillDues_14 1 1 x2 D) fun q3 => (mz_gd (mz_ix x1 6) (some ((q3.1 0 14 (x1).toNatClampNeg), (mz_wi q3 0 0 13 (0 : Int32))))))))
set_option maxHeartbeats 4000000 in
theorem mX11_due (x1 : Int32) (x2 : Int32) (D : mz_D) (r : (Int32 × mz_D)) (h : fX11_due x1 x2 D = some r) : mz_Met IX11_due [.inr (.inr (some (0, 0))), .inl x1, .inl x2] D (some (.inl r.1), r.2) := by
  refine mz_Met.of (by decide +kernel) (Nat.le_of_ble_eq_true rfl) ?_
  show mz_Go IX11_due (some (.inl r.1), r.2) 0 0 (0, [some (.inr (.inr (some (0, 0)))), some (.inl x1), some (.inl x2)], [], D)
  rw [fX11_due] at h
  refine mz_Go.run (gs := [mz_kz 0 0 0, mz_kz 0 1 100]) (st' := (8, [some (.inr (.inr (some (0, 0)))), some (.inl x1), some (.inl x2)], [.inl x1, .inr (.inr (some (1, 101)))], D)) bX11_due_0 oX11_due_0 rfl ⟨rfl, rfl, trivial⟩ ?_
  refine mz_Go.callV (I := IX11_due) (J := IX4_has) (as := [.inl x1]) (ci := 4) (g := 1) (o := 101) (idx := 229) (pl := 1042) (rest := []) (mX4_has 1 x1 D rfl _ rfl) kX4_has vX4_has (by decide +kernel) (by decide +kernel) (by decide +kernel) rfl rfl ⟨rfl, rfl⟩ rfl rfl rfl rfl ?_
  refine mz_Go.run (gs := []) (st' := (if (fX4_has 1 x1 D) = 0 then (21, [some (.inr (.inr (some (0, 0)))), some (.inl x1), some (.inl x2)], [], D) else (14, [some (.inr (.inr (some (0, 0)))), some (.inl x1), some (.inl x2)], [], D))) bX11_due_11 oX11_due_11 rfl trivial ?_
  refine mz_Go.ite (fun hc1 => ?_) (fun hc1 => ?_)
  · have h := mz_ifp hc1 h
    refine mz_Go.run (gs := []) (st' := (23, [some (.inr (.inr (some (0, 0)))), some (.inl x1), some (.inl x2)], [.inl (1 : Int32), .inr (.inr (some (0, 0)))], D)) bX11_due_21 oX11_due_21 rfl trivial ?_
    refine mz_Go.callV (I := IX11_due) (J := IX11_refuse) (as := [.inl (1 : Int32)]) (ci := 11) (g := 0) (o := 0) (idx := 100) (pl := 673) (rest := []) (mX11_refuse (1 : Int32) D) kX11_refuse vX11_refuse (by decide +kernel) (by decide +kernel) (by decide +kernel) rfl rfl ⟨rfl, rfl⟩ rfl rfl rfl rfl ?_
    cases h
    exact mz_Go.reti (by decide +kernel) rfl ⟨Nat.le_refl _, Nat.le_refl _⟩ rfl
  · have h := mz_ifn hc1 h
    refine mz_Go.run (gs := []) (st' := (15, [some (.inr (.inr (some (0, 0)))), some (.inl x1), some (.inl x2)], [.inl x2], D)) bX11_due_14 oX11_due_14 rfl trivial ?_
    refine mz_Go.callS (I := IX11_due) (J := IX11_isSplit) (as := [.inl x2]) (idx := 261) (pl := 1076) (rest := []) (mX11_isSplit x2 D _ rfl) kX11_isSplit vX11_isSplit (by decide +kernel) (by decide +kernel) (by decide +kernel) rfl rfl ⟨rfl, rfl⟩ rfl ?_
    refine mz_Go.run (gs := []) (st' := (if (fX11_isSplit x2) = 0 then (21, [some (.inr (.inr (some (0, 0)))), some (.inl x1), some (.inl x2)], [], D) else (27, [some (.inr (.inr (some (0, 0)))), some (.inl x1), some (.inl x2)], [], D))) bX11_due_18 oX11_due_18 rfl trivial ?_
    refine mz_Go.ite (fun hc2 => ?_) (fun hc2 => ?_)
    · have h := mz_ifp hc2 h
      refine mz_Go.run (gs := []) (st' := (23, [some (.inr (.inr (some (0, 0)))), some (.inl x1), some (.inl x2)], [.inl (1 : Int32), .inr (.inr (some (0, 0)))], D)) bX11_due_21 oX11_due_21 rfl trivial ?_
      refine mz_Go.callV (I := IX11_due) (J := IX11_refuse) (as := [.inl (1 : Int32)]) (ci := 11) (g := 0) (o := 0) (idx := 100) (pl := 673) (rest := []) (mX11_refuse (1 : Int32) D) kX11_refuse vX11_refuse (by decide +kernel) (by decide +kernel) (by decide +kernel) rfl rfl ⟨rfl, rfl⟩ rfl rfl rfl rfl ?_
      cases h
      exact mz_Go.reti (by decide +kernel) rfl ⟨Nat.le_refl _, Nat.le_refl _⟩ rfl
    · have h := mz_ifn hc2 h
      refine mz_Go.run (gs := [mz_kz 0 0 0, mz_kz 0 1 100, mz_kz 0 0 0, mz_kz 0 1 100, mz_kz 0 0 0]) (st' := (46, [some (.inr (.inr (some (0, 0)))), some (.inl x1), some (.inl x2)], [.inr (.inr (some (0, 14))), .inl x2, .inr (.inr (some (1, 101))), .inr (.inr (some (1, 109)))], D)) bX11_due_27 oX11_due_27 rfl ⟨rfl, rfl, rfl, rfl, rfl, trivial⟩ ?_
      obtain ⟨q3, hq3, h⟩ := mz_bd_some h
      refine mz_Go.callV (I := IX11_due) (J := IX1_fillDues_14) (as := [.inr (.inr (some (1, 101))), .inl x2, .inr (.inr (some (0, 14)))]) (ci := 1) (g := 1) (o := 109) (idx := 264) (pl := 1079) (rest := []) (mX1_fillDues_14 1 1 x2 D rfl rfl q3 hq3) kX1_fillDues_14 vX1_fillDues_14 (by decide +kernel) (by decide +kernel) (by decide +kernel) rfl rfl ⟨rfl, rfl⟩ rfl rfl rfl rfl ?_
      obtain ⟨hb4, h⟩ := mz_gd_some h
      refine mz_Go.run (gs := [mz_kz 0 0 0, mz_kz 0 0 14, mz_ix x1 6]) (st' := (56, [some (.inr (.inr (some (0, 0)))), some (.inl x1), some (.inl x2)], [.inl (q3.1 0 14 (x1).toNatClampNeg), .inr (.inr (some (0, 0)))], q3)) bX11_due_49 oX11_due_49 rfl ⟨rfl, rfl, hb4, trivial⟩ ?_
      refine mz_Go.callV (I := IX11_due) (J := IX11_answer) (as := [.inl (q3.1 0 14 (x1).toNatClampNeg)]) (ci := 11) (g := 0) (o := 0) (idx := 160) (pl := 914) (rest := []) (mX11_answer (q3.1 0 14 (x1).toNatClampNeg) q3) kX11_answer vX11_answer (by decide +kernel) (by decide +kernel) (by decide +kernel) rfl rfl ⟨rfl, rfl⟩ rfl rfl rfl rfl ?_
      cases h
      exact mz_Go.reti (by decide +kernel) rfl ⟨Nat.le_refl _, Nat.le_refl _⟩ rfl
def bJ9_abs_0f7a4_0 : List mz_E := [(0, .iload_n 0, 0, 0, 0, 0, 0), (1, .ifCond .ge 8, 0, 9, 0, 0, 0)]
theorem oJ9_abs_0f7a4_0 : bJ9_abs_0f7a4_0.all (mz_ok RJ9 cJ9_abs_0f7a4 1) = true := by decide +kernel
def bJ9_abs_0f7a4_9 : List mz_E := [(9, .iload_n 0, 0, 0, 0, 0, 0)]
theorem oJ9_abs_0f7a4_9 : bJ9_abs_0f7a4_9.all (mz_ok RJ9 cJ9_abs_0f7a4 1) = true := by decide +kernel
def bJ9_abs_0f7a4_4 : List mz_E := [(4, .iload_n 0, 0, 0, 0, 0, 0), (5, .ineg, 0, 0, 0, 0, 0), (6, .goto 4, 0, 10, 0, 0, 0)]
theorem oJ9_abs_0f7a4_4 : bJ9_abs_0f7a4_4.all (mz_ok RJ9 cJ9_abs_0f7a4 1) = true := by decide +kernel
abbrev IJ9_abs_0f7a4 : mz_I := (yJ9_abs_0f7a4, cJ9_abs_0f7a4, 1, (some .int), 9, 0, 0, 0)
theorem kJ9_abs_0f7a4 : mz_okm IJ9_abs_0f7a4 1105 143 1104 1 = true := by decide +kernel
theorem vJ9_abs_0f7a4 : mz_okS IJ9_abs_0f7a4 1104 = true := by decide +kernel
def fJ9_abs_0f7a4 (x0 : Int32) : Int32 := (if 0 ≤ x0 then x0 else (-x0))
set_option maxHeartbeats 4000000 in
theorem mJ9_abs_0f7a4 (x0 : Int32) (D : mz_D) (r : Int32) (h : fJ9_abs_0f7a4 x0 = r) : mz_Met IJ9_abs_0f7a4 [.inl x0] D (some (.inl r), D) := by
  refine mz_Met.of (by decide +kernel) (Nat.le_of_ble_eq_true rfl) ?_
  show mz_Go IJ9_abs_0f7a4 (some (.inl r), D) 0 0 (0, [some (.inl x0)], [], D)
  rw [fJ9_abs_0f7a4] at h
  refine mz_Go.run (gs := []) (st' := (if 0 ≤ x0 then (9, [some (.inl x0)], [], D) else (4, [some (.inl x0)], [], D))) bJ9_abs_0f7a4_0 oJ9_abs_0f7a4_0 rfl trivial ?_
  refine mz_Go.ite (fun hc1 => ?_) (fun hc1 => ?_)
  · have h := mz_ifp hc1 h
    refine mz_Go.run (gs := []) (st' := (10, [some (.inl x0)], [.inl x0], D)) bJ9_abs_0f7a4_9 oJ9_abs_0f7a4_9 rfl trivial ?_
    subst h
    exact mz_Go.reti (by decide +kernel) rfl ⟨Nat.le_refl _, Nat.le_refl _⟩ rfl
  · have h := mz_ifn hc1 h
    refine mz_Go.run (gs := []) (st' := (10, [some (.inl x0)], [.inl (-x0)], D)) bJ9_abs_0f7a4_4 oJ9_abs_0f7a4_4 rfl trivial ?_
    subst h
    exact mz_Go.reti (by decide +kernel) rfl ⟨Nat.le_refl _, Nat.le_refl _⟩ rfl
def bX11_unfairness_0 : List mz_E := [(0, .aload_n 0, 0, 0, 0, 0, 0), (1, .getfield 32, 11, 4, 563, 0, 0), (4, .getfield 183, 6, 1, 481, 0, 0), (7, .aload_n 0, 0, 0, 0, 0, 0), (8, .getfield 32, 11, 4, 563, 0, 0), (11, .getfield 151, 6, 0, 477, 0, 0), (14, .iload_n 1, 0, 0, 0, 0, 0), (15, .aload_n 0, 0, 0, 0, 0, 0), (16, .getfield 54, 11, 11, 570, 0, 0)]
theorem oX11_unfairness_0 : bX11_unfairness_0.all (mz_ok RX11 cX11_unfairness 4) = true := by decide +kernel
def bX11_unfairness_22 : List mz_E := [(22, .aload_n 0, 0, 0, 0, 0, 0), (23, .getfield 32, 11, 4, 563, 0, 0), (26, .getfield 183, 6, 1, 481, 0, 0), (29, .aload_n 0, 0, 0, 0, 0, 0), (30, .getfield 32, 11, 4, 563, 0, 0), (33, .getfield 151, 6, 0, 477, 0, 0), (36, .aload_n 0, 0, 0, 0, 0, 0), (37, .getfield 57, 11, 12, 571, 0, 0)]
theorem oX11_unfairness_22 : bX11_unfairness_22.all (mz_ok RX11 cX11_unfairness 4) = true := by decide +kernel
def bX11_unfairness_43 : List mz_E := [(43, .iconst 0, 0, 0, 0, 0, 0), (44, .istore_n 2, 0, 0, 0, 0, 0), (45, .iconst 0, 0, 0, 0, 0, 0), (46, .istore_n 3, 0, 0, 0, 0, 0)]
theorem oX11_unfairness_43 : bX11_unfairness_43.all (mz_ok RX11 cX11_unfairness 4) = true := by decide +kernel
def bX11_unfairness_47 : List mz_E := [(47, .iload_n 3, 0, 0, 0, 0, 0), (48, .aload_n 0, 0, 0, 0, 0, 0), (49, .getfield 32, 11, 4, 563, 0, 0), (52, .getfield 151, 6, 0, 477, 0, 0), (55, .getfield 155, 4, 0, 290, 0, 0), (58, .if_icmp .ge 28, 0, 86, 0, 0, 0)]
theorem oX11_unfairness_47 : bX11_unfairness_47.all (mz_ok RX11 cX11_unfairness 4) = true := by decide +kernel
def bX11_unfairness_86 : List mz_E := [(86, .iload_n 2, 0, 0, 0, 0, 0)]
theorem oX11_unfairness_86 : bX11_unfairness_86.all (mz_ok RX11 cX11_unfairness 4) = true := by decide +kernel
def bX11_unfairness_61 : List mz_E := [(61, .iload_n 2, 0, 0, 0, 0, 0), (62, .aload_n 0, 0, 0, 0, 0, 0), (63, .getfield 54, 11, 11, 570, 0, 0), (66, .iload_n 3, 0, 0, 0, 0, 0), (67, .iaload, 0, 0, 0, 0, 0), (68, .aload_n 0, 0, 0, 0, 0, 0), (69, .getfield 57, 11, 12, 571, 0, 0), (72, .iload_n 3, 0, 0, 0, 0, 0), (73, .iaload, 0, 0, 0, 0, 0), (74, .isub, 0, 0, 0, 0, 0)]
theorem oX11_unfairness_61 : bX11_unfairness_61.all (mz_ok RX11 cX11_unfairness 4) = true := by decide +kernel
def bX11_unfairness_78 : List mz_E := [(78, .iadd, 0, 0, 0, 0, 0), (79, .istore_n 2, 0, 0, 0, 0, 0), (80, .iinc 3 1, 0, 0, 0, 1, 0), (83, .goto (-36), 0, 47, 0, 0, 0)]
theorem oX11_unfairness_78 : bX11_unfairness_78.all (mz_ok RX11 cX11_unfairness 4) = true := by decide +kernel
abbrev IX11_unfairness : mz_I := (yX11_unfairness, cX11_unfairness, 4, (some .int), 0, 4, 0, 0)
theorem kX11_unfairness : mz_okm IX11_unfairness 1102 126 1101 1 = true := by decide +kernel
theorem vX11_unfairness : mz_okV IX11_unfairness 1101 26 = true := by decide +kernel
def fX11_unfairness_47 : Nat → Int32 → Int32 → mz_D → Option (Int32 × mz_D)
  | 0 => fun _ _ _ => none
  | n + 1 => fun x2 x3 D => (if (D.1 1 101 0) ≤ x3 then (some (x2, D)) else (mz_gd (mz_ix x3 6) ((fX11_unfairness_47 n) (x2 + (fJ9_abs_0f7a4 ((D.1 0 14 (x3).toNatClampNeg) - (D.1 0 15 (x3).toNatClampNeg)))) (x3 + (1 : Int32)) D)))
set_option maxHeartbeats 4000000 in
theorem tX11_unfairness_47 (r : (Int32 × mz_D)) : ∀ (n : Nat) (x2 : Int32) (x3 : Int32) (D : mz_D), fX11_unfairness_47 n x2 x3 D = some r → mz_Go IX11_unfairness (some (.inl r.1), r.2) 0 0 (47, [some (.inr (.inr (some (0, 0)))), none, some (.inl x2), some (.inl x3)], [], D) := by
  intro n
  induction n with
  | zero => intro x2 x3 D h; have h : (none : Option (Int32 × mz_D)) = some r := h; cases h
  | succ n ih =>
    intro x2 x3 D h
    rw [fX11_unfairness_47] at h
    refine mz_Go.run (gs := [mz_kz 0 0 0, mz_kz 0 1 100, mz_kz 0 1 101]) (st' := (if (D.1 1 101 0) ≤ x3 then (86, [some (.inr (.inr (some (0, 0)))), none, some (.inl x2), some (.inl x3)], [], D) else (61, [some (.inr (.inr (some (0, 0)))), none, some (.inl x2), some (.inl x3)], [], D))) bX11_unfairness_47 oX11_unfairness_47 rfl ⟨rfl, rfl, rfl, trivial⟩ ?_
    refine mz_Go.ite (fun hc1 => ?_) (fun hc1 => ?_)
    · have h := mz_ifp hc1 h
      refine mz_Go.run (gs := []) (st' := (87, [some (.inr (.inr (some (0, 0)))), none, some (.inl x2), some (.inl x3)], [.inl x2], D)) bX11_unfairness_86 oX11_unfairness_86 rfl trivial ?_
      cases h
      exact mz_Go.reti (by decide +kernel) rfl ⟨Nat.le_refl _, Nat.le_refl _⟩ rfl
    · have h := mz_ifn hc1 h
      obtain ⟨hb2, h⟩ := mz_gd_some h
      refine mz_Go.run (gs := [mz_kz 0 0 0, mz_kz 0 0 14, mz_ix x3 6, mz_kz 0 0 0, mz_kz 0 0 15, mz_ix x3 6]) (st' := (75, [some (.inr (.inr (some (0, 0)))), none, some (.inl x2), some (.inl x3)], [.inl ((D.1 0 14 (x3).toNatClampNeg) - (D.1 0 15 (x3).toNatClampNeg)), .inl x2], D)) bX11_unfairness_61 oX11_unfairness_61 rfl ⟨rfl, rfl, hb2, rfl, rfl, hb2, trivial⟩ ?_
      refine mz_Go.callS (I := IX11_unfairness) (J := IJ9_abs_0f7a4) (as := [.inl ((D.1 0 14 (x3).toNatClampNeg) - (D.1 0 15 (x3).toNatClampNeg))]) (idx := 480) (pl := 1103) (rest := [.inl x2]) (mJ9_abs_0f7a4 ((D.1 0 14 (x3).toNatClampNeg) - (D.1 0 15 (x3).toNatClampNeg)) D _ rfl) kJ9_abs_0f7a4 vJ9_abs_0f7a4 (by decide +kernel) (by decide +kernel) (by decide +kernel) rfl rfl ⟨rfl, rfl⟩ rfl ?_
      refine mz_Go.run (gs := []) (st' := (47, [some (.inr (.inr (some (0, 0)))), none, some (.inl (x2 + (fJ9_abs_0f7a4 ((D.1 0 14 (x3).toNatClampNeg) - (D.1 0 15 (x3).toNatClampNeg))))), some (.inl (x3 + (1 : Int32)))], [], D)) bX11_unfairness_78 oX11_unfairness_78 rfl trivial ?_
      exact mz_Go.drop [true, false, true, true] (ih (x2 + (fJ9_abs_0f7a4 ((D.1 0 14 (x3).toNatClampNeg) - (D.1 0 15 (x3).toNatClampNeg)))) (x3 + (1 : Int32)) D h)
def fX11_unfairness (x1 : Int32) (D : mz_D) : Option (Int32 × mz_D) := (Option.bind (fX1_fillDues_14 1 1 x1 D) fun q1 => (Option.bind (fX1_fillEaten_15 1 1 q1) fun q2 => (fX11_unfairness_47 mz_N (0 : Int32) (0 : Int32) q2)))
set_option maxHeartbeats 4000000 in
theorem mX11_unfairness (x1 : Int32) (D : mz_D) (r : (Int32 × mz_D)) (h : fX11_unfairness x1 D = some r) : mz_Met IX11_unfairness [.inr (.inr (some (0, 0))), .inl x1] D (some (.inl r.1), r.2) := by
  refine mz_Met.of (by decide +kernel) (Nat.le_of_ble_eq_true rfl) ?_
  show mz_Go IX11_unfairness (some (.inl r.1), r.2) 0 0 (0, [some (.inr (.inr (some (0, 0)))), some (.inl x1), none, none], [], D)
  rw [fX11_unfairness] at h
  refine mz_Go.run (gs := [mz_kz 0 0 0, mz_kz 0 1 100, mz_kz 0 0 0, mz_kz 0 1 100, mz_kz 0 0 0]) (st' := (19, [some (.inr (.inr (some (0, 0)))), some (.inl x1), none, none], [.inr (.inr (some (0, 14))), .inl x1, .inr (.inr (some (1, 101))), .inr (.inr (some (1, 109)))], D)) bX11_unfairness_0 oX11_unfairness_0 rfl ⟨rfl, rfl, rfl, rfl, rfl, trivial⟩ ?_
  obtain ⟨q1, hq1, h⟩ := mz_bd_some h
  refine mz_Go.callV (I := IX11_unfairness) (J := IX1_fillDues_14) (as := [.inr (.inr (some (1, 101))), .inl x1, .inr (.inr (some (0, 14)))]) (ci := 1) (g := 1) (o := 109) (idx := 264) (pl := 1079) (rest := []) (mX1_fillDues_14 1 1 x1 D rfl rfl q1 hq1) kX1_fillDues_14 vX1_fillDues_14 (by decide +kernel) (by decide +kernel) (by decide +kernel) rfl rfl ⟨rfl, rfl⟩ rfl rfl rfl rfl ?_
  refine mz_Go.run (gs := [mz_kz 0 0 0, mz_kz 0 1 100, mz_kz 0 0 0, mz_kz 0 1 100, mz_kz 0 0 0]) (st' := (40, [some (.inr (.inr (some (0, 0)))), some (.inl x1), none, none], [.inr (.inr (some (0, 15))), .inr (.inr (some (1, 101))), .inr (.inr (some (1, 109)))], q1)) bX11_unfairness_22 oX11_unfairness_22 rfl ⟨rfl, rfl, rfl, rfl, rfl, trivial⟩ ?_
  obtain ⟨q2, hq2, h⟩ := mz_bd_some h
  refine mz_Go.callV (I := IX11_unfairness) (J := IX1_fillEaten_15) (as := [.inr (.inr (some (1, 101))), .inr (.inr (some (0, 15)))]) (ci := 1) (g := 1) (o := 109) (idx := 257) (pl := 1058) (rest := []) (mX1_fillEaten_15 1 1 q1 rfl rfl q2 hq2) kX1_fillEaten_15 vX1_fillEaten_15 (by decide +kernel) (by decide +kernel) (by decide +kernel) rfl rfl ⟨rfl, rfl⟩ rfl rfl rfl rfl ?_
  refine mz_Go.run (gs := []) (st' := (47, [some (.inr (.inr (some (0, 0)))), some (.inl x1), some (.inl (0 : Int32)), some (.inl (0 : Int32))], [], q2)) bX11_unfairness_43 oX11_unfairness_43 rfl trivial ?_
  exact mz_Go.drop [true, false, true, true] (tX11_unfairness_47 r mz_N (0 : Int32) (0 : Int32) q2 h)
def bX11_unfair_0 : List mz_E := [(0, .iload_n 1, 0, 0, 0, 0, 0)]
theorem oX11_unfair_0 : bX11_unfair_0.all (mz_ok RX11 cX11_unfair 2) = true := by decide +kernel
def bX11_unfair_4 : List mz_E := [(4, .ifCond .eq 15, 0, 19, 0, 0, 0)]
theorem oX11_unfair_4 : bX11_unfair_4.all (mz_ok RX11 cX11_unfair 2) = true := by decide +kernel
def bX11_unfair_19 : List mz_E := [(19, .aload_n 0, 0, 0, 0, 0, 0), (20, .iconst 1, 0, 0, 0, 1, 0)]
theorem oX11_unfair_19 : bX11_unfair_19.all (mz_ok RX11 cX11_unfair 2) = true := by decide +kernel
def bX11_unfair_7 : List mz_E := [(7, .aload_n 0, 0, 0, 0, 0, 0), (8, .aload_n 0, 0, 0, 0, 0, 0), (9, .iload_n 1, 0, 0, 0, 0, 0)]
theorem oX11_unfair_7 : bX11_unfair_7.all (mz_ok RX11 cX11_unfair 2) = true := by decide +kernel
def bX11_unfair_16 : List mz_E := [(16, .goto 8, 0, 24, 0, 0, 0)]
theorem oX11_unfair_16 : bX11_unfair_16.all (mz_ok RX11 cX11_unfair 2) = true := by decide +kernel
abbrev IX11_unfair : mz_I := (yX11_unfair, cX11_unfair, 2, (some .int), 0, 5, 0, 0)
theorem kX11_unfair : mz_okm IX11_unfair 1098 126 1096 1 = true := by decide +kernel
theorem vX11_unfair : mz_okV IX11_unfair 1096 1097 = true := by decide +kernel
def fX11_unfair (x1 : Int32) (D : mz_D) : Option (Int32 × mz_D) := (if (fX11_isSplit x1) = 0 then (some ((-1 : Int32), (mz_wi D 0 0 13 (1 : Int32)))) else (Option.bind (fX11_unfairness x1 D) fun q2 => (some (q2.1, (mz_wi q2.2 0 0 13 (0 : Int32))))))
set_option maxHeartbeats 4000000 in
theorem mX11_unfair (x1 : Int32) (D : mz_D) (r : (Int32 × mz_D)) (h : fX11_unfair x1 D = some r) : mz_Met IX11_unfair [.inr (.inr (some (0, 0))), .inl x1] D (some (.inl r.1), r.2) := by
  refine mz_Met.of (by decide +kernel) (Nat.le_of_ble_eq_true rfl) ?_
  show mz_Go IX11_unfair (some (.inl r.1), r.2) 0 0 (0, [some (.inr (.inr (some (0, 0)))), some (.inl x1)], [], D)
  rw [fX11_unfair] at h
  refine mz_Go.run (gs := []) (st' := (1, [some (.inr (.inr (some (0, 0)))), some (.inl x1)], [.inl x1], D)) bX11_unfair_0 oX11_unfair_0 rfl trivial ?_
  refine mz_Go.callS (I := IX11_unfair) (J := IX11_isSplit) (as := [.inl x1]) (idx := 261) (pl := 1076) (rest := []) (mX11_isSplit x1 D _ rfl) kX11_isSplit vX11_isSplit (by decide +kernel) (by decide +kernel) (by decide +kernel) rfl rfl ⟨rfl, rfl⟩ rfl ?_
  refine mz_Go.run (gs := []) (st' := (if (fX11_isSplit x1) = 0 then (19, [some (.inr (.inr (some (0, 0)))), some (.inl x1)], [], D) else (7, [some (.inr (.inr (some (0, 0)))), some (.inl x1)], [], D))) bX11_unfair_4 oX11_unfair_4 rfl trivial ?_
  refine mz_Go.ite (fun hc1 => ?_) (fun hc1 => ?_)
  · have h := mz_ifp hc1 h
    refine mz_Go.run (gs := []) (st' := (21, [some (.inr (.inr (some (0, 0)))), some (.inl x1)], [.inl (1 : Int32), .inr (.inr (some (0, 0)))], D)) bX11_unfair_19 oX11_unfair_19 rfl trivial ?_
    refine mz_Go.callV (I := IX11_unfair) (J := IX11_refuse) (as := [.inl (1 : Int32)]) (ci := 11) (g := 0) (o := 0) (idx := 100) (pl := 673) (rest := []) (mX11_refuse (1 : Int32) D) kX11_refuse vX11_refuse (by decide +kernel) (by decide +kernel) (by decide +kernel) rfl rfl ⟨rfl, rfl⟩ rfl rfl rfl rfl ?_
    cases h
    exact mz_Go.reti (by decide +kernel) rfl ⟨Nat.le_refl _, Nat.le_refl _⟩ rfl
  · have h := mz_ifn hc1 h
    refine mz_Go.run (gs := []) (st' := (10, [some (.inr (.inr (some (0, 0)))), some (.inl x1)], [.inl x1, .inr (.inr (some (0, 0))), .inr (.inr (some (0, 0)))], D)) bX11_unfair_7 oX11_unfair_7 rfl trivial ?_
    obtain ⟨q2, hq2, h⟩ := mz_bd_some h
    refine mz_Go.callV (I := IX11_unfair) (J := IX11_unfairness) (as := [.inl x1]) (ci := 11) (g := 0) (o := 0) (idx := 268) (pl := 1099) (rest := [.inr (.inr (some (0, 0)))]) (mX11_unfairness x1 D q2 hq2) kX11_unfairness vX11_unfairness (by decide +kernel) (by decide +kernel) (by decide +kernel) rfl rfl ⟨rfl, rfl⟩ rfl rfl rfl rfl ?_
    refine mz_Go.callV (I := IX11_unfair) (J := IX11_answer) (as := [.inl q2.1]) (ci := 11) (g := 0) (o := 0) (idx := 160) (pl := 914) (rest := []) (mX11_answer q2.1 q2.2) kX11_answer vX11_answer (by decide +kernel) (by decide +kernel) (by decide +kernel) rfl rfl ⟨rfl, rfl⟩ rfl rfl rfl rfl ?_
    refine mz_Go.run (gs := []) (st' := (24, [some (.inr (.inr (some (0, 0)))), some (.inl x1)], [.inl q2.1], (mz_wi q2.2 0 0 13 (0 : Int32)))) bX11_unfair_16 oX11_unfair_16 rfl trivial ?_
    cases h
    exact mz_Go.reti (by decide +kernel) rfl ⟨Nat.le_refl _, Nat.le_refl _⟩ rfl
def bX11_fairest_0 : List mz_E := [(0, .iconst 0, 0, 0, 0, 0, 0), (1, .istore_n 1, 0, 0, 0, 0, 0), (2, .aload_n 0, 0, 0, 0, 0, 0), (3, .iconst 0, 0, 0, 0, 0, 0)]
theorem oX11_fairest_0 : bX11_fairest_0.all (mz_ok RX11 cX11_fairest 5) = true := by decide +kernel
def bX11_fairest_7 : List mz_E := [(7, .istore_n 2, 0, 0, 0, 0, 0), (8, .iconst 1, 0, 0, 0, 1, 0), (9, .istore_n 3, 0, 0, 0, 0, 0)]
theorem oX11_fairest_7 : bX11_fairest_7.all (mz_ok RX11 cX11_fairest 5) = true := by decide +kernel
def bX11_fairest_10 : List mz_E := [(10, .iload_n 3, 0, 0, 0, 0, 0), (11, .iconst 2, 0, 0, 0, 2, 0), (12, .if_icmp .gt 27, 0, 39, 0, 0, 0)]
theorem oX11_fairest_10 : bX11_fairest_10.all (mz_ok RX11 cX11_fairest 5) = true := by decide +kernel
def bX11_fairest_39 : List mz_E := [(39, .aload_n 0, 0, 0, 0, 0, 0), (40, .iload_n 1, 0, 0, 0, 0, 0)]
theorem oX11_fairest_39 : bX11_fairest_39.all (mz_ok RX11 cX11_fairest 5) = true := by decide +kernel
def bX11_fairest_15 : List mz_E := [(15, .aload_n 0, 0, 0, 0, 0, 0), (16, .iload_n 3, 0, 0, 0, 0, 0)]
theorem oX11_fairest_15 : bX11_fairest_15.all (mz_ok RX11 cX11_fairest 5) = true := by decide +kernel
def bX11_fairest_20 : List mz_E := [(20, .istore 4, 0, 0, 0, 0, 0), (22, .iload 4, 0, 0, 0, 0, 0), (24, .iload_n 2, 0, 0, 0, 0, 0), (25, .if_icmp .ge 8, 0, 33, 0, 0, 0)]
theorem oX11_fairest_20 : bX11_fairest_20.all (mz_ok RX11 cX11_fairest 5) = true := by decide +kernel
def bX11_fairest_33 : List mz_E := [(33, .iinc 3 1, 0, 0, 0, 1, 0), (36, .goto (-26), 0, 10, 0, 0, 0)]
theorem oX11_fairest_33 : bX11_fairest_33.all (mz_ok RX11 cX11_fairest 5) = true := by decide +kernel
def bX11_fairest_28 : List mz_E := [(28, .iload_n 3, 0, 0, 0, 0, 0), (29, .istore_n 1, 0, 0, 0, 0, 0), (30, .iload 4, 0, 0, 0, 0, 0), (32, .istore_n 2, 0, 0, 0, 0, 0), (33, .iinc 3 1, 0, 0, 0, 1, 0), (36, .goto (-26), 0, 10, 0, 0, 0)]
theorem oX11_fairest_28 : bX11_fairest_28.all (mz_ok RX11 cX11_fairest 5) = true := by decide +kernel
abbrev IX11_fairest : mz_I := (yX11_fairest, cX11_fairest, 5, (some .int), 0, 5, 0, 0)
theorem kX11_fairest : mz_okm IX11_fairest 1109 126 1107 0 = true := by decide +kernel
theorem vX11_fairest : mz_okV IX11_fairest 1107 1108 = true := by decide +kernel
def fX11_fairest_10 : Nat → Int32 → Int32 → Int32 → mz_D → Option (Int32 × mz_D)
  | 0 => fun _ _ _ _ => none
  | n + 1 => fun x1 x2 x3 D => (if (2 : Int32) < x3 then (some (x1, (mz_wi D 0 0 13 (0 : Int32)))) else (Option.bind (fX11_unfairness x3 D) fun q2 => (if x2 ≤ q2.1 then ((fX11_fairest_10 n) x1 x2 (x3 + (1 : Int32)) q2.2) else ((fX11_fairest_10 n) x3 q2.1 (x3 + (1 : Int32)) q2.2))))
set_option maxHeartbeats 4000000 in
theorem tX11_fairest_10 (r : (Int32 × mz_D)) : ∀ (n : Nat) (x1 : Int32) (x2 : Int32) (x3 : Int32) (D : mz_D), fX11_fairest_10 n x1 x2 x3 D = some r → mz_Go IX11_fairest (some (.inl r.1), r.2) 0 0 (10, [some (.inr (.inr (some (0, 0)))), some (.inl x1), some (.inl x2), some (.inl x3), none], [], D) := by
  intro n
  induction n with
  | zero => intro x1 x2 x3 D h; have h : (none : Option (Int32 × mz_D)) = some r := h; cases h
  | succ n ih =>
    intro x1 x2 x3 D h
    rw [fX11_fairest_10] at h
    refine mz_Go.run (gs := []) (st' := (if (2 : Int32) < x3 then (39, [some (.inr (.inr (some (0, 0)))), some (.inl x1), some (.inl x2), some (.inl x3), none], [], D) else (15, [some (.inr (.inr (some (0, 0)))), some (.inl x1), some (.inl x2), some (.inl x3), none], [], D))) bX11_fairest_10 oX11_fairest_10 rfl trivial ?_
    refine mz_Go.ite (fun hc1 => ?_) (fun hc1 => ?_)
    · have h := mz_ifp hc1 h
      refine mz_Go.run (gs := []) (st' := (41, [some (.inr (.inr (some (0, 0)))), some (.inl x1), some (.inl x2), some (.inl x3), none], [.inl x1, .inr (.inr (some (0, 0)))], D)) bX11_fairest_39 oX11_fairest_39 rfl trivial ?_
      refine mz_Go.callV (I := IX11_fairest) (J := IX11_answer) (as := [.inl x1]) (ci := 11) (g := 0) (o := 0) (idx := 160) (pl := 914) (rest := []) (mX11_answer x1 D) kX11_answer vX11_answer (by decide +kernel) (by decide +kernel) (by decide +kernel) rfl rfl ⟨rfl, rfl⟩ rfl rfl rfl rfl ?_
      cases h
      exact mz_Go.reti (by decide +kernel) rfl ⟨Nat.le_refl _, Nat.le_refl _⟩ rfl
    · have h := mz_ifn hc1 h
      refine mz_Go.run (gs := []) (st' := (17, [some (.inr (.inr (some (0, 0)))), some (.inl x1), some (.inl x2), some (.inl x3), none], [.inl x3, .inr (.inr (some (0, 0)))], D)) bX11_fairest_15 oX11_fairest_15 rfl trivial ?_
      obtain ⟨q2, hq2, h⟩ := mz_bd_some h
      refine mz_Go.callV (I := IX11_fairest) (J := IX11_unfairness) (as := [.inl x3]) (ci := 11) (g := 0) (o := 0) (idx := 268) (pl := 1099) (rest := []) (mX11_unfairness x3 D q2 hq2) kX11_unfairness vX11_unfairness (by decide +kernel) (by decide +kernel) (by decide +kernel) rfl rfl ⟨rfl, rfl⟩ rfl rfl rfl rfl ?_
      refine mz_Go.run (gs := []) (st' := (if x2 ≤ q2.1 then (33, [some (.inr (.inr (some (0, 0)))), some (.inl x1), some (.inl x2), some (.inl x3), some (.inl q2.1)], [], q2.2) else (28, [some (.inr (.inr (some (0, 0)))), some (.inl x1), some (.inl x2), some (.inl x3), some (.inl q2.1)], [], q2.2))) bX11_fairest_20 oX11_fairest_20 rfl trivial ?_
      refine mz_Go.ite (fun hc3 => ?_) (fun hc3 => ?_)
      · have h := mz_ifp hc3 h
        refine mz_Go.run (gs := []) (st' := (10, [some (.inr (.inr (some (0, 0)))), some (.inl x1), some (.inl x2), some (.inl (x3 + (1 : Int32))), some (.inl q2.1)], [], q2.2)) bX11_fairest_33 oX11_fairest_33 rfl trivial ?_
        exact mz_Go.drop [true, true, true, true, false] (ih x1 x2 (x3 + (1 : Int32)) q2.2 h)
      · have h := mz_ifn hc3 h
        refine mz_Go.run (gs := []) (st' := (10, [some (.inr (.inr (some (0, 0)))), some (.inl x3), some (.inl q2.1), some (.inl (x3 + (1 : Int32))), some (.inl q2.1)], [], q2.2)) bX11_fairest_28 oX11_fairest_28 rfl trivial ?_
        exact mz_Go.drop [true, true, true, true, false] (ih x3 q2.1 (x3 + (1 : Int32)) q2.2 h)
def fX11_fairest (D : mz_D) : Option (Int32 × mz_D) := (Option.bind (fX11_unfairness (0 : Int32) D) fun q1 => (fX11_fairest_10 mz_N (0 : Int32) q1.1 (1 : Int32) q1.2))
set_option maxHeartbeats 4000000 in
theorem mX11_fairest (D : mz_D) (r : (Int32 × mz_D)) (h : fX11_fairest D = some r) : mz_Met IX11_fairest [.inr (.inr (some (0, 0)))] D (some (.inl r.1), r.2) := by
  refine mz_Met.of (by decide +kernel) (Nat.le_of_ble_eq_true rfl) ?_
  show mz_Go IX11_fairest (some (.inl r.1), r.2) 0 0 (0, [some (.inr (.inr (some (0, 0)))), none, none, none, none], [], D)
  rw [fX11_fairest] at h
  refine mz_Go.run (gs := []) (st' := (4, [some (.inr (.inr (some (0, 0)))), some (.inl (0 : Int32)), none, none, none], [.inl (0 : Int32), .inr (.inr (some (0, 0)))], D)) bX11_fairest_0 oX11_fairest_0 rfl trivial ?_
  obtain ⟨q1, hq1, h⟩ := mz_bd_some h
  refine mz_Go.callV (I := IX11_fairest) (J := IX11_unfairness) (as := [.inl (0 : Int32)]) (ci := 11) (g := 0) (o := 0) (idx := 268) (pl := 1099) (rest := []) (mX11_unfairness (0 : Int32) D q1 hq1) kX11_unfairness vX11_unfairness (by decide +kernel) (by decide +kernel) (by decide +kernel) rfl rfl ⟨rfl, rfl⟩ rfl rfl rfl rfl ?_
  refine mz_Go.run (gs := []) (st' := (10, [some (.inr (.inr (some (0, 0)))), some (.inl (0 : Int32)), some (.inl q1.1), some (.inl (1 : Int32)), none], [], q1.2)) bX11_fairest_7 oX11_fairest_7 rfl trivial ?_
  exact mz_Go.drop [true, true, true, true, false] (tX11_fairest_10 r mz_N (0 : Int32) q1.1 (1 : Int32) q1.2 h)
def bX11_dearer_0 : List mz_E := [(0, .aload_n 0, 0, 0, 0, 0, 0), (1, .getfield 32, 11, 4, 563, 0, 0), (4, .getfield 151, 6, 0, 477, 0, 0), (7, .iload_n 1, 0, 0, 0, 0, 0)]
theorem oX11_dearer_0 : bX11_dearer_0.all (mz_ok RX11 cX11_dearer 5) = true := by decide +kernel
def bX11_dearer_11 : List mz_E := [(11, .ifCond .eq 17, 0, 28, 0, 0, 0)]
theorem oX11_dearer_11 : bX11_dearer_11.all (mz_ok RX11 cX11_dearer 5) = true := by decide +kernel
def bX11_dearer_28 : List mz_E := [(28, .aload_n 0, 0, 0, 0, 0, 0), (29, .iconst 1, 0, 0, 0, 1, 0)]
theorem oX11_dearer_28 : bX11_dearer_28.all (mz_ok RX11 cX11_dearer 5) = true := by decide +kernel
def bX11_dearer_14 : List mz_E := [(14, .iload_n 2, 0, 0, 0, 0, 0)]
theorem oX11_dearer_14 : bX11_dearer_14.all (mz_ok RX11 cX11_dearer 5) = true := by decide +kernel
def bX11_dearer_18 : List mz_E := [(18, .ifCond .eq 10, 0, 28, 0, 0, 0)]
theorem oX11_dearer_18 : bX11_dearer_18.all (mz_ok RX11 cX11_dearer 5) = true := by decide +kernel
def bX11_dearer_21 : List mz_E := [(21, .iload_n 3, 0, 0, 0, 0, 0)]
theorem oX11_dearer_21 : bX11_dearer_21.all (mz_ok RX11 cX11_dearer 5) = true := by decide +kernel
def bX11_dearer_25 : List mz_E := [(25, .ifCond .ne 9, 0, 34, 0, 0, 0)]
theorem oX11_dearer_25 : bX11_dearer_25.all (mz_ok RX11 cX11_dearer 5) = true := by decide +kernel
def bX11_dearer_34 : List mz_E := [(34, .aload_n 0, 0, 0, 0, 0, 0), (35, .getfield 32, 11, 4, 563, 0, 0), (38, .getfield 183, 6, 1, 481, 0, 0), (41, .aload_n 0, 0, 0, 0, 0, 0), (42, .getfield 32, 11, 4, 563, 0, 0), (45, .getfield 151, 6, 0, 477, 0, 0), (48, .iload_n 2, 0, 0, 0, 0, 0), (49, .aload_n 0, 0, 0, 0, 0, 0), (50, .getfield 54, 11, 11, 570, 0, 0)]
theorem oX11_dearer_34 : bX11_dearer_34.all (mz_ok RX11 cX11_dearer 5) = true := by decide +kernel
def bX11_dearer_56 : List mz_E := [(56, .aload_n 0, 0, 0, 0, 0, 0), (57, .getfield 54, 11, 11, 570, 0, 0), (60, .iload_n 1, 0, 0, 0, 0, 0), (61, .iaload, 0, 0, 0, 0, 0), (62, .istore 4, 0, 0, 0, 0, 0), (64, .aload_n 0, 0, 0, 0, 0, 0), (65, .getfield 32, 11, 4, 563, 0, 0), (68, .getfield 183, 6, 1, 481, 0, 0), (71, .aload_n 0, 0, 0, 0, 0, 0), (72, .getfield 32, 11, 4, 563, 0, 0), (75, .getfield 151, 6, 0, 477, 0, 0), (78, .iload_n 3, 0, 0, 0, 0, 0), (79, .aload_n 0, 0, 0, 0, 0, 0), (80, .getfield 54, 11, 11, 570, 0, 0)]
theorem oX11_dearer_56 : bX11_dearer_56.all (mz_ok RX11 cX11_dearer 5) = true := by decide +kernel
def bX11_dearer_86 : List mz_E := [(86, .aload_n 0, 0, 0, 0, 0, 0), (87, .iload 4, 0, 0, 0, 0, 0), (89, .aload_n 0, 0, 0, 0, 0, 0), (90, .getfield 54, 11, 11, 570, 0, 0), (93, .iload_n 1, 0, 0, 0, 0, 0), (94, .iaload, 0, 0, 0, 0, 0), (95, .isub, 0, 0, 0, 0, 0)]
theorem oX11_dearer_86 : bX11_dearer_86.all (mz_ok RX11 cX11_dearer 5) = true := by decide +kernel
abbrev IX11_dearer : mz_I := (yX11_dearer, cX11_dearer, 5, (some .int), 0, 4, 0, 0)
theorem kX11_dearer : mz_okm IX11_dearer 1113 126 1111 3 = true := by decide +kernel
theorem vX11_dearer : mz_okV IX11_dearer 1111 1112 = true := by decide +kernel
def fX11_dearer (x1 : Int32) (x2 : Int32) (x3 : Int32) (D : mz_D) : Option (Int32 × mz_D) := (if (fX4_has 1 x1 D) = 0 then (some ((-1 : Int32), (mz_wi D 0 0 13 (1 : Int32)))) else (if (fX11_isSplit x2) = 0 then (some ((-1 : Int32), (mz_wi D 0 0 13 (1 : Int32)))) else (if (fX11_isSplit x3) = 0 then (some ((-1 : Int32), (mz_wi D 0 0 13 (1 : Int32)))) else (Option.bind (fX1_fillDues_14 1 1 x2 D) fun q4 => (mz_gd (mz_ix x1 6) (Option.bind (fX1_fillDues_14 1 1 x3 q4) fun q6 => (some (((q4.1 0 14 (x1).toNatClampNeg) - (q6.1 0 14 (x1).toNatClampNeg)), (mz_wi q6 0 0 13 (0 : Int32))))))))))
set_option maxHeartbeats 4000000 in
theorem mX11_dearer (x1 : Int32) (x2 : Int32) (x3 : Int32) (D : mz_D) (r : (Int32 × mz_D)) (h : fX11_dearer x1 x2 x3 D = some r) : mz_Met IX11_dearer [.inr (.inr (some (0, 0))), .inl x1, .inl x2, .inl x3] D (some (.inl r.1), r.2) := by
  refine mz_Met.of (by decide +kernel) (Nat.le_of_ble_eq_true rfl) ?_
  show mz_Go IX11_dearer (some (.inl r.1), r.2) 0 0 (0, [some (.inr (.inr (some (0, 0)))), some (.inl x1), some (.inl x2), some (.inl x3), none], [], D)
  rw [fX11_dearer] at h
  refine mz_Go.run (gs := [mz_kz 0 0 0, mz_kz 0 1 100]) (st' := (8, [some (.inr (.inr (some (0, 0)))), some (.inl x1), some (.inl x2), some (.inl x3), none], [.inl x1, .inr (.inr (some (1, 101)))], D)) bX11_dearer_0 oX11_dearer_0 rfl ⟨rfl, rfl, trivial⟩ ?_
  refine mz_Go.callV (I := IX11_dearer) (J := IX4_has) (as := [.inl x1]) (ci := 4) (g := 1) (o := 101) (idx := 229) (pl := 1042) (rest := []) (mX4_has 1 x1 D rfl _ rfl) kX4_has vX4_has (by decide +kernel) (by decide +kernel) (by decide +kernel) rfl rfl ⟨rfl, rfl⟩ rfl rfl rfl rfl ?_
  refine mz_Go.run (gs := []) (st' := (if (fX4_has 1 x1 D) = 0 then (28, [some (.inr (.inr (some (0, 0)))), some (.inl x1), some (.inl x2), some (.inl x3), none], [], D) else (14, [some (.inr (.inr (some (0, 0)))), some (.inl x1), some (.inl x2), some (.inl x3), none], [], D))) bX11_dearer_11 oX11_dearer_11 rfl trivial ?_
  refine mz_Go.ite (fun hc1 => ?_) (fun hc1 => ?_)
  · have h := mz_ifp hc1 h
    refine mz_Go.run (gs := []) (st' := (30, [some (.inr (.inr (some (0, 0)))), some (.inl x1), some (.inl x2), some (.inl x3), none], [.inl (1 : Int32), .inr (.inr (some (0, 0)))], D)) bX11_dearer_28 oX11_dearer_28 rfl trivial ?_
    refine mz_Go.callV (I := IX11_dearer) (J := IX11_refuse) (as := [.inl (1 : Int32)]) (ci := 11) (g := 0) (o := 0) (idx := 100) (pl := 673) (rest := []) (mX11_refuse (1 : Int32) D) kX11_refuse vX11_refuse (by decide +kernel) (by decide +kernel) (by decide +kernel) rfl rfl ⟨rfl, rfl⟩ rfl rfl rfl rfl ?_
    cases h
    exact mz_Go.reti (by decide +kernel) rfl ⟨Nat.le_refl _, Nat.le_refl _⟩ rfl
  · have h := mz_ifn hc1 h
    refine mz_Go.run (gs := []) (st' := (15, [some (.inr (.inr (some (0, 0)))), some (.inl x1), some (.inl x2), some (.inl x3), none], [.inl x2], D)) bX11_dearer_14 oX11_dearer_14 rfl trivial ?_
    refine mz_Go.callS (I := IX11_dearer) (J := IX11_isSplit) (as := [.inl x2]) (idx := 261) (pl := 1076) (rest := []) (mX11_isSplit x2 D _ rfl) kX11_isSplit vX11_isSplit (by decide +kernel) (by decide +kernel) (by decide +kernel) rfl rfl ⟨rfl, rfl⟩ rfl ?_
    refine mz_Go.run (gs := []) (st' := (if (fX11_isSplit x2) = 0 then (28, [some (.inr (.inr (some (0, 0)))), some (.inl x1), some (.inl x2), some (.inl x3), none], [], D) else (21, [some (.inr (.inr (some (0, 0)))), some (.inl x1), some (.inl x2), some (.inl x3), none], [], D))) bX11_dearer_18 oX11_dearer_18 rfl trivial ?_
    refine mz_Go.ite (fun hc2 => ?_) (fun hc2 => ?_)
    · have h := mz_ifp hc2 h
      refine mz_Go.run (gs := []) (st' := (30, [some (.inr (.inr (some (0, 0)))), some (.inl x1), some (.inl x2), some (.inl x3), none], [.inl (1 : Int32), .inr (.inr (some (0, 0)))], D)) bX11_dearer_28 oX11_dearer_28 rfl trivial ?_
      refine mz_Go.callV (I := IX11_dearer) (J := IX11_refuse) (as := [.inl (1 : Int32)]) (ci := 11) (g := 0) (o := 0) (idx := 100) (pl := 673) (rest := []) (mX11_refuse (1 : Int32) D) kX11_refuse vX11_refuse (by decide +kernel) (by decide +kernel) (by decide +kernel) rfl rfl ⟨rfl, rfl⟩ rfl rfl rfl rfl ?_
      cases h
      exact mz_Go.reti (by decide +kernel) rfl ⟨Nat.le_refl _, Nat.le_refl _⟩ rfl
    · have h := mz_ifn hc2 h
      refine mz_Go.run (gs := []) (st' := (22, [some (.inr (.inr (some (0, 0)))), some (.inl x1), some (.inl x2), some (.inl x3), none], [.inl x3], D)) bX11_dearer_21 oX11_dearer_21 rfl trivial ?_
      refine mz_Go.callS (I := IX11_dearer) (J := IX11_isSplit) (as := [.inl x3]) (idx := 261) (pl := 1076) (rest := []) (mX11_isSplit x3 D _ rfl) kX11_isSplit vX11_isSplit (by decide +kernel) (by decide +kernel) (by decide +kernel) rfl rfl ⟨rfl, rfl⟩ rfl ?_
      refine mz_Go.run (gs := []) (st' := (if (fX11_isSplit x3) = 0 then (28, [some (.inr (.inr (some (0, 0)))), some (.inl x1), some (.inl x2), some (.inl x3), none], [], D) else (34, [some (.inr (.inr (some (0, 0)))), some (.inl x1), some (.inl x2), some (.inl x3), none], [], D))) bX11_dearer_25 oX11_dearer_25 rfl trivial ?_
      refine mz_Go.ite (fun hc3 => ?_) (fun hc3 => ?_)
      · have h := mz_ifp hc3 h
        refine mz_Go.run (gs := []) (st' := (30, [some (.inr (.inr (some (0, 0)))), some (.inl x1), some (.inl x2), some (.inl x3), none], [.inl (1 : Int32), .inr (.inr (some (0, 0)))], D)) bX11_dearer_28 oX11_dearer_28 rfl trivial ?_
        refine mz_Go.callV (I := IX11_dearer) (J := IX11_refuse) (as := [.inl (1 : Int32)]) (ci := 11) (g := 0) (o := 0) (idx := 100) (pl := 673) (rest := []) (mX11_refuse (1 : Int32) D) kX11_refuse vX11_refuse (by decide +kernel) (by decide +kernel) (by decide +kernel) rfl rfl ⟨rfl, rfl⟩ rfl rfl rfl rfl ?_
        cases h
        exact mz_Go.reti (by decide +kernel) rfl ⟨Nat.le_refl _, Nat.le_refl _⟩ rfl
      · have h := mz_ifn hc3 h
        refine mz_Go.run (gs := [mz_kz 0 0 0, mz_kz 0 1 100, mz_kz 0 0 0, mz_kz 0 1 100, mz_kz 0 0 0]) (st' := (53, [some (.inr (.inr (some (0, 0)))), some (.inl x1), some (.inl x2), some (.inl x3), none], [.inr (.inr (some (0, 14))), .inl x2, .inr (.inr (some (1, 101))), .inr (.inr (some (1, 109)))], D)) bX11_dearer_34 oX11_dearer_34 rfl ⟨rfl, rfl, rfl, rfl, rfl, trivial⟩ ?_
        obtain ⟨q4, hq4, h⟩ := mz_bd_some h
        refine mz_Go.callV (I := IX11_dearer) (J := IX1_fillDues_14) (as := [.inr (.inr (some (1, 101))), .inl x2, .inr (.inr (some (0, 14)))]) (ci := 1) (g := 1) (o := 109) (idx := 264) (pl := 1079) (rest := []) (mX1_fillDues_14 1 1 x2 D rfl rfl q4 hq4) kX1_fillDues_14 vX1_fillDues_14 (by decide +kernel) (by decide +kernel) (by decide +kernel) rfl rfl ⟨rfl, rfl⟩ rfl rfl rfl rfl ?_
        obtain ⟨hb5, h⟩ := mz_gd_some h
        refine mz_Go.run (gs := [mz_kz 0 0 0, mz_kz 0 0 14, mz_ix x1 6, mz_kz 0 0 0, mz_kz 0 1 100, mz_kz 0 0 0, mz_kz 0 1 100, mz_kz 0 0 0]) (st' := (83, [some (.inr (.inr (some (0, 0)))), some (.inl x1), some (.inl x2), some (.inl x3), some (.inl (q4.1 0 14 (x1).toNatClampNeg))], [.inr (.inr (some (0, 14))), .inl x3, .inr (.inr (some (1, 101))), .inr (.inr (some (1, 109)))], q4)) bX11_dearer_56 oX11_dearer_56 rfl ⟨rfl, rfl, hb5, rfl, rfl, rfl, rfl, rfl, trivial⟩ ?_
        obtain ⟨q6, hq6, h⟩ := mz_bd_some h
        refine mz_Go.callV (I := IX11_dearer) (J := IX1_fillDues_14) (as := [.inr (.inr (some (1, 101))), .inl x3, .inr (.inr (some (0, 14)))]) (ci := 1) (g := 1) (o := 109) (idx := 264) (pl := 1079) (rest := []) (mX1_fillDues_14 1 1 x3 q4 rfl rfl q6 hq6) kX1_fillDues_14 vX1_fillDues_14 (by decide +kernel) (by decide +kernel) (by decide +kernel) rfl rfl ⟨rfl, rfl⟩ rfl rfl rfl rfl ?_
        refine mz_Go.run (gs := [mz_kz 0 0 0, mz_kz 0 0 14, mz_ix x1 6]) (st' := (96, [some (.inr (.inr (some (0, 0)))), some (.inl x1), some (.inl x2), some (.inl x3), some (.inl (q4.1 0 14 (x1).toNatClampNeg))], [.inl ((q4.1 0 14 (x1).toNatClampNeg) - (q6.1 0 14 (x1).toNatClampNeg)), .inr (.inr (some (0, 0)))], q6)) bX11_dearer_86 oX11_dearer_86 rfl ⟨rfl, rfl, hb5, trivial⟩ ?_
        refine mz_Go.callV (I := IX11_dearer) (J := IX11_answer) (as := [.inl ((q4.1 0 14 (x1).toNatClampNeg) - (q6.1 0 14 (x1).toNatClampNeg))]) (ci := 11) (g := 0) (o := 0) (idx := 160) (pl := 914) (rest := []) (mX11_answer ((q4.1 0 14 (x1).toNatClampNeg) - (q6.1 0 14 (x1).toNatClampNeg)) q6) kX11_answer vX11_answer (by decide +kernel) (by decide +kernel) (by decide +kernel) rfl rfl ⟨rfl, rfl⟩ rfl rfl rfl rfl ?_
        cases h
        exact mz_Go.reti (by decide +kernel) rfl ⟨Nat.le_refl _, Nat.le_refl _⟩ rfl
def bX11_firstGreatest_0 : List mz_E := [(0, .iload_n 1, 0, 0, 0, 0, 0), (1, .ifCond .le 7, 0, 8, 0, 0, 0)]
theorem oX11_firstGreatest_0 : bX11_firstGreatest_0.all (mz_ok RX11 cX11_firstGreatest 4) = true := by decide +kernel
def bX11_firstGreatest_8 : List mz_E := [(8, .iconst (-1), 0, 0, 0, -1, 0), (9, .istore_n 2, 0, 0, 0, 0, 0), (10, .iconst 1, 0, 0, 0, 1, 0), (11, .istore_n 3, 0, 0, 0, 0, 0)]
theorem oX11_firstGreatest_8 : bX11_firstGreatest_8.all (mz_ok RX11 cX11_firstGreatest 4) = true := by decide +kernel
def bX11_firstGreatest_12 : List mz_E := [(12, .iload_n 3, 0, 0, 0, 0, 0), (13, .iload_n 1, 0, 0, 0, 0, 0), (14, .if_icmp .ge 26, 0, 40, 0, 0, 0)]
theorem oX11_firstGreatest_12 : bX11_firstGreatest_12.all (mz_ok RX11 cX11_firstGreatest 4) = true := by decide +kernel
def bX11_firstGreatest_40 : List mz_E := [(40, .iload_n 2, 0, 0, 0, 0, 0)]
theorem oX11_firstGreatest_40 : bX11_firstGreatest_40.all (mz_ok RX11 cX11_firstGreatest 4) = true := by decide +kernel
def bX11_firstGreatest_17 : List mz_E := [(17, .iload_n 3, 0, 0, 0, 0, 0), (18, .aload_n 0, 0, 0, 0, 0, 0), (19, .arraylength, 0, 0, 0, 0, 0), (20, .if_icmp .ge 20, 0, 40, 0, 0, 0)]
theorem oX11_firstGreatest_17 : bX11_firstGreatest_17.all (mz_ok RX11 cX11_firstGreatest 4) = true := by decide +kernel
def bX11_firstGreatest_23 : List mz_E := [(23, .aload_n 0, 0, 0, 0, 0, 0), (24, .iload_n 3, 0, 0, 0, 0, 0), (25, .iaload, 0, 0, 0, 0, 0), (26, .aload_n 0, 0, 0, 0, 0, 0), (27, .iload_n 2, 0, 0, 0, 0, 0), (28, .iaload, 0, 0, 0, 0, 0), (29, .if_icmp .le 5, 0, 34, 0, 0, 0)]
theorem oX11_firstGreatest_23 : bX11_firstGreatest_23.all (mz_ok RX11 cX11_firstGreatest 4) = true := by decide +kernel
def bX11_firstGreatest_34 : List mz_E := [(34, .iinc 3 1, 0, 0, 0, 1, 0), (37, .goto (-25), 0, 12, 0, 0, 0)]
theorem oX11_firstGreatest_34 : bX11_firstGreatest_34.all (mz_ok RX11 cX11_firstGreatest 4) = true := by decide +kernel
def bX11_firstGreatest_32 : List mz_E := [(32, .iload_n 3, 0, 0, 0, 0, 0), (33, .istore_n 2, 0, 0, 0, 0, 0), (34, .iinc 3 1, 0, 0, 0, 1, 0), (37, .goto (-25), 0, 12, 0, 0, 0)]
theorem oX11_firstGreatest_32 : bX11_firstGreatest_32.all (mz_ok RX11 cX11_firstGreatest 4) = true := by decide +kernel
def bX11_firstGreatest_4 : List mz_E := [(4, .iconst 0, 0, 0, 0, 0, 0), (5, .goto 4, 0, 9, 0, 0, 0), (9, .istore_n 2, 0, 0, 0, 0, 0), (10, .iconst 1, 0, 0, 0, 1, 0), (11, .istore_n 3, 0, 0, 0, 0, 0)]
theorem oX11_firstGreatest_4 : bX11_firstGreatest_4.all (mz_ok RX11 cX11_firstGreatest 4) = true := by decide +kernel
abbrev IX11_firstGreatest_14 : mz_I := (yX11_firstGreatest, cX11_firstGreatest, 4, (some .int), 0, 0, 0, 0)
theorem kX11_firstGreatest_14 : mz_okm IX11_firstGreatest_14 1120 126 1119 2 = true := by decide +kernel
theorem vX11_firstGreatest_14 : mz_okS IX11_firstGreatest_14 1119 = true := by decide +kernel
def fX11_firstGreatest_14_12 (D : mz_D) : Nat → Int32 → Int32 → Int32 → Option Int32
  | 0 => fun _ _ _ => none
  | n + 1 => fun x1 x2 x3 => (if x1 ≤ x3 then (some x2) else (if (Int32.ofNat 6) ≤ x3 then (some x2) else (mz_gd (mz_ix x3 6) (mz_gd (mz_ix x2 6) (if (D.1 0 14 (x3).toNatClampNeg) ≤ (D.1 0 14 (x2).toNatClampNeg) then ((fX11_firstGreatest_14_12 D n) x1 x2 (x3 + (1 : Int32))) else ((fX11_firstGreatest_14_12 D n) x1 x3 (x3 + (1 : Int32))))))))
set_option maxHeartbeats 4000000 in
theorem tX11_firstGreatest_14_12 (D : mz_D) (r : Int32) : ∀ (n : Nat) (x1 : Int32) (x2 : Int32) (x3 : Int32), fX11_firstGreatest_14_12 D n x1 x2 x3 = some r → mz_Go IX11_firstGreatest_14 (some (.inl r), D) 0 0 (12, [some (.inr (.inr (some (0, 14)))), some (.inl x1), some (.inl x2), some (.inl x3)], [], D) := by
  intro n
  induction n with
  | zero => intro x1 x2 x3 h; have h : (none : Option Int32) = some r := h; cases h
  | succ n ih =>
    intro x1 x2 x3 h
    rw [fX11_firstGreatest_14_12] at h
    refine mz_Go.run (gs := []) (st' := (if x1 ≤ x3 then (40, [some (.inr (.inr (some (0, 14)))), some (.inl x1), some (.inl x2), some (.inl x3)], [], D) else (17, [some (.inr (.inr (some (0, 14)))), some (.inl x1), some (.inl x2), some (.inl x3)], [], D))) bX11_firstGreatest_12 oX11_firstGreatest_12 rfl trivial ?_
    refine mz_Go.ite (fun hc1 => ?_) (fun hc1 => ?_)
    · have h := mz_ifp hc1 h
      refine mz_Go.run (gs := []) (st' := (41, [some (.inr (.inr (some (0, 14)))), some (.inl x1), some (.inl x2), some (.inl x3)], [.inl x2], D)) bX11_firstGreatest_40 oX11_firstGreatest_40 rfl trivial ?_
      cases h
      exact mz_Go.reti (by decide +kernel) rfl ⟨Nat.le_refl _, Nat.le_refl _⟩ rfl
    · have h := mz_ifn hc1 h
      refine mz_Go.run (gs := [mz_kz 0 0 14]) (st' := (if (Int32.ofNat 6) ≤ x3 then (40, [some (.inr (.inr (some (0, 14)))), some (.inl x1), some (.inl x2), some (.inl x3)], [], D) else (23, [some (.inr (.inr (some (0, 14)))), some (.inl x1), some (.inl x2), some (.inl x3)], [], D))) bX11_firstGreatest_17 oX11_firstGreatest_17 rfl ⟨rfl, trivial⟩ ?_
      refine mz_Go.ite (fun hc2 => ?_) (fun hc2 => ?_)
      · have h := mz_ifp hc2 h
        refine mz_Go.run (gs := []) (st' := (41, [some (.inr (.inr (some (0, 14)))), some (.inl x1), some (.inl x2), some (.inl x3)], [.inl x2], D)) bX11_firstGreatest_40 oX11_firstGreatest_40 rfl trivial ?_
        cases h
        exact mz_Go.reti (by decide +kernel) rfl ⟨Nat.le_refl _, Nat.le_refl _⟩ rfl
      · have h := mz_ifn hc2 h
        obtain ⟨hb3, h⟩ := mz_gd_some h
        obtain ⟨hb4, h⟩ := mz_gd_some h
        refine mz_Go.run (gs := [mz_kz 0 0 14, mz_ix x3 6, mz_kz 0 0 14, mz_ix x2 6]) (st' := (if (D.1 0 14 (x3).toNatClampNeg) ≤ (D.1 0 14 (x2).toNatClampNeg) then (34, [some (.inr (.inr (some (0, 14)))), some (.inl x1), some (.inl x2), some (.inl x3)], [], D) else (32, [some (.inr (.inr (some (0, 14)))), some (.inl x1), some (.inl x2), some (.inl x3)], [], D))) bX11_firstGreatest_23 oX11_firstGreatest_23 rfl ⟨rfl, hb3, rfl, hb4, trivial⟩ ?_
        refine mz_Go.ite (fun hc5 => ?_) (fun hc5 => ?_)
        · have h := mz_ifp hc5 h
          refine mz_Go.run (gs := []) (st' := (12, [some (.inr (.inr (some (0, 14)))), some (.inl x1), some (.inl x2), some (.inl (x3 + (1 : Int32)))], [], D)) bX11_firstGreatest_34 oX11_firstGreatest_34 rfl trivial ?_
          exact mz_Go.drop [true, true, true, true] (ih x1 x2 (x3 + (1 : Int32)) h)
        · have h := mz_ifn hc5 h
          refine mz_Go.run (gs := []) (st' := (12, [some (.inr (.inr (some (0, 14)))), some (.inl x1), some (.inl x3), some (.inl (x3 + (1 : Int32)))], [], D)) bX11_firstGreatest_32 oX11_firstGreatest_32 rfl trivial ?_
          exact mz_Go.drop [true, true, true, true] (ih x1 x3 (x3 + (1 : Int32)) h)
def fX11_firstGreatest_14 (x1 : Int32) (D : mz_D) : Option Int32 := (if x1 ≤ 0 then (fX11_firstGreatest_14_12 D mz_N x1 (-1 : Int32) (1 : Int32)) else (fX11_firstGreatest_14_12 D mz_N x1 (0 : Int32) (1 : Int32)))
set_option maxHeartbeats 4000000 in
theorem mX11_firstGreatest_14 (x1 : Int32) (D : mz_D) (r : Int32) (h : fX11_firstGreatest_14 x1 D = some r) : mz_Met IX11_firstGreatest_14 [.inr (.inr (some (0, 14))), .inl x1] D (some (.inl r), D) := by
  refine mz_Met.of (by decide +kernel) (Nat.le_of_ble_eq_true rfl) ?_
  show mz_Go IX11_firstGreatest_14 (some (.inl r), D) 0 0 (0, [some (.inr (.inr (some (0, 14)))), some (.inl x1), none, none], [], D)
  rw [fX11_firstGreatest_14] at h
  refine mz_Go.run (gs := []) (st' := (if x1 ≤ 0 then (8, [some (.inr (.inr (some (0, 14)))), some (.inl x1), none, none], [], D) else (4, [some (.inr (.inr (some (0, 14)))), some (.inl x1), none, none], [], D))) bX11_firstGreatest_0 oX11_firstGreatest_0 rfl trivial ?_
  refine mz_Go.ite (fun hc1 => ?_) (fun hc1 => ?_)
  · have h := mz_ifp hc1 h
    refine mz_Go.run (gs := []) (st' := (12, [some (.inr (.inr (some (0, 14)))), some (.inl x1), some (.inl (-1 : Int32)), some (.inl (1 : Int32))], [], D)) bX11_firstGreatest_8 oX11_firstGreatest_8 rfl trivial ?_
    exact mz_Go.drop [true, true, true, true] (tX11_firstGreatest_14_12 D r mz_N x1 (-1 : Int32) (1 : Int32) h)
  · have h := mz_ifn hc1 h
    refine mz_Go.run (gs := []) (st' := (12, [some (.inr (.inr (some (0, 14)))), some (.inl x1), some (.inl (0 : Int32)), some (.inl (1 : Int32))], [], D)) bX11_firstGreatest_4 oX11_firstGreatest_4 rfl trivial ?_
    exact mz_Go.drop [true, true, true, true] (tX11_firstGreatest_14_12 D r mz_N x1 (0 : Int32) (1 : Int32) h)
def bX11_hardest_0 : List mz_E := [(0, .iload_n 1, 0, 0, 0, 0, 0)]
theorem oX11_hardest_0 : bX11_hardest_0.all (mz_ok RX11 cX11_hardest 2) = true := by decide +kernel
def bX11_hardest_4 : List mz_E := [(4, .ifCond .ne 9, 0, 13, 0, 0, 0)]
theorem oX11_hardest_4 : bX11_hardest_4.all (mz_ok RX11 cX11_hardest 2) = true := by decide +kernel
def bX11_hardest_7 : List mz_E := [(7, .aload_n 0, 0, 0, 0, 0, 0), (8, .iconst 1, 0, 0, 0, 1, 0)]
theorem oX11_hardest_7 : bX11_hardest_7.all (mz_ok RX11 cX11_hardest 2) = true := by decide +kernel
def bX11_hardest_13 : List mz_E := [(13, .aload_n 0, 0, 0, 0, 0, 0), (14, .getfield 32, 11, 4, 563, 0, 0), (17, .getfield 183, 6, 1, 481, 0, 0), (20, .aload_n 0, 0, 0, 0, 0, 0), (21, .getfield 32, 11, 4, 563, 0, 0), (24, .getfield 151, 6, 0, 477, 0, 0), (27, .iload_n 1, 0, 0, 0, 0, 0), (28, .aload_n 0, 0, 0, 0, 0, 0), (29, .getfield 54, 11, 11, 570, 0, 0)]
theorem oX11_hardest_13 : bX11_hardest_13.all (mz_ok RX11 cX11_hardest 2) = true := by decide +kernel
def bX11_hardest_35 : List mz_E := [(35, .aload_n 0, 0, 0, 0, 0, 0), (36, .aload_n 0, 0, 0, 0, 0, 0), (37, .getfield 54, 11, 11, 570, 0, 0), (40, .aload_n 0, 0, 0, 0, 0, 0), (41, .getfield 32, 11, 4, 563, 0, 0), (44, .getfield 151, 6, 0, 477, 0, 0), (47, .getfield 155, 4, 0, 290, 0, 0)]
theorem oX11_hardest_35 : bX11_hardest_35.all (mz_ok RX11 cX11_hardest 2) = true := by decide +kernel
abbrev IX11_hardest : mz_I := (yX11_hardest, cX11_hardest, 2, (some .int), 0, 4, 0, 0)
theorem kX11_hardest : mz_okm IX11_hardest 1117 126 1115 1 = true := by decide +kernel
theorem vX11_hardest : mz_okV IX11_hardest 1115 1116 = true := by decide +kernel
def fX11_hardest (x1 : Int32) (D : mz_D) : Option (Int32 × mz_D) := (if (fX11_isSplit x1) = 0 then (some ((-1 : Int32), (mz_wi D 0 0 13 (1 : Int32)))) else (Option.bind (fX1_fillDues_14 1 1 x1 D) fun q2 => (Option.bind (fX11_firstGreatest_14 (q2.1 1 101 0) q2) fun q3 => (Option.bind (fX11_answerIfAny q3 q2) fun q4 => (some (q4.1, q4.2))))))
set_option maxHeartbeats 4000000 in
theorem mX11_hardest (x1 : Int32) (D : mz_D) (r : (Int32 × mz_D)) (h : fX11_hardest x1 D = some r) : mz_Met IX11_hardest [.inr (.inr (some (0, 0))), .inl x1] D (some (.inl r.1), r.2) := by
  refine mz_Met.of (by decide +kernel) (Nat.le_of_ble_eq_true rfl) ?_
  show mz_Go IX11_hardest (some (.inl r.1), r.2) 0 0 (0, [some (.inr (.inr (some (0, 0)))), some (.inl x1)], [], D)
  rw [fX11_hardest] at h
  refine mz_Go.run (gs := []) (st' := (1, [some (.inr (.inr (some (0, 0)))), some (.inl x1)], [.inl x1], D)) bX11_hardest_0 oX11_hardest_0 rfl trivial ?_
  refine mz_Go.callS (I := IX11_hardest) (J := IX11_isSplit) (as := [.inl x1]) (idx := 261) (pl := 1076) (rest := []) (mX11_isSplit x1 D _ rfl) kX11_isSplit vX11_isSplit (by decide +kernel) (by decide +kernel) (by decide +kernel) rfl rfl ⟨rfl, rfl⟩ rfl ?_
  refine mz_Go.run (gs := []) (st' := (if (fX11_isSplit x1) = 0 then (7, [some (.inr (.inr (some (0, 0)))), some (.inl x1)], [], D) else (13, [some (.inr (.inr (some (0, 0)))), some (.inl x1)], [], D))) bX11_hardest_4 oX11_hardest_4 rfl trivial ?_
  refine mz_Go.ite (fun hc1 => ?_) (fun hc1 => ?_)
  · have h := mz_ifp hc1 h
    refine mz_Go.run (gs := []) (st' := (9, [some (.inr (.inr (some (0, 0)))), some (.inl x1)], [.inl (1 : Int32), .inr (.inr (some (0, 0)))], D)) bX11_hardest_7 oX11_hardest_7 rfl trivial ?_
    refine mz_Go.callV (I := IX11_hardest) (J := IX11_refuse) (as := [.inl (1 : Int32)]) (ci := 11) (g := 0) (o := 0) (idx := 100) (pl := 673) (rest := []) (mX11_refuse (1 : Int32) D) kX11_refuse vX11_refuse (by decide +kernel) (by decide +kernel) (by decide +kernel) rfl rfl ⟨rfl, rfl⟩ rfl rfl rfl rfl ?_
    cases h
    exact mz_Go.reti (by decide +kernel) rfl ⟨Nat.le_refl _, Nat.le_refl _⟩ rfl
  · have h := mz_ifn hc1 h
    refine mz_Go.run (gs := [mz_kz 0 0 0, mz_kz 0 1 100, mz_kz 0 0 0, mz_kz 0 1 100, mz_kz 0 0 0]) (st' := (32, [some (.inr (.inr (some (0, 0)))), some (.inl x1)], [.inr (.inr (some (0, 14))), .inl x1, .inr (.inr (some (1, 101))), .inr (.inr (some (1, 109)))], D)) bX11_hardest_13 oX11_hardest_13 rfl ⟨rfl, rfl, rfl, rfl, rfl, trivial⟩ ?_
    obtain ⟨q2, hq2, h⟩ := mz_bd_some h
    refine mz_Go.callV (I := IX11_hardest) (J := IX1_fillDues_14) (as := [.inr (.inr (some (1, 101))), .inl x1, .inr (.inr (some (0, 14)))]) (ci := 1) (g := 1) (o := 109) (idx := 264) (pl := 1079) (rest := []) (mX1_fillDues_14 1 1 x1 D rfl rfl q2 hq2) kX1_fillDues_14 vX1_fillDues_14 (by decide +kernel) (by decide +kernel) (by decide +kernel) rfl rfl ⟨rfl, rfl⟩ rfl rfl rfl rfl ?_
    refine mz_Go.run (gs := [mz_kz 0 0 0, mz_kz 0 0 0, mz_kz 0 1 100, mz_kz 0 1 101]) (st' := (50, [some (.inr (.inr (some (0, 0)))), some (.inl x1)], [.inl (q2.1 1 101 0), .inr (.inr (some (0, 14))), .inr (.inr (some (0, 0)))], q2)) bX11_hardest_35 oX11_hardest_35 rfl ⟨rfl, rfl, rfl, rfl, trivial⟩ ?_
    obtain ⟨q3, hq3, h⟩ := mz_bd_some h
    refine mz_Go.callS (I := IX11_hardest) (J := IX11_firstGreatest_14) (as := [.inr (.inr (some (0, 14))), .inl (q2.1 1 101 0)]) (idx := 271) (pl := 1118) (rest := [.inr (.inr (some (0, 0)))]) (mX11_firstGreatest_14 (q2.1 1 101 0) q2 q3 hq3) kX11_firstGreatest_14 vX11_firstGreatest_14 (by decide +kernel) (by decide +kernel) (by decide +kernel) rfl rfl ⟨rfl, rfl⟩ rfl ?_
    obtain ⟨q4, hq4, h⟩ := mz_bd_some h
    refine mz_Go.callV (I := IX11_hardest) (J := IX11_answerIfAny) (as := [.inl q3]) (ci := 11) (g := 0) (o := 0) (idx := 245) (pl := 1046) (rest := []) (mX11_answerIfAny q3 q2 q4 hq4) kX11_answerIfAny vX11_answerIfAny (by decide +kernel) (by decide +kernel) (by decide +kernel) rfl rfl ⟨rfl, rfl⟩ rfl rfl rfl rfl ?_
    cases h
    exact mz_Go.reti (by decide +kernel) rfl ⟨Nat.le_refl _, Nat.le_refl _⟩ rfl
