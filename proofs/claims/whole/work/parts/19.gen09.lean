def bX12_wrongPlace_0 : List mz_E := [(0, .iload_n 1, 0, 0, 0, 0, 0)]
theorem oX12_wrongPlace_0 : bX12_wrongPlace_0.all (mz_ok RX12 cX12_wrongPlace 3) = true := by decide +kernel
def bX12_wrongPlace_4 : List mz_E := [(4, .ifCond .ne 7, 0, 11, 0, 0, 0)]
theorem oX12_wrongPlace_4 : bX12_wrongPlace_4.all (mz_ok RX12 cX12_wrongPlace 3) = true := by decide +kernel
def bX12_wrongPlace_7 : List mz_E := [(7, .iconst 1, 0, 0, 0, 1, 0), (8, .goto 36, 0, 44, 0, 0, 0)]
theorem oX12_wrongPlace_7 : bX12_wrongPlace_7.all (mz_ok RX12 cX12_wrongPlace 3) = true := by decide +kernel
def bX12_wrongPlace_11 : List mz_E := [(11, .aload_n 0, 0, 0, 0, 0, 0), (12, .getfield 24, 12, 6, 1582, 0, 0), (15, .iload_n 1, 0, 0, 0, 0, 0), (16, .iaload, 0, 0, 0, 0, 0), (17, .iconst (-1), 0, 0, 0, -1, 0), (18, .if_icmp .ne 7, 0, 25, 0, 0, 0)]
theorem oX12_wrongPlace_11 : bX12_wrongPlace_11.all (mz_ok RX12 cX12_wrongPlace 3) = true := by decide +kernel
def bX12_wrongPlace_21 : List mz_E := [(21, .iconst 2, 0, 0, 0, 2, 0), (22, .goto 22, 0, 44, 0, 0, 0)]
theorem oX12_wrongPlace_21 : bX12_wrongPlace_21.all (mz_ok RX12 cX12_wrongPlace 3) = true := by decide +kernel
def bX12_wrongPlace_25 : List mz_E := [(25, .iload_n 2, 0, 0, 0, 0, 0), (26, .ifCond .lt 13, 0, 39, 0, 0, 0)]
theorem oX12_wrongPlace_25 : bX12_wrongPlace_25.all (mz_ok RX12 cX12_wrongPlace 3) = true := by decide +kernel
def bX12_wrongPlace_39 : List mz_E := [(39, .iconst 3, 0, 0, 0, 3, 0), (40, .goto 4, 0, 44, 0, 0, 0)]
theorem oX12_wrongPlace_39 : bX12_wrongPlace_39.all (mz_ok RX12 cX12_wrongPlace 3) = true := by decide +kernel
def bX12_wrongPlace_29 : List mz_E := [(29, .iload_n 2, 0, 0, 0, 0, 0), (30, .aload_n 0, 0, 0, 0, 0, 0), (31, .getfield 24, 12, 6, 1582, 0, 0), (34, .iload_n 1, 0, 0, 0, 0, 0), (35, .iaload, 0, 0, 0, 0, 0), (36, .if_icmp .lt 7, 0, 43, 0, 0, 0)]
theorem oX12_wrongPlace_29 : bX12_wrongPlace_29.all (mz_ok RX12 cX12_wrongPlace 3) = true := by decide +kernel
def bX12_wrongPlace_43 : List mz_E := [(43, .iconst 0, 0, 0, 0, 0, 0)]
theorem oX12_wrongPlace_43 : bX12_wrongPlace_43.all (mz_ok RX12 cX12_wrongPlace 3) = true := by decide +kernel
abbrev IX12_wrongPlace : mz_I := (yX12_wrongPlace, cX12_wrongPlace, 3, (some .int), 0, 1, 0, 0)
theorem kX12_wrongPlace : mz_okm IX12_wrongPlace 1712 141 1711 2 = true := by decide +kernel
theorem vX12_wrongPlace : mz_okV IX12_wrongPlace 1711 48 = true := by decide +kernel
def fX12_wrongPlace (x1 : Int32) (x2 : Int32) (D : mz_D) : Option Int32 := (if (fX12_isTray x1) = 0 then (some (1 : Int32)) else (mz_gd (mz_ix x1 4) (if (D.1 0 204 (x1).toNatClampNeg) = (-1 : Int32) then (some (2 : Int32)) else (if x2 < 0 then (some (3 : Int32)) else (if x2 < (D.1 0 204 (x1).toNatClampNeg) then (some (0 : Int32)) else (some (3 : Int32)))))))
set_option maxHeartbeats 4000000 in
theorem mX12_wrongPlace (x1 : Int32) (x2 : Int32) (D : mz_D) (r : Int32) (h : fX12_wrongPlace x1 x2 D = some r) : mz_Met IX12_wrongPlace [.inr (.inr (some (0, 200))), .inl x1, .inl x2] D (some (.inl r), D) := by
  refine mz_Met.of (by decide +kernel) (Nat.le_of_ble_eq_true rfl) ?_
  show mz_Go IX12_wrongPlace (some (.inl r), D) 0 0 (0, [some (.inr (.inr (some (0, 200)))), some (.inl x1), some (.inl x2)], [], D)
  rw [fX12_wrongPlace] at h
  refine mz_Go.run (gs := []) (st' := (1, [some (.inr (.inr (some (0, 200)))), some (.inl x1), some (.inl x2)], [.inl x1], D)) bX12_wrongPlace_0 oX12_wrongPlace_0 rfl trivial ?_
  refine mz_Go.callS (I := IX12_wrongPlace) (J := IX12_isTray) (as := [.inl x1]) (idx := 86) (pl := 1698) (rest := []) (mX12_isTray x1 D _ rfl) kX12_isTray vX12_isTray (by decide +kernel) (by decide +kernel) (by decide +kernel) rfl rfl ⟨rfl, rfl⟩ rfl ?_
  refine mz_Go.run (gs := []) (st' := (if (fX12_isTray x1) = 0 then (7, [some (.inr (.inr (some (0, 200)))), some (.inl x1), some (.inl x2)], [], D) else (11, [some (.inr (.inr (some (0, 200)))), some (.inl x1), some (.inl x2)], [], D))) bX12_wrongPlace_4 oX12_wrongPlace_4 rfl trivial ?_
  refine mz_Go.ite (fun hc1 => ?_) (fun hc1 => ?_)
  · have h := mz_ifp hc1 h
    refine mz_Go.run (gs := []) (st' := (44, [some (.inr (.inr (some (0, 200)))), some (.inl x1), some (.inl x2)], [.inl (1 : Int32)], D)) bX12_wrongPlace_7 oX12_wrongPlace_7 rfl trivial ?_
    cases h
    exact mz_Go.reti (by decide +kernel) rfl ⟨Nat.le_refl _, Nat.le_refl _⟩ rfl
  · have h := mz_ifn hc1 h
    obtain ⟨hb2, h⟩ := mz_gd_some h
    refine mz_Go.run (gs := [mz_kz 0 0 200, mz_kz 0 0 204, mz_ix x1 4]) (st' := (if (D.1 0 204 (x1).toNatClampNeg) = (-1 : Int32) then (21, [some (.inr (.inr (some (0, 200)))), some (.inl x1), some (.inl x2)], [], D) else (25, [some (.inr (.inr (some (0, 200)))), some (.inl x1), some (.inl x2)], [], D))) bX12_wrongPlace_11 oX12_wrongPlace_11 rfl ⟨rfl, rfl, hb2, trivial⟩ ?_
    refine mz_Go.ite (fun hc3 => ?_) (fun hc3 => ?_)
    · have h := mz_ifp hc3 h
      refine mz_Go.run (gs := []) (st' := (44, [some (.inr (.inr (some (0, 200)))), some (.inl x1), some (.inl x2)], [.inl (2 : Int32)], D)) bX12_wrongPlace_21 oX12_wrongPlace_21 rfl trivial ?_
      cases h
      exact mz_Go.reti (by decide +kernel) rfl ⟨Nat.le_refl _, Nat.le_refl _⟩ rfl
    · have h := mz_ifn hc3 h
      refine mz_Go.run (gs := []) (st' := (if x2 < 0 then (39, [some (.inr (.inr (some (0, 200)))), some (.inl x1), some (.inl x2)], [], D) else (29, [some (.inr (.inr (some (0, 200)))), some (.inl x1), some (.inl x2)], [], D))) bX12_wrongPlace_25 oX12_wrongPlace_25 rfl trivial ?_
      refine mz_Go.ite (fun hc4 => ?_) (fun hc4 => ?_)
      · have h := mz_ifp hc4 h
        refine mz_Go.run (gs := []) (st' := (44, [some (.inr (.inr (some (0, 200)))), some (.inl x1), some (.inl x2)], [.inl (3 : Int32)], D)) bX12_wrongPlace_39 oX12_wrongPlace_39 rfl trivial ?_
        cases h
        exact mz_Go.reti (by decide +kernel) rfl ⟨Nat.le_refl _, Nat.le_refl _⟩ rfl
      · have h := mz_ifn hc4 h
        refine mz_Go.run (gs := [mz_kz 0 0 200, mz_kz 0 0 204, mz_ix x1 4]) (st' := (if x2 < (D.1 0 204 (x1).toNatClampNeg) then (43, [some (.inr (.inr (some (0, 200)))), some (.inl x1), some (.inl x2)], [], D) else (39, [some (.inr (.inr (some (0, 200)))), some (.inl x1), some (.inl x2)], [], D))) bX12_wrongPlace_29 oX12_wrongPlace_29 rfl ⟨rfl, rfl, hb2, trivial⟩ ?_
        refine mz_Go.ite (fun hc5 => ?_) (fun hc5 => ?_)
        · have h := mz_ifp hc5 h
          refine mz_Go.run (gs := []) (st' := (44, [some (.inr (.inr (some (0, 200)))), some (.inl x1), some (.inl x2)], [.inl (0 : Int32)], D)) bX12_wrongPlace_43 oX12_wrongPlace_43 rfl trivial ?_
          cases h
          exact mz_Go.reti (by decide +kernel) rfl ⟨Nat.le_refl _, Nat.le_refl _⟩ rfl
        · have h := mz_ifn hc5 h
          refine mz_Go.run (gs := []) (st' := (44, [some (.inr (.inr (some (0, 200)))), some (.inl x1), some (.inl x2)], [.inl (3 : Int32)], D)) bX12_wrongPlace_39 oX12_wrongPlace_39 rfl trivial ?_
          cases h
          exact mz_Go.reti (by decide +kernel) rfl ⟨Nat.le_refl _, Nat.le_refl _⟩ rfl
def bX12_write_0 : List mz_E := [(0, .aload_n 0, 0, 0, 0, 0, 0), (1, .iload_n 1, 0, 0, 0, 0, 0), (2, .iload_n 2, 0, 0, 0, 0, 0)]
theorem oX12_write_0 : bX12_write_0.all (mz_ok RX12 cX12_write 6) = true := by decide +kernel
def bX12_write_6 : List mz_E := [(6, .istore 5, 0, 0, 0, 0, 0), (8, .iload 5, 0, 0, 0, 0, 0), (10, .ifCond .ne 24, 0, 34, 0, 0, 0)]
theorem oX12_write_6 : bX12_write_6.all (mz_ok RX12 cX12_write 6) = true := by decide +kernel
def bX12_write_13 : List mz_E := [(13, .aload_n 0, 0, 0, 0, 0, 0), (14, .getfield 27, 12, 7, 1583, 0, 0), (17, .bipush 60, 0, 0, 0, 60, 0), (19, .iload_n 1, 0, 0, 0, 0, 0), (20, .imul, 0, 0, 0, 0, 0), (21, .iload_n 2, 0, 0, 0, 0, 0), (22, .iadd, 0, 0, 0, 0, 0), (23, .lload_n 3, 0, 0, 0, 0, 0), (24, .aload_n 0, 0, 0, 0, 0, 0), (25, .getfield 21, 12, 5, 1581, 0, 0), (28, .iload_n 1, 0, 0, 0, 0, 0), (29, .iaload, 0, 0, 0, 0, 0)]
theorem oX12_write_13 : bX12_write_13.all (mz_ok RX12 cX12_write 6) = true := by decide +kernel
def bX12_write_33 : List mz_E := [(33, .lastore, 0, 0, 0, 0, 0)]
theorem oX12_write_33 : bX12_write_33.all (mz_ok RX12 cX12_write 6) = true := by decide +kernel
def bX12_write_34 : List mz_E := [(34, .aload_n 0, 0, 0, 0, 0, 0), (35, .iload 5, 0, 0, 0, 0, 0)]
theorem oX12_write_34 : bX12_write_34.all (mz_ok RX12 cX12_write 6) = true := by decide +kernel
abbrev IX12_write : mz_I := (yX12_write, cX12_write, 6, (some .boolean), 0, 2, 0, 0)
theorem kX12_write : mz_okm IX12_write 1708 141 1706 3 = true := by decide +kernel
theorem vX12_write : mz_okV IX12_write 1706 1707 = true := by decide +kernel
def fX12_write_34 (x5 : Int32) (D : mz_D) : Option (Int32 × mz_D) := (Option.bind (fX12_is x5 D) fun q1 => (mz_gd (mz_bo q1.1) (some (q1.1, q1.2))))
set_option maxHeartbeats 4000000 in
theorem tX12_write_34 (r : (Int32 × mz_D)) : ∀ (x5 : Int32) (D : mz_D), fX12_write_34 x5 D = some r → mz_Go IX12_write (some (.inl r.1), r.2) 0 0 (34, [some (.inr (.inr (some (0, 200)))), none, none, none, none, some (.inl x5)], [], D) := by
  intro x5 D h
  rw [fX12_write_34] at h
  refine mz_Go.run (gs := []) (st' := (37, [some (.inr (.inr (some (0, 200)))), none, none, none, none, some (.inl x5)], [.inl x5, .inr (.inr (some (0, 200)))], D)) bX12_write_34 oX12_write_34 rfl trivial ?_
  obtain ⟨q1, hq1, h⟩ := mz_bd_some h
  refine mz_Go.callV (I := IX12_write) (J := IX12_is) (as := [.inl x5]) (ci := 12) (g := 0) (o := 200) (idx := 82) (pl := 1701) (rest := []) (mX12_is x5 D q1 hq1) kX12_is vX12_is (by decide +kernel) (by decide +kernel) (by decide +kernel) rfl rfl ⟨rfl, rfl⟩ rfl rfl rfl rfl ?_
  obtain ⟨hb2, h⟩ := mz_gd_some h
  cases h
  exact mz_Go.retz (by decide +kernel) rfl ⟨Nat.le_refl _, Nat.le_refl _⟩ hb2 rfl
def fX12_write (x1 : Int32) (x2 : Int32) (y3 : Int64) (D : mz_D) : Option (Int32 × mz_D) := (Option.bind (fX12_wrongPlace x1 x2 D) fun q1 => (if q1 = 0 then (mz_gd (mz_ix x1 4) (mz_gd (mz_ix (((60 : Int32) * x1) + x2) 240) (fX12_write_34 q1 (mz_wg D 0 205 ((((60 : Int32) * x1) + x2)).toNatClampNeg (fX12_cut y3 (D.1 0 203 (x1).toNatClampNeg)))))) else (fX12_write_34 q1 D)))
set_option maxHeartbeats 4000000 in
theorem mX12_write (x1 : Int32) (x2 : Int32) (y3 : Int64) (D : mz_D) (r : (Int32 × mz_D)) (h : fX12_write x1 x2 y3 D = some r) : mz_Met IX12_write [.inr (.inr (some (0, 200))), .inl x1, .inl x2, .inr (.inl y3)] D (some (.inl r.1), r.2) := by
  refine mz_Met.of (by decide +kernel) (Nat.le_of_ble_eq_true rfl) ?_
  show mz_Go IX12_write (some (.inl r.1), r.2) 0 0 (0, [some (.inr (.inr (some (0, 200)))), some (.inl x1), some (.inl x2), some (.inr (.inl y3)), none, none], [], D)
  rw [fX12_write] at h
  refine mz_Go.run (gs := []) (st' := (3, [some (.inr (.inr (some (0, 200)))), some (.inl x1), some (.inl x2), some (.inr (.inl y3)), none, none], [.inl x2, .inl x1, .inr (.inr (some (0, 200)))], D)) bX12_write_0 oX12_write_0 rfl trivial ?_
  obtain ⟨q1, hq1, h⟩ := mz_bd_some h
  refine mz_Go.callV (I := IX12_write) (J := IX12_wrongPlace) (as := [.inl x1, .inl x2]) (ci := 12) (g := 0) (o := 200) (idx := 89) (pl := 1709) (rest := []) (mX12_wrongPlace x1 x2 D q1 hq1) kX12_wrongPlace vX12_wrongPlace (by decide +kernel) (by decide +kernel) (by decide +kernel) rfl rfl ⟨rfl, rfl⟩ rfl rfl rfl rfl ?_
  refine mz_Go.run (gs := []) (st' := (if q1 = 0 then (13, [some (.inr (.inr (some (0, 200)))), some (.inl x1), some (.inl x2), some (.inr (.inl y3)), none, some (.inl q1)], [], D) else (34, [some (.inr (.inr (some (0, 200)))), some (.inl x1), some (.inl x2), some (.inr (.inl y3)), none, some (.inl q1)], [], D))) bX12_write_6 oX12_write_6 rfl trivial ?_
  refine mz_Go.ite (fun hc2 => ?_) (fun hc2 => ?_)
  · have h := mz_ifp hc2 h
    obtain ⟨hb3, h⟩ := mz_gd_some h
    refine mz_Go.run (gs := [mz_kz 0 0 200, mz_kz 0 0 200, mz_kz 0 0 203, mz_ix x1 4]) (st' := (30, [some (.inr (.inr (some (0, 200)))), some (.inl x1), some (.inl x2), some (.inr (.inl y3)), none, some (.inl q1)], [.inl (D.1 0 203 (x1).toNatClampNeg), .inr (.inl y3), .inl (((60 : Int32) * x1) + x2), .inr (.inr (some (0, 205)))], D)) bX12_write_13 oX12_write_13 rfl ⟨rfl, rfl, rfl, hb3, trivial⟩ ?_
    refine mz_Go.callS (I := IX12_write) (J := IX12_cut) (as := [.inr (.inl y3), .inl (D.1 0 203 (x1).toNatClampNeg)]) (idx := 93) (pl := 1713) (rest := [.inl (((60 : Int32) * x1) + x2), .inr (.inr (some (0, 205)))]) (mX12_cut y3 (D.1 0 203 (x1).toNatClampNeg) D _ rfl) kX12_cut vX12_cut (by decide +kernel) (by decide +kernel) (by decide +kernel) rfl rfl ⟨rfl, rfl⟩ rfl ?_
    obtain ⟨hb4, h⟩ := mz_gd_some h
    refine mz_Go.run (gs := [mz_kz 0 0 205, mz_ix (((60 : Int32) * x1) + x2) 240]) (st' := (34, [some (.inr (.inr (some (0, 200)))), some (.inl x1), some (.inl x2), some (.inr (.inl y3)), none, some (.inl q1)], [], (mz_wg D 0 205 ((((60 : Int32) * x1) + x2)).toNatClampNeg (fX12_cut y3 (D.1 0 203 (x1).toNatClampNeg))))) bX12_write_33 oX12_write_33 rfl ⟨rfl, hb4, trivial⟩ ?_
    exact mz_Go.drop [true, false, false, false, false, true] (tX12_write_34 r q1 (mz_wg D 0 205 ((((60 : Int32) * x1) + x2)).toNatClampNeg (fX12_cut y3 (D.1 0 203 (x1).toNatClampNeg))) h)
  · have h := mz_ifn hc2 h
    exact mz_Go.drop [true, false, false, false, false, true] (tX12_write_34 r q1 D h)
def bX12_read_0 : List mz_E := [(0, .aload_n 0, 0, 0, 0, 0, 0), (1, .aload_n 0, 0, 0, 0, 0, 0), (2, .iload_n 1, 0, 0, 0, 0, 0), (3, .iload_n 2, 0, 0, 0, 0, 0)]
theorem oX12_read_0 : bX12_read_0.all (mz_ok RX12 cX12_read 3) = true := by decide +kernel
def bX12_read_7 : List mz_E := [(7, .putfield 69, 12, 2, 1578, 0, 0), (10, .aload_n 0, 0, 0, 0, 0, 0), (11, .getfield 69, 12, 2, 1578, 0, 0), (14, .ifCond .le 9, 0, 23, 0, 0, 0)]
theorem oX12_read_7 : bX12_read_7.all (mz_ok RX12 cX12_read 3) = true := by decide +kernel
def bX12_read_23 : List mz_E := [(23, .aload_n 0, 0, 0, 0, 0, 0), (24, .getfield 27, 12, 7, 1583, 0, 0), (27, .bipush 60, 0, 0, 0, 60, 0), (29, .iload_n 1, 0, 0, 0, 0, 0), (30, .imul, 0, 0, 0, 0, 0), (31, .iload_n 2, 0, 0, 0, 0, 0), (32, .iadd, 0, 0, 0, 0, 0), (33, .laload, 0, 0, 0, 0, 0)]
theorem oX12_read_23 : bX12_read_23.all (mz_ok RX12 cX12_read 3) = true := by decide +kernel
def bX12_read_17 : List mz_E := [(17, .ldc2_w 97, 0, 0, 1720, 0, -1), (20, .goto 14, 0, 34, 0, 0, 0)]
theorem oX12_read_17 : bX12_read_17.all (mz_ok RX12 cX12_read 3) = true := by decide +kernel
abbrev IX12_read : mz_I := (yX12_read, cX12_read, 3, (some .long), 0, 2, 0, 0)
theorem kX12_read : mz_okm IX12_read 1719 141 1717 2 = true := by decide +kernel
theorem vX12_read : mz_okV IX12_read 1717 1718 = true := by decide +kernel
def fX12_read (x1 : Int32) (x2 : Int32) (D : mz_D) : Option (Int64 × mz_D) := (Option.bind (fX12_wrongPlace x1 x2 D) fun q1 => (if q1 ≤ 0 then (mz_gd (mz_ix (((60 : Int32) * x1) + x2) 240) (some ((D.2 0 205 ((((60 : Int32) * x1) + x2)).toNatClampNeg), (mz_wi D 0 200 2 q1)))) else (some ((-1 : Int64), (mz_wi D 0 200 2 q1)))))
set_option maxHeartbeats 4000000 in
theorem mX12_read (x1 : Int32) (x2 : Int32) (D : mz_D) (r : (Int64 × mz_D)) (h : fX12_read x1 x2 D = some r) : mz_Met IX12_read [.inr (.inr (some (0, 200))), .inl x1, .inl x2] D (some (.inr (.inl r.1)), r.2) := by
  refine mz_Met.of (by decide +kernel) (Nat.le_of_ble_eq_true rfl) ?_
  show mz_Go IX12_read (some (.inr (.inl r.1)), r.2) 0 0 (0, [some (.inr (.inr (some (0, 200)))), some (.inl x1), some (.inl x2)], [], D)
  rw [fX12_read] at h
  refine mz_Go.run (gs := []) (st' := (4, [some (.inr (.inr (some (0, 200)))), some (.inl x1), some (.inl x2)], [.inl x2, .inl x1, .inr (.inr (some (0, 200))), .inr (.inr (some (0, 200)))], D)) bX12_read_0 oX12_read_0 rfl trivial ?_
  obtain ⟨q1, hq1, h⟩ := mz_bd_some h
  refine mz_Go.callV (I := IX12_read) (J := IX12_wrongPlace) (as := [.inl x1, .inl x2]) (ci := 12) (g := 0) (o := 200) (idx := 89) (pl := 1709) (rest := [.inr (.inr (some (0, 200)))]) (mX12_wrongPlace x1 x2 D q1 hq1) kX12_wrongPlace vX12_wrongPlace (by decide +kernel) (by decide +kernel) (by decide +kernel) rfl rfl ⟨rfl, rfl⟩ rfl rfl rfl rfl ?_
  refine mz_Go.run (gs := [mz_kz 0 0 200, mz_kz 0 0 200]) (st' := (if q1 ≤ 0 then (23, [some (.inr (.inr (some (0, 200)))), some (.inl x1), some (.inl x2)], [], (mz_wi D 0 200 2 q1)) else (17, [some (.inr (.inr (some (0, 200)))), some (.inl x1), some (.inl x2)], [], (mz_wi D 0 200 2 q1)))) bX12_read_7 oX12_read_7 rfl ⟨rfl, rfl, trivial⟩ ?_
  refine mz_Go.ite (fun hc2 => ?_) (fun hc2 => ?_)
  · have h := mz_ifp hc2 h
    obtain ⟨hb3, h⟩ := mz_gd_some h
    refine mz_Go.run (gs := [mz_kz 0 0 200, mz_kz 0 0 205, mz_ix (((60 : Int32) * x1) + x2) 240]) (st' := (34, [some (.inr (.inr (some (0, 200)))), some (.inl x1), some (.inl x2)], [.inr (.inl (D.2 0 205 ((((60 : Int32) * x1) + x2)).toNatClampNeg))], (mz_wi D 0 200 2 q1))) bX12_read_23 oX12_read_23 rfl ⟨rfl, rfl, hb3, trivial⟩ ?_
    cases h
    exact mz_Go.retl (by decide +kernel) rfl ⟨Nat.le_refl _, Nat.le_refl _⟩ rfl
  · have h := mz_ifn hc2 h
    refine mz_Go.run (gs := []) (st' := (34, [some (.inr (.inr (some (0, 200)))), some (.inl x1), some (.inl x2)], [.inr (.inl (-1 : Int64))], (mz_wi D 0 200 2 q1))) bX12_read_17 oX12_read_17 rfl trivial ?_
    cases h
    exact mz_Go.retl (by decide +kernel) rfl ⟨Nat.le_refl _, Nat.le_refl _⟩ rfl
def bX12_pour_0 : List mz_E := [(0, .iload_n 1, 0, 0, 0, 0, 0)]
theorem oX12_pour_0 : bX12_pour_0.all (mz_ok RX12 cX12_pour 8) = true := by decide +kernel
def bX12_pour_4 : List mz_E := [(4, .ifCond .eq 24, 0, 28, 0, 0, 0)]
theorem oX12_pour_4 : bX12_pour_4.all (mz_ok RX12 cX12_pour 8) = true := by decide +kernel
def bX12_pour_28 : List mz_E := [(28, .aload_n 0, 0, 0, 0, 0, 0), (29, .iconst 1, 0, 0, 0, 1, 0)]
theorem oX12_pour_28 : bX12_pour_28.all (mz_ok RX12 cX12_pour 8) = true := by decide +kernel
def bX12_pour_7 : List mz_E := [(7, .iload_n 3, 0, 0, 0, 0, 0)]
theorem oX12_pour_7 : bX12_pour_7.all (mz_ok RX12 cX12_pour 8) = true := by decide +kernel
def bX12_pour_11 : List mz_E := [(11, .ifCond .eq 17, 0, 28, 0, 0, 0)]
theorem oX12_pour_11 : bX12_pour_11.all (mz_ok RX12 cX12_pour 8) = true := by decide +kernel
def bX12_pour_14 : List mz_E := [(14, .iload_n 2, 0, 0, 0, 0, 0), (15, .ifCond .lt 13, 0, 28, 0, 0, 0)]
theorem oX12_pour_14 : bX12_pour_14.all (mz_ok RX12 cX12_pour 8) = true := by decide +kernel
def bX12_pour_18 : List mz_E := [(18, .iload 4, 0, 0, 0, 0, 0), (20, .ifCond .lt 8, 0, 28, 0, 0, 0)]
theorem oX12_pour_18 : bX12_pour_18.all (mz_ok RX12 cX12_pour 8) = true := by decide +kernel
def bX12_pour_23 : List mz_E := [(23, .iload 5, 0, 0, 0, 0, 0), (25, .ifCond .ge 9, 0, 34, 0, 0, 0)]
theorem oX12_pour_23 : bX12_pour_23.all (mz_ok RX12 cX12_pour 8) = true := by decide +kernel
def bX12_pour_34 : List mz_E := [(34, .aload_n 0, 0, 0, 0, 0, 0), (35, .getfield 24, 12, 6, 1582, 0, 0), (38, .iload_n 1, 0, 0, 0, 0, 0), (39, .iaload, 0, 0, 0, 0, 0), (40, .iconst (-1), 0, 0, 0, -1, 0), (41, .if_icmp .eq 13, 0, 54, 0, 0, 0)]
theorem oX12_pour_34 : bX12_pour_34.all (mz_ok RX12 cX12_pour 8) = true := by decide +kernel
def bX12_pour_54 : List mz_E := [(54, .aload_n 0, 0, 0, 0, 0, 0), (55, .iconst 2, 0, 0, 0, 2, 0)]
theorem oX12_pour_54 : bX12_pour_54.all (mz_ok RX12 cX12_pour 8) = true := by decide +kernel
def bX12_pour_44 : List mz_E := [(44, .aload_n 0, 0, 0, 0, 0, 0), (45, .getfield 24, 12, 6, 1582, 0, 0), (48, .iload_n 3, 0, 0, 0, 0, 0), (49, .iaload, 0, 0, 0, 0, 0), (50, .iconst (-1), 0, 0, 0, -1, 0), (51, .if_icmp .ne 9, 0, 60, 0, 0, 0)]
theorem oX12_pour_44 : bX12_pour_44.all (mz_ok RX12 cX12_pour 8) = true := by decide +kernel
def bX12_pour_60 : List mz_E := [(60, .aload_n 0, 0, 0, 0, 0, 0), (61, .getfield 21, 12, 5, 1581, 0, 0), (64, .iload_n 1, 0, 0, 0, 0, 0), (65, .iaload, 0, 0, 0, 0, 0), (66, .aload_n 0, 0, 0, 0, 0, 0), (67, .getfield 21, 12, 5, 1581, 0, 0), (70, .iload_n 3, 0, 0, 0, 0, 0), (71, .iaload, 0, 0, 0, 0, 0), (72, .if_icmp .eq 10, 0, 82, 0, 0, 0)]
theorem oX12_pour_60 : bX12_pour_60.all (mz_ok RX12 cX12_pour 8) = true := by decide +kernel
def bX12_pour_82 : List mz_E := [(82, .iload 5, 0, 0, 0, 0, 0), (84, .aload_n 0, 0, 0, 0, 0, 0), (85, .getfield 24, 12, 6, 1582, 0, 0), (88, .iload_n 1, 0, 0, 0, 0, 0), (89, .iaload, 0, 0, 0, 0, 0), (90, .iload_n 2, 0, 0, 0, 0, 0), (91, .isub, 0, 0, 0, 0, 0), (92, .if_icmp .gt 17, 0, 109, 0, 0, 0)]
theorem oX12_pour_82 : bX12_pour_82.all (mz_ok RX12 cX12_pour 8) = true := by decide +kernel
def bX12_pour_109 : List mz_E := [(109, .aload_n 0, 0, 0, 0, 0, 0), (110, .iconst 3, 0, 0, 0, 3, 0)]
theorem oX12_pour_109 : bX12_pour_109.all (mz_ok RX12 cX12_pour 8) = true := by decide +kernel
def bX12_pour_95 : List mz_E := [(95, .iload 5, 0, 0, 0, 0, 0), (97, .aload_n 0, 0, 0, 0, 0, 0), (98, .getfield 24, 12, 6, 1582, 0, 0), (101, .iload_n 3, 0, 0, 0, 0, 0), (102, .iaload, 0, 0, 0, 0, 0), (103, .iload 4, 0, 0, 0, 0, 0), (105, .isub, 0, 0, 0, 0, 0), (106, .if_icmp .le 9, 0, 115, 0, 0, 0)]
theorem oX12_pour_95 : bX12_pour_95.all (mz_ok RX12 cX12_pour 8) = true := by decide +kernel
def bX12_pour_115 : List mz_E := [(115, .iconst 0, 0, 0, 0, 0, 0), (116, .istore 6, 0, 0, 0, 0, 0)]
theorem oX12_pour_115 : bX12_pour_115.all (mz_ok RX12 cX12_pour 8) = true := by decide +kernel
def bX12_pour_118 : List mz_E := [(118, .iload 6, 0, 0, 0, 0, 0), (120, .iload 5, 0, 0, 0, 0, 0), (122, .if_icmp .ge 58, 0, 180, 0, 0, 0)]
theorem oX12_pour_118 : bX12_pour_118.all (mz_ok RX12 cX12_pour 8) = true := by decide +kernel
def bX12_pour_180 : List mz_E := [(180, .aload_n 0, 0, 0, 0, 0, 0), (181, .iconst 0, 0, 0, 0, 0, 0)]
theorem oX12_pour_180 : bX12_pour_180.all (mz_ok RX12 cX12_pour 8) = true := by decide +kernel
def bX12_pour_125 : List mz_E := [(125, .iload_n 2, 0, 0, 0, 0, 0), (126, .iload 4, 0, 0, 0, 0, 0), (128, .if_icmp .ge 13, 0, 141, 0, 0, 0)]
theorem oX12_pour_125 : bX12_pour_125.all (mz_ok RX12 cX12_pour 8) = true := by decide +kernel
def bX12_pour_141 : List mz_E := [(141, .iload 6, 0, 0, 0, 0, 0)]
theorem oX12_pour_141 : bX12_pour_141.all (mz_ok RX12 cX12_pour 8) = true := by decide +kernel
def bX12_pour_143 : List mz_E := [(143, .istore 7, 0, 0, 0, 0, 0), (145, .aload_n 0, 0, 0, 0, 0, 0), (146, .getfield 27, 12, 7, 1583, 0, 0), (149, .bipush 60, 0, 0, 0, 60, 0), (151, .iload_n 3, 0, 0, 0, 0, 0), (152, .imul, 0, 0, 0, 0, 0), (153, .iload 4, 0, 0, 0, 0, 0), (155, .iadd, 0, 0, 0, 0, 0), (156, .iload 7, 0, 0, 0, 0, 0), (158, .iadd, 0, 0, 0, 0, 0), (159, .aload_n 0, 0, 0, 0, 0, 0), (160, .getfield 27, 12, 7, 1583, 0, 0), (163, .bipush 60, 0, 0, 0, 60, 0), (165, .iload_n 1, 0, 0, 0, 0, 0), (166, .imul, 0, 0, 0, 0, 0), (167, .iload_n 2, 0, 0, 0, 0, 0), (168, .iadd, 0, 0, 0, 0, 0), (169, .iload 7, 0, 0, 0, 0, 0), (171, .iadd, 0, 0, 0, 0, 0), (172, .laload, 0, 0, 0, 0, 0), (173, .lastore, 0, 0, 0, 0, 0), (174, .iinc 6 1, 0, 0, 0, 1, 0), (177, .goto (-59), 0, 118, 0, 0, 0)]
theorem oX12_pour_143 : bX12_pour_143.all (mz_ok RX12 cX12_pour 8) = true := by decide +kernel
def bX12_pour_131 : List mz_E := [(131, .iload 5, 0, 0, 0, 0, 0), (133, .iconst 1, 0, 0, 0, 1, 0), (134, .isub, 0, 0, 0, 0, 0), (135, .iload 6, 0, 0, 0, 0, 0), (137, .isub, 0, 0, 0, 0, 0), (138, .goto 5, 0, 143, 0, 0, 0)]
theorem oX12_pour_131 : bX12_pour_131.all (mz_ok RX12 cX12_pour 8) = true := by decide +kernel
def bX12_pour_75 : List mz_E := [(75, .aload_n 0, 0, 0, 0, 0, 0), (76, .bipush 8, 0, 0, 0, 8, 0)]
theorem oX12_pour_75 : bX12_pour_75.all (mz_ok RX12 cX12_pour 8) = true := by decide +kernel
abbrev IX12_pour : mz_I := (yX12_pour, cX12_pour, 8, (some .boolean), 0, 1, 0, 0)
theorem kX12_pour : mz_okm IX12_pour 1724 141 1722 5 = true := by decide +kernel
theorem vX12_pour : mz_okV IX12_pour 1722 1723 = true := by decide +kernel
def fX12_pour_28 (D : mz_D) : Option (Int32 × mz_D) := (Option.bind (fX12_is (1 : Int32) D) fun q1 => (mz_gd (mz_bo q1.1) (some (q1.1, q1.2))))
set_option maxHeartbeats 4000000 in
theorem tX12_pour_28 (r : (Int32 × mz_D)) : ∀ (D : mz_D), fX12_pour_28 D = some r → mz_Go IX12_pour (some (.inl r.1), r.2) 0 0 (28, [some (.inr (.inr (some (0, 200)))), none, none, none, none, none, none, none], [], D) := by
  intro D h
  rw [fX12_pour_28] at h
  refine mz_Go.run (gs := []) (st' := (30, [some (.inr (.inr (some (0, 200)))), none, none, none, none, none, none, none], [.inl (1 : Int32), .inr (.inr (some (0, 200)))], D)) bX12_pour_28 oX12_pour_28 rfl trivial ?_
  obtain ⟨q1, hq1, h⟩ := mz_bd_some h
  refine mz_Go.callV (I := IX12_pour) (J := IX12_is) (as := [.inl (1 : Int32)]) (ci := 12) (g := 0) (o := 200) (idx := 82) (pl := 1701) (rest := []) (mX12_is (1 : Int32) D q1 hq1) kX12_is vX12_is (by decide +kernel) (by decide +kernel) (by decide +kernel) rfl rfl ⟨rfl, rfl⟩ rfl rfl rfl rfl ?_
  obtain ⟨hb2, h⟩ := mz_gd_some h
  cases h
  exact mz_Go.retz (by decide +kernel) rfl ⟨Nat.le_refl _, Nat.le_refl _⟩ hb2 rfl
def fX12_pour_54 (D : mz_D) : Option (Int32 × mz_D) := (Option.bind (fX12_is (2 : Int32) D) fun q1 => (mz_gd (mz_bo q1.1) (some (q1.1, q1.2))))
set_option maxHeartbeats 4000000 in
theorem tX12_pour_54 (r : (Int32 × mz_D)) : ∀ (D : mz_D), fX12_pour_54 D = some r → mz_Go IX12_pour (some (.inl r.1), r.2) 0 0 (54, [some (.inr (.inr (some (0, 200)))), none, none, none, none, none, none, none], [], D) := by
  intro D h
  rw [fX12_pour_54] at h
  refine mz_Go.run (gs := []) (st' := (56, [some (.inr (.inr (some (0, 200)))), none, none, none, none, none, none, none], [.inl (2 : Int32), .inr (.inr (some (0, 200)))], D)) bX12_pour_54 oX12_pour_54 rfl trivial ?_
  obtain ⟨q1, hq1, h⟩ := mz_bd_some h
  refine mz_Go.callV (I := IX12_pour) (J := IX12_is) (as := [.inl (2 : Int32)]) (ci := 12) (g := 0) (o := 200) (idx := 82) (pl := 1701) (rest := []) (mX12_is (2 : Int32) D q1 hq1) kX12_is vX12_is (by decide +kernel) (by decide +kernel) (by decide +kernel) rfl rfl ⟨rfl, rfl⟩ rfl rfl rfl rfl ?_
  obtain ⟨hb2, h⟩ := mz_gd_some h
  cases h
  exact mz_Go.retz (by decide +kernel) rfl ⟨Nat.le_refl _, Nat.le_refl _⟩ hb2 rfl
def fX12_pour_109 (D : mz_D) : Option (Int32 × mz_D) := (Option.bind (fX12_is (3 : Int32) D) fun q1 => (mz_gd (mz_bo q1.1) (some (q1.1, q1.2))))
set_option maxHeartbeats 4000000 in
theorem tX12_pour_109 (r : (Int32 × mz_D)) : ∀ (D : mz_D), fX12_pour_109 D = some r → mz_Go IX12_pour (some (.inl r.1), r.2) 0 0 (109, [some (.inr (.inr (some (0, 200)))), none, none, none, none, none, none, none], [], D) := by
  intro D h
  rw [fX12_pour_109] at h
  refine mz_Go.run (gs := []) (st' := (111, [some (.inr (.inr (some (0, 200)))), none, none, none, none, none, none, none], [.inl (3 : Int32), .inr (.inr (some (0, 200)))], D)) bX12_pour_109 oX12_pour_109 rfl trivial ?_
  obtain ⟨q1, hq1, h⟩ := mz_bd_some h
  refine mz_Go.callV (I := IX12_pour) (J := IX12_is) (as := [.inl (3 : Int32)]) (ci := 12) (g := 0) (o := 200) (idx := 82) (pl := 1701) (rest := []) (mX12_is (3 : Int32) D q1 hq1) kX12_is vX12_is (by decide +kernel) (by decide +kernel) (by decide +kernel) rfl rfl ⟨rfl, rfl⟩ rfl rfl rfl rfl ?_
  obtain ⟨hb2, h⟩ := mz_gd_some h
  cases h
  exact mz_Go.retz (by decide +kernel) rfl ⟨Nat.le_refl _, Nat.le_refl _⟩ hb2 rfl
def fX12_pour_143 (k118 : Int32 → Int32 → Int32 → Int32 → Int32 → Int32 → mz_D → Option (Int32 × mz_D)) (x1 : Int32) (x2 : Int32) (x3 : Int32) (x4 : Int32) (x5 : Int32) (x6 : Int32) (s0 : Int32) (D : mz_D) : Option (Int32 × mz_D) := (mz_gd (mz_ix ((((60 : Int32) * x1) + x2) + s0) 240) (mz_gd (mz_ix ((((60 : Int32) * x3) + x4) + s0) 240) (k118 x1 x2 x3 x4 x5 (x6 + (1 : Int32)) (mz_wg D 0 205 (((((60 : Int32) * x3) + x4) + s0)).toNatClampNeg (D.2 0 205 (((((60 : Int32) * x1) + x2) + s0)).toNatClampNeg)))))
set_option maxHeartbeats 4000000 in
theorem tX12_pour_143 (r : (Int32 × mz_D)) (k118 : Int32 → Int32 → Int32 → Int32 → Int32 → Int32 → mz_D → Option (Int32 × mz_D)) (hk118 : ∀ (x1 : Int32) (x2 : Int32) (x3 : Int32) (x4 : Int32) (x5 : Int32) (x6 : Int32) (D : mz_D), k118 x1 x2 x3 x4 x5 x6 D = some r → mz_Go IX12_pour (some (.inl r.1), r.2) 0 0 (118, [some (.inr (.inr (some (0, 200)))), some (.inl x1), some (.inl x2), some (.inl x3), some (.inl x4), some (.inl x5), some (.inl x6), none], [], D)) : ∀ (x1 : Int32) (x2 : Int32) (x3 : Int32) (x4 : Int32) (x5 : Int32) (x6 : Int32) (s0 : Int32) (D : mz_D), fX12_pour_143 k118 x1 x2 x3 x4 x5 x6 s0 D = some r → mz_Go IX12_pour (some (.inl r.1), r.2) 0 0 (143, [some (.inr (.inr (some (0, 200)))), some (.inl x1), some (.inl x2), some (.inl x3), some (.inl x4), some (.inl x5), some (.inl x6), none], [.inl s0], D) := by
  intro x1 x2 x3 x4 x5 x6 s0 D h
  rw [fX12_pour_143] at h
  obtain ⟨hb1, h⟩ := mz_gd_some h
  obtain ⟨hb2, h⟩ := mz_gd_some h
  refine mz_Go.run (gs := [mz_kz 0 0 200, mz_kz 0 0 200, mz_kz 0 0 205, mz_ix ((((60 : Int32) * x1) + x2) + s0) 240, mz_kz 0 0 205, mz_ix ((((60 : Int32) * x3) + x4) + s0) 240]) (st' := (118, [some (.inr (.inr (some (0, 200)))), some (.inl x1), some (.inl x2), some (.inl x3), some (.inl x4), some (.inl x5), some (.inl (x6 + (1 : Int32))), some (.inl s0)], [], (mz_wg D 0 205 (((((60 : Int32) * x3) + x4) + s0)).toNatClampNeg (D.2 0 205 (((((60 : Int32) * x1) + x2) + s0)).toNatClampNeg)))) bX12_pour_143 oX12_pour_143 rfl ⟨rfl, rfl, rfl, hb1, rfl, hb2, trivial⟩ ?_
  exact mz_Go.drop [true, true, true, true, true, true, true, false] (hk118 x1 x2 x3 x4 x5 (x6 + (1 : Int32)) (mz_wg D 0 205 (((((60 : Int32) * x3) + x4) + s0)).toNatClampNeg (D.2 0 205 (((((60 : Int32) * x1) + x2) + s0)).toNatClampNeg)) h)
def fX12_pour_118 : Nat → Int32 → Int32 → Int32 → Int32 → Int32 → Int32 → mz_D → Option (Int32 × mz_D)
  | 0 => fun _ _ _ _ _ _ _ => none
  | n + 1 => fun x1 x2 x3 x4 x5 x6 D => (if x5 ≤ x6 then (Option.bind (fX12_is (0 : Int32) D) fun q2 => (mz_gd (mz_bo q2.1) (some (q2.1, q2.2)))) else (if x4 ≤ x2 then (fX12_pour_143 (fX12_pour_118 n) x1 x2 x3 x4 x5 x6 x6 D) else (fX12_pour_143 (fX12_pour_118 n) x1 x2 x3 x4 x5 x6 ((x5 - (1 : Int32)) - x6) D)))
set_option maxHeartbeats 4000000 in
theorem tX12_pour_118 (r : (Int32 × mz_D)) : ∀ (n : Nat) (x1 : Int32) (x2 : Int32) (x3 : Int32) (x4 : Int32) (x5 : Int32) (x6 : Int32) (D : mz_D), fX12_pour_118 n x1 x2 x3 x4 x5 x6 D = some r → mz_Go IX12_pour (some (.inl r.1), r.2) 0 0 (118, [some (.inr (.inr (some (0, 200)))), some (.inl x1), some (.inl x2), some (.inl x3), some (.inl x4), some (.inl x5), some (.inl x6), none], [], D) := by
  intro n
  induction n with
  | zero => intro x1 x2 x3 x4 x5 x6 D h; have h : (none : Option (Int32 × mz_D)) = some r := h; cases h
  | succ n ih =>
    intro x1 x2 x3 x4 x5 x6 D h
    rw [fX12_pour_118] at h
    refine mz_Go.run (gs := []) (st' := (if x5 ≤ x6 then (180, [some (.inr (.inr (some (0, 200)))), some (.inl x1), some (.inl x2), some (.inl x3), some (.inl x4), some (.inl x5), some (.inl x6), none], [], D) else (125, [some (.inr (.inr (some (0, 200)))), some (.inl x1), some (.inl x2), some (.inl x3), some (.inl x4), some (.inl x5), some (.inl x6), none], [], D))) bX12_pour_118 oX12_pour_118 rfl trivial ?_
    refine mz_Go.ite (fun hc1 => ?_) (fun hc1 => ?_)
    · have h := mz_ifp hc1 h
      refine mz_Go.run (gs := []) (st' := (182, [some (.inr (.inr (some (0, 200)))), some (.inl x1), some (.inl x2), some (.inl x3), some (.inl x4), some (.inl x5), some (.inl x6), none], [.inl (0 : Int32), .inr (.inr (some (0, 200)))], D)) bX12_pour_180 oX12_pour_180 rfl trivial ?_
      obtain ⟨q2, hq2, h⟩ := mz_bd_some h
      refine mz_Go.callV (I := IX12_pour) (J := IX12_is) (as := [.inl (0 : Int32)]) (ci := 12) (g := 0) (o := 200) (idx := 82) (pl := 1701) (rest := []) (mX12_is (0 : Int32) D q2 hq2) kX12_is vX12_is (by decide +kernel) (by decide +kernel) (by decide +kernel) rfl rfl ⟨rfl, rfl⟩ rfl rfl rfl rfl ?_
      obtain ⟨hb3, h⟩ := mz_gd_some h
      cases h
      exact mz_Go.retz (by decide +kernel) rfl ⟨Nat.le_refl _, Nat.le_refl _⟩ hb3 rfl
    · have h := mz_ifn hc1 h
      refine mz_Go.run (gs := []) (st' := (if x4 ≤ x2 then (141, [some (.inr (.inr (some (0, 200)))), some (.inl x1), some (.inl x2), some (.inl x3), some (.inl x4), some (.inl x5), some (.inl x6), none], [], D) else (131, [some (.inr (.inr (some (0, 200)))), some (.inl x1), some (.inl x2), some (.inl x3), some (.inl x4), some (.inl x5), some (.inl x6), none], [], D))) bX12_pour_125 oX12_pour_125 rfl trivial ?_
      refine mz_Go.ite (fun hc4 => ?_) (fun hc4 => ?_)
      · have h := mz_ifp hc4 h
        refine mz_Go.run (gs := []) (st' := (143, [some (.inr (.inr (some (0, 200)))), some (.inl x1), some (.inl x2), some (.inl x3), some (.inl x4), some (.inl x5), some (.inl x6), none], [.inl x6], D)) bX12_pour_141 oX12_pour_141 rfl trivial ?_
        exact mz_Go.drop [true, true, true, true, true, true, true, false] (tX12_pour_143 r (fX12_pour_118 n) ih x1 x2 x3 x4 x5 x6 x6 D h)
      · have h := mz_ifn hc4 h
        refine mz_Go.run (gs := []) (st' := (143, [some (.inr (.inr (some (0, 200)))), some (.inl x1), some (.inl x2), some (.inl x3), some (.inl x4), some (.inl x5), some (.inl x6), none], [.inl ((x5 - (1 : Int32)) - x6)], D)) bX12_pour_131 oX12_pour_131 rfl trivial ?_
        exact mz_Go.drop [true, true, true, true, true, true, true, false] (tX12_pour_143 r (fX12_pour_118 n) ih x1 x2 x3 x4 x5 x6 ((x5 - (1 : Int32)) - x6) D h)
def fX12_pour (x1 : Int32) (x2 : Int32) (x3 : Int32) (x4 : Int32) (x5 : Int32) (D : mz_D) : Option (Int32 × mz_D) := (if (fX12_isTray x1) = 0 then (fX12_pour_28 D) else (if (fX12_isTray x3) = 0 then (fX12_pour_28 D) else (if x2 < 0 then (fX12_pour_28 D) else (if x4 < 0 then (fX12_pour_28 D) else (if 0 ≤ x5 then (mz_gd (mz_ix x1 4) (if (D.1 0 204 (x1).toNatClampNeg) = (-1 : Int32) then (fX12_pour_54 D) else (mz_gd (mz_ix x3 4) (if (D.1 0 204 (x3).toNatClampNeg) = (-1 : Int32) then (fX12_pour_54 D) else (if (D.1 0 203 (x1).toNatClampNeg) = (D.1 0 203 (x3).toNatClampNeg) then (if ((D.1 0 204 (x1).toNatClampNeg) - x2) < x5 then (fX12_pour_109 D) else (if x5 ≤ ((D.1 0 204 (x3).toNatClampNeg) - x4) then (fX12_pour_118 mz_N x1 x2 x3 x4 x5 (0 : Int32) D) else (fX12_pour_109 D))) else (Option.bind (fX12_is (8 : Int32) D) fun q13 => (mz_gd (mz_bo q13.1) (some (q13.1, q13.2))))))))) else (fX12_pour_28 D))))))
set_option maxHeartbeats 4000000 in
theorem mX12_pour (x1 : Int32) (x2 : Int32) (x3 : Int32) (x4 : Int32) (x5 : Int32) (D : mz_D) (r : (Int32 × mz_D)) (h : fX12_pour x1 x2 x3 x4 x5 D = some r) : mz_Met IX12_pour [.inr (.inr (some (0, 200))), .inl x1, .inl x2, .inl x3, .inl x4, .inl x5] D (some (.inl r.1), r.2) := by
  refine mz_Met.of (by decide +kernel) (Nat.le_of_ble_eq_true rfl) ?_
  show mz_Go IX12_pour (some (.inl r.1), r.2) 0 0 (0, [some (.inr (.inr (some (0, 200)))), some (.inl x1), some (.inl x2), some (.inl x3), some (.inl x4), some (.inl x5), none, none], [], D)
  rw [fX12_pour] at h
  refine mz_Go.run (gs := []) (st' := (1, [some (.inr (.inr (some (0, 200)))), some (.inl x1), some (.inl x2), some (.inl x3), some (.inl x4), some (.inl x5), none, none], [.inl x1], D)) bX12_pour_0 oX12_pour_0 rfl trivial ?_
  refine mz_Go.callS (I := IX12_pour) (J := IX12_isTray) (as := [.inl x1]) (idx := 86) (pl := 1698) (rest := []) (mX12_isTray x1 D _ rfl) kX12_isTray vX12_isTray (by decide +kernel) (by decide +kernel) (by decide +kernel) rfl rfl ⟨rfl, rfl⟩ rfl ?_
  refine mz_Go.run (gs := []) (st' := (if (fX12_isTray x1) = 0 then (28, [some (.inr (.inr (some (0, 200)))), some (.inl x1), some (.inl x2), some (.inl x3), some (.inl x4), some (.inl x5), none, none], [], D) else (7, [some (.inr (.inr (some (0, 200)))), some (.inl x1), some (.inl x2), some (.inl x3), some (.inl x4), some (.inl x5), none, none], [], D))) bX12_pour_4 oX12_pour_4 rfl trivial ?_
  refine mz_Go.ite (fun hc1 => ?_) (fun hc1 => ?_)
  · have h := mz_ifp hc1 h
    exact mz_Go.drop [true, false, false, false, false, false, false, false] (tX12_pour_28 r D h)
  · have h := mz_ifn hc1 h
    refine mz_Go.run (gs := []) (st' := (8, [some (.inr (.inr (some (0, 200)))), some (.inl x1), some (.inl x2), some (.inl x3), some (.inl x4), some (.inl x5), none, none], [.inl x3], D)) bX12_pour_7 oX12_pour_7 rfl trivial ?_
    refine mz_Go.callS (I := IX12_pour) (J := IX12_isTray) (as := [.inl x3]) (idx := 86) (pl := 1698) (rest := []) (mX12_isTray x3 D _ rfl) kX12_isTray vX12_isTray (by decide +kernel) (by decide +kernel) (by decide +kernel) rfl rfl ⟨rfl, rfl⟩ rfl ?_
    refine mz_Go.run (gs := []) (st' := (if (fX12_isTray x3) = 0 then (28, [some (.inr (.inr (some (0, 200)))), some (.inl x1), some (.inl x2), some (.inl x3), some (.inl x4), some (.inl x5), none, none], [], D) else (14, [some (.inr (.inr (some (0, 200)))), some (.inl x1), some (.inl x2), some (.inl x3), some (.inl x4), some (.inl x5), none, none], [], D))) bX12_pour_11 oX12_pour_11 rfl trivial ?_
    refine mz_Go.ite (fun hc2 => ?_) (fun hc2 => ?_)
    · have h := mz_ifp hc2 h
      exact mz_Go.drop [true, false, false, false, false, false, false, false] (tX12_pour_28 r D h)
    · have h := mz_ifn hc2 h
      refine mz_Go.run (gs := []) (st' := (if x2 < 0 then (28, [some (.inr (.inr (some (0, 200)))), some (.inl x1), some (.inl x2), some (.inl x3), some (.inl x4), some (.inl x5), none, none], [], D) else (18, [some (.inr (.inr (some (0, 200)))), some (.inl x1), some (.inl x2), some (.inl x3), some (.inl x4), some (.inl x5), none, none], [], D))) bX12_pour_14 oX12_pour_14 rfl trivial ?_
      refine mz_Go.ite (fun hc3 => ?_) (fun hc3 => ?_)
      · have h := mz_ifp hc3 h
        exact mz_Go.drop [true, false, false, false, false, false, false, false] (tX12_pour_28 r D h)
      · have h := mz_ifn hc3 h
        refine mz_Go.run (gs := []) (st' := (if x4 < 0 then (28, [some (.inr (.inr (some (0, 200)))), some (.inl x1), some (.inl x2), some (.inl x3), some (.inl x4), some (.inl x5), none, none], [], D) else (23, [some (.inr (.inr (some (0, 200)))), some (.inl x1), some (.inl x2), some (.inl x3), some (.inl x4), some (.inl x5), none, none], [], D))) bX12_pour_18 oX12_pour_18 rfl trivial ?_
        refine mz_Go.ite (fun hc4 => ?_) (fun hc4 => ?_)
        · have h := mz_ifp hc4 h
          exact mz_Go.drop [true, false, false, false, false, false, false, false] (tX12_pour_28 r D h)
        · have h := mz_ifn hc4 h
          refine mz_Go.run (gs := []) (st' := (if 0 ≤ x5 then (34, [some (.inr (.inr (some (0, 200)))), some (.inl x1), some (.inl x2), some (.inl x3), some (.inl x4), some (.inl x5), none, none], [], D) else (28, [some (.inr (.inr (some (0, 200)))), some (.inl x1), some (.inl x2), some (.inl x3), some (.inl x4), some (.inl x5), none, none], [], D))) bX12_pour_23 oX12_pour_23 rfl trivial ?_
          refine mz_Go.ite (fun hc5 => ?_) (fun hc5 => ?_)
          · have h := mz_ifp hc5 h
            obtain ⟨hb6, h⟩ := mz_gd_some h
            refine mz_Go.run (gs := [mz_kz 0 0 200, mz_kz 0 0 204, mz_ix x1 4]) (st' := (if (D.1 0 204 (x1).toNatClampNeg) = (-1 : Int32) then (54, [some (.inr (.inr (some (0, 200)))), some (.inl x1), some (.inl x2), some (.inl x3), some (.inl x4), some (.inl x5), none, none], [], D) else (44, [some (.inr (.inr (some (0, 200)))), some (.inl x1), some (.inl x2), some (.inl x3), some (.inl x4), some (.inl x5), none, none], [], D))) bX12_pour_34 oX12_pour_34 rfl ⟨rfl, rfl, hb6, trivial⟩ ?_
            refine mz_Go.ite (fun hc7 => ?_) (fun hc7 => ?_)
            · have h := mz_ifp hc7 h
              exact mz_Go.drop [true, false, false, false, false, false, false, false] (tX12_pour_54 r D h)
            · have h := mz_ifn hc7 h
              obtain ⟨hb8, h⟩ := mz_gd_some h
              refine mz_Go.run (gs := [mz_kz 0 0 200, mz_kz 0 0 204, mz_ix x3 4]) (st' := (if (D.1 0 204 (x3).toNatClampNeg) = (-1 : Int32) then (54, [some (.inr (.inr (some (0, 200)))), some (.inl x1), some (.inl x2), some (.inl x3), some (.inl x4), some (.inl x5), none, none], [], D) else (60, [some (.inr (.inr (some (0, 200)))), some (.inl x1), some (.inl x2), some (.inl x3), some (.inl x4), some (.inl x5), none, none], [], D))) bX12_pour_44 oX12_pour_44 rfl ⟨rfl, rfl, hb8, trivial⟩ ?_
              refine mz_Go.ite (fun hc9 => ?_) (fun hc9 => ?_)
              · have h := mz_ifp hc9 h
                exact mz_Go.drop [true, false, false, false, false, false, false, false] (tX12_pour_54 r D h)
              · have h := mz_ifn hc9 h
                refine mz_Go.run (gs := [mz_kz 0 0 200, mz_kz 0 0 203, mz_ix x1 4, mz_kz 0 0 200, mz_kz 0 0 203, mz_ix x3 4]) (st' := (if (D.1 0 203 (x1).toNatClampNeg) = (D.1 0 203 (x3).toNatClampNeg) then (82, [some (.inr (.inr (some (0, 200)))), some (.inl x1), some (.inl x2), some (.inl x3), some (.inl x4), some (.inl x5), none, none], [], D) else (75, [some (.inr (.inr (some (0, 200)))), some (.inl x1), some (.inl x2), some (.inl x3), some (.inl x4), some (.inl x5), none, none], [], D))) bX12_pour_60 oX12_pour_60 rfl ⟨rfl, rfl, hb6, rfl, rfl, hb8, trivial⟩ ?_
                refine mz_Go.ite (fun hc10 => ?_) (fun hc10 => ?_)
                · have h := mz_ifp hc10 h
                  refine mz_Go.run (gs := [mz_kz 0 0 200, mz_kz 0 0 204, mz_ix x1 4]) (st' := (if ((D.1 0 204 (x1).toNatClampNeg) - x2) < x5 then (109, [some (.inr (.inr (some (0, 200)))), some (.inl x1), some (.inl x2), some (.inl x3), some (.inl x4), some (.inl x5), none, none], [], D) else (95, [some (.inr (.inr (some (0, 200)))), some (.inl x1), some (.inl x2), some (.inl x3), some (.inl x4), some (.inl x5), none, none], [], D))) bX12_pour_82 oX12_pour_82 rfl ⟨rfl, rfl, hb6, trivial⟩ ?_
                  refine mz_Go.ite (fun hc11 => ?_) (fun hc11 => ?_)
                  · have h := mz_ifp hc11 h
                    exact mz_Go.drop [true, false, false, false, false, false, false, false] (tX12_pour_109 r D h)
                  · have h := mz_ifn hc11 h
                    refine mz_Go.run (gs := [mz_kz 0 0 200, mz_kz 0 0 204, mz_ix x3 4]) (st' := (if x5 ≤ ((D.1 0 204 (x3).toNatClampNeg) - x4) then (115, [some (.inr (.inr (some (0, 200)))), some (.inl x1), some (.inl x2), some (.inl x3), some (.inl x4), some (.inl x5), none, none], [], D) else (109, [some (.inr (.inr (some (0, 200)))), some (.inl x1), some (.inl x2), some (.inl x3), some (.inl x4), some (.inl x5), none, none], [], D))) bX12_pour_95 oX12_pour_95 rfl ⟨rfl, rfl, hb8, trivial⟩ ?_
                    refine mz_Go.ite (fun hc12 => ?_) (fun hc12 => ?_)
                    · have h := mz_ifp hc12 h
                      refine mz_Go.run (gs := []) (st' := (118, [some (.inr (.inr (some (0, 200)))), some (.inl x1), some (.inl x2), some (.inl x3), some (.inl x4), some (.inl x5), some (.inl (0 : Int32)), none], [], D)) bX12_pour_115 oX12_pour_115 rfl trivial ?_
                      exact mz_Go.drop [true, true, true, true, true, true, true, false] (tX12_pour_118 r mz_N x1 x2 x3 x4 x5 (0 : Int32) D h)
                    · have h := mz_ifn hc12 h
                      exact mz_Go.drop [true, false, false, false, false, false, false, false] (tX12_pour_109 r D h)
                · have h := mz_ifn hc10 h
                  refine mz_Go.run (gs := []) (st' := (78, [some (.inr (.inr (some (0, 200)))), some (.inl x1), some (.inl x2), some (.inl x3), some (.inl x4), some (.inl x5), none, none], [.inl (8 : Int32), .inr (.inr (some (0, 200)))], D)) bX12_pour_75 oX12_pour_75 rfl trivial ?_
                  obtain ⟨q13, hq13, h⟩ := mz_bd_some h
                  refine mz_Go.callV (I := IX12_pour) (J := IX12_is) (as := [.inl (8 : Int32)]) (ci := 12) (g := 0) (o := 200) (idx := 82) (pl := 1701) (rest := []) (mX12_is (8 : Int32) D q13 hq13) kX12_is vX12_is (by decide +kernel) (by decide +kernel) (by decide +kernel) rfl rfl ⟨rfl, rfl⟩ rfl rfl rfl rfl ?_
                  obtain ⟨hb14, h⟩ := mz_gd_some h
                  cases h
                  exact mz_Go.retz (by decide +kernel) rfl ⟨Nat.le_refl _, Nat.le_refl _⟩ hb14 rfl
          · have h := mz_ifn hc5 h
            exact mz_Go.drop [true, false, false, false, false, false, false, false] (tX12_pour_28 r D h)
def bX12_isFrom_0 : List mz_E := [(0, .lload_n 0, 0, 0, 0, 0, 0), (1, .lload_n 2, 0, 0, 0, 0, 0), (2, .lcmp, 0, 0, 0, 0, 0), (3, .ifCond .lt 14, 0, 17, 0, 0, 0)]
theorem oX12_isFrom_0 : bX12_isFrom_0.all (mz_ok RX12 cX12_isFrom 6) = true := by decide +kernel
def bX12_isFrom_17 : List mz_E := [(17, .iconst 0, 0, 0, 0, 0, 0)]
theorem oX12_isFrom_17 : bX12_isFrom_17.all (mz_ok RX12 cX12_isFrom 6) = true := by decide +kernel
def bX12_isFrom_6 : List mz_E := [(6, .lload_n 0, 0, 0, 0, 0, 0), (7, .lload 4, 0, 0, 0, 0, 0), (9, .lcmp, 0, 0, 0, 0, 0), (10, .ifCond .gt 7, 0, 17, 0, 0, 0)]
theorem oX12_isFrom_6 : bX12_isFrom_6.all (mz_ok RX12 cX12_isFrom 6) = true := by decide +kernel
def bX12_isFrom_13 : List mz_E := [(13, .iconst 1, 0, 0, 0, 1, 0), (14, .goto 4, 0, 18, 0, 0, 0)]
theorem oX12_isFrom_13 : bX12_isFrom_13.all (mz_ok RX12 cX12_isFrom 6) = true := by decide +kernel
abbrev IX12_isFrom : mz_I := (yX12_isFrom, cX12_isFrom, 6, (some .boolean), 9, 0, 0, 0)
theorem kX12_isFrom : mz_okm IX12_isFrom 1976 141 1975 3 = true := by decide +kernel
theorem vX12_isFrom : mz_okS IX12_isFrom 1975 = true := by decide +kernel
def fX12_isFrom (y0 : Int64) (y2 : Int64) (y4 : Int64) : Int32 := (if (lg_cmp y0 y2) < 0 then (0 : Int32) else (if 0 < (lg_cmp y0 y4) then (0 : Int32) else (1 : Int32)))
set_option maxHeartbeats 4000000 in
theorem mX12_isFrom (y0 : Int64) (y2 : Int64) (y4 : Int64) (D : mz_D) (r : Int32) (h : fX12_isFrom y0 y2 y4 = r) : mz_Met IX12_isFrom [.inr (.inl y0), .inr (.inl y2), .inr (.inl y4)] D (some (.inl r), D) := by
  refine mz_Met.of (by decide +kernel) (Nat.le_of_ble_eq_true rfl) ?_
  show mz_Go IX12_isFrom (some (.inl r), D) 0 0 (0, [some (.inr (.inl y0)), none, some (.inr (.inl y2)), none, some (.inr (.inl y4)), none], [], D)
  rw [fX12_isFrom] at h
  refine mz_Go.run (gs := []) (st' := (if (lg_cmp y0 y2) < 0 then (17, [some (.inr (.inl y0)), none, some (.inr (.inl y2)), none, some (.inr (.inl y4)), none], [], D) else (6, [some (.inr (.inl y0)), none, some (.inr (.inl y2)), none, some (.inr (.inl y4)), none], [], D))) bX12_isFrom_0 oX12_isFrom_0 rfl trivial ?_
  refine mz_Go.ite (fun hc1 => ?_) (fun hc1 => ?_)
  · have h := mz_ifp hc1 h
    refine mz_Go.run (gs := []) (st' := (18, [some (.inr (.inl y0)), none, some (.inr (.inl y2)), none, some (.inr (.inl y4)), none], [.inl (0 : Int32)], D)) bX12_isFrom_17 oX12_isFrom_17 rfl trivial ?_
    subst h
    exact mz_Go.retz (by decide +kernel) rfl ⟨Nat.le_refl _, Nat.le_refl _⟩ (by decide) rfl
  · have h := mz_ifn hc1 h
    refine mz_Go.run (gs := []) (st' := (if 0 < (lg_cmp y0 y4) then (17, [some (.inr (.inl y0)), none, some (.inr (.inl y2)), none, some (.inr (.inl y4)), none], [], D) else (13, [some (.inr (.inl y0)), none, some (.inr (.inl y2)), none, some (.inr (.inl y4)), none], [], D))) bX12_isFrom_6 oX12_isFrom_6 rfl trivial ?_
    refine mz_Go.ite (fun hc2 => ?_) (fun hc2 => ?_)
    · have h := mz_ifp hc2 h
      refine mz_Go.run (gs := []) (st' := (18, [some (.inr (.inl y0)), none, some (.inr (.inl y2)), none, some (.inr (.inl y4)), none], [.inl (0 : Int32)], D)) bX12_isFrom_17 oX12_isFrom_17 rfl trivial ?_
      subst h
      exact mz_Go.retz (by decide +kernel) rfl ⟨Nat.le_refl _, Nat.le_refl _⟩ (by decide) rfl
    · have h := mz_ifn hc2 h
      refine mz_Go.run (gs := []) (st' := (18, [some (.inr (.inl y0)), none, some (.inr (.inl y2)), none, some (.inr (.inl y4)), none], [.inl (1 : Int32)], D)) bX12_isFrom_13 oX12_isFrom_13 rfl trivial ?_
      subst h
      exact mz_Go.retz (by decide +kernel) rfl ⟨Nat.le_refl _, Nat.le_refl _⟩ (by decide) rfl
def bX12_four_0 : List mz_E := [(0, .bipush 24, 0, 0, 0, 24, 0), (2, .istore_n 2, 0, 0, 0, 0, 0)]
theorem oX12_four_0 : bX12_four_0.all (mz_ok RX12 cX12_four 3) = true := by decide +kernel
def bX12_four_3 : List mz_E := [(3, .iload_n 2, 0, 0, 0, 0, 0), (4, .ifCond .lt 32, 0, 36, 0, 0, 0)]
theorem oX12_four_3 : bX12_four_3.all (mz_ok RX12 cX12_four 3) = true := by decide +kernel
def bX12_four_7 : List mz_E := [(7, .aload_n 0, 0, 0, 0, 0, 0), (8, .getfield 30, 12, 8, 1584, 0, 0), (11, .aload_n 0, 0, 0, 0, 0, 0), (12, .getfield 99, 12, 10, 1586, 0, 0), (15, .iload_n 1, 0, 0, 0, 0, 0), (16, .iload_n 2, 0, 0, 0, 0, 0), (17, .ishr, 0, 0, 0, 0, 0), (18, .i2b, 0, 0, 0, 0, 0), (19, .bastore, 0, 0, 0, 0, 0), (20, .aload_n 0, 0, 0, 0, 0, 0), (21, .dup, 0, 0, 0, 0, 0), (22, .getfield 99, 12, 10, 1586, 0, 0), (25, .iconst 1, 0, 0, 0, 1, 0), (26, .iadd, 0, 0, 0, 0, 0), (27, .putfield 99, 12, 10, 1586, 0, 0), (30, .iinc 2 (-8), 0, 0, 0, -8, 0), (33, .goto (-30), 0, 3, 0, 0, 0)]
theorem oX12_four_7 : bX12_four_7.all (mz_ok RX12 cX12_four 3) = true := by decide +kernel
abbrev IX12_four : mz_I := (yX12_four, cX12_four, 3, none, 0, 0, 0, 0)
theorem kX12_four : mz_okm IX12_four 1732 141 1731 1 = true := by decide +kernel
theorem vX12_four : mz_okV IX12_four 1731 49 = true := by decide +kernel
def fX12_four_3 : Nat → Int32 → Int32 → mz_D → Option mz_D
  | 0 => fun _ _ _ => none
  | n + 1 => fun x1 x2 D => (if x2 < 0 then (some D) else (mz_gd (mz_ix (D.1 0 200 10) 900) ((fX12_four_3 n) x1 (x2 + (-8 : Int32)) (mz_wi (mz_wi D 0 206 ((D.1 0 200 10)).toNatClampNeg (((x1 >>> (x2 &&& 31))).toInt8.toInt32).toInt8.toInt32) 0 200 10 ((D.1 0 200 10) + (1 : Int32))))))
set_option maxHeartbeats 4000000 in
theorem tX12_four_3 (r : mz_D) : ∀ (n : Nat) (x1 : Int32) (x2 : Int32) (D : mz_D), fX12_four_3 n x1 x2 D = some r → mz_Go IX12_four (none, r) 0 0 (3, [some (.inr (.inr (some (0, 200)))), some (.inl x1), some (.inl x2)], [], D) := by
  intro n
  induction n with
  | zero => intro x1 x2 D h; have h : (none : Option mz_D) = some r := h; cases h
  | succ n ih =>
    intro x1 x2 D h
    rw [fX12_four_3] at h
    refine mz_Go.run (gs := []) (st' := (if x2 < 0 then (36, [some (.inr (.inr (some (0, 200)))), some (.inl x1), some (.inl x2)], [], D) else (7, [some (.inr (.inr (some (0, 200)))), some (.inl x1), some (.inl x2)], [], D))) bX12_four_3 oX12_four_3 rfl trivial ?_
    refine mz_Go.ite (fun hc1 => ?_) (fun hc1 => ?_)
    · have h := mz_ifp hc1 h
      cases h
      exact mz_Go.retv (by decide +kernel) rfl ⟨Nat.le_refl _, Nat.le_refl _⟩ rfl
    · have h := mz_ifn hc1 h
      obtain ⟨hb2, h⟩ := mz_gd_some h
      refine mz_Go.run (gs := [mz_kz 0 0 200, mz_kz 0 0 200, mz_kz 0 0 206, mz_ix (D.1 0 200 10) 900, mz_kz 0 0 200, mz_kz 0 0 200]) (st' := (3, [some (.inr (.inr (some (0, 200)))), some (.inl x1), some (.inl (x2 + (-8 : Int32)))], [], (mz_wi (mz_wi D 0 206 ((D.1 0 200 10)).toNatClampNeg (((x1 >>> (x2 &&& 31))).toInt8.toInt32).toInt8.toInt32) 0 200 10 ((D.1 0 200 10) + (1 : Int32))))) bX12_four_7 oX12_four_7 rfl ⟨rfl, rfl, rfl, hb2, rfl, rfl, trivial⟩ ?_
      exact mz_Go.drop [true, true, true] (ih x1 (x2 + (-8 : Int32)) (mz_wi (mz_wi D 0 206 ((D.1 0 200 10)).toNatClampNeg (((x1 >>> (x2 &&& 31))).toInt8.toInt32).toInt8.toInt32) 0 200 10 ((D.1 0 200 10) + (1 : Int32))) h)
def fX12_four (x1 : Int32) (D : mz_D) : Option mz_D := (fX12_four_3 mz_N x1 (24 : Int32) D)
set_option maxHeartbeats 4000000 in
theorem mX12_four (x1 : Int32) (D : mz_D) (r : mz_D) (h : fX12_four x1 D = some r) : mz_Met IX12_four [.inr (.inr (some (0, 200))), .inl x1] D (none, r) := by
  refine mz_Met.of (by decide +kernel) (Nat.le_of_ble_eq_true rfl) ?_
  show mz_Go IX12_four (none, r) 0 0 (0, [some (.inr (.inr (some (0, 200)))), some (.inl x1), none], [], D)
  rw [fX12_four] at h
  refine mz_Go.run (gs := []) (st' := (3, [some (.inr (.inr (some (0, 200)))), some (.inl x1), some (.inl (24 : Int32))], [], D)) bX12_four_0 oX12_four_0 rfl trivial ?_
  exact mz_Go.drop [true, true, true] (tX12_four_3 r mz_N x1 (24 : Int32) D h)
def bX12_feed_0 : List mz_E := [(0, .aload_n 0, 0, 0, 0, 0, 0), (1, .getfield 99, 12, 10, 1586, 0, 0), (4, .bipush 20, 0, 0, 0, 20, 0), (6, .iadd, 0, 0, 0, 0, 0), (7, .sipush 900, 0, 0, 0, 900, 0), (10, .if_icmp .le 5, 0, 15, 0, 0, 0)]
theorem oX12_feed_0 : bX12_feed_0.all (mz_ok RX12 cX12_feed 6) = true := by decide +kernel
def bX12_feed_15 : List mz_E := [(15, .aload_n 0, 0, 0, 0, 0, 0), (16, .iload_n 1, 0, 0, 0, 0, 0)]
theorem oX12_feed_15 : bX12_feed_15.all (mz_ok RX12 cX12_feed 6) = true := by decide +kernel
def bX12_feed_20 : List mz_E := [(20, .aload_n 0, 0, 0, 0, 0, 0), (21, .iload_n 2, 0, 0, 0, 0, 0)]
theorem oX12_feed_20 : bX12_feed_20.all (mz_ok RX12 cX12_feed 6) = true := by decide +kernel
def bX12_feed_25 : List mz_E := [(25, .aload_n 0, 0, 0, 0, 0, 0), (26, .iload_n 3, 0, 0, 0, 0, 0)]
theorem oX12_feed_25 : bX12_feed_25.all (mz_ok RX12 cX12_feed 6) = true := by decide +kernel
def bX12_feed_30 : List mz_E := [(30, .aload_n 0, 0, 0, 0, 0, 0), (31, .iload 4, 0, 0, 0, 0, 0)]
theorem oX12_feed_30 : bX12_feed_30.all (mz_ok RX12 cX12_feed 6) = true := by decide +kernel
def bX12_feed_36 : List mz_E := [(36, .aload_n 0, 0, 0, 0, 0, 0), (37, .iload 5, 0, 0, 0, 0, 0)]
theorem oX12_feed_36 : bX12_feed_36.all (mz_ok RX12 cX12_feed 6) = true := by decide +kernel
def bX12_feed_42 : List mz_E := [(42, .aload_n 0, 0, 0, 0, 0, 0), (43, .getfield 99, 12, 10, 1586, 0, 0)]
theorem oX12_feed_42 : bX12_feed_42.all (mz_ok RX12 cX12_feed 6) = true := by decide +kernel
def bX12_feed_13 : List mz_E := [(13, .iconst (-1), 0, 0, 0, -1, 0)]
theorem oX12_feed_13 : bX12_feed_13.all (mz_ok RX12 cX12_feed 6) = true := by decide +kernel
abbrev IX12_feed : mz_I := (yX12_feed, cX12_feed, 6, (some .int), 0, 1, 0, 0)
theorem kX12_feed : mz_okm IX12_feed 1728 141 1726 5 = true := by decide +kernel
theorem vX12_feed : mz_okV IX12_feed 1726 1727 = true := by decide +kernel
def fX12_feed (x1 : Int32) (x2 : Int32) (x3 : Int32) (x4 : Int32) (x5 : Int32) (D : mz_D) : Option (Int32 × mz_D) := (if ((D.1 0 200 10) + (20 : Int32)) ≤ (900 : Int32) then (Option.bind (fX12_four x1 D) fun q2 => (Option.bind (fX12_four x2 q2) fun q3 => (Option.bind (fX12_four x3 q3) fun q4 => (Option.bind (fX12_four x4 q4) fun q5 => (Option.bind (fX12_four x5 q5) fun q6 => (some ((q6.1 0 200 10), q6))))))) else (some ((-1 : Int32), D)))
set_option maxHeartbeats 4000000 in
theorem mX12_feed (x1 : Int32) (x2 : Int32) (x3 : Int32) (x4 : Int32) (x5 : Int32) (D : mz_D) (r : (Int32 × mz_D)) (h : fX12_feed x1 x2 x3 x4 x5 D = some r) : mz_Met IX12_feed [.inr (.inr (some (0, 200))), .inl x1, .inl x2, .inl x3, .inl x4, .inl x5] D (some (.inl r.1), r.2) := by
  refine mz_Met.of (by decide +kernel) (Nat.le_of_ble_eq_true rfl) ?_
  show mz_Go IX12_feed (some (.inl r.1), r.2) 0 0 (0, [some (.inr (.inr (some (0, 200)))), some (.inl x1), some (.inl x2), some (.inl x3), some (.inl x4), some (.inl x5)], [], D)
  rw [fX12_feed] at h
  refine mz_Go.run (gs := [mz_kz 0 0 200]) (st' := (if ((D.1 0 200 10) + (20 : Int32)) ≤ (900 : Int32) then (15, [some (.inr (.inr (some (0, 200)))), some (.inl x1), some (.inl x2), some (.inl x3), some (.inl x4), some (.inl x5)], [], D) else (13, [some (.inr (.inr (some (0, 200)))), some (.inl x1), some (.inl x2), some (.inl x3), some (.inl x4), some (.inl x5)], [], D))) bX12_feed_0 oX12_feed_0 rfl ⟨rfl, trivial⟩ ?_
  refine mz_Go.ite (fun hc1 => ?_) (fun hc1 => ?_)
  · have h := mz_ifp hc1 h
    refine mz_Go.run (gs := []) (st' := (17, [some (.inr (.inr (some (0, 200)))), some (.inl x1), some (.inl x2), some (.inl x3), some (.inl x4), some (.inl x5)], [.inl x1, .inr (.inr (some (0, 200)))], D)) bX12_feed_15 oX12_feed_15 rfl trivial ?_
    obtain ⟨q2, hq2, h⟩ := mz_bd_some h
    refine mz_Go.callV (I := IX12_feed) (J := IX12_four) (as := [.inl x1]) (ci := 12) (g := 0) (o := 200) (idx := 102) (pl := 1729) (rest := []) (mX12_four x1 D q2 hq2) kX12_four vX12_four (by decide +kernel) (by decide +kernel) (by decide +kernel) rfl rfl ⟨rfl, rfl⟩ rfl rfl rfl rfl ?_
    refine mz_Go.run (gs := []) (st' := (22, [some (.inr (.inr (some (0, 200)))), some (.inl x1), some (.inl x2), some (.inl x3), some (.inl x4), some (.inl x5)], [.inl x2, .inr (.inr (some (0, 200)))], q2)) bX12_feed_20 oX12_feed_20 rfl trivial ?_
    obtain ⟨q3, hq3, h⟩ := mz_bd_some h
    refine mz_Go.callV (I := IX12_feed) (J := IX12_four) (as := [.inl x2]) (ci := 12) (g := 0) (o := 200) (idx := 102) (pl := 1729) (rest := []) (mX12_four x2 q2 q3 hq3) kX12_four vX12_four (by decide +kernel) (by decide +kernel) (by decide +kernel) rfl rfl ⟨rfl, rfl⟩ rfl rfl rfl rfl ?_
    refine mz_Go.run (gs := []) (st' := (27, [some (.inr (.inr (some (0, 200)))), some (.inl x1), some (.inl x2), some (.inl x3), some (.inl x4), some (.inl x5)], [.inl x3, .inr (.inr (some (0, 200)))], q3)) bX12_feed_25 oX12_feed_25 rfl trivial ?_
    obtain ⟨q4, hq4, h⟩ := mz_bd_some h
    refine mz_Go.callV (I := IX12_feed) (J := IX12_four) (as := [.inl x3]) (ci := 12) (g := 0) (o := 200) (idx := 102) (pl := 1729) (rest := []) (mX12_four x3 q3 q4 hq4) kX12_four vX12_four (by decide +kernel) (by decide +kernel) (by decide +kernel) rfl rfl ⟨rfl, rfl⟩ rfl rfl rfl rfl ?_
    refine mz_Go.run (gs := []) (st' := (33, [some (.inr (.inr (some (0, 200)))), some (.inl x1), some (.inl x2), some (.inl x3), some (.inl x4), some (.inl x5)], [.inl x4, .inr (.inr (some (0, 200)))], q4)) bX12_feed_30 oX12_feed_30 rfl trivial ?_
    obtain ⟨q5, hq5, h⟩ := mz_bd_some h
    refine mz_Go.callV (I := IX12_feed) (J := IX12_four) (as := [.inl x4]) (ci := 12) (g := 0) (o := 200) (idx := 102) (pl := 1729) (rest := []) (mX12_four x4 q4 q5 hq5) kX12_four vX12_four (by decide +kernel) (by decide +kernel) (by decide +kernel) rfl rfl ⟨rfl, rfl⟩ rfl rfl rfl rfl ?_
    refine mz_Go.run (gs := []) (st' := (39, [some (.inr (.inr (some (0, 200)))), some (.inl x1), some (.inl x2), some (.inl x3), some (.inl x4), some (.inl x5)], [.inl x5, .inr (.inr (some (0, 200)))], q5)) bX12_feed_36 oX12_feed_36 rfl trivial ?_
    obtain ⟨q6, hq6, h⟩ := mz_bd_some h
    refine mz_Go.callV (I := IX12_feed) (J := IX12_four) (as := [.inl x5]) (ci := 12) (g := 0) (o := 200) (idx := 102) (pl := 1729) (rest := []) (mX12_four x5 q5 q6 hq6) kX12_four vX12_four (by decide +kernel) (by decide +kernel) (by decide +kernel) rfl rfl ⟨rfl, rfl⟩ rfl rfl rfl rfl ?_
    refine mz_Go.run (gs := [mz_kz 0 0 200]) (st' := (46, [some (.inr (.inr (some (0, 200)))), some (.inl x1), some (.inl x2), some (.inl x3), some (.inl x4), some (.inl x5)], [.inl (q6.1 0 200 10)], q6)) bX12_feed_42 oX12_feed_42 rfl ⟨rfl, trivial⟩ ?_
    cases h
    exact mz_Go.reti (by decide +kernel) rfl ⟨Nat.le_refl _, Nat.le_refl _⟩ rfl
  · have h := mz_ifn hc1 h
    refine mz_Go.run (gs := []) (st' := (14, [some (.inr (.inr (some (0, 200)))), some (.inl x1), some (.inl x2), some (.inl x3), some (.inl x4), some (.inl x5)], [.inl (-1 : Int32)], D)) bX12_feed_13 oX12_feed_13 rfl trivial ?_
    cases h
    exact mz_Go.reti (by decide +kernel) rfl ⟨Nat.le_refl _, Nat.le_refl _⟩ rfl
def bX12_byteAt_0 : List mz_E := [(0, .iload_n 1, 0, 0, 0, 0, 0), (1, .aload_n 0, 0, 0, 0, 0, 0), (2, .getfield 105, 12, 11, 1587, 0, 0), (5, .if_icmp .ge 16, 0, 21, 0, 0, 0)]
theorem oX12_byteAt_0 : bX12_byteAt_0.all (mz_ok RX12 cX12_byteAt 2) = true := by decide +kernel
def bX12_byteAt_21 : List mz_E := [(21, .iconst (-1), 0, 0, 0, -1, 0)]
theorem oX12_byteAt_21 : bX12_byteAt_21.all (mz_ok RX12 cX12_byteAt 2) = true := by decide +kernel
def bX12_byteAt_8 : List mz_E := [(8, .aload_n 0, 0, 0, 0, 0, 0), (9, .getfield 34, 12, 9, 1585, 0, 0), (12, .iload_n 1, 0, 0, 0, 0, 0), (13, .baload, 0, 0, 0, 0, 0), (14, .sipush 255, 0, 0, 0, 255, 0), (17, .iand, 0, 0, 0, 0, 0), (18, .goto 4, 0, 22, 0, 0, 0)]
theorem oX12_byteAt_8 : bX12_byteAt_8.all (mz_ok RX12 cX12_byteAt 2) = true := by decide +kernel
abbrev IX12_byteAt : mz_I := (yX12_byteAt, cX12_byteAt, 2, (some .int), 0, 0, 0, 0)
theorem kX12_byteAt : mz_okm IX12_byteAt 1752 141 1751 1 = true := by decide +kernel
theorem vX12_byteAt : mz_okV IX12_byteAt 1751 52 = true := by decide +kernel
def fX12_byteAt (x1 : Int32) (D : mz_D) : Option Int32 := (if (D.1 0 200 11) ≤ x1 then (some (-1 : Int32)) else (mz_gd (mz_ix x1 900) (some ((D.1 0 207 (x1).toNatClampNeg) &&& (255 : Int32)))))
set_option maxHeartbeats 4000000 in
theorem mX12_byteAt (x1 : Int32) (D : mz_D) (r : Int32) (h : fX12_byteAt x1 D = some r) : mz_Met IX12_byteAt [.inr (.inr (some (0, 200))), .inl x1] D (some (.inl r), D) := by
  refine mz_Met.of (by decide +kernel) (Nat.le_of_ble_eq_true rfl) ?_
  show mz_Go IX12_byteAt (some (.inl r), D) 0 0 (0, [some (.inr (.inr (some (0, 200)))), some (.inl x1)], [], D)
  rw [fX12_byteAt] at h
  refine mz_Go.run (gs := [mz_kz 0 0 200]) (st' := (if (D.1 0 200 11) ≤ x1 then (21, [some (.inr (.inr (some (0, 200)))), some (.inl x1)], [], D) else (8, [some (.inr (.inr (some (0, 200)))), some (.inl x1)], [], D))) bX12_byteAt_0 oX12_byteAt_0 rfl ⟨rfl, trivial⟩ ?_
  refine mz_Go.ite (fun hc1 => ?_) (fun hc1 => ?_)
  · have h := mz_ifp hc1 h
    refine mz_Go.run (gs := []) (st' := (22, [some (.inr (.inr (some (0, 200)))), some (.inl x1)], [.inl (-1 : Int32)], D)) bX12_byteAt_21 oX12_byteAt_21 rfl trivial ?_
    cases h
    exact mz_Go.reti (by decide +kernel) rfl ⟨Nat.le_refl _, Nat.le_refl _⟩ rfl
  · have h := mz_ifn hc1 h
    obtain ⟨hb2, h⟩ := mz_gd_some h
    refine mz_Go.run (gs := [mz_kz 0 0 200, mz_kz 0 0 207, mz_ix x1 900]) (st' := (22, [some (.inr (.inr (some (0, 200)))), some (.inl x1)], [.inl ((D.1 0 207 (x1).toNatClampNeg) &&& (255 : Int32))], D)) bX12_byteAt_8 oX12_byteAt_8 rfl ⟨rfl, rfl, hb2, trivial⟩ ?_
    cases h
    exact mz_Go.reti (by decide +kernel) rfl ⟨Nat.le_refl _, Nat.le_refl _⟩ rfl
def bX12_isSmall_0 : List mz_E := [(0, .iload_n 0, 0, 0, 0, 0, 0), (1, .bipush 97, 0, 0, 0, 97, 0), (3, .if_icmp .lt 13, 0, 16, 0, 0, 0)]
theorem oX12_isSmall_0 : bX12_isSmall_0.all (mz_ok RX12 cX12_isSmall 1) = true := by decide +kernel
def bX12_isSmall_16 : List mz_E := [(16, .iconst 0, 0, 0, 0, 0, 0)]
theorem oX12_isSmall_16 : bX12_isSmall_16.all (mz_ok RX12 cX12_isSmall 1) = true := by decide +kernel
def bX12_isSmall_6 : List mz_E := [(6, .iload_n 0, 0, 0, 0, 0, 0), (7, .bipush 122, 0, 0, 0, 122, 0), (9, .if_icmp .gt 7, 0, 16, 0, 0, 0)]
theorem oX12_isSmall_6 : bX12_isSmall_6.all (mz_ok RX12 cX12_isSmall 1) = true := by decide +kernel
def bX12_isSmall_12 : List mz_E := [(12, .iconst 1, 0, 0, 0, 1, 0), (13, .goto 4, 0, 17, 0, 0, 0)]
theorem oX12_isSmall_12 : bX12_isSmall_12.all (mz_ok RX12 cX12_isSmall 1) = true := by decide +kernel
abbrev IX12_isSmall : mz_I := (yX12_isSmall, cX12_isSmall, 1, (some .boolean), 9, 0, 0, 0)
theorem kX12_isSmall : mz_okm IX12_isSmall 1755 141 1754 1 = true := by decide +kernel
theorem vX12_isSmall : mz_okS IX12_isSmall 1754 = true := by decide +kernel
def fX12_isSmall (x0 : Int32) : Int32 := (if x0 < (97 : Int32) then (0 : Int32) else (if (122 : Int32) < x0 then (0 : Int32) else (1 : Int32)))
set_option maxHeartbeats 4000000 in
theorem mX12_isSmall (x0 : Int32) (D : mz_D) (r : Int32) (h : fX12_isSmall x0 = r) : mz_Met IX12_isSmall [.inl x0] D (some (.inl r), D) := by
  refine mz_Met.of (by decide +kernel) (Nat.le_of_ble_eq_true rfl) ?_
  show mz_Go IX12_isSmall (some (.inl r), D) 0 0 (0, [some (.inl x0)], [], D)
  rw [fX12_isSmall] at h
  refine mz_Go.run (gs := []) (st' := (if x0 < (97 : Int32) then (16, [some (.inl x0)], [], D) else (6, [some (.inl x0)], [], D))) bX12_isSmall_0 oX12_isSmall_0 rfl trivial ?_
  refine mz_Go.ite (fun hc1 => ?_) (fun hc1 => ?_)
  · have h := mz_ifp hc1 h
    refine mz_Go.run (gs := []) (st' := (17, [some (.inl x0)], [.inl (0 : Int32)], D)) bX12_isSmall_16 oX12_isSmall_16 rfl trivial ?_
    subst h
    exact mz_Go.retz (by decide +kernel) rfl ⟨Nat.le_refl _, Nat.le_refl _⟩ (by decide) rfl
  · have h := mz_ifn hc1 h
    refine mz_Go.run (gs := []) (st' := (if (122 : Int32) < x0 then (16, [some (.inl x0)], [], D) else (12, [some (.inl x0)], [], D))) bX12_isSmall_6 oX12_isSmall_6 rfl trivial ?_
    refine mz_Go.ite (fun hc2 => ?_) (fun hc2 => ?_)
    · have h := mz_ifp hc2 h
      refine mz_Go.run (gs := []) (st' := (17, [some (.inl x0)], [.inl (0 : Int32)], D)) bX12_isSmall_16 oX12_isSmall_16 rfl trivial ?_
      subst h
      exact mz_Go.retz (by decide +kernel) rfl ⟨Nat.le_refl _, Nat.le_refl _⟩ (by decide) rfl
    · have h := mz_ifn hc2 h
      refine mz_Go.run (gs := []) (st' := (17, [some (.inl x0)], [.inl (1 : Int32)], D)) bX12_isSmall_12 oX12_isSmall_12 rfl trivial ?_
      subst h
      exact mz_Go.retz (by decide +kernel) rfl ⟨Nat.le_refl _, Nat.le_refl _⟩ (by decide) rfl
def bX12_isDigit_0 : List mz_E := [(0, .iload_n 0, 0, 0, 0, 0, 0), (1, .bipush 48, 0, 0, 0, 48, 0), (3, .if_icmp .lt 13, 0, 16, 0, 0, 0)]
theorem oX12_isDigit_0 : bX12_isDigit_0.all (mz_ok RX12 cX12_isDigit 1) = true := by decide +kernel
def bX12_isDigit_16 : List mz_E := [(16, .iconst 0, 0, 0, 0, 0, 0)]
theorem oX12_isDigit_16 : bX12_isDigit_16.all (mz_ok RX12 cX12_isDigit 1) = true := by decide +kernel
def bX12_isDigit_6 : List mz_E := [(6, .iload_n 0, 0, 0, 0, 0, 0), (7, .bipush 57, 0, 0, 0, 57, 0), (9, .if_icmp .gt 7, 0, 16, 0, 0, 0)]
theorem oX12_isDigit_6 : bX12_isDigit_6.all (mz_ok RX12 cX12_isDigit 1) = true := by decide +kernel
def bX12_isDigit_12 : List mz_E := [(12, .iconst 1, 0, 0, 0, 1, 0), (13, .goto 4, 0, 17, 0, 0, 0)]
theorem oX12_isDigit_12 : bX12_isDigit_12.all (mz_ok RX12 cX12_isDigit 1) = true := by decide +kernel
abbrev IX12_isDigit : mz_I := (yX12_isDigit, cX12_isDigit, 1, (some .boolean), 9, 0, 0, 0)
theorem kX12_isDigit : mz_okm IX12_isDigit 1758 141 1757 1 = true := by decide +kernel
theorem vX12_isDigit : mz_okS IX12_isDigit 1757 = true := by decide +kernel
def fX12_isDigit (x0 : Int32) : Int32 := (if x0 < (48 : Int32) then (0 : Int32) else (if (57 : Int32) < x0 then (0 : Int32) else (1 : Int32)))
set_option maxHeartbeats 4000000 in
theorem mX12_isDigit (x0 : Int32) (D : mz_D) (r : Int32) (h : fX12_isDigit x0 = r) : mz_Met IX12_isDigit [.inl x0] D (some (.inl r), D) := by
  refine mz_Met.of (by decide +kernel) (Nat.le_of_ble_eq_true rfl) ?_
  show mz_Go IX12_isDigit (some (.inl r), D) 0 0 (0, [some (.inl x0)], [], D)
  rw [fX12_isDigit] at h
  refine mz_Go.run (gs := []) (st' := (if x0 < (48 : Int32) then (16, [some (.inl x0)], [], D) else (6, [some (.inl x0)], [], D))) bX12_isDigit_0 oX12_isDigit_0 rfl trivial ?_
  refine mz_Go.ite (fun hc1 => ?_) (fun hc1 => ?_)
  · have h := mz_ifp hc1 h
    refine mz_Go.run (gs := []) (st' := (17, [some (.inl x0)], [.inl (0 : Int32)], D)) bX12_isDigit_16 oX12_isDigit_16 rfl trivial ?_
    subst h
    exact mz_Go.retz (by decide +kernel) rfl ⟨Nat.le_refl _, Nat.le_refl _⟩ (by decide) rfl
  · have h := mz_ifn hc1 h
    refine mz_Go.run (gs := []) (st' := (if (57 : Int32) < x0 then (16, [some (.inl x0)], [], D) else (12, [some (.inl x0)], [], D))) bX12_isDigit_6 oX12_isDigit_6 rfl trivial ?_
    refine mz_Go.ite (fun hc2 => ?_) (fun hc2 => ?_)
    · have h := mz_ifp hc2 h
      refine mz_Go.run (gs := []) (st' := (17, [some (.inl x0)], [.inl (0 : Int32)], D)) bX12_isDigit_16 oX12_isDigit_16 rfl trivial ?_
      subst h
      exact mz_Go.retz (by decide +kernel) rfl ⟨Nat.le_refl _, Nat.le_refl _⟩ (by decide) rfl
    · have h := mz_ifn hc2 h
      refine mz_Go.run (gs := []) (st' := (17, [some (.inl x0)], [.inl (1 : Int32)], D)) bX12_isDigit_12 oX12_isDigit_12 rfl trivial ?_
      subst h
      exact mz_Go.retz (by decide +kernel) rfl ⟨Nat.le_refl _, Nat.le_refl _⟩ (by decide) rfl
def bX12_ahead_0 : List mz_E := [(0, .aload_n 0, 0, 0, 0, 0, 0), (1, .aload_n 0, 0, 0, 0, 0, 0), (2, .getfield 108, 12, 14, 1590, 0, 0)]
theorem oX12_ahead_0 : bX12_ahead_0.all (mz_ok RX12 cX12_ahead 2) = true := by decide +kernel
def bX12_ahead_8 : List mz_E := [(8, .bipush 32, 0, 0, 0, 32, 0), (10, .if_icmp .eq 16, 0, 26, 0, 0, 0)]
theorem oX12_ahead_8 : bX12_ahead_8.all (mz_ok RX12 cX12_ahead 2) = true := by decide +kernel
def bX12_ahead_26 : List mz_E := [(26, .aload_n 0, 0, 0, 0, 0, 0), (27, .dup, 0, 0, 0, 0, 0), (28, .getfield 108, 12, 14, 1590, 0, 0), (31, .iconst 1, 0, 0, 0, 1, 0), (32, .iadd, 0, 0, 0, 0, 0), (33, .putfield 108, 12, 14, 1590, 0, 0), (36, .goto (-36), 0, 0, 0, 0, 0)]
theorem oX12_ahead_26 : bX12_ahead_26.all (mz_ok RX12 cX12_ahead 2) = true := by decide +kernel
def bX12_ahead_13 : List mz_E := [(13, .aload_n 0, 0, 0, 0, 0, 0), (14, .aload_n 0, 0, 0, 0, 0, 0), (15, .getfield 108, 12, 14, 1590, 0, 0)]
theorem oX12_ahead_13 : bX12_ahead_13.all (mz_ok RX12 cX12_ahead 2) = true := by decide +kernel
def bX12_ahead_21 : List mz_E := [(21, .bipush 10, 0, 0, 0, 10, 0), (23, .if_icmp .ne 16, 0, 39, 0, 0, 0)]
theorem oX12_ahead_21 : bX12_ahead_21.all (mz_ok RX12 cX12_ahead 2) = true := by decide +kernel
def bX12_ahead_39 : List mz_E := [(39, .aload_n 0, 0, 0, 0, 0, 0), (40, .aload_n 0, 0, 0, 0, 0, 0), (41, .getfield 108, 12, 14, 1590, 0, 0), (44, .putfield 114, 12, 13, 1589, 0, 0), (47, .aload_n 0, 0, 0, 0, 0, 0), (48, .aload_n 0, 0, 0, 0, 0, 0), (49, .getfield 108, 12, 14, 1590, 0, 0)]
theorem oX12_ahead_39 : bX12_ahead_39.all (mz_ok RX12 cX12_ahead 2) = true := by decide +kernel
def bX12_ahead_55 : List mz_E := [(55, .istore_n 1, 0, 0, 0, 0, 0), (56, .aload_n 0, 0, 0, 0, 0, 0), (57, .iload_n 1, 0, 0, 0, 0, 0), (58, .putfield 117, 12, 15, 1591, 0, 0), (61, .iload_n 1, 0, 0, 0, 0, 0), (62, .iconst (-1), 0, 0, 0, -1, 0), (63, .if_icmp .ne 11, 0, 74, 0, 0, 0)]
theorem oX12_ahead_55 : bX12_ahead_55.all (mz_ok RX12 cX12_ahead 2) = true := by decide +kernel
def bX12_ahead_66 : List mz_E := [(66, .aload_n 0, 0, 0, 0, 0, 0), (67, .iconst 0, 0, 0, 0, 0, 0), (68, .putfield 120, 12, 12, 1588, 0, 0), (71, .goto 180, 0, 251, 0, 0, 0)]
theorem oX12_ahead_66 : bX12_ahead_66.all (mz_ok RX12 cX12_ahead 2) = true := by decide +kernel
def bX12_ahead_74 : List mz_E := [(74, .iload_n 1, 0, 0, 0, 0, 0)]
theorem oX12_ahead_74 : bX12_ahead_74.all (mz_ok RX12 cX12_ahead 2) = true := by decide +kernel
def bX12_ahead_78 : List mz_E := [(78, .ifCond .eq 38, 0, 116, 0, 0, 0)]
theorem oX12_ahead_78 : bX12_ahead_78.all (mz_ok RX12 cX12_ahead 2) = true := by decide +kernel
def bX12_ahead_116 : List mz_E := [(116, .iload_n 1, 0, 0, 0, 0, 0)]
theorem oX12_ahead_116 : bX12_ahead_116.all (mz_ok RX12 cX12_ahead 2) = true := by decide +kernel
def bX12_ahead_120 : List mz_E := [(120, .ifCond .eq 88, 0, 208, 0, 0, 0)]
theorem oX12_ahead_120 : bX12_ahead_120.all (mz_ok RX12 cX12_ahead 2) = true := by decide +kernel
def bX12_ahead_208 : List mz_E := [(208, .aload_n 0, 0, 0, 0, 0, 0), (209, .dup, 0, 0, 0, 0, 0), (210, .getfield 108, 12, 14, 1590, 0, 0), (213, .iconst 1, 0, 0, 0, 1, 0), (214, .iadd, 0, 0, 0, 0, 0), (215, .putfield 108, 12, 14, 1590, 0, 0), (218, .aload_n 0, 0, 0, 0, 0, 0), (219, .iload_n 1, 0, 0, 0, 0, 0), (220, .bipush 59, 0, 0, 0, 59, 0), (222, .if_icmp .eq 21, 0, 243, 0, 0, 0)]
theorem oX12_ahead_208 : bX12_ahead_208.all (mz_ok RX12 cX12_ahead 2) = true := by decide +kernel
def bX12_ahead_243 : List mz_E := [(243, .iconst 4, 0, 0, 0, 4, 0), (244, .goto 4, 0, 248, 0, 0, 0), (248, .putfield 120, 12, 12, 1588, 0, 0)]
theorem oX12_ahead_243 : bX12_ahead_243.all (mz_ok RX12 cX12_ahead 2) = true := by decide +kernel
def bX12_ahead_225 : List mz_E := [(225, .iload_n 1, 0, 0, 0, 0, 0), (226, .bipush 60, 0, 0, 0, 60, 0), (228, .if_icmp .eq 15, 0, 243, 0, 0, 0)]
theorem oX12_ahead_225 : bX12_ahead_225.all (mz_ok RX12 cX12_ahead 2) = true := by decide +kernel
def bX12_ahead_231 : List mz_E := [(231, .iload_n 1, 0, 0, 0, 0, 0), (232, .bipush 62, 0, 0, 0, 62, 0), (234, .if_icmp .eq 9, 0, 243, 0, 0, 0)]
theorem oX12_ahead_231 : bX12_ahead_231.all (mz_ok RX12 cX12_ahead 2) = true := by decide +kernel
def bX12_ahead_237 : List mz_E := [(237, .iload_n 1, 0, 0, 0, 0, 0), (238, .bipush 61, 0, 0, 0, 61, 0), (240, .if_icmp .ne 7, 0, 247, 0, 0, 0)]
theorem oX12_ahead_237 : bX12_ahead_237.all (mz_ok RX12 cX12_ahead 2) = true := by decide +kernel
def bX12_ahead_247 : List mz_E := [(247, .iconst 1, 0, 0, 0, 1, 0), (248, .putfield 120, 12, 12, 1588, 0, 0)]
theorem oX12_ahead_247 : bX12_ahead_247.all (mz_ok RX12 cX12_ahead 2) = true := by decide +kernel
def bX12_ahead_123 : List mz_E := [(123, .aload_n 0, 0, 0, 0, 0, 0), (124, .iconst 0, 0, 0, 0, 0, 0), (125, .putfield 117, 12, 15, 1591, 0, 0)]
theorem oX12_ahead_123 : bX12_ahead_123.all (mz_ok RX12 cX12_ahead 2) = true := by decide +kernel
def bX12_ahead_128 : List mz_E := [(128, .aload_n 0, 0, 0, 0, 0, 0), (129, .aload_n 0, 0, 0, 0, 0, 0), (130, .getfield 108, 12, 14, 1590, 0, 0)]
theorem oX12_ahead_128 : bX12_ahead_128.all (mz_ok RX12 cX12_ahead 2) = true := by decide +kernel
def bX12_ahead_139 : List mz_E := [(139, .ifCond .eq 44, 0, 183, 0, 0, 0)]
theorem oX12_ahead_139 : bX12_ahead_139.all (mz_ok RX12 cX12_ahead 2) = true := by decide +kernel
def bX12_ahead_183 : List mz_E := [(183, .aload_n 0, 0, 0, 0, 0, 0), (184, .aload_n 0, 0, 0, 0, 0, 0), (185, .getfield 108, 12, 14, 1590, 0, 0), (188, .aload_n 0, 0, 0, 0, 0, 0), (189, .getfield 114, 12, 13, 1589, 0, 0), (192, .isub, 0, 0, 0, 0, 0), (193, .iconst 4, 0, 0, 0, 4, 0), (194, .if_icmp .le 7, 0, 201, 0, 0, 0)]
theorem oX12_ahead_183 : bX12_ahead_183.all (mz_ok RX12 cX12_ahead 2) = true := by decide +kernel
def bX12_ahead_201 : List mz_E := [(201, .iconst 3, 0, 0, 0, 3, 0), (202, .putfield 120, 12, 12, 1588, 0, 0), (205, .goto 46, 0, 251, 0, 0, 0)]
theorem oX12_ahead_201 : bX12_ahead_201.all (mz_ok RX12 cX12_ahead 2) = true := by decide +kernel
def bX12_ahead_197 : List mz_E := [(197, .iconst 1, 0, 0, 0, 1, 0), (198, .goto 4, 0, 202, 0, 0, 0), (202, .putfield 120, 12, 12, 1588, 0, 0), (205, .goto 46, 0, 251, 0, 0, 0)]
theorem oX12_ahead_197 : bX12_ahead_197.all (mz_ok RX12 cX12_ahead 2) = true := by decide +kernel
def bX12_ahead_142 : List mz_E := [(142, .aload_n 0, 0, 0, 0, 0, 0), (143, .ldc 129, 0, 0, 1759, 100000, 0), (145, .bipush 10, 0, 0, 0, 10, 0), (147, .aload_n 0, 0, 0, 0, 0, 0), (148, .getfield 117, 12, 15, 1591, 0, 0), (151, .imul, 0, 0, 0, 0, 0), (152, .aload_n 0, 0, 0, 0, 0, 0), (153, .aload_n 0, 0, 0, 0, 0, 0), (154, .getfield 108, 12, 14, 1590, 0, 0)]
theorem oX12_ahead_142 : bX12_ahead_142.all (mz_ok RX12 cX12_ahead 2) = true := by decide +kernel
def bX12_ahead_160 : List mz_E := [(160, .iadd, 0, 0, 0, 0, 0), (161, .bipush 48, 0, 0, 0, 48, 0), (163, .isub, 0, 0, 0, 0, 0)]
theorem oX12_ahead_160 : bX12_ahead_160.all (mz_ok RX12 cX12_ahead 2) = true := by decide +kernel
def bX12_ahead_167 : List mz_E := [(167, .putfield 117, 12, 15, 1591, 0, 0), (170, .aload_n 0, 0, 0, 0, 0, 0), (171, .dup, 0, 0, 0, 0, 0), (172, .getfield 108, 12, 14, 1590, 0, 0), (175, .iconst 1, 0, 0, 0, 1, 0), (176, .iadd, 0, 0, 0, 0, 0), (177, .putfield 108, 12, 14, 1590, 0, 0), (180, .goto (-52), 0, 128, 0, 0, 0)]
theorem oX12_ahead_167 : bX12_ahead_167.all (mz_ok RX12 cX12_ahead 2) = true := by decide +kernel
def bX12_ahead_81 : List mz_E := [(81, .aload_n 0, 0, 0, 0, 0, 0), (82, .aload_n 0, 0, 0, 0, 0, 0), (83, .getfield 108, 12, 14, 1590, 0, 0)]
theorem oX12_ahead_81 : bX12_ahead_81.all (mz_ok RX12 cX12_ahead 2) = true := by decide +kernel
def bX12_ahead_92 : List mz_E := [(92, .ifCond .eq 16, 0, 108, 0, 0, 0)]
theorem oX12_ahead_92 : bX12_ahead_92.all (mz_ok RX12 cX12_ahead 2) = true := by decide +kernel
def bX12_ahead_108 : List mz_E := [(108, .aload_n 0, 0, 0, 0, 0, 0), (109, .iconst 2, 0, 0, 0, 2, 0), (110, .putfield 120, 12, 12, 1588, 0, 0), (113, .goto 138, 0, 251, 0, 0, 0)]
theorem oX12_ahead_108 : bX12_ahead_108.all (mz_ok RX12 cX12_ahead 2) = true := by decide +kernel
def bX12_ahead_95 : List mz_E := [(95, .aload_n 0, 0, 0, 0, 0, 0), (96, .dup, 0, 0, 0, 0, 0), (97, .getfield 108, 12, 14, 1590, 0, 0), (100, .iconst 1, 0, 0, 0, 1, 0), (101, .iadd, 0, 0, 0, 0, 0), (102, .putfield 108, 12, 14, 1590, 0, 0), (105, .goto (-24), 0, 81, 0, 0, 0)]
theorem oX12_ahead_95 : bX12_ahead_95.all (mz_ok RX12 cX12_ahead 2) = true := by decide +kernel
abbrev IX12_ahead : mz_I := (yX12_ahead, cX12_ahead, 2, none, 0, 1, 0, 0)
theorem kX12_ahead : mz_okm IX12_ahead 1748 141 1747 0 = true := by decide +kernel
theorem vX12_ahead : mz_okV IX12_ahead 1747 51 = true := by decide +kernel
def fX12_ahead_26 (k0 : mz_D → Option mz_D) (D : mz_D) : Option mz_D := (k0 (mz_wi D 0 200 14 ((D.1 0 200 14) + (1 : Int32))))
set_option maxHeartbeats 4000000 in
theorem tX12_ahead_26 (r : mz_D) (k0 : mz_D → Option mz_D) (hk0 : ∀ (D : mz_D), k0 D = some r → mz_Go IX12_ahead (none, r) 0 0 (0, [some (.inr (.inr (some (0, 200)))), none], [], D)) : ∀ (D : mz_D), fX12_ahead_26 k0 D = some r → mz_Go IX12_ahead (none, r) 0 0 (26, [some (.inr (.inr (some (0, 200)))), none], [], D) := by
  intro D h
  rw [fX12_ahead_26] at h
  refine mz_Go.run (gs := [mz_kz 0 0 200, mz_kz 0 0 200]) (st' := (0, [some (.inr (.inr (some (0, 200)))), none], [], (mz_wi D 0 200 14 ((D.1 0 200 14) + (1 : Int32))))) bX12_ahead_26 oX12_ahead_26 rfl ⟨rfl, rfl, trivial⟩ ?_
  exact mz_Go.drop [true, false] (hk0 (mz_wi D 0 200 14 ((D.1 0 200 14) + (1 : Int32))) h)
def fX12_ahead_128 : Nat → mz_D → Option mz_D
  | 0 => fun _ => none
  | n + 1 => fun D => (Option.bind (fX12_byteAt (D.1 0 200 14) D) fun q1 => (if (fX12_isDigit q1) = 0 then (if ((D.1 0 200 14) - (D.1 0 200 13)) ≤ (4 : Int32) then (some (mz_wi D 0 200 12 (3 : Int32))) else (some (mz_wi D 0 200 12 (1 : Int32)))) else (Option.bind (fX12_byteAt (D.1 0 200 14) D) fun q4 => ((fX12_ahead_128 n) (mz_wi (mz_wi D 0 200 15 (fJ9_min_7cf53 (100000 : Int32) ((((10 : Int32) * (D.1 0 200 15)) + q4) - (48 : Int32)))) 0 200 14 ((D.1 0 200 14) + (1 : Int32)))))))
set_option maxHeartbeats 4000000 in
theorem tX12_ahead_128 (r : mz_D) : ∀ (n : Nat) (D : mz_D), fX12_ahead_128 n D = some r → mz_Go IX12_ahead (none, r) 0 0 (128, [some (.inr (.inr (some (0, 200)))), none], [], D) := by
  intro n
  induction n with
  | zero => intro D h; have h : (none : Option mz_D) = some r := h; cases h
  | succ n ih =>
    intro D h
    rw [fX12_ahead_128] at h
    refine mz_Go.run (gs := [mz_kz 0 0 200]) (st' := (133, [some (.inr (.inr (some (0, 200)))), none], [.inl (D.1 0 200 14), .inr (.inr (some (0, 200)))], D)) bX12_ahead_128 oX12_ahead_128 rfl ⟨rfl, trivial⟩ ?_
    obtain ⟨q1, hq1, h⟩ := mz_bd_some h
    refine mz_Go.callV (I := IX12_ahead) (J := IX12_byteAt) (as := [.inl (D.1 0 200 14)]) (ci := 12) (g := 0) (o := 200) (idx := 111) (pl := 1749) (rest := []) (mX12_byteAt (D.1 0 200 14) D q1 hq1) kX12_byteAt vX12_byteAt (by decide +kernel) (by decide +kernel) (by decide +kernel) rfl rfl ⟨rfl, rfl⟩ rfl rfl rfl rfl ?_
    refine mz_Go.callS (I := IX12_ahead) (J := IX12_isDigit) (as := [.inl q1]) (idx := 126) (pl := 1756) (rest := []) (mX12_isDigit q1 D _ rfl) kX12_isDigit vX12_isDigit (by decide +kernel) (by decide +kernel) (by decide +kernel) rfl rfl ⟨rfl, rfl⟩ rfl ?_
    refine mz_Go.run (gs := []) (st' := (if (fX12_isDigit q1) = 0 then (183, [some (.inr (.inr (some (0, 200)))), none], [], D) else (142, [some (.inr (.inr (some (0, 200)))), none], [], D))) bX12_ahead_139 oX12_ahead_139 rfl trivial ?_
    refine mz_Go.ite (fun hc2 => ?_) (fun hc2 => ?_)
    · have h := mz_ifp hc2 h
      refine mz_Go.run (gs := [mz_kz 0 0 200, mz_kz 0 0 200]) (st' := (if ((D.1 0 200 14) - (D.1 0 200 13)) ≤ (4 : Int32) then (201, [some (.inr (.inr (some (0, 200)))), none], [.inr (.inr (some (0, 200)))], D) else (197, [some (.inr (.inr (some (0, 200)))), none], [.inr (.inr (some (0, 200)))], D))) bX12_ahead_183 oX12_ahead_183 rfl ⟨rfl, rfl, trivial⟩ ?_
      refine mz_Go.ite (fun hc3 => ?_) (fun hc3 => ?_)
      · have h := mz_ifp hc3 h
        refine mz_Go.run (gs := [mz_kz 0 0 200]) (st' := (251, [some (.inr (.inr (some (0, 200)))), none], [], (mz_wi D 0 200 12 (3 : Int32)))) bX12_ahead_201 oX12_ahead_201 rfl ⟨rfl, trivial⟩ ?_
        cases h
        exact mz_Go.retv (by decide +kernel) rfl ⟨Nat.le_refl _, Nat.le_refl _⟩ rfl
      · have h := mz_ifn hc3 h
        refine mz_Go.run (gs := [mz_kz 0 0 200]) (st' := (251, [some (.inr (.inr (some (0, 200)))), none], [], (mz_wi D 0 200 12 (1 : Int32)))) bX12_ahead_197 oX12_ahead_197 rfl ⟨rfl, trivial⟩ ?_
        cases h
        exact mz_Go.retv (by decide +kernel) rfl ⟨Nat.le_refl _, Nat.le_refl _⟩ rfl
    · have h := mz_ifn hc2 h
      refine mz_Go.run (gs := [mz_kz 0 0 200, mz_kz 0 0 200]) (st' := (157, [some (.inr (.inr (some (0, 200)))), none], [.inl (D.1 0 200 14), .inr (.inr (some (0, 200))), .inl ((10 : Int32) * (D.1 0 200 15)), .inl (100000 : Int32), .inr (.inr (some (0, 200)))], D)) bX12_ahead_142 oX12_ahead_142 rfl ⟨rfl, rfl, trivial⟩ ?_
      obtain ⟨q4, hq4, h⟩ := mz_bd_some h
      refine mz_Go.callV (I := IX12_ahead) (J := IX12_byteAt) (as := [.inl (D.1 0 200 14)]) (ci := 12) (g := 0) (o := 200) (idx := 111) (pl := 1749) (rest := [.inl ((10 : Int32) * (D.1 0 200 15)), .inl (100000 : Int32), .inr (.inr (some (0, 200)))]) (mX12_byteAt (D.1 0 200 14) D q4 hq4) kX12_byteAt vX12_byteAt (by decide +kernel) (by decide +kernel) (by decide +kernel) rfl rfl ⟨rfl, rfl⟩ rfl rfl rfl rfl ?_
      refine mz_Go.run (gs := []) (st' := (164, [some (.inr (.inr (some (0, 200)))), none], [.inl ((((10 : Int32) * (D.1 0 200 15)) + q4) - (48 : Int32)), .inl (100000 : Int32), .inr (.inr (some (0, 200)))], D)) bX12_ahead_160 oX12_ahead_160 rfl trivial ?_
      refine mz_Go.callS (I := IX12_ahead) (J := IJ9_min_7cf53) (as := [.inl (100000 : Int32), .inl ((((10 : Int32) * (D.1 0 200 15)) + q4) - (48 : Int32))]) (idx := 130) (pl := 1760) (rest := [.inr (.inr (some (0, 200)))]) (mJ9_min_7cf53 (100000 : Int32) ((((10 : Int32) * (D.1 0 200 15)) + q4) - (48 : Int32)) D _ rfl) kJ9_min_7cf53 vJ9_min_7cf53 (by decide +kernel) (by decide +kernel) (by decide +kernel) rfl rfl ⟨rfl, rfl⟩ rfl ?_
      refine mz_Go.run (gs := [mz_kz 0 0 200, mz_kz 0 0 200, mz_kz 0 0 200]) (st' := (128, [some (.inr (.inr (some (0, 200)))), none], [], (mz_wi (mz_wi D 0 200 15 (fJ9_min_7cf53 (100000 : Int32) ((((10 : Int32) * (D.1 0 200 15)) + q4) - (48 : Int32)))) 0 200 14 ((D.1 0 200 14) + (1 : Int32))))) bX12_ahead_167 oX12_ahead_167 rfl ⟨rfl, rfl, rfl, trivial⟩ ?_
      exact mz_Go.drop [true, false] (ih (mz_wi (mz_wi D 0 200 15 (fJ9_min_7cf53 (100000 : Int32) ((((10 : Int32) * (D.1 0 200 15)) + q4) - (48 : Int32)))) 0 200 14 ((D.1 0 200 14) + (1 : Int32))) h)
def fX12_ahead_81 : Nat → mz_D → Option mz_D
  | 0 => fun _ => none
  | n + 1 => fun D => (Option.bind (fX12_byteAt (D.1 0 200 14) D) fun q1 => (if (fX12_isSmall q1) = 0 then (some (mz_wi D 0 200 12 (2 : Int32))) else ((fX12_ahead_81 n) (mz_wi D 0 200 14 ((D.1 0 200 14) + (1 : Int32))))))
set_option maxHeartbeats 4000000 in
theorem tX12_ahead_81 (r : mz_D) : ∀ (n : Nat) (D : mz_D), fX12_ahead_81 n D = some r → mz_Go IX12_ahead (none, r) 0 0 (81, [some (.inr (.inr (some (0, 200)))), none], [], D) := by
  intro n
  induction n with
  | zero => intro D h; have h : (none : Option mz_D) = some r := h; cases h
  | succ n ih =>
    intro D h
    rw [fX12_ahead_81] at h
    refine mz_Go.run (gs := [mz_kz 0 0 200]) (st' := (86, [some (.inr (.inr (some (0, 200)))), none], [.inl (D.1 0 200 14), .inr (.inr (some (0, 200)))], D)) bX12_ahead_81 oX12_ahead_81 rfl ⟨rfl, trivial⟩ ?_
    obtain ⟨q1, hq1, h⟩ := mz_bd_some h
    refine mz_Go.callV (I := IX12_ahead) (J := IX12_byteAt) (as := [.inl (D.1 0 200 14)]) (ci := 12) (g := 0) (o := 200) (idx := 111) (pl := 1749) (rest := []) (mX12_byteAt (D.1 0 200 14) D q1 hq1) kX12_byteAt vX12_byteAt (by decide +kernel) (by decide +kernel) (by decide +kernel) rfl rfl ⟨rfl, rfl⟩ rfl rfl rfl rfl ?_
    refine mz_Go.callS (I := IX12_ahead) (J := IX12_isSmall) (as := [.inl q1]) (idx := 123) (pl := 1753) (rest := []) (mX12_isSmall q1 D _ rfl) kX12_isSmall vX12_isSmall (by decide +kernel) (by decide +kernel) (by decide +kernel) rfl rfl ⟨rfl, rfl⟩ rfl ?_
    refine mz_Go.run (gs := []) (st' := (if (fX12_isSmall q1) = 0 then (108, [some (.inr (.inr (some (0, 200)))), none], [], D) else (95, [some (.inr (.inr (some (0, 200)))), none], [], D))) bX12_ahead_92 oX12_ahead_92 rfl trivial ?_
    refine mz_Go.ite (fun hc2 => ?_) (fun hc2 => ?_)
    · have h := mz_ifp hc2 h
      refine mz_Go.run (gs := [mz_kz 0 0 200]) (st' := (251, [some (.inr (.inr (some (0, 200)))), none], [], (mz_wi D 0 200 12 (2 : Int32)))) bX12_ahead_108 oX12_ahead_108 rfl ⟨rfl, trivial⟩ ?_
      cases h
      exact mz_Go.retv (by decide +kernel) rfl ⟨Nat.le_refl _, Nat.le_refl _⟩ rfl
    · have h := mz_ifn hc2 h
      refine mz_Go.run (gs := [mz_kz 0 0 200, mz_kz 0 0 200]) (st' := (81, [some (.inr (.inr (some (0, 200)))), none], [], (mz_wi D 0 200 14 ((D.1 0 200 14) + (1 : Int32))))) bX12_ahead_95 oX12_ahead_95 rfl ⟨rfl, rfl, trivial⟩ ?_
      exact mz_Go.drop [true, false] (ih (mz_wi D 0 200 14 ((D.1 0 200 14) + (1 : Int32))) h)
def fX12_ahead_0 : Nat → mz_D → Option mz_D
  | 0 => fun _ => none
  | n + 1 => fun D => (Option.bind (fX12_byteAt (D.1 0 200 14) D) fun q1 => (if q1 = (32 : Int32) then (fX12_ahead_26 (fX12_ahead_0 n) D) else (Option.bind (fX12_byteAt (D.1 0 200 14) D) fun q3 => (if q3 = (10 : Int32) then (fX12_ahead_26 (fX12_ahead_0 n) D) else (Option.bind (fX12_byteAt (D.1 0 200 14) (mz_wi D 0 200 13 (D.1 0 200 14))) fun q5 => (if q5 = (-1 : Int32) then (some (mz_wi (mz_wi (mz_wi D 0 200 13 (D.1 0 200 14)) 0 200 15 q5) 0 200 12 (0 : Int32))) else (if (fX12_isSmall q5) = 0 then (if (fX12_isDigit q5) = 0 then (if q5 = (59 : Int32) then (some (mz_wi (mz_wi (mz_wi (mz_wi D 0 200 13 (D.1 0 200 14)) 0 200 15 q5) 0 200 14 ((D.1 0 200 14) + (1 : Int32))) 0 200 12 (4 : Int32))) else (if q5 = (60 : Int32) then (some (mz_wi (mz_wi (mz_wi (mz_wi D 0 200 13 (D.1 0 200 14)) 0 200 15 q5) 0 200 14 ((D.1 0 200 14) + (1 : Int32))) 0 200 12 (4 : Int32))) else (if q5 = (62 : Int32) then (some (mz_wi (mz_wi (mz_wi (mz_wi D 0 200 13 (D.1 0 200 14)) 0 200 15 q5) 0 200 14 ((D.1 0 200 14) + (1 : Int32))) 0 200 12 (4 : Int32))) else (if q5 = (61 : Int32) then (some (mz_wi (mz_wi (mz_wi (mz_wi D 0 200 13 (D.1 0 200 14)) 0 200 15 q5) 0 200 14 ((D.1 0 200 14) + (1 : Int32))) 0 200 12 (4 : Int32))) else (some (mz_wi (mz_wi (mz_wi (mz_wi D 0 200 13 (D.1 0 200 14)) 0 200 15 q5) 0 200 14 ((D.1 0 200 14) + (1 : Int32))) 0 200 12 (1 : Int32))))))) else (fX12_ahead_128 mz_N (mz_wi (mz_wi (mz_wi D 0 200 13 (D.1 0 200 14)) 0 200 15 q5) 0 200 15 (0 : Int32)))) else (fX12_ahead_81 mz_N (mz_wi (mz_wi D 0 200 13 (D.1 0 200 14)) 0 200 15 q5)))))))))
set_option maxHeartbeats 4000000 in
theorem tX12_ahead_0 (r : mz_D) : ∀ (n : Nat) (D : mz_D), fX12_ahead_0 n D = some r → mz_Go IX12_ahead (none, r) 0 0 (0, [some (.inr (.inr (some (0, 200)))), none], [], D) := by
  intro n
  induction n with
  | zero => intro D h; have h : (none : Option mz_D) = some r := h; cases h
  | succ n ih =>
    intro D h
    rw [fX12_ahead_0] at h
    refine mz_Go.run (gs := [mz_kz 0 0 200]) (st' := (5, [some (.inr (.inr (some (0, 200)))), none], [.inl (D.1 0 200 14), .inr (.inr (some (0, 200)))], D)) bX12_ahead_0 oX12_ahead_0 rfl ⟨rfl, trivial⟩ ?_
    obtain ⟨q1, hq1, h⟩ := mz_bd_some h
    refine mz_Go.callV (I := IX12_ahead) (J := IX12_byteAt) (as := [.inl (D.1 0 200 14)]) (ci := 12) (g := 0) (o := 200) (idx := 111) (pl := 1749) (rest := []) (mX12_byteAt (D.1 0 200 14) D q1 hq1) kX12_byteAt vX12_byteAt (by decide +kernel) (by decide +kernel) (by decide +kernel) rfl rfl ⟨rfl, rfl⟩ rfl rfl rfl rfl ?_
    refine mz_Go.run (gs := []) (st' := (if q1 = (32 : Int32) then (26, [some (.inr (.inr (some (0, 200)))), none], [], D) else (13, [some (.inr (.inr (some (0, 200)))), none], [], D))) bX12_ahead_8 oX12_ahead_8 rfl trivial ?_
    refine mz_Go.ite (fun hc2 => ?_) (fun hc2 => ?_)
    · have h := mz_ifp hc2 h
      exact mz_Go.drop [true, false] (tX12_ahead_26 r (fX12_ahead_0 n) ih D h)
    · have h := mz_ifn hc2 h
      refine mz_Go.run (gs := [mz_kz 0 0 200]) (st' := (18, [some (.inr (.inr (some (0, 200)))), none], [.inl (D.1 0 200 14), .inr (.inr (some (0, 200)))], D)) bX12_ahead_13 oX12_ahead_13 rfl ⟨rfl, trivial⟩ ?_
      obtain ⟨q3, hq3, h⟩ := mz_bd_some h
      refine mz_Go.callV (I := IX12_ahead) (J := IX12_byteAt) (as := [.inl (D.1 0 200 14)]) (ci := 12) (g := 0) (o := 200) (idx := 111) (pl := 1749) (rest := []) (mX12_byteAt (D.1 0 200 14) D q3 hq3) kX12_byteAt vX12_byteAt (by decide +kernel) (by decide +kernel) (by decide +kernel) rfl rfl ⟨rfl, rfl⟩ rfl rfl rfl rfl ?_
      refine mz_Go.run (gs := []) (st' := (if q3 = (10 : Int32) then (26, [some (.inr (.inr (some (0, 200)))), none], [], D) else (39, [some (.inr (.inr (some (0, 200)))), none], [], D))) bX12_ahead_21 oX12_ahead_21 rfl trivial ?_
      refine mz_Go.ite (fun hc4 => ?_) (fun hc4 => ?_)
      · have h := mz_ifp hc4 h
        exact mz_Go.drop [true, false] (tX12_ahead_26 r (fX12_ahead_0 n) ih D h)
      · have h := mz_ifn hc4 h
        refine mz_Go.run (gs := [mz_kz 0 0 200, mz_kz 0 0 200, mz_kz 0 0 200]) (st' := (52, [some (.inr (.inr (some (0, 200)))), none], [.inl (D.1 0 200 14), .inr (.inr (some (0, 200)))], (mz_wi D 0 200 13 (D.1 0 200 14)))) bX12_ahead_39 oX12_ahead_39 rfl ⟨rfl, rfl, rfl, trivial⟩ ?_
        obtain ⟨q5, hq5, h⟩ := mz_bd_some h
        refine mz_Go.callV (I := IX12_ahead) (J := IX12_byteAt) (as := [.inl (D.1 0 200 14)]) (ci := 12) (g := 0) (o := 200) (idx := 111) (pl := 1749) (rest := []) (mX12_byteAt (D.1 0 200 14) (mz_wi D 0 200 13 (D.1 0 200 14)) q5 hq5) kX12_byteAt vX12_byteAt (by decide +kernel) (by decide +kernel) (by decide +kernel) rfl rfl ⟨rfl, rfl⟩ rfl rfl rfl rfl ?_
        refine mz_Go.run (gs := [mz_kz 0 0 200]) (st' := (if q5 = (-1 : Int32) then (66, [some (.inr (.inr (some (0, 200)))), some (.inl q5)], [], (mz_wi (mz_wi D 0 200 13 (D.1 0 200 14)) 0 200 15 q5)) else (74, [some (.inr (.inr (some (0, 200)))), some (.inl q5)], [], (mz_wi (mz_wi D 0 200 13 (D.1 0 200 14)) 0 200 15 q5)))) bX12_ahead_55 oX12_ahead_55 rfl ⟨rfl, trivial⟩ ?_
        refine mz_Go.ite (fun hc6 => ?_) (fun hc6 => ?_)
        · have h := mz_ifp hc6 h
          refine mz_Go.run (gs := [mz_kz 0 0 200]) (st' := (251, [some (.inr (.inr (some (0, 200)))), some (.inl q5)], [], (mz_wi (mz_wi (mz_wi D 0 200 13 (D.1 0 200 14)) 0 200 15 q5) 0 200 12 (0 : Int32)))) bX12_ahead_66 oX12_ahead_66 rfl ⟨rfl, trivial⟩ ?_
          cases h
          exact mz_Go.retv (by decide +kernel) rfl ⟨Nat.le_refl _, Nat.le_refl _⟩ rfl
        · have h := mz_ifn hc6 h
          refine mz_Go.run (gs := []) (st' := (75, [some (.inr (.inr (some (0, 200)))), some (.inl q5)], [.inl q5], (mz_wi (mz_wi D 0 200 13 (D.1 0 200 14)) 0 200 15 q5))) bX12_ahead_74 oX12_ahead_74 rfl trivial ?_
          refine mz_Go.callS (I := IX12_ahead) (J := IX12_isSmall) (as := [.inl q5]) (idx := 123) (pl := 1753) (rest := []) (mX12_isSmall q5 (mz_wi (mz_wi D 0 200 13 (D.1 0 200 14)) 0 200 15 q5) _ rfl) kX12_isSmall vX12_isSmall (by decide +kernel) (by decide +kernel) (by decide +kernel) rfl rfl ⟨rfl, rfl⟩ rfl ?_
          refine mz_Go.run (gs := []) (st' := (if (fX12_isSmall q5) = 0 then (116, [some (.inr (.inr (some (0, 200)))), some (.inl q5)], [], (mz_wi (mz_wi D 0 200 13 (D.1 0 200 14)) 0 200 15 q5)) else (81, [some (.inr (.inr (some (0, 200)))), some (.inl q5)], [], (mz_wi (mz_wi D 0 200 13 (D.1 0 200 14)) 0 200 15 q5)))) bX12_ahead_78 oX12_ahead_78 rfl trivial ?_
          refine mz_Go.ite (fun hc7 => ?_) (fun hc7 => ?_)
          · have h := mz_ifp hc7 h
            refine mz_Go.run (gs := []) (st' := (117, [some (.inr (.inr (some (0, 200)))), some (.inl q5)], [.inl q5], (mz_wi (mz_wi D 0 200 13 (D.1 0 200 14)) 0 200 15 q5))) bX12_ahead_116 oX12_ahead_116 rfl trivial ?_
            refine mz_Go.callS (I := IX12_ahead) (J := IX12_isDigit) (as := [.inl q5]) (idx := 126) (pl := 1756) (rest := []) (mX12_isDigit q5 (mz_wi (mz_wi D 0 200 13 (D.1 0 200 14)) 0 200 15 q5) _ rfl) kX12_isDigit vX12_isDigit (by decide +kernel) (by decide +kernel) (by decide +kernel) rfl rfl ⟨rfl, rfl⟩ rfl ?_
            refine mz_Go.run (gs := []) (st' := (if (fX12_isDigit q5) = 0 then (208, [some (.inr (.inr (some (0, 200)))), some (.inl q5)], [], (mz_wi (mz_wi D 0 200 13 (D.1 0 200 14)) 0 200 15 q5)) else (123, [some (.inr (.inr (some (0, 200)))), some (.inl q5)], [], (mz_wi (mz_wi D 0 200 13 (D.1 0 200 14)) 0 200 15 q5)))) bX12_ahead_120 oX12_ahead_120 rfl trivial ?_
            refine mz_Go.ite (fun hc8 => ?_) (fun hc8 => ?_)
            · have h := mz_ifp hc8 h
              refine mz_Go.run (gs := [mz_kz 0 0 200, mz_kz 0 0 200]) (st' := (if q5 = (59 : Int32) then (243, [some (.inr (.inr (some (0, 200)))), some (.inl q5)], [.inr (.inr (some (0, 200)))], (mz_wi (mz_wi (mz_wi D 0 200 13 (D.1 0 200 14)) 0 200 15 q5) 0 200 14 ((D.1 0 200 14) + (1 : Int32)))) else (225, [some (.inr (.inr (some (0, 200)))), some (.inl q5)], [.inr (.inr (some (0, 200)))], (mz_wi (mz_wi (mz_wi D 0 200 13 (D.1 0 200 14)) 0 200 15 q5) 0 200 14 ((D.1 0 200 14) + (1 : Int32)))))) bX12_ahead_208 oX12_ahead_208 rfl ⟨rfl, rfl, trivial⟩ ?_
              refine mz_Go.ite (fun hc9 => ?_) (fun hc9 => ?_)
              · have h := mz_ifp hc9 h
                refine mz_Go.run (gs := [mz_kz 0 0 200]) (st' := (251, [some (.inr (.inr (some (0, 200)))), some (.inl q5)], [], (mz_wi (mz_wi (mz_wi (mz_wi D 0 200 13 (D.1 0 200 14)) 0 200 15 q5) 0 200 14 ((D.1 0 200 14) + (1 : Int32))) 0 200 12 (4 : Int32)))) bX12_ahead_243 oX12_ahead_243 rfl ⟨rfl, trivial⟩ ?_
                cases h
                exact mz_Go.retv (by decide +kernel) rfl ⟨Nat.le_refl _, Nat.le_refl _⟩ rfl
              · have h := mz_ifn hc9 h
                refine mz_Go.run (gs := []) (st' := (if q5 = (60 : Int32) then (243, [some (.inr (.inr (some (0, 200)))), some (.inl q5)], [.inr (.inr (some (0, 200)))], (mz_wi (mz_wi (mz_wi D 0 200 13 (D.1 0 200 14)) 0 200 15 q5) 0 200 14 ((D.1 0 200 14) + (1 : Int32)))) else (231, [some (.inr (.inr (some (0, 200)))), some (.inl q5)], [.inr (.inr (some (0, 200)))], (mz_wi (mz_wi (mz_wi D 0 200 13 (D.1 0 200 14)) 0 200 15 q5) 0 200 14 ((D.1 0 200 14) + (1 : Int32)))))) bX12_ahead_225 oX12_ahead_225 rfl trivial ?_
                refine mz_Go.ite (fun hc10 => ?_) (fun hc10 => ?_)
                · have h := mz_ifp hc10 h
                  refine mz_Go.run (gs := [mz_kz 0 0 200]) (st' := (251, [some (.inr (.inr (some (0, 200)))), some (.inl q5)], [], (mz_wi (mz_wi (mz_wi (mz_wi D 0 200 13 (D.1 0 200 14)) 0 200 15 q5) 0 200 14 ((D.1 0 200 14) + (1 : Int32))) 0 200 12 (4 : Int32)))) bX12_ahead_243 oX12_ahead_243 rfl ⟨rfl, trivial⟩ ?_
                  cases h
                  exact mz_Go.retv (by decide +kernel) rfl ⟨Nat.le_refl _, Nat.le_refl _⟩ rfl
                · have h := mz_ifn hc10 h
                  refine mz_Go.run (gs := []) (st' := (if q5 = (62 : Int32) then (243, [some (.inr (.inr (some (0, 200)))), some (.inl q5)], [.inr (.inr (some (0, 200)))], (mz_wi (mz_wi (mz_wi D 0 200 13 (D.1 0 200 14)) 0 200 15 q5) 0 200 14 ((D.1 0 200 14) + (1 : Int32)))) else (237, [some (.inr (.inr (some (0, 200)))), some (.inl q5)], [.inr (.inr (some (0, 200)))], (mz_wi (mz_wi (mz_wi D 0 200 13 (D.1 0 200 14)) 0 200 15 q5) 0 200 14 ((D.1 0 200 14) + (1 : Int32)))))) bX12_ahead_231 oX12_ahead_231 rfl trivial ?_
                  refine mz_Go.ite (fun hc11 => ?_) (fun hc11 => ?_)
                  · have h := mz_ifp hc11 h
                    refine mz_Go.run (gs := [mz_kz 0 0 200]) (st' := (251, [some (.inr (.inr (some (0, 200)))), some (.inl q5)], [], (mz_wi (mz_wi (mz_wi (mz_wi D 0 200 13 (D.1 0 200 14)) 0 200 15 q5) 0 200 14 ((D.1 0 200 14) + (1 : Int32))) 0 200 12 (4 : Int32)))) bX12_ahead_243 oX12_ahead_243 rfl ⟨rfl, trivial⟩ ?_
                    cases h
                    exact mz_Go.retv (by decide +kernel) rfl ⟨Nat.le_refl _, Nat.le_refl _⟩ rfl
                  · have h := mz_ifn hc11 h
                    refine mz_Go.run (gs := []) (st' := (if q5 = (61 : Int32) then (243, [some (.inr (.inr (some (0, 200)))), some (.inl q5)], [.inr (.inr (some (0, 200)))], (mz_wi (mz_wi (mz_wi D 0 200 13 (D.1 0 200 14)) 0 200 15 q5) 0 200 14 ((D.1 0 200 14) + (1 : Int32)))) else (247, [some (.inr (.inr (some (0, 200)))), some (.inl q5)], [.inr (.inr (some (0, 200)))], (mz_wi (mz_wi (mz_wi D 0 200 13 (D.1 0 200 14)) 0 200 15 q5) 0 200 14 ((D.1 0 200 14) + (1 : Int32)))))) bX12_ahead_237 oX12_ahead_237 rfl trivial ?_
                    refine mz_Go.ite (fun hc12 => ?_) (fun hc12 => ?_)
                    · have h := mz_ifp hc12 h
                      refine mz_Go.run (gs := [mz_kz 0 0 200]) (st' := (251, [some (.inr (.inr (some (0, 200)))), some (.inl q5)], [], (mz_wi (mz_wi (mz_wi (mz_wi D 0 200 13 (D.1 0 200 14)) 0 200 15 q5) 0 200 14 ((D.1 0 200 14) + (1 : Int32))) 0 200 12 (4 : Int32)))) bX12_ahead_243 oX12_ahead_243 rfl ⟨rfl, trivial⟩ ?_
                      cases h
                      exact mz_Go.retv (by decide +kernel) rfl ⟨Nat.le_refl _, Nat.le_refl _⟩ rfl
                    · have h := mz_ifn hc12 h
                      refine mz_Go.run (gs := [mz_kz 0 0 200]) (st' := (251, [some (.inr (.inr (some (0, 200)))), some (.inl q5)], [], (mz_wi (mz_wi (mz_wi (mz_wi D 0 200 13 (D.1 0 200 14)) 0 200 15 q5) 0 200 14 ((D.1 0 200 14) + (1 : Int32))) 0 200 12 (1 : Int32)))) bX12_ahead_247 oX12_ahead_247 rfl ⟨rfl, trivial⟩ ?_
                      cases h
                      exact mz_Go.retv (by decide +kernel) rfl ⟨Nat.le_refl _, Nat.le_refl _⟩ rfl
            · have h := mz_ifn hc8 h
              refine mz_Go.run (gs := [mz_kz 0 0 200]) (st' := (128, [some (.inr (.inr (some (0, 200)))), some (.inl q5)], [], (mz_wi (mz_wi (mz_wi D 0 200 13 (D.1 0 200 14)) 0 200 15 q5) 0 200 15 (0 : Int32)))) bX12_ahead_123 oX12_ahead_123 rfl ⟨rfl, trivial⟩ ?_
              exact mz_Go.drop [true, false] (tX12_ahead_128 r mz_N (mz_wi (mz_wi (mz_wi D 0 200 13 (D.1 0 200 14)) 0 200 15 q5) 0 200 15 (0 : Int32)) h)
          · have h := mz_ifn hc7 h
            exact mz_Go.drop [true, false] (tX12_ahead_81 r mz_N (mz_wi (mz_wi D 0 200 13 (D.1 0 200 14)) 0 200 15 q5) h)
def fX12_ahead (D : mz_D) : Option mz_D := (fX12_ahead_0 mz_N D)
set_option maxHeartbeats 4000000 in
theorem mX12_ahead (D : mz_D) (r : mz_D) (h : fX12_ahead D = some r) : mz_Met IX12_ahead [.inr (.inr (some (0, 200)))] D (none, r) := by
  refine mz_Met.of (by decide +kernel) (Nat.le_of_ble_eq_true rfl) ?_
  show mz_Go IX12_ahead (none, r) 0 0 (0, [some (.inr (.inr (some (0, 200)))), none], [], D)
  rw [fX12_ahead] at h
  exact mz_Go.drop [true, false] (tX12_ahead_0 r mz_N D h)
def bX12_isSign_0 : List mz_E := [(0, .aload_n 0, 0, 0, 0, 0, 0), (1, .getfield 120, 12, 12, 1588, 0, 0), (4, .iconst 4, 0, 0, 0, 4, 0), (5, .if_icmp .ne 15, 0, 20, 0, 0, 0)]
theorem oX12_isSign_0 : bX12_isSign_0.all (mz_ok RX12 cX12_isSign 2) = true := by decide +kernel
def bX12_isSign_8 : List mz_E := [(8, .aload_n 0, 0, 0, 0, 0, 0), (9, .getfield 117, 12, 15, 1591, 0, 0), (12, .iload_n 1, 0, 0, 0, 0, 0), (13, .if_icmp .ne 7, 0, 20, 0, 0, 0)]
theorem oX12_isSign_8 : bX12_isSign_8.all (mz_ok RX12 cX12_isSign 2) = true := by decide +kernel
def bX12_isSign_16 : List mz_E := [(16, .iconst 1, 0, 0, 0, 1, 0), (17, .goto 4, 0, 21, 0, 0, 0)]
theorem oX12_isSign_16 : bX12_isSign_16.all (mz_ok RX12 cX12_isSign 2) = true := by decide +kernel
def bX12_isSign_20 : List mz_E := [(20, .iconst 0, 0, 0, 0, 0, 0)]
theorem oX12_isSign_20 : bX12_isSign_20.all (mz_ok RX12 cX12_isSign 2) = true := by decide +kernel
abbrev IX12_isSign : mz_I := (yX12_isSign, cX12_isSign, 2, (some .boolean), 0, 0, 0, 0)
theorem kX12_isSign : mz_okm IX12_isSign 1839 141 1838 1 = true := by decide +kernel
theorem vX12_isSign : mz_okV IX12_isSign 1838 71 = true := by decide +kernel
def fX12_isSign (x1 : Int32) (D : mz_D) : Int32 := (if (D.1 0 200 12) = (4 : Int32) then (if (D.1 0 200 15) = x1 then (1 : Int32) else (0 : Int32)) else (0 : Int32))
set_option maxHeartbeats 4000000 in
theorem mX12_isSign (x1 : Int32) (D : mz_D) (r : Int32) (h : fX12_isSign x1 D = r) : mz_Met IX12_isSign [.inr (.inr (some (0, 200))), .inl x1] D (some (.inl r), D) := by
  refine mz_Met.of (by decide +kernel) (Nat.le_of_ble_eq_true rfl) ?_
  show mz_Go IX12_isSign (some (.inl r), D) 0 0 (0, [some (.inr (.inr (some (0, 200)))), some (.inl x1)], [], D)
  rw [fX12_isSign] at h
  refine mz_Go.run (gs := [mz_kz 0 0 200]) (st' := (if (D.1 0 200 12) = (4 : Int32) then (8, [some (.inr (.inr (some (0, 200)))), some (.inl x1)], [], D) else (20, [some (.inr (.inr (some (0, 200)))), some (.inl x1)], [], D))) bX12_isSign_0 oX12_isSign_0 rfl ⟨rfl, trivial⟩ ?_
  refine mz_Go.ite (fun hc1 => ?_) (fun hc1 => ?_)
  · have h := mz_ifp hc1 h
    refine mz_Go.run (gs := [mz_kz 0 0 200]) (st' := (if (D.1 0 200 15) = x1 then (16, [some (.inr (.inr (some (0, 200)))), some (.inl x1)], [], D) else (20, [some (.inr (.inr (some (0, 200)))), some (.inl x1)], [], D))) bX12_isSign_8 oX12_isSign_8 rfl ⟨rfl, trivial⟩ ?_
    refine mz_Go.ite (fun hc2 => ?_) (fun hc2 => ?_)
    · have h := mz_ifp hc2 h
      refine mz_Go.run (gs := []) (st' := (21, [some (.inr (.inr (some (0, 200)))), some (.inl x1)], [.inl (1 : Int32)], D)) bX12_isSign_16 oX12_isSign_16 rfl trivial ?_
      subst h
      exact mz_Go.retz (by decide +kernel) rfl ⟨Nat.le_refl _, Nat.le_refl _⟩ (by decide) rfl
    · have h := mz_ifn hc2 h
      refine mz_Go.run (gs := []) (st' := (21, [some (.inr (.inr (some (0, 200)))), some (.inl x1)], [.inl (0 : Int32)], D)) bX12_isSign_20 oX12_isSign_20 rfl trivial ?_
      subst h
      exact mz_Go.retz (by decide +kernel) rfl ⟨Nat.le_refl _, Nat.le_refl _⟩ (by decide) rfl
  · have h := mz_ifn hc1 h
    refine mz_Go.run (gs := []) (st' := (21, [some (.inr (.inr (some (0, 200)))), some (.inl x1)], [.inl (0 : Int32)], D)) bX12_isSign_20 oX12_isSign_20 rfl trivial ?_
    subst h
    exact mz_Go.retz (by decide +kernel) rfl ⟨Nat.le_refl _, Nat.le_refl _⟩ (by decide) rfl
def bX12_fails_0 : List mz_E := [(0, .aload_n 0, 0, 0, 0, 0, 0), (1, .getfield 145, 12, 18, 1594, 0, 0), (4, .ifCond .ne 28, 0, 32, 0, 0, 0)]
theorem oX12_fails_0 : bX12_fails_0.all (mz_ok RX12 cX12_fails 2) = true := by decide +kernel
def bX12_fails_7 : List mz_E := [(7, .aload_n 0, 0, 0, 0, 0, 0), (8, .aload_n 0, 0, 0, 0, 0, 0), (9, .getfield 120, 12, 12, 1588, 0, 0), (12, .iconst 1, 0, 0, 0, 1, 0), (13, .if_icmp .ne 7, 0, 20, 0, 0, 0)]
theorem oX12_fails_7 : bX12_fails_7.all (mz_ok RX12 cX12_fails 2) = true := by decide +kernel
def bX12_fails_16 : List mz_E := [(16, .iconst 1, 0, 0, 0, 1, 0), (17, .goto 4, 0, 21, 0, 0, 0), (21, .putfield 145, 12, 18, 1594, 0, 0), (24, .aload_n 0, 0, 0, 0, 0, 0), (25, .aload_n 0, 0, 0, 0, 0, 0), (26, .getfield 114, 12, 13, 1589, 0, 0), (29, .putfield 41, 12, 17, 1593, 0, 0), (32, .iconst 0, 0, 0, 0, 0, 0)]
theorem oX12_fails_16 : bX12_fails_16.all (mz_ok RX12 cX12_fails 2) = true := by decide +kernel
def bX12_fails_20 : List mz_E := [(20, .iload_n 1, 0, 0, 0, 0, 0), (21, .putfield 145, 12, 18, 1594, 0, 0), (24, .aload_n 0, 0, 0, 0, 0, 0), (25, .aload_n 0, 0, 0, 0, 0, 0), (26, .getfield 114, 12, 13, 1589, 0, 0), (29, .putfield 41, 12, 17, 1593, 0, 0), (32, .iconst 0, 0, 0, 0, 0, 0)]
theorem oX12_fails_20 : bX12_fails_20.all (mz_ok RX12 cX12_fails 2) = true := by decide +kernel
def bX12_fails_32 : List mz_E := [(32, .iconst 0, 0, 0, 0, 0, 0)]
theorem oX12_fails_32 : bX12_fails_32.all (mz_ok RX12 cX12_fails 2) = true := by decide +kernel
abbrev IX12_fails : mz_I := (yX12_fails, cX12_fails, 2, (some .boolean), 0, 0, 0, 0)
theorem kX12_fails : mz_okm IX12_fails 1783 141 1782 1 = true := by decide +kernel
theorem vX12_fails : mz_okV IX12_fails 1782 57 = true := by decide +kernel
def fX12_fails (x1 : Int32) (D : mz_D) : Option (Int32 × mz_D) := (if (D.1 0 200 18) = 0 then (if (D.1 0 200 12) = (1 : Int32) then (some ((0 : Int32), (mz_wi (mz_wi D 0 200 18 (1 : Int32)) 0 200 17 (D.1 0 200 13)))) else (some ((0 : Int32), (mz_wi (mz_wi D 0 200 18 x1) 0 200 17 (D.1 0 200 13))))) else (some ((0 : Int32), D)))
set_option maxHeartbeats 4000000 in
theorem mX12_fails (x1 : Int32) (D : mz_D) (r : (Int32 × mz_D)) (h : fX12_fails x1 D = some r) : mz_Met IX12_fails [.inr (.inr (some (0, 200))), .inl x1] D (some (.inl r.1), r.2) := by
  refine mz_Met.of (by decide +kernel) (Nat.le_of_ble_eq_true rfl) ?_
  show mz_Go IX12_fails (some (.inl r.1), r.2) 0 0 (0, [some (.inr (.inr (some (0, 200)))), some (.inl x1)], [], D)
  rw [fX12_fails] at h
  refine mz_Go.run (gs := [mz_kz 0 0 200]) (st' := (if (D.1 0 200 18) = 0 then (7, [some (.inr (.inr (some (0, 200)))), some (.inl x1)], [], D) else (32, [some (.inr (.inr (some (0, 200)))), some (.inl x1)], [], D))) bX12_fails_0 oX12_fails_0 rfl ⟨rfl, trivial⟩ ?_
  refine mz_Go.ite (fun hc1 => ?_) (fun hc1 => ?_)
  · have h := mz_ifp hc1 h
    refine mz_Go.run (gs := [mz_kz 0 0 200]) (st' := (if (D.1 0 200 12) = (1 : Int32) then (16, [some (.inr (.inr (some (0, 200)))), some (.inl x1)], [.inr (.inr (some (0, 200)))], D) else (20, [some (.inr (.inr (some (0, 200)))), some (.inl x1)], [.inr (.inr (some (0, 200)))], D))) bX12_fails_7 oX12_fails_7 rfl ⟨rfl, trivial⟩ ?_
    refine mz_Go.ite (fun hc2 => ?_) (fun hc2 => ?_)
    · have h := mz_ifp hc2 h
      refine mz_Go.run (gs := [mz_kz 0 0 200, mz_kz 0 0 200, mz_kz 0 0 200]) (st' := (33, [some (.inr (.inr (some (0, 200)))), some (.inl x1)], [.inl (0 : Int32)], (mz_wi (mz_wi D 0 200 18 (1 : Int32)) 0 200 17 (D.1 0 200 13)))) bX12_fails_16 oX12_fails_16 rfl ⟨rfl, rfl, rfl, trivial⟩ ?_
      cases h
      exact mz_Go.retz (by decide +kernel) rfl ⟨Nat.le_refl _, Nat.le_refl _⟩ (by decide) rfl
    · have h := mz_ifn hc2 h
      refine mz_Go.run (gs := [mz_kz 0 0 200, mz_kz 0 0 200, mz_kz 0 0 200]) (st' := (33, [some (.inr (.inr (some (0, 200)))), some (.inl x1)], [.inl (0 : Int32)], (mz_wi (mz_wi D 0 200 18 x1) 0 200 17 (D.1 0 200 13)))) bX12_fails_20 oX12_fails_20 rfl ⟨rfl, rfl, rfl, trivial⟩ ?_
      cases h
      exact mz_Go.retz (by decide +kernel) rfl ⟨Nat.le_refl _, Nat.le_refl _⟩ (by decide) rfl
  · have h := mz_ifn hc1 h
    refine mz_Go.run (gs := []) (st' := (33, [some (.inr (.inr (some (0, 200)))), some (.inl x1)], [.inl (0 : Int32)], D)) bX12_fails_32 oX12_fails_32 rfl trivial ?_
    cases h
    exact mz_Go.retz (by decide +kernel) rfl ⟨Nat.le_refl _, Nat.le_refl _⟩ (by decide) rfl
def bX12_begins_0 : List mz_E := [(0, .iload_n 1, 0, 0, 0, 0, 0), (1, .ifCond .lt 16, 0, 17, 0, 0, 0)]
theorem oX12_begins_0 : bX12_begins_0.all (mz_ok RX12 cX12_begins 4) = true := by decide +kernel
def bX12_begins_17 : List mz_E := [(17, .iconst 0, 0, 0, 0, 0, 0)]
theorem oX12_begins_17 : bX12_begins_17.all (mz_ok RX12 cX12_begins 4) = true := by decide +kernel
def bX12_begins_4 : List mz_E := [(4, .iload_n 1, 0, 0, 0, 0, 0), (5, .aload_n 0, 0, 0, 0, 0, 0), (6, .getfield 99, 12, 10, 1586, 0, 0), (9, .if_icmp .gt 8, 0, 17, 0, 0, 0)]
theorem oX12_begins_4 : bX12_begins_4.all (mz_ok RX12 cX12_begins 4) = true := by decide +kernel
def bX12_begins_12 : List mz_E := [(12, .iload_n 1, 0, 0, 0, 0, 0), (13, .iload_n 2, 0, 0, 0, 0, 0), (14, .if_icmp .le 5, 0, 19, 0, 0, 0)]
theorem oX12_begins_12 : bX12_begins_12.all (mz_ok RX12 cX12_begins 4) = true := by decide +kernel
def bX12_begins_19 : List mz_E := [(19, .aload_n 0, 0, 0, 0, 0, 0), (20, .iload_n 1, 0, 0, 0, 0, 0), (21, .putfield 105, 12, 11, 1587, 0, 0), (24, .iconst 0, 0, 0, 0, 0, 0), (25, .istore_n 3, 0, 0, 0, 0, 0)]
theorem oX12_begins_19 : bX12_begins_19.all (mz_ok RX12 cX12_begins 4) = true := by decide +kernel
def bX12_begins_26 : List mz_E := [(26, .iload_n 3, 0, 0, 0, 0, 0), (27, .iload_n 1, 0, 0, 0, 0, 0), (28, .if_icmp .ge 21, 0, 49, 0, 0, 0)]
theorem oX12_begins_26 : bX12_begins_26.all (mz_ok RX12 cX12_begins 4) = true := by decide +kernel
def bX12_begins_49 : List mz_E := [(49, .aload_n 0, 0, 0, 0, 0, 0), (50, .iconst 0, 0, 0, 0, 0, 0), (51, .putfield 99, 12, 10, 1586, 0, 0), (54, .aload_n 0, 0, 0, 0, 0, 0), (55, .iconst 0, 0, 0, 0, 0, 0), (56, .putfield 145, 12, 18, 1594, 0, 0), (59, .aload_n 0, 0, 0, 0, 0, 0), (60, .iconst (-1), 0, 0, 0, -1, 0), (61, .putfield 41, 12, 17, 1593, 0, 0), (64, .aload_n 0, 0, 0, 0, 0, 0), (65, .iconst 0, 0, 0, 0, 0, 0), (66, .putfield 108, 12, 14, 1590, 0, 0), (69, .aload_n 0, 0, 0, 0, 0, 0), (70, .iconst 0, 0, 0, 0, 0, 0), (71, .putfield 148, 12, 19, 1595, 0, 0), (74, .aload_n 0, 0, 0, 0, 0, 0)]
theorem oX12_begins_49 : bX12_begins_49.all (mz_ok RX12 cX12_begins 4) = true := by decide +kernel
def bX12_begins_78 : List mz_E := [(78, .iconst 1, 0, 0, 0, 1, 0)]
theorem oX12_begins_78 : bX12_begins_78.all (mz_ok RX12 cX12_begins 4) = true := by decide +kernel
def bX12_begins_31 : List mz_E := [(31, .aload_n 0, 0, 0, 0, 0, 0), (32, .getfield 34, 12, 9, 1585, 0, 0), (35, .iload_n 3, 0, 0, 0, 0, 0), (36, .aload_n 0, 0, 0, 0, 0, 0), (37, .getfield 30, 12, 8, 1584, 0, 0), (40, .iload_n 3, 0, 0, 0, 0, 0), (41, .baload, 0, 0, 0, 0, 0), (42, .bastore, 0, 0, 0, 0, 0), (43, .iinc 3 1, 0, 0, 0, 1, 0), (46, .goto (-20), 0, 26, 0, 0, 0)]
theorem oX12_begins_31 : bX12_begins_31.all (mz_ok RX12 cX12_begins 4) = true := by decide +kernel
abbrev IX12_begins : mz_I := (yX12_begins, cX12_begins, 4, (some .boolean), 0, 2, 0, 0)
theorem kX12_begins : mz_okm IX12_begins 1744 141 1743 2 = true := by decide +kernel
theorem vX12_begins : mz_okV IX12_begins 1743 50 = true := by decide +kernel
def fX12_begins_26 : Nat → Int32 → Int32 → mz_D → Option (Int32 × mz_D)
  | 0 => fun _ _ _ => none
  | n + 1 => fun x1 x3 D => (if x1 ≤ x3 then (Option.bind (fX12_ahead (mz_wi (mz_wi (mz_wi (mz_wi (mz_wi D 0 200 10 (0 : Int32)) 0 200 18 (0 : Int32)) 0 200 17 (-1 : Int32)) 0 200 14 (0 : Int32)) 0 200 19 (0 : Int32))) fun q2 => (some ((1 : Int32), q2))) else (mz_gd (mz_ix x3 900) ((fX12_begins_26 n) x1 (x3 + (1 : Int32)) (mz_wi D 0 207 (x3).toNatClampNeg ((D.1 0 206 (x3).toNatClampNeg)).toInt8.toInt32))))
set_option maxHeartbeats 4000000 in
theorem tX12_begins_26 (r : (Int32 × mz_D)) : ∀ (n : Nat) (x1 : Int32) (x3 : Int32) (D : mz_D), fX12_begins_26 n x1 x3 D = some r → mz_Go IX12_begins (some (.inl r.1), r.2) 0 0 (26, [some (.inr (.inr (some (0, 200)))), some (.inl x1), none, some (.inl x3)], [], D) := by
  intro n
  induction n with
  | zero => intro x1 x3 D h; have h : (none : Option (Int32 × mz_D)) = some r := h; cases h
  | succ n ih =>
    intro x1 x3 D h
    rw [fX12_begins_26] at h
    refine mz_Go.run (gs := []) (st' := (if x1 ≤ x3 then (49, [some (.inr (.inr (some (0, 200)))), some (.inl x1), none, some (.inl x3)], [], D) else (31, [some (.inr (.inr (some (0, 200)))), some (.inl x1), none, some (.inl x3)], [], D))) bX12_begins_26 oX12_begins_26 rfl trivial ?_
    refine mz_Go.ite (fun hc1 => ?_) (fun hc1 => ?_)
    · have h := mz_ifp hc1 h
      refine mz_Go.run (gs := [mz_kz 0 0 200, mz_kz 0 0 200, mz_kz 0 0 200, mz_kz 0 0 200, mz_kz 0 0 200]) (st' := (75, [some (.inr (.inr (some (0, 200)))), some (.inl x1), none, some (.inl x3)], [.inr (.inr (some (0, 200)))], (mz_wi (mz_wi (mz_wi (mz_wi (mz_wi D 0 200 10 (0 : Int32)) 0 200 18 (0 : Int32)) 0 200 17 (-1 : Int32)) 0 200 14 (0 : Int32)) 0 200 19 (0 : Int32)))) bX12_begins_49 oX12_begins_49 rfl ⟨rfl, rfl, rfl, rfl, rfl, trivial⟩ ?_
      obtain ⟨q2, hq2, h⟩ := mz_bd_some h
      refine mz_Go.callV (I := IX12_begins) (J := IX12_ahead) (as := []) (ci := 12) (g := 0) (o := 200) (idx := 151) (pl := 1745) (rest := []) (mX12_ahead (mz_wi (mz_wi (mz_wi (mz_wi (mz_wi D 0 200 10 (0 : Int32)) 0 200 18 (0 : Int32)) 0 200 17 (-1 : Int32)) 0 200 14 (0 : Int32)) 0 200 19 (0 : Int32)) q2 hq2) kX12_ahead vX12_ahead (by decide +kernel) (by decide +kernel) (by decide +kernel) rfl rfl ⟨rfl, rfl⟩ rfl rfl rfl rfl ?_
      refine mz_Go.run (gs := []) (st' := (79, [some (.inr (.inr (some (0, 200)))), some (.inl x1), none, some (.inl x3)], [.inl (1 : Int32)], q2)) bX12_begins_78 oX12_begins_78 rfl trivial ?_
      cases h
      exact mz_Go.retz (by decide +kernel) rfl ⟨Nat.le_refl _, Nat.le_refl _⟩ (by decide) rfl
    · have h := mz_ifn hc1 h
      obtain ⟨hb3, h⟩ := mz_gd_some h
      refine mz_Go.run (gs := [mz_kz 0 0 200, mz_kz 0 0 200, mz_kz 0 0 206, mz_ix x3 900, mz_kz 0 0 207, mz_ix x3 900]) (st' := (26, [some (.inr (.inr (some (0, 200)))), some (.inl x1), none, some (.inl (x3 + (1 : Int32)))], [], (mz_wi D 0 207 (x3).toNatClampNeg ((D.1 0 206 (x3).toNatClampNeg)).toInt8.toInt32))) bX12_begins_31 oX12_begins_31 rfl ⟨rfl, rfl, rfl, hb3, rfl, hb3, trivial⟩ ?_
      exact mz_Go.drop [true, true, false, true] (ih x1 (x3 + (1 : Int32)) (mz_wi D 0 207 (x3).toNatClampNeg ((D.1 0 206 (x3).toNatClampNeg)).toInt8.toInt32) h)
def fX12_begins (x1 : Int32) (x2 : Int32) (D : mz_D) : Option (Int32 × mz_D) := (if x1 < 0 then (some ((0 : Int32), D)) else (if (D.1 0 200 10) < x1 then (some ((0 : Int32), D)) else (if x1 ≤ x2 then (fX12_begins_26 mz_N x1 (0 : Int32) (mz_wi D 0 200 11 x1)) else (some ((0 : Int32), D)))))
set_option maxHeartbeats 4000000 in
theorem mX12_begins (x1 : Int32) (x2 : Int32) (D : mz_D) (r : (Int32 × mz_D)) (h : fX12_begins x1 x2 D = some r) : mz_Met IX12_begins [.inr (.inr (some (0, 200))), .inl x1, .inl x2] D (some (.inl r.1), r.2) := by
  refine mz_Met.of (by decide +kernel) (Nat.le_of_ble_eq_true rfl) ?_
  show mz_Go IX12_begins (some (.inl r.1), r.2) 0 0 (0, [some (.inr (.inr (some (0, 200)))), some (.inl x1), some (.inl x2), none], [], D)
  rw [fX12_begins] at h
  refine mz_Go.run (gs := []) (st' := (if x1 < 0 then (17, [some (.inr (.inr (some (0, 200)))), some (.inl x1), some (.inl x2), none], [], D) else (4, [some (.inr (.inr (some (0, 200)))), some (.inl x1), some (.inl x2), none], [], D))) bX12_begins_0 oX12_begins_0 rfl trivial ?_
  refine mz_Go.ite (fun hc1 => ?_) (fun hc1 => ?_)
  · have h := mz_ifp hc1 h
    refine mz_Go.run (gs := []) (st' := (18, [some (.inr (.inr (some (0, 200)))), some (.inl x1), some (.inl x2), none], [.inl (0 : Int32)], D)) bX12_begins_17 oX12_begins_17 rfl trivial ?_
    cases h
    exact mz_Go.retz (by decide +kernel) rfl ⟨Nat.le_refl _, Nat.le_refl _⟩ (by decide) rfl
  · have h := mz_ifn hc1 h
    refine mz_Go.run (gs := [mz_kz 0 0 200]) (st' := (if (D.1 0 200 10) < x1 then (17, [some (.inr (.inr (some (0, 200)))), some (.inl x1), some (.inl x2), none], [], D) else (12, [some (.inr (.inr (some (0, 200)))), some (.inl x1), some (.inl x2), none], [], D))) bX12_begins_4 oX12_begins_4 rfl ⟨rfl, trivial⟩ ?_
    refine mz_Go.ite (fun hc2 => ?_) (fun hc2 => ?_)
    · have h := mz_ifp hc2 h
      refine mz_Go.run (gs := []) (st' := (18, [some (.inr (.inr (some (0, 200)))), some (.inl x1), some (.inl x2), none], [.inl (0 : Int32)], D)) bX12_begins_17 oX12_begins_17 rfl trivial ?_
      cases h
      exact mz_Go.retz (by decide +kernel) rfl ⟨Nat.le_refl _, Nat.le_refl _⟩ (by decide) rfl
    · have h := mz_ifn hc2 h
      refine mz_Go.run (gs := []) (st' := (if x1 ≤ x2 then (19, [some (.inr (.inr (some (0, 200)))), some (.inl x1), some (.inl x2), none], [], D) else (17, [some (.inr (.inr (some (0, 200)))), some (.inl x1), some (.inl x2), none], [], D))) bX12_begins_12 oX12_begins_12 rfl trivial ?_
      refine mz_Go.ite (fun hc3 => ?_) (fun hc3 => ?_)
      · have h := mz_ifp hc3 h
        refine mz_Go.run (gs := [mz_kz 0 0 200]) (st' := (26, [some (.inr (.inr (some (0, 200)))), some (.inl x1), some (.inl x2), some (.inl (0 : Int32))], [], (mz_wi D 0 200 11 x1))) bX12_begins_19 oX12_begins_19 rfl ⟨rfl, trivial⟩ ?_
        exact mz_Go.drop [true, true, false, true] (tX12_begins_26 r mz_N x1 (0 : Int32) (mz_wi D 0 200 11 x1) h)
      · have h := mz_ifn hc3 h
        refine mz_Go.run (gs := []) (st' := (18, [some (.inr (.inr (some (0, 200)))), some (.inl x1), some (.inl x2), none], [.inl (0 : Int32)], D)) bX12_begins_17 oX12_begins_17 rfl trivial ?_
        cases h
        exact mz_Go.retz (by decide +kernel) rfl ⟨Nat.le_refl _, Nat.le_refl _⟩ (by decide) rfl
def bX12_wantSign_0 : List mz_E := [(0, .aload_n 0, 0, 0, 0, 0, 0), (1, .iload_n 1, 0, 0, 0, 0, 0)]
theorem oX12_wantSign_0 : bX12_wantSign_0.all (mz_ok RX12 cX12_wantSign 2) = true := by decide +kernel
def bX12_wantSign_5 : List mz_E := [(5, .ifCond .ne 9, 0, 14, 0, 0, 0)]
theorem oX12_wantSign_5 : bX12_wantSign_5.all (mz_ok RX12 cX12_wantSign 2) = true := by decide +kernel
def bX12_wantSign_8 : List mz_E := [(8, .aload_n 0, 0, 0, 0, 0, 0), (9, .iconst 2, 0, 0, 0, 2, 0)]
theorem oX12_wantSign_8 : bX12_wantSign_8.all (mz_ok RX12 cX12_wantSign 2) = true := by decide +kernel
def bX12_wantSign_14 : List mz_E := [(14, .aload_n 0, 0, 0, 0, 0, 0)]
theorem oX12_wantSign_14 : bX12_wantSign_14.all (mz_ok RX12 cX12_wantSign 2) = true := by decide +kernel
def bX12_wantSign_18 : List mz_E := [(18, .iconst 1, 0, 0, 0, 1, 0)]
theorem oX12_wantSign_18 : bX12_wantSign_18.all (mz_ok RX12 cX12_wantSign 2) = true := by decide +kernel
abbrev IX12_wantSign : mz_I := (yX12_wantSign, cX12_wantSign, 2, (some .boolean), 0, 2, 0, 0)
theorem kX12_wantSign : mz_okm IX12_wantSign 1835 141 1834 1 = true := by decide +kernel
theorem vX12_wantSign : mz_okV IX12_wantSign 1834 70 = true := by decide +kernel
def fX12_wantSign (x1 : Int32) (D : mz_D) : Option (Int32 × mz_D) := (if (fX12_isSign x1 D) = 0 then (Option.bind (fX12_fails (2 : Int32) D) fun q2 => (mz_gd (mz_bo q2.1) (some (q2.1, q2.2)))) else (Option.bind (fX12_ahead D) fun q4 => (some ((1 : Int32), q4))))
set_option maxHeartbeats 4000000 in
theorem mX12_wantSign (x1 : Int32) (D : mz_D) (r : (Int32 × mz_D)) (h : fX12_wantSign x1 D = some r) : mz_Met IX12_wantSign [.inr (.inr (some (0, 200))), .inl x1] D (some (.inl r.1), r.2) := by
  refine mz_Met.of (by decide +kernel) (Nat.le_of_ble_eq_true rfl) ?_
  show mz_Go IX12_wantSign (some (.inl r.1), r.2) 0 0 (0, [some (.inr (.inr (some (0, 200)))), some (.inl x1)], [], D)
  rw [fX12_wantSign] at h
  refine mz_Go.run (gs := []) (st' := (2, [some (.inr (.inr (some (0, 200)))), some (.inl x1)], [.inl x1, .inr (.inr (some (0, 200)))], D)) bX12_wantSign_0 oX12_wantSign_0 rfl trivial ?_
  refine mz_Go.callV (I := IX12_wantSign) (J := IX12_isSign) (as := [.inl x1]) (ci := 12) (g := 0) (o := 200) (idx := 154) (pl := 1836) (rest := []) (mX12_isSign x1 D _ rfl) kX12_isSign vX12_isSign (by decide +kernel) (by decide +kernel) (by decide +kernel) rfl rfl ⟨rfl, rfl⟩ rfl rfl rfl rfl ?_
  refine mz_Go.run (gs := []) (st' := (if (fX12_isSign x1 D) = 0 then (8, [some (.inr (.inr (some (0, 200)))), some (.inl x1)], [], D) else (14, [some (.inr (.inr (some (0, 200)))), some (.inl x1)], [], D))) bX12_wantSign_5 oX12_wantSign_5 rfl trivial ?_
  refine mz_Go.ite (fun hc1 => ?_) (fun hc1 => ?_)
  · have h := mz_ifp hc1 h
    refine mz_Go.run (gs := []) (st' := (10, [some (.inr (.inr (some (0, 200)))), some (.inl x1)], [.inl (2 : Int32), .inr (.inr (some (0, 200)))], D)) bX12_wantSign_8 oX12_wantSign_8 rfl trivial ?_
    obtain ⟨q2, hq2, h⟩ := mz_bd_some h
    refine mz_Go.callV (I := IX12_wantSign) (J := IX12_fails) (as := [.inl (2 : Int32)]) (ci := 12) (g := 0) (o := 200) (idx := 157) (pl := 1780) (rest := []) (mX12_fails (2 : Int32) D q2 hq2) kX12_fails vX12_fails (by decide +kernel) (by decide +kernel) (by decide +kernel) rfl rfl ⟨rfl, rfl⟩ rfl rfl rfl rfl ?_
    obtain ⟨hb3, h⟩ := mz_gd_some h
    cases h
    exact mz_Go.retz (by decide +kernel) rfl ⟨Nat.le_refl _, Nat.le_refl _⟩ hb3 rfl
  · have h := mz_ifn hc1 h
    refine mz_Go.run (gs := []) (st' := (15, [some (.inr (.inr (some (0, 200)))), some (.inl x1)], [.inr (.inr (some (0, 200)))], D)) bX12_wantSign_14 oX12_wantSign_14 rfl trivial ?_
    obtain ⟨q4, hq4, h⟩ := mz_bd_some h
    refine mz_Go.callV (I := IX12_wantSign) (J := IX12_ahead) (as := []) (ci := 12) (g := 0) (o := 200) (idx := 151) (pl := 1745) (rest := []) (mX12_ahead D q4 hq4) kX12_ahead vX12_ahead (by decide +kernel) (by decide +kernel) (by decide +kernel) rfl rfl ⟨rfl, rfl⟩ rfl rfl rfl rfl ?_
    refine mz_Go.run (gs := []) (st' := (19, [some (.inr (.inr (some (0, 200)))), some (.inl x1)], [.inl (1 : Int32)], q4)) bX12_wantSign_18 oX12_wantSign_18 rfl trivial ?_
    cases h
    exact mz_Go.retz (by decide +kernel) rfl ⟨Nat.le_refl _, Nat.le_refl _⟩ (by decide) rfl
def bX12_number_0 : List mz_E := [(0, .aload_n 0, 0, 0, 0, 0, 0), (1, .getfield 120, 12, 12, 1588, 0, 0), (4, .iconst 3, 0, 0, 0, 3, 0), (5, .if_icmp .eq 9, 0, 14, 0, 0, 0)]
theorem oX12_number_0 : bX12_number_0.all (mz_ok RX12 cX12_number 4) = true := by decide +kernel
def bX12_number_14 : List mz_E := [(14, .aload_n 0, 0, 0, 0, 0, 0), (15, .getfield 117, 12, 15, 1591, 0, 0), (18, .iload_n 2, 0, 0, 0, 0, 0), (19, .if_icmp .lt 11, 0, 30, 0, 0, 0)]
theorem oX12_number_14 : bX12_number_14.all (mz_ok RX12 cX12_number 4) = true := by decide +kernel
def bX12_number_30 : List mz_E := [(30, .aload_n 0, 0, 0, 0, 0, 0), (31, .iconst 4, 0, 0, 0, 4, 0)]
theorem oX12_number_30 : bX12_number_30.all (mz_ok RX12 cX12_number 4) = true := by decide +kernel
def bX12_number_22 : List mz_E := [(22, .aload_n 0, 0, 0, 0, 0, 0), (23, .getfield 117, 12, 15, 1591, 0, 0), (26, .iload_n 3, 0, 0, 0, 0, 0), (27, .if_icmp .le 9, 0, 36, 0, 0, 0)]
theorem oX12_number_22 : bX12_number_22.all (mz_ok RX12 cX12_number 4) = true := by decide +kernel
def bX12_number_36 : List mz_E := [(36, .aload_n 0, 0, 0, 0, 0, 0), (37, .getfield 7, 12, 0, 1576, 0, 0), (40, .iload_n 1, 0, 0, 0, 0, 0), (41, .aload_n 0, 0, 0, 0, 0, 0), (42, .getfield 117, 12, 15, 1591, 0, 0), (45, .iastore, 0, 0, 0, 0, 0), (46, .aload_n 0, 0, 0, 0, 0, 0)]
theorem oX12_number_36 : bX12_number_36.all (mz_ok RX12 cX12_number 4) = true := by decide +kernel
def bX12_number_50 : List mz_E := [(50, .iconst 1, 0, 0, 0, 1, 0)]
theorem oX12_number_50 : bX12_number_50.all (mz_ok RX12 cX12_number 4) = true := by decide +kernel
def bX12_number_8 : List mz_E := [(8, .aload_n 0, 0, 0, 0, 0, 0), (9, .iconst 2, 0, 0, 0, 2, 0)]
theorem oX12_number_8 : bX12_number_8.all (mz_ok RX12 cX12_number 4) = true := by decide +kernel
abbrev IX12_number : mz_I := (yX12_number, cX12_number, 4, (some .boolean), 0, 2, 0, 0)
theorem kX12_number : mz_okm IX12_number 1803 141 1802 3 = true := by decide +kernel
theorem vX12_number : mz_okV IX12_number 1802 62 = true := by decide +kernel
def fX12_number_30 (D : mz_D) : Option (Int32 × mz_D) := (Option.bind (fX12_fails (4 : Int32) D) fun q1 => (mz_gd (mz_bo q1.1) (some (q1.1, q1.2))))
set_option maxHeartbeats 4000000 in
theorem tX12_number_30 (r : (Int32 × mz_D)) : ∀ (D : mz_D), fX12_number_30 D = some r → mz_Go IX12_number (some (.inl r.1), r.2) 0 0 (30, [some (.inr (.inr (some (0, 200)))), none, none, none], [], D) := by
  intro D h
  rw [fX12_number_30] at h
  refine mz_Go.run (gs := []) (st' := (32, [some (.inr (.inr (some (0, 200)))), none, none, none], [.inl (4 : Int32), .inr (.inr (some (0, 200)))], D)) bX12_number_30 oX12_number_30 rfl trivial ?_
  obtain ⟨q1, hq1, h⟩ := mz_bd_some h
  refine mz_Go.callV (I := IX12_number) (J := IX12_fails) (as := [.inl (4 : Int32)]) (ci := 12) (g := 0) (o := 200) (idx := 157) (pl := 1780) (rest := []) (mX12_fails (4 : Int32) D q1 hq1) kX12_fails vX12_fails (by decide +kernel) (by decide +kernel) (by decide +kernel) rfl rfl ⟨rfl, rfl⟩ rfl rfl rfl rfl ?_
  obtain ⟨hb2, h⟩ := mz_gd_some h
  cases h
  exact mz_Go.retz (by decide +kernel) rfl ⟨Nat.le_refl _, Nat.le_refl _⟩ hb2 rfl
def fX12_number (x1 : Int32) (x2 : Int32) (x3 : Int32) (D : mz_D) : Option (Int32 × mz_D) := (if (D.1 0 200 12) = (3 : Int32) then (if (D.1 0 200 15) < x2 then (fX12_number_30 D) else (if (D.1 0 200 15) ≤ x3 then (mz_gd (mz_ix x1 3000) (Option.bind (fX12_ahead (mz_wi D 0 201 (x1).toNatClampNeg (D.1 0 200 15))) fun q5 => (some ((1 : Int32), q5)))) else (fX12_number_30 D))) else (Option.bind (fX12_fails (2 : Int32) D) fun q6 => (mz_gd (mz_bo q6.1) (some (q6.1, q6.2)))))
set_option maxHeartbeats 4000000 in
theorem mX12_number (x1 : Int32) (x2 : Int32) (x3 : Int32) (D : mz_D) (r : (Int32 × mz_D)) (h : fX12_number x1 x2 x3 D = some r) : mz_Met IX12_number [.inr (.inr (some (0, 200))), .inl x1, .inl x2, .inl x3] D (some (.inl r.1), r.2) := by
  refine mz_Met.of (by decide +kernel) (Nat.le_of_ble_eq_true rfl) ?_
  show mz_Go IX12_number (some (.inl r.1), r.2) 0 0 (0, [some (.inr (.inr (some (0, 200)))), some (.inl x1), some (.inl x2), some (.inl x3)], [], D)
  rw [fX12_number] at h
  refine mz_Go.run (gs := [mz_kz 0 0 200]) (st' := (if (D.1 0 200 12) = (3 : Int32) then (14, [some (.inr (.inr (some (0, 200)))), some (.inl x1), some (.inl x2), some (.inl x3)], [], D) else (8, [some (.inr (.inr (some (0, 200)))), some (.inl x1), some (.inl x2), some (.inl x3)], [], D))) bX12_number_0 oX12_number_0 rfl ⟨rfl, trivial⟩ ?_
  refine mz_Go.ite (fun hc1 => ?_) (fun hc1 => ?_)
  · have h := mz_ifp hc1 h
    refine mz_Go.run (gs := [mz_kz 0 0 200]) (st' := (if (D.1 0 200 15) < x2 then (30, [some (.inr (.inr (some (0, 200)))), some (.inl x1), some (.inl x2), some (.inl x3)], [], D) else (22, [some (.inr (.inr (some (0, 200)))), some (.inl x1), some (.inl x2), some (.inl x3)], [], D))) bX12_number_14 oX12_number_14 rfl ⟨rfl, trivial⟩ ?_
    refine mz_Go.ite (fun hc2 => ?_) (fun hc2 => ?_)
    · have h := mz_ifp hc2 h
      exact mz_Go.drop [true, false, false, false] (tX12_number_30 r D h)
    · have h := mz_ifn hc2 h
      refine mz_Go.run (gs := [mz_kz 0 0 200]) (st' := (if (D.1 0 200 15) ≤ x3 then (36, [some (.inr (.inr (some (0, 200)))), some (.inl x1), some (.inl x2), some (.inl x3)], [], D) else (30, [some (.inr (.inr (some (0, 200)))), some (.inl x1), some (.inl x2), some (.inl x3)], [], D))) bX12_number_22 oX12_number_22 rfl ⟨rfl, trivial⟩ ?_
      refine mz_Go.ite (fun hc3 => ?_) (fun hc3 => ?_)
      · have h := mz_ifp hc3 h
        obtain ⟨hb4, h⟩ := mz_gd_some h
        refine mz_Go.run (gs := [mz_kz 0 0 200, mz_kz 0 0 200, mz_kz 0 0 201, mz_ix x1 3000]) (st' := (47, [some (.inr (.inr (some (0, 200)))), some (.inl x1), some (.inl x2), some (.inl x3)], [.inr (.inr (some (0, 200)))], (mz_wi D 0 201 (x1).toNatClampNeg (D.1 0 200 15)))) bX12_number_36 oX12_number_36 rfl ⟨rfl, rfl, rfl, hb4, trivial⟩ ?_
        obtain ⟨q5, hq5, h⟩ := mz_bd_some h
        refine mz_Go.callV (I := IX12_number) (J := IX12_ahead) (as := []) (ci := 12) (g := 0) (o := 200) (idx := 151) (pl := 1745) (rest := []) (mX12_ahead (mz_wi D 0 201 (x1).toNatClampNeg (D.1 0 200 15)) q5 hq5) kX12_ahead vX12_ahead (by decide +kernel) (by decide +kernel) (by decide +kernel) rfl rfl ⟨rfl, rfl⟩ rfl rfl rfl rfl ?_
        refine mz_Go.run (gs := []) (st' := (51, [some (.inr (.inr (some (0, 200)))), some (.inl x1), some (.inl x2), some (.inl x3)], [.inl (1 : Int32)], q5)) bX12_number_50 oX12_number_50 rfl trivial ?_
        cases h
        exact mz_Go.retz (by decide +kernel) rfl ⟨Nat.le_refl _, Nat.le_refl _⟩ (by decide) rfl
      · have h := mz_ifn hc3 h
        exact mz_Go.drop [true, false, false, false] (tX12_number_30 r D h)
  · have h := mz_ifn hc1 h
    refine mz_Go.run (gs := []) (st' := (10, [some (.inr (.inr (some (0, 200)))), some (.inl x1), some (.inl x2), some (.inl x3)], [.inl (2 : Int32), .inr (.inr (some (0, 200)))], D)) bX12_number_8 oX12_number_8 rfl trivial ?_
    obtain ⟨q6, hq6, h⟩ := mz_bd_some h
    refine mz_Go.callV (I := IX12_number) (J := IX12_fails) (as := [.inl (2 : Int32)]) (ci := 12) (g := 0) (o := 200) (idx := 157) (pl := 1780) (rest := []) (mX12_fails (2 : Int32) D q6 hq6) kX12_fails vX12_fails (by decide +kernel) (by decide +kernel) (by decide +kernel) rfl rfl ⟨rfl, rfl⟩ rfl rfl rfl rfl ?_
    obtain ⟨hb7, h⟩ := mz_gd_some h
    cases h
    exact mz_Go.retz (by decide +kernel) rfl ⟨Nat.le_refl _, Nat.le_refl _⟩ hb7 rfl
def bX12_nameHere_0 : List mz_E := [(0, .lconst 0, 0, 0, 0, 0, 0), (1, .lstore_n 1, 0, 0, 0, 0, 0), (2, .aload_n 0, 0, 0, 0, 0, 0), (3, .getfield 114, 12, 13, 1589, 0, 0), (6, .istore_n 3, 0, 0, 0, 0, 0)]
theorem oX12_nameHere_0 : bX12_nameHere_0.all (mz_ok RX12 cX12_nameHere 4) = true := by decide +kernel
def bX12_nameHere_7 : List mz_E := [(7, .iload_n 3, 0, 0, 0, 0, 0), (8, .aload_n 0, 0, 0, 0, 0, 0), (9, .getfield 108, 12, 14, 1590, 0, 0), (12, .if_icmp .ge 21, 0, 33, 0, 0, 0)]
theorem oX12_nameHere_7 : bX12_nameHere_7.all (mz_ok RX12 cX12_nameHere 4) = true := by decide +kernel
def bX12_nameHere_33 : List mz_E := [(33, .lload_n 1, 0, 0, 0, 0, 0)]
theorem oX12_nameHere_33 : bX12_nameHere_33.all (mz_ok RX12 cX12_nameHere 4) = true := by decide +kernel
def bX12_nameHere_15 : List mz_E := [(15, .lload_n 1, 0, 0, 0, 0, 0), (16, .bipush 8, 0, 0, 0, 8, 0), (18, .lshl, 0, 0, 0, 0, 0), (19, .aload_n 0, 0, 0, 0, 0, 0), (20, .iload_n 3, 0, 0, 0, 0, 0)]
theorem oX12_nameHere_15 : bX12_nameHere_15.all (mz_ok RX12 cX12_nameHere 4) = true := by decide +kernel
def bX12_nameHere_24 : List mz_E := [(24, .i2l, 0, 0, 0, 0, 0), (25, .lor, 0, 0, 0, 0, 0), (26, .lstore_n 1, 0, 0, 0, 0, 0), (27, .iinc 3 1, 0, 0, 0, 1, 0), (30, .goto (-23), 0, 7, 0, 0, 0)]
theorem oX12_nameHere_24 : bX12_nameHere_24.all (mz_ok RX12 cX12_nameHere 4) = true := by decide +kernel
abbrev IX12_nameHere : mz_I := (yX12_nameHere, cX12_nameHere, 4, (some .long), 0, 1, 0, 0)
theorem kX12_nameHere : mz_okm IX12_nameHere 1795 141 1794 0 = true := by decide +kernel
theorem vX12_nameHere : mz_okV IX12_nameHere 1794 60 = true := by decide +kernel
def fX12_nameHere_7 (D : mz_D) : Nat → Int64 → Int32 → Option Int64
  | 0 => fun _ _ => none
  | n + 1 => fun y1 x3 => (if (D.1 0 200 14) ≤ x3 then (some y1) else (Option.bind (fX12_byteAt x3 D) fun q2 => ((fX12_nameHere_7 D n) ((y1 <<< (((8 : Int32)).toInt64 &&& 63)) ||| (q2).toInt64) (x3 + (1 : Int32)))))
set_option maxHeartbeats 4000000 in
theorem tX12_nameHere_7 (D : mz_D) (r : Int64) : ∀ (n : Nat) (y1 : Int64) (x3 : Int32), fX12_nameHere_7 D n y1 x3 = some r → mz_Go IX12_nameHere (some (.inr (.inl r)), D) 0 0 (7, [some (.inr (.inr (some (0, 200)))), some (.inr (.inl y1)), none, some (.inl x3)], [], D) := by
  intro n
  induction n with
  | zero => intro y1 x3 h; have h : (none : Option Int64) = some r := h; cases h
  | succ n ih =>
    intro y1 x3 h
    rw [fX12_nameHere_7] at h
    refine mz_Go.run (gs := [mz_kz 0 0 200]) (st' := (if (D.1 0 200 14) ≤ x3 then (33, [some (.inr (.inr (some (0, 200)))), some (.inr (.inl y1)), none, some (.inl x3)], [], D) else (15, [some (.inr (.inr (some (0, 200)))), some (.inr (.inl y1)), none, some (.inl x3)], [], D))) bX12_nameHere_7 oX12_nameHere_7 rfl ⟨rfl, trivial⟩ ?_
    refine mz_Go.ite (fun hc1 => ?_) (fun hc1 => ?_)
    · have h := mz_ifp hc1 h
      refine mz_Go.run (gs := []) (st' := (34, [some (.inr (.inr (some (0, 200)))), some (.inr (.inl y1)), none, some (.inl x3)], [.inr (.inl y1)], D)) bX12_nameHere_33 oX12_nameHere_33 rfl trivial ?_
      cases h
      exact mz_Go.retl (by decide +kernel) rfl ⟨Nat.le_refl _, Nat.le_refl _⟩ rfl
    · have h := mz_ifn hc1 h
      refine mz_Go.run (gs := []) (st' := (21, [some (.inr (.inr (some (0, 200)))), some (.inr (.inl y1)), none, some (.inl x3)], [.inl x3, .inr (.inr (some (0, 200))), .inr (.inl (y1 <<< (((8 : Int32)).toInt64 &&& 63)))], D)) bX12_nameHere_15 oX12_nameHere_15 rfl trivial ?_
      obtain ⟨q2, hq2, h⟩ := mz_bd_some h
      refine mz_Go.callV (I := IX12_nameHere) (J := IX12_byteAt) (as := [.inl x3]) (ci := 12) (g := 0) (o := 200) (idx := 111) (pl := 1749) (rest := [.inr (.inl (y1 <<< (((8 : Int32)).toInt64 &&& 63)))]) (mX12_byteAt x3 D q2 hq2) kX12_byteAt vX12_byteAt (by decide +kernel) (by decide +kernel) (by decide +kernel) rfl rfl ⟨rfl, rfl⟩ rfl rfl rfl rfl ?_
      refine mz_Go.run (gs := []) (st' := (7, [some (.inr (.inr (some (0, 200)))), some (.inr (.inl ((y1 <<< (((8 : Int32)).toInt64 &&& 63)) ||| (q2).toInt64))), none, some (.inl (x3 + (1 : Int32)))], [], D)) bX12_nameHere_24 oX12_nameHere_24 rfl trivial ?_
      exact mz_Go.drop [true, true, false, true] (ih ((y1 <<< (((8 : Int32)).toInt64 &&& 63)) ||| (q2).toInt64) (x3 + (1 : Int32)) h)
def fX12_nameHere (D : mz_D) : Option Int64 := (fX12_nameHere_7 D mz_N (0 : Int64) (D.1 0 200 13))
set_option maxHeartbeats 4000000 in
theorem mX12_nameHere (D : mz_D) (r : Int64) (h : fX12_nameHere D = some r) : mz_Met IX12_nameHere [.inr (.inr (some (0, 200)))] D (some (.inr (.inl r)), D) := by
  refine mz_Met.of (by decide +kernel) (Nat.le_of_ble_eq_true rfl) ?_
  show mz_Go IX12_nameHere (some (.inr (.inl r)), D) 0 0 (0, [some (.inr (.inr (some (0, 200)))), none, none, none], [], D)
  rw [fX12_nameHere] at h
  refine mz_Go.run (gs := [mz_kz 0 0 200]) (st' := (7, [some (.inr (.inr (some (0, 200)))), some (.inr (.inl (0 : Int64))), none, some (.inl (D.1 0 200 13))], [], D)) bX12_nameHere_0 oX12_nameHere_0 rfl ⟨rfl, trivial⟩ ?_
  exact mz_Go.drop [true, true, false, true] (tX12_nameHere_7 D r mz_N (0 : Int64) (D.1 0 200 13) h)
def bX12_findHere_0 : List mz_E := [(0, .iconst 0, 0, 0, 0, 0, 0), (1, .istore_n 3, 0, 0, 0, 0, 0)]
theorem oX12_findHere_0 : bX12_findHere_0.all (mz_ok RX12 cX12_findHere 4) = true := by decide +kernel
def bX12_findHere_2 : List mz_E := [(2, .iload_n 3, 0, 0, 0, 0, 0), (3, .iload_n 2, 0, 0, 0, 0, 0), (4, .if_icmp .ge 27, 0, 31, 0, 0, 0)]
theorem oX12_findHere_2 : bX12_findHere_2.all (mz_ok RX12 cX12_findHere 4) = true := by decide +kernel
def bX12_findHere_31 : List mz_E := [(31, .iconst (-1), 0, 0, 0, -1, 0)]
theorem oX12_findHere_31 : bX12_findHere_31.all (mz_ok RX12 cX12_findHere 4) = true := by decide +kernel
def bX12_findHere_7 : List mz_E := [(7, .aload_n 0, 0, 0, 0, 0, 0), (8, .getfield 13, 12, 1, 1577, 0, 0), (11, .iload_n 1, 0, 0, 0, 0, 0), (12, .iload_n 3, 0, 0, 0, 0, 0), (13, .iadd, 0, 0, 0, 0, 0), (14, .laload, 0, 0, 0, 0, 0), (15, .aload_n 0, 0, 0, 0, 0, 0)]
theorem oX12_findHere_7 : bX12_findHere_7.all (mz_ok RX12 cX12_findHere 4) = true := by decide +kernel
def bX12_findHere_19 : List mz_E := [(19, .lcmp, 0, 0, 0, 0, 0), (20, .ifCond .ne 5, 0, 25, 0, 0, 0)]
theorem oX12_findHere_19 : bX12_findHere_19.all (mz_ok RX12 cX12_findHere 4) = true := by decide +kernel
def bX12_findHere_23 : List mz_E := [(23, .iload_n 3, 0, 0, 0, 0, 0)]
theorem oX12_findHere_23 : bX12_findHere_23.all (mz_ok RX12 cX12_findHere 4) = true := by decide +kernel
def bX12_findHere_25 : List mz_E := [(25, .iinc 3 1, 0, 0, 0, 1, 0), (28, .goto (-26), 0, 2, 0, 0, 0)]
theorem oX12_findHere_25 : bX12_findHere_25.all (mz_ok RX12 cX12_findHere 4) = true := by decide +kernel
abbrev IX12_findHere : mz_I := (yX12_findHere, cX12_findHere, 4, (some .int), 0, 2, 0, 0)
theorem kX12_findHere : mz_okm IX12_findHere 1791 141 1790 2 = true := by decide +kernel
theorem vX12_findHere : mz_okV IX12_findHere 1790 59 = true := by decide +kernel
def fX12_findHere_2 (D : mz_D) : Nat → Int32 → Int32 → Int32 → Option Int32
  | 0 => fun _ _ _ => none
  | n + 1 => fun x1 x2 x3 => (if x2 ≤ x3 then (some (-1 : Int32)) else (mz_gd (mz_ix (x1 + x3) 36) (Option.bind (fX12_nameHere D) fun q3 => (if (lg_cmp (D.2 0 202 ((x1 + x3)).toNatClampNeg) q3) = 0 then (some x3) else ((fX12_findHere_2 D n) x1 x2 (x3 + (1 : Int32)))))))
set_option maxHeartbeats 4000000 in
theorem tX12_findHere_2 (D : mz_D) (r : Int32) : ∀ (n : Nat) (x1 : Int32) (x2 : Int32) (x3 : Int32), fX12_findHere_2 D n x1 x2 x3 = some r → mz_Go IX12_findHere (some (.inl r), D) 0 0 (2, [some (.inr (.inr (some (0, 200)))), some (.inl x1), some (.inl x2), some (.inl x3)], [], D) := by
  intro n
  induction n with
  | zero => intro x1 x2 x3 h; have h : (none : Option Int32) = some r := h; cases h
  | succ n ih =>
    intro x1 x2 x3 h
    rw [fX12_findHere_2] at h
    refine mz_Go.run (gs := []) (st' := (if x2 ≤ x3 then (31, [some (.inr (.inr (some (0, 200)))), some (.inl x1), some (.inl x2), some (.inl x3)], [], D) else (7, [some (.inr (.inr (some (0, 200)))), some (.inl x1), some (.inl x2), some (.inl x3)], [], D))) bX12_findHere_2 oX12_findHere_2 rfl trivial ?_
    refine mz_Go.ite (fun hc1 => ?_) (fun hc1 => ?_)
    · have h := mz_ifp hc1 h
      refine mz_Go.run (gs := []) (st' := (32, [some (.inr (.inr (some (0, 200)))), some (.inl x1), some (.inl x2), some (.inl x3)], [.inl (-1 : Int32)], D)) bX12_findHere_31 oX12_findHere_31 rfl trivial ?_
      cases h
      exact mz_Go.reti (by decide +kernel) rfl ⟨Nat.le_refl _, Nat.le_refl _⟩ rfl
    · have h := mz_ifn hc1 h
      obtain ⟨hb2, h⟩ := mz_gd_some h
      refine mz_Go.run (gs := [mz_kz 0 0 200, mz_kz 0 0 202, mz_ix (x1 + x3) 36]) (st' := (16, [some (.inr (.inr (some (0, 200)))), some (.inl x1), some (.inl x2), some (.inl x3)], [.inr (.inr (some (0, 200))), .inr (.inl (D.2 0 202 ((x1 + x3)).toNatClampNeg))], D)) bX12_findHere_7 oX12_findHere_7 rfl ⟨rfl, rfl, hb2, trivial⟩ ?_
      obtain ⟨q3, hq3, h⟩ := mz_bd_some h
      refine mz_Go.callV (I := IX12_findHere) (J := IX12_nameHere) (as := []) (ci := 12) (g := 0) (o := 200) (idx := 164) (pl := 1792) (rest := [.inr (.inl (D.2 0 202 ((x1 + x3)).toNatClampNeg))]) (mX12_nameHere D q3 hq3) kX12_nameHere vX12_nameHere (by decide +kernel) (by decide +kernel) (by decide +kernel) rfl rfl ⟨rfl, rfl⟩ rfl rfl rfl rfl ?_
      refine mz_Go.run (gs := []) (st' := (if (lg_cmp (D.2 0 202 ((x1 + x3)).toNatClampNeg) q3) = 0 then (23, [some (.inr (.inr (some (0, 200)))), some (.inl x1), some (.inl x2), some (.inl x3)], [], D) else (25, [some (.inr (.inr (some (0, 200)))), some (.inl x1), some (.inl x2), some (.inl x3)], [], D))) bX12_findHere_19 oX12_findHere_19 rfl trivial ?_
      refine mz_Go.ite (fun hc4 => ?_) (fun hc4 => ?_)
      · have h := mz_ifp hc4 h
        refine mz_Go.run (gs := []) (st' := (24, [some (.inr (.inr (some (0, 200)))), some (.inl x1), some (.inl x2), some (.inl x3)], [.inl x3], D)) bX12_findHere_23 oX12_findHere_23 rfl trivial ?_
        cases h
        exact mz_Go.reti (by decide +kernel) rfl ⟨Nat.le_refl _, Nat.le_refl _⟩ rfl
      · have h := mz_ifn hc4 h
        refine mz_Go.run (gs := []) (st' := (2, [some (.inr (.inr (some (0, 200)))), some (.inl x1), some (.inl x2), some (.inl (x3 + (1 : Int32)))], [], D)) bX12_findHere_25 oX12_findHere_25 rfl trivial ?_
        exact mz_Go.drop [true, true, true, true] (ih x1 x2 (x3 + (1 : Int32)) h)
def fX12_findHere (x1 : Int32) (x2 : Int32) (D : mz_D) : Option Int32 := (fX12_findHere_2 D mz_N x1 x2 (0 : Int32))
set_option maxHeartbeats 4000000 in
theorem mX12_findHere (x1 : Int32) (x2 : Int32) (D : mz_D) (r : Int32) (h : fX12_findHere x1 x2 D = some r) : mz_Met IX12_findHere [.inr (.inr (some (0, 200))), .inl x1, .inl x2] D (some (.inl r), D) := by
  refine mz_Met.of (by decide +kernel) (Nat.le_of_ble_eq_true rfl) ?_
  show mz_Go IX12_findHere (some (.inl r), D) 0 0 (0, [some (.inr (.inr (some (0, 200)))), some (.inl x1), some (.inl x2), none], [], D)
  rw [fX12_findHere] at h
  refine mz_Go.run (gs := []) (st' := (2, [some (.inr (.inr (some (0, 200)))), some (.inl x1), some (.inl x2), some (.inl (0 : Int32))], [], D)) bX12_findHere_0 oX12_findHere_0 rfl trivial ?_
  exact mz_Go.drop [true, true, true, true] (tX12_findHere_2 D r mz_N x1 x2 (0 : Int32) h)
def bX12_fault_0 : List mz_E := [(0, .iload_n 1, 0, 0, 0, 0, 0), (1, .ifCond .ne 10, 0, 11, 0, 0, 0)]
theorem oX12_fault_0 : bX12_fault_0.all (mz_ok RX12 cX12_fault 2) = true := by decide +kernel
def bX12_fault_4 : List mz_E := [(4, .aload_n 0, 0, 0, 0, 0, 0), (5, .getfield 37, 12, 16, 1592, 0, 0), (8, .goto 16, 0, 24, 0, 0, 0)]
theorem oX12_fault_4 : bX12_fault_4.all (mz_ok RX12 cX12_fault 2) = true := by decide +kernel
def bX12_fault_11 : List mz_E := [(11, .iload_n 1, 0, 0, 0, 0, 0), (12, .iconst 1, 0, 0, 0, 1, 0), (13, .if_icmp .ne 10, 0, 23, 0, 0, 0)]
theorem oX12_fault_11 : bX12_fault_11.all (mz_ok RX12 cX12_fault 2) = true := by decide +kernel
def bX12_fault_16 : List mz_E := [(16, .aload_n 0, 0, 0, 0, 0, 0), (17, .getfield 41, 12, 17, 1593, 0, 0), (20, .goto 4, 0, 24, 0, 0, 0)]
theorem oX12_fault_16 : bX12_fault_16.all (mz_ok RX12 cX12_fault 2) = true := by decide +kernel
def bX12_fault_23 : List mz_E := [(23, .iconst (-1), 0, 0, 0, -1, 0)]
theorem oX12_fault_23 : bX12_fault_23.all (mz_ok RX12 cX12_fault 2) = true := by decide +kernel
abbrev IX12_fault : mz_I := (yX12_fault, cX12_fault, 2, (some .int), 0, 0, 0, 0)
theorem kX12_fault : mz_okm IX12_fault 1736 141 1734 1 = true := by decide +kernel
theorem vX12_fault : mz_okV IX12_fault 1734 1735 = true := by decide +kernel
def fX12_fault (x1 : Int32) (D : mz_D) : Int32 := (if x1 = 0 then (D.1 0 200 16) else (if x1 = (1 : Int32) then (D.1 0 200 17) else (-1 : Int32)))
set_option maxHeartbeats 4000000 in
theorem mX12_fault (x1 : Int32) (D : mz_D) (r : Int32) (h : fX12_fault x1 D = r) : mz_Met IX12_fault [.inr (.inr (some (0, 200))), .inl x1] D (some (.inl r), D) := by
  refine mz_Met.of (by decide +kernel) (Nat.le_of_ble_eq_true rfl) ?_
  show mz_Go IX12_fault (some (.inl r), D) 0 0 (0, [some (.inr (.inr (some (0, 200)))), some (.inl x1)], [], D)
  rw [fX12_fault] at h
  refine mz_Go.run (gs := []) (st' := (if x1 = 0 then (4, [some (.inr (.inr (some (0, 200)))), some (.inl x1)], [], D) else (11, [some (.inr (.inr (some (0, 200)))), some (.inl x1)], [], D))) bX12_fault_0 oX12_fault_0 rfl trivial ?_
  refine mz_Go.ite (fun hc1 => ?_) (fun hc1 => ?_)
  · have h := mz_ifp hc1 h
    refine mz_Go.run (gs := [mz_kz 0 0 200]) (st' := (24, [some (.inr (.inr (some (0, 200)))), some (.inl x1)], [.inl (D.1 0 200 16)], D)) bX12_fault_4 oX12_fault_4 rfl ⟨rfl, trivial⟩ ?_
    subst h
    exact mz_Go.reti (by decide +kernel) rfl ⟨Nat.le_refl _, Nat.le_refl _⟩ rfl
  · have h := mz_ifn hc1 h
    refine mz_Go.run (gs := []) (st' := (if x1 = (1 : Int32) then (16, [some (.inr (.inr (some (0, 200)))), some (.inl x1)], [], D) else (23, [some (.inr (.inr (some (0, 200)))), some (.inl x1)], [], D))) bX12_fault_11 oX12_fault_11 rfl trivial ?_
    refine mz_Go.ite (fun hc2 => ?_) (fun hc2 => ?_)
    · have h := mz_ifp hc2 h
      refine mz_Go.run (gs := [mz_kz 0 0 200]) (st' := (24, [some (.inr (.inr (some (0, 200)))), some (.inl x1)], [.inl (D.1 0 200 17)], D)) bX12_fault_16 oX12_fault_16 rfl ⟨rfl, trivial⟩ ?_
      subst h
      exact mz_Go.reti (by decide +kernel) rfl ⟨Nat.le_refl _, Nat.le_refl _⟩ rfl
    · have h := mz_ifn hc2 h
      refine mz_Go.run (gs := []) (st' := (24, [some (.inr (.inr (some (0, 200)))), some (.inl x1)], [.inl (-1 : Int32)], D)) bX12_fault_23 oX12_fault_23 rfl trivial ?_
      subst h
      exact mz_Go.reti (by decide +kernel) rfl ⟨Nat.le_refl _, Nat.le_refl _⟩ rfl
def bX12_taken_0 : List mz_E := [(0, .aload_n 0, 0, 0, 0, 0, 0), (1, .aload_n 0, 0, 0, 0, 0, 0), (2, .getfield 145, 12, 18, 1594, 0, 0), (5, .putfield 37, 12, 16, 1592, 0, 0), (8, .aload_n 0, 0, 0, 0, 0, 0), (9, .getfield 145, 12, 18, 1594, 0, 0), (12, .ifCond .le 12, 0, 24, 0, 0, 0)]
theorem oX12_taken_0 : bX12_taken_0.all (mz_ok RX12 cX12_taken 2) = true := by decide +kernel
def bX12_taken_24 : List mz_E := [(24, .aload_n 0, 0, 0, 0, 0, 0), (25, .iload_n 1, 0, 0, 0, 0, 0)]
theorem oX12_taken_24 : bX12_taken_24.all (mz_ok RX12 cX12_taken 2) = true := by decide +kernel
def bX12_taken_15 : List mz_E := [(15, .aload_n 0, 0, 0, 0, 0, 0), (16, .bipush 9, 0, 0, 0, 9, 0)]
theorem oX12_taken_15 : bX12_taken_15.all (mz_ok RX12 cX12_taken 2) = true := by decide +kernel
def bX12_taken_21 : List mz_E := [(21, .goto 8, 0, 29, 0, 0, 0)]
theorem oX12_taken_21 : bX12_taken_21.all (mz_ok RX12 cX12_taken 2) = true := by decide +kernel
abbrev IX12_taken : mz_I := (yX12_taken, cX12_taken, 2, (some .int), 0, 1, 0, 0)
theorem kX12_taken : mz_okm IX12_taken 1843 141 1842 1 = true := by decide +kernel
theorem vX12_taken : mz_okV IX12_taken 1842 72 = true := by decide +kernel
def fX12_taken (x1 : Int32) (D : mz_D) : Option (Int32 × mz_D) := (if (D.1 0 200 18) ≤ 0 then (some (x1, (mz_wi (mz_wi D 0 200 16 (D.1 0 200 18)) 0 200 2 (0 : Int32)))) else (some ((-1 : Int32), (mz_wi (mz_wi D 0 200 16 (D.1 0 200 18)) 0 200 2 (9 : Int32)))))
set_option maxHeartbeats 4000000 in
theorem mX12_taken (x1 : Int32) (D : mz_D) (r : (Int32 × mz_D)) (h : fX12_taken x1 D = some r) : mz_Met IX12_taken [.inr (.inr (some (0, 200))), .inl x1] D (some (.inl r.1), r.2) := by
  refine mz_Met.of (by decide +kernel) (Nat.le_of_ble_eq_true rfl) ?_
  show mz_Go IX12_taken (some (.inl r.1), r.2) 0 0 (0, [some (.inr (.inr (some (0, 200)))), some (.inl x1)], [], D)
  rw [fX12_taken] at h
  refine mz_Go.run (gs := [mz_kz 0 0 200, mz_kz 0 0 200, mz_kz 0 0 200]) (st' := (if (D.1 0 200 18) ≤ 0 then (24, [some (.inr (.inr (some (0, 200)))), some (.inl x1)], [], (mz_wi D 0 200 16 (D.1 0 200 18))) else (15, [some (.inr (.inr (some (0, 200)))), some (.inl x1)], [], (mz_wi D 0 200 16 (D.1 0 200 18))))) bX12_taken_0 oX12_taken_0 rfl ⟨rfl, rfl, rfl, trivial⟩ ?_
  refine mz_Go.ite (fun hc1 => ?_) (fun hc1 => ?_)
  · have h := mz_ifp hc1 h
    refine mz_Go.run (gs := []) (st' := (26, [some (.inr (.inr (some (0, 200)))), some (.inl x1)], [.inl x1, .inr (.inr (some (0, 200)))], (mz_wi D 0 200 16 (D.1 0 200 18)))) bX12_taken_24 oX12_taken_24 rfl trivial ?_
    refine mz_Go.callV (I := IX12_taken) (J := IX12_gives) (as := [.inl x1]) (ci := 12) (g := 0) (o := 200) (idx := 79) (pl := 1844) (rest := []) (mX12_gives x1 (mz_wi D 0 200 16 (D.1 0 200 18))) kX12_gives vX12_gives (by decide +kernel) (by decide +kernel) (by decide +kernel) rfl rfl ⟨rfl, rfl⟩ rfl rfl rfl rfl ?_
    cases h
    exact mz_Go.reti (by decide +kernel) rfl ⟨Nat.le_refl _, Nat.le_refl _⟩ rfl
  · have h := mz_ifn hc1 h
    refine mz_Go.run (gs := []) (st' := (18, [some (.inr (.inr (some (0, 200)))), some (.inl x1)], [.inl (9 : Int32), .inr (.inr (some (0, 200)))], (mz_wi D 0 200 16 (D.1 0 200 18)))) bX12_taken_15 oX12_taken_15 rfl trivial ?_
    refine mz_Go.callV (I := IX12_taken) (J := IX12_refuse) (as := [.inl (9 : Int32)]) (ci := 12) (g := 0) (o := 200) (idx := 75) (pl := 1761) (rest := []) (mX12_refuse (9 : Int32) (mz_wi D 0 200 16 (D.1 0 200 18))) kX12_refuse vX12_refuse (by decide +kernel) (by decide +kernel) (by decide +kernel) rfl rfl ⟨rfl, rfl⟩ rfl rfl rfl rfl ?_
    refine mz_Go.run (gs := []) (st' := (29, [some (.inr (.inr (some (0, 200)))), some (.inl x1)], [.inl (-1 : Int32)], (mz_wi (mz_wi D 0 200 16 (D.1 0 200 18)) 0 200 2 (9 : Int32)))) bX12_taken_21 oX12_taken_21 rfl trivial ?_
    cases h
    exact mz_Go.reti (by decide +kernel) rfl ⟨Nat.le_refl _, Nat.le_refl _⟩ rfl
def bX12_personRow_0 : List mz_E := [(0, .bipush 12, 0, 0, 0, 12, 0), (2, .bipush 8, 0, 0, 0, 8, 0), (4, .iload_n 0, 0, 0, 0, 0, 0), (5, .imul, 0, 0, 0, 0, 0), (6, .iadd, 0, 0, 0, 0, 0)]
theorem oX12_personRow_0 : bX12_personRow_0.all (mz_ok RX12 cX12_personRow 1) = true := by decide +kernel
abbrev IX12_personRow : mz_I := (yX12_personRow, cX12_personRow, 1, (some .int), 9, 0, 0, 0)
theorem kX12_personRow : mz_okm IX12_personRow 1897 141 1896 1 = true := by decide +kernel
theorem vX12_personRow : mz_okS IX12_personRow 1896 = true := by decide +kernel
theorem mX12_personRow (x0 : Int32) (D : mz_D) : mz_Met IX12_personRow [.inl x0] D (some (.inl ((12 : Int32) + ((8 : Int32) * x0))), D) := by
  refine mz_Met.of (by decide +kernel) (Nat.le_of_ble_eq_true rfl) ?_
  show mz_Go IX12_personRow (some (.inl ((12 : Int32) + ((8 : Int32) * x0))), D) 0 0 (0, [some (.inl x0)], [], D)
  refine mz_Go.run (gs := []) (st' := (7, [some (.inl x0)], [.inl ((12 : Int32) + ((8 : Int32) * x0))], D)) bX12_personRow_0 oX12_personRow_0 rfl trivial ?_
  exact mz_Go.reti (by decide +kernel) rfl ⟨Nat.le_refl _, Nat.le_refl _⟩ rfl
def bX12_debtRow_0 : List mz_E := [(0, .bipush 92, 0, 0, 0, 92, 0), (2, .bipush 6, 0, 0, 0, 6, 0), (4, .iload_n 0, 0, 0, 0, 0, 0), (5, .imul, 0, 0, 0, 0, 0), (6, .iadd, 0, 0, 0, 0, 0), (7, .iload_n 1, 0, 0, 0, 0, 0), (8, .iadd, 0, 0, 0, 0, 0)]
theorem oX12_debtRow_0 : bX12_debtRow_0.all (mz_ok RX12 cX12_debtRow 2) = true := by decide +kernel
abbrev IX12_debtRow : mz_I := (yX12_debtRow, cX12_debtRow, 2, (some .int), 9, 0, 0, 0)
theorem kX12_debtRow : mz_okm IX12_debtRow 2010 141 2009 2 = true := by decide +kernel
theorem vX12_debtRow : mz_okS IX12_debtRow 2009 = true := by decide +kernel
theorem mX12_debtRow (x0 : Int32) (x1 : Int32) (D : mz_D) : mz_Met IX12_debtRow [.inl x0, .inl x1] D (some (.inl (((92 : Int32) + ((6 : Int32) * x0)) + x1)), D) := by
  refine mz_Met.of (by decide +kernel) (Nat.le_of_ble_eq_true rfl) ?_
  show mz_Go IX12_debtRow (some (.inl (((92 : Int32) + ((6 : Int32) * x0)) + x1)), D) 0 0 (0, [some (.inl x0), some (.inl x1)], [], D)
  refine mz_Go.run (gs := []) (st' := (9, [some (.inl x0), some (.inl x1)], [.inl (((92 : Int32) + ((6 : Int32) * x0)) + x1)], D)) bX12_debtRow_0 oX12_debtRow_0 rfl trivial ?_
  exact mz_Go.reti (by decide +kernel) rfl ⟨Nat.le_refl _, Nat.le_refl _⟩ rfl
def bX12_isPerson_0 : List mz_E := [(0, .iload_n 1, 0, 0, 0, 0, 0), (1, .ifCond .lt 17, 0, 18, 0, 0, 0)]
theorem oX12_isPerson_0 : bX12_isPerson_0.all (mz_ok RX12 cX12_isPerson 2) = true := by decide +kernel
def bX12_isPerson_18 : List mz_E := [(18, .iconst 0, 0, 0, 0, 0, 0)]
theorem oX12_isPerson_18 : bX12_isPerson_18.all (mz_ok RX12 cX12_isPerson 2) = true := by decide +kernel
def bX12_isPerson_4 : List mz_E := [(4, .iload_n 1, 0, 0, 0, 0, 0), (5, .aload_n 0, 0, 0, 0, 0, 0), (6, .getfield 7, 12, 0, 1576, 0, 0), (9, .iconst 0, 0, 0, 0, 0, 0), (10, .iaload, 0, 0, 0, 0, 0), (11, .if_icmp .ge 7, 0, 18, 0, 0, 0)]
theorem oX12_isPerson_4 : bX12_isPerson_4.all (mz_ok RX12 cX12_isPerson 2) = true := by decide +kernel
def bX12_isPerson_14 : List mz_E := [(14, .iconst 1, 0, 0, 0, 1, 0), (15, .goto 4, 0, 19, 0, 0, 0)]
theorem oX12_isPerson_14 : bX12_isPerson_14.all (mz_ok RX12 cX12_isPerson 2) = true := by decide +kernel
abbrev IX12_isPerson : mz_I := (yX12_isPerson, cX12_isPerson, 2, (some .boolean), 0, 0, 0, 0)
theorem kX12_isPerson : mz_okm IX12_isPerson 1905 141 1904 1 = true := by decide +kernel
theorem vX12_isPerson : mz_okV IX12_isPerson 1904 83 = true := by decide +kernel
def fX12_isPerson (x1 : Int32) (D : mz_D) : Int32 := (if x1 < 0 then (0 : Int32) else (if (D.1 0 201 ((0 : Int32)).toNatClampNeg) ≤ x1 then (0 : Int32) else (1 : Int32)))
set_option maxHeartbeats 4000000 in
theorem mX12_isPerson (x1 : Int32) (D : mz_D) (r : Int32) (h : fX12_isPerson x1 D = r) : mz_Met IX12_isPerson [.inr (.inr (some (0, 200))), .inl x1] D (some (.inl r), D) := by
  refine mz_Met.of (by decide +kernel) (Nat.le_of_ble_eq_true rfl) ?_
  show mz_Go IX12_isPerson (some (.inl r), D) 0 0 (0, [some (.inr (.inr (some (0, 200)))), some (.inl x1)], [], D)
  rw [fX12_isPerson] at h
  refine mz_Go.run (gs := []) (st' := (if x1 < 0 then (18, [some (.inr (.inr (some (0, 200)))), some (.inl x1)], [], D) else (4, [some (.inr (.inr (some (0, 200)))), some (.inl x1)], [], D))) bX12_isPerson_0 oX12_isPerson_0 rfl trivial ?_
  refine mz_Go.ite (fun hc1 => ?_) (fun hc1 => ?_)
  · have h := mz_ifp hc1 h
    refine mz_Go.run (gs := []) (st' := (19, [some (.inr (.inr (some (0, 200)))), some (.inl x1)], [.inl (0 : Int32)], D)) bX12_isPerson_18 oX12_isPerson_18 rfl trivial ?_
    subst h
    exact mz_Go.retz (by decide +kernel) rfl ⟨Nat.le_refl _, Nat.le_refl _⟩ (by decide) rfl
  · have h := mz_ifn hc1 h
    refine mz_Go.run (gs := [mz_kz 0 0 200, mz_kz 0 0 201, mz_ix (0 : Int32) 3000]) (st' := (if (D.1 0 201 ((0 : Int32)).toNatClampNeg) ≤ x1 then (18, [some (.inr (.inr (some (0, 200)))), some (.inl x1)], [], D) else (14, [some (.inr (.inr (some (0, 200)))), some (.inl x1)], [], D))) bX12_isPerson_4 oX12_isPerson_4 rfl ⟨rfl, rfl, (by decide), trivial⟩ ?_
    refine mz_Go.ite (fun hc2 => ?_) (fun hc2 => ?_)
    · have h := mz_ifp hc2 h
      refine mz_Go.run (gs := []) (st' := (19, [some (.inr (.inr (some (0, 200)))), some (.inl x1)], [.inl (0 : Int32)], D)) bX12_isPerson_18 oX12_isPerson_18 rfl trivial ?_
      subst h
      exact mz_Go.retz (by decide +kernel) rfl ⟨Nat.le_refl _, Nat.le_refl _⟩ (by decide) rfl
    · have h := mz_ifn hc2 h
      refine mz_Go.run (gs := []) (st' := (19, [some (.inr (.inr (some (0, 200)))), some (.inl x1)], [.inl (1 : Int32)], D)) bX12_isPerson_14 oX12_isPerson_14 rfl trivial ?_
      subst h
      exact mz_Go.retz (by decide +kernel) rfl ⟨Nat.le_refl _, Nat.le_refl _⟩ (by decide) rfl
def bX12_areTwo_0 : List mz_E := [(0, .aload_n 0, 0, 0, 0, 0, 0), (1, .iload_n 1, 0, 0, 0, 0, 0)]
theorem oX12_areTwo_0 : bX12_areTwo_0.all (mz_ok RX12 cX12_areTwo 3) = true := by decide +kernel
def bX12_areTwo_5 : List mz_E := [(5, .ifCond .eq 20, 0, 25, 0, 0, 0)]
theorem oX12_areTwo_5 : bX12_areTwo_5.all (mz_ok RX12 cX12_areTwo 3) = true := by decide +kernel
def bX12_areTwo_25 : List mz_E := [(25, .iconst 0, 0, 0, 0, 0, 0)]
theorem oX12_areTwo_25 : bX12_areTwo_25.all (mz_ok RX12 cX12_areTwo 3) = true := by decide +kernel
def bX12_areTwo_8 : List mz_E := [(8, .aload_n 0, 0, 0, 0, 0, 0), (9, .iload_n 2, 0, 0, 0, 0, 0)]
theorem oX12_areTwo_8 : bX12_areTwo_8.all (mz_ok RX12 cX12_areTwo 3) = true := by decide +kernel
def bX12_areTwo_13 : List mz_E := [(13, .ifCond .eq 12, 0, 25, 0, 0, 0)]
theorem oX12_areTwo_13 : bX12_areTwo_13.all (mz_ok RX12 cX12_areTwo 3) = true := by decide +kernel
def bX12_areTwo_16 : List mz_E := [(16, .iload_n 1, 0, 0, 0, 0, 0), (17, .iload_n 2, 0, 0, 0, 0, 0), (18, .if_icmp .eq 7, 0, 25, 0, 0, 0)]
theorem oX12_areTwo_16 : bX12_areTwo_16.all (mz_ok RX12 cX12_areTwo 3) = true := by decide +kernel
def bX12_areTwo_21 : List mz_E := [(21, .iconst 1, 0, 0, 0, 1, 0), (22, .goto 4, 0, 26, 0, 0, 0)]
theorem oX12_areTwo_21 : bX12_areTwo_21.all (mz_ok RX12 cX12_areTwo 3) = true := by decide +kernel
abbrev IX12_areTwo : mz_I := (yX12_areTwo, cX12_areTwo, 3, (some .boolean), 0, 1, 0, 0)
theorem kX12_areTwo : mz_okm IX12_areTwo 2039 141 2038 2 = true := by decide +kernel
theorem vX12_areTwo : mz_okV IX12_areTwo 2038 95 = true := by decide +kernel
def fX12_areTwo (x1 : Int32) (x2 : Int32) (D : mz_D) : Int32 := (if (fX12_isPerson x1 D) = 0 then (0 : Int32) else (if (fX12_isPerson x2 D) = 0 then (0 : Int32) else (if x1 = x2 then (0 : Int32) else (1 : Int32))))
set_option maxHeartbeats 4000000 in
theorem mX12_areTwo (x1 : Int32) (x2 : Int32) (D : mz_D) (r : Int32) (h : fX12_areTwo x1 x2 D = r) : mz_Met IX12_areTwo [.inr (.inr (some (0, 200))), .inl x1, .inl x2] D (some (.inl r), D) := by
  refine mz_Met.of (by decide +kernel) (Nat.le_of_ble_eq_true rfl) ?_
  show mz_Go IX12_areTwo (some (.inl r), D) 0 0 (0, [some (.inr (.inr (some (0, 200)))), some (.inl x1), some (.inl x2)], [], D)
  rw [fX12_areTwo] at h
  refine mz_Go.run (gs := []) (st' := (2, [some (.inr (.inr (some (0, 200)))), some (.inl x1), some (.inl x2)], [.inl x1, .inr (.inr (some (0, 200)))], D)) bX12_areTwo_0 oX12_areTwo_0 rfl trivial ?_
  refine mz_Go.callV (I := IX12_areTwo) (J := IX12_isPerson) (as := [.inl x1]) (ci := 12) (g := 0) (o := 200) (idx := 248) (pl := 1902) (rest := []) (mX12_isPerson x1 D _ rfl) kX12_isPerson vX12_isPerson (by decide +kernel) (by decide +kernel) (by decide +kernel) rfl rfl ⟨rfl, rfl⟩ rfl rfl rfl rfl ?_
  refine mz_Go.run (gs := []) (st' := (if (fX12_isPerson x1 D) = 0 then (25, [some (.inr (.inr (some (0, 200)))), some (.inl x1), some (.inl x2)], [], D) else (8, [some (.inr (.inr (some (0, 200)))), some (.inl x1), some (.inl x2)], [], D))) bX12_areTwo_5 oX12_areTwo_5 rfl trivial ?_
  refine mz_Go.ite (fun hc1 => ?_) (fun hc1 => ?_)
  · have h := mz_ifp hc1 h
    refine mz_Go.run (gs := []) (st' := (26, [some (.inr (.inr (some (0, 200)))), some (.inl x1), some (.inl x2)], [.inl (0 : Int32)], D)) bX12_areTwo_25 oX12_areTwo_25 rfl trivial ?_
    subst h
    exact mz_Go.retz (by decide +kernel) rfl ⟨Nat.le_refl _, Nat.le_refl _⟩ (by decide) rfl
  · have h := mz_ifn hc1 h
    refine mz_Go.run (gs := []) (st' := (10, [some (.inr (.inr (some (0, 200)))), some (.inl x1), some (.inl x2)], [.inl x2, .inr (.inr (some (0, 200)))], D)) bX12_areTwo_8 oX12_areTwo_8 rfl trivial ?_
    refine mz_Go.callV (I := IX12_areTwo) (J := IX12_isPerson) (as := [.inl x2]) (ci := 12) (g := 0) (o := 200) (idx := 248) (pl := 1902) (rest := []) (mX12_isPerson x2 D _ rfl) kX12_isPerson vX12_isPerson (by decide +kernel) (by decide +kernel) (by decide +kernel) rfl rfl ⟨rfl, rfl⟩ rfl rfl rfl rfl ?_
    refine mz_Go.run (gs := []) (st' := (if (fX12_isPerson x2 D) = 0 then (25, [some (.inr (.inr (some (0, 200)))), some (.inl x1), some (.inl x2)], [], D) else (16, [some (.inr (.inr (some (0, 200)))), some (.inl x1), some (.inl x2)], [], D))) bX12_areTwo_13 oX12_areTwo_13 rfl trivial ?_
    refine mz_Go.ite (fun hc2 => ?_) (fun hc2 => ?_)
    · have h := mz_ifp hc2 h
      refine mz_Go.run (gs := []) (st' := (26, [some (.inr (.inr (some (0, 200)))), some (.inl x1), some (.inl x2)], [.inl (0 : Int32)], D)) bX12_areTwo_25 oX12_areTwo_25 rfl trivial ?_
      subst h
      exact mz_Go.retz (by decide +kernel) rfl ⟨Nat.le_refl _, Nat.le_refl _⟩ (by decide) rfl
    · have h := mz_ifn hc2 h
      refine mz_Go.run (gs := []) (st' := (if x1 = x2 then (25, [some (.inr (.inr (some (0, 200)))), some (.inl x1), some (.inl x2)], [], D) else (21, [some (.inr (.inr (some (0, 200)))), some (.inl x1), some (.inl x2)], [], D))) bX12_areTwo_16 oX12_areTwo_16 rfl trivial ?_
      refine mz_Go.ite (fun hc3 => ?_) (fun hc3 => ?_)
      · have h := mz_ifp hc3 h
        refine mz_Go.run (gs := []) (st' := (26, [some (.inr (.inr (some (0, 200)))), some (.inl x1), some (.inl x2)], [.inl (0 : Int32)], D)) bX12_areTwo_25 oX12_areTwo_25 rfl trivial ?_
        subst h
        exact mz_Go.retz (by decide +kernel) rfl ⟨Nat.le_refl _, Nat.le_refl _⟩ (by decide) rfl
      · have h := mz_ifn hc3 h
        refine mz_Go.run (gs := []) (st' := (26, [some (.inr (.inr (some (0, 200)))), some (.inl x1), some (.inl x2)], [.inl (1 : Int32)], D)) bX12_areTwo_21 oX12_areTwo_21 rfl trivial ?_
        subst h
        exact mz_Go.retz (by decide +kernel) rfl ⟨Nat.le_refl _, Nat.le_refl _⟩ (by decide) rfl
def bX12_bits_0 : List mz_E := [(0, .iconst 0, 0, 0, 0, 0, 0), (1, .istore_n 1, 0, 0, 0, 0, 0), (2, .iload_n 0, 0, 0, 0, 0, 0), (3, .istore_n 2, 0, 0, 0, 0, 0)]
theorem oX12_bits_0 : bX12_bits_0.all (mz_ok RX12 cX12_bits 3) = true := by decide +kernel
def bX12_bits_4 : List mz_E := [(4, .iload_n 2, 0, 0, 0, 0, 0), (5, .ifCond .eq 15, 0, 20, 0, 0, 0)]
theorem oX12_bits_4 : bX12_bits_4.all (mz_ok RX12 cX12_bits 3) = true := by decide +kernel
def bX12_bits_20 : List mz_E := [(20, .iload_n 1, 0, 0, 0, 0, 0)]
theorem oX12_bits_20 : bX12_bits_20.all (mz_ok RX12 cX12_bits 3) = true := by decide +kernel
def bX12_bits_8 : List mz_E := [(8, .iinc 1 1, 0, 0, 0, 1, 0), (11, .iload_n 2, 0, 0, 0, 0, 0), (12, .iload_n 2, 0, 0, 0, 0, 0), (13, .iconst 1, 0, 0, 0, 1, 0), (14, .isub, 0, 0, 0, 0, 0), (15, .iand, 0, 0, 0, 0, 0), (16, .istore_n 2, 0, 0, 0, 0, 0), (17, .goto (-13), 0, 4, 0, 0, 0)]
theorem oX12_bits_8 : bX12_bits_8.all (mz_ok RX12 cX12_bits 3) = true := by decide +kernel
abbrev IX12_bits : mz_I := (yX12_bits, cX12_bits, 3, (some .int), 9, 0, 0, 0)
theorem kX12_bits : mz_okm IX12_bits 1890 141 1889 1 = true := by decide +kernel
theorem vX12_bits : mz_okS IX12_bits 1889 = true := by decide +kernel
def fX12_bits_4 : Nat → Int32 → Int32 → Option Int32
  | 0 => fun _ _ => none
  | n + 1 => fun x1 x2 => (if x2 = 0 then (some x1) else ((fX12_bits_4 n) (x1 + (1 : Int32)) (x2 &&& (x2 - (1 : Int32)))))
set_option maxHeartbeats 4000000 in
theorem tX12_bits_4 (D : mz_D) (r : Int32) : ∀ (n : Nat) (x1 : Int32) (x2 : Int32), fX12_bits_4 n x1 x2 = some r → mz_Go IX12_bits (some (.inl r), D) 0 0 (4, [none, some (.inl x1), some (.inl x2)], [], D) := by
  intro n
  induction n with
  | zero => intro x1 x2 h; have h : (none : Option Int32) = some r := h; cases h
  | succ n ih =>
    intro x1 x2 h
    rw [fX12_bits_4] at h
    refine mz_Go.run (gs := []) (st' := (if x2 = 0 then (20, [none, some (.inl x1), some (.inl x2)], [], D) else (8, [none, some (.inl x1), some (.inl x2)], [], D))) bX12_bits_4 oX12_bits_4 rfl trivial ?_
    refine mz_Go.ite (fun hc1 => ?_) (fun hc1 => ?_)
    · have h := mz_ifp hc1 h
      refine mz_Go.run (gs := []) (st' := (21, [none, some (.inl x1), some (.inl x2)], [.inl x1], D)) bX12_bits_20 oX12_bits_20 rfl trivial ?_
      cases h
      exact mz_Go.reti (by decide +kernel) rfl ⟨Nat.le_refl _, Nat.le_refl _⟩ rfl
    · have h := mz_ifn hc1 h
      refine mz_Go.run (gs := []) (st' := (4, [none, some (.inl (x1 + (1 : Int32))), some (.inl (x2 &&& (x2 - (1 : Int32))))], [], D)) bX12_bits_8 oX12_bits_8 rfl trivial ?_
      exact mz_Go.drop [false, true, true] (ih (x1 + (1 : Int32)) (x2 &&& (x2 - (1 : Int32))) h)
def fX12_bits (x0 : Int32) : Option Int32 := (fX12_bits_4 mz_N (0 : Int32) x0)
set_option maxHeartbeats 4000000 in
theorem mX12_bits (x0 : Int32) (D : mz_D) (r : Int32) (h : fX12_bits x0 = some r) : mz_Met IX12_bits [.inl x0] D (some (.inl r), D) := by
  refine mz_Met.of (by decide +kernel) (Nat.le_of_ble_eq_true rfl) ?_
  show mz_Go IX12_bits (some (.inl r), D) 0 0 (0, [some (.inl x0), none, none], [], D)
  rw [fX12_bits] at h
  refine mz_Go.run (gs := []) (st' := (4, [some (.inl x0), some (.inl (0 : Int32)), some (.inl x0)], [], D)) bX12_bits_0 oX12_bits_0 rfl trivial ?_
  exact mz_Go.drop [false, true, true] (tX12_bits_4 D r mz_N (0 : Int32) x0 h)
def bX12_everybody_0 : List mz_E := [(0, .iconst 1, 0, 0, 0, 1, 0), (1, .aload_n 0, 0, 0, 0, 0, 0), (2, .getfield 7, 12, 0, 1576, 0, 0), (5, .iconst 0, 0, 0, 0, 0, 0), (6, .iaload, 0, 0, 0, 0, 0), (7, .ishl, 0, 0, 0, 0, 0), (8, .iconst 1, 0, 0, 0, 1, 0), (9, .isub, 0, 0, 0, 0, 0)]
theorem oX12_everybody_0 : bX12_everybody_0.all (mz_ok RX12 cX12_everybody 1) = true := by decide +kernel
abbrev IX12_everybody : mz_I := (yX12_everybody, cX12_everybody, 1, (some .int), 0, 0, 0, 0)
theorem kX12_everybody : mz_okm IX12_everybody 1887 141 1886 0 = true := by decide +kernel
theorem vX12_everybody : mz_okV IX12_everybody 1886 81 = true := by decide +kernel
theorem mX12_everybody (D : mz_D) : mz_Met IX12_everybody [.inr (.inr (some (0, 200)))] D (some (.inl (((1 : Int32) <<< ((D.1 0 201 ((0 : Int32)).toNatClampNeg) &&& 31)) - (1 : Int32))), D) := by
  refine mz_Met.of (by decide +kernel) (Nat.le_of_ble_eq_true rfl) ?_
  show mz_Go IX12_everybody (some (.inl (((1 : Int32) <<< ((D.1 0 201 ((0 : Int32)).toNatClampNeg) &&& 31)) - (1 : Int32))), D) 0 0 (0, [some (.inr (.inr (some (0, 200))))], [], D)
  refine mz_Go.run (gs := [mz_kz 0 0 200, mz_kz 0 0 201, mz_ix (0 : Int32) 3000]) (st' := (10, [some (.inr (.inr (some (0, 200))))], [.inl (((1 : Int32) <<< ((D.1 0 201 ((0 : Int32)).toNatClampNeg) &&& 31)) - (1 : Int32))], D)) bX12_everybody_0 oX12_everybody_0 rfl ⟨rfl, rfl, (by decide), trivial⟩ ?_
  exact mz_Go.reti (by decide +kernel) rfl ⟨Nat.le_refl _, Nat.le_refl _⟩ rfl
def bX12_heads_0 : List mz_E := [(0, .aload_n 0, 0, 0, 0, 0, 0), (1, .getfield 7, 12, 0, 1576, 0, 0), (4, .bipush 7, 0, 0, 0, 7, 0), (6, .iaload, 0, 0, 0, 0, 0), (7, .aload_n 0, 0, 0, 0, 0, 0)]
theorem oX12_heads_0 : bX12_heads_0.all (mz_ok RX12 cX12_heads 1) = true := by decide +kernel
def bX12_heads_11 : List mz_E := [(11, .if_icmp .ne 10, 0, 21, 0, 0, 0)]
theorem oX12_heads_11 : bX12_heads_11.all (mz_ok RX12 cX12_heads 1) = true := by decide +kernel
def bX12_heads_14 : List mz_E := [(14, .aload_n 0, 0, 0, 0, 0, 0)]
theorem oX12_heads_14 : bX12_heads_14.all (mz_ok RX12 cX12_heads 1) = true := by decide +kernel
def bX12_heads_18 : List mz_E := [(18, .goto 17, 0, 35, 0, 0, 0)]
theorem oX12_heads_18 : bX12_heads_18.all (mz_ok RX12 cX12_heads 1) = true := by decide +kernel
def bX12_heads_21 : List mz_E := [(21, .aload_n 0, 0, 0, 0, 0, 0)]
theorem oX12_heads_21 : bX12_heads_21.all (mz_ok RX12 cX12_heads 1) = true := by decide +kernel
def bX12_heads_25 : List mz_E := [(25, .aload_n 0, 0, 0, 0, 0, 0), (26, .getfield 7, 12, 0, 1576, 0, 0), (29, .bipush 7, 0, 0, 0, 7, 0), (31, .iaload, 0, 0, 0, 0, 0), (32, .iconst (-1), 0, 0, 0, -1, 0), (33, .ixor, 0, 0, 0, 0, 0), (34, .iand, 0, 0, 0, 0, 0)]
theorem oX12_heads_25 : bX12_heads_25.all (mz_ok RX12 cX12_heads 1) = true := by decide +kernel
abbrev IX12_heads : mz_I := (yX12_heads, cX12_heads, 1, (some .int), 0, 1, 0, 0)
theorem kX12_heads : mz_okm IX12_heads 1883 141 1882 0 = true := by decide +kernel
theorem vX12_heads : mz_okV IX12_heads 1882 80 = true := by decide +kernel
def fX12_heads (D : mz_D) : Int32 := (if (D.1 0 201 ((7 : Int32)).toNatClampNeg) = (((1 : Int32) <<< ((D.1 0 201 ((0 : Int32)).toNatClampNeg) &&& 31)) - (1 : Int32)) then (((1 : Int32) <<< ((D.1 0 201 ((0 : Int32)).toNatClampNeg) &&& 31)) - (1 : Int32)) else ((((1 : Int32) <<< ((D.1 0 201 ((0 : Int32)).toNatClampNeg) &&& 31)) - (1 : Int32)) &&& ((D.1 0 201 ((7 : Int32)).toNatClampNeg) ^^^ (-1 : Int32))))
set_option maxHeartbeats 4000000 in
theorem mX12_heads (D : mz_D) (r : Int32) (h : fX12_heads D = r) : mz_Met IX12_heads [.inr (.inr (some (0, 200)))] D (some (.inl r), D) := by
  refine mz_Met.of (by decide +kernel) (Nat.le_of_ble_eq_true rfl) ?_
  show mz_Go IX12_heads (some (.inl r), D) 0 0 (0, [some (.inr (.inr (some (0, 200))))], [], D)
  rw [fX12_heads] at h
  refine mz_Go.run (gs := [mz_kz 0 0 200, mz_kz 0 0 201, mz_ix (7 : Int32) 3000]) (st' := (8, [some (.inr (.inr (some (0, 200))))], [.inr (.inr (some (0, 200))), .inl (D.1 0 201 ((7 : Int32)).toNatClampNeg)], D)) bX12_heads_0 oX12_heads_0 rfl ⟨rfl, rfl, (by decide), trivial⟩ ?_
  refine mz_Go.callV (I := IX12_heads) (J := IX12_everybody) (as := []) (ci := 12) (g := 0) (o := 200) (idx := 251) (pl := 1884) (rest := [.inl (D.1 0 201 ((7 : Int32)).toNatClampNeg)]) (mX12_everybody D) kX12_everybody vX12_everybody (by decide +kernel) (by decide +kernel) (by decide +kernel) rfl rfl ⟨rfl, rfl⟩ rfl rfl rfl rfl ?_
  refine mz_Go.run (gs := []) (st' := (if (D.1 0 201 ((7 : Int32)).toNatClampNeg) = (((1 : Int32) <<< ((D.1 0 201 ((0 : Int32)).toNatClampNeg) &&& 31)) - (1 : Int32)) then (14, [some (.inr (.inr (some (0, 200))))], [], D) else (21, [some (.inr (.inr (some (0, 200))))], [], D))) bX12_heads_11 oX12_heads_11 rfl trivial ?_
  refine mz_Go.ite (fun hc1 => ?_) (fun hc1 => ?_)
  · have h := mz_ifp hc1 h
    refine mz_Go.run (gs := []) (st' := (15, [some (.inr (.inr (some (0, 200))))], [.inr (.inr (some (0, 200)))], D)) bX12_heads_14 oX12_heads_14 rfl trivial ?_
    refine mz_Go.callV (I := IX12_heads) (J := IX12_everybody) (as := []) (ci := 12) (g := 0) (o := 200) (idx := 251) (pl := 1884) (rest := []) (mX12_everybody D) kX12_everybody vX12_everybody (by decide +kernel) (by decide +kernel) (by decide +kernel) rfl rfl ⟨rfl, rfl⟩ rfl rfl rfl rfl ?_
    refine mz_Go.run (gs := []) (st' := (35, [some (.inr (.inr (some (0, 200))))], [.inl (((1 : Int32) <<< ((D.1 0 201 ((0 : Int32)).toNatClampNeg) &&& 31)) - (1 : Int32))], D)) bX12_heads_18 oX12_heads_18 rfl trivial ?_
    subst h
    exact mz_Go.reti (by decide +kernel) rfl ⟨Nat.le_refl _, Nat.le_refl _⟩ rfl
  · have h := mz_ifn hc1 h
    refine mz_Go.run (gs := []) (st' := (22, [some (.inr (.inr (some (0, 200))))], [.inr (.inr (some (0, 200)))], D)) bX12_heads_21 oX12_heads_21 rfl trivial ?_
    refine mz_Go.callV (I := IX12_heads) (J := IX12_everybody) (as := []) (ci := 12) (g := 0) (o := 200) (idx := 251) (pl := 1884) (rest := []) (mX12_everybody D) kX12_everybody vX12_everybody (by decide +kernel) (by decide +kernel) (by decide +kernel) rfl rfl ⟨rfl, rfl⟩ rfl rfl rfl rfl ?_
    refine mz_Go.run (gs := [mz_kz 0 0 200, mz_kz 0 0 201, mz_ix (7 : Int32) 3000]) (st' := (35, [some (.inr (.inr (some (0, 200))))], [.inl ((((1 : Int32) <<< ((D.1 0 201 ((0 : Int32)).toNatClampNeg) &&& 31)) - (1 : Int32)) &&& ((D.1 0 201 ((7 : Int32)).toNatClampNeg) ^^^ (-1 : Int32)))], D)) bX12_heads_25 oX12_heads_25 rfl ⟨rfl, rfl, (by decide), trivial⟩ ?_
    subst h
    exact mz_Go.reti (by decide +kernel) rfl ⟨Nat.le_refl _, Nat.le_refl _⟩ rfl
def bX12_isIn_0 : List mz_E := [(0, .iload_n 1, 0, 0, 0, 0, 0), (1, .iload_n 2, 0, 0, 0, 0, 0), (2, .ishr, 0, 0, 0, 0, 0), (3, .iconst 1, 0, 0, 0, 1, 0), (4, .iand, 0, 0, 0, 0, 0), (5, .iconst 1, 0, 0, 0, 1, 0), (6, .if_icmp .ne 7, 0, 13, 0, 0, 0)]
theorem oX12_isIn_0 : bX12_isIn_0.all (mz_ok RX12 cX12_isIn 3) = true := by decide +kernel
def bX12_isIn_9 : List mz_E := [(9, .iconst 1, 0, 0, 0, 1, 0), (10, .goto 4, 0, 14, 0, 0, 0)]
theorem oX12_isIn_9 : bX12_isIn_9.all (mz_ok RX12 cX12_isIn 3) = true := by decide +kernel
def bX12_isIn_13 : List mz_E := [(13, .iconst 0, 0, 0, 0, 0, 0)]
theorem oX12_isIn_13 : bX12_isIn_13.all (mz_ok RX12 cX12_isIn 3) = true := by decide +kernel
abbrev IX12_isIn : mz_I := (yX12_isIn, cX12_isIn, 3, (some .boolean), 9, 0, 0, 0)
theorem kX12_isIn : mz_okm IX12_isIn 1947 141 1946 2 = true := by decide +kernel
theorem vX12_isIn : mz_okV IX12_isIn 1946 89 = true := by decide +kernel
def fX12_isIn (x1 : Int32) (x2 : Int32) : Int32 := (if ((x1 >>> (x2 &&& 31)) &&& (1 : Int32)) = (1 : Int32) then (1 : Int32) else (0 : Int32))
set_option maxHeartbeats 4000000 in
theorem mX12_isIn (x1 : Int32) (x2 : Int32) (D : mz_D) (r : Int32) (h : fX12_isIn x1 x2 = r) : mz_Met IX12_isIn [.inr (.inr (some (0, 200))), .inl x1, .inl x2] D (some (.inl r), D) := by
  refine mz_Met.of (by decide +kernel) (Nat.le_of_ble_eq_true rfl) ?_
  show mz_Go IX12_isIn (some (.inl r), D) 0 0 (0, [some (.inr (.inr (some (0, 200)))), some (.inl x1), some (.inl x2)], [], D)
  rw [fX12_isIn] at h
  refine mz_Go.run (gs := []) (st' := (if ((x1 >>> (x2 &&& 31)) &&& (1 : Int32)) = (1 : Int32) then (9, [some (.inr (.inr (some (0, 200)))), some (.inl x1), some (.inl x2)], [], D) else (13, [some (.inr (.inr (some (0, 200)))), some (.inl x1), some (.inl x2)], [], D))) bX12_isIn_0 oX12_isIn_0 rfl trivial ?_
  refine mz_Go.ite (fun hc1 => ?_) (fun hc1 => ?_)
  · have h := mz_ifp hc1 h
    refine mz_Go.run (gs := []) (st' := (14, [some (.inr (.inr (some (0, 200)))), some (.inl x1), some (.inl x2)], [.inl (1 : Int32)], D)) bX12_isIn_9 oX12_isIn_9 rfl trivial ?_
    subst h
    exact mz_Go.retz (by decide +kernel) rfl ⟨Nat.le_refl _, Nat.le_refl _⟩ (by decide) rfl
  · have h := mz_ifn hc1 h
    refine mz_Go.run (gs := []) (st' := (14, [some (.inr (.inr (some (0, 200)))), some (.inl x1), some (.inl x2)], [.inl (0 : Int32)], D)) bX12_isIn_13 oX12_isIn_13 rfl trivial ?_
    subst h
    exact mz_Go.retz (by decide +kernel) rfl ⟨Nat.le_refl _, Nat.le_refl _⟩ (by decide) rfl
def bX12_bill_0 : List mz_E := [(0, .iconst 0, 0, 0, 0, 0, 0), (1, .istore_n 1, 0, 0, 0, 0, 0), (2, .iconst 0, 0, 0, 0, 0, 0), (3, .istore_n 2, 0, 0, 0, 0, 0)]
theorem oX12_bill_0 : bX12_bill_0.all (mz_ok RX12 cX12_bill 3) = true := by decide +kernel
def bX12_bill_4 : List mz_E := [(4, .iload_n 2, 0, 0, 0, 0, 0), (5, .aload_n 0, 0, 0, 0, 0, 0), (6, .getfield 7, 12, 0, 1576, 0, 0), (9, .iconst 2, 0, 0, 0, 2, 0), (10, .iaload, 0, 0, 0, 0, 0), (11, .if_icmp .ge 23, 0, 34, 0, 0, 0)]
theorem oX12_bill_4 : bX12_bill_4.all (mz_ok RX12 cX12_bill 3) = true := by decide +kernel
def bX12_bill_34 : List mz_E := [(34, .iload_n 1, 0, 0, 0, 0, 0)]
theorem oX12_bill_34 : bX12_bill_34.all (mz_ok RX12 cX12_bill 3) = true := by decide +kernel
def bX12_bill_14 : List mz_E := [(14, .iload_n 1, 0, 0, 0, 0, 0), (15, .aload_n 0, 0, 0, 0, 0, 0), (16, .getfield 7, 12, 0, 1576, 0, 0), (19, .bipush 60, 0, 0, 0, 60, 0), (21, .iconst 2, 0, 0, 0, 2, 0), (22, .iload_n 2, 0, 0, 0, 0, 0), (23, .imul, 0, 0, 0, 0, 0), (24, .iadd, 0, 0, 0, 0, 0), (25, .iaload, 0, 0, 0, 0, 0), (26, .iadd, 0, 0, 0, 0, 0), (27, .istore_n 1, 0, 0, 0, 0, 0), (28, .iinc 2 1, 0, 0, 0, 1, 0), (31, .goto (-27), 0, 4, 0, 0, 0)]
theorem oX12_bill_14 : bX12_bill_14.all (mz_ok RX12 cX12_bill 3) = true := by decide +kernel
abbrev IX12_bill : mz_I := (yX12_bill, cX12_bill, 3, (some .int), 0, 0, 0, 0)
theorem kX12_bill : mz_okm IX12_bill 1879 141 1878 0 = true := by decide +kernel
theorem vX12_bill : mz_okV IX12_bill 1878 79 = true := by decide +kernel
def fX12_bill_4 (D : mz_D) : Nat → Int32 → Int32 → Option Int32
  | 0 => fun _ _ => none
  | n + 1 => fun x1 x2 => (if (D.1 0 201 ((2 : Int32)).toNatClampNeg) ≤ x2 then (some x1) else (mz_gd (mz_ix ((60 : Int32) + ((2 : Int32) * x2)) 3000) ((fX12_bill_4 D n) (x1 + (D.1 0 201 (((60 : Int32) + ((2 : Int32) * x2))).toNatClampNeg)) (x2 + (1 : Int32)))))
set_option maxHeartbeats 4000000 in
theorem tX12_bill_4 (D : mz_D) (r : Int32) : ∀ (n : Nat) (x1 : Int32) (x2 : Int32), fX12_bill_4 D n x1 x2 = some r → mz_Go IX12_bill (some (.inl r), D) 0 0 (4, [some (.inr (.inr (some (0, 200)))), some (.inl x1), some (.inl x2)], [], D) := by
  intro n
  induction n with
  | zero => intro x1 x2 h; have h : (none : Option Int32) = some r := h; cases h
  | succ n ih =>
    intro x1 x2 h
    rw [fX12_bill_4] at h
    refine mz_Go.run (gs := [mz_kz 0 0 200, mz_kz 0 0 201, mz_ix (2 : Int32) 3000]) (st' := (if (D.1 0 201 ((2 : Int32)).toNatClampNeg) ≤ x2 then (34, [some (.inr (.inr (some (0, 200)))), some (.inl x1), some (.inl x2)], [], D) else (14, [some (.inr (.inr (some (0, 200)))), some (.inl x1), some (.inl x2)], [], D))) bX12_bill_4 oX12_bill_4 rfl ⟨rfl, rfl, (by decide), trivial⟩ ?_
    refine mz_Go.ite (fun hc1 => ?_) (fun hc1 => ?_)
    · have h := mz_ifp hc1 h
      refine mz_Go.run (gs := []) (st' := (35, [some (.inr (.inr (some (0, 200)))), some (.inl x1), some (.inl x2)], [.inl x1], D)) bX12_bill_34 oX12_bill_34 rfl trivial ?_
      cases h
      exact mz_Go.reti (by decide +kernel) rfl ⟨Nat.le_refl _, Nat.le_refl _⟩ rfl
    · have h := mz_ifn hc1 h
      obtain ⟨hb2, h⟩ := mz_gd_some h
      refine mz_Go.run (gs := [mz_kz 0 0 200, mz_kz 0 0 201, mz_ix ((60 : Int32) + ((2 : Int32) * x2)) 3000]) (st' := (4, [some (.inr (.inr (some (0, 200)))), some (.inl (x1 + (D.1 0 201 (((60 : Int32) + ((2 : Int32) * x2))).toNatClampNeg))), some (.inl (x2 + (1 : Int32)))], [], D)) bX12_bill_14 oX12_bill_14 rfl ⟨rfl, rfl, hb2, trivial⟩ ?_
      exact mz_Go.drop [true, true, true] (ih (x1 + (D.1 0 201 (((60 : Int32) + ((2 : Int32) * x2))).toNatClampNeg)) (x2 + (1 : Int32)) h)
def fX12_bill (D : mz_D) : Option Int32 := (fX12_bill_4 D mz_N (0 : Int32) (0 : Int32))
set_option maxHeartbeats 4000000 in
theorem mX12_bill (D : mz_D) (r : Int32) (h : fX12_bill D = some r) : mz_Met IX12_bill [.inr (.inr (some (0, 200)))] D (some (.inl r), D) := by
  refine mz_Met.of (by decide +kernel) (Nat.le_of_ble_eq_true rfl) ?_
  show mz_Go IX12_bill (some (.inl r), D) 0 0 (0, [some (.inr (.inr (some (0, 200)))), none, none], [], D)
  rw [fX12_bill] at h
  refine mz_Go.run (gs := []) (st' := (4, [some (.inr (.inr (some (0, 200)))), some (.inl (0 : Int32)), some (.inl (0 : Int32))], [], D)) bX12_bill_0 oX12_bill_0 rfl trivial ?_
  exact mz_Go.drop [true, true, true] (tX12_bill_4 D r mz_N (0 : Int32) (0 : Int32) h)
def bX12_commons_0 : List mz_E := [(0, .iconst 0, 0, 0, 0, 0, 0), (1, .istore_n 1, 0, 0, 0, 0, 0), (2, .iconst 0, 0, 0, 0, 0, 0), (3, .istore_n 2, 0, 0, 0, 0, 0)]
theorem oX12_commons_0 : bX12_commons_0.all (mz_ok RX12 cX12_commons 3) = true := by decide +kernel
def bX12_commons_4 : List mz_E := [(4, .iload_n 2, 0, 0, 0, 0, 0), (5, .aload_n 0, 0, 0, 0, 0, 0), (6, .getfield 7, 12, 0, 1576, 0, 0), (9, .iconst 2, 0, 0, 0, 2, 0), (10, .iaload, 0, 0, 0, 0, 0), (11, .if_icmp .ge 44, 0, 55, 0, 0, 0)]
theorem oX12_commons_4 : bX12_commons_4.all (mz_ok RX12 cX12_commons 3) = true := by decide +kernel
def bX12_commons_55 : List mz_E := [(55, .iload_n 1, 0, 0, 0, 0, 0)]
theorem oX12_commons_55 : bX12_commons_55.all (mz_ok RX12 cX12_commons 3) = true := by decide +kernel
def bX12_commons_14 : List mz_E := [(14, .iload_n 1, 0, 0, 0, 0, 0), (15, .aload_n 0, 0, 0, 0, 0, 0), (16, .getfield 7, 12, 0, 1576, 0, 0), (19, .bipush 60, 0, 0, 0, 60, 0), (21, .iconst 2, 0, 0, 0, 2, 0), (22, .iload_n 2, 0, 0, 0, 0, 0), (23, .imul, 0, 0, 0, 0, 0), (24, .iadd, 0, 0, 0, 0, 0), (25, .iconst 1, 0, 0, 0, 1, 0), (26, .iadd, 0, 0, 0, 0, 0), (27, .iaload, 0, 0, 0, 0, 0), (28, .iconst (-1), 0, 0, 0, -1, 0), (29, .if_icmp .ne 17, 0, 46, 0, 0, 0)]
theorem oX12_commons_14 : bX12_commons_14.all (mz_ok RX12 cX12_commons 3) = true := by decide +kernel
def bX12_commons_32 : List mz_E := [(32, .aload_n 0, 0, 0, 0, 0, 0), (33, .getfield 7, 12, 0, 1576, 0, 0), (36, .bipush 60, 0, 0, 0, 60, 0), (38, .iconst 2, 0, 0, 0, 2, 0), (39, .iload_n 2, 0, 0, 0, 0, 0), (40, .imul, 0, 0, 0, 0, 0), (41, .iadd, 0, 0, 0, 0, 0), (42, .iaload, 0, 0, 0, 0, 0), (43, .goto 4, 0, 47, 0, 0, 0)]
theorem oX12_commons_32 : bX12_commons_32.all (mz_ok RX12 cX12_commons 3) = true := by decide +kernel
def bX12_commons_47 : List mz_E := [(47, .iadd, 0, 0, 0, 0, 0), (48, .istore_n 1, 0, 0, 0, 0, 0), (49, .iinc 2 1, 0, 0, 0, 1, 0), (52, .goto (-48), 0, 4, 0, 0, 0)]
theorem oX12_commons_47 : bX12_commons_47.all (mz_ok RX12 cX12_commons 3) = true := by decide +kernel
def bX12_commons_46 : List mz_E := [(46, .iconst 0, 0, 0, 0, 0, 0)]
theorem oX12_commons_46 : bX12_commons_46.all (mz_ok RX12 cX12_commons 3) = true := by decide +kernel
abbrev IX12_commons : mz_I := (yX12_commons, cX12_commons, 3, (some .int), 0, 0, 0, 0)
theorem kX12_commons : mz_okm IX12_commons 1925 141 1924 0 = true := by decide +kernel
theorem vX12_commons : mz_okV IX12_commons 1924 86 = true := by decide +kernel
def fX12_commons_47 (D : mz_D) (k4 : Int32 → Int32 → Option Int32) (x2 : Int32) (s0 : Int32) (s1 : Int32) : Option Int32 := (k4 (s1 + s0) (x2 + (1 : Int32)))
set_option maxHeartbeats 4000000 in
theorem tX12_commons_47 (D : mz_D) (r : Int32) (k4 : Int32 → Int32 → Option Int32) (hk4 : ∀ (x1 : Int32) (x2 : Int32), k4 x1 x2 = some r → mz_Go IX12_commons (some (.inl r), D) 0 0 (4, [some (.inr (.inr (some (0, 200)))), some (.inl x1), some (.inl x2)], [], D)) : ∀ (x2 : Int32) (s0 : Int32) (s1 : Int32), fX12_commons_47 D k4 x2 s0 s1 = some r → mz_Go IX12_commons (some (.inl r), D) 0 0 (47, [some (.inr (.inr (some (0, 200)))), none, some (.inl x2)], [.inl s0, .inl s1], D) := by
  intro x2 s0 s1 h
  rw [fX12_commons_47] at h
  refine mz_Go.run (gs := []) (st' := (4, [some (.inr (.inr (some (0, 200)))), some (.inl (s1 + s0)), some (.inl (x2 + (1 : Int32)))], [], D)) bX12_commons_47 oX12_commons_47 rfl trivial ?_
  exact mz_Go.drop [true, true, true] (hk4 (s1 + s0) (x2 + (1 : Int32)) h)
def fX12_commons_4 (D : mz_D) : Nat → Int32 → Int32 → Option Int32
  | 0 => fun _ _ => none
  | n + 1 => fun x1 x2 => (if (D.1 0 201 ((2 : Int32)).toNatClampNeg) ≤ x2 then (some x1) else (mz_gd (mz_ix (((60 : Int32) + ((2 : Int32) * x2)) + (1 : Int32)) 3000) (if (D.1 0 201 ((((60 : Int32) + ((2 : Int32) * x2)) + (1 : Int32))).toNatClampNeg) = (-1 : Int32) then (mz_gd (mz_ix ((60 : Int32) + ((2 : Int32) * x2)) 3000) (fX12_commons_47 D (fX12_commons_4 D n) x2 (D.1 0 201 (((60 : Int32) + ((2 : Int32) * x2))).toNatClampNeg) x1)) else (fX12_commons_47 D (fX12_commons_4 D n) x2 (0 : Int32) x1))))
set_option maxHeartbeats 4000000 in
theorem tX12_commons_4 (D : mz_D) (r : Int32) : ∀ (n : Nat) (x1 : Int32) (x2 : Int32), fX12_commons_4 D n x1 x2 = some r → mz_Go IX12_commons (some (.inl r), D) 0 0 (4, [some (.inr (.inr (some (0, 200)))), some (.inl x1), some (.inl x2)], [], D) := by
  intro n
  induction n with
  | zero => intro x1 x2 h; have h : (none : Option Int32) = some r := h; cases h
  | succ n ih =>
    intro x1 x2 h
    rw [fX12_commons_4] at h
    refine mz_Go.run (gs := [mz_kz 0 0 200, mz_kz 0 0 201, mz_ix (2 : Int32) 3000]) (st' := (if (D.1 0 201 ((2 : Int32)).toNatClampNeg) ≤ x2 then (55, [some (.inr (.inr (some (0, 200)))), some (.inl x1), some (.inl x2)], [], D) else (14, [some (.inr (.inr (some (0, 200)))), some (.inl x1), some (.inl x2)], [], D))) bX12_commons_4 oX12_commons_4 rfl ⟨rfl, rfl, (by decide), trivial⟩ ?_
    refine mz_Go.ite (fun hc1 => ?_) (fun hc1 => ?_)
    · have h := mz_ifp hc1 h
      refine mz_Go.run (gs := []) (st' := (56, [some (.inr (.inr (some (0, 200)))), some (.inl x1), some (.inl x2)], [.inl x1], D)) bX12_commons_55 oX12_commons_55 rfl trivial ?_
      cases h
      exact mz_Go.reti (by decide +kernel) rfl ⟨Nat.le_refl _, Nat.le_refl _⟩ rfl
    · have h := mz_ifn hc1 h
      obtain ⟨hb2, h⟩ := mz_gd_some h
      refine mz_Go.run (gs := [mz_kz 0 0 200, mz_kz 0 0 201, mz_ix (((60 : Int32) + ((2 : Int32) * x2)) + (1 : Int32)) 3000]) (st' := (if (D.1 0 201 ((((60 : Int32) + ((2 : Int32) * x2)) + (1 : Int32))).toNatClampNeg) = (-1 : Int32) then (32, [some (.inr (.inr (some (0, 200)))), some (.inl x1), some (.inl x2)], [.inl x1], D) else (46, [some (.inr (.inr (some (0, 200)))), some (.inl x1), some (.inl x2)], [.inl x1], D))) bX12_commons_14 oX12_commons_14 rfl ⟨rfl, rfl, hb2, trivial⟩ ?_
      refine mz_Go.ite (fun hc3 => ?_) (fun hc3 => ?_)
      · have h := mz_ifp hc3 h
        obtain ⟨hb4, h⟩ := mz_gd_some h
        refine mz_Go.run (gs := [mz_kz 0 0 200, mz_kz 0 0 201, mz_ix ((60 : Int32) + ((2 : Int32) * x2)) 3000]) (st' := (47, [some (.inr (.inr (some (0, 200)))), some (.inl x1), some (.inl x2)], [.inl (D.1 0 201 (((60 : Int32) + ((2 : Int32) * x2))).toNatClampNeg), .inl x1], D)) bX12_commons_32 oX12_commons_32 rfl ⟨rfl, rfl, hb4, trivial⟩ ?_
        exact mz_Go.drop [true, false, true] (tX12_commons_47 D r (fX12_commons_4 D n) ih x2 (D.1 0 201 (((60 : Int32) + ((2 : Int32) * x2))).toNatClampNeg) x1 h)
      · have h := mz_ifn hc3 h
        refine mz_Go.run (gs := []) (st' := (47, [some (.inr (.inr (some (0, 200)))), some (.inl x1), some (.inl x2)], [.inl (0 : Int32), .inl x1], D)) bX12_commons_46 oX12_commons_46 rfl trivial ?_
        exact mz_Go.drop [true, false, true] (tX12_commons_47 D r (fX12_commons_4 D n) ih x2 (0 : Int32) x1 h)
def fX12_commons (D : mz_D) : Option Int32 := (fX12_commons_4 D mz_N (0 : Int32) (0 : Int32))
set_option maxHeartbeats 4000000 in
theorem mX12_commons (D : mz_D) (r : Int32) (h : fX12_commons D = some r) : mz_Met IX12_commons [.inr (.inr (some (0, 200)))] D (some (.inl r), D) := by
  refine mz_Met.of (by decide +kernel) (Nat.le_of_ble_eq_true rfl) ?_
  show mz_Go IX12_commons (some (.inl r), D) 0 0 (0, [some (.inr (.inr (some (0, 200)))), none, none], [], D)
  rw [fX12_commons] at h
  refine mz_Go.run (gs := []) (st' := (4, [some (.inr (.inr (some (0, 200)))), some (.inl (0 : Int32)), some (.inl (0 : Int32))], [], D)) bX12_commons_0 oX12_commons_0 rfl trivial ?_
  exact mz_Go.drop [true, true, true] (tX12_commons_4 D r mz_N (0 : Int32) (0 : Int32) h)
def bX12_partOf_0 : List mz_E := [(0, .iload_n 1, 0, 0, 0, 0, 0), (1, .iload_n 2, 0, 0, 0, 0, 0), (2, .ishr, 0, 0, 0, 0, 0), (3, .iconst 1, 0, 0, 0, 1, 0), (4, .iand, 0, 0, 0, 0, 0), (5, .ifCond .ne 5, 0, 10, 0, 0, 0)]
theorem oX12_partOf_0 : bX12_partOf_0.all (mz_ok RX12 cX12_partOf 4) = true := by decide +kernel
def bX12_partOf_8 : List mz_E := [(8, .iconst 0, 0, 0, 0, 0, 0)]
theorem oX12_partOf_8 : bX12_partOf_8.all (mz_ok RX12 cX12_partOf 4) = true := by decide +kernel
def bX12_partOf_10 : List mz_E := [(10, .iload_n 1, 0, 0, 0, 0, 0), (11, .iconst 1, 0, 0, 0, 1, 0), (12, .iload_n 2, 0, 0, 0, 0, 0), (13, .ishl, 0, 0, 0, 0, 0), (14, .iconst 1, 0, 0, 0, 1, 0), (15, .isub, 0, 0, 0, 0, 0), (16, .iand, 0, 0, 0, 0, 0)]
theorem oX12_partOf_10 : bX12_partOf_10.all (mz_ok RX12 cX12_partOf 4) = true := by decide +kernel
def bX12_partOf_20 : List mz_E := [(20, .istore_n 3, 0, 0, 0, 0, 0), (21, .iload_n 0, 0, 0, 0, 0, 0), (22, .iload_n 1, 0, 0, 0, 0, 0)]
theorem oX12_partOf_20 : bX12_partOf_20.all (mz_ok RX12 cX12_partOf 4) = true := by decide +kernel
def bX12_partOf_26 : List mz_E := [(26, .idiv, 0, 0, 0, 0, 0), (27, .iload_n 3, 0, 0, 0, 0, 0), (28, .iload_n 0, 0, 0, 0, 0, 0), (29, .iload_n 1, 0, 0, 0, 0, 0)]
theorem oX12_partOf_26 : bX12_partOf_26.all (mz_ok RX12 cX12_partOf 4) = true := by decide +kernel
def bX12_partOf_33 : List mz_E := [(33, .irem, 0, 0, 0, 0, 0), (34, .if_icmp .ge 7, 0, 41, 0, 0, 0)]
theorem oX12_partOf_33 : bX12_partOf_33.all (mz_ok RX12 cX12_partOf 4) = true := by decide +kernel
def bX12_partOf_41 : List mz_E := [(41, .iconst 0, 0, 0, 0, 0, 0), (42, .iadd, 0, 0, 0, 0, 0)]
theorem oX12_partOf_41 : bX12_partOf_41.all (mz_ok RX12 cX12_partOf 4) = true := by decide +kernel
def bX12_partOf_37 : List mz_E := [(37, .iconst 1, 0, 0, 0, 1, 0), (38, .goto 4, 0, 42, 0, 0, 0), (42, .iadd, 0, 0, 0, 0, 0)]
theorem oX12_partOf_37 : bX12_partOf_37.all (mz_ok RX12 cX12_partOf 4) = true := by decide +kernel
abbrev IX12_partOf : mz_I := (yX12_partOf, cX12_partOf, 4, (some .int), 9, 1, 0, 0)
theorem kX12_partOf : mz_okm IX12_partOf 1928 141 1927 3 = true := by decide +kernel
theorem vX12_partOf : mz_okS IX12_partOf 1927 = true := by decide +kernel
def fX12_partOf (x0 : Int32) (x1 : Int32) (x2 : Int32) : Option Int32 := (if ((x1 >>> (x2 &&& 31)) &&& (1 : Int32)) = 0 then (some (0 : Int32)) else (Option.bind (fX12_bits (x1 &&& (((1 : Int32) <<< (x2 &&& 31)) - (1 : Int32)))) fun q2 => (Option.bind (fX12_bits x1) fun q3 => (mz_gd (mz_nz q3) (Option.bind (fX12_bits x1) fun q5 => (mz_gd (mz_nz q5) (if (x0 - x0 / q5 * q5) ≤ q2 then (some ((x0 / q3) + (0 : Int32))) else (some ((x0 / q3) + (1 : Int32))))))))))
set_option maxHeartbeats 4000000 in
theorem mX12_partOf (x0 : Int32) (x1 : Int32) (x2 : Int32) (D : mz_D) (r : Int32) (h : fX12_partOf x0 x1 x2 = some r) : mz_Met IX12_partOf [.inl x0, .inl x1, .inl x2] D (some (.inl r), D) := by
  refine mz_Met.of (by decide +kernel) (Nat.le_of_ble_eq_true rfl) ?_
  show mz_Go IX12_partOf (some (.inl r), D) 0 0 (0, [some (.inl x0), some (.inl x1), some (.inl x2), none], [], D)
  rw [fX12_partOf] at h
  refine mz_Go.run (gs := []) (st' := (if ((x1 >>> (x2 &&& 31)) &&& (1 : Int32)) = 0 then (8, [some (.inl x0), some (.inl x1), some (.inl x2), none], [], D) else (10, [some (.inl x0), some (.inl x1), some (.inl x2), none], [], D))) bX12_partOf_0 oX12_partOf_0 rfl trivial ?_
  refine mz_Go.ite (fun hc1 => ?_) (fun hc1 => ?_)
  · have h := mz_ifp hc1 h
    refine mz_Go.run (gs := []) (st' := (9, [some (.inl x0), some (.inl x1), some (.inl x2), none], [.inl (0 : Int32)], D)) bX12_partOf_8 oX12_partOf_8 rfl trivial ?_
    cases h
    exact mz_Go.reti (by decide +kernel) rfl ⟨Nat.le_refl _, Nat.le_refl _⟩ rfl
  · have h := mz_ifn hc1 h
    refine mz_Go.run (gs := []) (st' := (17, [some (.inl x0), some (.inl x1), some (.inl x2), none], [.inl (x1 &&& (((1 : Int32) <<< (x2 &&& 31)) - (1 : Int32)))], D)) bX12_partOf_10 oX12_partOf_10 rfl trivial ?_
    obtain ⟨q2, hq2, h⟩ := mz_bd_some h
    refine mz_Go.callS (I := IX12_partOf) (J := IX12_bits) (as := [.inl (x1 &&& (((1 : Int32) <<< (x2 &&& 31)) - (1 : Int32)))]) (idx := 254) (pl := 1888) (rest := []) (mX12_bits (x1 &&& (((1 : Int32) <<< (x2 &&& 31)) - (1 : Int32))) D q2 hq2) kX12_bits vX12_bits (by decide +kernel) (by decide +kernel) (by decide +kernel) rfl rfl ⟨rfl, rfl⟩ rfl ?_
    refine mz_Go.run (gs := []) (st' := (23, [some (.inl x0), some (.inl x1), some (.inl x2), some (.inl q2)], [.inl x1, .inl x0], D)) bX12_partOf_20 oX12_partOf_20 rfl trivial ?_
    obtain ⟨q3, hq3, h⟩ := mz_bd_some h
    refine mz_Go.callS (I := IX12_partOf) (J := IX12_bits) (as := [.inl x1]) (idx := 254) (pl := 1888) (rest := [.inl x0]) (mX12_bits x1 D q3 hq3) kX12_bits vX12_bits (by decide +kernel) (by decide +kernel) (by decide +kernel) rfl rfl ⟨rfl, rfl⟩ rfl ?_
    obtain ⟨hb4, h⟩ := mz_gd_some h
    refine mz_Go.run (gs := [mz_nz q3]) (st' := (30, [some (.inl x0), some (.inl x1), some (.inl x2), some (.inl q2)], [.inl x1, .inl x0, .inl q2, .inl (x0 / q3)], D)) bX12_partOf_26 oX12_partOf_26 rfl ⟨hb4, trivial⟩ ?_
    obtain ⟨q5, hq5, h⟩ := mz_bd_some h
    refine mz_Go.callS (I := IX12_partOf) (J := IX12_bits) (as := [.inl x1]) (idx := 254) (pl := 1888) (rest := [.inl x0, .inl q2, .inl (x0 / q3)]) (mX12_bits x1 D q5 hq5) kX12_bits vX12_bits (by decide +kernel) (by decide +kernel) (by decide +kernel) rfl rfl ⟨rfl, rfl⟩ rfl ?_
    obtain ⟨hb6, h⟩ := mz_gd_some h
    refine mz_Go.run (gs := [mz_nz q5]) (st' := (if (x0 - x0 / q5 * q5) ≤ q2 then (41, [some (.inl x0), some (.inl x1), some (.inl x2), some (.inl q2)], [.inl (x0 / q3)], D) else (37, [some (.inl x0), some (.inl x1), some (.inl x2), some (.inl q2)], [.inl (x0 / q3)], D))) bX12_partOf_33 oX12_partOf_33 rfl ⟨hb6, trivial⟩ ?_
    refine mz_Go.ite (fun hc7 => ?_) (fun hc7 => ?_)
    · have h := mz_ifp hc7 h
      refine mz_Go.run (gs := []) (st' := (43, [some (.inl x0), some (.inl x1), some (.inl x2), some (.inl q2)], [.inl ((x0 / q3) + (0 : Int32))], D)) bX12_partOf_41 oX12_partOf_41 rfl trivial ?_
      cases h
      exact mz_Go.reti (by decide +kernel) rfl ⟨Nat.le_refl _, Nat.le_refl _⟩ rfl
    · have h := mz_ifn hc7 h
      refine mz_Go.run (gs := []) (st' := (43, [some (.inl x0), some (.inl x1), some (.inl x2), some (.inl q2)], [.inl ((x0 / q3) + (1 : Int32))], D)) bX12_partOf_37 oX12_partOf_37 rfl trivial ?_
      cases h
      exact mz_Go.reti (by decide +kernel) rfl ⟨Nat.le_refl _, Nat.le_refl _⟩ rfl
