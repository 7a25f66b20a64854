def bX12_personTo_0 : List mz_E := [(0, .aload_n 0, 0, 0, 0, 0, 0), (1, .iconst 0, 0, 0, 0, 0, 0), (2, .aload_n 0, 0, 0, 0, 0, 0), (3, .getfield 7, 12, 0, 1576, 0, 0), (6, .iconst 0, 0, 0, 0, 0, 0), (7, .iaload, 0, 0, 0, 0, 0), (8, .iload_n 1, 0, 0, 0, 0, 0)]
theorem oX12_personTo_0 : bX12_personTo_0.all (mz_ok RX12 cX12_personTo 2) = true := by decide +kernel
abbrev IX12_personTo : mz_I := (yX12_personTo, cX12_personTo, 2, (some .boolean), 0, 7, 0, 0)
theorem kX12_personTo : mz_okm IX12_personTo 1863 141 1862 1 = true := by decide +kernel
theorem vX12_personTo : mz_okV IX12_personTo 1862 76 = true := by decide +kernel
def fX12_personTo (x1 : Int32) (D : mz_D) : Option (Int32 × mz_D) := (Option.bind (fX12_oldOne (0 : Int32) (D.1 0 201 ((0 : Int32)).toNatClampNeg) x1 D) fun q1 => (mz_gd (mz_bo q1.1) (some (q1.1, q1.2))))
set_option maxHeartbeats 4000000 in
theorem mX12_personTo (x1 : Int32) (D : mz_D) (r : (Int32 × mz_D)) (h : fX12_personTo x1 D = some r) : mz_Met IX12_personTo [.inr (.inr (some (0, 200))), .inl x1] D (some (.inl r.1), r.2) := by
  refine mz_Met.of (by decide +kernel) (Nat.le_of_ble_eq_true rfl) ?_
  show mz_Go IX12_personTo (some (.inl r.1), r.2) 0 0 (0, [some (.inr (.inr (some (0, 200)))), some (.inl x1)], [], D)
  rw [fX12_personTo] at h
  refine mz_Go.run (gs := [mz_kz 0 0 200, mz_kz 0 0 201, mz_ix (0 : Int32) 3000]) (st' := (9, [some (.inr (.inr (some (0, 200)))), some (.inl x1)], [.inl x1, .inl (D.1 0 201 ((0 : Int32)).toNatClampNeg), .inl (0 : Int32), .inr (.inr (some (0, 200)))], D)) bX12_personTo_0 oX12_personTo_0 rfl ⟨rfl, rfl, (by decide), trivial⟩ ?_
  obtain ⟨q1, hq1, h⟩ := mz_bd_some h
  refine mz_Go.callV (I := IX12_personTo) (J := IX12_oldOne) (as := [.inl (0 : Int32), .inl (D.1 0 201 ((0 : Int32)).toNatClampNeg), .inl x1]) (ci := 12) (g := 0) (o := 200) (idx := 177) (pl := 1812) (rest := []) (mX12_oldOne (0 : Int32) (D.1 0 201 ((0 : Int32)).toNatClampNeg) x1 D q1 hq1) kX12_oldOne vX12_oldOne (by decide +kernel) (by decide +kernel) (by decide +kernel) rfl rfl ⟨rfl, rfl⟩ rfl rfl rfl rfl ?_
  obtain ⟨hb2, h⟩ := mz_gd_some h
  cases h
  exact mz_Go.retz (by decide +kernel) rfl ⟨Nat.le_refl _, Nat.le_refl _⟩ hb2 rfl
def bX12_test_0 : List mz_E := [(0, .aload_n 0, 0, 0, 0, 0, 0)]
theorem oX12_test_0 : bX12_test_0.all (mz_ok RX12 cX12_test 3) = true := by decide +kernel
def bX12_test_6 : List mz_E := [(6, .istore_n 2, 0, 0, 0, 0, 0), (7, .iload_n 2, 0, 0, 0, 0, 0), (8, .bipush 28, 0, 0, 0, 28, 0), (10, .if_icmp .eq 20, 0, 30, 0, 0, 0)]
theorem oX12_test_6 : bX12_test_6.all (mz_ok RX12 cX12_test 3) = true := by decide +kernel
def bX12_test_30 : List mz_E := [(30, .aload_n 0, 0, 0, 0, 0, 0), (31, .getfield 7, 12, 0, 1576, 0, 0), (34, .iload_n 1, 0, 0, 0, 0, 0), (35, .sipush 2400, 0, 0, 0, 2400, 0), (38, .iload_n 2, 0, 0, 0, 0, 0), (39, .iadd, 0, 0, 0, 0, 0), (40, .iastore, 0, 0, 0, 0, 0), (41, .aload_n 0, 0, 0, 0, 0, 0)]
theorem oX12_test_30 : bX12_test_30.all (mz_ok RX12 cX12_test 3) = true := by decide +kernel
def bX12_test_45 : List mz_E := [(45, .aload_n 0, 0, 0, 0, 0, 0), (46, .iload_n 1, 0, 0, 0, 0, 0), (47, .iconst 1, 0, 0, 0, 1, 0), (48, .iadd, 0, 0, 0, 0, 0)]
theorem oX12_test_45 : bX12_test_45.all (mz_ok RX12 cX12_test 3) = true := by decide +kernel
def bX12_test_52 : List mz_E := [(52, .ifCond .eq 28, 0, 80, 0, 0, 0)]
theorem oX12_test_52 : bX12_test_52.all (mz_ok RX12 cX12_test 3) = true := by decide +kernel
def bX12_test_80 : List mz_E := [(80, .iconst 0, 0, 0, 0, 0, 0)]
theorem oX12_test_80 : bX12_test_80.all (mz_ok RX12 cX12_test 3) = true := by decide +kernel
def bX12_test_55 : List mz_E := [(55, .iload_n 2, 0, 0, 0, 0, 0), (56, .iconst 3, 0, 0, 0, 3, 0), (57, .if_icmp .ne 25, 0, 82, 0, 0, 0)]
theorem oX12_test_55 : bX12_test_55.all (mz_ok RX12 cX12_test 3) = true := by decide +kernel
def bX12_test_60 : List mz_E := [(60, .aload_n 0, 0, 0, 0, 0, 0), (61, .iconst 0, 0, 0, 0, 0, 0), (62, .aload_n 0, 0, 0, 0, 0, 0), (63, .getfield 7, 12, 0, 1576, 0, 0), (66, .iconst 0, 0, 0, 0, 0, 0), (67, .iaload, 0, 0, 0, 0, 0), (68, .iload_n 1, 0, 0, 0, 0, 0), (69, .iconst 1, 0, 0, 0, 1, 0), (70, .iadd, 0, 0, 0, 0, 0), (71, .iload_n 1, 0, 0, 0, 0, 0), (72, .iconst 2, 0, 0, 0, 2, 0), (73, .iadd, 0, 0, 0, 0, 0)]
theorem oX12_test_60 : bX12_test_60.all (mz_ok RX12 cX12_test 3) = true := by decide +kernel
def bX12_test_77 : List mz_E := [(77, .ifCond .ne 5, 0, 82, 0, 0, 0)]
theorem oX12_test_77 : bX12_test_77.all (mz_ok RX12 cX12_test 3) = true := by decide +kernel
def bX12_test_82 : List mz_E := [(82, .iload_n 2, 0, 0, 0, 0, 0), (83, .bipush 15, 0, 0, 0, 15, 0), (85, .if_icmp .ne 5, 0, 90, 0, 0, 0)]
theorem oX12_test_82 : bX12_test_82.all (mz_ok RX12 cX12_test 3) = true := by decide +kernel
def bX12_test_88 : List mz_E := [(88, .iconst 1, 0, 0, 0, 1, 0)]
theorem oX12_test_88 : bX12_test_88.all (mz_ok RX12 cX12_test 3) = true := by decide +kernel
def bX12_test_90 : List mz_E := [(90, .aload_n 0, 0, 0, 0, 0, 0), (91, .bipush 60, 0, 0, 0, 60, 0)]
theorem oX12_test_90 : bX12_test_90.all (mz_ok RX12 cX12_test 3) = true := by decide +kernel
def bX12_test_96 : List mz_E := [(96, .ifCond .ne 27, 0, 123, 0, 0, 0)]
theorem oX12_test_96 : bX12_test_96.all (mz_ok RX12 cX12_test 3) = true := by decide +kernel
def bX12_test_99 : List mz_E := [(99, .aload_n 0, 0, 0, 0, 0, 0), (100, .bipush 62, 0, 0, 0, 62, 0)]
theorem oX12_test_99 : bX12_test_99.all (mz_ok RX12 cX12_test 3) = true := by decide +kernel
def bX12_test_105 : List mz_E := [(105, .ifCond .ne 18, 0, 123, 0, 0, 0)]
theorem oX12_test_105 : bX12_test_105.all (mz_ok RX12 cX12_test 3) = true := by decide +kernel
def bX12_test_108 : List mz_E := [(108, .aload_n 0, 0, 0, 0, 0, 0), (109, .bipush 61, 0, 0, 0, 61, 0)]
theorem oX12_test_108 : bX12_test_108.all (mz_ok RX12 cX12_test 3) = true := by decide +kernel
def bX12_test_114 : List mz_E := [(114, .ifCond .ne 9, 0, 123, 0, 0, 0)]
theorem oX12_test_114 : bX12_test_114.all (mz_ok RX12 cX12_test 3) = true := by decide +kernel
def bX12_test_117 : List mz_E := [(117, .aload_n 0, 0, 0, 0, 0, 0), (118, .iconst 2, 0, 0, 0, 2, 0)]
theorem oX12_test_117 : bX12_test_117.all (mz_ok RX12 cX12_test 3) = true := by decide +kernel
def bX12_test_123 : List mz_E := [(123, .aload_n 0, 0, 0, 0, 0, 0), (124, .getfield 7, 12, 0, 1576, 0, 0), (127, .iload_n 1, 0, 0, 0, 0, 0), (128, .iconst 5, 0, 0, 0, 5, 0), (129, .iadd, 0, 0, 0, 0, 0), (130, .aload_n 0, 0, 0, 0, 0, 0), (131, .getfield 117, 12, 15, 1591, 0, 0), (134, .iastore, 0, 0, 0, 0, 0), (135, .aload_n 0, 0, 0, 0, 0, 0)]
theorem oX12_test_123 : bX12_test_123.all (mz_ok RX12 cX12_test 3) = true := by decide +kernel
def bX12_test_139 : List mz_E := [(139, .aload_n 0, 0, 0, 0, 0, 0), (140, .iload_n 1, 0, 0, 0, 0, 0), (141, .iconst 3, 0, 0, 0, 3, 0), (142, .iadd, 0, 0, 0, 0, 0), (143, .iconst 0, 0, 0, 0, 0, 0), (144, .iload_n 2, 0, 0, 0, 0, 0), (145, .bipush 28, 0, 0, 0, 28, 0), (147, .if_icmp .ne 9, 0, 156, 0, 0, 0)]
theorem oX12_test_139 : bX12_test_139.all (mz_ok RX12 cX12_test 3) = true := by decide +kernel
def bX12_test_150 : List mz_E := [(150, .sipush 999, 0, 0, 0, 999, 0), (153, .goto 6, 0, 159, 0, 0, 0)]
theorem oX12_test_150 : bX12_test_150.all (mz_ok RX12 cX12_test 3) = true := by decide +kernel
def bX12_test_156 : List mz_E := [(156, .sipush 9999, 0, 0, 0, 9999, 0)]
theorem oX12_test_156 : bX12_test_156.all (mz_ok RX12 cX12_test 3) = true := by decide +kernel
def bX12_test_13 : List mz_E := [(13, .iload_n 2, 0, 0, 0, 0, 0), (14, .iconst 3, 0, 0, 0, 3, 0), (15, .if_icmp .eq 15, 0, 30, 0, 0, 0)]
theorem oX12_test_13 : bX12_test_13.all (mz_ok RX12 cX12_test 3) = true := by decide +kernel
def bX12_test_18 : List mz_E := [(18, .iload_n 2, 0, 0, 0, 0, 0), (19, .bipush 15, 0, 0, 0, 15, 0), (21, .if_icmp .eq 9, 0, 30, 0, 0, 0)]
theorem oX12_test_18 : bX12_test_18.all (mz_ok RX12 cX12_test 3) = true := by decide +kernel
def bX12_test_24 : List mz_E := [(24, .aload_n 0, 0, 0, 0, 0, 0), (25, .iconst 2, 0, 0, 0, 2, 0)]
theorem oX12_test_24 : bX12_test_24.all (mz_ok RX12 cX12_test 3) = true := by decide +kernel
abbrev IX12_test : mz_I := (yX12_test, cX12_test, 3, (some .boolean), 0, 8, 0, 0)
theorem kX12_test : mz_okm IX12_test 1871 141 1870 1 = true := by decide +kernel
theorem vX12_test : mz_okV IX12_test 1870 78 = true := by decide +kernel
def fX12_test_159 (s0 : Int32) (s1 : Int32) (s2 : Int32) (D : mz_D) : Option (Int32 × mz_D) := (Option.bind (fX12_number s2 s1 s0 D) fun q1 => (mz_gd (mz_bo q1.1) (some (q1.1, q1.2))))
set_option maxHeartbeats 4000000 in
theorem tX12_test_159 (r : (Int32 × mz_D)) : ∀ (s0 : Int32) (s1 : Int32) (s2 : Int32) (D : mz_D), fX12_test_159 s0 s1 s2 D = some r → mz_Go IX12_test (some (.inl r.1), r.2) 0 0 (159, [none, none, none], [.inl s0, .inl s1, .inl s2, .inr (.inr (some (0, 200)))], D) := by
  intro s0 s1 s2 D h
  rw [fX12_test_159] at h
  obtain ⟨q1, hq1, h⟩ := mz_bd_some h
  refine mz_Go.callV (I := IX12_test) (J := IX12_number) (as := [.inl s2, .inl s1, .inl s0]) (ci := 12) (g := 0) (o := 200) (idx := 184) (pl := 1800) (rest := []) (mX12_number s2 s1 s0 D q1 hq1) kX12_number vX12_number (by decide +kernel) (by decide +kernel) (by decide +kernel) rfl rfl ⟨rfl, rfl⟩ rfl rfl rfl rfl ?_
  obtain ⟨hb2, h⟩ := mz_gd_some h
  cases h
  exact mz_Go.retz (by decide +kernel) rfl ⟨Nat.le_refl _, Nat.le_refl _⟩ hb2 rfl
def fX12_test_123 (x1 : Int32) (x2 : Int32) (D : mz_D) : Option (Int32 × mz_D) := (mz_gd (mz_ix (x1 + (5 : Int32)) 3000) (Option.bind (fX12_ahead (mz_wi D 0 201 ((x1 + (5 : Int32))).toNatClampNeg (D.1 0 200 15))) fun q2 => (if x2 = (28 : Int32) then (fX12_test_159 (999 : Int32) (0 : Int32) (x1 + (3 : Int32)) q2) else (fX12_test_159 (9999 : Int32) (0 : Int32) (x1 + (3 : Int32)) q2))))
set_option maxHeartbeats 4000000 in
theorem tX12_test_123 (r : (Int32 × mz_D)) : ∀ (x1 : Int32) (x2 : Int32) (D : mz_D), fX12_test_123 x1 x2 D = some r → mz_Go IX12_test (some (.inl r.1), r.2) 0 0 (123, [some (.inr (.inr (some (0, 200)))), some (.inl x1), some (.inl x2)], [], D) := by
  intro x1 x2 D h
  rw [fX12_test_123] at h
  obtain ⟨hb1, h⟩ := mz_gd_some h
  refine mz_Go.run (gs := [mz_kz 0 0 200, mz_kz 0 0 200, mz_kz 0 0 201, mz_ix (x1 + (5 : Int32)) 3000]) (st' := (136, [some (.inr (.inr (some (0, 200)))), some (.inl x1), some (.inl x2)], [.inr (.inr (some (0, 200)))], (mz_wi D 0 201 ((x1 + (5 : Int32))).toNatClampNeg (D.1 0 200 15)))) bX12_test_123 oX12_test_123 rfl ⟨rfl, rfl, rfl, hb1, trivial⟩ ?_
  obtain ⟨q2, hq2, h⟩ := mz_bd_some h
  refine mz_Go.callV (I := IX12_test) (J := IX12_ahead) (as := []) (ci := 12) (g := 0) (o := 200) (idx := 151) (pl := 1745) (rest := []) (mX12_ahead (mz_wi D 0 201 ((x1 + (5 : Int32))).toNatClampNeg (D.1 0 200 15)) q2 hq2) kX12_ahead vX12_ahead (by decide +kernel) (by decide +kernel) (by decide +kernel) rfl rfl ⟨rfl, rfl⟩ rfl rfl rfl rfl ?_
  refine mz_Go.run (gs := []) (st' := (if x2 = (28 : Int32) then (150, [some (.inr (.inr (some (0, 200)))), some (.inl x1), some (.inl x2)], [.inl (0 : Int32), .inl (x1 + (3 : Int32)), .inr (.inr (some (0, 200)))], q2) else (156, [some (.inr (.inr (some (0, 200)))), some (.inl x1), some (.inl x2)], [.inl (0 : Int32), .inl (x1 + (3 : Int32)), .inr (.inr (some (0, 200)))], q2))) bX12_test_139 oX12_test_139 rfl trivial ?_
  refine mz_Go.ite (fun hc3 => ?_) (fun hc3 => ?_)
  · have h := mz_ifp hc3 h
    refine mz_Go.run (gs := []) (st' := (159, [some (.inr (.inr (some (0, 200)))), some (.inl x1), some (.inl x2)], [.inl (999 : Int32), .inl (0 : Int32), .inl (x1 + (3 : Int32)), .inr (.inr (some (0, 200)))], q2)) bX12_test_150 oX12_test_150 rfl trivial ?_
    exact mz_Go.drop [false, false, false] (tX12_test_159 r (999 : Int32) (0 : Int32) (x1 + (3 : Int32)) q2 h)
  · have h := mz_ifn hc3 h
    refine mz_Go.run (gs := []) (st' := (159, [some (.inr (.inr (some (0, 200)))), some (.inl x1), some (.inl x2)], [.inl (9999 : Int32), .inl (0 : Int32), .inl (x1 + (3 : Int32)), .inr (.inr (some (0, 200)))], q2)) bX12_test_156 oX12_test_156 rfl trivial ?_
    exact mz_Go.drop [false, false, false] (tX12_test_159 r (9999 : Int32) (0 : Int32) (x1 + (3 : Int32)) q2 h)
def fX12_test_82 (x1 : Int32) (x2 : Int32) (D : mz_D) : Option (Int32 × mz_D) := (if x2 = (15 : Int32) then (some ((1 : Int32), D)) else (if (fX12_isSign (60 : Int32) D) = 0 then (if (fX12_isSign (62 : Int32) D) = 0 then (if (fX12_isSign (61 : Int32) D) = 0 then (Option.bind (fX12_fails (2 : Int32) D) fun q5 => (mz_gd (mz_bo q5.1) (some (q5.1, q5.2)))) else (fX12_test_123 x1 x2 D)) else (fX12_test_123 x1 x2 D)) else (fX12_test_123 x1 x2 D)))
set_option maxHeartbeats 4000000 in
theorem tX12_test_82 (r : (Int32 × mz_D)) : ∀ (x1 : Int32) (x2 : Int32) (D : mz_D), fX12_test_82 x1 x2 D = some r → mz_Go IX12_test (some (.inl r.1), r.2) 0 0 (82, [some (.inr (.inr (some (0, 200)))), some (.inl x1), some (.inl x2)], [], D) := by
  intro x1 x2 D h
  rw [fX12_test_82] at h
  refine mz_Go.run (gs := []) (st' := (if x2 = (15 : Int32) then (88, [some (.inr (.inr (some (0, 200)))), some (.inl x1), some (.inl x2)], [], D) else (90, [some (.inr (.inr (some (0, 200)))), some (.inl x1), some (.inl x2)], [], D))) bX12_test_82 oX12_test_82 rfl trivial ?_
  refine mz_Go.ite (fun hc1 => ?_) (fun hc1 => ?_)
  · have h := mz_ifp hc1 h
    refine mz_Go.run (gs := []) (st' := (89, [some (.inr (.inr (some (0, 200)))), some (.inl x1), some (.inl x2)], [.inl (1 : Int32)], D)) bX12_test_88 oX12_test_88 rfl trivial ?_
    cases h
    exact mz_Go.retz (by decide +kernel) rfl ⟨Nat.le_refl _, Nat.le_refl _⟩ (by decide) rfl
  · have h := mz_ifn hc1 h
    refine mz_Go.run (gs := []) (st' := (93, [some (.inr (.inr (some (0, 200)))), some (.inl x1), some (.inl x2)], [.inl (60 : Int32), .inr (.inr (some (0, 200)))], D)) bX12_test_90 oX12_test_90 rfl trivial ?_
    refine mz_Go.callV (I := IX12_test) (J := IX12_isSign) (as := [.inl (60 : Int32)]) (ci := 12) (g := 0) (o := 200) (idx := 154) (pl := 1836) (rest := []) (mX12_isSign (60 : Int32) D _ rfl) kX12_isSign vX12_isSign (by decide +kernel) (by decide +kernel) (by decide +kernel) rfl rfl ⟨rfl, rfl⟩ rfl rfl rfl rfl ?_
    refine mz_Go.run (gs := []) (st' := (if (fX12_isSign (60 : Int32) D) = 0 then (99, [some (.inr (.inr (some (0, 200)))), some (.inl x1), some (.inl x2)], [], D) else (123, [some (.inr (.inr (some (0, 200)))), some (.inl x1), some (.inl x2)], [], D))) bX12_test_96 oX12_test_96 rfl trivial ?_
    refine mz_Go.ite (fun hc2 => ?_) (fun hc2 => ?_)
    · have h := mz_ifp hc2 h
      refine mz_Go.run (gs := []) (st' := (102, [some (.inr (.inr (some (0, 200)))), some (.inl x1), some (.inl x2)], [.inl (62 : Int32), .inr (.inr (some (0, 200)))], D)) bX12_test_99 oX12_test_99 rfl trivial ?_
      refine mz_Go.callV (I := IX12_test) (J := IX12_isSign) (as := [.inl (62 : Int32)]) (ci := 12) (g := 0) (o := 200) (idx := 154) (pl := 1836) (rest := []) (mX12_isSign (62 : Int32) D _ rfl) kX12_isSign vX12_isSign (by decide +kernel) (by decide +kernel) (by decide +kernel) rfl rfl ⟨rfl, rfl⟩ rfl rfl rfl rfl ?_
      refine mz_Go.run (gs := []) (st' := (if (fX12_isSign (62 : Int32) D) = 0 then (108, [some (.inr (.inr (some (0, 200)))), some (.inl x1), some (.inl x2)], [], D) else (123, [some (.inr (.inr (some (0, 200)))), some (.inl x1), some (.inl x2)], [], D))) bX12_test_105 oX12_test_105 rfl trivial ?_
      refine mz_Go.ite (fun hc3 => ?_) (fun hc3 => ?_)
      · have h := mz_ifp hc3 h
        refine mz_Go.run (gs := []) (st' := (111, [some (.inr (.inr (some (0, 200)))), some (.inl x1), some (.inl x2)], [.inl (61 : Int32), .inr (.inr (some (0, 200)))], D)) bX12_test_108 oX12_test_108 rfl trivial ?_
        refine mz_Go.callV (I := IX12_test) (J := IX12_isSign) (as := [.inl (61 : Int32)]) (ci := 12) (g := 0) (o := 200) (idx := 154) (pl := 1836) (rest := []) (mX12_isSign (61 : Int32) D _ rfl) kX12_isSign vX12_isSign (by decide +kernel) (by decide +kernel) (by decide +kernel) rfl rfl ⟨rfl, rfl⟩ rfl rfl rfl rfl ?_
        refine mz_Go.run (gs := []) (st' := (if (fX12_isSign (61 : Int32) D) = 0 then (117, [some (.inr (.inr (some (0, 200)))), some (.inl x1), some (.inl x2)], [], D) else (123, [some (.inr (.inr (some (0, 200)))), some (.inl x1), some (.inl x2)], [], D))) bX12_test_114 oX12_test_114 rfl trivial ?_
        refine mz_Go.ite (fun hc4 => ?_) (fun hc4 => ?_)
        · have h := mz_ifp hc4 h
          refine mz_Go.run (gs := []) (st' := (119, [some (.inr (.inr (some (0, 200)))), some (.inl x1), some (.inl x2)], [.inl (2 : Int32), .inr (.inr (some (0, 200)))], D)) bX12_test_117 oX12_test_117 rfl trivial ?_
          obtain ⟨q5, hq5, h⟩ := mz_bd_some h
          refine mz_Go.callV (I := IX12_test) (J := IX12_fails) (as := [.inl (2 : Int32)]) (ci := 12) (g := 0) (o := 200) (idx := 157) (pl := 1780) (rest := []) (mX12_fails (2 : Int32) D q5 hq5) kX12_fails vX12_fails (by decide +kernel) (by decide +kernel) (by decide +kernel) rfl rfl ⟨rfl, rfl⟩ rfl rfl rfl rfl ?_
          obtain ⟨hb6, h⟩ := mz_gd_some h
          cases h
          exact mz_Go.retz (by decide +kernel) rfl ⟨Nat.le_refl _, Nat.le_refl _⟩ hb6 rfl
        · have h := mz_ifn hc4 h
          exact mz_Go.drop [true, true, true] (tX12_test_123 r x1 x2 D h)
      · have h := mz_ifn hc3 h
        exact mz_Go.drop [true, true, true] (tX12_test_123 r x1 x2 D h)
    · have h := mz_ifn hc2 h
      exact mz_Go.drop [true, true, true] (tX12_test_123 r x1 x2 D h)
def fX12_test_30 (x1 : Int32) (x2 : Int32) (D : mz_D) : Option (Int32 × mz_D) := (mz_gd (mz_ix x1 3000) (Option.bind (fX12_ahead (mz_wi D 0 201 (x1).toNatClampNeg ((2400 : Int32) + x2))) fun q2 => (Option.bind (fX12_personTo (x1 + (1 : Int32)) q2) fun q3 => (if q3.1 = 0 then (some ((0 : Int32), q3.2)) else (if x2 = (3 : Int32) then (Option.bind (fX12_otherOne (0 : Int32) (q3.2.1 0 201 ((0 : Int32)).toNatClampNeg) (x1 + (1 : Int32)) (x1 + (2 : Int32)) q3.2) fun q6 => (if q6.1 = 0 then (some ((0 : Int32), q6.2)) else (fX12_test_82 x1 x2 q6.2))) else (fX12_test_82 x1 x2 q3.2))))))
set_option maxHeartbeats 4000000 in
theorem tX12_test_30 (r : (Int32 × mz_D)) : ∀ (x1 : Int32) (x2 : Int32) (D : mz_D), fX12_test_30 x1 x2 D = some r → mz_Go IX12_test (some (.inl r.1), r.2) 0 0 (30, [some (.inr (.inr (some (0, 200)))), some (.inl x1), some (.inl x2)], [], D) := by
  intro x1 x2 D h
  rw [fX12_test_30] at h
  obtain ⟨hb1, h⟩ := mz_gd_some h
  refine mz_Go.run (gs := [mz_kz 0 0 200, mz_kz 0 0 201, mz_ix x1 3000]) (st' := (42, [some (.inr (.inr (some (0, 200)))), some (.inl x1), some (.inl x2)], [.inr (.inr (some (0, 200)))], (mz_wi D 0 201 (x1).toNatClampNeg ((2400 : Int32) + x2)))) bX12_test_30 oX12_test_30 rfl ⟨rfl, rfl, hb1, trivial⟩ ?_
  obtain ⟨q2, hq2, h⟩ := mz_bd_some h
  refine mz_Go.callV (I := IX12_test) (J := IX12_ahead) (as := []) (ci := 12) (g := 0) (o := 200) (idx := 151) (pl := 1745) (rest := []) (mX12_ahead (mz_wi D 0 201 (x1).toNatClampNeg ((2400 : Int32) + x2)) q2 hq2) kX12_ahead vX12_ahead (by decide +kernel) (by decide +kernel) (by decide +kernel) rfl rfl ⟨rfl, rfl⟩ rfl rfl rfl rfl ?_
  refine mz_Go.run (gs := []) (st' := (49, [some (.inr (.inr (some (0, 200)))), some (.inl x1), some (.inl x2)], [.inl (x1 + (1 : Int32)), .inr (.inr (some (0, 200)))], q2)) bX12_test_45 oX12_test_45 rfl trivial ?_
  obtain ⟨q3, hq3, h⟩ := mz_bd_some h
  refine mz_Go.callV (I := IX12_test) (J := IX12_personTo) (as := [.inl (x1 + (1 : Int32))]) (ci := 12) (g := 0) (o := 200) (idx := 226) (pl := 1860) (rest := []) (mX12_personTo (x1 + (1 : Int32)) q2 q3 hq3) kX12_personTo vX12_personTo (by decide +kernel) (by decide +kernel) (by decide +kernel) rfl rfl ⟨rfl, rfl⟩ rfl rfl rfl rfl ?_
  refine mz_Go.run (gs := []) (st' := (if q3.1 = 0 then (80, [some (.inr (.inr (some (0, 200)))), some (.inl x1), some (.inl x2)], [], q3.2) else (55, [some (.inr (.inr (some (0, 200)))), some (.inl x1), some (.inl x2)], [], q3.2))) bX12_test_52 oX12_test_52 rfl trivial ?_
  refine mz_Go.ite (fun hc4 => ?_) (fun hc4 => ?_)
  · have h := mz_ifp hc4 h
    refine mz_Go.run (gs := []) (st' := (81, [some (.inr (.inr (some (0, 200)))), some (.inl x1), some (.inl x2)], [.inl (0 : Int32)], q3.2)) bX12_test_80 oX12_test_80 rfl trivial ?_
    cases h
    exact mz_Go.retz (by decide +kernel) rfl ⟨Nat.le_refl _, Nat.le_refl _⟩ (by decide) rfl
  · have h := mz_ifn hc4 h
    refine mz_Go.run (gs := []) (st' := (if x2 = (3 : Int32) then (60, [some (.inr (.inr (some (0, 200)))), some (.inl x1), some (.inl x2)], [], q3.2) else (82, [some (.inr (.inr (some (0, 200)))), some (.inl x1), some (.inl x2)], [], q3.2))) bX12_test_55 oX12_test_55 rfl trivial ?_
    refine mz_Go.ite (fun hc5 => ?_) (fun hc5 => ?_)
    · have h := mz_ifp hc5 h
      refine mz_Go.run (gs := [mz_kz 0 0 200, mz_kz 0 0 201, mz_ix (0 : Int32) 3000]) (st' := (74, [some (.inr (.inr (some (0, 200)))), some (.inl x1), some (.inl x2)], [.inl (x1 + (2 : Int32)), .inl (x1 + (1 : Int32)), .inl (q3.2.1 0 201 ((0 : Int32)).toNatClampNeg), .inl (0 : Int32), .inr (.inr (some (0, 200)))], q3.2)) bX12_test_60 oX12_test_60 rfl ⟨rfl, rfl, (by decide), trivial⟩ ?_
      obtain ⟨q6, hq6, h⟩ := mz_bd_some h
      refine mz_Go.callV (I := IX12_test) (J := IX12_otherOne) (as := [.inl (0 : Int32), .inl (q3.2.1 0 201 ((0 : Int32)).toNatClampNeg), .inl (x1 + (1 : Int32)), .inl (x1 + (2 : Int32))]) (ci := 12) (g := 0) (o := 200) (idx := 191) (pl := 1824) (rest := []) (mX12_otherOne (0 : Int32) (q3.2.1 0 201 ((0 : Int32)).toNatClampNeg) (x1 + (1 : Int32)) (x1 + (2 : Int32)) q3.2 q6 hq6) kX12_otherOne vX12_otherOne (by decide +kernel) (by decide +kernel) (by decide +kernel) rfl rfl ⟨rfl, rfl⟩ rfl rfl rfl rfl ?_
      refine mz_Go.run (gs := []) (st' := (if q6.1 = 0 then (80, [some (.inr (.inr (some (0, 200)))), some (.inl x1), some (.inl x2)], [], q6.2) else (82, [some (.inr (.inr (some (0, 200)))), some (.inl x1), some (.inl x2)], [], q6.2))) bX12_test_77 oX12_test_77 rfl trivial ?_
      refine mz_Go.ite (fun hc7 => ?_) (fun hc7 => ?_)
      · have h := mz_ifp hc7 h
        refine mz_Go.run (gs := []) (st' := (81, [some (.inr (.inr (some (0, 200)))), some (.inl x1), some (.inl x2)], [.inl (0 : Int32)], q6.2)) bX12_test_80 oX12_test_80 rfl trivial ?_
        cases h
        exact mz_Go.retz (by decide +kernel) rfl ⟨Nat.le_refl _, Nat.le_refl _⟩ (by decide) rfl
      · have h := mz_ifn hc7 h
        exact mz_Go.drop [true, true, true] (tX12_test_82 r x1 x2 q6.2 h)
    · have h := mz_ifn hc5 h
      exact mz_Go.drop [true, true, true] (tX12_test_82 r x1 x2 q3.2 h)
def fX12_test (x1 : Int32) (D : mz_D) : Option (Int32 × mz_D) := (Option.bind (fX12_inWords D) fun q1 => (if q1 = (28 : Int32) then (fX12_test_30 x1 q1 D) else (if q1 = (3 : Int32) then (fX12_test_30 x1 q1 D) else (if q1 = (15 : Int32) then (fX12_test_30 x1 q1 D) else (Option.bind (fX12_fails (2 : Int32) D) fun q5 => (mz_gd (mz_bo q5.1) (some (q5.1, q5.2))))))))
set_option maxHeartbeats 4000000 in
theorem mX12_test (x1 : Int32) (D : mz_D) (r : (Int32 × mz_D)) (h : fX12_test x1 D = some r) : mz_Met IX12_test [.inr (.inr (some (0, 200))), .inl x1] D (some (.inl r.1), r.2) := by
  refine mz_Met.of (by decide +kernel) (Nat.le_of_ble_eq_true rfl) ?_
  show mz_Go IX12_test (some (.inl r.1), r.2) 0 0 (0, [some (.inr (.inr (some (0, 200)))), some (.inl x1), none], [], D)
  rw [fX12_test] at h
  refine mz_Go.run (gs := []) (st' := (1, [some (.inr (.inr (some (0, 200)))), some (.inl x1), none], [.inr (.inr (some (0, 200)))], D)) bX12_test_0 oX12_test_0 rfl trivial ?_
  refine mz_Go.ldcK rfl (by decide +kernel) ?_
  obtain ⟨q1, hq1, h⟩ := mz_bd_some h
  refine mz_Go.callV (I := IX12_test) (J := IX12_inWords) (as := [.inr (.inr (some (0, 401)))]) (ci := 12) (g := 0) (o := 200) (idx := 160) (pl := 1770) (rest := []) (mX12_inWords D q1 hq1) kX12_inWords vX12_inWords (by decide +kernel) (by decide +kernel) (by decide +kernel) rfl rfl ⟨rfl, rfl⟩ rfl rfl rfl rfl ?_
  refine mz_Go.run (gs := []) (st' := (if q1 = (28 : Int32) then (30, [some (.inr (.inr (some (0, 200)))), some (.inl x1), some (.inl q1)], [], D) else (13, [some (.inr (.inr (some (0, 200)))), some (.inl x1), some (.inl q1)], [], D))) bX12_test_6 oX12_test_6 rfl trivial ?_
  refine mz_Go.ite (fun hc2 => ?_) (fun hc2 => ?_)
  · have h := mz_ifp hc2 h
    exact mz_Go.drop [true, true, true] (tX12_test_30 r x1 q1 D h)
  · have h := mz_ifn hc2 h
    refine mz_Go.run (gs := []) (st' := (if q1 = (3 : Int32) then (30, [some (.inr (.inr (some (0, 200)))), some (.inl x1), some (.inl q1)], [], D) else (18, [some (.inr (.inr (some (0, 200)))), some (.inl x1), some (.inl q1)], [], D))) bX12_test_13 oX12_test_13 rfl trivial ?_
    refine mz_Go.ite (fun hc3 => ?_) (fun hc3 => ?_)
    · have h := mz_ifp hc3 h
      exact mz_Go.drop [true, true, true] (tX12_test_30 r x1 q1 D h)
    · have h := mz_ifn hc3 h
      refine mz_Go.run (gs := []) (st' := (if q1 = (15 : Int32) then (30, [some (.inr (.inr (some (0, 200)))), some (.inl x1), some (.inl q1)], [], D) else (24, [some (.inr (.inr (some (0, 200)))), some (.inl x1), some (.inl q1)], [], D))) bX12_test_18 oX12_test_18 rfl trivial ?_
      refine mz_Go.ite (fun hc4 => ?_) (fun hc4 => ?_)
      · have h := mz_ifp hc4 h
        exact mz_Go.drop [true, true, true] (tX12_test_30 r x1 q1 D h)
      · have h := mz_ifn hc4 h
        refine mz_Go.run (gs := []) (st' := (26, [some (.inr (.inr (some (0, 200)))), some (.inl x1), some (.inl q1)], [.inl (2 : Int32), .inr (.inr (some (0, 200)))], D)) bX12_test_24 oX12_test_24 rfl trivial ?_
        obtain ⟨q5, hq5, h⟩ := mz_bd_some h
        refine mz_Go.callV (I := IX12_test) (J := IX12_fails) (as := [.inl (2 : Int32)]) (ci := 12) (g := 0) (o := 200) (idx := 157) (pl := 1780) (rest := []) (mX12_fails (2 : Int32) D q5 hq5) kX12_fails vX12_fails (by decide +kernel) (by decide +kernel) (by decide +kernel) rfl rfl ⟨rfl, rfl⟩ rfl rfl rfl rfl ?_
        obtain ⟨hb6, h⟩ := mz_gd_some h
        cases h
        exact mz_Go.retz (by decide +kernel) rfl ⟨Nat.le_refl _, Nat.le_refl _⟩ hb6 rfl
def bX12_yearOrder_0 : List mz_E := [(0, .iload_n 1, 0, 0, 0, 0, 0)]
theorem oX12_yearOrder_0 : bX12_yearOrder_0.all (mz_ok RX12 cX12_yearOrder 3) = true := by decide +kernel
def bX12_yearOrder_52 : List mz_E := [(52, .aload_n 0, 0, 0, 0, 0, 0), (53, .getfield 7, 12, 0, 1576, 0, 0), (56, .iload_n 2, 0, 0, 0, 0, 0), (57, .iconst 1, 0, 0, 0, 1, 0), (58, .iadd, 0, 0, 0, 0, 0), (59, .iconst (-1), 0, 0, 0, -1, 0), (60, .iastore, 0, 0, 0, 0, 0), (61, .aload_n 0, 0, 0, 0, 0, 0), (62, .bipush 11, 0, 0, 0, 11, 0)]
theorem oX12_yearOrder_52 : bX12_yearOrder_52.all (mz_ok RX12 cX12_yearOrder 3) = true := by decide +kernel
def bX12_yearOrder_67 : List mz_E := [(67, .ifCond .eq 13, 0, 80, 0, 0, 0)]
theorem oX12_yearOrder_67 : bX12_yearOrder_67.all (mz_ok RX12 cX12_yearOrder 3) = true := by decide +kernel
def bX12_yearOrder_80 : List mz_E := [(80, .iconst 1, 0, 0, 0, 1, 0), (81, .goto 4, 0, 85, 0, 0, 0)]
theorem oX12_yearOrder_80 : bX12_yearOrder_80.all (mz_ok RX12 cX12_yearOrder 3) = true := by decide +kernel
def bX12_yearOrder_70 : List mz_E := [(70, .aload_n 0, 0, 0, 0, 0, 0), (71, .iload_n 2, 0, 0, 0, 0, 0), (72, .iconst 1, 0, 0, 0, 1, 0), (73, .iadd, 0, 0, 0, 0, 0)]
theorem oX12_yearOrder_70 : bX12_yearOrder_70.all (mz_ok RX12 cX12_yearOrder 3) = true := by decide +kernel
def bX12_yearOrder_77 : List mz_E := [(77, .ifCond .eq 7, 0, 84, 0, 0, 0)]
theorem oX12_yearOrder_77 : bX12_yearOrder_77.all (mz_ok RX12 cX12_yearOrder 3) = true := by decide +kernel
def bX12_yearOrder_84 : List mz_E := [(84, .iconst 0, 0, 0, 0, 0, 0)]
theorem oX12_yearOrder_84 : bX12_yearOrder_84.all (mz_ok RX12 cX12_yearOrder 3) = true := by decide +kernel
def bX12_yearOrder_86 : List mz_E := [(86, .aload_n 0, 0, 0, 0, 0, 0), (87, .iload_n 2, 0, 0, 0, 0, 0), (88, .iconst 1, 0, 0, 0, 1, 0), (89, .iadd, 0, 0, 0, 0, 0)]
theorem oX12_yearOrder_86 : bX12_yearOrder_86.all (mz_ok RX12 cX12_yearOrder 3) = true := by decide +kernel
def bX12_yearOrder_93 : List mz_E := [(93, .ifCond .eq 38, 0, 131, 0, 0, 0)]
theorem oX12_yearOrder_93 : bX12_yearOrder_93.all (mz_ok RX12 cX12_yearOrder 3) = true := by decide +kernel
def bX12_yearOrder_131 : List mz_E := [(131, .iconst 0, 0, 0, 0, 0, 0)]
theorem oX12_yearOrder_131 : bX12_yearOrder_131.all (mz_ok RX12 cX12_yearOrder 3) = true := by decide +kernel
def bX12_yearOrder_96 : List mz_E := [(96, .aload_n 0, 0, 0, 0, 0, 0)]
theorem oX12_yearOrder_96 : bX12_yearOrder_96.all (mz_ok RX12 cX12_yearOrder 3) = true := by decide +kernel
def bX12_yearOrder_99 : List mz_E := [(99, .bipush 22, 0, 0, 0, 22, 0)]
theorem oX12_yearOrder_99 : bX12_yearOrder_99.all (mz_ok RX12 cX12_yearOrder 3) = true := by decide +kernel
def bX12_yearOrder_104 : List mz_E := [(104, .ifCond .eq 27, 0, 131, 0, 0, 0)]
theorem oX12_yearOrder_104 : bX12_yearOrder_104.all (mz_ok RX12 cX12_yearOrder 3) = true := by decide +kernel
def bX12_yearOrder_107 : List mz_E := [(107, .aload_n 0, 0, 0, 0, 0, 0), (108, .iconst 0, 0, 0, 0, 0, 0), (109, .aload_n 0, 0, 0, 0, 0, 0), (110, .getfield 7, 12, 0, 1576, 0, 0), (113, .iconst 0, 0, 0, 0, 0, 0), (114, .iaload, 0, 0, 0, 0, 0), (115, .iload_n 2, 0, 0, 0, 0, 0), (116, .iconst 1, 0, 0, 0, 1, 0), (117, .iadd, 0, 0, 0, 0, 0), (118, .iload_n 2, 0, 0, 0, 0, 0), (119, .iconst 2, 0, 0, 0, 2, 0), (120, .iadd, 0, 0, 0, 0, 0)]
theorem oX12_yearOrder_107 : bX12_yearOrder_107.all (mz_ok RX12 cX12_yearOrder 3) = true := by decide +kernel
def bX12_yearOrder_124 : List mz_E := [(124, .ifCond .eq 7, 0, 131, 0, 0, 0)]
theorem oX12_yearOrder_124 : bX12_yearOrder_124.all (mz_ok RX12 cX12_yearOrder 3) = true := by decide +kernel
def bX12_yearOrder_127 : List mz_E := [(127, .iconst 1, 0, 0, 0, 1, 0), (128, .goto 4, 0, 132, 0, 0, 0)]
theorem oX12_yearOrder_127 : bX12_yearOrder_127.all (mz_ok RX12 cX12_yearOrder 3) = true := by decide +kernel
def bX12_yearOrder_133 : List mz_E := [(133, .aload_n 0, 0, 0, 0, 0, 0), (134, .iload_n 2, 0, 0, 0, 0, 0), (135, .iconst 1, 0, 0, 0, 1, 0), (136, .iadd, 0, 0, 0, 0, 0)]
theorem oX12_yearOrder_133 : bX12_yearOrder_133.all (mz_ok RX12 cX12_yearOrder 3) = true := by decide +kernel
def bX12_yearOrder_140 : List mz_E := [(140, .ifCond .eq 52, 0, 192, 0, 0, 0)]
theorem oX12_yearOrder_140 : bX12_yearOrder_140.all (mz_ok RX12 cX12_yearOrder 3) = true := by decide +kernel
def bX12_yearOrder_192 : List mz_E := [(192, .iconst 0, 0, 0, 0, 0, 0)]
theorem oX12_yearOrder_192 : bX12_yearOrder_192.all (mz_ok RX12 cX12_yearOrder 3) = true := by decide +kernel
def bX12_yearOrder_143 : List mz_E := [(143, .aload_n 0, 0, 0, 0, 0, 0)]
theorem oX12_yearOrder_143 : bX12_yearOrder_143.all (mz_ok RX12 cX12_yearOrder 3) = true := by decide +kernel
def bX12_yearOrder_146 : List mz_E := [(146, .bipush 23, 0, 0, 0, 23, 0)]
theorem oX12_yearOrder_146 : bX12_yearOrder_146.all (mz_ok RX12 cX12_yearOrder 3) = true := by decide +kernel
def bX12_yearOrder_151 : List mz_E := [(151, .ifCond .eq 41, 0, 192, 0, 0, 0)]
theorem oX12_yearOrder_151 : bX12_yearOrder_151.all (mz_ok RX12 cX12_yearOrder 3) = true := by decide +kernel
def bX12_yearOrder_154 : List mz_E := [(154, .aload_n 0, 0, 0, 0, 0, 0), (155, .iconst 0, 0, 0, 0, 0, 0), (156, .aload_n 0, 0, 0, 0, 0, 0), (157, .getfield 7, 12, 0, 1576, 0, 0), (160, .iconst 0, 0, 0, 0, 0, 0), (161, .iaload, 0, 0, 0, 0, 0), (162, .iload_n 2, 0, 0, 0, 0, 0), (163, .iconst 1, 0, 0, 0, 1, 0), (164, .iadd, 0, 0, 0, 0, 0), (165, .iload_n 2, 0, 0, 0, 0, 0), (166, .iconst 2, 0, 0, 0, 2, 0), (167, .iadd, 0, 0, 0, 0, 0)]
theorem oX12_yearOrder_154 : bX12_yearOrder_154.all (mz_ok RX12 cX12_yearOrder 3) = true := by decide +kernel
def bX12_yearOrder_171 : List mz_E := [(171, .ifCond .eq 21, 0, 192, 0, 0, 0)]
theorem oX12_yearOrder_171 : bX12_yearOrder_171.all (mz_ok RX12 cX12_yearOrder 3) = true := by decide +kernel
def bX12_yearOrder_174 : List mz_E := [(174, .aload_n 0, 0, 0, 0, 0, 0), (175, .iload_n 2, 0, 0, 0, 0, 0), (176, .iconst 3, 0, 0, 0, 3, 0), (177, .iadd, 0, 0, 0, 0, 0), (178, .iconst 1, 0, 0, 0, 1, 0), (179, .sipush 999, 0, 0, 0, 999, 0)]
theorem oX12_yearOrder_174 : bX12_yearOrder_174.all (mz_ok RX12 cX12_yearOrder 3) = true := by decide +kernel
def bX12_yearOrder_185 : List mz_E := [(185, .ifCond .eq 7, 0, 192, 0, 0, 0)]
theorem oX12_yearOrder_185 : bX12_yearOrder_185.all (mz_ok RX12 cX12_yearOrder 3) = true := by decide +kernel
def bX12_yearOrder_188 : List mz_E := [(188, .iconst 1, 0, 0, 0, 1, 0), (189, .goto 4, 0, 193, 0, 0, 0)]
theorem oX12_yearOrder_188 : bX12_yearOrder_188.all (mz_ok RX12 cX12_yearOrder 3) = true := by decide +kernel
def bX12_yearOrder_211 : List mz_E := [(211, .iconst 1, 0, 0, 0, 1, 0)]
theorem oX12_yearOrder_211 : bX12_yearOrder_211.all (mz_ok RX12 cX12_yearOrder 3) = true := by decide +kernel
def bX12_yearOrder_194 : List mz_E := [(194, .aload_n 0, 0, 0, 0, 0, 0), (195, .iload_n 2, 0, 0, 0, 0, 0)]
theorem oX12_yearOrder_194 : bX12_yearOrder_194.all (mz_ok RX12 cX12_yearOrder 3) = true := by decide +kernel
def bX12_yearOrder_200 : List mz_E := [(200, .aload_n 0, 0, 0, 0, 0, 0), (201, .iload_n 2, 0, 0, 0, 0, 0), (202, .iconst 1, 0, 0, 0, 1, 0), (203, .iadd, 0, 0, 0, 0, 0), (204, .iconst 1, 0, 0, 0, 1, 0), (205, .bipush 99, 0, 0, 0, 99, 0)]
theorem oX12_yearOrder_200 : bX12_yearOrder_200.all (mz_ok RX12 cX12_yearOrder 3) = true := by decide +kernel
abbrev IX12_yearOrder : mz_I := (yX12_yearOrder, cX12_yearOrder, 3, (some .boolean), 0, 9, 0, 0)
theorem kX12_yearOrder : mz_okm IX12_yearOrder 1859 141 1858 2 = true := by decide +kernel
theorem vX12_yearOrder : mz_okV IX12_yearOrder 1858 75 = true := by decide +kernel
def fX12_yearOrder (x1 : Int32) (x2 : Int32) (D : mz_D) : Option (Int32 × mz_D) := (if x1 = (17 : Int32) then (mz_gd (mz_ix (x2 + (1 : Int32)) 3000) (Option.bind (fX12_isThere (11 : Int32) (mz_wi D 0 201 ((x2 + (1 : Int32))).toNatClampNeg (-1 : Int32))) fun q3 => (if q3.1 = 0 then (some ((1 : Int32), q3.2)) else (Option.bind (fX12_personTo (x2 + (1 : Int32)) q3.2) fun q5 => (if q5.1 = 0 then (some ((0 : Int32), q5.2)) else (some ((1 : Int32), q5.2))))))) else (if x1 = (18 : Int32) then (Option.bind (fX12_personTo (x2 + (1 : Int32)) D) fun q8 => (if q8.1 = 0 then (some ((0 : Int32), q8.2)) else (Option.bind (fX12_wantWord (22 : Int32) q8.2) fun q10 => (if q10.1 = 0 then (some ((0 : Int32), q10.2)) else (Option.bind (fX12_otherOne (0 : Int32) (q10.2.1 0 201 ((0 : Int32)).toNatClampNeg) (x2 + (1 : Int32)) (x2 + (2 : Int32)) q10.2) fun q12 => (if q12.1 = 0 then (some ((0 : Int32), q12.2)) else (some ((1 : Int32), q12.2)))))))) else (if x1 = (19 : Int32) then (Option.bind (fX12_personTo (x2 + (1 : Int32)) D) fun q15 => (if q15.1 = 0 then (some ((0 : Int32), q15.2)) else (Option.bind (fX12_wantWord (23 : Int32) q15.2) fun q17 => (if q17.1 = 0 then (some ((0 : Int32), q17.2)) else (Option.bind (fX12_otherOne (0 : Int32) (q17.2.1 0 201 ((0 : Int32)).toNatClampNeg) (x2 + (1 : Int32)) (x2 + (2 : Int32)) q17.2) fun q19 => (if q19.1 = 0 then (some ((0 : Int32), q19.2)) else (Option.bind (fX12_number (x2 + (3 : Int32)) (1 : Int32) (999 : Int32) q19.2) fun q21 => (if q21.1 = 0 then (some ((0 : Int32), q21.2)) else (some ((1 : Int32), q21.2)))))))))) else (if x1 = (20 : Int32) then (Option.bind (fX12_personTo (x2 + (1 : Int32)) D) fun q24 => (if q24.1 = 0 then (some ((0 : Int32), q24.2)) else (Option.bind (fX12_wantWord (23 : Int32) q24.2) fun q26 => (if q26.1 = 0 then (some ((0 : Int32), q26.2)) else (Option.bind (fX12_otherOne (0 : Int32) (q26.2.1 0 201 ((0 : Int32)).toNatClampNeg) (x2 + (1 : Int32)) (x2 + (2 : Int32)) q26.2) fun q28 => (if q28.1 = 0 then (some ((0 : Int32), q28.2)) else (Option.bind (fX12_number (x2 + (3 : Int32)) (1 : Int32) (999 : Int32) q28.2) fun q30 => (if q30.1 = 0 then (some ((0 : Int32), q30.2)) else (some ((1 : Int32), q30.2)))))))))) else (if x1 = (21 : Int32) then (some ((1 : Int32), D)) else (if x1 = (22 : Int32) then (some ((1 : Int32), D)) else (if x1 = (23 : Int32) then (some ((1 : Int32), D)) else (if x1 = (24 : Int32) then (Option.bind (fX12_test x2 D) fun q36 => (mz_gd (mz_bo q36.1) (some (q36.1, q36.2)))) else (if x1 = (25 : Int32) then (Option.bind (fX12_number (x2 + (1 : Int32)) (1 : Int32) (99 : Int32) D) fun q39 => (mz_gd (mz_bo q39.1) (some (q39.1, q39.2)))) else (some ((1 : Int32), D)))))))))))
set_option maxHeartbeats 4000000 in
theorem mX12_yearOrder (x1 : Int32) (x2 : Int32) (D : mz_D) (r : (Int32 × mz_D)) (h : fX12_yearOrder x1 x2 D = some r) : mz_Met IX12_yearOrder [.inr (.inr (some (0, 200))), .inl x1, .inl x2] D (some (.inl r.1), r.2) := by
  refine mz_Met.of (by decide +kernel) (Nat.le_of_ble_eq_true rfl) ?_
  show mz_Go IX12_yearOrder (some (.inl r.1), r.2) 0 0 (0, [some (.inr (.inr (some (0, 200)))), some (.inl x1), some (.inl x2)], [], D)
  rw [fX12_yearOrder] at h
  refine mz_Go.run (gs := []) (st' := (1, [some (.inr (.inr (some (0, 200)))), some (.inl x1), some (.inl x2)], [.inl x1], D)) bX12_yearOrder_0 oX12_yearOrder_0 rfl trivial ?_
  refine mz_Go.tsw [(17, 52), (18, 86), (19, 133), (20, 133), (21, 211), (22, 211), (23, 211), (24, 194), (25, 200)] 211 (show decode cX12_yearOrder 1 = .ok (.tableswitch 210 17 25 #[51, 85, 132, 132, 210, 210, 210, 193, 199], 51) by decide +kernel) (by decide +kernel) ?_
  refine mz_Go.swc (fun hc1 => ?_) (fun hc1 => ?_)
  · have h := mz_ifp hc1 h
    obtain ⟨hb2, h⟩ := mz_gd_some h
    refine mz_Go.run (gs := [mz_kz 0 0 200, mz_kz 0 0 201, mz_ix (x2 + (1 : Int32)) 3000]) (st' := (64, [some (.inr (.inr (some (0, 200)))), some (.inl x1), some (.inl x2)], [.inl (11 : Int32), .inr (.inr (some (0, 200)))], (mz_wi D 0 201 ((x2 + (1 : Int32))).toNatClampNeg (-1 : Int32)))) bX12_yearOrder_52 oX12_yearOrder_52 rfl ⟨rfl, rfl, hb2, trivial⟩ ?_
    obtain ⟨q3, hq3, h⟩ := mz_bd_some h
    refine mz_Go.callV (I := IX12_yearOrder) (J := IX12_isThere) (as := [.inl (11 : Int32)]) (ci := 12) (g := 0) (o := 200) (idx := 181) (pl := 1796) (rest := []) (mX12_isThere (11 : Int32) (mz_wi D 0 201 ((x2 + (1 : Int32))).toNatClampNeg (-1 : Int32)) q3 hq3) kX12_isThere vX12_isThere (by decide +kernel) (by decide +kernel) (by decide +kernel) rfl rfl ⟨rfl, rfl⟩ rfl rfl rfl rfl ?_
    refine mz_Go.run (gs := []) (st' := (if q3.1 = 0 then (80, [some (.inr (.inr (some (0, 200)))), some (.inl x1), some (.inl x2)], [], q3.2) else (70, [some (.inr (.inr (some (0, 200)))), some (.inl x1), some (.inl x2)], [], q3.2))) bX12_yearOrder_67 oX12_yearOrder_67 rfl trivial ?_
    refine mz_Go.ite (fun hc4 => ?_) (fun hc4 => ?_)
    · have h := mz_ifp hc4 h
      refine mz_Go.run (gs := []) (st' := (85, [some (.inr (.inr (some (0, 200)))), some (.inl x1), some (.inl x2)], [.inl (1 : Int32)], q3.2)) bX12_yearOrder_80 oX12_yearOrder_80 rfl trivial ?_
      cases h
      exact mz_Go.retz (by decide +kernel) rfl ⟨Nat.le_refl _, Nat.le_refl _⟩ (by decide) rfl
    · have h := mz_ifn hc4 h
      refine mz_Go.run (gs := []) (st' := (74, [some (.inr (.inr (some (0, 200)))), some (.inl x1), some (.inl x2)], [.inl (x2 + (1 : Int32)), .inr (.inr (some (0, 200)))], q3.2)) bX12_yearOrder_70 oX12_yearOrder_70 rfl trivial ?_
      obtain ⟨q5, hq5, h⟩ := mz_bd_some h
      refine mz_Go.callV (I := IX12_yearOrder) (J := IX12_personTo) (as := [.inl (x2 + (1 : Int32))]) (ci := 12) (g := 0) (o := 200) (idx := 226) (pl := 1860) (rest := []) (mX12_personTo (x2 + (1 : Int32)) q3.2 q5 hq5) kX12_personTo vX12_personTo (by decide +kernel) (by decide +kernel) (by decide +kernel) rfl rfl ⟨rfl, rfl⟩ rfl rfl rfl rfl ?_
      refine mz_Go.run (gs := []) (st' := (if q5.1 = 0 then (84, [some (.inr (.inr (some (0, 200)))), some (.inl x1), some (.inl x2)], [], q5.2) else (80, [some (.inr (.inr (some (0, 200)))), some (.inl x1), some (.inl x2)], [], q5.2))) bX12_yearOrder_77 oX12_yearOrder_77 rfl trivial ?_
      refine mz_Go.ite (fun hc6 => ?_) (fun hc6 => ?_)
      · have h := mz_ifp hc6 h
        refine mz_Go.run (gs := []) (st' := (85, [some (.inr (.inr (some (0, 200)))), some (.inl x1), some (.inl x2)], [.inl (0 : Int32)], q5.2)) bX12_yearOrder_84 oX12_yearOrder_84 rfl trivial ?_
        cases h
        exact mz_Go.retz (by decide +kernel) rfl ⟨Nat.le_refl _, Nat.le_refl _⟩ (by decide) rfl
      · have h := mz_ifn hc6 h
        refine mz_Go.run (gs := []) (st' := (85, [some (.inr (.inr (some (0, 200)))), some (.inl x1), some (.inl x2)], [.inl (1 : Int32)], q5.2)) bX12_yearOrder_80 oX12_yearOrder_80 rfl trivial ?_
        cases h
        exact mz_Go.retz (by decide +kernel) rfl ⟨Nat.le_refl _, Nat.le_refl _⟩ (by decide) rfl
  · have h := mz_ifn hc1 h
    refine mz_Go.swc (fun hc7 => ?_) (fun hc7 => ?_)
    · have h := mz_ifp hc7 h
      refine mz_Go.run (gs := []) (st' := (90, [some (.inr (.inr (some (0, 200)))), some (.inl x1), some (.inl x2)], [.inl (x2 + (1 : Int32)), .inr (.inr (some (0, 200)))], D)) bX12_yearOrder_86 oX12_yearOrder_86 rfl trivial ?_
      obtain ⟨q8, hq8, h⟩ := mz_bd_some h
      refine mz_Go.callV (I := IX12_yearOrder) (J := IX12_personTo) (as := [.inl (x2 + (1 : Int32))]) (ci := 12) (g := 0) (o := 200) (idx := 226) (pl := 1860) (rest := []) (mX12_personTo (x2 + (1 : Int32)) D q8 hq8) kX12_personTo vX12_personTo (by decide +kernel) (by decide +kernel) (by decide +kernel) rfl rfl ⟨rfl, rfl⟩ rfl rfl rfl rfl ?_
      refine mz_Go.run (gs := []) (st' := (if q8.1 = 0 then (131, [some (.inr (.inr (some (0, 200)))), some (.inl x1), some (.inl x2)], [], q8.2) else (96, [some (.inr (.inr (some (0, 200)))), some (.inl x1), some (.inl x2)], [], q8.2))) bX12_yearOrder_93 oX12_yearOrder_93 rfl trivial ?_
      refine mz_Go.ite (fun hc9 => ?_) (fun hc9 => ?_)
      · have h := mz_ifp hc9 h
        refine mz_Go.run (gs := []) (st' := (132, [some (.inr (.inr (some (0, 200)))), some (.inl x1), some (.inl x2)], [.inl (0 : Int32)], q8.2)) bX12_yearOrder_131 oX12_yearOrder_131 rfl trivial ?_
        cases h
        exact mz_Go.retz (by decide +kernel) rfl ⟨Nat.le_refl _, Nat.le_refl _⟩ (by decide) rfl
      · have h := mz_ifn hc9 h
        refine mz_Go.run (gs := []) (st' := (97, [some (.inr (.inr (some (0, 200)))), some (.inl x1), some (.inl x2)], [.inr (.inr (some (0, 200)))], q8.2)) bX12_yearOrder_96 oX12_yearOrder_96 rfl trivial ?_
        refine mz_Go.ldcK rfl (by decide +kernel) ?_
        refine mz_Go.run (gs := []) (st' := (101, [some (.inr (.inr (some (0, 200)))), some (.inl x1), some (.inl x2)], [.inl (22 : Int32), .inr (.inr (some (0, 401))), .inr (.inr (some (0, 200)))], q8.2)) bX12_yearOrder_99 oX12_yearOrder_99 rfl trivial ?_
        obtain ⟨q10, hq10, h⟩ := mz_bd_some h
        refine mz_Go.callV (I := IX12_yearOrder) (J := IX12_wantWord) (as := [.inr (.inr (some (0, 401))), .inl (22 : Int32)]) (ci := 12) (g := 0) (o := 200) (idx := 229) (pl := 1864) (rest := []) (mX12_wantWord (22 : Int32) q8.2 q10 hq10) kX12_wantWord vX12_wantWord (by decide +kernel) (by decide +kernel) (by decide +kernel) rfl rfl ⟨rfl, rfl⟩ rfl rfl rfl rfl ?_
        refine mz_Go.run (gs := []) (st' := (if q10.1 = 0 then (131, [some (.inr (.inr (some (0, 200)))), some (.inl x1), some (.inl x2)], [], q10.2) else (107, [some (.inr (.inr (some (0, 200)))), some (.inl x1), some (.inl x2)], [], q10.2))) bX12_yearOrder_104 oX12_yearOrder_104 rfl trivial ?_
        refine mz_Go.ite (fun hc11 => ?_) (fun hc11 => ?_)
        · have h := mz_ifp hc11 h
          refine mz_Go.run (gs := []) (st' := (132, [some (.inr (.inr (some (0, 200)))), some (.inl x1), some (.inl x2)], [.inl (0 : Int32)], q10.2)) bX12_yearOrder_131 oX12_yearOrder_131 rfl trivial ?_
          cases h
          exact mz_Go.retz (by decide +kernel) rfl ⟨Nat.le_refl _, Nat.le_refl _⟩ (by decide) rfl
        · have h := mz_ifn hc11 h
          refine mz_Go.run (gs := [mz_kz 0 0 200, mz_kz 0 0 201, mz_ix (0 : Int32) 3000]) (st' := (121, [some (.inr (.inr (some (0, 200)))), some (.inl x1), some (.inl x2)], [.inl (x2 + (2 : Int32)), .inl (x2 + (1 : Int32)), .inl (q10.2.1 0 201 ((0 : Int32)).toNatClampNeg), .inl (0 : Int32), .inr (.inr (some (0, 200)))], q10.2)) bX12_yearOrder_107 oX12_yearOrder_107 rfl ⟨rfl, rfl, (by decide), trivial⟩ ?_
          obtain ⟨q12, hq12, h⟩ := mz_bd_some h
          refine mz_Go.callV (I := IX12_yearOrder) (J := IX12_otherOne) (as := [.inl (0 : Int32), .inl (q10.2.1 0 201 ((0 : Int32)).toNatClampNeg), .inl (x2 + (1 : Int32)), .inl (x2 + (2 : Int32))]) (ci := 12) (g := 0) (o := 200) (idx := 191) (pl := 1824) (rest := []) (mX12_otherOne (0 : Int32) (q10.2.1 0 201 ((0 : Int32)).toNatClampNeg) (x2 + (1 : Int32)) (x2 + (2 : Int32)) q10.2 q12 hq12) kX12_otherOne vX12_otherOne (by decide +kernel) (by decide +kernel) (by decide +kernel) rfl rfl ⟨rfl, rfl⟩ rfl rfl rfl rfl ?_
          refine mz_Go.run (gs := []) (st' := (if q12.1 = 0 then (131, [some (.inr (.inr (some (0, 200)))), some (.inl x1), some (.inl x2)], [], q12.2) else (127, [some (.inr (.inr (some (0, 200)))), some (.inl x1), some (.inl x2)], [], q12.2))) bX12_yearOrder_124 oX12_yearOrder_124 rfl trivial ?_
          refine mz_Go.ite (fun hc13 => ?_) (fun hc13 => ?_)
          · have h := mz_ifp hc13 h
            refine mz_Go.run (gs := []) (st' := (132, [some (.inr (.inr (some (0, 200)))), some (.inl x1), some (.inl x2)], [.inl (0 : Int32)], q12.2)) bX12_yearOrder_131 oX12_yearOrder_131 rfl trivial ?_
            cases h
            exact mz_Go.retz (by decide +kernel) rfl ⟨Nat.le_refl _, Nat.le_refl _⟩ (by decide) rfl
          · have h := mz_ifn hc13 h
            refine mz_Go.run (gs := []) (st' := (132, [some (.inr (.inr (some (0, 200)))), some (.inl x1), some (.inl x2)], [.inl (1 : Int32)], q12.2)) bX12_yearOrder_127 oX12_yearOrder_127 rfl trivial ?_
            cases h
            exact mz_Go.retz (by decide +kernel) rfl ⟨Nat.le_refl _, Nat.le_refl _⟩ (by decide) rfl
    · have h := mz_ifn hc7 h
      refine mz_Go.swc (fun hc14 => ?_) (fun hc14 => ?_)
      · have h := mz_ifp hc14 h
        refine mz_Go.run (gs := []) (st' := (137, [some (.inr (.inr (some (0, 200)))), some (.inl x1), some (.inl x2)], [.inl (x2 + (1 : Int32)), .inr (.inr (some (0, 200)))], D)) bX12_yearOrder_133 oX12_yearOrder_133 rfl trivial ?_
        obtain ⟨q15, hq15, h⟩ := mz_bd_some h
        refine mz_Go.callV (I := IX12_yearOrder) (J := IX12_personTo) (as := [.inl (x2 + (1 : Int32))]) (ci := 12) (g := 0) (o := 200) (idx := 226) (pl := 1860) (rest := []) (mX12_personTo (x2 + (1 : Int32)) D q15 hq15) kX12_personTo vX12_personTo (by decide +kernel) (by decide +kernel) (by decide +kernel) rfl rfl ⟨rfl, rfl⟩ rfl rfl rfl rfl ?_
        refine mz_Go.run (gs := []) (st' := (if q15.1 = 0 then (192, [some (.inr (.inr (some (0, 200)))), some (.inl x1), some (.inl x2)], [], q15.2) else (143, [some (.inr (.inr (some (0, 200)))), some (.inl x1), some (.inl x2)], [], q15.2))) bX12_yearOrder_140 oX12_yearOrder_140 rfl trivial ?_
        refine mz_Go.ite (fun hc16 => ?_) (fun hc16 => ?_)
        · have h := mz_ifp hc16 h
          refine mz_Go.run (gs := []) (st' := (193, [some (.inr (.inr (some (0, 200)))), some (.inl x1), some (.inl x2)], [.inl (0 : Int32)], q15.2)) bX12_yearOrder_192 oX12_yearOrder_192 rfl trivial ?_
          cases h
          exact mz_Go.retz (by decide +kernel) rfl ⟨Nat.le_refl _, Nat.le_refl _⟩ (by decide) rfl
        · have h := mz_ifn hc16 h
          refine mz_Go.run (gs := []) (st' := (144, [some (.inr (.inr (some (0, 200)))), some (.inl x1), some (.inl x2)], [.inr (.inr (some (0, 200)))], q15.2)) bX12_yearOrder_143 oX12_yearOrder_143 rfl trivial ?_
          refine mz_Go.ldcK rfl (by decide +kernel) ?_
          refine mz_Go.run (gs := []) (st' := (148, [some (.inr (.inr (some (0, 200)))), some (.inl x1), some (.inl x2)], [.inl (23 : Int32), .inr (.inr (some (0, 401))), .inr (.inr (some (0, 200)))], q15.2)) bX12_yearOrder_146 oX12_yearOrder_146 rfl trivial ?_
          obtain ⟨q17, hq17, h⟩ := mz_bd_some h
          refine mz_Go.callV (I := IX12_yearOrder) (J := IX12_wantWord) (as := [.inr (.inr (some (0, 401))), .inl (23 : Int32)]) (ci := 12) (g := 0) (o := 200) (idx := 229) (pl := 1864) (rest := []) (mX12_wantWord (23 : Int32) q15.2 q17 hq17) kX12_wantWord vX12_wantWord (by decide +kernel) (by decide +kernel) (by decide +kernel) rfl rfl ⟨rfl, rfl⟩ rfl rfl rfl rfl ?_
          refine mz_Go.run (gs := []) (st' := (if q17.1 = 0 then (192, [some (.inr (.inr (some (0, 200)))), some (.inl x1), some (.inl x2)], [], q17.2) else (154, [some (.inr (.inr (some (0, 200)))), some (.inl x1), some (.inl x2)], [], q17.2))) bX12_yearOrder_151 oX12_yearOrder_151 rfl trivial ?_
          refine mz_Go.ite (fun hc18 => ?_) (fun hc18 => ?_)
          · have h := mz_ifp hc18 h
            refine mz_Go.run (gs := []) (st' := (193, [some (.inr (.inr (some (0, 200)))), some (.inl x1), some (.inl x2)], [.inl (0 : Int32)], q17.2)) bX12_yearOrder_192 oX12_yearOrder_192 rfl trivial ?_
            cases h
            exact mz_Go.retz (by decide +kernel) rfl ⟨Nat.le_refl _, Nat.le_refl _⟩ (by decide) rfl
          · have h := mz_ifn hc18 h
            refine mz_Go.run (gs := [mz_kz 0 0 200, mz_kz 0 0 201, mz_ix (0 : Int32) 3000]) (st' := (168, [some (.inr (.inr (some (0, 200)))), some (.inl x1), some (.inl x2)], [.inl (x2 + (2 : Int32)), .inl (x2 + (1 : Int32)), .inl (q17.2.1 0 201 ((0 : Int32)).toNatClampNeg), .inl (0 : Int32), .inr (.inr (some (0, 200)))], q17.2)) bX12_yearOrder_154 oX12_yearOrder_154 rfl ⟨rfl, rfl, (by decide), trivial⟩ ?_
            obtain ⟨q19, hq19, h⟩ := mz_bd_some h
            refine mz_Go.callV (I := IX12_yearOrder) (J := IX12_otherOne) (as := [.inl (0 : Int32), .inl (q17.2.1 0 201 ((0 : Int32)).toNatClampNeg), .inl (x2 + (1 : Int32)), .inl (x2 + (2 : Int32))]) (ci := 12) (g := 0) (o := 200) (idx := 191) (pl := 1824) (rest := []) (mX12_otherOne (0 : Int32) (q17.2.1 0 201 ((0 : Int32)).toNatClampNeg) (x2 + (1 : Int32)) (x2 + (2 : Int32)) q17.2 q19 hq19) kX12_otherOne vX12_otherOne (by decide +kernel) (by decide +kernel) (by decide +kernel) rfl rfl ⟨rfl, rfl⟩ rfl rfl rfl rfl ?_
            refine mz_Go.run (gs := []) (st' := (if q19.1 = 0 then (192, [some (.inr (.inr (some (0, 200)))), some (.inl x1), some (.inl x2)], [], q19.2) else (174, [some (.inr (.inr (some (0, 200)))), some (.inl x1), some (.inl x2)], [], q19.2))) bX12_yearOrder_171 oX12_yearOrder_171 rfl trivial ?_
            refine mz_Go.ite (fun hc20 => ?_) (fun hc20 => ?_)
            · have h := mz_ifp hc20 h
              refine mz_Go.run (gs := []) (st' := (193, [some (.inr (.inr (some (0, 200)))), some (.inl x1), some (.inl x2)], [.inl (0 : Int32)], q19.2)) bX12_yearOrder_192 oX12_yearOrder_192 rfl trivial ?_
              cases h
              exact mz_Go.retz (by decide +kernel) rfl ⟨Nat.le_refl _, Nat.le_refl _⟩ (by decide) rfl
            · have h := mz_ifn hc20 h
              refine mz_Go.run (gs := []) (st' := (182, [some (.inr (.inr (some (0, 200)))), some (.inl x1), some (.inl x2)], [.inl (999 : Int32), .inl (1 : Int32), .inl (x2 + (3 : Int32)), .inr (.inr (some (0, 200)))], q19.2)) bX12_yearOrder_174 oX12_yearOrder_174 rfl trivial ?_
              obtain ⟨q21, hq21, h⟩ := mz_bd_some h
              refine mz_Go.callV (I := IX12_yearOrder) (J := IX12_number) (as := [.inl (x2 + (3 : Int32)), .inl (1 : Int32), .inl (999 : Int32)]) (ci := 12) (g := 0) (o := 200) (idx := 184) (pl := 1800) (rest := []) (mX12_number (x2 + (3 : Int32)) (1 : Int32) (999 : Int32) q19.2 q21 hq21) kX12_number vX12_number (by decide +kernel) (by decide +kernel) (by decide +kernel) rfl rfl ⟨rfl, rfl⟩ rfl rfl rfl rfl ?_
              refine mz_Go.run (gs := []) (st' := (if q21.1 = 0 then (192, [some (.inr (.inr (some (0, 200)))), some (.inl x1), some (.inl x2)], [], q21.2) else (188, [some (.inr (.inr (some (0, 200)))), some (.inl x1), some (.inl x2)], [], q21.2))) bX12_yearOrder_185 oX12_yearOrder_185 rfl trivial ?_
              refine mz_Go.ite (fun hc22 => ?_) (fun hc22 => ?_)
              · have h := mz_ifp hc22 h
                refine mz_Go.run (gs := []) (st' := (193, [some (.inr (.inr (some (0, 200)))), some (.inl x1), some (.inl x2)], [.inl (0 : Int32)], q21.2)) bX12_yearOrder_192 oX12_yearOrder_192 rfl trivial ?_
                cases h
                exact mz_Go.retz (by decide +kernel) rfl ⟨Nat.le_refl _, Nat.le_refl _⟩ (by decide) rfl
              · have h := mz_ifn hc22 h
                refine mz_Go.run (gs := []) (st' := (193, [some (.inr (.inr (some (0, 200)))), some (.inl x1), some (.inl x2)], [.inl (1 : Int32)], q21.2)) bX12_yearOrder_188 oX12_yearOrder_188 rfl trivial ?_
                cases h
                exact mz_Go.retz (by decide +kernel) rfl ⟨Nat.le_refl _, Nat.le_refl _⟩ (by decide) rfl
      · have h := mz_ifn hc14 h
        refine mz_Go.swc (fun hc23 => ?_) (fun hc23 => ?_)
        · have h := mz_ifp hc23 h
          refine mz_Go.run (gs := []) (st' := (137, [some (.inr (.inr (some (0, 200)))), some (.inl x1), some (.inl x2)], [.inl (x2 + (1 : Int32)), .inr (.inr (some (0, 200)))], D)) bX12_yearOrder_133 oX12_yearOrder_133 rfl trivial ?_
          obtain ⟨q24, hq24, h⟩ := mz_bd_some h
          refine mz_Go.callV (I := IX12_yearOrder) (J := IX12_personTo) (as := [.inl (x2 + (1 : Int32))]) (ci := 12) (g := 0) (o := 200) (idx := 226) (pl := 1860) (rest := []) (mX12_personTo (x2 + (1 : Int32)) D q24 hq24) kX12_personTo vX12_personTo (by decide +kernel) (by decide +kernel) (by decide +kernel) rfl rfl ⟨rfl, rfl⟩ rfl rfl rfl rfl ?_
          refine mz_Go.run (gs := []) (st' := (if q24.1 = 0 then (192, [some (.inr (.inr (some (0, 200)))), some (.inl x1), some (.inl x2)], [], q24.2) else (143, [some (.inr (.inr (some (0, 200)))), some (.inl x1), some (.inl x2)], [], q24.2))) bX12_yearOrder_140 oX12_yearOrder_140 rfl trivial ?_
          refine mz_Go.ite (fun hc25 => ?_) (fun hc25 => ?_)
          · have h := mz_ifp hc25 h
            refine mz_Go.run (gs := []) (st' := (193, [some (.inr (.inr (some (0, 200)))), some (.inl x1), some (.inl x2)], [.inl (0 : Int32)], q24.2)) bX12_yearOrder_192 oX12_yearOrder_192 rfl trivial ?_
            cases h
            exact mz_Go.retz (by decide +kernel) rfl ⟨Nat.le_refl _, Nat.le_refl _⟩ (by decide) rfl
          · have h := mz_ifn hc25 h
            refine mz_Go.run (gs := []) (st' := (144, [some (.inr (.inr (some (0, 200)))), some (.inl x1), some (.inl x2)], [.inr (.inr (some (0, 200)))], q24.2)) bX12_yearOrder_143 oX12_yearOrder_143 rfl trivial ?_
            refine mz_Go.ldcK rfl (by decide +kernel) ?_
            refine mz_Go.run (gs := []) (st' := (148, [some (.inr (.inr (some (0, 200)))), some (.inl x1), some (.inl x2)], [.inl (23 : Int32), .inr (.inr (some (0, 401))), .inr (.inr (some (0, 200)))], q24.2)) bX12_yearOrder_146 oX12_yearOrder_146 rfl trivial ?_
            obtain ⟨q26, hq26, h⟩ := mz_bd_some h
            refine mz_Go.callV (I := IX12_yearOrder) (J := IX12_wantWord) (as := [.inr (.inr (some (0, 401))), .inl (23 : Int32)]) (ci := 12) (g := 0) (o := 200) (idx := 229) (pl := 1864) (rest := []) (mX12_wantWord (23 : Int32) q24.2 q26 hq26) kX12_wantWord vX12_wantWord (by decide +kernel) (by decide +kernel) (by decide +kernel) rfl rfl ⟨rfl, rfl⟩ rfl rfl rfl rfl ?_
            refine mz_Go.run (gs := []) (st' := (if q26.1 = 0 then (192, [some (.inr (.inr (some (0, 200)))), some (.inl x1), some (.inl x2)], [], q26.2) else (154, [some (.inr (.inr (some (0, 200)))), some (.inl x1), some (.inl x2)], [], q26.2))) bX12_yearOrder_151 oX12_yearOrder_151 rfl trivial ?_
            refine mz_Go.ite (fun hc27 => ?_) (fun hc27 => ?_)
            · have h := mz_ifp hc27 h
              refine mz_Go.run (gs := []) (st' := (193, [some (.inr (.inr (some (0, 200)))), some (.inl x1), some (.inl x2)], [.inl (0 : Int32)], q26.2)) bX12_yearOrder_192 oX12_yearOrder_192 rfl trivial ?_
              cases h
              exact mz_Go.retz (by decide +kernel) rfl ⟨Nat.le_refl _, Nat.le_refl _⟩ (by decide) rfl
            · have h := mz_ifn hc27 h
              refine mz_Go.run (gs := [mz_kz 0 0 200, mz_kz 0 0 201, mz_ix (0 : Int32) 3000]) (st' := (168, [some (.inr (.inr (some (0, 200)))), some (.inl x1), some (.inl x2)], [.inl (x2 + (2 : Int32)), .inl (x2 + (1 : Int32)), .inl (q26.2.1 0 201 ((0 : Int32)).toNatClampNeg), .inl (0 : Int32), .inr (.inr (some (0, 200)))], q26.2)) bX12_yearOrder_154 oX12_yearOrder_154 rfl ⟨rfl, rfl, (by decide), trivial⟩ ?_
              obtain ⟨q28, hq28, h⟩ := mz_bd_some h
              refine mz_Go.callV (I := IX12_yearOrder) (J := IX12_otherOne) (as := [.inl (0 : Int32), .inl (q26.2.1 0 201 ((0 : Int32)).toNatClampNeg), .inl (x2 + (1 : Int32)), .inl (x2 + (2 : Int32))]) (ci := 12) (g := 0) (o := 200) (idx := 191) (pl := 1824) (rest := []) (mX12_otherOne (0 : Int32) (q26.2.1 0 201 ((0 : Int32)).toNatClampNeg) (x2 + (1 : Int32)) (x2 + (2 : Int32)) q26.2 q28 hq28) kX12_otherOne vX12_otherOne (by decide +kernel) (by decide +kernel) (by decide +kernel) rfl rfl ⟨rfl, rfl⟩ rfl rfl rfl rfl ?_
              refine mz_Go.run (gs := []) (st' := (if q28.1 = 0 then (192, [some (.inr (.inr (some (0, 200)))), some (.inl x1), some (.inl x2)], [], q28.2) else (174, [some (.inr (.inr (some (0, 200)))), some (.inl x1), some (.inl x2)], [], q28.2))) bX12_yearOrder_171 oX12_yearOrder_171 rfl trivial ?_
              refine mz_Go.ite (fun hc29 => ?_) (fun hc29 => ?_)
              · have h := mz_ifp hc29 h
                refine mz_Go.run (gs := []) (st' := (193, [some (.inr (.inr (some (0, 200)))), some (.inl x1), some (.inl x2)], [.inl (0 : Int32)], q28.2)) bX12_yearOrder_192 oX12_yearOrder_192 rfl trivial ?_
                cases h
                exact mz_Go.retz (by decide +kernel) rfl ⟨Nat.le_refl _, Nat.le_refl _⟩ (by decide) rfl
              · have h := mz_ifn hc29 h
                refine mz_Go.run (gs := []) (st' := (182, [some (.inr (.inr (some (0, 200)))), some (.inl x1), some (.inl x2)], [.inl (999 : Int32), .inl (1 : Int32), .inl (x2 + (3 : Int32)), .inr (.inr (some (0, 200)))], q28.2)) bX12_yearOrder_174 oX12_yearOrder_174 rfl trivial ?_
                obtain ⟨q30, hq30, h⟩ := mz_bd_some h
                refine mz_Go.callV (I := IX12_yearOrder) (J := IX12_number) (as := [.inl (x2 + (3 : Int32)), .inl (1 : Int32), .inl (999 : Int32)]) (ci := 12) (g := 0) (o := 200) (idx := 184) (pl := 1800) (rest := []) (mX12_number (x2 + (3 : Int32)) (1 : Int32) (999 : Int32) q28.2 q30 hq30) kX12_number vX12_number (by decide +kernel) (by decide +kernel) (by decide +kernel) rfl rfl ⟨rfl, rfl⟩ rfl rfl rfl rfl ?_
                refine mz_Go.run (gs := []) (st' := (if q30.1 = 0 then (192, [some (.inr (.inr (some (0, 200)))), some (.inl x1), some (.inl x2)], [], q30.2) else (188, [some (.inr (.inr (some (0, 200)))), some (.inl x1), some (.inl x2)], [], q30.2))) bX12_yearOrder_185 oX12_yearOrder_185 rfl trivial ?_
                refine mz_Go.ite (fun hc31 => ?_) (fun hc31 => ?_)
                · have h := mz_ifp hc31 h
                  refine mz_Go.run (gs := []) (st' := (193, [some (.inr (.inr (some (0, 200)))), some (.inl x1), some (.inl x2)], [.inl (0 : Int32)], q30.2)) bX12_yearOrder_192 oX12_yearOrder_192 rfl trivial ?_
                  cases h
                  exact mz_Go.retz (by decide +kernel) rfl ⟨Nat.le_refl _, Nat.le_refl _⟩ (by decide) rfl
                · have h := mz_ifn hc31 h
                  refine mz_Go.run (gs := []) (st' := (193, [some (.inr (.inr (some (0, 200)))), some (.inl x1), some (.inl x2)], [.inl (1 : Int32)], q30.2)) bX12_yearOrder_188 oX12_yearOrder_188 rfl trivial ?_
                  cases h
                  exact mz_Go.retz (by decide +kernel) rfl ⟨Nat.le_refl _, Nat.le_refl _⟩ (by decide) rfl
        · have h := mz_ifn hc23 h
          refine mz_Go.swc (fun hc32 => ?_) (fun hc32 => ?_)
          · have h := mz_ifp hc32 h
            refine mz_Go.run (gs := []) (st' := (212, [some (.inr (.inr (some (0, 200)))), some (.inl x1), some (.inl x2)], [.inl (1 : Int32)], D)) bX12_yearOrder_211 oX12_yearOrder_211 rfl trivial ?_
            cases h
            exact mz_Go.retz (by decide +kernel) rfl ⟨Nat.le_refl _, Nat.le_refl _⟩ (by decide) rfl
          · have h := mz_ifn hc32 h
            refine mz_Go.swc (fun hc33 => ?_) (fun hc33 => ?_)
            · have h := mz_ifp hc33 h
              refine mz_Go.run (gs := []) (st' := (212, [some (.inr (.inr (some (0, 200)))), some (.inl x1), some (.inl x2)], [.inl (1 : Int32)], D)) bX12_yearOrder_211 oX12_yearOrder_211 rfl trivial ?_
              cases h
              exact mz_Go.retz (by decide +kernel) rfl ⟨Nat.le_refl _, Nat.le_refl _⟩ (by decide) rfl
            · have h := mz_ifn hc33 h
              refine mz_Go.swc (fun hc34 => ?_) (fun hc34 => ?_)
              · have h := mz_ifp hc34 h
                refine mz_Go.run (gs := []) (st' := (212, [some (.inr (.inr (some (0, 200)))), some (.inl x1), some (.inl x2)], [.inl (1 : Int32)], D)) bX12_yearOrder_211 oX12_yearOrder_211 rfl trivial ?_
                cases h
                exact mz_Go.retz (by decide +kernel) rfl ⟨Nat.le_refl _, Nat.le_refl _⟩ (by decide) rfl
              · have h := mz_ifn hc34 h
                refine mz_Go.swc (fun hc35 => ?_) (fun hc35 => ?_)
                · have h := mz_ifp hc35 h
                  refine mz_Go.run (gs := []) (st' := (196, [some (.inr (.inr (some (0, 200)))), some (.inl x1), some (.inl x2)], [.inl x2, .inr (.inr (some (0, 200)))], D)) bX12_yearOrder_194 oX12_yearOrder_194 rfl trivial ?_
                  obtain ⟨q36, hq36, h⟩ := mz_bd_some h
                  refine mz_Go.callV (I := IX12_yearOrder) (J := IX12_test) (as := [.inl x2]) (ci := 12) (g := 0) (o := 200) (idx := 233) (pl := 1868) (rest := []) (mX12_test x2 D q36 hq36) kX12_test vX12_test (by decide +kernel) (by decide +kernel) (by decide +kernel) rfl rfl ⟨rfl, rfl⟩ rfl rfl rfl rfl ?_
                  obtain ⟨hb37, h⟩ := mz_gd_some h
                  cases h
                  exact mz_Go.retz (by decide +kernel) rfl ⟨Nat.le_refl _, Nat.le_refl _⟩ hb37 rfl
                · have h := mz_ifn hc35 h
                  refine mz_Go.swc (fun hc38 => ?_) (fun hc38 => ?_)
                  · have h := mz_ifp hc38 h
                    refine mz_Go.run (gs := []) (st' := (207, [some (.inr (.inr (some (0, 200)))), some (.inl x1), some (.inl x2)], [.inl (99 : Int32), .inl (1 : Int32), .inl (x2 + (1 : Int32)), .inr (.inr (some (0, 200)))], D)) bX12_yearOrder_200 oX12_yearOrder_200 rfl trivial ?_
                    obtain ⟨q39, hq39, h⟩ := mz_bd_some h
                    refine mz_Go.callV (I := IX12_yearOrder) (J := IX12_number) (as := [.inl (x2 + (1 : Int32)), .inl (1 : Int32), .inl (99 : Int32)]) (ci := 12) (g := 0) (o := 200) (idx := 184) (pl := 1800) (rest := []) (mX12_number (x2 + (1 : Int32)) (1 : Int32) (99 : Int32) D q39 hq39) kX12_number vX12_number (by decide +kernel) (by decide +kernel) (by decide +kernel) rfl rfl ⟨rfl, rfl⟩ rfl rfl rfl rfl ?_
                    obtain ⟨hb40, h⟩ := mz_gd_some h
                    cases h
                    exact mz_Go.retz (by decide +kernel) rfl ⟨Nat.le_refl _, Nat.le_refl _⟩ hb40 rfl
                  · have h := mz_ifn hc38 h
                    refine mz_Go.run (gs := []) (st' := (212, [some (.inr (.inr (some (0, 200)))), some (.inl x1), some (.inl x2)], [.inl (1 : Int32)], D)) bX12_yearOrder_211 oX12_yearOrder_211 rfl trivial ?_
                    cases h
                    exact mz_Go.retz (by decide +kernel) rfl ⟨Nat.le_refl _, Nat.le_refl _⟩ (by decide) rfl
def bX12_yearStep_0 : List mz_E := [(0, .aload_n 0, 0, 0, 0, 0, 0)]
theorem oX12_yearStep_0 : bX12_yearStep_0.all (mz_ok RX12 cX12_yearStep 6) = true := by decide +kernel
def bX12_yearStep_6 : List mz_E := [(6, .istore_n 1, 0, 0, 0, 0, 0), (7, .aload_n 0, 0, 0, 0, 0, 0), (8, .getfield 7, 12, 0, 1576, 0, 0), (11, .sipush 2009, 0, 0, 0, 2009, 0), (14, .iaload, 0, 0, 0, 0, 0), (15, .istore_n 2, 0, 0, 0, 0, 0), (16, .sipush 2130, 0, 0, 0, 2130, 0), (19, .bipush 6, 0, 0, 0, 6, 0), (21, .iload_n 2, 0, 0, 0, 0, 0), (22, .imul, 0, 0, 0, 0, 0), (23, .iadd, 0, 0, 0, 0, 0), (24, .istore_n 3, 0, 0, 0, 0, 0), (25, .iload_n 1, 0, 0, 0, 0, 0), (26, .bipush 24, 0, 0, 0, 24, 0), (28, .if_icmp .eq 9, 0, 37, 0, 0, 0)]
theorem oX12_yearStep_6 : bX12_yearStep_6.all (mz_ok RX12 cX12_yearStep 6) = true := by decide +kernel
def bX12_yearStep_37 : List mz_E := [(37, .iconst 1, 0, 0, 0, 1, 0), (38, .goto 4, 0, 42, 0, 0, 0)]
theorem oX12_yearStep_37 : bX12_yearStep_37.all (mz_ok RX12 cX12_yearStep 6) = true := by decide +kernel
def bX12_yearStep_42 : List mz_E := [(42, .istore 4, 0, 0, 0, 0, 0), (44, .iload_n 1, 0, 0, 0, 0, 0), (45, .bipush 17, 0, 0, 0, 17, 0), (47, .if_icmp .lt 34, 0, 81, 0, 0, 0)]
theorem oX12_yearStep_42 : bX12_yearStep_42.all (mz_ok RX12 cX12_yearStep 6) = true := by decide +kernel
def bX12_yearStep_81 : List mz_E := [(81, .aload_n 0, 0, 0, 0, 0, 0), (82, .iconst 2, 0, 0, 0, 2, 0)]
theorem oX12_yearStep_81 : bX12_yearStep_81.all (mz_ok RX12 cX12_yearStep 6) = true := by decide +kernel
def bX12_yearStep_50 : List mz_E := [(50, .iload_n 1, 0, 0, 0, 0, 0), (51, .bipush 27, 0, 0, 0, 27, 0), (53, .if_icmp .gt 28, 0, 81, 0, 0, 0)]
theorem oX12_yearStep_50 : bX12_yearStep_50.all (mz_ok RX12 cX12_yearStep 6) = true := by decide +kernel
def bX12_yearStep_56 : List mz_E := [(56, .iload_n 1, 0, 0, 0, 0, 0), (57, .bipush 22, 0, 0, 0, 22, 0), (59, .if_icmp .eq 22, 0, 81, 0, 0, 0)]
theorem oX12_yearStep_56 : bX12_yearStep_56.all (mz_ok RX12 cX12_yearStep 6) = true := by decide +kernel
def bX12_yearStep_62 : List mz_E := [(62, .iload_n 1, 0, 0, 0, 0, 0), (63, .bipush 23, 0, 0, 0, 23, 0), (65, .if_icmp .eq 16, 0, 81, 0, 0, 0)]
theorem oX12_yearStep_62 : bX12_yearStep_62.all (mz_ok RX12 cX12_yearStep 6) = true := by decide +kernel
def bX12_yearStep_68 : List mz_E := [(68, .iload_n 1, 0, 0, 0, 0, 0), (69, .bipush 26, 0, 0, 0, 26, 0), (71, .if_icmp .ne 16, 0, 87, 0, 0, 0)]
theorem oX12_yearStep_68 : bX12_yearStep_68.all (mz_ok RX12 cX12_yearStep 6) = true := by decide +kernel
def bX12_yearStep_74 : List mz_E := [(74, .aload_n 0, 0, 0, 0, 0, 0), (75, .getfield 236, 12, 22, 1598, 0, 0), (78, .ifCond .ne 9, 0, 87, 0, 0, 0)]
theorem oX12_yearStep_74 : bX12_yearStep_74.all (mz_ok RX12 cX12_yearStep 6) = true := by decide +kernel
def bX12_yearStep_87 : List mz_E := [(87, .iload_n 1, 0, 0, 0, 0, 0), (88, .bipush 26, 0, 0, 0, 26, 0), (90, .if_icmp .eq 19, 0, 109, 0, 0, 0)]
theorem oX12_yearStep_87 : bX12_yearStep_87.all (mz_ok RX12 cX12_yearStep 6) = true := by decide +kernel
def bX12_yearStep_109 : List mz_E := [(109, .iload 4, 0, 0, 0, 0, 0), (111, .ifCond .eq 18, 0, 129, 0, 0, 0)]
theorem oX12_yearStep_109 : bX12_yearStep_109.all (mz_ok RX12 cX12_yearStep 6) = true := by decide +kernel
def bX12_yearStep_129 : List mz_E := [(129, .aload_n 0, 0, 0, 0, 0, 0), (130, .dup, 0, 0, 0, 0, 0), (131, .getfield 239, 12, 23, 1599, 0, 0), (134, .iload_n 1, 0, 0, 0, 0, 0), (135, .bipush 26, 0, 0, 0, 26, 0), (137, .if_icmp .ne 7, 0, 144, 0, 0, 0)]
theorem oX12_yearStep_129 : bX12_yearStep_129.all (mz_ok RX12 cX12_yearStep 6) = true := by decide +kernel
def bX12_yearStep_140 : List mz_E := [(140, .iconst 0, 0, 0, 0, 0, 0), (141, .goto 4, 0, 145, 0, 0, 0)]
theorem oX12_yearStep_140 : bX12_yearStep_140.all (mz_ok RX12 cX12_yearStep 6) = true := by decide +kernel
def bX12_yearStep_145 : List mz_E := [(145, .iadd, 0, 0, 0, 0, 0), (146, .putfield 239, 12, 23, 1599, 0, 0), (149, .aload_n 0, 0, 0, 0, 0, 0), (150, .getfield 7, 12, 0, 1576, 0, 0), (153, .iload_n 3, 0, 0, 0, 0, 0), (154, .iload_n 1, 0, 0, 0, 0, 0), (155, .iastore, 0, 0, 0, 0, 0), (156, .iconst 1, 0, 0, 0, 1, 0), (157, .istore 5, 0, 0, 0, 0, 0)]
theorem oX12_yearStep_145 : bX12_yearStep_145.all (mz_ok RX12 cX12_yearStep 6) = true := by decide +kernel
def bX12_yearStep_159 : List mz_E := [(159, .iload 5, 0, 0, 0, 0, 0), (161, .bipush 6, 0, 0, 0, 6, 0), (163, .if_icmp .ge 19, 0, 182, 0, 0, 0)]
theorem oX12_yearStep_159 : bX12_yearStep_159.all (mz_ok RX12 cX12_yearStep 6) = true := by decide +kernel
def bX12_yearStep_182 : List mz_E := [(182, .aload_n 0, 0, 0, 0, 0, 0), (183, .getfield 7, 12, 0, 1576, 0, 0), (186, .sipush 2009, 0, 0, 0, 2009, 0), (189, .dup2, 0, 0, 0, 0, 0), (190, .iaload, 0, 0, 0, 0, 0), (191, .iconst 1, 0, 0, 0, 1, 0), (192, .iadd, 0, 0, 0, 0, 0), (193, .iastore, 0, 0, 0, 0, 0), (194, .aload_n 0, 0, 0, 0, 0, 0)]
theorem oX12_yearStep_182 : bX12_yearStep_182.all (mz_ok RX12 cX12_yearStep 6) = true := by decide +kernel
def bX12_yearStep_198 : List mz_E := [(198, .aload_n 0, 0, 0, 0, 0, 0), (199, .iload_n 1, 0, 0, 0, 0, 0), (200, .iload_n 3, 0, 0, 0, 0, 0)]
theorem oX12_yearStep_198 : bX12_yearStep_198.all (mz_ok RX12 cX12_yearStep 6) = true := by decide +kernel
def bX12_yearStep_204 : List mz_E := [(204, .ifCond .ne 5, 0, 209, 0, 0, 0)]
theorem oX12_yearStep_204 : bX12_yearStep_204.all (mz_ok RX12 cX12_yearStep 6) = true := by decide +kernel
def bX12_yearStep_207 : List mz_E := [(207, .iconst 0, 0, 0, 0, 0, 0)]
theorem oX12_yearStep_207 : bX12_yearStep_207.all (mz_ok RX12 cX12_yearStep 6) = true := by decide +kernel
def bX12_yearStep_209 : List mz_E := [(209, .iload 4, 0, 0, 0, 0, 0), (211, .ifCond .eq 23, 0, 234, 0, 0, 0)]
theorem oX12_yearStep_209 : bX12_yearStep_209.all (mz_ok RX12 cX12_yearStep 6) = true := by decide +kernel
def bX12_yearStep_234 : List mz_E := [(234, .iload_n 1, 0, 0, 0, 0, 0), (235, .bipush 26, 0, 0, 0, 26, 0), (237, .if_icmp .ne 54, 0, 291, 0, 0, 0)]
theorem oX12_yearStep_234 : bX12_yearStep_234.all (mz_ok RX12 cX12_yearStep 6) = true := by decide +kernel
def bX12_yearStep_240 : List mz_E := [(240, .aload_n 0, 0, 0, 0, 0, 0), (241, .dup, 0, 0, 0, 0, 0), (242, .getfield 236, 12, 22, 1598, 0, 0), (245, .iconst 1, 0, 0, 0, 1, 0), (246, .isub, 0, 0, 0, 0, 0), (247, .putfield 236, 12, 22, 1598, 0, 0), (250, .aload_n 0, 0, 0, 0, 0, 0), (251, .getfield 7, 12, 0, 1576, 0, 0), (254, .iload_n 3, 0, 0, 0, 0, 0), (255, .iconst 4, 0, 0, 0, 4, 0), (256, .iadd, 0, 0, 0, 0, 0), (257, .aload_n 0, 0, 0, 0, 0, 0), (258, .getfield 44, 12, 21, 1597, 0, 0), (261, .aload_n 0, 0, 0, 0, 0, 0), (262, .getfield 236, 12, 22, 1598, 0, 0), (265, .iaload, 0, 0, 0, 0, 0), (266, .iastore, 0, 0, 0, 0, 0), (267, .aload_n 0, 0, 0, 0, 0, 0), (268, .getfield 7, 12, 0, 1576, 0, 0), (271, .sipush 2130, 0, 0, 0, 2130, 0), (274, .bipush 6, 0, 0, 0, 6, 0), (276, .aload_n 0, 0, 0, 0, 0, 0), (277, .getfield 44, 12, 21, 1597, 0, 0), (280, .aload_n 0, 0, 0, 0, 0, 0), (281, .getfield 236, 12, 22, 1598, 0, 0), (284, .iaload, 0, 0, 0, 0, 0), (285, .imul, 0, 0, 0, 0, 0), (286, .iadd, 0, 0, 0, 0, 0), (287, .iconst 4, 0, 0, 0, 4, 0), (288, .iadd, 0, 0, 0, 0, 0), (289, .iload_n 2, 0, 0, 0, 0, 0), (290, .iastore, 0, 0, 0, 0, 0)]
theorem oX12_yearStep_240 : bX12_yearStep_240.all (mz_ok RX12 cX12_yearStep 6) = true := by decide +kernel
def bX12_yearStep_291 : List mz_E := [(291, .aload_n 0, 0, 0, 0, 0, 0), (292, .bipush 59, 0, 0, 0, 59, 0)]
theorem oX12_yearStep_291 : bX12_yearStep_291.all (mz_ok RX12 cX12_yearStep 6) = true := by decide +kernel
def bX12_yearStep_214 : List mz_E := [(214, .aload_n 0, 0, 0, 0, 0, 0), (215, .getfield 44, 12, 21, 1597, 0, 0), (218, .aload_n 0, 0, 0, 0, 0, 0), (219, .getfield 236, 12, 22, 1598, 0, 0), (222, .iload_n 2, 0, 0, 0, 0, 0), (223, .iastore, 0, 0, 0, 0, 0), (224, .aload_n 0, 0, 0, 0, 0, 0), (225, .dup, 0, 0, 0, 0, 0), (226, .getfield 236, 12, 22, 1598, 0, 0), (229, .iconst 1, 0, 0, 0, 1, 0), (230, .iadd, 0, 0, 0, 0, 0), (231, .putfield 236, 12, 22, 1598, 0, 0)]
theorem oX12_yearStep_214 : bX12_yearStep_214.all (mz_ok RX12 cX12_yearStep 6) = true := by decide +kernel
def bX12_yearStep_166 : List mz_E := [(166, .aload_n 0, 0, 0, 0, 0, 0), (167, .getfield 7, 12, 0, 1576, 0, 0), (170, .iload_n 3, 0, 0, 0, 0, 0), (171, .iload 5, 0, 0, 0, 0, 0), (173, .iadd, 0, 0, 0, 0, 0), (174, .iconst 0, 0, 0, 0, 0, 0), (175, .iastore, 0, 0, 0, 0, 0), (176, .iinc 5 1, 0, 0, 0, 1, 0), (179, .goto (-20), 0, 159, 0, 0, 0)]
theorem oX12_yearStep_166 : bX12_yearStep_166.all (mz_ok RX12 cX12_yearStep 6) = true := by decide +kernel
def bX12_yearStep_144 : List mz_E := [(144, .iconst 1, 0, 0, 0, 1, 0)]
theorem oX12_yearStep_144 : bX12_yearStep_144.all (mz_ok RX12 cX12_yearStep 6) = true := by decide +kernel
def bX12_yearStep_114 : List mz_E := [(114, .aload_n 0, 0, 0, 0, 0, 0), (115, .getfield 236, 12, 22, 1598, 0, 0), (118, .iconst 3, 0, 0, 0, 3, 0), (119, .if_icmp .ne 10, 0, 129, 0, 0, 0)]
theorem oX12_yearStep_114 : bX12_yearStep_114.all (mz_ok RX12 cX12_yearStep 6) = true := by decide +kernel
def bX12_yearStep_122 : List mz_E := [(122, .aload_n 0, 0, 0, 0, 0, 0), (123, .bipush 7, 0, 0, 0, 7, 0)]
theorem oX12_yearStep_122 : bX12_yearStep_122.all (mz_ok RX12 cX12_yearStep 6) = true := by decide +kernel
def bX12_yearStep_93 : List mz_E := [(93, .aload_n 0, 0, 0, 0, 0, 0), (94, .getfield 239, 12, 23, 1599, 0, 0), (97, .bipush 30, 0, 0, 0, 30, 0), (99, .if_icmp .ne 10, 0, 109, 0, 0, 0)]
theorem oX12_yearStep_93 : bX12_yearStep_93.all (mz_ok RX12 cX12_yearStep 6) = true := by decide +kernel
def bX12_yearStep_102 : List mz_E := [(102, .aload_n 0, 0, 0, 0, 0, 0), (103, .bipush 6, 0, 0, 0, 6, 0)]
theorem oX12_yearStep_102 : bX12_yearStep_102.all (mz_ok RX12 cX12_yearStep 6) = true := by decide +kernel
def bX12_yearStep_31 : List mz_E := [(31, .iload_n 1, 0, 0, 0, 0, 0), (32, .bipush 25, 0, 0, 0, 25, 0), (34, .if_icmp .ne 7, 0, 41, 0, 0, 0)]
theorem oX12_yearStep_31 : bX12_yearStep_31.all (mz_ok RX12 cX12_yearStep 6) = true := by decide +kernel
def bX12_yearStep_41 : List mz_E := [(41, .iconst 0, 0, 0, 0, 0, 0)]
theorem oX12_yearStep_41 : bX12_yearStep_41.all (mz_ok RX12 cX12_yearStep 6) = true := by decide +kernel
abbrev IX12_yearStep : mz_I := (yX12_yearStep, cX12_yearStep, 6, (some .boolean), 0, 10, 0, 0)
theorem kX12_yearStep : mz_okm IX12_yearStep 1855 141 1854 0 = true := by decide +kernel
theorem vX12_yearStep : mz_okV IX12_yearStep 1854 74 = true := by decide +kernel
def fX12_yearStep_81 (D : mz_D) : Option (Int32 × mz_D) := (Option.bind (fX12_fails (2 : Int32) D) fun q1 => (mz_gd (mz_bo q1.1) (some (q1.1, q1.2))))
set_option maxHeartbeats 4000000 in
theorem tX12_yearStep_81 (r : (Int32 × mz_D)) : ∀ (D : mz_D), fX12_yearStep_81 D = some r → mz_Go IX12_yearStep (some (.inl r.1), r.2) 0 0 (81, [some (.inr (.inr (some (0, 200)))), none, none, none, none, none], [], D) := by
  intro D h
  rw [fX12_yearStep_81] at h
  refine mz_Go.run (gs := []) (st' := (83, [some (.inr (.inr (some (0, 200)))), none, none, none, none, none], [.inl (2 : Int32), .inr (.inr (some (0, 200)))], D)) bX12_yearStep_81 oX12_yearStep_81 rfl trivial ?_
  obtain ⟨q1, hq1, h⟩ := mz_bd_some h
  refine mz_Go.callV (I := IX12_yearStep) (J := IX12_fails) (as := [.inl (2 : Int32)]) (ci := 12) (g := 0) (o := 200) (idx := 157) (pl := 1780) (rest := []) (mX12_fails (2 : Int32) D q1 hq1) kX12_fails vX12_fails (by decide +kernel) (by decide +kernel) (by decide +kernel) rfl rfl ⟨rfl, rfl⟩ rfl rfl rfl rfl ?_
  obtain ⟨hb2, h⟩ := mz_gd_some h
  cases h
  exact mz_Go.retz (by decide +kernel) rfl ⟨Nat.le_refl _, Nat.le_refl _⟩ hb2 rfl
def fX12_yearStep_291 (D : mz_D) : Option (Int32 × mz_D) := (Option.bind (fX12_wantSign (59 : Int32) D) fun q1 => (mz_gd (mz_bo q1.1) (some (q1.1, q1.2))))
set_option maxHeartbeats 4000000 in
theorem tX12_yearStep_291 (r : (Int32 × mz_D)) : ∀ (D : mz_D), fX12_yearStep_291 D = some r → mz_Go IX12_yearStep (some (.inl r.1), r.2) 0 0 (291, [some (.inr (.inr (some (0, 200)))), none, none, none, none, none], [], D) := by
  intro D h
  rw [fX12_yearStep_291] at h
  refine mz_Go.run (gs := []) (st' := (294, [some (.inr (.inr (some (0, 200)))), none, none, none, none, none], [.inl (59 : Int32), .inr (.inr (some (0, 200)))], D)) bX12_yearStep_291 oX12_yearStep_291 rfl trivial ?_
  obtain ⟨q1, hq1, h⟩ := mz_bd_some h
  refine mz_Go.callV (I := IX12_yearStep) (J := IX12_wantSign) (as := [.inl (59 : Int32)]) (ci := 12) (g := 0) (o := 200) (idx := 214) (pl := 1832) (rest := []) (mX12_wantSign (59 : Int32) D q1 hq1) kX12_wantSign vX12_wantSign (by decide +kernel) (by decide +kernel) (by decide +kernel) rfl rfl ⟨rfl, rfl⟩ rfl rfl rfl rfl ?_
  obtain ⟨hb2, h⟩ := mz_gd_some h
  cases h
  exact mz_Go.retz (by decide +kernel) rfl ⟨Nat.le_refl _, Nat.le_refl _⟩ hb2 rfl
def fX12_yearStep_234 (x1 : Int32) (x2 : Int32) (x3 : Int32) (D : mz_D) : Option (Int32 × mz_D) := (if x1 = (26 : Int32) then (mz_gd (mz_ix ((D.1 0 200 22) - (1 : Int32)) 3) (mz_gd (mz_ix (x3 + (4 : Int32)) 3000) (mz_gd (mz_ix (((2130 : Int32) + ((6 : Int32) * (D.1 0 208 (((D.1 0 200 22) - (1 : Int32))).toNatClampNeg))) + (4 : Int32)) 3000) (fX12_yearStep_291 (mz_wi (mz_wi (mz_wi D 0 200 22 ((D.1 0 200 22) - (1 : Int32))) 0 201 ((x3 + (4 : Int32))).toNatClampNeg (D.1 0 208 (((D.1 0 200 22) - (1 : Int32))).toNatClampNeg)) 0 201 ((((2130 : Int32) + ((6 : Int32) * (D.1 0 208 (((D.1 0 200 22) - (1 : Int32))).toNatClampNeg))) + (4 : Int32))).toNatClampNeg x2))))) else (fX12_yearStep_291 D))
set_option maxHeartbeats 4000000 in
theorem tX12_yearStep_234 (r : (Int32 × mz_D)) : ∀ (x1 : Int32) (x2 : Int32) (x3 : Int32) (D : mz_D), fX12_yearStep_234 x1 x2 x3 D = some r → mz_Go IX12_yearStep (some (.inl r.1), r.2) 0 0 (234, [some (.inr (.inr (some (0, 200)))), some (.inl x1), some (.inl x2), some (.inl x3), none, none], [], D) := by
  intro x1 x2 x3 D h
  rw [fX12_yearStep_234] at h
  refine mz_Go.run (gs := []) (st' := (if x1 = (26 : Int32) then (240, [some (.inr (.inr (some (0, 200)))), some (.inl x1), some (.inl x2), some (.inl x3), none, none], [], D) else (291, [some (.inr (.inr (some (0, 200)))), some (.inl x1), some (.inl x2), some (.inl x3), none, none], [], D))) bX12_yearStep_234 oX12_yearStep_234 rfl trivial ?_
  refine mz_Go.ite (fun hc1 => ?_) (fun hc1 => ?_)
  · have h := mz_ifp hc1 h
    obtain ⟨hb2, h⟩ := mz_gd_some h
    obtain ⟨hb3, h⟩ := mz_gd_some h
    obtain ⟨hb4, h⟩ := mz_gd_some h
    refine mz_Go.run (gs := [mz_kz 0 0 200, mz_kz 0 0 200, mz_kz 0 0 200, mz_kz 0 0 200, mz_kz 0 0 200, mz_kz 0 0 208, mz_ix ((D.1 0 200 22) - (1 : Int32)) 3, mz_kz 0 0 201, mz_ix (x3 + (4 : Int32)) 3000, mz_kz 0 0 200, mz_kz 0 0 200, mz_kz 0 0 200, mz_kz 0 0 208, mz_ix ((D.1 0 200 22) - (1 : Int32)) 3, mz_kz 0 0 201, mz_ix (((2130 : Int32) + ((6 : Int32) * (D.1 0 208 (((D.1 0 200 22) - (1 : Int32))).toNatClampNeg))) + (4 : Int32)) 3000]) (st' := (291, [some (.inr (.inr (some (0, 200)))), some (.inl x1), some (.inl x2), some (.inl x3), none, none], [], (mz_wi (mz_wi (mz_wi D 0 200 22 ((D.1 0 200 22) - (1 : Int32))) 0 201 ((x3 + (4 : Int32))).toNatClampNeg (D.1 0 208 (((D.1 0 200 22) - (1 : Int32))).toNatClampNeg)) 0 201 ((((2130 : Int32) + ((6 : Int32) * (D.1 0 208 (((D.1 0 200 22) - (1 : Int32))).toNatClampNeg))) + (4 : Int32))).toNatClampNeg x2))) bX12_yearStep_240 oX12_yearStep_240 rfl ⟨rfl, rfl, rfl, rfl, rfl, rfl, hb2, rfl, hb3, rfl, rfl, rfl, rfl, hb2, rfl, hb4, trivial⟩ ?_
    exact mz_Go.drop [true, false, false, false, false, false] (tX12_yearStep_291 r (mz_wi (mz_wi (mz_wi D 0 200 22 ((D.1 0 200 22) - (1 : Int32))) 0 201 ((x3 + (4 : Int32))).toNatClampNeg (D.1 0 208 (((D.1 0 200 22) - (1 : Int32))).toNatClampNeg)) 0 201 ((((2130 : Int32) + ((6 : Int32) * (D.1 0 208 (((D.1 0 200 22) - (1 : Int32))).toNatClampNeg))) + (4 : Int32))).toNatClampNeg x2) h)
  · have h := mz_ifn hc1 h
    exact mz_Go.drop [true, false, false, false, false, false] (tX12_yearStep_291 r D h)
def fX12_yearStep_159 : Nat → Int32 → Int32 → Int32 → Int32 → Int32 → mz_D → Option (Int32 × mz_D)
  | 0 => fun _ _ _ _ _ _ => none
  | n + 1 => fun x1 x2 x3 x4 x5 D => (if (6 : Int32) ≤ x5 then (Option.bind (fX12_ahead (mz_wi D 0 201 ((2009 : Int32)).toNatClampNeg ((D.1 0 201 ((2009 : Int32)).toNatClampNeg) + (1 : Int32)))) fun q2 => (Option.bind (fX12_yearOrder x1 x3 q2) fun q3 => (if q3.1 = 0 then (some ((0 : Int32), q3.2)) else (if x4 = 0 then (fX12_yearStep_234 x1 x2 x3 q3.2) else (mz_gd (mz_ix (q3.2.1 0 200 22) 3) (fX12_yearStep_234 x1 x2 x3 (mz_wi (mz_wi q3.2 0 208 ((q3.2.1 0 200 22)).toNatClampNeg x2) 0 200 22 ((q3.2.1 0 200 22) + (1 : Int32))))))))) else (mz_gd (mz_ix (x3 + x5) 3000) ((fX12_yearStep_159 n) x1 x2 x3 x4 (x5 + (1 : Int32)) (mz_wi D 0 201 ((x3 + x5)).toNatClampNeg (0 : Int32)))))
set_option maxHeartbeats 4000000 in
theorem tX12_yearStep_159 (r : (Int32 × mz_D)) : ∀ (n : Nat) (x1 : Int32) (x2 : Int32) (x3 : Int32) (x4 : Int32) (x5 : Int32) (D : mz_D), fX12_yearStep_159 n x1 x2 x3 x4 x5 D = some r → mz_Go IX12_yearStep (some (.inl r.1), r.2) 0 0 (159, [some (.inr (.inr (some (0, 200)))), some (.inl x1), some (.inl x2), some (.inl x3), some (.inl x4), some (.inl x5)], [], D) := by
  intro n
  induction n with
  | zero => intro x1 x2 x3 x4 x5 D h; have h : (none : Option (Int32 × mz_D)) = some r := h; cases h
  | succ n ih =>
    intro x1 x2 x3 x4 x5 D h
    rw [fX12_yearStep_159] at h
    refine mz_Go.run (gs := []) (st' := (if (6 : Int32) ≤ x5 then (182, [some (.inr (.inr (some (0, 200)))), some (.inl x1), some (.inl x2), some (.inl x3), some (.inl x4), some (.inl x5)], [], D) else (166, [some (.inr (.inr (some (0, 200)))), some (.inl x1), some (.inl x2), some (.inl x3), some (.inl x4), some (.inl x5)], [], D))) bX12_yearStep_159 oX12_yearStep_159 rfl trivial ?_
    refine mz_Go.ite (fun hc1 => ?_) (fun hc1 => ?_)
    · have h := mz_ifp hc1 h
      refine mz_Go.run (gs := [mz_kz 0 0 200, mz_kz 0 0 201, mz_ix (2009 : Int32) 3000, mz_kz 0 0 201, mz_ix (2009 : Int32) 3000]) (st' := (195, [some (.inr (.inr (some (0, 200)))), some (.inl x1), some (.inl x2), some (.inl x3), some (.inl x4), some (.inl x5)], [.inr (.inr (some (0, 200)))], (mz_wi D 0 201 ((2009 : Int32)).toNatClampNeg ((D.1 0 201 ((2009 : Int32)).toNatClampNeg) + (1 : Int32))))) bX12_yearStep_182 oX12_yearStep_182 rfl ⟨rfl, rfl, (by decide), rfl, (by decide), trivial⟩ ?_
      obtain ⟨q2, hq2, h⟩ := mz_bd_some h
      refine mz_Go.callV (I := IX12_yearStep) (J := IX12_ahead) (as := []) (ci := 12) (g := 0) (o := 200) (idx := 151) (pl := 1745) (rest := []) (mX12_ahead (mz_wi D 0 201 ((2009 : Int32)).toNatClampNeg ((D.1 0 201 ((2009 : Int32)).toNatClampNeg) + (1 : Int32))) q2 hq2) kX12_ahead vX12_ahead (by decide +kernel) (by decide +kernel) (by decide +kernel) rfl rfl ⟨rfl, rfl⟩ rfl rfl rfl rfl ?_
      refine mz_Go.run (gs := []) (st' := (201, [some (.inr (.inr (some (0, 200)))), some (.inl x1), some (.inl x2), some (.inl x3), some (.inl x4), some (.inl x5)], [.inl x3, .inl x1, .inr (.inr (some (0, 200)))], q2)) bX12_yearStep_198 oX12_yearStep_198 rfl trivial ?_
      obtain ⟨q3, hq3, h⟩ := mz_bd_some h
      refine mz_Go.callV (I := IX12_yearStep) (J := IX12_yearOrder) (as := [.inl x1, .inl x3]) (ci := 12) (g := 0) (o := 200) (idx := 242) (pl := 1856) (rest := []) (mX12_yearOrder x1 x3 q2 q3 hq3) kX12_yearOrder vX12_yearOrder (by decide +kernel) (by decide +kernel) (by decide +kernel) rfl rfl ⟨rfl, rfl⟩ rfl rfl rfl rfl ?_
      refine mz_Go.run (gs := []) (st' := (if q3.1 = 0 then (207, [some (.inr (.inr (some (0, 200)))), some (.inl x1), some (.inl x2), some (.inl x3), some (.inl x4), some (.inl x5)], [], q3.2) else (209, [some (.inr (.inr (some (0, 200)))), some (.inl x1), some (.inl x2), some (.inl x3), some (.inl x4), some (.inl x5)], [], q3.2))) bX12_yearStep_204 oX12_yearStep_204 rfl trivial ?_
      refine mz_Go.ite (fun hc4 => ?_) (fun hc4 => ?_)
      · have h := mz_ifp hc4 h
        refine mz_Go.run (gs := []) (st' := (208, [some (.inr (.inr (some (0, 200)))), some (.inl x1), some (.inl x2), some (.inl x3), some (.inl x4), some (.inl x5)], [.inl (0 : Int32)], q3.2)) bX12_yearStep_207 oX12_yearStep_207 rfl trivial ?_
        cases h
        exact mz_Go.retz (by decide +kernel) rfl ⟨Nat.le_refl _, Nat.le_refl _⟩ (by decide) rfl
      · have h := mz_ifn hc4 h
        refine mz_Go.run (gs := []) (st' := (if x4 = 0 then (234, [some (.inr (.inr (some (0, 200)))), some (.inl x1), some (.inl x2), some (.inl x3), some (.inl x4), some (.inl x5)], [], q3.2) else (214, [some (.inr (.inr (some (0, 200)))), some (.inl x1), some (.inl x2), some (.inl x3), some (.inl x4), some (.inl x5)], [], q3.2))) bX12_yearStep_209 oX12_yearStep_209 rfl trivial ?_
        refine mz_Go.ite (fun hc5 => ?_) (fun hc5 => ?_)
        · have h := mz_ifp hc5 h
          exact mz_Go.drop [true, true, true, true, false, false] (tX12_yearStep_234 r x1 x2 x3 q3.2 h)
        · have h := mz_ifn hc5 h
          obtain ⟨hb6, h⟩ := mz_gd_some h
          refine mz_Go.run (gs := [mz_kz 0 0 200, mz_kz 0 0 200, mz_kz 0 0 208, mz_ix (q3.2.1 0 200 22) 3, mz_kz 0 0 200, mz_kz 0 0 200]) (st' := (234, [some (.inr (.inr (some (0, 200)))), some (.inl x1), some (.inl x2), some (.inl x3), some (.inl x4), some (.inl x5)], [], (mz_wi (mz_wi q3.2 0 208 ((q3.2.1 0 200 22)).toNatClampNeg x2) 0 200 22 ((q3.2.1 0 200 22) + (1 : Int32))))) bX12_yearStep_214 oX12_yearStep_214 rfl ⟨rfl, rfl, rfl, hb6, rfl, rfl, trivial⟩ ?_
          exact mz_Go.drop [true, true, true, true, false, false] (tX12_yearStep_234 r x1 x2 x3 (mz_wi (mz_wi q3.2 0 208 ((q3.2.1 0 200 22)).toNatClampNeg x2) 0 200 22 ((q3.2.1 0 200 22) + (1 : Int32))) h)
    · have h := mz_ifn hc1 h
      obtain ⟨hb7, h⟩ := mz_gd_some h
      refine mz_Go.run (gs := [mz_kz 0 0 200, mz_kz 0 0 201, mz_ix (x3 + x5) 3000]) (st' := (159, [some (.inr (.inr (some (0, 200)))), some (.inl x1), some (.inl x2), some (.inl x3), some (.inl x4), some (.inl (x5 + (1 : Int32)))], [], (mz_wi D 0 201 ((x3 + x5)).toNatClampNeg (0 : Int32)))) bX12_yearStep_166 oX12_yearStep_166 rfl ⟨rfl, rfl, hb7, trivial⟩ ?_
      exact mz_Go.drop [true, true, true, true, true, true] (ih x1 x2 x3 x4 (x5 + (1 : Int32)) (mz_wi D 0 201 ((x3 + x5)).toNatClampNeg (0 : Int32)) h)
def fX12_yearStep_145 (x1 : Int32) (x2 : Int32) (x3 : Int32) (x4 : Int32) (s0 : Int32) (s1 : Int32) (D : mz_D) : Option (Int32 × mz_D) := (mz_gd (mz_ix x3 3000) (fX12_yearStep_159 mz_N x1 x2 x3 x4 (1 : Int32) (mz_wi (mz_wi D 0 200 23 (s1 + s0)) 0 201 (x3).toNatClampNeg x1)))
set_option maxHeartbeats 4000000 in
theorem tX12_yearStep_145 (r : (Int32 × mz_D)) : ∀ (x1 : Int32) (x2 : Int32) (x3 : Int32) (x4 : Int32) (s0 : Int32) (s1 : Int32) (D : mz_D), fX12_yearStep_145 x1 x2 x3 x4 s0 s1 D = some r → mz_Go IX12_yearStep (some (.inl r.1), r.2) 0 0 (145, [some (.inr (.inr (some (0, 200)))), some (.inl x1), some (.inl x2), some (.inl x3), some (.inl x4), none], [.inl s0, .inl s1, .inr (.inr (some (0, 200)))], D) := by
  intro x1 x2 x3 x4 s0 s1 D h
  rw [fX12_yearStep_145] at h
  obtain ⟨hb1, h⟩ := mz_gd_some h
  refine mz_Go.run (gs := [mz_kz 0 0 200, mz_kz 0 0 200, mz_kz 0 0 201, mz_ix x3 3000]) (st' := (159, [some (.inr (.inr (some (0, 200)))), some (.inl x1), some (.inl x2), some (.inl x3), some (.inl x4), some (.inl (1 : Int32))], [], (mz_wi (mz_wi D 0 200 23 (s1 + s0)) 0 201 (x3).toNatClampNeg x1))) bX12_yearStep_145 oX12_yearStep_145 rfl ⟨rfl, rfl, rfl, hb1, trivial⟩ ?_
  exact mz_Go.drop [true, true, true, true, true, true] (tX12_yearStep_159 r mz_N x1 x2 x3 x4 (1 : Int32) (mz_wi (mz_wi D 0 200 23 (s1 + s0)) 0 201 (x3).toNatClampNeg x1) h)
def fX12_yearStep_129 (x1 : Int32) (x2 : Int32) (x3 : Int32) (x4 : Int32) (D : mz_D) : Option (Int32 × mz_D) := (if x1 = (26 : Int32) then (fX12_yearStep_145 x1 x2 x3 x4 (0 : Int32) (D.1 0 200 23) D) else (fX12_yearStep_145 x1 x2 x3 x4 (1 : Int32) (D.1 0 200 23) D))
set_option maxHeartbeats 4000000 in
theorem tX12_yearStep_129 (r : (Int32 × mz_D)) : ∀ (x1 : Int32) (x2 : Int32) (x3 : Int32) (x4 : Int32) (D : mz_D), fX12_yearStep_129 x1 x2 x3 x4 D = some r → mz_Go IX12_yearStep (some (.inl r.1), r.2) 0 0 (129, [some (.inr (.inr (some (0, 200)))), some (.inl x1), some (.inl x2), some (.inl x3), some (.inl x4), none], [], D) := by
  intro x1 x2 x3 x4 D h
  rw [fX12_yearStep_129] at h
  refine mz_Go.run (gs := [mz_kz 0 0 200]) (st' := (if x1 = (26 : Int32) then (140, [some (.inr (.inr (some (0, 200)))), some (.inl x1), some (.inl x2), some (.inl x3), some (.inl x4), none], [.inl (D.1 0 200 23), .inr (.inr (some (0, 200)))], D) else (144, [some (.inr (.inr (some (0, 200)))), some (.inl x1), some (.inl x2), some (.inl x3), some (.inl x4), none], [.inl (D.1 0 200 23), .inr (.inr (some (0, 200)))], D))) bX12_yearStep_129 oX12_yearStep_129 rfl ⟨rfl, trivial⟩ ?_
  refine mz_Go.ite (fun hc1 => ?_) (fun hc1 => ?_)
  · have h := mz_ifp hc1 h
    refine mz_Go.run (gs := []) (st' := (145, [some (.inr (.inr (some (0, 200)))), some (.inl x1), some (.inl x2), some (.inl x3), some (.inl x4), none], [.inl (0 : Int32), .inl (D.1 0 200 23), .inr (.inr (some (0, 200)))], D)) bX12_yearStep_140 oX12_yearStep_140 rfl trivial ?_
    exact mz_Go.drop [true, true, true, true, true, false] (tX12_yearStep_145 r x1 x2 x3 x4 (0 : Int32) (D.1 0 200 23) D h)
  · have h := mz_ifn hc1 h
    refine mz_Go.run (gs := []) (st' := (145, [some (.inr (.inr (some (0, 200)))), some (.inl x1), some (.inl x2), some (.inl x3), some (.inl x4), none], [.inl (1 : Int32), .inl (D.1 0 200 23), .inr (.inr (some (0, 200)))], D)) bX12_yearStep_144 oX12_yearStep_144 rfl trivial ?_
    exact mz_Go.drop [true, true, true, true, true, false] (tX12_yearStep_145 r x1 x2 x3 x4 (1 : Int32) (D.1 0 200 23) D h)
def fX12_yearStep_109 (x1 : Int32) (x2 : Int32) (x3 : Int32) (x4 : Int32) (D : mz_D) : Option (Int32 × mz_D) := (if x4 = 0 then (fX12_yearStep_129 x1 x2 x3 x4 D) else (if (D.1 0 200 22) = (3 : Int32) then (Option.bind (fX12_fails (7 : Int32) D) fun q3 => (mz_gd (mz_bo q3.1) (some (q3.1, q3.2)))) else (fX12_yearStep_129 x1 x2 x3 x4 D)))
set_option maxHeartbeats 4000000 in
theorem tX12_yearStep_109 (r : (Int32 × mz_D)) : ∀ (x1 : Int32) (x2 : Int32) (x3 : Int32) (x4 : Int32) (D : mz_D), fX12_yearStep_109 x1 x2 x3 x4 D = some r → mz_Go IX12_yearStep (some (.inl r.1), r.2) 0 0 (109, [some (.inr (.inr (some (0, 200)))), some (.inl x1), some (.inl x2), some (.inl x3), some (.inl x4), none], [], D) := by
  intro x1 x2 x3 x4 D h
  rw [fX12_yearStep_109] at h
  refine mz_Go.run (gs := []) (st' := (if x4 = 0 then (129, [some (.inr (.inr (some (0, 200)))), some (.inl x1), some (.inl x2), some (.inl x3), some (.inl x4), none], [], D) else (114, [some (.inr (.inr (some (0, 200)))), some (.inl x1), some (.inl x2), some (.inl x3), some (.inl x4), none], [], D))) bX12_yearStep_109 oX12_yearStep_109 rfl trivial ?_
  refine mz_Go.ite (fun hc1 => ?_) (fun hc1 => ?_)
  · have h := mz_ifp hc1 h
    exact mz_Go.drop [true, true, true, true, true, false] (tX12_yearStep_129 r x1 x2 x3 x4 D h)
  · have h := mz_ifn hc1 h
    refine mz_Go.run (gs := [mz_kz 0 0 200]) (st' := (if (D.1 0 200 22) = (3 : Int32) then (122, [some (.inr (.inr (some (0, 200)))), some (.inl x1), some (.inl x2), some (.inl x3), some (.inl x4), none], [], D) else (129, [some (.inr (.inr (some (0, 200)))), some (.inl x1), some (.inl x2), some (.inl x3), some (.inl x4), none], [], D))) bX12_yearStep_114 oX12_yearStep_114 rfl ⟨rfl, trivial⟩ ?_
    refine mz_Go.ite (fun hc2 => ?_) (fun hc2 => ?_)
    · have h := mz_ifp hc2 h
      refine mz_Go.run (gs := []) (st' := (125, [some (.inr (.inr (some (0, 200)))), some (.inl x1), some (.inl x2), some (.inl x3), some (.inl x4), none], [.inl (7 : Int32), .inr (.inr (some (0, 200)))], D)) bX12_yearStep_122 oX12_yearStep_122 rfl trivial ?_
      obtain ⟨q3, hq3, h⟩ := mz_bd_some h
      refine mz_Go.callV (I := IX12_yearStep) (J := IX12_fails) (as := [.inl (7 : Int32)]) (ci := 12) (g := 0) (o := 200) (idx := 157) (pl := 1780) (rest := []) (mX12_fails (7 : Int32) D q3 hq3) kX12_fails vX12_fails (by decide +kernel) (by decide +kernel) (by decide +kernel) rfl rfl ⟨rfl, rfl⟩ rfl rfl rfl rfl ?_
      obtain ⟨hb4, h⟩ := mz_gd_some h
      cases h
      exact mz_Go.retz (by decide +kernel) rfl ⟨Nat.le_refl _, Nat.le_refl _⟩ hb4 rfl
    · have h := mz_ifn hc2 h
      exact mz_Go.drop [true, true, true, true, true, false] (tX12_yearStep_129 r x1 x2 x3 x4 D h)
def fX12_yearStep_87 (x1 : Int32) (x2 : Int32) (x3 : Int32) (x4 : Int32) (D : mz_D) : Option (Int32 × mz_D) := (if x1 = (26 : Int32) then (fX12_yearStep_109 x1 x2 x3 x4 D) else (if (D.1 0 200 23) = (30 : Int32) then (Option.bind (fX12_fails (6 : Int32) D) fun q3 => (mz_gd (mz_bo q3.1) (some (q3.1, q3.2)))) else (fX12_yearStep_109 x1 x2 x3 x4 D)))
set_option maxHeartbeats 4000000 in
theorem tX12_yearStep_87 (r : (Int32 × mz_D)) : ∀ (x1 : Int32) (x2 : Int32) (x3 : Int32) (x4 : Int32) (D : mz_D), fX12_yearStep_87 x1 x2 x3 x4 D = some r → mz_Go IX12_yearStep (some (.inl r.1), r.2) 0 0 (87, [some (.inr (.inr (some (0, 200)))), some (.inl x1), some (.inl x2), some (.inl x3), some (.inl x4), none], [], D) := by
  intro x1 x2 x3 x4 D h
  rw [fX12_yearStep_87] at h
  refine mz_Go.run (gs := []) (st' := (if x1 = (26 : Int32) then (109, [some (.inr (.inr (some (0, 200)))), some (.inl x1), some (.inl x2), some (.inl x3), some (.inl x4), none], [], D) else (93, [some (.inr (.inr (some (0, 200)))), some (.inl x1), some (.inl x2), some (.inl x3), some (.inl x4), none], [], D))) bX12_yearStep_87 oX12_yearStep_87 rfl trivial ?_
  refine mz_Go.ite (fun hc1 => ?_) (fun hc1 => ?_)
  · have h := mz_ifp hc1 h
    exact mz_Go.drop [true, true, true, true, true, false] (tX12_yearStep_109 r x1 x2 x3 x4 D h)
  · have h := mz_ifn hc1 h
    refine mz_Go.run (gs := [mz_kz 0 0 200]) (st' := (if (D.1 0 200 23) = (30 : Int32) then (102, [some (.inr (.inr (some (0, 200)))), some (.inl x1), some (.inl x2), some (.inl x3), some (.inl x4), none], [], D) else (109, [some (.inr (.inr (some (0, 200)))), some (.inl x1), some (.inl x2), some (.inl x3), some (.inl x4), none], [], D))) bX12_yearStep_93 oX12_yearStep_93 rfl ⟨rfl, trivial⟩ ?_
    refine mz_Go.ite (fun hc2 => ?_) (fun hc2 => ?_)
    · have h := mz_ifp hc2 h
      refine mz_Go.run (gs := []) (st' := (105, [some (.inr (.inr (some (0, 200)))), some (.inl x1), some (.inl x2), some (.inl x3), some (.inl x4), none], [.inl (6 : Int32), .inr (.inr (some (0, 200)))], D)) bX12_yearStep_102 oX12_yearStep_102 rfl trivial ?_
      obtain ⟨q3, hq3, h⟩ := mz_bd_some h
      refine mz_Go.callV (I := IX12_yearStep) (J := IX12_fails) (as := [.inl (6 : Int32)]) (ci := 12) (g := 0) (o := 200) (idx := 157) (pl := 1780) (rest := []) (mX12_fails (6 : Int32) D q3 hq3) kX12_fails vX12_fails (by decide +kernel) (by decide +kernel) (by decide +kernel) rfl rfl ⟨rfl, rfl⟩ rfl rfl rfl rfl ?_
      obtain ⟨hb4, h⟩ := mz_gd_some h
      cases h
      exact mz_Go.retz (by decide +kernel) rfl ⟨Nat.le_refl _, Nat.le_refl _⟩ hb4 rfl
    · have h := mz_ifn hc2 h
      exact mz_Go.drop [true, true, true, true, true, false] (tX12_yearStep_109 r x1 x2 x3 x4 D h)
def fX12_yearStep_42 (x1 : Int32) (x2 : Int32) (x3 : Int32) (s0 : Int32) (D : mz_D) : Option (Int32 × mz_D) := (if x1 < (17 : Int32) then (fX12_yearStep_81 D) else (if (27 : Int32) < x1 then (fX12_yearStep_81 D) else (if x1 = (22 : Int32) then (fX12_yearStep_81 D) else (if x1 = (23 : Int32) then (fX12_yearStep_81 D) else (if x1 = (26 : Int32) then (if (D.1 0 200 22) = 0 then (fX12_yearStep_81 D) else (fX12_yearStep_87 x1 x2 x3 s0 D)) else (fX12_yearStep_87 x1 x2 x3 s0 D))))))
set_option maxHeartbeats 4000000 in
theorem tX12_yearStep_42 (r : (Int32 × mz_D)) : ∀ (x1 : Int32) (x2 : Int32) (x3 : Int32) (s0 : Int32) (D : mz_D), fX12_yearStep_42 x1 x2 x3 s0 D = some r → mz_Go IX12_yearStep (some (.inl r.1), r.2) 0 0 (42, [some (.inr (.inr (some (0, 200)))), some (.inl x1), some (.inl x2), some (.inl x3), none, none], [.inl s0], D) := by
  intro x1 x2 x3 s0 D h
  rw [fX12_yearStep_42] at h
  refine mz_Go.run (gs := []) (st' := (if x1 < (17 : Int32) then (81, [some (.inr (.inr (some (0, 200)))), some (.inl x1), some (.inl x2), some (.inl x3), some (.inl s0), none], [], D) else (50, [some (.inr (.inr (some (0, 200)))), some (.inl x1), some (.inl x2), some (.inl x3), some (.inl s0), none], [], D))) bX12_yearStep_42 oX12_yearStep_42 rfl trivial ?_
  refine mz_Go.ite (fun hc1 => ?_) (fun hc1 => ?_)
  · have h := mz_ifp hc1 h
    exact mz_Go.drop [true, false, false, false, false, false] (tX12_yearStep_81 r D h)
  · have h := mz_ifn hc1 h
    refine mz_Go.run (gs := []) (st' := (if (27 : Int32) < x1 then (81, [some (.inr (.inr (some (0, 200)))), some (.inl x1), some (.inl x2), some (.inl x3), some (.inl s0), none], [], D) else (56, [some (.inr (.inr (some (0, 200)))), some (.inl x1), some (.inl x2), some (.inl x3), some (.inl s0), none], [], D))) bX12_yearStep_50 oX12_yearStep_50 rfl trivial ?_
    refine mz_Go.ite (fun hc2 => ?_) (fun hc2 => ?_)
    · have h := mz_ifp hc2 h
      exact mz_Go.drop [true, false, false, false, false, false] (tX12_yearStep_81 r D h)
    · have h := mz_ifn hc2 h
      refine mz_Go.run (gs := []) (st' := (if x1 = (22 : Int32) then (81, [some (.inr (.inr (some (0, 200)))), some (.inl x1), some (.inl x2), some (.inl x3), some (.inl s0), none], [], D) else (62, [some (.inr (.inr (some (0, 200)))), some (.inl x1), some (.inl x2), some (.inl x3), some (.inl s0), none], [], D))) bX12_yearStep_56 oX12_yearStep_56 rfl trivial ?_
      refine mz_Go.ite (fun hc3 => ?_) (fun hc3 => ?_)
      · have h := mz_ifp hc3 h
        exact mz_Go.drop [true, false, false, false, false, false] (tX12_yearStep_81 r D h)
      · have h := mz_ifn hc3 h
        refine mz_Go.run (gs := []) (st' := (if x1 = (23 : Int32) then (81, [some (.inr (.inr (some (0, 200)))), some (.inl x1), some (.inl x2), some (.inl x3), some (.inl s0), none], [], D) else (68, [some (.inr (.inr (some (0, 200)))), some (.inl x1), some (.inl x2), some (.inl x3), some (.inl s0), none], [], D))) bX12_yearStep_62 oX12_yearStep_62 rfl trivial ?_
        refine mz_Go.ite (fun hc4 => ?_) (fun hc4 => ?_)
        · have h := mz_ifp hc4 h
          exact mz_Go.drop [true, false, false, false, false, false] (tX12_yearStep_81 r D h)
        · have h := mz_ifn hc4 h
          refine mz_Go.run (gs := []) (st' := (if x1 = (26 : Int32) then (74, [some (.inr (.inr (some (0, 200)))), some (.inl x1), some (.inl x2), some (.inl x3), some (.inl s0), none], [], D) else (87, [some (.inr (.inr (some (0, 200)))), some (.inl x1), some (.inl x2), some (.inl x3), some (.inl s0), none], [], D))) bX12_yearStep_68 oX12_yearStep_68 rfl trivial ?_
          refine mz_Go.ite (fun hc5 => ?_) (fun hc5 => ?_)
          · have h := mz_ifp hc5 h
            refine mz_Go.run (gs := [mz_kz 0 0 200]) (st' := (if (D.1 0 200 22) = 0 then (81, [some (.inr (.inr (some (0, 200)))), some (.inl x1), some (.inl x2), some (.inl x3), some (.inl s0), none], [], D) else (87, [some (.inr (.inr (some (0, 200)))), some (.inl x1), some (.inl x2), some (.inl x3), some (.inl s0), none], [], D))) bX12_yearStep_74 oX12_yearStep_74 rfl ⟨rfl, trivial⟩ ?_
            refine mz_Go.ite (fun hc6 => ?_) (fun hc6 => ?_)
            · have h := mz_ifp hc6 h
              exact mz_Go.drop [true, false, false, false, false, false] (tX12_yearStep_81 r D h)
            · have h := mz_ifn hc6 h
              exact mz_Go.drop [true, true, true, true, true, false] (tX12_yearStep_87 r x1 x2 x3 s0 D h)
          · have h := mz_ifn hc5 h
            exact mz_Go.drop [true, true, true, true, true, false] (tX12_yearStep_87 r x1 x2 x3 s0 D h)
def fX12_yearStep_37 (x1 : Int32) (x2 : Int32) (x3 : Int32) (D : mz_D) : Option (Int32 × mz_D) := (fX12_yearStep_42 x1 x2 x3 (1 : Int32) D)
set_option maxHeartbeats 4000000 in
theorem tX12_yearStep_37 (r : (Int32 × mz_D)) : ∀ (x1 : Int32) (x2 : Int32) (x3 : Int32) (D : mz_D), fX12_yearStep_37 x1 x2 x3 D = some r → mz_Go IX12_yearStep (some (.inl r.1), r.2) 0 0 (37, [some (.inr (.inr (some (0, 200)))), some (.inl x1), some (.inl x2), some (.inl x3), none, none], [], D) := by
  intro x1 x2 x3 D h
  rw [fX12_yearStep_37] at h
  refine mz_Go.run (gs := []) (st' := (42, [some (.inr (.inr (some (0, 200)))), some (.inl x1), some (.inl x2), some (.inl x3), none, none], [.inl (1 : Int32)], D)) bX12_yearStep_37 oX12_yearStep_37 rfl trivial ?_
  exact mz_Go.drop [true, true, true, true, false, false] (tX12_yearStep_42 r x1 x2 x3 (1 : Int32) D h)
def fX12_yearStep (D : mz_D) : Option (Int32 × mz_D) := (Option.bind (fX12_inWords D) fun q1 => (if q1 = (24 : Int32) then (fX12_yearStep_37 q1 (D.1 0 201 ((2009 : Int32)).toNatClampNeg) ((2130 : Int32) + ((6 : Int32) * (D.1 0 201 ((2009 : Int32)).toNatClampNeg))) D) else (if q1 = (25 : Int32) then (fX12_yearStep_37 q1 (D.1 0 201 ((2009 : Int32)).toNatClampNeg) ((2130 : Int32) + ((6 : Int32) * (D.1 0 201 ((2009 : Int32)).toNatClampNeg))) D) else (fX12_yearStep_42 q1 (D.1 0 201 ((2009 : Int32)).toNatClampNeg) ((2130 : Int32) + ((6 : Int32) * (D.1 0 201 ((2009 : Int32)).toNatClampNeg))) (0 : Int32) D))))
set_option maxHeartbeats 4000000 in
theorem mX12_yearStep (D : mz_D) (r : (Int32 × mz_D)) (h : fX12_yearStep D = some r) : mz_Met IX12_yearStep [.inr (.inr (some (0, 200)))] D (some (.inl r.1), r.2) := by
  refine mz_Met.of (by decide +kernel) (Nat.le_of_ble_eq_true rfl) ?_
  show mz_Go IX12_yearStep (some (.inl r.1), r.2) 0 0 (0, [some (.inr (.inr (some (0, 200)))), none, none, none, none, none], [], D)
  rw [fX12_yearStep] at h
  refine mz_Go.run (gs := []) (st' := (1, [some (.inr (.inr (some (0, 200)))), none, none, none, none, none], [.inr (.inr (some (0, 200)))], D)) bX12_yearStep_0 oX12_yearStep_0 rfl trivial ?_
  refine mz_Go.ldcK rfl (by decide +kernel) ?_
  obtain ⟨q1, hq1, h⟩ := mz_bd_some h
  refine mz_Go.callV (I := IX12_yearStep) (J := IX12_inWords) (as := [.inr (.inr (some (0, 401)))]) (ci := 12) (g := 0) (o := 200) (idx := 160) (pl := 1770) (rest := []) (mX12_inWords D q1 hq1) kX12_inWords vX12_inWords (by decide +kernel) (by decide +kernel) (by decide +kernel) rfl rfl ⟨rfl, rfl⟩ rfl rfl rfl rfl ?_
  refine mz_Go.run (gs := [mz_kz 0 0 200, mz_kz 0 0 201, mz_ix (2009 : Int32) 3000]) (st' := (if q1 = (24 : Int32) then (37, [some (.inr (.inr (some (0, 200)))), some (.inl q1), some (.inl (D.1 0 201 ((2009 : Int32)).toNatClampNeg)), some (.inl ((2130 : Int32) + ((6 : Int32) * (D.1 0 201 ((2009 : Int32)).toNatClampNeg)))), none, none], [], D) else (31, [some (.inr (.inr (some (0, 200)))), some (.inl q1), some (.inl (D.1 0 201 ((2009 : Int32)).toNatClampNeg)), some (.inl ((2130 : Int32) + ((6 : Int32) * (D.1 0 201 ((2009 : Int32)).toNatClampNeg)))), none, none], [], D))) bX12_yearStep_6 oX12_yearStep_6 rfl ⟨rfl, rfl, (by decide), trivial⟩ ?_
  refine mz_Go.ite (fun hc2 => ?_) (fun hc2 => ?_)
  · have h := mz_ifp hc2 h
    exact mz_Go.drop [true, true, true, true, false, false] (tX12_yearStep_37 r q1 (D.1 0 201 ((2009 : Int32)).toNatClampNeg) ((2130 : Int32) + ((6 : Int32) * (D.1 0 201 ((2009 : Int32)).toNatClampNeg))) D h)
  · have h := mz_ifn hc2 h
    refine mz_Go.run (gs := []) (st' := (if q1 = (25 : Int32) then (37, [some (.inr (.inr (some (0, 200)))), some (.inl q1), some (.inl (D.1 0 201 ((2009 : Int32)).toNatClampNeg)), some (.inl ((2130 : Int32) + ((6 : Int32) * (D.1 0 201 ((2009 : Int32)).toNatClampNeg)))), none, none], [], D) else (41, [some (.inr (.inr (some (0, 200)))), some (.inl q1), some (.inl (D.1 0 201 ((2009 : Int32)).toNatClampNeg)), some (.inl ((2130 : Int32) + ((6 : Int32) * (D.1 0 201 ((2009 : Int32)).toNatClampNeg)))), none, none], [], D))) bX12_yearStep_31 oX12_yearStep_31 rfl trivial ?_
    refine mz_Go.ite (fun hc3 => ?_) (fun hc3 => ?_)
    · have h := mz_ifp hc3 h
      exact mz_Go.drop [true, true, true, true, false, false] (tX12_yearStep_37 r q1 (D.1 0 201 ((2009 : Int32)).toNatClampNeg) ((2130 : Int32) + ((6 : Int32) * (D.1 0 201 ((2009 : Int32)).toNatClampNeg))) D h)
    · have h := mz_ifn hc3 h
      refine mz_Go.run (gs := []) (st' := (42, [some (.inr (.inr (some (0, 200)))), some (.inl q1), some (.inl (D.1 0 201 ((2009 : Int32)).toNatClampNeg)), some (.inl ((2130 : Int32) + ((6 : Int32) * (D.1 0 201 ((2009 : Int32)).toNatClampNeg)))), none, none], [.inl (0 : Int32)], D)) bX12_yearStep_41 oX12_yearStep_41 rfl trivial ?_
      exact mz_Go.drop [true, true, true, true, false, false] (tX12_yearStep_42 r q1 (D.1 0 201 ((2009 : Int32)).toNatClampNeg) ((2130 : Int32) + ((6 : Int32) * (D.1 0 201 ((2009 : Int32)).toNatClampNeg))) (0 : Int32) D h)
def bX12_year_0 : List mz_E := [(0, .aload_n 0, 0, 0, 0, 0, 0), (1, .iload_n 1, 0, 0, 0, 0, 0), (2, .sipush 300, 0, 0, 0, 300, 0)]
theorem oX12_year_0 : bX12_year_0.all (mz_ok RX12 cX12_year 4) = true := by decide +kernel
def bX12_year_8 : List mz_E := [(8, .ifCond .ne 9, 0, 17, 0, 0, 0)]
theorem oX12_year_8 : bX12_year_8.all (mz_ok RX12 cX12_year 4) = true := by decide +kernel
def bX12_year_11 : List mz_E := [(11, .aload_n 0, 0, 0, 0, 0, 0), (12, .iconst 1, 0, 0, 0, 1, 0)]
theorem oX12_year_11 : bX12_year_11.all (mz_ok RX12 cX12_year 4) = true := by decide +kernel
def bX12_year_17 : List mz_E := [(17, .aload_n 0, 0, 0, 0, 0, 0), (18, .getfield 7, 12, 0, 1576, 0, 0), (21, .sipush 2009, 0, 0, 0, 2009, 0), (24, .iconst 0, 0, 0, 0, 0, 0), (25, .iastore, 0, 0, 0, 0, 0), (26, .aload_n 0, 0, 0, 0, 0, 0), (27, .iconst 0, 0, 0, 0, 0, 0), (28, .putfield 236, 12, 22, 1598, 0, 0), (31, .aload_n 0, 0, 0, 0, 0, 0), (32, .iconst 0, 0, 0, 0, 0, 0), (33, .putfield 239, 12, 23, 1599, 0, 0), (36, .iconst 1, 0, 0, 0, 1, 0), (37, .istore_n 2, 0, 0, 0, 0, 0)]
theorem oX12_year_17 : bX12_year_17.all (mz_ok RX12 cX12_year 4) = true := by decide +kernel
def bX12_year_38 : List mz_E := [(38, .iload_n 2, 0, 0, 0, 0, 0), (39, .ifCond .eq 18, 0, 57, 0, 0, 0)]
theorem oX12_year_38 : bX12_year_38.all (mz_ok RX12 cX12_year 4) = true := by decide +kernel
def bX12_year_57 : List mz_E := [(57, .aload_n 0, 0, 0, 0, 0, 0), (58, .getfield 145, 12, 18, 1594, 0, 0), (61, .ifCond .ne 16, 0, 77, 0, 0, 0)]
theorem oX12_year_57 : bX12_year_57.all (mz_ok RX12 cX12_year 4) = true := by decide +kernel
def bX12_year_64 : List mz_E := [(64, .aload_n 0, 0, 0, 0, 0, 0), (65, .getfield 236, 12, 22, 1598, 0, 0), (68, .ifCond .le 9, 0, 77, 0, 0, 0)]
theorem oX12_year_64 : bX12_year_64.all (mz_ok RX12 cX12_year 4) = true := by decide +kernel
def bX12_year_77 : List mz_E := [(77, .aload_n 0, 0, 0, 0, 0, 0), (78, .getfield 145, 12, 18, 1594, 0, 0), (81, .ifCond .ne 51, 0, 132, 0, 0, 0)]
theorem oX12_year_77 : bX12_year_77.all (mz_ok RX12 cX12_year 4) = true := by decide +kernel
def bX12_year_84 : List mz_E := [(84, .aload_n 0, 0, 0, 0, 0, 0), (85, .getfield 7, 12, 0, 1576, 0, 0), (88, .bipush 9, 0, 0, 0, 9, 0), (90, .aload_n 0, 0, 0, 0, 0, 0), (91, .getfield 7, 12, 0, 1576, 0, 0), (94, .sipush 2009, 0, 0, 0, 2009, 0), (97, .iaload, 0, 0, 0, 0, 0), (98, .iastore, 0, 0, 0, 0, 0), (99, .sipush 130, 0, 0, 0, 130, 0), (102, .istore_n 3, 0, 0, 0, 0, 0)]
theorem oX12_year_84 : bX12_year_84.all (mz_ok RX12 cX12_year 4) = true := by decide +kernel
def bX12_year_103 : List mz_E := [(103, .iload_n 3, 0, 0, 0, 0, 0), (104, .sipush 495, 0, 0, 0, 495, 0), (107, .if_icmp .ge 25, 0, 132, 0, 0, 0)]
theorem oX12_year_103 : bX12_year_103.all (mz_ok RX12 cX12_year 4) = true := by decide +kernel
def bX12_year_132 : List mz_E := [(132, .aload_n 0, 0, 0, 0, 0, 0), (133, .aload_n 0, 0, 0, 0, 0, 0), (134, .getfield 239, 12, 23, 1599, 0, 0)]
theorem oX12_year_132 : bX12_year_132.all (mz_ok RX12 cX12_year 4) = true := by decide +kernel
def bX12_year_110 : List mz_E := [(110, .aload_n 0, 0, 0, 0, 0, 0), (111, .getfield 7, 12, 0, 1576, 0, 0), (114, .iload_n 3, 0, 0, 0, 0, 0), (115, .aload_n 0, 0, 0, 0, 0, 0), (116, .getfield 7, 12, 0, 1576, 0, 0), (119, .sipush 2000, 0, 0, 0, 2000, 0), (122, .iload_n 3, 0, 0, 0, 0, 0), (123, .iadd, 0, 0, 0, 0, 0), (124, .iaload, 0, 0, 0, 0, 0), (125, .iastore, 0, 0, 0, 0, 0), (126, .iinc 3 1, 0, 0, 0, 1, 0), (129, .goto (-26), 0, 103, 0, 0, 0)]
theorem oX12_year_110 : bX12_year_110.all (mz_ok RX12 cX12_year 4) = true := by decide +kernel
def bX12_year_71 : List mz_E := [(71, .aload_n 0, 0, 0, 0, 0, 0), (72, .iconst 2, 0, 0, 0, 2, 0)]
theorem oX12_year_71 : bX12_year_71.all (mz_ok RX12 cX12_year 4) = true := by decide +kernel
def bX12_year_76 : List mz_E := [(76, .pop, 0, 0, 0, 0, 0)]
theorem oX12_year_76 : bX12_year_76.all (mz_ok RX12 cX12_year 4) = true := by decide +kernel
def bX12_year_42 : List mz_E := [(42, .aload_n 0, 0, 0, 0, 0, 0), (43, .getfield 120, 12, 12, 1588, 0, 0), (46, .ifCond .eq 11, 0, 57, 0, 0, 0)]
theorem oX12_year_42 : bX12_year_42.all (mz_ok RX12 cX12_year 4) = true := by decide +kernel
def bX12_year_49 : List mz_E := [(49, .aload_n 0, 0, 0, 0, 0, 0)]
theorem oX12_year_49 : bX12_year_49.all (mz_ok RX12 cX12_year 4) = true := by decide +kernel
def bX12_year_53 : List mz_E := [(53, .istore_n 2, 0, 0, 0, 0, 0), (54, .goto (-16), 0, 38, 0, 0, 0)]
theorem oX12_year_53 : bX12_year_53.all (mz_ok RX12 cX12_year 4) = true := by decide +kernel
abbrev IX12_year : mz_I := (yX12_year, cX12_year, 4, (some .int), 0, 11, 0, 0)
theorem kX12_year : mz_okm IX12_year 1851 141 1849 1 = true := by decide +kernel
theorem vX12_year : mz_okV IX12_year 1849 1850 = true := by decide +kernel
def fX12_year_132 (D : mz_D) : Option (Int32 × mz_D) := (Option.bind (fX12_taken (D.1 0 200 23) D) fun q1 => (some (q1.1, q1.2)))
set_option maxHeartbeats 4000000 in
theorem tX12_year_132 (r : (Int32 × mz_D)) : ∀ (D : mz_D), fX12_year_132 D = some r → mz_Go IX12_year (some (.inl r.1), r.2) 0 0 (132, [some (.inr (.inr (some (0, 200)))), none, none, none], [], D) := by
  intro D h
  rw [fX12_year_132] at h
  refine mz_Go.run (gs := [mz_kz 0 0 200]) (st' := (137, [some (.inr (.inr (some (0, 200)))), none, none, none], [.inl (D.1 0 200 23), .inr (.inr (some (0, 200)))], D)) bX12_year_132 oX12_year_132 rfl ⟨rfl, trivial⟩ ?_
  obtain ⟨q1, hq1, h⟩ := mz_bd_some h
  refine mz_Go.callV (I := IX12_year) (J := IX12_taken) (as := [.inl (D.1 0 200 23)]) (ci := 12) (g := 0) (o := 200) (idx := 223) (pl := 1840) (rest := []) (mX12_taken (D.1 0 200 23) D q1 hq1) kX12_taken vX12_taken (by decide +kernel) (by decide +kernel) (by decide +kernel) rfl rfl ⟨rfl, rfl⟩ rfl rfl rfl rfl ?_
  cases h
  exact mz_Go.reti (by decide +kernel) rfl ⟨Nat.le_refl _, Nat.le_refl _⟩ rfl
def fX12_year_103 : Nat → Int32 → mz_D → Option (Int32 × mz_D)
  | 0 => fun _ _ => none
  | n + 1 => fun x3 D => (if (495 : Int32) ≤ x3 then (fX12_year_132 D) else (mz_gd (mz_ix ((2000 : Int32) + x3) 3000) (mz_gd (mz_ix x3 3000) ((fX12_year_103 n) (x3 + (1 : Int32)) (mz_wi D 0 201 (x3).toNatClampNeg (D.1 0 201 (((2000 : Int32) + x3)).toNatClampNeg))))))
set_option maxHeartbeats 4000000 in
theorem tX12_year_103 (r : (Int32 × mz_D)) : ∀ (n : Nat) (x3 : Int32) (D : mz_D), fX12_year_103 n x3 D = some r → mz_Go IX12_year (some (.inl r.1), r.2) 0 0 (103, [some (.inr (.inr (some (0, 200)))), none, none, some (.inl x3)], [], D) := by
  intro n
  induction n with
  | zero => intro x3 D h; have h : (none : Option (Int32 × mz_D)) = some r := h; cases h
  | succ n ih =>
    intro x3 D h
    rw [fX12_year_103] at h
    refine mz_Go.run (gs := []) (st' := (if (495 : Int32) ≤ x3 then (132, [some (.inr (.inr (some (0, 200)))), none, none, some (.inl x3)], [], D) else (110, [some (.inr (.inr (some (0, 200)))), none, none, some (.inl x3)], [], D))) bX12_year_103 oX12_year_103 rfl trivial ?_
    refine mz_Go.ite (fun hc1 => ?_) (fun hc1 => ?_)
    · have h := mz_ifp hc1 h
      exact mz_Go.drop [true, false, false, false] (tX12_year_132 r D h)
    · have h := mz_ifn hc1 h
      obtain ⟨hb2, h⟩ := mz_gd_some h
      obtain ⟨hb3, h⟩ := mz_gd_some h
      refine mz_Go.run (gs := [mz_kz 0 0 200, mz_kz 0 0 200, mz_kz 0 0 201, mz_ix ((2000 : Int32) + x3) 3000, mz_kz 0 0 201, mz_ix x3 3000]) (st' := (103, [some (.inr (.inr (some (0, 200)))), none, none, some (.inl (x3 + (1 : Int32)))], [], (mz_wi D 0 201 (x3).toNatClampNeg (D.1 0 201 (((2000 : Int32) + x3)).toNatClampNeg)))) bX12_year_110 oX12_year_110 rfl ⟨rfl, rfl, rfl, hb2, rfl, hb3, trivial⟩ ?_
      exact mz_Go.drop [true, false, false, true] (ih (x3 + (1 : Int32)) (mz_wi D 0 201 (x3).toNatClampNeg (D.1 0 201 (((2000 : Int32) + x3)).toNatClampNeg)) h)
def fX12_year_77 (D : mz_D) : Option (Int32 × mz_D) := (if (D.1 0 200 18) = 0 then (fX12_year_103 mz_N (130 : Int32) (mz_wi D 0 201 ((9 : Int32)).toNatClampNeg (D.1 0 201 ((2009 : Int32)).toNatClampNeg))) else (fX12_year_132 D))
set_option maxHeartbeats 4000000 in
theorem tX12_year_77 (r : (Int32 × mz_D)) : ∀ (D : mz_D), fX12_year_77 D = some r → mz_Go IX12_year (some (.inl r.1), r.2) 0 0 (77, [some (.inr (.inr (some (0, 200)))), none, none, none], [], D) := by
  intro D h
  rw [fX12_year_77] at h
  refine mz_Go.run (gs := [mz_kz 0 0 200]) (st' := (if (D.1 0 200 18) = 0 then (84, [some (.inr (.inr (some (0, 200)))), none, none, none], [], D) else (132, [some (.inr (.inr (some (0, 200)))), none, none, none], [], D))) bX12_year_77 oX12_year_77 rfl ⟨rfl, trivial⟩ ?_
  refine mz_Go.ite (fun hc1 => ?_) (fun hc1 => ?_)
  · have h := mz_ifp hc1 h
    refine mz_Go.run (gs := [mz_kz 0 0 200, mz_kz 0 0 200, mz_kz 0 0 201, mz_ix (2009 : Int32) 3000, mz_kz 0 0 201, mz_ix (9 : Int32) 3000]) (st' := (103, [some (.inr (.inr (some (0, 200)))), none, none, some (.inl (130 : Int32))], [], (mz_wi D 0 201 ((9 : Int32)).toNatClampNeg (D.1 0 201 ((2009 : Int32)).toNatClampNeg)))) bX12_year_84 oX12_year_84 rfl ⟨rfl, rfl, rfl, (by decide), rfl, (by decide), trivial⟩ ?_
    exact mz_Go.drop [true, false, false, true] (tX12_year_103 r mz_N (130 : Int32) (mz_wi D 0 201 ((9 : Int32)).toNatClampNeg (D.1 0 201 ((2009 : Int32)).toNatClampNeg)) h)
  · have h := mz_ifn hc1 h
    exact mz_Go.drop [true, false, false, false] (tX12_year_132 r D h)
def fX12_year_57 (D : mz_D) : Option (Int32 × mz_D) := (if (D.1 0 200 18) = 0 then (if (D.1 0 200 22) ≤ 0 then (fX12_year_77 D) else (Option.bind (fX12_fails (2 : Int32) D) fun q3 => (fX12_year_77 q3.2))) else (fX12_year_77 D))
set_option maxHeartbeats 4000000 in
theorem tX12_year_57 (r : (Int32 × mz_D)) : ∀ (D : mz_D), fX12_year_57 D = some r → mz_Go IX12_year (some (.inl r.1), r.2) 0 0 (57, [some (.inr (.inr (some (0, 200)))), none, none, none], [], D) := by
  intro D h
  rw [fX12_year_57] at h
  refine mz_Go.run (gs := [mz_kz 0 0 200]) (st' := (if (D.1 0 200 18) = 0 then (64, [some (.inr (.inr (some (0, 200)))), none, none, none], [], D) else (77, [some (.inr (.inr (some (0, 200)))), none, none, none], [], D))) bX12_year_57 oX12_year_57 rfl ⟨rfl, trivial⟩ ?_
  refine mz_Go.ite (fun hc1 => ?_) (fun hc1 => ?_)
  · have h := mz_ifp hc1 h
    refine mz_Go.run (gs := [mz_kz 0 0 200]) (st' := (if (D.1 0 200 22) ≤ 0 then (77, [some (.inr (.inr (some (0, 200)))), none, none, none], [], D) else (71, [some (.inr (.inr (some (0, 200)))), none, none, none], [], D))) bX12_year_64 oX12_year_64 rfl ⟨rfl, trivial⟩ ?_
    refine mz_Go.ite (fun hc2 => ?_) (fun hc2 => ?_)
    · have h := mz_ifp hc2 h
      exact mz_Go.drop [true, false, false, false] (tX12_year_77 r D h)
    · have h := mz_ifn hc2 h
      refine mz_Go.run (gs := []) (st' := (73, [some (.inr (.inr (some (0, 200)))), none, none, none], [.inl (2 : Int32), .inr (.inr (some (0, 200)))], D)) bX12_year_71 oX12_year_71 rfl trivial ?_
      obtain ⟨q3, hq3, h⟩ := mz_bd_some h
      refine mz_Go.callV (I := IX12_year) (J := IX12_fails) (as := [.inl (2 : Int32)]) (ci := 12) (g := 0) (o := 200) (idx := 157) (pl := 1780) (rest := []) (mX12_fails (2 : Int32) D q3 hq3) kX12_fails vX12_fails (by decide +kernel) (by decide +kernel) (by decide +kernel) rfl rfl ⟨rfl, rfl⟩ rfl rfl rfl rfl ?_
      refine mz_Go.run (gs := []) (st' := (77, [some (.inr (.inr (some (0, 200)))), none, none, none], [], q3.2)) bX12_year_76 oX12_year_76 rfl trivial ?_
      exact mz_Go.drop [true, false, false, false] (tX12_year_77 r q3.2 h)
  · have h := mz_ifn hc1 h
    exact mz_Go.drop [true, false, false, false] (tX12_year_77 r D h)
def fX12_year_38 : Nat → Int32 → mz_D → Option (Int32 × mz_D)
  | 0 => fun _ _ => none
  | n + 1 => fun x2 D => (if x2 = 0 then (fX12_year_57 D) else (if (D.1 0 200 12) = 0 then (fX12_year_57 D) else (Option.bind (fX12_yearStep D) fun q3 => ((fX12_year_38 n) q3.1 q3.2))))
set_option maxHeartbeats 4000000 in
theorem tX12_year_38 (r : (Int32 × mz_D)) : ∀ (n : Nat) (x2 : Int32) (D : mz_D), fX12_year_38 n x2 D = some r → mz_Go IX12_year (some (.inl r.1), r.2) 0 0 (38, [some (.inr (.inr (some (0, 200)))), none, some (.inl x2), none], [], D) := by
  intro n
  induction n with
  | zero => intro x2 D h; have h : (none : Option (Int32 × mz_D)) = some r := h; cases h
  | succ n ih =>
    intro x2 D h
    rw [fX12_year_38] at h
    refine mz_Go.run (gs := []) (st' := (if x2 = 0 then (57, [some (.inr (.inr (some (0, 200)))), none, some (.inl x2), none], [], D) else (42, [some (.inr (.inr (some (0, 200)))), none, some (.inl x2), none], [], D))) bX12_year_38 oX12_year_38 rfl trivial ?_
    refine mz_Go.ite (fun hc1 => ?_) (fun hc1 => ?_)
    · have h := mz_ifp hc1 h
      exact mz_Go.drop [true, false, false, false] (tX12_year_57 r D h)
    · have h := mz_ifn hc1 h
      refine mz_Go.run (gs := [mz_kz 0 0 200]) (st' := (if (D.1 0 200 12) = 0 then (57, [some (.inr (.inr (some (0, 200)))), none, some (.inl x2), none], [], D) else (49, [some (.inr (.inr (some (0, 200)))), none, some (.inl x2), none], [], D))) bX12_year_42 oX12_year_42 rfl ⟨rfl, trivial⟩ ?_
      refine mz_Go.ite (fun hc2 => ?_) (fun hc2 => ?_)
      · have h := mz_ifp hc2 h
        exact mz_Go.drop [true, false, false, false] (tX12_year_57 r D h)
      · have h := mz_ifn hc2 h
        refine mz_Go.run (gs := []) (st' := (50, [some (.inr (.inr (some (0, 200)))), none, some (.inl x2), none], [.inr (.inr (some (0, 200)))], D)) bX12_year_49 oX12_year_49 rfl trivial ?_
        obtain ⟨q3, hq3, h⟩ := mz_bd_some h
        refine mz_Go.callV (I := IX12_year) (J := IX12_yearStep) (as := []) (ci := 12) (g := 0) (o := 200) (idx := 245) (pl := 1852) (rest := []) (mX12_yearStep D q3 hq3) kX12_yearStep vX12_yearStep (by decide +kernel) (by decide +kernel) (by decide +kernel) rfl rfl ⟨rfl, rfl⟩ rfl rfl rfl rfl ?_
        refine mz_Go.run (gs := []) (st' := (38, [some (.inr (.inr (some (0, 200)))), none, some (.inl q3.1), none], [], q3.2)) bX12_year_53 oX12_year_53 rfl trivial ?_
        exact mz_Go.drop [true, false, true, false] (ih q3.1 q3.2 h)
def fX12_year (x1 : Int32) (D : mz_D) : Option (Int32 × mz_D) := (Option.bind (fX12_begins x1 (300 : Int32) D) fun q1 => (if q1.1 = 0 then (some ((-1 : Int32), (mz_wi q1.2 0 200 2 (1 : Int32)))) else (fX12_year_38 mz_N (1 : Int32) (mz_wi (mz_wi (mz_wi q1.2 0 201 ((2009 : Int32)).toNatClampNeg (0 : Int32)) 0 200 22 (0 : Int32)) 0 200 23 (0 : Int32)))))
set_option maxHeartbeats 4000000 in
theorem mX12_year (x1 : Int32) (D : mz_D) (r : (Int32 × mz_D)) (h : fX12_year x1 D = some r) : mz_Met IX12_year [.inr (.inr (some (0, 200))), .inl x1] D (some (.inl r.1), r.2) := by
  refine mz_Met.of (by decide +kernel) (Nat.le_of_ble_eq_true rfl) ?_
  show mz_Go IX12_year (some (.inl r.1), r.2) 0 0 (0, [some (.inr (.inr (some (0, 200)))), some (.inl x1), none, none], [], D)
  rw [fX12_year] at h
  refine mz_Go.run (gs := []) (st' := (5, [some (.inr (.inr (some (0, 200)))), some (.inl x1), none, none], [.inl (300 : Int32), .inl x1, .inr (.inr (some (0, 200)))], D)) bX12_year_0 oX12_year_0 rfl trivial ?_
  obtain ⟨q1, hq1, h⟩ := mz_bd_some h
  refine mz_Go.callV (I := IX12_year) (J := IX12_begins) (as := [.inl x1, .inl (300 : Int32)]) (ci := 12) (g := 0) (o := 200) (idx := 217) (pl := 1741) (rest := []) (mX12_begins x1 (300 : Int32) D q1 hq1) kX12_begins vX12_begins (by decide +kernel) (by decide +kernel) (by decide +kernel) rfl rfl ⟨rfl, rfl⟩ rfl rfl rfl rfl ?_
  refine mz_Go.run (gs := []) (st' := (if q1.1 = 0 then (11, [some (.inr (.inr (some (0, 200)))), some (.inl x1), none, none], [], q1.2) else (17, [some (.inr (.inr (some (0, 200)))), some (.inl x1), none, none], [], q1.2))) bX12_year_8 oX12_year_8 rfl trivial ?_
  refine mz_Go.ite (fun hc2 => ?_) (fun hc2 => ?_)
  · have h := mz_ifp hc2 h
    refine mz_Go.run (gs := []) (st' := (13, [some (.inr (.inr (some (0, 200)))), some (.inl x1), none, none], [.inl (1 : Int32), .inr (.inr (some (0, 200)))], q1.2)) bX12_year_11 oX12_year_11 rfl trivial ?_
    refine mz_Go.callV (I := IX12_year) (J := IX12_refuse) (as := [.inl (1 : Int32)]) (ci := 12) (g := 0) (o := 200) (idx := 75) (pl := 1761) (rest := []) (mX12_refuse (1 : Int32) q1.2) kX12_refuse vX12_refuse (by decide +kernel) (by decide +kernel) (by decide +kernel) rfl rfl ⟨rfl, rfl⟩ rfl rfl rfl rfl ?_
    cases h
    exact mz_Go.reti (by decide +kernel) rfl ⟨Nat.le_refl _, Nat.le_refl _⟩ rfl
  · have h := mz_ifn hc2 h
    refine mz_Go.run (gs := [mz_kz 0 0 200, mz_kz 0 0 201, mz_ix (2009 : Int32) 3000, mz_kz 0 0 200, mz_kz 0 0 200]) (st' := (38, [some (.inr (.inr (some (0, 200)))), some (.inl x1), some (.inl (1 : Int32)), none], [], (mz_wi (mz_wi (mz_wi q1.2 0 201 ((2009 : Int32)).toNatClampNeg (0 : Int32)) 0 200 22 (0 : Int32)) 0 200 23 (0 : Int32)))) bX12_year_17 oX12_year_17 rfl ⟨rfl, rfl, (by decide), rfl, rfl, trivial⟩ ?_
    exact mz_Go.drop [true, false, true, false] (tX12_year_38 r mz_N (1 : Int32) (mz_wi (mz_wi (mz_wi q1.2 0 201 ((2009 : Int32)).toNatClampNeg (0 : Int32)) 0 200 22 (0 : Int32)) 0 200 23 (0 : Int32)) h)
