def bX10_takesTest_0 : List mz_E := [(0, .aload_n 0, 0, 0, 0, 0, 0), (1, .getfield 15, 10, 0, 930, 0, 0), (4, .getfield 33, 5, 2, 220, 0, 0), (7, .istore_n 1, 0, 0, 0, 0, 0), (8, .iload_n 1, 0, 0, 0, 0, 0), (9, .bipush 25, 0, 0, 0, 25, 0), (11, .if_icmp .eq 24, 0, 35, 0, 0, 0)]
theorem oX10_takesTest_0 : bX10_takesTest_0.all (mz_ok RX10 cX10_takesTest 2) = true := by decide +kernel
def bX10_takesTest_35 : List mz_E := [(35, .aload_n 0, 0, 0, 0, 0, 0), (36, .getfield 23, 10, 2, 932, 0, 0), (39, .getfield 124, 9, 3, 439, 0, 0), (42, .aload_n 0, 0, 0, 0, 0, 0), (43, .getfield 84, 10, 5, 935, 0, 0), (46, .iload_n 1, 0, 0, 0, 0, 0), (47, .iastore, 0, 0, 0, 0, 0), (48, .aload_n 0, 0, 0, 0, 0, 0), (49, .getfield 15, 10, 0, 930, 0, 0)]
theorem oX10_takesTest_35 : bX10_takesTest_35.all (mz_ok RX10 cX10_takesTest 2) = true := by decide +kernel
def bX10_takesTest_55 : List mz_E := [(55, .iload_n 1, 0, 0, 0, 0, 0), (56, .bipush 9, 0, 0, 0, 9, 0), (58, .if_icmp .ne 35, 0, 93, 0, 0, 0)]
theorem oX10_takesTest_55 : bX10_takesTest_55.all (mz_ok RX10 cX10_takesTest 2) = true := by decide +kernel
def bX10_takesTest_61 : List mz_E := [(61, .aload_n 0, 0, 0, 0, 0, 0), (62, .iconst (-1), 0, 0, 0, -1, 0)]
theorem oX10_takesTest_61 : bX10_takesTest_61.all (mz_ok RX10 cX10_takesTest 2) = true := by decide +kernel
def bX10_takesTest_66 : List mz_E := [(66, .ifCond .eq 25, 0, 91, 0, 0, 0)]
theorem oX10_takesTest_66 : bX10_takesTest_66.all (mz_ok RX10 cX10_takesTest 2) = true := by decide +kernel
def bX10_takesTest_91 : List mz_E := [(91, .iconst 0, 0, 0, 0, 0, 0)]
theorem oX10_takesTest_91 : bX10_takesTest_91.all (mz_ok RX10 cX10_takesTest 2) = true := by decide +kernel
def bX10_takesTest_69 : List mz_E := [(69, .aload_n 0, 0, 0, 0, 0, 0)]
theorem oX10_takesTest_69 : bX10_takesTest_69.all (mz_ok RX10 cX10_takesTest 2) = true := by decide +kernel
def bX10_takesTest_73 : List mz_E := [(73, .ifCond .eq 18, 0, 91, 0, 0, 0)]
theorem oX10_takesTest_73 : bX10_takesTest_73.all (mz_ok RX10 cX10_takesTest 2) = true := by decide +kernel
def bX10_takesTest_76 : List mz_E := [(76, .aload_n 0, 0, 0, 0, 0, 0), (77, .iconst 0, 0, 0, 0, 0, 0), (78, .sipush 9999, 0, 0, 0, 9999, 0)]
theorem oX10_takesTest_76 : bX10_takesTest_76.all (mz_ok RX10 cX10_takesTest 2) = true := by decide +kernel
def bX10_takesTest_84 : List mz_E := [(84, .ifCond .eq 7, 0, 91, 0, 0, 0)]
theorem oX10_takesTest_84 : bX10_takesTest_84.all (mz_ok RX10 cX10_takesTest 2) = true := by decide +kernel
def bX10_takesTest_87 : List mz_E := [(87, .iconst 1, 0, 0, 0, 1, 0), (88, .goto 4, 0, 92, 0, 0, 0)]
theorem oX10_takesTest_87 : bX10_takesTest_87.all (mz_ok RX10 cX10_takesTest 2) = true := by decide +kernel
def bX10_takesTest_93 : List mz_E := [(93, .aload_n 0, 0, 0, 0, 0, 0), (94, .getfield 23, 10, 2, 932, 0, 0), (97, .getfield 100, 9, 4, 443, 0, 0), (100, .aload_n 0, 0, 0, 0, 0, 0), (101, .getfield 84, 10, 5, 935, 0, 0), (104, .aload_n 0, 0, 0, 0, 0, 0), (105, .getfield 15, 10, 0, 930, 0, 0), (108, .aload_n 0, 0, 0, 0, 0, 0), (109, .getfield 19, 10, 1, 931, 0, 0)]
theorem oX10_takesTest_93 : bX10_takesTest_93.all (mz_ok RX10 cX10_takesTest 2) = true := by decide +kernel
def bX10_takesTest_115 : List mz_E := [(115, .iastore, 0, 0, 0, 0, 0), (116, .aload_n 0, 0, 0, 0, 0, 0), (117, .getfield 23, 10, 2, 932, 0, 0), (120, .getfield 100, 9, 4, 443, 0, 0), (123, .aload_n 0, 0, 0, 0, 0, 0), (124, .getfield 84, 10, 5, 935, 0, 0), (127, .iaload, 0, 0, 0, 0, 0), (128, .iconst (-1), 0, 0, 0, -1, 0), (129, .if_icmp .ne 5, 0, 134, 0, 0, 0)]
theorem oX10_takesTest_115 : bX10_takesTest_115.all (mz_ok RX10 cX10_takesTest 2) = true := by decide +kernel
def bX10_takesTest_132 : List mz_E := [(132, .iconst 0, 0, 0, 0, 0, 0)]
theorem oX10_takesTest_132 : bX10_takesTest_132.all (mz_ok RX10 cX10_takesTest 2) = true := by decide +kernel
def bX10_takesTest_134 : List mz_E := [(134, .iload_n 1, 0, 0, 0, 0, 0), (135, .bipush 15, 0, 0, 0, 15, 0), (137, .if_icmp .eq 21, 0, 158, 0, 0, 0)]
theorem oX10_takesTest_134 : bX10_takesTest_134.all (mz_ok RX10 cX10_takesTest 2) = true := by decide +kernel
def bX10_takesTest_158 : List mz_E := [(158, .iconst 1, 0, 0, 0, 1, 0), (159, .goto 4, 0, 163, 0, 0, 0)]
theorem oX10_takesTest_158 : bX10_takesTest_158.all (mz_ok RX10 cX10_takesTest 2) = true := by decide +kernel
def bX10_takesTest_140 : List mz_E := [(140, .aload_n 0, 0, 0, 0, 0, 0)]
theorem oX10_takesTest_140 : bX10_takesTest_140.all (mz_ok RX10 cX10_takesTest 2) = true := by decide +kernel
def bX10_takesTest_144 : List mz_E := [(144, .ifCond .eq 18, 0, 162, 0, 0, 0)]
theorem oX10_takesTest_144 : bX10_takesTest_144.all (mz_ok RX10 cX10_takesTest 2) = true := by decide +kernel
def bX10_takesTest_162 : List mz_E := [(162, .iconst 0, 0, 0, 0, 0, 0)]
theorem oX10_takesTest_162 : bX10_takesTest_162.all (mz_ok RX10 cX10_takesTest 2) = true := by decide +kernel
def bX10_takesTest_147 : List mz_E := [(147, .aload_n 0, 0, 0, 0, 0, 0), (148, .iconst 0, 0, 0, 0, 0, 0), (149, .sipush 999, 0, 0, 0, 999, 0)]
theorem oX10_takesTest_147 : bX10_takesTest_147.all (mz_ok RX10 cX10_takesTest 2) = true := by decide +kernel
def bX10_takesTest_155 : List mz_E := [(155, .ifCond .eq 7, 0, 162, 0, 0, 0)]
theorem oX10_takesTest_155 : bX10_takesTest_155.all (mz_ok RX10 cX10_takesTest 2) = true := by decide +kernel
def bX10_takesTest_14 : List mz_E := [(14, .iload_n 1, 0, 0, 0, 0, 0), (15, .bipush 9, 0, 0, 0, 9, 0), (17, .if_icmp .eq 18, 0, 35, 0, 0, 0)]
theorem oX10_takesTest_14 : bX10_takesTest_14.all (mz_ok RX10 cX10_takesTest 2) = true := by decide +kernel
def bX10_takesTest_20 : List mz_E := [(20, .iload_n 1, 0, 0, 0, 0, 0), (21, .bipush 15, 0, 0, 0, 15, 0), (23, .if_icmp .eq 12, 0, 35, 0, 0, 0)]
theorem oX10_takesTest_20 : bX10_takesTest_20.all (mz_ok RX10 cX10_takesTest 2) = true := by decide +kernel
def bX10_takesTest_26 : List mz_E := [(26, .aload_n 0, 0, 0, 0, 0, 0), (27, .getfield 15, 10, 0, 930, 0, 0), (30, .iconst 2, 0, 0, 0, 2, 0)]
theorem oX10_takesTest_26 : bX10_takesTest_26.all (mz_ok RX10 cX10_takesTest 2) = true := by decide +kernel
abbrev IX10_takesTest : mz_I := (yX10_takesTest, cX10_takesTest, 2, (some .boolean), 2, 4, 0, 0)
theorem kX10_takesTest : mz_okm IX10_takesTest 978 146 977 0 = true := by decide +kernel
theorem vX10_takesTest : mz_okV IX10_takesTest 977 19 = true := by decide +kernel
def fX10_takesTest_35 (x1 : Int32) (D : mz_D) : Option (Int32 × mz_D) := (mz_gd (mz_ix (D.1 0 301 5) 30) (Option.bind (fX5_advance (mz_wi D 2 121 ((D.1 0 301 5)).toNatClampNeg x1)) fun q2 => (if x1 = (9 : Int32) then (Option.bind (fX10_takesTwo (-1 : Int32) q2) fun q4 => (if q4.1 = 0 then (some ((0 : Int32), q4.2)) else (Option.bind (fX10_takesCompare q4.2) fun q6 => (if q6.1 = 0 then (some ((0 : Int32), q6.2)) else (Option.bind (fX10_takesCount (0 : Int32) (9999 : Int32) q6.2) fun q8 => (if q8.1 = 0 then (some ((0 : Int32), q8.2)) else (some ((1 : Int32), q8.2)))))))) else (Option.bind (fX5_takePerson 1 q2) fun q10 => (mz_gd (mz_ix (q2.1 0 301 5) 30) (mz_gd (mz_ix (q10.2.1 0 301 5) 30) (if ((mz_wi q10.2 2 122 ((q2.1 0 301 5)).toNatClampNeg q10.1).1 2 122 ((q10.2.1 0 301 5)).toNatClampNeg) = (-1 : Int32) then (some ((0 : Int32), (mz_wi q10.2 2 122 ((q2.1 0 301 5)).toNatClampNeg q10.1))) else (if x1 = (15 : Int32) then (some ((1 : Int32), (mz_wi q10.2 2 122 ((q2.1 0 301 5)).toNatClampNeg q10.1))) else (Option.bind (fX10_takesCompare (mz_wi q10.2 2 122 ((q2.1 0 301 5)).toNatClampNeg q10.1)) fun q15 => (if q15.1 = 0 then (some ((0 : Int32), q15.2)) else (Option.bind (fX10_takesCount (0 : Int32) (999 : Int32) q15.2) fun q17 => (if q17.1 = 0 then (some ((0 : Int32), q17.2)) else (some ((1 : Int32), q17.2))))))))))))))
set_option maxHeartbeats 4000000 in
theorem tX10_takesTest_35 (r : (Int32 × mz_D)) : ∀ (x1 : Int32) (D : mz_D), fX10_takesTest_35 x1 D = some r → mz_Go IX10_takesTest (some (.inl r.1), r.2) 0 0 (35, [some (.inr (.inr (some (0, 301)))), some (.inl x1)], [], D) := by
  intro x1 D h
  rw [fX10_takesTest_35] at h
  obtain ⟨hb1, h⟩ := mz_gd_some h
  refine mz_Go.run (gs := [mz_kz 2 0 301, mz_kz 2 2 119, mz_kz 2 0 301, mz_kz 2 2 121, mz_ix (D.1 0 301 5) 30, mz_kz 2 0 301]) (st' := (52, [some (.inr (.inr (some (0, 301)))), some (.inl x1)], [.inr (.inr (some (0, 2)))], (mz_wi D 2 121 ((D.1 0 301 5)).toNatClampNeg x1))) bX10_takesTest_35 oX10_takesTest_35 rfl ⟨rfl, rfl, rfl, rfl, hb1, rfl, trivial⟩ ?_
  obtain ⟨q2, hq2, h⟩ := mz_bd_some h
  refine mz_Go.callV (J := IX5_advance) (as := []) (ci := 5) (g := 0) (o := 2) (idx := 74) (pl := 959) (rest := []) (mX5_advance (mz_wi D 2 121 ((D.1 0 301 5)).toNatClampNeg x1) q2 hq2) kX5_advance vX5_advance (by decide +kernel) (by decide +kernel) (by decide +kernel) rfl rfl ⟨rfl, rfl⟩ rfl rfl rfl rfl ?_
  refine mz_Go.run (gs := []) (st' := (if x1 = (9 : Int32) then (61, [some (.inr (.inr (some (0, 301)))), some (.inl x1)], [], q2) else (93, [some (.inr (.inr (some (0, 301)))), some (.inl x1)], [], q2))) bX10_takesTest_55 oX10_takesTest_55 rfl trivial ?_
  refine mz_Go.ite (fun hc3 => ?_) (fun hc3 => ?_)
  · have h := mz_ifp hc3 h
    refine mz_Go.run (gs := []) (st' := (63, [some (.inr (.inr (some (0, 301)))), some (.inl x1)], [.inl (-1 : Int32), .inr (.inr (some (0, 301)))], q2)) bX10_takesTest_61 oX10_takesTest_61 rfl trivial ?_
    obtain ⟨q4, hq4, h⟩ := mz_bd_some h
    refine mz_Go.callV (J := IX10_takesTwo) (as := [.inl (-1 : Int32)]) (ci := 10) (g := 0) (o := 301) (idx := 93) (pl := 979) (rest := []) (mX10_takesTwo (-1 : Int32) q2 q4 hq4) kX10_takesTwo vX10_takesTwo (by decide +kernel) (by decide +kernel) (by decide +kernel) rfl rfl ⟨rfl, rfl⟩ rfl rfl rfl rfl ?_
    refine mz_Go.run (gs := []) (st' := (if q4.1 = 0 then (91, [some (.inr (.inr (some (0, 301)))), some (.inl x1)], [], q4.2) else (69, [some (.inr (.inr (some (0, 301)))), some (.inl x1)], [], q4.2))) bX10_takesTest_66 oX10_takesTest_66 rfl trivial ?_
    refine mz_Go.ite (fun hc5 => ?_) (fun hc5 => ?_)
    · have h := mz_ifp hc5 h
      refine mz_Go.run (gs := []) (st' := (92, [some (.inr (.inr (some (0, 301)))), some (.inl x1)], [.inl (0 : Int32)], q4.2)) bX10_takesTest_91 oX10_takesTest_91 rfl trivial ?_
      cases h
      exact mz_Go.retz (by decide +kernel) rfl ⟨Nat.le_refl _, Nat.le_refl _⟩ (by decide) rfl
    · have h := mz_ifn hc5 h
      refine mz_Go.run (gs := []) (st' := (70, [some (.inr (.inr (some (0, 301)))), some (.inl x1)], [.inr (.inr (some (0, 301)))], q4.2)) bX10_takesTest_69 oX10_takesTest_69 rfl trivial ?_
      obtain ⟨q6, hq6, h⟩ := mz_bd_some h
      refine mz_Go.callV (J := IX10_takesCompare) (as := []) (ci := 10) (g := 0) (o := 301) (idx := 127) (pl := 989) (rest := []) (mX10_takesCompare q4.2 q6 hq6) kX10_takesCompare vX10_takesCompare (by decide +kernel) (by decide +kernel) (by decide +kernel) rfl rfl ⟨rfl, rfl⟩ rfl rfl rfl rfl ?_
      refine mz_Go.run (gs := []) (st' := (if q6.1 = 0 then (91, [some (.inr (.inr (some (0, 301)))), some (.inl x1)], [], q6.2) else (76, [some (.inr (.inr (some (0, 301)))), some (.inl x1)], [], q6.2))) bX10_takesTest_73 oX10_takesTest_73 rfl trivial ?_
      refine mz_Go.ite (fun hc7 => ?_) (fun hc7 => ?_)
      · have h := mz_ifp hc7 h
        refine mz_Go.run (gs := []) (st' := (92, [some (.inr (.inr (some (0, 301)))), some (.inl x1)], [.inl (0 : Int32)], q6.2)) bX10_takesTest_91 oX10_takesTest_91 rfl trivial ?_
        cases h
        exact mz_Go.retz (by decide +kernel) rfl ⟨Nat.le_refl _, Nat.le_refl _⟩ (by decide) rfl
      · have h := mz_ifn hc7 h
        refine mz_Go.run (gs := []) (st' := (81, [some (.inr (.inr (some (0, 301)))), some (.inl x1)], [.inl (9999 : Int32), .inl (0 : Int32), .inr (.inr (some (0, 301)))], q6.2)) bX10_takesTest_76 oX10_takesTest_76 rfl trivial ?_
        obtain ⟨q8, hq8, h⟩ := mz_bd_some h
        refine mz_Go.callV (J := IX10_takesCount) (as := [.inl (0 : Int32), .inl (9999 : Int32)]) (ci := 10) (g := 0) (o := 301) (idx := 96) (pl := 997) (rest := []) (mX10_takesCount (0 : Int32) (9999 : Int32) q6.2 q8 hq8) kX10_takesCount vX10_takesCount (by decide +kernel) (by decide +kernel) (by decide +kernel) rfl rfl ⟨rfl, rfl⟩ rfl rfl rfl rfl ?_
        refine mz_Go.run (gs := []) (st' := (if q8.1 = 0 then (91, [some (.inr (.inr (some (0, 301)))), some (.inl x1)], [], q8.2) else (87, [some (.inr (.inr (some (0, 301)))), some (.inl x1)], [], q8.2))) bX10_takesTest_84 oX10_takesTest_84 rfl trivial ?_
        refine mz_Go.ite (fun hc9 => ?_) (fun hc9 => ?_)
        · have h := mz_ifp hc9 h
          refine mz_Go.run (gs := []) (st' := (92, [some (.inr (.inr (some (0, 301)))), some (.inl x1)], [.inl (0 : Int32)], q8.2)) bX10_takesTest_91 oX10_takesTest_91 rfl trivial ?_
          cases h
          exact mz_Go.retz (by decide +kernel) rfl ⟨Nat.le_refl _, Nat.le_refl _⟩ (by decide) rfl
        · have h := mz_ifn hc9 h
          refine mz_Go.run (gs := []) (st' := (92, [some (.inr (.inr (some (0, 301)))), some (.inl x1)], [.inl (1 : Int32)], q8.2)) bX10_takesTest_87 oX10_takesTest_87 rfl trivial ?_
          cases h
          exact mz_Go.retz (by decide +kernel) rfl ⟨Nat.le_refl _, Nat.le_refl _⟩ (by decide) rfl
  · have h := mz_ifn hc3 h
    refine mz_Go.run (gs := [mz_kz 2 0 301, mz_kz 2 2 119, mz_kz 2 0 301, mz_kz 2 0 301, mz_kz 2 0 301]) (st' := (112, [some (.inr (.inr (some (0, 301)))), some (.inl x1)], [.inr (.inr (some (1, 101))), .inr (.inr (some (0, 2))), .inl (q2.1 0 301 5), .inr (.inr (some (2, 122)))], q2)) bX10_takesTest_93 oX10_takesTest_93 rfl ⟨rfl, rfl, rfl, rfl, rfl, trivial⟩ ?_
    obtain ⟨q10, hq10, h⟩ := mz_bd_some h
    refine mz_Go.callV (J := IX5_takePerson) (as := [.inr (.inr (some (1, 101)))]) (ci := 5) (g := 0) (o := 2) (idx := 103) (pl := 983) (rest := [.inl (q2.1 0 301 5), .inr (.inr (some (2, 122)))]) (mX5_takePerson 1 q2 rfl q10 hq10) kX5_takePerson vX5_takePerson (by decide +kernel) (by decide +kernel) (by decide +kernel) rfl rfl ⟨rfl, rfl⟩ rfl rfl rfl rfl ?_
    obtain ⟨hb11, h⟩ := mz_gd_some h
    obtain ⟨hb12, h⟩ := mz_gd_some h
    refine mz_Go.run (gs := [mz_kz 2 2 122, mz_ix (q2.1 0 301 5) 30, mz_kz 2 0 301, mz_kz 2 2 119, mz_kz 2 0 301, mz_kz 2 2 122, mz_ix (q10.2.1 0 301 5) 30]) (st' := (if ((mz_wi q10.2 2 122 ((q2.1 0 301 5)).toNatClampNeg q10.1).1 2 122 ((q10.2.1 0 301 5)).toNatClampNeg) = (-1 : Int32) then (132, [some (.inr (.inr (some (0, 301)))), some (.inl x1)], [], (mz_wi q10.2 2 122 ((q2.1 0 301 5)).toNatClampNeg q10.1)) else (134, [some (.inr (.inr (some (0, 301)))), some (.inl x1)], [], (mz_wi q10.2 2 122 ((q2.1 0 301 5)).toNatClampNeg q10.1)))) bX10_takesTest_115 oX10_takesTest_115 rfl ⟨rfl, hb11, rfl, rfl, rfl, rfl, hb12, trivial⟩ ?_
    refine mz_Go.ite (fun hc13 => ?_) (fun hc13 => ?_)
    · have h := mz_ifp hc13 h
      refine mz_Go.run (gs := []) (st' := (133, [some (.inr (.inr (some (0, 301)))), some (.inl x1)], [.inl (0 : Int32)], (mz_wi q10.2 2 122 ((q2.1 0 301 5)).toNatClampNeg q10.1))) bX10_takesTest_132 oX10_takesTest_132 rfl trivial ?_
      cases h
      exact mz_Go.retz (by decide +kernel) rfl ⟨Nat.le_refl _, Nat.le_refl _⟩ (by decide) rfl
    · have h := mz_ifn hc13 h
      refine mz_Go.run (gs := []) (st' := (if x1 = (15 : Int32) then (158, [some (.inr (.inr (some (0, 301)))), some (.inl x1)], [], (mz_wi q10.2 2 122 ((q2.1 0 301 5)).toNatClampNeg q10.1)) else (140, [some (.inr (.inr (some (0, 301)))), some (.inl x1)], [], (mz_wi q10.2 2 122 ((q2.1 0 301 5)).toNatClampNeg q10.1)))) bX10_takesTest_134 oX10_takesTest_134 rfl trivial ?_
      refine mz_Go.ite (fun hc14 => ?_) (fun hc14 => ?_)
      · have h := mz_ifp hc14 h
        refine mz_Go.run (gs := []) (st' := (163, [some (.inr (.inr (some (0, 301)))), some (.inl x1)], [.inl (1 : Int32)], (mz_wi q10.2 2 122 ((q2.1 0 301 5)).toNatClampNeg q10.1))) bX10_takesTest_158 oX10_takesTest_158 rfl trivial ?_
        cases h
        exact mz_Go.retz (by decide +kernel) rfl ⟨Nat.le_refl _, Nat.le_refl _⟩ (by decide) rfl
      · have h := mz_ifn hc14 h
        refine mz_Go.run (gs := []) (st' := (141, [some (.inr (.inr (some (0, 301)))), some (.inl x1)], [.inr (.inr (some (0, 301)))], (mz_wi q10.2 2 122 ((q2.1 0 301 5)).toNatClampNeg q10.1))) bX10_takesTest_140 oX10_takesTest_140 rfl trivial ?_
        obtain ⟨q15, hq15, h⟩ := mz_bd_some h
        refine mz_Go.callV (J := IX10_takesCompare) (as := []) (ci := 10) (g := 0) (o := 301) (idx := 127) (pl := 989) (rest := []) (mX10_takesCompare (mz_wi q10.2 2 122 ((q2.1 0 301 5)).toNatClampNeg q10.1) q15 hq15) kX10_takesCompare vX10_takesCompare (by decide +kernel) (by decide +kernel) (by decide +kernel) rfl rfl ⟨rfl, rfl⟩ rfl rfl rfl rfl ?_
        refine mz_Go.run (gs := []) (st' := (if q15.1 = 0 then (162, [some (.inr (.inr (some (0, 301)))), some (.inl x1)], [], q15.2) else (147, [some (.inr (.inr (some (0, 301)))), some (.inl x1)], [], q15.2))) bX10_takesTest_144 oX10_takesTest_144 rfl trivial ?_
        refine mz_Go.ite (fun hc16 => ?_) (fun hc16 => ?_)
        · have h := mz_ifp hc16 h
          refine mz_Go.run (gs := []) (st' := (163, [some (.inr (.inr (some (0, 301)))), some (.inl x1)], [.inl (0 : Int32)], q15.2)) bX10_takesTest_162 oX10_takesTest_162 rfl trivial ?_
          cases h
          exact mz_Go.retz (by decide +kernel) rfl ⟨Nat.le_refl _, Nat.le_refl _⟩ (by decide) rfl
        · have h := mz_ifn hc16 h
          refine mz_Go.run (gs := []) (st' := (152, [some (.inr (.inr (some (0, 301)))), some (.inl x1)], [.inl (999 : Int32), .inl (0 : Int32), .inr (.inr (some (0, 301)))], q15.2)) bX10_takesTest_147 oX10_takesTest_147 rfl trivial ?_
          obtain ⟨q17, hq17, h⟩ := mz_bd_some h
          refine mz_Go.callV (J := IX10_takesCount) (as := [.inl (0 : Int32), .inl (999 : Int32)]) (ci := 10) (g := 0) (o := 301) (idx := 96) (pl := 997) (rest := []) (mX10_takesCount (0 : Int32) (999 : Int32) q15.2 q17 hq17) kX10_takesCount vX10_takesCount (by decide +kernel) (by decide +kernel) (by decide +kernel) rfl rfl ⟨rfl, rfl⟩ rfl rfl rfl rfl ?_
          refine mz_Go.run (gs := []) (st' := (if q17.1 = 0 then (162, [some (.inr (.inr (some (0, 301)))), some (.inl x1)], [], q17.2) else (158, [some (.inr (.inr (some (0, 301)))), some (.inl x1)], [], q17.2))) bX10_takesTest_155 oX10_takesTest_155 rfl trivial ?_
          refine mz_Go.ite (fun hc18 => ?_) (fun hc18 => ?_)
          · have h := mz_ifp hc18 h
            refine mz_Go.run (gs := []) (st' := (163, [some (.inr (.inr (some (0, 301)))), some (.inl x1)], [.inl (0 : Int32)], q17.2)) bX10_takesTest_162 oX10_takesTest_162 rfl trivial ?_
            cases h
            exact mz_Go.retz (by decide +kernel) rfl ⟨Nat.le_refl _, Nat.le_refl _⟩ (by decide) rfl
          · have h := mz_ifn hc18 h
            refine mz_Go.run (gs := []) (st' := (163, [some (.inr (.inr (some (0, 301)))), some (.inl x1)], [.inl (1 : Int32)], q17.2)) bX10_takesTest_158 oX10_takesTest_158 rfl trivial ?_
            cases h
            exact mz_Go.retz (by decide +kernel) rfl ⟨Nat.le_refl _, Nat.le_refl _⟩ (by decide) rfl
def fX10_takesTest (D : mz_D) : Option (Int32 × mz_D) := (if (D.1 0 2 2) = (25 : Int32) then (fX10_takesTest_35 (D.1 0 2 2) D) else (if (D.1 0 2 2) = (9 : Int32) then (fX10_takesTest_35 (D.1 0 2 2) D) else (if (D.1 0 2 2) = (15 : Int32) then (fX10_takesTest_35 (D.1 0 2 2) D) else (Option.bind (fX5_fail (2 : Int32) D) fun q4 => (mz_gd (mz_bo q4.1) (some (q4.1, q4.2)))))))
set_option maxHeartbeats 4000000 in
theorem mX10_takesTest (D : mz_D) (r : (Int32 × mz_D)) (h : fX10_takesTest D = some r) : mz_Met IX10_takesTest [.inr (.inr (some (0, 301)))] D (some (.inl r.1), r.2) := by
  refine mz_Met.of (by decide +kernel) (Nat.le_of_ble_eq_true rfl) ?_
  show mz_Go IX10_takesTest (some (.inl r.1), r.2) 0 0 (0, [some (.inr (.inr (some (0, 301)))), none], [], D)
  rw [fX10_takesTest] at h
  refine mz_Go.run (gs := [mz_kz 2 0 301, mz_kz 2 0 2]) (st' := (if (D.1 0 2 2) = (25 : Int32) then (35, [some (.inr (.inr (some (0, 301)))), some (.inl (D.1 0 2 2))], [], D) else (14, [some (.inr (.inr (some (0, 301)))), some (.inl (D.1 0 2 2))], [], D))) bX10_takesTest_0 oX10_takesTest_0 rfl ⟨rfl, rfl, trivial⟩ ?_
  refine mz_Go.ite (fun hc1 => ?_) (fun hc1 => ?_)
  · have h := mz_ifp hc1 h
    exact mz_Go.drop [true, true] (tX10_takesTest_35 r (D.1 0 2 2) D h)
  · have h := mz_ifn hc1 h
    refine mz_Go.run (gs := []) (st' := (if (D.1 0 2 2) = (9 : Int32) then (35, [some (.inr (.inr (some (0, 301)))), some (.inl (D.1 0 2 2))], [], D) else (20, [some (.inr (.inr (some (0, 301)))), some (.inl (D.1 0 2 2))], [], D))) bX10_takesTest_14 oX10_takesTest_14 rfl trivial ?_
    refine mz_Go.ite (fun hc2 => ?_) (fun hc2 => ?_)
    · have h := mz_ifp hc2 h
      exact mz_Go.drop [true, true] (tX10_takesTest_35 r (D.1 0 2 2) D h)
    · have h := mz_ifn hc2 h
      refine mz_Go.run (gs := []) (st' := (if (D.1 0 2 2) = (15 : Int32) then (35, [some (.inr (.inr (some (0, 301)))), some (.inl (D.1 0 2 2))], [], D) else (26, [some (.inr (.inr (some (0, 301)))), some (.inl (D.1 0 2 2))], [], D))) bX10_takesTest_20 oX10_takesTest_20 rfl trivial ?_
      refine mz_Go.ite (fun hc3 => ?_) (fun hc3 => ?_)
      · have h := mz_ifp hc3 h
        exact mz_Go.drop [true, true] (tX10_takesTest_35 r (D.1 0 2 2) D h)
      · have h := mz_ifn hc3 h
        refine mz_Go.run (gs := [mz_kz 2 0 301]) (st' := (31, [some (.inr (.inr (some (0, 301)))), some (.inl (D.1 0 2 2))], [.inl (2 : Int32), .inr (.inr (some (0, 2)))], D)) bX10_takesTest_26 oX10_takesTest_26 rfl ⟨rfl, trivial⟩ ?_
        obtain ⟨q4, hq4, h⟩ := mz_bd_some h
        refine mz_Go.callV (J := IX5_fail) (as := [.inl (2 : Int32)]) (ci := 5) (g := 0) (o := 2) (idx := 58) (pl := 958) (rest := []) (mX5_fail (2 : Int32) D q4 hq4) kX5_fail vX5_fail (by decide +kernel) (by decide +kernel) (by decide +kernel) rfl rfl ⟨rfl, rfl⟩ rfl rfl rfl rfl ?_
        obtain ⟨hb5, h⟩ := mz_gd_some h
        cases h
        exact mz_Go.retz (by decide +kernel) rfl ⟨Nat.le_refl _, Nat.le_refl _⟩ hb5 rfl
def bX10_takesPayer_0 : List mz_E := [(0, .aload_n 0, 0, 0, 0, 0, 0), (1, .getfield 15, 10, 0, 930, 0, 0), (4, .getfield 33, 5, 2, 220, 0, 0), (7, .bipush 8, 0, 0, 0, 8, 0), (9, .if_icmp .eq 5, 0, 14, 0, 0, 0)]
theorem oX10_takesPayer_0 : bX10_takesPayer_0.all (mz_ok RX10 cX10_takesPayer 1) = true := by decide +kernel
def bX10_takesPayer_14 : List mz_E := [(14, .aload_n 0, 0, 0, 0, 0, 0), (15, .getfield 15, 10, 0, 930, 0, 0)]
theorem oX10_takesPayer_14 : bX10_takesPayer_14.all (mz_ok RX10 cX10_takesPayer 1) = true := by decide +kernel
def bX10_takesPayer_21 : List mz_E := [(21, .aload_n 0, 0, 0, 0, 0, 0), (22, .getfield 23, 10, 2, 932, 0, 0), (25, .getfield 100, 9, 4, 443, 0, 0), (28, .aload_n 0, 0, 0, 0, 0, 0), (29, .getfield 84, 10, 5, 935, 0, 0), (32, .aload_n 0, 0, 0, 0, 0, 0), (33, .getfield 15, 10, 0, 930, 0, 0), (36, .aload_n 0, 0, 0, 0, 0, 0), (37, .getfield 19, 10, 1, 931, 0, 0)]
theorem oX10_takesPayer_21 : bX10_takesPayer_21.all (mz_ok RX10 cX10_takesPayer 1) = true := by decide +kernel
def bX10_takesPayer_43 : List mz_E := [(43, .iastore, 0, 0, 0, 0, 0), (44, .aload_n 0, 0, 0, 0, 0, 0), (45, .getfield 23, 10, 2, 932, 0, 0), (48, .getfield 100, 9, 4, 443, 0, 0), (51, .aload_n 0, 0, 0, 0, 0, 0), (52, .getfield 84, 10, 5, 935, 0, 0), (55, .iaload, 0, 0, 0, 0, 0), (56, .iconst (-1), 0, 0, 0, -1, 0), (57, .if_icmp .eq 7, 0, 64, 0, 0, 0)]
theorem oX10_takesPayer_43 : bX10_takesPayer_43.all (mz_ok RX10 cX10_takesPayer 1) = true := by decide +kernel
def bX10_takesPayer_64 : List mz_E := [(64, .iconst 0, 0, 0, 0, 0, 0)]
theorem oX10_takesPayer_64 : bX10_takesPayer_64.all (mz_ok RX10 cX10_takesPayer 1) = true := by decide +kernel
def bX10_takesPayer_60 : List mz_E := [(60, .iconst 1, 0, 0, 0, 1, 0), (61, .goto 4, 0, 65, 0, 0, 0)]
theorem oX10_takesPayer_60 : bX10_takesPayer_60.all (mz_ok RX10 cX10_takesPayer 1) = true := by decide +kernel
def bX10_takesPayer_12 : List mz_E := [(12, .iconst 1, 0, 0, 0, 1, 0)]
theorem oX10_takesPayer_12 : bX10_takesPayer_12.all (mz_ok RX10 cX10_takesPayer 1) = true := by decide +kernel
abbrev IX10_takesPayer : mz_I := (yX10_takesPayer, cX10_takesPayer, 1, (some .boolean), 2, 3, 0, 0)
theorem kX10_takesPayer : mz_okm IX10_takesPayer 1009 146 1008 0 = true := by decide +kernel
theorem vX10_takesPayer : mz_okV IX10_takesPayer 1008 24 = true := by decide +kernel
def fX10_takesPayer (D : mz_D) : Option (Int32 × mz_D) := (if (D.1 0 2 2) = (8 : Int32) then (Option.bind (fX5_advance D) fun q2 => (Option.bind (fX5_takePerson 1 q2) fun q3 => (mz_gd (mz_ix (q2.1 0 301 5) 30) (mz_gd (mz_ix (q3.2.1 0 301 5) 30) (if ((mz_wi q3.2 2 122 ((q2.1 0 301 5)).toNatClampNeg q3.1).1 2 122 ((q3.2.1 0 301 5)).toNatClampNeg) = (-1 : Int32) then (some ((0 : Int32), (mz_wi q3.2 2 122 ((q2.1 0 301 5)).toNatClampNeg q3.1))) else (some ((1 : Int32), (mz_wi q3.2 2 122 ((q2.1 0 301 5)).toNatClampNeg q3.1)))))))) else (some ((1 : Int32), D)))
set_option maxHeartbeats 4000000 in
theorem mX10_takesPayer (D : mz_D) (r : (Int32 × mz_D)) (h : fX10_takesPayer D = some r) : mz_Met IX10_takesPayer [.inr (.inr (some (0, 301)))] D (some (.inl r.1), r.2) := by
  refine mz_Met.of (by decide +kernel) (Nat.le_of_ble_eq_true rfl) ?_
  show mz_Go IX10_takesPayer (some (.inl r.1), r.2) 0 0 (0, [some (.inr (.inr (some (0, 301))))], [], D)
  rw [fX10_takesPayer] at h
  refine mz_Go.run (gs := [mz_kz 2 0 301, mz_kz 2 0 2]) (st' := (if (D.1 0 2 2) = (8 : Int32) then (14, [some (.inr (.inr (some (0, 301))))], [], D) else (12, [some (.inr (.inr (some (0, 301))))], [], D))) bX10_takesPayer_0 oX10_takesPayer_0 rfl ⟨rfl, rfl, trivial⟩ ?_
  refine mz_Go.ite (fun hc1 => ?_) (fun hc1 => ?_)
  · have h := mz_ifp hc1 h
    refine mz_Go.run (gs := [mz_kz 2 0 301]) (st' := (18, [some (.inr (.inr (some (0, 301))))], [.inr (.inr (some (0, 2)))], D)) bX10_takesPayer_14 oX10_takesPayer_14 rfl ⟨rfl, trivial⟩ ?_
    obtain ⟨q2, hq2, h⟩ := mz_bd_some h
    refine mz_Go.callV (J := IX5_advance) (as := []) (ci := 5) (g := 0) (o := 2) (idx := 74) (pl := 959) (rest := []) (mX5_advance D q2 hq2) kX5_advance vX5_advance (by decide +kernel) (by decide +kernel) (by decide +kernel) rfl rfl ⟨rfl, rfl⟩ rfl rfl rfl rfl ?_
    refine mz_Go.run (gs := [mz_kz 2 0 301, mz_kz 2 2 119, mz_kz 2 0 301, mz_kz 2 0 301, mz_kz 2 0 301]) (st' := (40, [some (.inr (.inr (some (0, 301))))], [.inr (.inr (some (1, 101))), .inr (.inr (some (0, 2))), .inl (q2.1 0 301 5), .inr (.inr (some (2, 122)))], q2)) bX10_takesPayer_21 oX10_takesPayer_21 rfl ⟨rfl, rfl, rfl, rfl, rfl, trivial⟩ ?_
    obtain ⟨q3, hq3, h⟩ := mz_bd_some h
    refine mz_Go.callV (J := IX5_takePerson) (as := [.inr (.inr (some (1, 101)))]) (ci := 5) (g := 0) (o := 2) (idx := 103) (pl := 983) (rest := [.inl (q2.1 0 301 5), .inr (.inr (some (2, 122)))]) (mX5_takePerson 1 q2 rfl q3 hq3) kX5_takePerson vX5_takePerson (by decide +kernel) (by decide +kernel) (by decide +kernel) rfl rfl ⟨rfl, rfl⟩ rfl rfl rfl rfl ?_
    obtain ⟨hb4, h⟩ := mz_gd_some h
    obtain ⟨hb5, h⟩ := mz_gd_some h
    refine mz_Go.run (gs := [mz_kz 2 2 122, mz_ix (q2.1 0 301 5) 30, mz_kz 2 0 301, mz_kz 2 2 119, mz_kz 2 0 301, mz_kz 2 2 122, mz_ix (q3.2.1 0 301 5) 30]) (st' := (if ((mz_wi q3.2 2 122 ((q2.1 0 301 5)).toNatClampNeg q3.1).1 2 122 ((q3.2.1 0 301 5)).toNatClampNeg) = (-1 : Int32) then (64, [some (.inr (.inr (some (0, 301))))], [], (mz_wi q3.2 2 122 ((q2.1 0 301 5)).toNatClampNeg q3.1)) else (60, [some (.inr (.inr (some (0, 301))))], [], (mz_wi q3.2 2 122 ((q2.1 0 301 5)).toNatClampNeg q3.1)))) bX10_takesPayer_43 oX10_takesPayer_43 rfl ⟨rfl, hb4, rfl, rfl, rfl, rfl, hb5, trivial⟩ ?_
    refine mz_Go.ite (fun hc6 => ?_) (fun hc6 => ?_)
    · have h := mz_ifp hc6 h
      refine mz_Go.run (gs := []) (st' := (65, [some (.inr (.inr (some (0, 301))))], [.inl (0 : Int32)], (mz_wi q3.2 2 122 ((q2.1 0 301 5)).toNatClampNeg q3.1))) bX10_takesPayer_64 oX10_takesPayer_64 rfl trivial ?_
      cases h
      exact mz_Go.retz (by decide +kernel) rfl ⟨Nat.le_refl _, Nat.le_refl _⟩ (by decide) rfl
    · have h := mz_ifn hc6 h
      refine mz_Go.run (gs := []) (st' := (65, [some (.inr (.inr (some (0, 301))))], [.inl (1 : Int32)], (mz_wi q3.2 2 122 ((q2.1 0 301 5)).toNatClampNeg q3.1))) bX10_takesPayer_60 oX10_takesPayer_60 rfl trivial ?_
      cases h
      exact mz_Go.retz (by decide +kernel) rfl ⟨Nat.le_refl _, Nat.le_refl _⟩ (by decide) rfl
  · have h := mz_ifn hc1 h
    refine mz_Go.run (gs := []) (st' := (13, [some (.inr (.inr (some (0, 301))))], [.inl (1 : Int32)], D)) bX10_takesPayer_12 oX10_takesPayer_12 rfl trivial ?_
    cases h
    exact mz_Go.retz (by decide +kernel) rfl ⟨Nat.le_refl _, Nat.le_refl _⟩ (by decide) rfl
def bX10_takesRest_0 : List mz_E := [(0, .aload_n 0, 0, 0, 0, 0, 0), (1, .getfield 23, 10, 2, 932, 0, 0), (4, .getfield 87, 9, 2, 436, 0, 0), (7, .aload_n 0, 0, 0, 0, 0, 0), (8, .getfield 84, 10, 5, 935, 0, 0), (11, .iaload, 0, 0, 0, 0, 0)]
theorem oX10_takesRest_0 : bX10_takesRest_0.all (mz_ok RX10 cX10_takesRest 1) = true := by decide +kernel
def bX10_takesRest_68 : List mz_E := [(68, .aload_n 0, 0, 0, 0, 0, 0)]
theorem oX10_takesRest_68 : bX10_takesRest_68.all (mz_ok RX10 cX10_takesRest 1) = true := by decide +kernel
def bX10_takesRest_73 : List mz_E := [(73, .aload_n 0, 0, 0, 0, 0, 0), (74, .bipush 22, 0, 0, 0, 22, 0)]
theorem oX10_takesRest_73 : bX10_takesRest_73.all (mz_ok RX10 cX10_takesRest 1) = true := by decide +kernel
def bX10_takesRest_80 : List mz_E := [(80, .aload_n 0, 0, 0, 0, 0, 0), (81, .bipush 23, 0, 0, 0, 23, 0)]
theorem oX10_takesRest_80 : bX10_takesRest_80.all (mz_ok RX10 cX10_takesRest 1) = true := by decide +kernel
def bX10_takesRest_86 : List mz_E := [(86, .ifCond .eq 18, 0, 104, 0, 0, 0)]
theorem oX10_takesRest_86 : bX10_takesRest_86.all (mz_ok RX10 cX10_takesRest 1) = true := by decide +kernel
def bX10_takesRest_104 : List mz_E := [(104, .iconst 0, 0, 0, 0, 0, 0)]
theorem oX10_takesRest_104 : bX10_takesRest_104.all (mz_ok RX10 cX10_takesRest 1) = true := by decide +kernel
def bX10_takesRest_89 : List mz_E := [(89, .aload_n 0, 0, 0, 0, 0, 0), (90, .iconst 1, 0, 0, 0, 1, 0), (91, .sipush 999, 0, 0, 0, 999, 0)]
theorem oX10_takesRest_89 : bX10_takesRest_89.all (mz_ok RX10 cX10_takesRest 1) = true := by decide +kernel
def bX10_takesRest_97 : List mz_E := [(97, .ifCond .eq 7, 0, 104, 0, 0, 0)]
theorem oX10_takesRest_97 : bX10_takesRest_97.all (mz_ok RX10 cX10_takesRest 1) = true := by decide +kernel
def bX10_takesRest_100 : List mz_E := [(100, .iconst 1, 0, 0, 0, 1, 0), (101, .goto 4, 0, 105, 0, 0, 0)]
theorem oX10_takesRest_100 : bX10_takesRest_100.all (mz_ok RX10 cX10_takesRest 1) = true := by decide +kernel
def bX10_takesRest_114 : List mz_E := [(114, .iconst 1, 0, 0, 0, 1, 0)]
theorem oX10_takesRest_114 : bX10_takesRest_114.all (mz_ok RX10 cX10_takesRest 1) = true := by decide +kernel
def bX10_takesRest_106 : List mz_E := [(106, .aload_n 0, 0, 0, 0, 0, 0), (107, .iconst 1, 0, 0, 0, 1, 0), (108, .bipush 99, 0, 0, 0, 99, 0)]
theorem oX10_takesRest_106 : bX10_takesRest_106.all (mz_ok RX10 cX10_takesRest 1) = true := by decide +kernel
abbrev IX10_takesRest : mz_I := (yX10_takesRest, cX10_takesRest, 1, (some .boolean), 2, 4, 0, 0)
theorem kX10_takesRest : mz_okm IX10_takesRest 1005 146 1004 0 = true := by decide +kernel
theorem vX10_takesRest : mz_okV IX10_takesRest 1004 23 = true := by decide +kernel
def fX10_takesRest (D : mz_D) : Option (Int32 × mz_D) := (mz_gd (mz_ix (D.1 0 301 5) 30) (if (D.1 2 120 ((D.1 0 301 5)).toNatClampNeg) = (17 : Int32) then (Option.bind (fX10_takesPayer D) fun q3 => (mz_gd (mz_bo q3.1) (some (q3.1, q3.2)))) else (if (D.1 2 120 ((D.1 0 301 5)).toNatClampNeg) = (18 : Int32) then (Option.bind (fX10_takesTwo (22 : Int32) D) fun q6 => (mz_gd (mz_bo q6.1) (some (q6.1, q6.2)))) else (if (D.1 2 120 ((D.1 0 301 5)).toNatClampNeg) = (19 : Int32) then (Option.bind (fX10_takesTwo (23 : Int32) D) fun q9 => (if q9.1 = 0 then (some ((0 : Int32), q9.2)) else (Option.bind (fX10_takesCount (1 : Int32) (999 : Int32) q9.2) fun q11 => (if q11.1 = 0 then (some ((0 : Int32), q11.2)) else (some ((1 : Int32), q11.2)))))) else (if (D.1 2 120 ((D.1 0 301 5)).toNatClampNeg) = (20 : Int32) then (Option.bind (fX10_takesTwo (23 : Int32) D) fun q14 => (if q14.1 = 0 then (some ((0 : Int32), q14.2)) else (Option.bind (fX10_takesCount (1 : Int32) (999 : Int32) q14.2) fun q16 => (if q16.1 = 0 then (some ((0 : Int32), q16.2)) else (some ((1 : Int32), q16.2)))))) else (if (D.1 2 120 ((D.1 0 301 5)).toNatClampNeg) = (21 : Int32) then (some ((1 : Int32), D)) else (if (D.1 2 120 ((D.1 0 301 5)).toNatClampNeg) = (22 : Int32) then (some ((1 : Int32), D)) else (if (D.1 2 120 ((D.1 0 301 5)).toNatClampNeg) = (23 : Int32) then (some ((1 : Int32), D)) else (if (D.1 2 120 ((D.1 0 301 5)).toNatClampNeg) = (24 : Int32) then (some ((1 : Int32), D)) else (if (D.1 2 120 ((D.1 0 301 5)).toNatClampNeg) = (25 : Int32) then (some ((1 : Int32), D)) else (if (D.1 2 120 ((D.1 0 301 5)).toNatClampNeg) = (26 : Int32) then (Option.bind (fX10_takesCount (1 : Int32) (99 : Int32) D) fun q24 => (mz_gd (mz_bo q24.1) (some (q24.1, q24.2)))) else (some ((1 : Int32), D)))))))))))))
set_option maxHeartbeats 4000000 in
theorem mX10_takesRest (D : mz_D) (r : (Int32 × mz_D)) (h : fX10_takesRest D = some r) : mz_Met IX10_takesRest [.inr (.inr (some (0, 301)))] D (some (.inl r.1), r.2) := by
  refine mz_Met.of (by decide +kernel) (Nat.le_of_ble_eq_true rfl) ?_
  show mz_Go IX10_takesRest (some (.inl r.1), r.2) 0 0 (0, [some (.inr (.inr (some (0, 301))))], [], D)
  rw [fX10_takesRest] at h
  obtain ⟨hb1, h⟩ := mz_gd_some h
  refine mz_Go.run (gs := [mz_kz 2 0 301, mz_kz 2 2 119, mz_kz 2 0 301, mz_kz 2 2 120, mz_ix (D.1 0 301 5) 30]) (st' := (12, [some (.inr (.inr (some (0, 301))))], [.inl (D.1 2 120 ((D.1 0 301 5)).toNatClampNeg)], D)) bX10_takesRest_0 oX10_takesRest_0 rfl ⟨rfl, rfl, rfl, rfl, hb1, trivial⟩ ?_
  refine mz_Go.tsw [(17, 68), (18, 73), (19, 80), (20, 80), (21, 114), (22, 114), (23, 114), (24, 114), (25, 114), (26, 106)] 114 (show decode cX10_takesRest 12 = .ok (.tableswitch 102 17 26 #[56, 61, 68, 68, 102, 102, 102, 102, 102, 94], 56) by decide +kernel) (by decide +kernel) ?_
  refine mz_Go.swc (fun hc2 => ?_) (fun hc2 => ?_)
  · have h := mz_ifp hc2 h
    refine mz_Go.run (gs := []) (st' := (69, [some (.inr (.inr (some (0, 301))))], [.inr (.inr (some (0, 301)))], D)) bX10_takesRest_68 oX10_takesRest_68 rfl trivial ?_
    obtain ⟨q3, hq3, h⟩ := mz_bd_some h
    refine mz_Go.callV (J := IX10_takesPayer) (as := []) (ci := 10) (g := 0) (o := 301) (idx := 90) (pl := 1006) (rest := []) (mX10_takesPayer D q3 hq3) kX10_takesPayer vX10_takesPayer (by decide +kernel) (by decide +kernel) (by decide +kernel) rfl rfl ⟨rfl, rfl⟩ rfl rfl rfl rfl ?_
    obtain ⟨hb4, h⟩ := mz_gd_some h
    cases h
    exact mz_Go.retz (by decide +kernel) rfl ⟨Nat.le_refl _, Nat.le_refl _⟩ hb4 rfl
  · have h := mz_ifn hc2 h
    refine mz_Go.swc (fun hc5 => ?_) (fun hc5 => ?_)
    · have h := mz_ifp hc5 h
      refine mz_Go.run (gs := []) (st' := (76, [some (.inr (.inr (some (0, 301))))], [.inl (22 : Int32), .inr (.inr (some (0, 301)))], D)) bX10_takesRest_73 oX10_takesRest_73 rfl trivial ?_
      obtain ⟨q6, hq6, h⟩ := mz_bd_some h
      refine mz_Go.callV (J := IX10_takesTwo) (as := [.inl (22 : Int32)]) (ci := 10) (g := 0) (o := 301) (idx := 93) (pl := 979) (rest := []) (mX10_takesTwo (22 : Int32) D q6 hq6) kX10_takesTwo vX10_takesTwo (by decide +kernel) (by decide +kernel) (by decide +kernel) rfl rfl ⟨rfl, rfl⟩ rfl rfl rfl rfl ?_
      obtain ⟨hb7, h⟩ := mz_gd_some h
      cases h
      exact mz_Go.retz (by decide +kernel) rfl ⟨Nat.le_refl _, Nat.le_refl _⟩ hb7 rfl
    · have h := mz_ifn hc5 h
      refine mz_Go.swc (fun hc8 => ?_) (fun hc8 => ?_)
      · have h := mz_ifp hc8 h
        refine mz_Go.run (gs := []) (st' := (83, [some (.inr (.inr (some (0, 301))))], [.inl (23 : Int32), .inr (.inr (some (0, 301)))], D)) bX10_takesRest_80 oX10_takesRest_80 rfl trivial ?_
        obtain ⟨q9, hq9, h⟩ := mz_bd_some h
        refine mz_Go.callV (J := IX10_takesTwo) (as := [.inl (23 : Int32)]) (ci := 10) (g := 0) (o := 301) (idx := 93) (pl := 979) (rest := []) (mX10_takesTwo (23 : Int32) D q9 hq9) kX10_takesTwo vX10_takesTwo (by decide +kernel) (by decide +kernel) (by decide +kernel) rfl rfl ⟨rfl, rfl⟩ rfl rfl rfl rfl ?_
        refine mz_Go.run (gs := []) (st' := (if q9.1 = 0 then (104, [some (.inr (.inr (some (0, 301))))], [], q9.2) else (89, [some (.inr (.inr (some (0, 301))))], [], q9.2))) bX10_takesRest_86 oX10_takesRest_86 rfl trivial ?_
        refine mz_Go.ite (fun hc10 => ?_) (fun hc10 => ?_)
        · have h := mz_ifp hc10 h
          refine mz_Go.run (gs := []) (st' := (105, [some (.inr (.inr (some (0, 301))))], [.inl (0 : Int32)], q9.2)) bX10_takesRest_104 oX10_takesRest_104 rfl trivial ?_
          cases h
          exact mz_Go.retz (by decide +kernel) rfl ⟨Nat.le_refl _, Nat.le_refl _⟩ (by decide) rfl
        · have h := mz_ifn hc10 h
          refine mz_Go.run (gs := []) (st' := (94, [some (.inr (.inr (some (0, 301))))], [.inl (999 : Int32), .inl (1 : Int32), .inr (.inr (some (0, 301)))], q9.2)) bX10_takesRest_89 oX10_takesRest_89 rfl trivial ?_
          obtain ⟨q11, hq11, h⟩ := mz_bd_some h
          refine mz_Go.callV (J := IX10_takesCount) (as := [.inl (1 : Int32), .inl (999 : Int32)]) (ci := 10) (g := 0) (o := 301) (idx := 96) (pl := 997) (rest := []) (mX10_takesCount (1 : Int32) (999 : Int32) q9.2 q11 hq11) kX10_takesCount vX10_takesCount (by decide +kernel) (by decide +kernel) (by decide +kernel) rfl rfl ⟨rfl, rfl⟩ rfl rfl rfl rfl ?_
          refine mz_Go.run (gs := []) (st' := (if q11.1 = 0 then (104, [some (.inr (.inr (some (0, 301))))], [], q11.2) else (100, [some (.inr (.inr (some (0, 301))))], [], q11.2))) bX10_takesRest_97 oX10_takesRest_97 rfl trivial ?_
          refine mz_Go.ite (fun hc12 => ?_) (fun hc12 => ?_)
          · have h := mz_ifp hc12 h
            refine mz_Go.run (gs := []) (st' := (105, [some (.inr (.inr (some (0, 301))))], [.inl (0 : Int32)], q11.2)) bX10_takesRest_104 oX10_takesRest_104 rfl trivial ?_
            cases h
            exact mz_Go.retz (by decide +kernel) rfl ⟨Nat.le_refl _, Nat.le_refl _⟩ (by decide) rfl
          · have h := mz_ifn hc12 h
            refine mz_Go.run (gs := []) (st' := (105, [some (.inr (.inr (some (0, 301))))], [.inl (1 : Int32)], q11.2)) bX10_takesRest_100 oX10_takesRest_100 rfl trivial ?_
            cases h
            exact mz_Go.retz (by decide +kernel) rfl ⟨Nat.le_refl _, Nat.le_refl _⟩ (by decide) rfl
      · have h := mz_ifn hc8 h
        refine mz_Go.swc (fun hc13 => ?_) (fun hc13 => ?_)
        · have h := mz_ifp hc13 h
          refine mz_Go.run (gs := []) (st' := (83, [some (.inr (.inr (some (0, 301))))], [.inl (23 : Int32), .inr (.inr (some (0, 301)))], D)) bX10_takesRest_80 oX10_takesRest_80 rfl trivial ?_
          obtain ⟨q14, hq14, h⟩ := mz_bd_some h
          refine mz_Go.callV (J := IX10_takesTwo) (as := [.inl (23 : Int32)]) (ci := 10) (g := 0) (o := 301) (idx := 93) (pl := 979) (rest := []) (mX10_takesTwo (23 : Int32) D q14 hq14) kX10_takesTwo vX10_takesTwo (by decide +kernel) (by decide +kernel) (by decide +kernel) rfl rfl ⟨rfl, rfl⟩ rfl rfl rfl rfl ?_
          refine mz_Go.run (gs := []) (st' := (if q14.1 = 0 then (104, [some (.inr (.inr (some (0, 301))))], [], q14.2) else (89, [some (.inr (.inr (some (0, 301))))], [], q14.2))) bX10_takesRest_86 oX10_takesRest_86 rfl trivial ?_
          refine mz_Go.ite (fun hc15 => ?_) (fun hc15 => ?_)
          · have h := mz_ifp hc15 h
            refine mz_Go.run (gs := []) (st' := (105, [some (.inr (.inr (some (0, 301))))], [.inl (0 : Int32)], q14.2)) bX10_takesRest_104 oX10_takesRest_104 rfl trivial ?_
            cases h
            exact mz_Go.retz (by decide +kernel) rfl ⟨Nat.le_refl _, Nat.le_refl _⟩ (by decide) rfl
          · have h := mz_ifn hc15 h
            refine mz_Go.run (gs := []) (st' := (94, [some (.inr (.inr (some (0, 301))))], [.inl (999 : Int32), .inl (1 : Int32), .inr (.inr (some (0, 301)))], q14.2)) bX10_takesRest_89 oX10_takesRest_89 rfl trivial ?_
            obtain ⟨q16, hq16, h⟩ := mz_bd_some h
            refine mz_Go.callV (J := IX10_takesCount) (as := [.inl (1 : Int32), .inl (999 : Int32)]) (ci := 10) (g := 0) (o := 301) (idx := 96) (pl := 997) (rest := []) (mX10_takesCount (1 : Int32) (999 : Int32) q14.2 q16 hq16) kX10_takesCount vX10_takesCount (by decide +kernel) (by decide +kernel) (by decide +kernel) rfl rfl ⟨rfl, rfl⟩ rfl rfl rfl rfl ?_
            refine mz_Go.run (gs := []) (st' := (if q16.1 = 0 then (104, [some (.inr (.inr (some (0, 301))))], [], q16.2) else (100, [some (.inr (.inr (some (0, 301))))], [], q16.2))) bX10_takesRest_97 oX10_takesRest_97 rfl trivial ?_
            refine mz_Go.ite (fun hc17 => ?_) (fun hc17 => ?_)
            · have h := mz_ifp hc17 h
              refine mz_Go.run (gs := []) (st' := (105, [some (.inr (.inr (some (0, 301))))], [.inl (0 : Int32)], q16.2)) bX10_takesRest_104 oX10_takesRest_104 rfl trivial ?_
              cases h
              exact mz_Go.retz (by decide +kernel) rfl ⟨Nat.le_refl _, Nat.le_refl _⟩ (by decide) rfl
            · have h := mz_ifn hc17 h
              refine mz_Go.run (gs := []) (st' := (105, [some (.inr (.inr (some (0, 301))))], [.inl (1 : Int32)], q16.2)) bX10_takesRest_100 oX10_takesRest_100 rfl trivial ?_
              cases h
              exact mz_Go.retz (by decide +kernel) rfl ⟨Nat.le_refl _, Nat.le_refl _⟩ (by decide) rfl
        · have h := mz_ifn hc13 h
          refine mz_Go.swc (fun hc18 => ?_) (fun hc18 => ?_)
          · have h := mz_ifp hc18 h
            refine mz_Go.run (gs := []) (st' := (115, [some (.inr (.inr (some (0, 301))))], [.inl (1 : Int32)], D)) bX10_takesRest_114 oX10_takesRest_114 rfl trivial ?_
            cases h
            exact mz_Go.retz (by decide +kernel) rfl ⟨Nat.le_refl _, Nat.le_refl _⟩ (by decide) rfl
          · have h := mz_ifn hc18 h
            refine mz_Go.swc (fun hc19 => ?_) (fun hc19 => ?_)
            · have h := mz_ifp hc19 h
              refine mz_Go.run (gs := []) (st' := (115, [some (.inr (.inr (some (0, 301))))], [.inl (1 : Int32)], D)) bX10_takesRest_114 oX10_takesRest_114 rfl trivial ?_
              cases h
              exact mz_Go.retz (by decide +kernel) rfl ⟨Nat.le_refl _, Nat.le_refl _⟩ (by decide) rfl
            · have h := mz_ifn hc19 h
              refine mz_Go.swc (fun hc20 => ?_) (fun hc20 => ?_)
              · have h := mz_ifp hc20 h
                refine mz_Go.run (gs := []) (st' := (115, [some (.inr (.inr (some (0, 301))))], [.inl (1 : Int32)], D)) bX10_takesRest_114 oX10_takesRest_114 rfl trivial ?_
                cases h
                exact mz_Go.retz (by decide +kernel) rfl ⟨Nat.le_refl _, Nat.le_refl _⟩ (by decide) rfl
              · have h := mz_ifn hc20 h
                refine mz_Go.swc (fun hc21 => ?_) (fun hc21 => ?_)
                · have h := mz_ifp hc21 h
                  refine mz_Go.run (gs := []) (st' := (115, [some (.inr (.inr (some (0, 301))))], [.inl (1 : Int32)], D)) bX10_takesRest_114 oX10_takesRest_114 rfl trivial ?_
                  cases h
                  exact mz_Go.retz (by decide +kernel) rfl ⟨Nat.le_refl _, Nat.le_refl _⟩ (by decide) rfl
                · have h := mz_ifn hc21 h
                  refine mz_Go.swc (fun hc22 => ?_) (fun hc22 => ?_)
                  · have h := mz_ifp hc22 h
                    refine mz_Go.run (gs := []) (st' := (115, [some (.inr (.inr (some (0, 301))))], [.inl (1 : Int32)], D)) bX10_takesRest_114 oX10_takesRest_114 rfl trivial ?_
                    cases h
                    exact mz_Go.retz (by decide +kernel) rfl ⟨Nat.le_refl _, Nat.le_refl _⟩ (by decide) rfl
                  · have h := mz_ifn hc22 h
                    refine mz_Go.swc (fun hc23 => ?_) (fun hc23 => ?_)
                    · have h := mz_ifp hc23 h
                      refine mz_Go.run (gs := []) (st' := (110, [some (.inr (.inr (some (0, 301))))], [.inl (99 : Int32), .inl (1 : Int32), .inr (.inr (some (0, 301)))], D)) bX10_takesRest_106 oX10_takesRest_106 rfl trivial ?_
                      obtain ⟨q24, hq24, h⟩ := mz_bd_some h
                      refine mz_Go.callV (J := IX10_takesCount) (as := [.inl (1 : Int32), .inl (99 : Int32)]) (ci := 10) (g := 0) (o := 301) (idx := 96) (pl := 997) (rest := []) (mX10_takesCount (1 : Int32) (99 : Int32) D q24 hq24) kX10_takesCount vX10_takesCount (by decide +kernel) (by decide +kernel) (by decide +kernel) rfl rfl ⟨rfl, rfl⟩ rfl rfl rfl rfl ?_
                      obtain ⟨hb25, h⟩ := mz_gd_some h
                      cases h
                      exact mz_Go.retz (by decide +kernel) rfl ⟨Nat.le_refl _, Nat.le_refl _⟩ hb25 rfl
                    · have h := mz_ifn hc23 h
                      refine mz_Go.run (gs := []) (st' := (115, [some (.inr (.inr (some (0, 301))))], [.inl (1 : Int32)], D)) bX10_takesRest_114 oX10_takesRest_114 rfl trivial ?_
                      cases h
                      exact mz_Go.retz (by decide +kernel) rfl ⟨Nat.le_refl _, Nat.le_refl _⟩ (by decide) rfl
def bX10_isTaken_0 : List mz_E := [(0, .iconst 1, 0, 0, 0, 1, 0), (1, .istore_n 1, 0, 0, 0, 0, 0), (2, .iconst 0, 0, 0, 0, 0, 0), (3, .istore_n 2, 0, 0, 0, 0, 0)]
theorem oX10_isTaken_0 : bX10_isTaken_0.all (mz_ok RX10 cX10_isTaken 3) = true := by decide +kernel
def bX10_isTaken_4 : List mz_E := [(4, .iload_n 2, 0, 0, 0, 0, 0), (5, .sipush 300, 0, 0, 0, 300, 0), (8, .if_icmp .ge 99, 0, 107, 0, 0, 0)]
theorem oX10_isTaken_4 : bX10_isTaken_4.all (mz_ok RX10 cX10_isTaken 3) = true := by decide +kernel
def bX10_isTaken_107 : List mz_E := [(107, .iload_n 1, 0, 0, 0, 0, 0), (108, .ifCond .eq 19, 0, 127, 0, 0, 0)]
theorem oX10_isTaken_107 : bX10_isTaken_107.all (mz_ok RX10 cX10_isTaken 3) = true := by decide +kernel
def bX10_isTaken_127 : List mz_E := [(127, .aload_n 0, 0, 0, 0, 0, 0), (128, .getfield 23, 10, 2, 932, 0, 0), (131, .iload_n 1, 0, 0, 0, 0, 0), (132, .putfield 62, 9, 0, 429, 0, 0), (135, .iload_n 1, 0, 0, 0, 0, 0)]
theorem oX10_isTaken_127 : bX10_isTaken_127.all (mz_ok RX10 cX10_isTaken 3) = true := by decide +kernel
def bX10_isTaken_111 : List mz_E := [(111, .aload_n 0, 0, 0, 0, 0, 0), (112, .getfield 55, 10, 4, 934, 0, 0), (115, .ifCond .le 12, 0, 127, 0, 0, 0)]
theorem oX10_isTaken_111 : bX10_isTaken_111.all (mz_ok RX10 cX10_isTaken 3) = true := by decide +kernel
def bX10_isTaken_118 : List mz_E := [(118, .aload_n 0, 0, 0, 0, 0, 0), (119, .getfield 15, 10, 0, 930, 0, 0), (122, .iconst 2, 0, 0, 0, 2, 0)]
theorem oX10_isTaken_118 : bX10_isTaken_118.all (mz_ok RX10 cX10_isTaken 3) = true := by decide +kernel
def bX10_isTaken_126 : List mz_E := [(126, .istore_n 1, 0, 0, 0, 0, 0), (127, .aload_n 0, 0, 0, 0, 0, 0), (128, .getfield 23, 10, 2, 932, 0, 0), (131, .iload_n 1, 0, 0, 0, 0, 0), (132, .putfield 62, 9, 0, 429, 0, 0), (135, .iload_n 1, 0, 0, 0, 0, 0)]
theorem oX10_isTaken_126 : bX10_isTaken_126.all (mz_ok RX10 cX10_isTaken 3) = true := by decide +kernel
def bX10_isTaken_11 : List mz_E := [(11, .iload_n 1, 0, 0, 0, 0, 0), (12, .ifCond .eq 95, 0, 107, 0, 0, 0)]
theorem oX10_isTaken_11 : bX10_isTaken_11.all (mz_ok RX10 cX10_isTaken 3) = true := by decide +kernel
def bX10_isTaken_15 : List mz_E := [(15, .aload_n 0, 0, 0, 0, 0, 0), (16, .getfield 15, 10, 0, 930, 0, 0)]
theorem oX10_isTaken_15 : bX10_isTaken_15.all (mz_ok RX10 cX10_isTaken 3) = true := by decide +kernel
def bX10_isTaken_22 : List mz_E := [(22, .ifCond .ne 85, 0, 107, 0, 0, 0)]
theorem oX10_isTaken_22 : bX10_isTaken_22.all (mz_ok RX10 cX10_isTaken 3) = true := by decide +kernel
def bX10_isTaken_25 : List mz_E := [(25, .aload_n 0, 0, 0, 0, 0, 0), (26, .getfield 15, 10, 0, 930, 0, 0), (29, .getfield 33, 5, 2, 220, 0, 0), (32, .bipush 27, 0, 0, 0, 27, 0), (34, .if_icmp .ne 10, 0, 44, 0, 0, 0)]
theorem oX10_isTaken_25 : bX10_isTaken_25.all (mz_ok RX10 cX10_isTaken 3) = true := by decide +kernel
def bX10_isTaken_37 : List mz_E := [(37, .aload_n 0, 0, 0, 0, 0, 0)]
theorem oX10_isTaken_37 : bX10_isTaken_37.all (mz_ok RX10 cX10_isTaken 3) = true := by decide +kernel
def bX10_isTaken_41 : List mz_E := [(41, .goto 39, 0, 80, 0, 0, 0)]
theorem oX10_isTaken_41 : bX10_isTaken_41.all (mz_ok RX10 cX10_isTaken 3) = true := by decide +kernel
def bX10_isTaken_80 : List mz_E := [(80, .istore_n 1, 0, 0, 0, 0, 0), (81, .iload_n 1, 0, 0, 0, 0, 0), (82, .ifCond .eq 17, 0, 99, 0, 0, 0)]
theorem oX10_isTaken_80 : bX10_isTaken_80.all (mz_ok RX10 cX10_isTaken 3) = true := by decide +kernel
def bX10_isTaken_99 : List mz_E := [(99, .iconst 0, 0, 0, 0, 0, 0), (100, .istore_n 1, 0, 0, 0, 0, 0), (101, .iinc 2 1, 0, 0, 0, 1, 0), (104, .goto (-100), 0, 4, 0, 0, 0)]
theorem oX10_isTaken_99 : bX10_isTaken_99.all (mz_ok RX10 cX10_isTaken 3) = true := by decide +kernel
def bX10_isTaken_85 : List mz_E := [(85, .aload_n 0, 0, 0, 0, 0, 0), (86, .getfield 15, 10, 0, 930, 0, 0)]
theorem oX10_isTaken_85 : bX10_isTaken_85.all (mz_ok RX10 cX10_isTaken 3) = true := by decide +kernel
def bX10_isTaken_92 : List mz_E := [(92, .ifCond .eq 7, 0, 99, 0, 0, 0)]
theorem oX10_isTaken_92 : bX10_isTaken_92.all (mz_ok RX10 cX10_isTaken 3) = true := by decide +kernel
def bX10_isTaken_95 : List mz_E := [(95, .iconst 1, 0, 0, 0, 1, 0), (96, .goto 4, 0, 100, 0, 0, 0), (100, .istore_n 1, 0, 0, 0, 0, 0), (101, .iinc 2 1, 0, 0, 0, 1, 0), (104, .goto (-100), 0, 4, 0, 0, 0)]
theorem oX10_isTaken_95 : bX10_isTaken_95.all (mz_ok RX10 cX10_isTaken 3) = true := by decide +kernel
def bX10_isTaken_44 : List mz_E := [(44, .aload_n 0, 0, 0, 0, 0, 0)]
theorem oX10_isTaken_44 : bX10_isTaken_44.all (mz_ok RX10 cX10_isTaken 3) = true := by decide +kernel
def bX10_isTaken_48 : List mz_E := [(48, .ifCond .eq 31, 0, 79, 0, 0, 0)]
theorem oX10_isTaken_48 : bX10_isTaken_48.all (mz_ok RX10 cX10_isTaken 3) = true := by decide +kernel
def bX10_isTaken_79 : List mz_E := [(79, .iconst 0, 0, 0, 0, 0, 0)]
theorem oX10_isTaken_79 : bX10_isTaken_79.all (mz_ok RX10 cX10_isTaken 3) = true := by decide +kernel
def bX10_isTaken_51 : List mz_E := [(51, .aload_n 0, 0, 0, 0, 0, 0)]
theorem oX10_isTaken_51 : bX10_isTaken_51.all (mz_ok RX10 cX10_isTaken 3) = true := by decide +kernel
def bX10_isTaken_55 : List mz_E := [(55, .ifCond .eq 13, 0, 68, 0, 0, 0)]
theorem oX10_isTaken_55 : bX10_isTaken_55.all (mz_ok RX10 cX10_isTaken 3) = true := by decide +kernel
def bX10_isTaken_68 : List mz_E := [(68, .aload_n 0, 0, 0, 0, 0, 0)]
theorem oX10_isTaken_68 : bX10_isTaken_68.all (mz_ok RX10 cX10_isTaken 3) = true := by decide +kernel
def bX10_isTaken_72 : List mz_E := [(72, .ifCond .eq 7, 0, 79, 0, 0, 0)]
theorem oX10_isTaken_72 : bX10_isTaken_72.all (mz_ok RX10 cX10_isTaken 3) = true := by decide +kernel
def bX10_isTaken_75 : List mz_E := [(75, .iconst 1, 0, 0, 0, 1, 0), (76, .goto 4, 0, 80, 0, 0, 0)]
theorem oX10_isTaken_75 : bX10_isTaken_75.all (mz_ok RX10 cX10_isTaken 3) = true := by decide +kernel
def bX10_isTaken_58 : List mz_E := [(58, .aload_n 0, 0, 0, 0, 0, 0)]
theorem oX10_isTaken_58 : bX10_isTaken_58.all (mz_ok RX10 cX10_isTaken 3) = true := by decide +kernel
def bX10_isTaken_62 : List mz_E := [(62, .ifCond .eq 17, 0, 79, 0, 0, 0)]
theorem oX10_isTaken_62 : bX10_isTaken_62.all (mz_ok RX10 cX10_isTaken 3) = true := by decide +kernel
def bX10_isTaken_65 : List mz_E := [(65, .goto 10, 0, 75, 0, 0, 0)]
theorem oX10_isTaken_65 : bX10_isTaken_65.all (mz_ok RX10 cX10_isTaken 3) = true := by decide +kernel
abbrev IX10_isTaken : mz_I := (yX10_isTaken, cX10_isTaken, 3, (some .boolean), 2, 5, 0, 0)
theorem kX10_isTaken : mz_okm IX10_isTaken 952 146 950 0 = true := by decide +kernel
theorem vX10_isTaken : mz_okV IX10_isTaken 950 951 = true := by decide +kernel
def fX10_isTaken_107 (x1 : Int32) (D : mz_D) : Option (Int32 × mz_D) := (if x1 = 0 then (mz_gd (mz_bo x1) (mz_gd (mz_bo x1) (some (x1, (mz_wi D 2 119 0 x1))))) else (if (D.1 0 301 4) ≤ 0 then (mz_gd (mz_bo x1) (mz_gd (mz_bo x1) (some (x1, (mz_wi D 2 119 0 x1))))) else (Option.bind (fX5_fail (2 : Int32) D) fun q7 => (mz_gd (mz_bo q7.1) (mz_gd (mz_bo q7.1) (some (q7.1, (mz_wi q7.2 2 119 0 q7.1))))))))
set_option maxHeartbeats 4000000 in
theorem tX10_isTaken_107 (r : (Int32 × mz_D)) : ∀ (x1 : Int32) (D : mz_D), fX10_isTaken_107 x1 D = some r → mz_Go IX10_isTaken (some (.inl r.1), r.2) 0 0 (107, [some (.inr (.inr (some (0, 301)))), some (.inl x1), none], [], D) := by
  intro x1 D h
  rw [fX10_isTaken_107] at h
  refine mz_Go.run (gs := []) (st' := (if x1 = 0 then (127, [some (.inr (.inr (some (0, 301)))), some (.inl x1), none], [], D) else (111, [some (.inr (.inr (some (0, 301)))), some (.inl x1), none], [], D))) bX10_isTaken_107 oX10_isTaken_107 rfl trivial ?_
  refine mz_Go.ite (fun hc1 => ?_) (fun hc1 => ?_)
  · have h := mz_ifp hc1 h
    obtain ⟨hb2, h⟩ := mz_gd_some h
    refine mz_Go.run (gs := [mz_kz 2 0 301, mz_kz 2 2 119, mz_bo x1]) (st' := (136, [some (.inr (.inr (some (0, 301)))), some (.inl x1), none], [.inl x1], (mz_wi D 2 119 0 x1))) bX10_isTaken_127 oX10_isTaken_127 rfl ⟨rfl, rfl, hb2, trivial⟩ ?_
    obtain ⟨hb3, h⟩ := mz_gd_some h
    cases h
    exact mz_Go.retz (by decide +kernel) rfl ⟨Nat.le_refl _, Nat.le_refl _⟩ hb3 rfl
  · have h := mz_ifn hc1 h
    refine mz_Go.run (gs := [mz_kz 2 0 301]) (st' := (if (D.1 0 301 4) ≤ 0 then (127, [some (.inr (.inr (some (0, 301)))), some (.inl x1), none], [], D) else (118, [some (.inr (.inr (some (0, 301)))), some (.inl x1), none], [], D))) bX10_isTaken_111 oX10_isTaken_111 rfl ⟨rfl, trivial⟩ ?_
    refine mz_Go.ite (fun hc4 => ?_) (fun hc4 => ?_)
    · have h := mz_ifp hc4 h
      obtain ⟨hb5, h⟩ := mz_gd_some h
      refine mz_Go.run (gs := [mz_kz 2 0 301, mz_kz 2 2 119, mz_bo x1]) (st' := (136, [some (.inr (.inr (some (0, 301)))), some (.inl x1), none], [.inl x1], (mz_wi D 2 119 0 x1))) bX10_isTaken_127 oX10_isTaken_127 rfl ⟨rfl, rfl, hb5, trivial⟩ ?_
      obtain ⟨hb6, h⟩ := mz_gd_some h
      cases h
      exact mz_Go.retz (by decide +kernel) rfl ⟨Nat.le_refl _, Nat.le_refl _⟩ hb6 rfl
    · have h := mz_ifn hc4 h
      refine mz_Go.run (gs := [mz_kz 2 0 301]) (st' := (123, [some (.inr (.inr (some (0, 301)))), some (.inl x1), none], [.inl (2 : Int32), .inr (.inr (some (0, 2)))], D)) bX10_isTaken_118 oX10_isTaken_118 rfl ⟨rfl, trivial⟩ ?_
      obtain ⟨q7, hq7, h⟩ := mz_bd_some h
      refine mz_Go.callV (J := IX5_fail) (as := [.inl (2 : Int32)]) (ci := 5) (g := 0) (o := 2) (idx := 58) (pl := 958) (rest := []) (mX5_fail (2 : Int32) D q7 hq7) kX5_fail vX5_fail (by decide +kernel) (by decide +kernel) (by decide +kernel) rfl rfl ⟨rfl, rfl⟩ rfl rfl rfl rfl ?_
      obtain ⟨hb8, h⟩ := mz_gd_some h
      refine mz_Go.run (gs := [mz_kz 2 0 301, mz_kz 2 2 119, mz_bo q7.1]) (st' := (136, [some (.inr (.inr (some (0, 301)))), some (.inl q7.1), none], [.inl q7.1], (mz_wi q7.2 2 119 0 q7.1))) bX10_isTaken_126 oX10_isTaken_126 rfl ⟨rfl, rfl, hb8, trivial⟩ ?_
      obtain ⟨hb9, h⟩ := mz_gd_some h
      cases h
      exact mz_Go.retz (by decide +kernel) rfl ⟨Nat.le_refl _, Nat.le_refl _⟩ hb9 rfl
def fX10_isTaken_99 (k4 : Int32 → Int32 → mz_D → Option (Int32 × mz_D)) (x2 : Int32) (D : mz_D) : Option (Int32 × mz_D) := (k4 (0 : Int32) (x2 + (1 : Int32)) D)
set_option maxHeartbeats 4000000 in
theorem tX10_isTaken_99 (r : (Int32 × mz_D)) (k4 : Int32 → Int32 → mz_D → Option (Int32 × mz_D)) (hk4 : ∀ (x1 : Int32) (x2 : Int32) (D : mz_D), k4 x1 x2 D = some r → mz_Go IX10_isTaken (some (.inl r.1), r.2) 0 0 (4, [some (.inr (.inr (some (0, 301)))), some (.inl x1), some (.inl x2)], [], D)) : ∀ (x2 : Int32) (D : mz_D), fX10_isTaken_99 k4 x2 D = some r → mz_Go IX10_isTaken (some (.inl r.1), r.2) 0 0 (99, [some (.inr (.inr (some (0, 301)))), none, some (.inl x2)], [], D) := by
  intro x2 D h
  rw [fX10_isTaken_99] at h
  refine mz_Go.run (gs := []) (st' := (4, [some (.inr (.inr (some (0, 301)))), some (.inl (0 : Int32)), some (.inl (x2 + (1 : Int32)))], [], D)) bX10_isTaken_99 oX10_isTaken_99 rfl trivial ?_
  exact mz_Go.drop [true, true, true] (hk4 (0 : Int32) (x2 + (1 : Int32)) D h)
def fX10_isTaken_80 (k4 : Int32 → Int32 → mz_D → Option (Int32 × mz_D)) (x2 : Int32) (s0 : Int32) (D : mz_D) : Option (Int32 × mz_D) := (if s0 = 0 then (fX10_isTaken_99 k4 x2 D) else (Option.bind (fX5_takesSemicolon D) fun q2 => (if q2.1 = 0 then (fX10_isTaken_99 k4 x2 q2.2) else (k4 (1 : Int32) (x2 + (1 : Int32)) q2.2))))
set_option maxHeartbeats 4000000 in
theorem tX10_isTaken_80 (r : (Int32 × mz_D)) (k4 : Int32 → Int32 → mz_D → Option (Int32 × mz_D)) (hk4 : ∀ (x1 : Int32) (x2 : Int32) (D : mz_D), k4 x1 x2 D = some r → mz_Go IX10_isTaken (some (.inl r.1), r.2) 0 0 (4, [some (.inr (.inr (some (0, 301)))), some (.inl x1), some (.inl x2)], [], D)) : ∀ (x2 : Int32) (s0 : Int32) (D : mz_D), fX10_isTaken_80 k4 x2 s0 D = some r → mz_Go IX10_isTaken (some (.inl r.1), r.2) 0 0 (80, [some (.inr (.inr (some (0, 301)))), none, some (.inl x2)], [.inl s0], D) := by
  intro x2 s0 D h
  rw [fX10_isTaken_80] at h
  refine mz_Go.run (gs := []) (st' := (if s0 = 0 then (99, [some (.inr (.inr (some (0, 301)))), some (.inl s0), some (.inl x2)], [], D) else (85, [some (.inr (.inr (some (0, 301)))), some (.inl s0), some (.inl x2)], [], D))) bX10_isTaken_80 oX10_isTaken_80 rfl trivial ?_
  refine mz_Go.ite (fun hc1 => ?_) (fun hc1 => ?_)
  · have h := mz_ifp hc1 h
    exact mz_Go.drop [true, false, true] (tX10_isTaken_99 r k4 hk4 x2 D h)
  · have h := mz_ifn hc1 h
    refine mz_Go.run (gs := [mz_kz 2 0 301]) (st' := (89, [some (.inr (.inr (some (0, 301)))), some (.inl s0), some (.inl x2)], [.inr (.inr (some (0, 2)))], D)) bX10_isTaken_85 oX10_isTaken_85 rfl ⟨rfl, trivial⟩ ?_
    obtain ⟨q2, hq2, h⟩ := mz_bd_some h
    refine mz_Go.callV (J := IX5_takesSemicolon) (as := []) (ci := 5) (g := 0) (o := 2) (idx := 52) (pl := 1010) (rest := []) (mX5_takesSemicolon D q2 hq2) kX5_takesSemicolon vX5_takesSemicolon (by decide +kernel) (by decide +kernel) (by decide +kernel) rfl rfl ⟨rfl, rfl⟩ rfl rfl rfl rfl ?_
    refine mz_Go.run (gs := []) (st' := (if q2.1 = 0 then (99, [some (.inr (.inr (some (0, 301)))), some (.inl s0), some (.inl x2)], [], q2.2) else (95, [some (.inr (.inr (some (0, 301)))), some (.inl s0), some (.inl x2)], [], q2.2))) bX10_isTaken_92 oX10_isTaken_92 rfl trivial ?_
    refine mz_Go.ite (fun hc3 => ?_) (fun hc3 => ?_)
    · have h := mz_ifp hc3 h
      exact mz_Go.drop [true, false, true] (tX10_isTaken_99 r k4 hk4 x2 q2.2 h)
    · have h := mz_ifn hc3 h
      refine mz_Go.run (gs := []) (st' := (4, [some (.inr (.inr (some (0, 301)))), some (.inl (1 : Int32)), some (.inl (x2 + (1 : Int32)))], [], q2.2)) bX10_isTaken_95 oX10_isTaken_95 rfl trivial ?_
      exact mz_Go.drop [true, true, true] (hk4 (1 : Int32) (x2 + (1 : Int32)) q2.2 h)
def fX10_isTaken_79 (k4 : Int32 → Int32 → mz_D → Option (Int32 × mz_D)) (x2 : Int32) (D : mz_D) : Option (Int32 × mz_D) := (fX10_isTaken_80 k4 x2 (0 : Int32) D)
set_option maxHeartbeats 4000000 in
theorem tX10_isTaken_79 (r : (Int32 × mz_D)) (k4 : Int32 → Int32 → mz_D → Option (Int32 × mz_D)) (hk4 : ∀ (x1 : Int32) (x2 : Int32) (D : mz_D), k4 x1 x2 D = some r → mz_Go IX10_isTaken (some (.inl r.1), r.2) 0 0 (4, [some (.inr (.inr (some (0, 301)))), some (.inl x1), some (.inl x2)], [], D)) : ∀ (x2 : Int32) (D : mz_D), fX10_isTaken_79 k4 x2 D = some r → mz_Go IX10_isTaken (some (.inl r.1), r.2) 0 0 (79, [some (.inr (.inr (some (0, 301)))), none, some (.inl x2)], [], D) := by
  intro x2 D h
  rw [fX10_isTaken_79] at h
  refine mz_Go.run (gs := []) (st' := (80, [some (.inr (.inr (some (0, 301)))), none, some (.inl x2)], [.inl (0 : Int32)], D)) bX10_isTaken_79 oX10_isTaken_79 rfl trivial ?_
  exact mz_Go.drop [true, false, true] (tX10_isTaken_80 r k4 hk4 x2 (0 : Int32) D h)
def fX10_isTaken_75 (k4 : Int32 → Int32 → mz_D → Option (Int32 × mz_D)) (x2 : Int32) (D : mz_D) : Option (Int32 × mz_D) := (fX10_isTaken_80 k4 x2 (1 : Int32) D)
set_option maxHeartbeats 4000000 in
theorem tX10_isTaken_75 (r : (Int32 × mz_D)) (k4 : Int32 → Int32 → mz_D → Option (Int32 × mz_D)) (hk4 : ∀ (x1 : Int32) (x2 : Int32) (D : mz_D), k4 x1 x2 D = some r → mz_Go IX10_isTaken (some (.inl r.1), r.2) 0 0 (4, [some (.inr (.inr (some (0, 301)))), some (.inl x1), some (.inl x2)], [], D)) : ∀ (x2 : Int32) (D : mz_D), fX10_isTaken_75 k4 x2 D = some r → mz_Go IX10_isTaken (some (.inl r.1), r.2) 0 0 (75, [some (.inr (.inr (some (0, 301)))), none, some (.inl x2)], [], D) := by
  intro x2 D h
  rw [fX10_isTaken_75] at h
  refine mz_Go.run (gs := []) (st' := (80, [some (.inr (.inr (some (0, 301)))), none, some (.inl x2)], [.inl (1 : Int32)], D)) bX10_isTaken_75 oX10_isTaken_75 rfl trivial ?_
  exact mz_Go.drop [true, false, true] (tX10_isTaken_80 r k4 hk4 x2 (1 : Int32) D h)
def fX10_isTaken_4 : Nat → Int32 → Int32 → mz_D → Option (Int32 × mz_D)
  | 0 => fun _ _ _ => none
  | n + 1 => fun x1 x2 D => (if (300 : Int32) ≤ x2 then (fX10_isTaken_107 x1 D) else (if x1 = 0 then (fX10_isTaken_107 x1 D) else (if (fX5_isOver D) = 0 then (if (D.1 0 2 2) = (27 : Int32) then (Option.bind (fX10_takesEnd D) fun q5 => (fX10_isTaken_80 (fX10_isTaken_4 n) x2 q5.1 q5.2)) else (Option.bind (fX10_beginsStep D) fun q6 => (if q6.1 = 0 then (fX10_isTaken_79 (fX10_isTaken_4 n) x2 q6.2) else (Option.bind (fX10_isTest q6.2) fun q8 => (if q8 = 0 then (Option.bind (fX10_takesRest q6.2) fun q10 => (if q10.1 = 0 then (fX10_isTaken_79 (fX10_isTaken_4 n) x2 q10.2) else (fX10_isTaken_75 (fX10_isTaken_4 n) x2 q10.2))) else (Option.bind (fX10_takesTest q6.2) fun q12 => (if q12.1 = 0 then (fX10_isTaken_79 (fX10_isTaken_4 n) x2 q12.2) else (fX10_isTaken_75 (fX10_isTaken_4 n) x2 q12.2)))))))) else (fX10_isTaken_107 x1 D))))
set_option maxHeartbeats 4000000 in
theorem tX10_isTaken_4 (r : (Int32 × mz_D)) : ∀ (n : Nat) (x1 : Int32) (x2 : Int32) (D : mz_D), fX10_isTaken_4 n x1 x2 D = some r → mz_Go IX10_isTaken (some (.inl r.1), r.2) 0 0 (4, [some (.inr (.inr (some (0, 301)))), some (.inl x1), some (.inl x2)], [], D) := by
  intro n
  induction n with
  | zero => intro x1 x2 D h; have h : (none : Option (Int32 × mz_D)) = some r := h; cases h
  | succ n ih =>
    intro x1 x2 D h
    rw [fX10_isTaken_4] at h
    refine mz_Go.run (gs := []) (st' := (if (300 : Int32) ≤ x2 then (107, [some (.inr (.inr (some (0, 301)))), some (.inl x1), some (.inl x2)], [], D) else (11, [some (.inr (.inr (some (0, 301)))), some (.inl x1), some (.inl x2)], [], D))) bX10_isTaken_4 oX10_isTaken_4 rfl trivial ?_
    refine mz_Go.ite (fun hc1 => ?_) (fun hc1 => ?_)
    · have h := mz_ifp hc1 h
      exact mz_Go.drop [true, true, false] (tX10_isTaken_107 r x1 D h)
    · have h := mz_ifn hc1 h
      refine mz_Go.run (gs := []) (st' := (if x1 = 0 then (107, [some (.inr (.inr (some (0, 301)))), some (.inl x1), some (.inl x2)], [], D) else (15, [some (.inr (.inr (some (0, 301)))), some (.inl x1), some (.inl x2)], [], D))) bX10_isTaken_11 oX10_isTaken_11 rfl trivial ?_
      refine mz_Go.ite (fun hc2 => ?_) (fun hc2 => ?_)
      · have h := mz_ifp hc2 h
        exact mz_Go.drop [true, true, false] (tX10_isTaken_107 r x1 D h)
      · have h := mz_ifn hc2 h
        refine mz_Go.run (gs := [mz_kz 2 0 301]) (st' := (19, [some (.inr (.inr (some (0, 301)))), some (.inl x1), some (.inl x2)], [.inr (.inr (some (0, 2)))], D)) bX10_isTaken_15 oX10_isTaken_15 rfl ⟨rfl, trivial⟩ ?_
        refine mz_Go.callV (J := IX5_isOver) (as := []) (ci := 5) (g := 0) (o := 2) (idx := 27) (pl := 953) (rest := []) (mX5_isOver D _ rfl) kX5_isOver vX5_isOver (by decide +kernel) (by decide +kernel) (by decide +kernel) rfl rfl ⟨rfl, rfl⟩ rfl rfl rfl rfl ?_
        refine mz_Go.run (gs := []) (st' := (if (fX5_isOver D) = 0 then (25, [some (.inr (.inr (some (0, 301)))), some (.inl x1), some (.inl x2)], [], D) else (107, [some (.inr (.inr (some (0, 301)))), some (.inl x1), some (.inl x2)], [], D))) bX10_isTaken_22 oX10_isTaken_22 rfl trivial ?_
        refine mz_Go.ite (fun hc3 => ?_) (fun hc3 => ?_)
        · have h := mz_ifp hc3 h
          refine mz_Go.run (gs := [mz_kz 2 0 301, mz_kz 2 0 2]) (st' := (if (D.1 0 2 2) = (27 : Int32) then (37, [some (.inr (.inr (some (0, 301)))), some (.inl x1), some (.inl x2)], [], D) else (44, [some (.inr (.inr (some (0, 301)))), some (.inl x1), some (.inl x2)], [], D))) bX10_isTaken_25 oX10_isTaken_25 rfl ⟨rfl, rfl, trivial⟩ ?_
          refine mz_Go.ite (fun hc4 => ?_) (fun hc4 => ?_)
          · have h := mz_ifp hc4 h
            refine mz_Go.run (gs := []) (st' := (38, [some (.inr (.inr (some (0, 301)))), some (.inl x1), some (.inl x2)], [.inr (.inr (some (0, 301)))], D)) bX10_isTaken_37 oX10_isTaken_37 rfl trivial ?_
            obtain ⟨q5, hq5, h⟩ := mz_bd_some h
            refine mz_Go.callV (J := IX10_takesEnd) (as := []) (ci := 10) (g := 0) (o := 301) (idx := 37) (pl := 954) (rest := []) (mX10_takesEnd D q5 hq5) kX10_takesEnd vX10_takesEnd (by decide +kernel) (by decide +kernel) (by decide +kernel) rfl rfl ⟨rfl, rfl⟩ rfl rfl rfl rfl ?_
            refine mz_Go.run (gs := []) (st' := (80, [some (.inr (.inr (some (0, 301)))), some (.inl x1), some (.inl x2)], [.inl q5.1], q5.2)) bX10_isTaken_41 oX10_isTaken_41 rfl trivial ?_
            exact mz_Go.drop [true, false, true] (tX10_isTaken_80 r (fX10_isTaken_4 n) ih x2 q5.1 q5.2 h)
          · have h := mz_ifn hc4 h
            refine mz_Go.run (gs := []) (st' := (45, [some (.inr (.inr (some (0, 301)))), some (.inl x1), some (.inl x2)], [.inr (.inr (some (0, 301)))], D)) bX10_isTaken_44 oX10_isTaken_44 rfl trivial ?_
            obtain ⟨q6, hq6, h⟩ := mz_bd_some h
            refine mz_Go.callV (J := IX10_beginsStep) (as := []) (ci := 10) (g := 0) (o := 301) (idx := 40) (pl := 960) (rest := []) (mX10_beginsStep D q6 hq6) kX10_beginsStep vX10_beginsStep (by decide +kernel) (by decide +kernel) (by decide +kernel) rfl rfl ⟨rfl, rfl⟩ rfl rfl rfl rfl ?_
            refine mz_Go.run (gs := []) (st' := (if q6.1 = 0 then (79, [some (.inr (.inr (some (0, 301)))), some (.inl x1), some (.inl x2)], [], q6.2) else (51, [some (.inr (.inr (some (0, 301)))), some (.inl x1), some (.inl x2)], [], q6.2))) bX10_isTaken_48 oX10_isTaken_48 rfl trivial ?_
            refine mz_Go.ite (fun hc7 => ?_) (fun hc7 => ?_)
            · have h := mz_ifp hc7 h
              exact mz_Go.drop [true, false, true] (tX10_isTaken_79 r (fX10_isTaken_4 n) ih x2 q6.2 h)
            · have h := mz_ifn hc7 h
              refine mz_Go.run (gs := []) (st' := (52, [some (.inr (.inr (some (0, 301)))), some (.inl x1), some (.inl x2)], [.inr (.inr (some (0, 301)))], q6.2)) bX10_isTaken_51 oX10_isTaken_51 rfl trivial ?_
              obtain ⟨q8, hq8, h⟩ := mz_bd_some h
              refine mz_Go.callV (J := IX10_isTest) (as := []) (ci := 10) (g := 0) (o := 301) (idx := 43) (pl := 971) (rest := []) (mX10_isTest q6.2 q8 hq8) kX10_isTest vX10_isTest (by decide +kernel) (by decide +kernel) (by decide +kernel) rfl rfl ⟨rfl, rfl⟩ rfl rfl rfl rfl ?_
              refine mz_Go.run (gs := []) (st' := (if q8 = 0 then (68, [some (.inr (.inr (some (0, 301)))), some (.inl x1), some (.inl x2)], [], q6.2) else (58, [some (.inr (.inr (some (0, 301)))), some (.inl x1), some (.inl x2)], [], q6.2))) bX10_isTaken_55 oX10_isTaken_55 rfl trivial ?_
              refine mz_Go.ite (fun hc9 => ?_) (fun hc9 => ?_)
              · have h := mz_ifp hc9 h
                refine mz_Go.run (gs := []) (st' := (69, [some (.inr (.inr (some (0, 301)))), some (.inl x1), some (.inl x2)], [.inr (.inr (some (0, 301)))], q6.2)) bX10_isTaken_68 oX10_isTaken_68 rfl trivial ?_
                obtain ⟨q10, hq10, h⟩ := mz_bd_some h
                refine mz_Go.callV (J := IX10_takesRest) (as := []) (ci := 10) (g := 0) (o := 301) (idx := 49) (pl := 1002) (rest := []) (mX10_takesRest q6.2 q10 hq10) kX10_takesRest vX10_takesRest (by decide +kernel) (by decide +kernel) (by decide +kernel) rfl rfl ⟨rfl, rfl⟩ rfl rfl rfl rfl ?_
                refine mz_Go.run (gs := []) (st' := (if q10.1 = 0 then (79, [some (.inr (.inr (some (0, 301)))), some (.inl x1), some (.inl x2)], [], q10.2) else (75, [some (.inr (.inr (some (0, 301)))), some (.inl x1), some (.inl x2)], [], q10.2))) bX10_isTaken_72 oX10_isTaken_72 rfl trivial ?_
                refine mz_Go.ite (fun hc11 => ?_) (fun hc11 => ?_)
                · have h := mz_ifp hc11 h
                  exact mz_Go.drop [true, false, true] (tX10_isTaken_79 r (fX10_isTaken_4 n) ih x2 q10.2 h)
                · have h := mz_ifn hc11 h
                  exact mz_Go.drop [true, false, true] (tX10_isTaken_75 r (fX10_isTaken_4 n) ih x2 q10.2 h)
              · have h := mz_ifn hc9 h
                refine mz_Go.run (gs := []) (st' := (59, [some (.inr (.inr (some (0, 301)))), some (.inl x1), some (.inl x2)], [.inr (.inr (some (0, 301)))], q6.2)) bX10_isTaken_58 oX10_isTaken_58 rfl trivial ?_
                obtain ⟨q12, hq12, h⟩ := mz_bd_some h
                refine mz_Go.callV (J := IX10_takesTest) (as := []) (ci := 10) (g := 0) (o := 301) (idx := 46) (pl := 975) (rest := []) (mX10_takesTest q6.2 q12 hq12) kX10_takesTest vX10_takesTest (by decide +kernel) (by decide +kernel) (by decide +kernel) rfl rfl ⟨rfl, rfl⟩ rfl rfl rfl rfl ?_
                refine mz_Go.run (gs := []) (st' := (if q12.1 = 0 then (79, [some (.inr (.inr (some (0, 301)))), some (.inl x1), some (.inl x2)], [], q12.2) else (65, [some (.inr (.inr (some (0, 301)))), some (.inl x1), some (.inl x2)], [], q12.2))) bX10_isTaken_62 oX10_isTaken_62 rfl trivial ?_
                refine mz_Go.ite (fun hc13 => ?_) (fun hc13 => ?_)
                · have h := mz_ifp hc13 h
                  exact mz_Go.drop [true, false, true] (tX10_isTaken_79 r (fX10_isTaken_4 n) ih x2 q12.2 h)
                · have h := mz_ifn hc13 h
                  refine mz_Go.run (gs := []) (st' := (75, [some (.inr (.inr (some (0, 301)))), some (.inl x1), some (.inl x2)], [], q12.2)) bX10_isTaken_65 oX10_isTaken_65 rfl trivial ?_
                  exact mz_Go.drop [true, false, true] (tX10_isTaken_75 r (fX10_isTaken_4 n) ih x2 q12.2 h)
        · have h := mz_ifn hc3 h
          exact mz_Go.drop [true, true, false] (tX10_isTaken_107 r x1 D h)
def fX10_isTaken (D : mz_D) : Option (Int32 × mz_D) := (fX10_isTaken_4 mz_N (1 : Int32) (0 : Int32) D)
set_option maxHeartbeats 4000000 in
theorem mX10_isTaken (D : mz_D) (r : (Int32 × mz_D)) (h : fX10_isTaken D = some r) : mz_Met IX10_isTaken [.inr (.inr (some (0, 301)))] D (some (.inl r.1), r.2) := by
  refine mz_Met.of (by decide +kernel) (Nat.le_of_ble_eq_true rfl) ?_
  show mz_Go IX10_isTaken (some (.inl r.1), r.2) 0 0 (0, [some (.inr (.inr (some (0, 301)))), none, none], [], D)
  rw [fX10_isTaken] at h
  refine mz_Go.run (gs := []) (st' := (4, [some (.inr (.inr (some (0, 301)))), some (.inl (1 : Int32)), some (.inl (0 : Int32))], [], D)) bX10_isTaken_0 oX10_isTaken_0 rfl trivial ?_
  exact mz_Go.drop [true, true, true] (tX10_isTaken_4 r mz_N (1 : Int32) (0 : Int32) D h)
def bX11_status_0 : List mz_E := [(0, .aload_n 0, 0, 0, 0, 0, 0), (1, .getfield 71, 11, 13, 573, 0, 0)]
theorem oX11_status_0 : bX11_status_0.all (mz_ok RX11 cX11_status 1) = true := by decide +kernel
abbrev IX11_status : mz_I := (yX11_status, cX11_status, 1, (some .int), 0, 0, 0, 0)
theorem kX11_status : mz_okm IX11_status 618 127 616 0 = true := by decide +kernel
theorem vX11_status : mz_okV IX11_status 616 617 = true := by decide +kernel
theorem mX11_status (D : mz_D) : mz_Met IX11_status [.inr (.inr (some (0, 0)))] D (some (.inl (D.1 0 0 13)), D) := by
  refine mz_Met.of (by decide +kernel) (Nat.le_of_ble_eq_true rfl) ?_
  show mz_Go IX11_status (some (.inl (D.1 0 0 13)), D) 0 0 (0, [some (.inr (.inr (some (0, 0))))], [], D)
  refine mz_Go.run (gs := [mz_kz 0 0 0]) (st' := (4, [some (.inr (.inr (some (0, 0))))], [.inl (D.1 0 0 13)], D)) bX11_status_0 oX11_status_0 rfl ⟨rfl, trivial⟩ ?_
  exact mz_Go.reti (by decide +kernel) rfl ⟨Nat.le_refl _, Nat.le_refl _⟩ rfl
def bX11_top_0 : List mz_E := [(0, .aload_n 0, 0, 0, 0, 0, 0), (1, .getfield 74, 11, 14, 574, 0, 0)]
theorem oX11_top_0 : bX11_top_0.all (mz_ok RX11 cX11_top 1) = true := by decide +kernel
abbrev IX11_top : mz_I := (yX11_top, cX11_top, 1, (some .long), 0, 0, 0, 0)
theorem kX11_top : mz_okm IX11_top 622 127 620 0 = true := by decide +kernel
theorem vX11_top : mz_okV IX11_top 620 621 = true := by decide +kernel
theorem mX11_top (D : mz_D) : mz_Met IX11_top [.inr (.inr (some (0, 0)))] D (some (.inr (.inl (D.2 0 0 14))), D) := by
  refine mz_Met.of (by decide +kernel) (Nat.le_of_ble_eq_true rfl) ?_
  show mz_Go IX11_top (some (.inr (.inl (D.2 0 0 14))), D) 0 0 (0, [some (.inr (.inr (some (0, 0))))], [], D)
  refine mz_Go.run (gs := [mz_kz 0 0 0]) (st' := (4, [some (.inr (.inr (some (0, 0))))], [.inr (.inl (D.2 0 0 14))], D)) bX11_top_0 oX11_top_0 rfl ⟨rfl, trivial⟩ ?_
  exact mz_Go.retl (by decide +kernel) rfl ⟨Nat.le_refl _, Nat.le_refl _⟩ rfl
def bX11_bottom_0 : List mz_E := [(0, .aload_n 0, 0, 0, 0, 0, 0), (1, .getfield 60, 11, 15, 575, 0, 0)]
theorem oX11_bottom_0 : bX11_bottom_0.all (mz_ok RX11 cX11_bottom 1) = true := by decide +kernel
abbrev IX11_bottom : mz_I := (yX11_bottom, cX11_bottom, 1, (some .long), 0, 0, 0, 0)
theorem kX11_bottom : mz_okm IX11_bottom 626 127 624 0 = true := by decide +kernel
theorem vX11_bottom : mz_okV IX11_bottom 624 625 = true := by decide +kernel
theorem mX11_bottom (D : mz_D) : mz_Met IX11_bottom [.inr (.inr (some (0, 0)))] D (some (.inr (.inl (D.2 0 0 15))), D) := by
  refine mz_Met.of (by decide +kernel) (Nat.le_of_ble_eq_true rfl) ?_
  show mz_Go IX11_bottom (some (.inr (.inl (D.2 0 0 15))), D) 0 0 (0, [some (.inr (.inr (some (0, 0))))], [], D)
  refine mz_Go.run (gs := [mz_kz 0 0 0]) (st' := (4, [some (.inr (.inr (some (0, 0))))], [.inr (.inl (D.2 0 0 15))], D)) bX11_bottom_0 oX11_bottom_0 rfl ⟨rfl, trivial⟩ ?_
  exact mz_Go.retl (by decide +kernel) rfl ⟨Nat.le_refl _, Nat.le_refl _⟩ rfl
def bX11_deny_0 : List mz_E := [(0, .aload_n 0, 0, 0, 0, 0, 0), (1, .iload_n 1, 0, 0, 0, 0, 0), (2, .putfield 71, 11, 13, 573, 0, 0), (5, .iconst 0, 0, 0, 0, 0, 0)]
theorem oX11_deny_0 : bX11_deny_0.all (mz_ok RX11 cX11_deny 2) = true := by decide +kernel
abbrev IX11_deny : mz_I := (yX11_deny, cX11_deny, 2, (some .boolean), 0, 0, 0, 0)
theorem kX11_deny : mz_okm IX11_deny 638 127 637 1 = true := by decide +kernel
theorem vX11_deny : mz_okV IX11_deny 637 0 = true := by decide +kernel
theorem mX11_deny (x1 : Int32) (D : mz_D) : mz_Met IX11_deny [.inr (.inr (some (0, 0))), .inl x1] D (some (.inl (0 : Int32)), (mz_wi D 0 0 13 x1)) := by
  refine mz_Met.of (by decide +kernel) (Nat.le_of_ble_eq_true rfl) ?_
  show mz_Go IX11_deny (some (.inl (0 : Int32)), (mz_wi D 0 0 13 x1)) 0 0 (0, [some (.inr (.inr (some (0, 0)))), some (.inl x1)], [], D)
  refine mz_Go.run (gs := [mz_kz 0 0 0]) (st' := (6, [some (.inr (.inr (some (0, 0)))), some (.inl x1)], [.inl (0 : Int32)], (mz_wi D 0 0 13 x1))) bX11_deny_0 oX11_deny_0 rfl ⟨rfl, trivial⟩ ?_
  exact mz_Go.retz (by decide +kernel) rfl ⟨Nat.le_refl _, Nat.le_refl _⟩ (by decide) rfl
def bX11_grant_0 : List mz_E := [(0, .aload_n 0, 0, 0, 0, 0, 0), (1, .iconst 0, 0, 0, 0, 0, 0), (2, .putfield 71, 11, 13, 573, 0, 0), (5, .iconst 1, 0, 0, 0, 1, 0)]
theorem oX11_grant_0 : bX11_grant_0.all (mz_ok RX11 cX11_grant 1) = true := by decide +kernel
abbrev IX11_grant : mz_I := (yX11_grant, cX11_grant, 1, (some .boolean), 0, 0, 0, 0)
theorem kX11_grant : mz_okm IX11_grant 646 127 645 0 = true := by decide +kernel
theorem vX11_grant : mz_okV IX11_grant 645 1 = true := by decide +kernel
theorem mX11_grant (D : mz_D) : mz_Met IX11_grant [.inr (.inr (some (0, 0)))] D (some (.inl (1 : Int32)), (mz_wi D 0 0 13 (0 : Int32))) := by
  refine mz_Met.of (by decide +kernel) (Nat.le_of_ble_eq_true rfl) ?_
  show mz_Go IX11_grant (some (.inl (1 : Int32)), (mz_wi D 0 0 13 (0 : Int32))) 0 0 (0, [some (.inr (.inr (some (0, 0))))], [], D)
  refine mz_Go.run (gs := [mz_kz 0 0 0]) (st' := (6, [some (.inr (.inr (some (0, 0))))], [.inl (1 : Int32)], (mz_wi D 0 0 13 (0 : Int32)))) bX11_grant_0 oX11_grant_0 rfl ⟨rfl, trivial⟩ ?_
  exact mz_Go.retz (by decide +kernel) rfl ⟨Nat.le_refl _, Nat.le_refl _⟩ (by decide) rfl
def bX11_tray_0 : List mz_E := [(0, .aload_n 0, 0, 0, 0, 0, 0), (1, .getfield 25, 11, 3, 563, 0, 0), (4, .iload_n 1, 0, 0, 0, 0, 0)]
theorem oX11_tray_0 : bX11_tray_0.all (mz_ok RX11 cX11_tray 4) = true := by decide +kernel
def bX11_tray_8 : List mz_E := [(8, .ifCond .eq 22, 0, 30, 0, 0, 0)]
theorem oX11_tray_8 : bX11_tray_8.all (mz_ok RX11 cX11_tray 4) = true := by decide +kernel
def bX11_tray_30 : List mz_E := [(30, .aload_n 0, 0, 0, 0, 0, 0), (31, .iconst 1, 0, 0, 0, 1, 0)]
theorem oX11_tray_30 : bX11_tray_30.all (mz_ok RX11 cX11_tray 4) = true := by decide +kernel
def bX11_tray_11 : List mz_E := [(11, .iload_n 2, 0, 0, 0, 0, 0), (12, .ifCond .lt 18, 0, 30, 0, 0, 0)]
theorem oX11_tray_11 : bX11_tray_11.all (mz_ok RX11 cX11_tray 4) = true := by decide +kernel
def bX11_tray_15 : List mz_E := [(15, .iload_n 2, 0, 0, 0, 0, 0), (16, .iconst 3, 0, 0, 0, 3, 0), (17, .if_icmp .gt 13, 0, 30, 0, 0, 0)]
theorem oX11_tray_15 : bX11_tray_15.all (mz_ok RX11 cX11_tray 4) = true := by decide +kernel
def bX11_tray_20 : List mz_E := [(20, .iload_n 3, 0, 0, 0, 0, 0), (21, .ifCond .lt 9, 0, 30, 0, 0, 0)]
theorem oX11_tray_20 : bX11_tray_20.all (mz_ok RX11 cX11_tray 4) = true := by decide +kernel
def bX11_tray_24 : List mz_E := [(24, .iload_n 3, 0, 0, 0, 0, 0), (25, .bipush 60, 0, 0, 0, 60, 0), (27, .if_icmp .le 9, 0, 36, 0, 0, 0)]
theorem oX11_tray_24 : bX11_tray_24.all (mz_ok RX11 cX11_tray 4) = true := by decide +kernel
def bX11_tray_36 : List mz_E := [(36, .aload_n 0, 0, 0, 0, 0, 0), (37, .getfield 25, 11, 3, 563, 0, 0), (40, .iload_n 1, 0, 0, 0, 0, 0), (41, .iload_n 2, 0, 0, 0, 0, 0), (42, .iload_n 3, 0, 0, 0, 0, 0)]
theorem oX11_tray_36 : bX11_tray_36.all (mz_ok RX11 cX11_tray 4) = true := by decide +kernel
def bX11_tray_46 : List mz_E := [(46, .aload_n 0, 0, 0, 0, 0, 0)]
theorem oX11_tray_46 : bX11_tray_46.all (mz_ok RX11 cX11_tray 4) = true := by decide +kernel
abbrev IX11_tray : mz_I := (yX11_tray, cX11_tray, 4, (some .boolean), 0, 1, 0, 0)
theorem kX11_tray : mz_okm IX11_tray 630 127 628 3 = true := by decide +kernel
theorem vX11_tray : mz_okV IX11_tray 628 629 = true := by decide +kernel
def fX11_tray (x1 : Int32) (x2 : Int32) (x3 : Int32) (D : mz_D) : Option (Int32 × mz_D) := (if (fX8_has x1) = 0 then (some ((0 : Int32), (mz_wi D 0 0 13 (1 : Int32)))) else (if x2 < 0 then (some ((0 : Int32), (mz_wi D 0 0 13 (1 : Int32)))) else (if (3 : Int32) < x2 then (some ((0 : Int32), (mz_wi D 0 0 13 (1 : Int32)))) else (if x3 < 0 then (some ((0 : Int32), (mz_wi D 0 0 13 (1 : Int32)))) else (if x3 ≤ (60 : Int32) then (Option.bind (fX8_lay x1 x2 x3 D) fun q6 => (some ((1 : Int32), (mz_wi q6 0 0 13 (0 : Int32))))) else (some ((0 : Int32), (mz_wi D 0 0 13 (1 : Int32)))))))))
set_option maxHeartbeats 4000000 in
theorem mX11_tray (x1 : Int32) (x2 : Int32) (x3 : Int32) (D : mz_D) (r : (Int32 × mz_D)) (h : fX11_tray x1 x2 x3 D = some r) : mz_Met IX11_tray [.inr (.inr (some (0, 0))), .inl x1, .inl x2, .inl x3] D (some (.inl r.1), r.2) := by
  refine mz_Met.of (by decide +kernel) (Nat.le_of_ble_eq_true rfl) ?_
  show mz_Go IX11_tray (some (.inl r.1), r.2) 0 0 (0, [some (.inr (.inr (some (0, 0)))), some (.inl x1), some (.inl x2), some (.inl x3)], [], D)
  rw [fX11_tray] at h
  refine mz_Go.run (gs := [mz_kz 0 0 0]) (st' := (5, [some (.inr (.inr (some (0, 0)))), some (.inl x1), some (.inl x2), some (.inl x3)], [.inl x1, .inr (.inr (some (0, 4)))], D)) bX11_tray_0 oX11_tray_0 rfl ⟨rfl, trivial⟩ ?_
  refine mz_Go.callV (J := IX8_has) (as := [.inl x1]) (ci := 8) (g := 0) (o := 4) (idx := 77) (pl := 631) (rest := []) (mX8_has x1 D _ rfl) kX8_has vX8_has (by decide +kernel) (by decide +kernel) (by decide +kernel) rfl rfl ⟨rfl, rfl⟩ rfl rfl rfl rfl ?_
  refine mz_Go.run (gs := []) (st' := (if (fX8_has x1) = 0 then (30, [some (.inr (.inr (some (0, 0)))), some (.inl x1), some (.inl x2), some (.inl x3)], [], D) else (11, [some (.inr (.inr (some (0, 0)))), some (.inl x1), some (.inl x2), some (.inl x3)], [], D))) bX11_tray_8 oX11_tray_8 rfl trivial ?_
  refine mz_Go.ite (fun hc1 => ?_) (fun hc1 => ?_)
  · have h := mz_ifp hc1 h
    refine mz_Go.run (gs := []) (st' := (32, [some (.inr (.inr (some (0, 0)))), some (.inl x1), some (.inl x2), some (.inl x3)], [.inl (1 : Int32), .inr (.inr (some (0, 0)))], D)) bX11_tray_30 oX11_tray_30 rfl trivial ?_
    refine mz_Go.callV (J := IX11_deny) (as := [.inl (1 : Int32)]) (ci := 11) (g := 0) (o := 0) (idx := 81) (pl := 635) (rest := []) (mX11_deny (1 : Int32) D) kX11_deny vX11_deny (by decide +kernel) (by decide +kernel) (by decide +kernel) rfl rfl ⟨rfl, rfl⟩ rfl rfl rfl rfl ?_
    cases h
    exact mz_Go.retz (by decide +kernel) rfl ⟨Nat.le_refl _, Nat.le_refl _⟩ (by decide) rfl
  · have h := mz_ifn hc1 h
    refine mz_Go.run (gs := []) (st' := (if x2 < 0 then (30, [some (.inr (.inr (some (0, 0)))), some (.inl x1), some (.inl x2), some (.inl x3)], [], D) else (15, [some (.inr (.inr (some (0, 0)))), some (.inl x1), some (.inl x2), some (.inl x3)], [], D))) bX11_tray_11 oX11_tray_11 rfl trivial ?_
    refine mz_Go.ite (fun hc2 => ?_) (fun hc2 => ?_)
    · have h := mz_ifp hc2 h
      refine mz_Go.run (gs := []) (st' := (32, [some (.inr (.inr (some (0, 0)))), some (.inl x1), some (.inl x2), some (.inl x3)], [.inl (1 : Int32), .inr (.inr (some (0, 0)))], D)) bX11_tray_30 oX11_tray_30 rfl trivial ?_
      refine mz_Go.callV (J := IX11_deny) (as := [.inl (1 : Int32)]) (ci := 11) (g := 0) (o := 0) (idx := 81) (pl := 635) (rest := []) (mX11_deny (1 : Int32) D) kX11_deny vX11_deny (by decide +kernel) (by decide +kernel) (by decide +kernel) rfl rfl ⟨rfl, rfl⟩ rfl rfl rfl rfl ?_
      cases h
      exact mz_Go.retz (by decide +kernel) rfl ⟨Nat.le_refl _, Nat.le_refl _⟩ (by decide) rfl
    · have h := mz_ifn hc2 h
      refine mz_Go.run (gs := []) (st' := (if (3 : Int32) < x2 then (30, [some (.inr (.inr (some (0, 0)))), some (.inl x1), some (.inl x2), some (.inl x3)], [], D) else (20, [some (.inr (.inr (some (0, 0)))), some (.inl x1), some (.inl x2), some (.inl x3)], [], D))) bX11_tray_15 oX11_tray_15 rfl trivial ?_
      refine mz_Go.ite (fun hc3 => ?_) (fun hc3 => ?_)
      · have h := mz_ifp hc3 h
        refine mz_Go.run (gs := []) (st' := (32, [some (.inr (.inr (some (0, 0)))), some (.inl x1), some (.inl x2), some (.inl x3)], [.inl (1 : Int32), .inr (.inr (some (0, 0)))], D)) bX11_tray_30 oX11_tray_30 rfl trivial ?_
        refine mz_Go.callV (J := IX11_deny) (as := [.inl (1 : Int32)]) (ci := 11) (g := 0) (o := 0) (idx := 81) (pl := 635) (rest := []) (mX11_deny (1 : Int32) D) kX11_deny vX11_deny (by decide +kernel) (by decide +kernel) (by decide +kernel) rfl rfl ⟨rfl, rfl⟩ rfl rfl rfl rfl ?_
        cases h
        exact mz_Go.retz (by decide +kernel) rfl ⟨Nat.le_refl _, Nat.le_refl _⟩ (by decide) rfl
      · have h := mz_ifn hc3 h
        refine mz_Go.run (gs := []) (st' := (if x3 < 0 then (30, [some (.inr (.inr (some (0, 0)))), some (.inl x1), some (.inl x2), some (.inl x3)], [], D) else (24, [some (.inr (.inr (some (0, 0)))), some (.inl x1), some (.inl x2), some (.inl x3)], [], D))) bX11_tray_20 oX11_tray_20 rfl trivial ?_
        refine mz_Go.ite (fun hc4 => ?_) (fun hc4 => ?_)
        · have h := mz_ifp hc4 h
          refine mz_Go.run (gs := []) (st' := (32, [some (.inr (.inr (some (0, 0)))), some (.inl x1), some (.inl x2), some (.inl x3)], [.inl (1 : Int32), .inr (.inr (some (0, 0)))], D)) bX11_tray_30 oX11_tray_30 rfl trivial ?_
          refine mz_Go.callV (J := IX11_deny) (as := [.inl (1 : Int32)]) (ci := 11) (g := 0) (o := 0) (idx := 81) (pl := 635) (rest := []) (mX11_deny (1 : Int32) D) kX11_deny vX11_deny (by decide +kernel) (by decide +kernel) (by decide +kernel) rfl rfl ⟨rfl, rfl⟩ rfl rfl rfl rfl ?_
          cases h
          exact mz_Go.retz (by decide +kernel) rfl ⟨Nat.le_refl _, Nat.le_refl _⟩ (by decide) rfl
        · have h := mz_ifn hc4 h
          refine mz_Go.run (gs := []) (st' := (if x3 ≤ (60 : Int32) then (36, [some (.inr (.inr (some (0, 0)))), some (.inl x1), some (.inl x2), some (.inl x3)], [], D) else (30, [some (.inr (.inr (some (0, 0)))), some (.inl x1), some (.inl x2), some (.inl x3)], [], D))) bX11_tray_24 oX11_tray_24 rfl trivial ?_
          refine mz_Go.ite (fun hc5 => ?_) (fun hc5 => ?_)
          · have h := mz_ifp hc5 h
            refine mz_Go.run (gs := [mz_kz 0 0 0]) (st' := (43, [some (.inr (.inr (some (0, 0)))), some (.inl x1), some (.inl x2), some (.inl x3)], [.inl x3, .inl x2, .inl x1, .inr (.inr (some (0, 4)))], D)) bX11_tray_36 oX11_tray_36 rfl ⟨rfl, trivial⟩ ?_
            obtain ⟨q6, hq6, h⟩ := mz_bd_some h
            refine mz_Go.callV (J := IX8_lay) (as := [.inl x1, .inl x2, .inl x3]) (ci := 8) (g := 0) (o := 4) (idx := 84) (pl := 639) (rest := []) (mX8_lay x1 x2 x3 D q6 hq6) kX8_lay vX8_lay (by decide +kernel) (by decide +kernel) (by decide +kernel) rfl rfl ⟨rfl, rfl⟩ rfl rfl rfl rfl ?_
            refine mz_Go.run (gs := []) (st' := (47, [some (.inr (.inr (some (0, 0)))), some (.inl x1), some (.inl x2), some (.inl x3)], [.inr (.inr (some (0, 0)))], q6)) bX11_tray_46 oX11_tray_46 rfl trivial ?_
            refine mz_Go.callV (J := IX11_grant) (as := []) (ci := 11) (g := 0) (o := 0) (idx := 88) (pl := 643) (rest := []) (mX11_grant q6) kX11_grant vX11_grant (by decide +kernel) (by decide +kernel) (by decide +kernel) rfl rfl ⟨rfl, rfl⟩ rfl rfl rfl rfl ?_
            cases h
            exact mz_Go.retz (by decide +kernel) rfl ⟨Nat.le_refl _, Nat.le_refl _⟩ (by decide) rfl
          · have h := mz_ifn hc5 h
            refine mz_Go.run (gs := []) (st' := (32, [some (.inr (.inr (some (0, 0)))), some (.inl x1), some (.inl x2), some (.inl x3)], [.inl (1 : Int32), .inr (.inr (some (0, 0)))], D)) bX11_tray_30 oX11_tray_30 rfl trivial ?_
            refine mz_Go.callV (J := IX11_deny) (as := [.inl (1 : Int32)]) (ci := 11) (g := 0) (o := 0) (idx := 81) (pl := 635) (rest := []) (mX11_deny (1 : Int32) D) kX11_deny vX11_deny (by decide +kernel) (by decide +kernel) (by decide +kernel) rfl rfl ⟨rfl, rfl⟩ rfl rfl rfl rfl ?_
            cases h
            exact mz_Go.retz (by decide +kernel) rfl ⟨Nat.le_refl _, Nat.le_refl _⟩ (by decide) rfl
def bX11_placeTrouble_0 : List mz_E := [(0, .aload_n 0, 0, 0, 0, 0, 0), (1, .getfield 25, 11, 3, 563, 0, 0), (4, .iload_n 1, 0, 0, 0, 0, 0)]
theorem oX11_placeTrouble_0 : bX11_placeTrouble_0.all (mz_ok RX11 cX11_placeTrouble 3) = true := by decide +kernel
def bX11_placeTrouble_8 : List mz_E := [(8, .ifCond .ne 5, 0, 13, 0, 0, 0)]
theorem oX11_placeTrouble_8 : bX11_placeTrouble_8.all (mz_ok RX11 cX11_placeTrouble 3) = true := by decide +kernel
def bX11_placeTrouble_11 : List mz_E := [(11, .iconst 1, 0, 0, 0, 1, 0)]
theorem oX11_placeTrouble_11 : bX11_placeTrouble_11.all (mz_ok RX11 cX11_placeTrouble 3) = true := by decide +kernel
def bX11_placeTrouble_13 : List mz_E := [(13, .aload_n 0, 0, 0, 0, 0, 0), (14, .getfield 25, 11, 3, 563, 0, 0), (17, .iload_n 1, 0, 0, 0, 0, 0)]
theorem oX11_placeTrouble_13 : bX11_placeTrouble_13.all (mz_ok RX11 cX11_placeTrouble 3) = true := by decide +kernel
def bX11_placeTrouble_21 : List mz_E := [(21, .ifCond .eq 5, 0, 26, 0, 0, 0)]
theorem oX11_placeTrouble_21 : bX11_placeTrouble_21.all (mz_ok RX11 cX11_placeTrouble 3) = true := by decide +kernel
def bX11_placeTrouble_26 : List mz_E := [(26, .iload_n 2, 0, 0, 0, 0, 0), (27, .ifCond .lt 20, 0, 47, 0, 0, 0)]
theorem oX11_placeTrouble_26 : bX11_placeTrouble_26.all (mz_ok RX11 cX11_placeTrouble 3) = true := by decide +kernel
def bX11_placeTrouble_47 : List mz_E := [(47, .iconst 3, 0, 0, 0, 3, 0)]
theorem oX11_placeTrouble_47 : bX11_placeTrouble_47.all (mz_ok RX11 cX11_placeTrouble 3) = true := by decide +kernel
def bX11_placeTrouble_30 : List mz_E := [(30, .aload_n 0, 0, 0, 0, 0, 0), (31, .getfield 25, 11, 3, 563, 0, 0), (34, .iload_n 1, 0, 0, 0, 0, 0), (35, .iload_n 2, 0, 0, 0, 0, 0), (36, .iconst 1, 0, 0, 0, 1, 0)]
theorem oX11_placeTrouble_30 : bX11_placeTrouble_30.all (mz_ok RX11 cX11_placeTrouble 3) = true := by decide +kernel
def bX11_placeTrouble_40 : List mz_E := [(40, .ifCond .eq 7, 0, 47, 0, 0, 0)]
theorem oX11_placeTrouble_40 : bX11_placeTrouble_40.all (mz_ok RX11 cX11_placeTrouble 3) = true := by decide +kernel
def bX11_placeTrouble_43 : List mz_E := [(43, .iconst 0, 0, 0, 0, 0, 0), (44, .goto 4, 0, 48, 0, 0, 0)]
theorem oX11_placeTrouble_43 : bX11_placeTrouble_43.all (mz_ok RX11 cX11_placeTrouble 3) = true := by decide +kernel
def bX11_placeTrouble_24 : List mz_E := [(24, .iconst 2, 0, 0, 0, 2, 0)]
theorem oX11_placeTrouble_24 : bX11_placeTrouble_24.all (mz_ok RX11 cX11_placeTrouble 3) = true := by decide +kernel
abbrev IX11_placeTrouble : mz_I := (yX11_placeTrouble, cX11_placeTrouble, 3, (some .int), 0, 1, 0, 0)
theorem kX11_placeTrouble : mz_okm IX11_placeTrouble 654 127 653 2 = true := by decide +kernel
theorem vX11_placeTrouble : mz_okV IX11_placeTrouble 653 2 = true := by decide +kernel
def fX11_placeTrouble (x1 : Int32) (x2 : Int32) (D : mz_D) : Option Int32 := (if (fX8_has x1) = 0 then (some (1 : Int32)) else (Option.bind (fX8_isMissing x1 D) fun q2 => (if q2 = 0 then (if x2 < 0 then (some (3 : Int32)) else (Option.bind (fX8_holds x1 x2 (1 : Int32) D) fun q5 => (if q5 = 0 then (some (3 : Int32)) else (some (0 : Int32))))) else (some (2 : Int32)))))
set_option maxHeartbeats 4000000 in
theorem mX11_placeTrouble (x1 : Int32) (x2 : Int32) (D : mz_D) (r : Int32) (h : fX11_placeTrouble x1 x2 D = some r) : mz_Met IX11_placeTrouble [.inr (.inr (some (0, 0))), .inl x1, .inl x2] D (some (.inl r), D) := by
  refine mz_Met.of (by decide +kernel) (Nat.le_of_ble_eq_true rfl) ?_
  show mz_Go IX11_placeTrouble (some (.inl r), D) 0 0 (0, [some (.inr (.inr (some (0, 0)))), some (.inl x1), some (.inl x2)], [], D)
  rw [fX11_placeTrouble] at h
  refine mz_Go.run (gs := [mz_kz 0 0 0]) (st' := (5, [some (.inr (.inr (some (0, 0)))), some (.inl x1), some (.inl x2)], [.inl x1, .inr (.inr (some (0, 4)))], D)) bX11_placeTrouble_0 oX11_placeTrouble_0 rfl ⟨rfl, trivial⟩ ?_
  refine mz_Go.callV (J := IX8_has) (as := [.inl x1]) (ci := 8) (g := 0) (o := 4) (idx := 77) (pl := 631) (rest := []) (mX8_has x1 D _ rfl) kX8_has vX8_has (by decide +kernel) (by decide +kernel) (by decide +kernel) rfl rfl ⟨rfl, rfl⟩ rfl rfl rfl rfl ?_
  refine mz_Go.run (gs := []) (st' := (if (fX8_has x1) = 0 then (11, [some (.inr (.inr (some (0, 0)))), some (.inl x1), some (.inl x2)], [], D) else (13, [some (.inr (.inr (some (0, 0)))), some (.inl x1), some (.inl x2)], [], D))) bX11_placeTrouble_8 oX11_placeTrouble_8 rfl trivial ?_
  refine mz_Go.ite (fun hc1 => ?_) (fun hc1 => ?_)
  · have h := mz_ifp hc1 h
    refine mz_Go.run (gs := []) (st' := (12, [some (.inr (.inr (some (0, 0)))), some (.inl x1), some (.inl x2)], [.inl (1 : Int32)], D)) bX11_placeTrouble_11 oX11_placeTrouble_11 rfl trivial ?_
    cases h
    exact mz_Go.reti (by decide +kernel) rfl ⟨Nat.le_refl _, Nat.le_refl _⟩ rfl
  · have h := mz_ifn hc1 h
    refine mz_Go.run (gs := [mz_kz 0 0 0]) (st' := (18, [some (.inr (.inr (some (0, 0)))), some (.inl x1), some (.inl x2)], [.inl x1, .inr (.inr (some (0, 4)))], D)) bX11_placeTrouble_13 oX11_placeTrouble_13 rfl ⟨rfl, trivial⟩ ?_
    obtain ⟨q2, hq2, h⟩ := mz_bd_some h
    refine mz_Go.callV (J := IX8_isMissing) (as := [.inl x1]) (ci := 8) (g := 0) (o := 4) (idx := 108) (pl := 655) (rest := []) (mX8_isMissing x1 D q2 hq2) kX8_isMissing vX8_isMissing (by decide +kernel) (by decide +kernel) (by decide +kernel) rfl rfl ⟨rfl, rfl⟩ rfl rfl rfl rfl ?_
    refine mz_Go.run (gs := []) (st' := (if q2 = 0 then (26, [some (.inr (.inr (some (0, 0)))), some (.inl x1), some (.inl x2)], [], D) else (24, [some (.inr (.inr (some (0, 0)))), some (.inl x1), some (.inl x2)], [], D))) bX11_placeTrouble_21 oX11_placeTrouble_21 rfl trivial ?_
    refine mz_Go.ite (fun hc3 => ?_) (fun hc3 => ?_)
    · have h := mz_ifp hc3 h
      refine mz_Go.run (gs := []) (st' := (if x2 < 0 then (47, [some (.inr (.inr (some (0, 0)))), some (.inl x1), some (.inl x2)], [], D) else (30, [some (.inr (.inr (some (0, 0)))), some (.inl x1), some (.inl x2)], [], D))) bX11_placeTrouble_26 oX11_placeTrouble_26 rfl trivial ?_
      refine mz_Go.ite (fun hc4 => ?_) (fun hc4 => ?_)
      · have h := mz_ifp hc4 h
        refine mz_Go.run (gs := []) (st' := (48, [some (.inr (.inr (some (0, 0)))), some (.inl x1), some (.inl x2)], [.inl (3 : Int32)], D)) bX11_placeTrouble_47 oX11_placeTrouble_47 rfl trivial ?_
        cases h
        exact mz_Go.reti (by decide +kernel) rfl ⟨Nat.le_refl _, Nat.le_refl _⟩ rfl
      · have h := mz_ifn hc4 h
        refine mz_Go.run (gs := [mz_kz 0 0 0]) (st' := (37, [some (.inr (.inr (some (0, 0)))), some (.inl x1), some (.inl x2)], [.inl (1 : Int32), .inl x2, .inl x1, .inr (.inr (some (0, 4)))], D)) bX11_placeTrouble_30 oX11_placeTrouble_30 rfl ⟨rfl, trivial⟩ ?_
        obtain ⟨q5, hq5, h⟩ := mz_bd_some h
        refine mz_Go.callV (J := IX8_holds) (as := [.inl x1, .inl x2, .inl (1 : Int32)]) (ci := 8) (g := 0) (o := 4) (idx := 114) (pl := 659) (rest := []) (mX8_holds x1 x2 (1 : Int32) D q5 hq5) kX8_holds vX8_holds (by decide +kernel) (by decide +kernel) (by decide +kernel) rfl rfl ⟨rfl, rfl⟩ rfl rfl rfl rfl ?_
        refine mz_Go.run (gs := []) (st' := (if q5 = 0 then (47, [some (.inr (.inr (some (0, 0)))), some (.inl x1), some (.inl x2)], [], D) else (43, [some (.inr (.inr (some (0, 0)))), some (.inl x1), some (.inl x2)], [], D))) bX11_placeTrouble_40 oX11_placeTrouble_40 rfl trivial ?_
        refine mz_Go.ite (fun hc6 => ?_) (fun hc6 => ?_)
        · have h := mz_ifp hc6 h
          refine mz_Go.run (gs := []) (st' := (48, [some (.inr (.inr (some (0, 0)))), some (.inl x1), some (.inl x2)], [.inl (3 : Int32)], D)) bX11_placeTrouble_47 oX11_placeTrouble_47 rfl trivial ?_
          cases h
          exact mz_Go.reti (by decide +kernel) rfl ⟨Nat.le_refl _, Nat.le_refl _⟩ rfl
        · have h := mz_ifn hc6 h
          refine mz_Go.run (gs := []) (st' := (48, [some (.inr (.inr (some (0, 0)))), some (.inl x1), some (.inl x2)], [.inl (0 : Int32)], D)) bX11_placeTrouble_43 oX11_placeTrouble_43 rfl trivial ?_
          cases h
          exact mz_Go.reti (by decide +kernel) rfl ⟨Nat.le_refl _, Nat.le_refl _⟩ rfl
    · have h := mz_ifn hc3 h
      refine mz_Go.run (gs := []) (st' := (25, [some (.inr (.inr (some (0, 0)))), some (.inl x1), some (.inl x2)], [.inl (2 : Int32)], D)) bX11_placeTrouble_24 oX11_placeTrouble_24 rfl trivial ?_
      cases h
      exact mz_Go.reti (by decide +kernel) rfl ⟨Nat.le_refl _, Nat.le_refl _⟩ rfl
def bX11_write_0 : List mz_E := [(0, .aload_n 0, 0, 0, 0, 0, 0), (1, .iload_n 1, 0, 0, 0, 0, 0), (2, .iload_n 2, 0, 0, 0, 0, 0)]
theorem oX11_write_0 : bX11_write_0.all (mz_ok RX11 cX11_write 6) = true := by decide +kernel
def bX11_write_6 : List mz_E := [(6, .istore 5, 0, 0, 0, 0, 0), (8, .iload 5, 0, 0, 0, 0, 0), (10, .ifCond .eq 10, 0, 20, 0, 0, 0)]
theorem oX11_write_6 : bX11_write_6.all (mz_ok RX11 cX11_write 6) = true := by decide +kernel
def bX11_write_20 : List mz_E := [(20, .aload_n 0, 0, 0, 0, 0, 0), (21, .getfield 25, 11, 3, 563, 0, 0), (24, .iload_n 1, 0, 0, 0, 0, 0), (25, .iload_n 2, 0, 0, 0, 0, 0), (26, .lload_n 3, 0, 0, 0, 0, 0)]
theorem oX11_write_20 : bX11_write_20.all (mz_ok RX11 cX11_write 6) = true := by decide +kernel
def bX11_write_30 : List mz_E := [(30, .aload_n 0, 0, 0, 0, 0, 0)]
theorem oX11_write_30 : bX11_write_30.all (mz_ok RX11 cX11_write 6) = true := by decide +kernel
def bX11_write_13 : List mz_E := [(13, .aload_n 0, 0, 0, 0, 0, 0), (14, .iload 5, 0, 0, 0, 0, 0)]
theorem oX11_write_13 : bX11_write_13.all (mz_ok RX11 cX11_write 6) = true := by decide +kernel
abbrev IX11_write : mz_I := (yX11_write, cX11_write, 6, (some .boolean), 0, 2, 0, 0)
theorem kX11_write : mz_okm IX11_write 650 127 648 3 = true := by decide +kernel
theorem vX11_write : mz_okV IX11_write 648 649 = true := by decide +kernel
def fX11_write (x1 : Int32) (x2 : Int32) (y3 : Int64) (D : mz_D) : Option (Int32 × mz_D) := (Option.bind (fX11_placeTrouble x1 x2 D) fun q1 => (if q1 = 0 then (Option.bind (fX8_put x1 x2 y3 D) fun q3 => (some ((1 : Int32), (mz_wi q3 0 0 13 (0 : Int32))))) else (some ((0 : Int32), (mz_wi D 0 0 13 q1)))))
set_option maxHeartbeats 4000000 in
theorem mX11_write (x1 : Int32) (x2 : Int32) (y3 : Int64) (D : mz_D) (r : (Int32 × mz_D)) (h : fX11_write x1 x2 y3 D = some r) : mz_Met IX11_write [.inr (.inr (some (0, 0))), .inl x1, .inl x2, .inr (.inl y3)] D (some (.inl r.1), r.2) := by
  refine mz_Met.of (by decide +kernel) (Nat.le_of_ble_eq_true rfl) ?_
  show mz_Go IX11_write (some (.inl r.1), r.2) 0 0 (0, [some (.inr (.inr (some (0, 0)))), some (.inl x1), some (.inl x2), some (.inr (.inl y3)), none, none], [], D)
  rw [fX11_write] at h
  refine mz_Go.run (gs := []) (st' := (3, [some (.inr (.inr (some (0, 0)))), some (.inl x1), some (.inl x2), some (.inr (.inl y3)), none, none], [.inl x2, .inl x1, .inr (.inr (some (0, 0)))], D)) bX11_write_0 oX11_write_0 rfl trivial ?_
  obtain ⟨q1, hq1, h⟩ := mz_bd_some h
  refine mz_Go.callV (J := IX11_placeTrouble) (as := [.inl x1, .inl x2]) (ci := 11) (g := 0) (o := 0) (idx := 92) (pl := 651) (rest := []) (mX11_placeTrouble x1 x2 D q1 hq1) kX11_placeTrouble vX11_placeTrouble (by decide +kernel) (by decide +kernel) (by decide +kernel) rfl rfl ⟨rfl, rfl⟩ rfl rfl rfl rfl ?_
  refine mz_Go.run (gs := []) (st' := (if q1 = 0 then (20, [some (.inr (.inr (some (0, 0)))), some (.inl x1), some (.inl x2), some (.inr (.inl y3)), none, some (.inl q1)], [], D) else (13, [some (.inr (.inr (some (0, 0)))), some (.inl x1), some (.inl x2), some (.inr (.inl y3)), none, some (.inl q1)], [], D))) bX11_write_6 oX11_write_6 rfl trivial ?_
  refine mz_Go.ite (fun hc2 => ?_) (fun hc2 => ?_)
  · have h := mz_ifp hc2 h
    refine mz_Go.run (gs := [mz_kz 0 0 0]) (st' := (27, [some (.inr (.inr (some (0, 0)))), some (.inl x1), some (.inl x2), some (.inr (.inl y3)), none, some (.inl q1)], [.inr (.inl y3), .inl x2, .inl x1, .inr (.inr (some (0, 4)))], D)) bX11_write_20 oX11_write_20 rfl ⟨rfl, trivial⟩ ?_
    obtain ⟨q3, hq3, h⟩ := mz_bd_some h
    refine mz_Go.callV (J := IX8_put) (as := [.inl x1, .inl x2, .inr (.inl y3)]) (ci := 8) (g := 0) (o := 4) (idx := 96) (pl := 663) (rest := []) (mX8_put x1 x2 y3 D q3 hq3) kX8_put vX8_put (by decide +kernel) (by decide +kernel) (by decide +kernel) rfl rfl ⟨rfl, rfl⟩ rfl rfl rfl rfl ?_
    refine mz_Go.run (gs := []) (st' := (31, [some (.inr (.inr (some (0, 0)))), some (.inl x1), some (.inl x2), some (.inr (.inl y3)), none, some (.inl q1)], [.inr (.inr (some (0, 0)))], q3)) bX11_write_30 oX11_write_30 rfl trivial ?_
    refine mz_Go.callV (J := IX11_grant) (as := []) (ci := 11) (g := 0) (o := 0) (idx := 88) (pl := 643) (rest := []) (mX11_grant q3) kX11_grant vX11_grant (by decide +kernel) (by decide +kernel) (by decide +kernel) rfl rfl ⟨rfl, rfl⟩ rfl rfl rfl rfl ?_
    cases h
    exact mz_Go.retz (by decide +kernel) rfl ⟨Nat.le_refl _, Nat.le_refl _⟩ (by decide) rfl
  · have h := mz_ifn hc2 h
    refine mz_Go.run (gs := []) (st' := (16, [some (.inr (.inr (some (0, 0)))), some (.inl x1), some (.inl x2), some (.inr (.inl y3)), none, some (.inl q1)], [.inl q1, .inr (.inr (some (0, 0)))], D)) bX11_write_13 oX11_write_13 rfl trivial ?_
    refine mz_Go.callV (J := IX11_deny) (as := [.inl q1]) (ci := 11) (g := 0) (o := 0) (idx := 81) (pl := 635) (rest := []) (mX11_deny q1 D) kX11_deny vX11_deny (by decide +kernel) (by decide +kernel) (by decide +kernel) rfl rfl ⟨rfl, rfl⟩ rfl rfl rfl rfl ?_
    cases h
    exact mz_Go.retz (by decide +kernel) rfl ⟨Nat.le_refl _, Nat.le_refl _⟩ (by decide) rfl
def bX11_refuse_0 : List mz_E := [(0, .aload_n 0, 0, 0, 0, 0, 0), (1, .iload_n 1, 0, 0, 0, 0, 0), (2, .putfield 71, 11, 13, 573, 0, 0), (5, .iconst (-1), 0, 0, 0, -1, 0)]
theorem oX11_refuse_0 : bX11_refuse_0.all (mz_ok RX11 cX11_refuse 2) = true := by decide +kernel
abbrev IX11_refuse : mz_I := (yX11_refuse, cX11_refuse, 2, (some .int), 0, 0, 0, 0)
theorem kX11_refuse : mz_okm IX11_refuse 677 127 676 1 = true := by decide +kernel
theorem vX11_refuse : mz_okV IX11_refuse 676 3 = true := by decide +kernel
theorem mX11_refuse (x1 : Int32) (D : mz_D) : mz_Met IX11_refuse [.inr (.inr (some (0, 0))), .inl x1] D (some (.inl (-1 : Int32)), (mz_wi D 0 0 13 x1)) := by
  refine mz_Met.of (by decide +kernel) (Nat.le_of_ble_eq_true rfl) ?_
  show mz_Go IX11_refuse (some (.inl (-1 : Int32)), (mz_wi D 0 0 13 x1)) 0 0 (0, [some (.inr (.inr (some (0, 0)))), some (.inl x1)], [], D)
  refine mz_Go.run (gs := [mz_kz 0 0 0]) (st' := (6, [some (.inr (.inr (some (0, 0)))), some (.inl x1)], [.inl (-1 : Int32)], (mz_wi D 0 0 13 x1))) bX11_refuse_0 oX11_refuse_0 rfl ⟨rfl, trivial⟩ ?_
  exact mz_Go.reti (by decide +kernel) rfl ⟨Nat.le_refl _, Nat.le_refl _⟩ rfl
def bX11_read_0 : List mz_E := [(0, .aload_n 0, 0, 0, 0, 0, 0), (1, .iload_n 1, 0, 0, 0, 0, 0), (2, .iload_n 2, 0, 0, 0, 0, 0)]
theorem oX11_read_0 : bX11_read_0.all (mz_ok RX11 cX11_read 4) = true := by decide +kernel
def bX11_read_6 : List mz_E := [(6, .istore_n 3, 0, 0, 0, 0, 0), (7, .iload_n 3, 0, 0, 0, 0, 0), (8, .ifCond .eq 10, 0, 18, 0, 0, 0)]
theorem oX11_read_6 : bX11_read_6.all (mz_ok RX11 cX11_read 4) = true := by decide +kernel
def bX11_read_18 : List mz_E := [(18, .aload_n 0, 0, 0, 0, 0, 0), (19, .iconst 0, 0, 0, 0, 0, 0), (20, .putfield 71, 11, 13, 573, 0, 0), (23, .aload_n 0, 0, 0, 0, 0, 0), (24, .getfield 25, 11, 3, 563, 0, 0), (27, .iload_n 1, 0, 0, 0, 0, 0), (28, .iload_n 2, 0, 0, 0, 0, 0)]
theorem oX11_read_18 : bX11_read_18.all (mz_ok RX11 cX11_read 4) = true := by decide +kernel
def bX11_read_11 : List mz_E := [(11, .aload_n 0, 0, 0, 0, 0, 0), (12, .iload_n 3, 0, 0, 0, 0, 0)]
theorem oX11_read_11 : bX11_read_11.all (mz_ok RX11 cX11_read 4) = true := by decide +kernel
def bX11_read_16 : List mz_E := [(16, .i2l, 0, 0, 0, 0, 0)]
theorem oX11_read_16 : bX11_read_16.all (mz_ok RX11 cX11_read 4) = true := by decide +kernel
abbrev IX11_read : mz_I := (yX11_read, cX11_read, 4, (some .long), 0, 2, 0, 0)
theorem kX11_read : mz_okm IX11_read 673 127 671 2 = true := by decide +kernel
theorem vX11_read : mz_okV IX11_read 671 672 = true := by decide +kernel
def fX11_read (x1 : Int32) (x2 : Int32) (D : mz_D) : Option (Int64 × mz_D) := (Option.bind (fX11_placeTrouble x1 x2 D) fun q1 => (if q1 = 0 then (Option.bind (fX8_get x1 x2 (mz_wi D 0 0 13 (0 : Int32))) fun q3 => (some (q3, (mz_wi D 0 0 13 (0 : Int32))))) else (some (((-1 : Int32)).toInt64, (mz_wi D 0 0 13 q1)))))
set_option maxHeartbeats 4000000 in
theorem mX11_read (x1 : Int32) (x2 : Int32) (D : mz_D) (r : (Int64 × mz_D)) (h : fX11_read x1 x2 D = some r) : mz_Met IX11_read [.inr (.inr (some (0, 0))), .inl x1, .inl x2] D (some (.inr (.inl r.1)), r.2) := by
  refine mz_Met.of (by decide +kernel) (Nat.le_of_ble_eq_true rfl) ?_
  show mz_Go IX11_read (some (.inr (.inl r.1)), r.2) 0 0 (0, [some (.inr (.inr (some (0, 0)))), some (.inl x1), some (.inl x2), none], [], D)
  rw [fX11_read] at h
  refine mz_Go.run (gs := []) (st' := (3, [some (.inr (.inr (some (0, 0)))), some (.inl x1), some (.inl x2), none], [.inl x2, .inl x1, .inr (.inr (some (0, 0)))], D)) bX11_read_0 oX11_read_0 rfl trivial ?_
  obtain ⟨q1, hq1, h⟩ := mz_bd_some h
  refine mz_Go.callV (J := IX11_placeTrouble) (as := [.inl x1, .inl x2]) (ci := 11) (g := 0) (o := 0) (idx := 92) (pl := 651) (rest := []) (mX11_placeTrouble x1 x2 D q1 hq1) kX11_placeTrouble vX11_placeTrouble (by decide +kernel) (by decide +kernel) (by decide +kernel) rfl rfl ⟨rfl, rfl⟩ rfl rfl rfl rfl ?_
  refine mz_Go.run (gs := []) (st' := (if q1 = 0 then (18, [some (.inr (.inr (some (0, 0)))), some (.inl x1), some (.inl x2), some (.inl q1)], [], D) else (11, [some (.inr (.inr (some (0, 0)))), some (.inl x1), some (.inl x2), some (.inl q1)], [], D))) bX11_read_6 oX11_read_6 rfl trivial ?_
  refine mz_Go.ite (fun hc2 => ?_) (fun hc2 => ?_)
  · have h := mz_ifp hc2 h
    refine mz_Go.run (gs := [mz_kz 0 0 0, mz_kz 0 0 0]) (st' := (29, [some (.inr (.inr (some (0, 0)))), some (.inl x1), some (.inl x2), some (.inl q1)], [.inl x2, .inl x1, .inr (.inr (some (0, 4)))], (mz_wi D 0 0 13 (0 : Int32)))) bX11_read_18 oX11_read_18 rfl ⟨rfl, rfl, trivial⟩ ?_
    obtain ⟨q3, hq3, h⟩ := mz_bd_some h
    refine mz_Go.callV (J := IX8_get) (as := [.inl x1, .inl x2]) (ci := 8) (g := 0) (o := 4) (idx := 104) (pl := 678) (rest := []) (mX8_get x1 x2 (mz_wi D 0 0 13 (0 : Int32)) q3 hq3) kX8_get vX8_get (by decide +kernel) (by decide +kernel) (by decide +kernel) rfl rfl ⟨rfl, rfl⟩ rfl rfl rfl rfl ?_
    cases h
    exact mz_Go.retl (by decide +kernel) rfl ⟨Nat.le_refl _, Nat.le_refl _⟩ rfl
  · have h := mz_ifn hc2 h
    refine mz_Go.run (gs := []) (st' := (13, [some (.inr (.inr (some (0, 0)))), some (.inl x1), some (.inl x2), some (.inl q1)], [.inl q1, .inr (.inr (some (0, 0)))], D)) bX11_read_11 oX11_read_11 rfl trivial ?_
    refine mz_Go.callV (J := IX11_refuse) (as := [.inl q1]) (ci := 11) (g := 0) (o := 0) (idx := 100) (pl := 674) (rest := []) (mX11_refuse q1 D) kX11_refuse vX11_refuse (by decide +kernel) (by decide +kernel) (by decide +kernel) rfl rfl ⟨rfl, rfl⟩ rfl rfl rfl rfl ?_
    refine mz_Go.run (gs := []) (st' := (17, [some (.inr (.inr (some (0, 0)))), some (.inl x1), some (.inl x2), some (.inl q1)], [.inr (.inl ((-1 : Int32)).toInt64)], (mz_wi D 0 0 13 q1))) bX11_read_16 oX11_read_16 rfl trivial ?_
    cases h
    exact mz_Go.retl (by decide +kernel) rfl ⟨Nat.le_refl _, Nat.le_refl _⟩ rfl
def bX11_pour_0 : List mz_E := [(0, .aload_n 0, 0, 0, 0, 0, 0), (1, .getfield 25, 11, 3, 563, 0, 0), (4, .iload_n 1, 0, 0, 0, 0, 0)]
theorem oX11_pour_0 : bX11_pour_0.all (mz_ok RX11 cX11_pour 6) = true := by decide +kernel
def bX11_pour_8 : List mz_E := [(8, .ifCond .eq 28, 0, 36, 0, 0, 0)]
theorem oX11_pour_8 : bX11_pour_8.all (mz_ok RX11 cX11_pour 6) = true := by decide +kernel
def bX11_pour_36 : List mz_E := [(36, .aload_n 0, 0, 0, 0, 0, 0), (37, .iconst 1, 0, 0, 0, 1, 0)]
theorem oX11_pour_36 : bX11_pour_36.all (mz_ok RX11 cX11_pour 6) = true := by decide +kernel
def bX11_pour_11 : List mz_E := [(11, .aload_n 0, 0, 0, 0, 0, 0), (12, .getfield 25, 11, 3, 563, 0, 0), (15, .iload_n 3, 0, 0, 0, 0, 0)]
theorem oX11_pour_11 : bX11_pour_11.all (mz_ok RX11 cX11_pour 6) = true := by decide +kernel
def bX11_pour_19 : List mz_E := [(19, .ifCond .eq 17, 0, 36, 0, 0, 0)]
theorem oX11_pour_19 : bX11_pour_19.all (mz_ok RX11 cX11_pour 6) = true := by decide +kernel
def bX11_pour_22 : List mz_E := [(22, .iload_n 2, 0, 0, 0, 0, 0), (23, .ifCond .lt 13, 0, 36, 0, 0, 0)]
theorem oX11_pour_22 : bX11_pour_22.all (mz_ok RX11 cX11_pour 6) = true := by decide +kernel
def bX11_pour_26 : List mz_E := [(26, .iload 4, 0, 0, 0, 0, 0), (28, .ifCond .lt 8, 0, 36, 0, 0, 0)]
theorem oX11_pour_26 : bX11_pour_26.all (mz_ok RX11 cX11_pour 6) = true := by decide +kernel
def bX11_pour_31 : List mz_E := [(31, .iload 5, 0, 0, 0, 0, 0), (33, .ifCond .ge 9, 0, 42, 0, 0, 0)]
theorem oX11_pour_31 : bX11_pour_31.all (mz_ok RX11 cX11_pour 6) = true := by decide +kernel
def bX11_pour_42 : List mz_E := [(42, .aload_n 0, 0, 0, 0, 0, 0), (43, .getfield 25, 11, 3, 563, 0, 0), (46, .iload_n 1, 0, 0, 0, 0, 0)]
theorem oX11_pour_42 : bX11_pour_42.all (mz_ok RX11 cX11_pour 6) = true := by decide +kernel
def bX11_pour_50 : List mz_E := [(50, .ifCond .ne 14, 0, 64, 0, 0, 0)]
theorem oX11_pour_50 : bX11_pour_50.all (mz_ok RX11 cX11_pour 6) = true := by decide +kernel
def bX11_pour_53 : List mz_E := [(53, .aload_n 0, 0, 0, 0, 0, 0), (54, .getfield 25, 11, 3, 563, 0, 0), (57, .iload_n 3, 0, 0, 0, 0, 0)]
theorem oX11_pour_53 : bX11_pour_53.all (mz_ok RX11 cX11_pour 6) = true := by decide +kernel
def bX11_pour_61 : List mz_E := [(61, .ifCond .eq 9, 0, 70, 0, 0, 0)]
theorem oX11_pour_61 : bX11_pour_61.all (mz_ok RX11 cX11_pour 6) = true := by decide +kernel
def bX11_pour_70 : List mz_E := [(70, .aload_n 0, 0, 0, 0, 0, 0), (71, .getfield 25, 11, 3, 563, 0, 0), (74, .iload_n 1, 0, 0, 0, 0, 0)]
theorem oX11_pour_70 : bX11_pour_70.all (mz_ok RX11 cX11_pour 6) = true := by decide +kernel
def bX11_pour_78 : List mz_E := [(78, .aload_n 0, 0, 0, 0, 0, 0), (79, .getfield 25, 11, 3, 563, 0, 0), (82, .iload_n 3, 0, 0, 0, 0, 0)]
theorem oX11_pour_78 : bX11_pour_78.all (mz_ok RX11 cX11_pour 6) = true := by decide +kernel
def bX11_pour_86 : List mz_E := [(86, .if_icmp .eq 10, 0, 96, 0, 0, 0)]
theorem oX11_pour_86 : bX11_pour_86.all (mz_ok RX11 cX11_pour 6) = true := by decide +kernel
def bX11_pour_96 : List mz_E := [(96, .aload_n 0, 0, 0, 0, 0, 0), (97, .getfield 25, 11, 3, 563, 0, 0), (100, .iload_n 1, 0, 0, 0, 0, 0), (101, .iload_n 2, 0, 0, 0, 0, 0), (102, .iload 5, 0, 0, 0, 0, 0)]
theorem oX11_pour_96 : bX11_pour_96.all (mz_ok RX11 cX11_pour 6) = true := by decide +kernel
def bX11_pour_107 : List mz_E := [(107, .ifCond .eq 18, 0, 125, 0, 0, 0)]
theorem oX11_pour_107 : bX11_pour_107.all (mz_ok RX11 cX11_pour 6) = true := by decide +kernel
def bX11_pour_125 : List mz_E := [(125, .aload_n 0, 0, 0, 0, 0, 0), (126, .iconst 3, 0, 0, 0, 3, 0)]
theorem oX11_pour_125 : bX11_pour_125.all (mz_ok RX11 cX11_pour 6) = true := by decide +kernel
def bX11_pour_110 : List mz_E := [(110, .aload_n 0, 0, 0, 0, 0, 0), (111, .getfield 25, 11, 3, 563, 0, 0), (114, .iload_n 3, 0, 0, 0, 0, 0), (115, .iload 4, 0, 0, 0, 0, 0), (117, .iload 5, 0, 0, 0, 0, 0)]
theorem oX11_pour_110 : bX11_pour_110.all (mz_ok RX11 cX11_pour 6) = true := by decide +kernel
def bX11_pour_122 : List mz_E := [(122, .ifCond .ne 9, 0, 131, 0, 0, 0)]
theorem oX11_pour_122 : bX11_pour_122.all (mz_ok RX11 cX11_pour 6) = true := by decide +kernel
def bX11_pour_131 : List mz_E := [(131, .aload_n 0, 0, 0, 0, 0, 0), (132, .getfield 25, 11, 3, 563, 0, 0), (135, .iload_n 1, 0, 0, 0, 0, 0), (136, .iload_n 2, 0, 0, 0, 0, 0), (137, .iload_n 3, 0, 0, 0, 0, 0), (138, .iload 4, 0, 0, 0, 0, 0), (140, .iload 5, 0, 0, 0, 0, 0)]
theorem oX11_pour_131 : bX11_pour_131.all (mz_ok RX11 cX11_pour 6) = true := by decide +kernel
def bX11_pour_145 : List mz_E := [(145, .aload_n 0, 0, 0, 0, 0, 0)]
theorem oX11_pour_145 : bX11_pour_145.all (mz_ok RX11 cX11_pour 6) = true := by decide +kernel
def bX11_pour_89 : List mz_E := [(89, .aload_n 0, 0, 0, 0, 0, 0), (90, .bipush 8, 0, 0, 0, 8, 0)]
theorem oX11_pour_89 : bX11_pour_89.all (mz_ok RX11 cX11_pour 6) = true := by decide +kernel
def bX11_pour_64 : List mz_E := [(64, .aload_n 0, 0, 0, 0, 0, 0), (65, .iconst 2, 0, 0, 0, 2, 0)]
theorem oX11_pour_64 : bX11_pour_64.all (mz_ok RX11 cX11_pour 6) = true := by decide +kernel
abbrev IX11_pour : mz_I := (yX11_pour, cX11_pour, 6, (some .boolean), 0, 2, 0, 0)
theorem kX11_pour : mz_okm IX11_pour 685 127 683 5 = true := by decide +kernel
theorem vX11_pour : mz_okV IX11_pour 683 684 = true := by decide +kernel
def fX11_pour (x1 : Int32) (x2 : Int32) (x3 : Int32) (x4 : Int32) (x5 : Int32) (D : mz_D) : Option (Int32 × mz_D) := (if (fX8_has x1) = 0 then (some ((0 : Int32), (mz_wi D 0 0 13 (1 : Int32)))) else (if (fX8_has x3) = 0 then (some ((0 : Int32), (mz_wi D 0 0 13 (1 : Int32)))) else (if x2 < 0 then (some ((0 : Int32), (mz_wi D 0 0 13 (1 : Int32)))) else (if x4 < 0 then (some ((0 : Int32), (mz_wi D 0 0 13 (1 : Int32)))) else (if 0 ≤ x5 then (Option.bind (fX8_isMissing x1 D) fun q6 => (if q6 = 0 then (Option.bind (fX8_isMissing x3 D) fun q8 => (if q8 = 0 then (Option.bind (fX8_sortOf x1 D) fun q10 => (Option.bind (fX8_sortOf x3 D) fun q11 => (if q10 = q11 then (Option.bind (fX8_holds x1 x2 x5 D) fun q13 => (if q13 = 0 then (some ((0 : Int32), (mz_wi D 0 0 13 (3 : Int32)))) else (Option.bind (fX8_holds x3 x4 x5 D) fun q15 => (if q15 = 0 then (some ((0 : Int32), (mz_wi D 0 0 13 (3 : Int32)))) else (Option.bind (fX8_move x1 x2 x3 x4 x5 D) fun q17 => (some ((1 : Int32), (mz_wi q17 0 0 13 (0 : Int32))))))))) else (some ((0 : Int32), (mz_wi D 0 0 13 (8 : Int32))))))) else (some ((0 : Int32), (mz_wi D 0 0 13 (2 : Int32)))))) else (some ((0 : Int32), (mz_wi D 0 0 13 (2 : Int32)))))) else (some ((0 : Int32), (mz_wi D 0 0 13 (1 : Int32)))))))))
set_option maxHeartbeats 4000000 in
theorem mX11_pour (x1 : Int32) (x2 : Int32) (x3 : Int32) (x4 : Int32) (x5 : Int32) (D : mz_D) (r : (Int32 × mz_D)) (h : fX11_pour x1 x2 x3 x4 x5 D = some r) : mz_Met IX11_pour [.inr (.inr (some (0, 0))), .inl x1, .inl x2, .inl x3, .inl x4, .inl x5] D (some (.inl r.1), r.2) := by
  refine mz_Met.of (by decide +kernel) (Nat.le_of_ble_eq_true rfl) ?_
  show mz_Go IX11_pour (some (.inl r.1), r.2) 0 0 (0, [some (.inr (.inr (some (0, 0)))), some (.inl x1), some (.inl x2), some (.inl x3), some (.inl x4), some (.inl x5)], [], D)
  rw [fX11_pour] at h
  refine mz_Go.run (gs := [mz_kz 0 0 0]) (st' := (5, [some (.inr (.inr (some (0, 0)))), some (.inl x1), some (.inl x2), some (.inl x3), some (.inl x4), some (.inl x5)], [.inl x1, .inr (.inr (some (0, 4)))], D)) bX11_pour_0 oX11_pour_0 rfl ⟨rfl, trivial⟩ ?_
  refine mz_Go.callV (J := IX8_has) (as := [.inl x1]) (ci := 8) (g := 0) (o := 4) (idx := 77) (pl := 631) (rest := []) (mX8_has x1 D _ rfl) kX8_has vX8_has (by decide +kernel) (by decide +kernel) (by decide +kernel) rfl rfl ⟨rfl, rfl⟩ rfl rfl rfl rfl ?_
  refine mz_Go.run (gs := []) (st' := (if (fX8_has x1) = 0 then (36, [some (.inr (.inr (some (0, 0)))), some (.inl x1), some (.inl x2), some (.inl x3), some (.inl x4), some (.inl x5)], [], D) else (11, [some (.inr (.inr (some (0, 0)))), some (.inl x1), some (.inl x2), some (.inl x3), some (.inl x4), some (.inl x5)], [], D))) bX11_pour_8 oX11_pour_8 rfl trivial ?_
  refine mz_Go.ite (fun hc1 => ?_) (fun hc1 => ?_)
  · have h := mz_ifp hc1 h
    refine mz_Go.run (gs := []) (st' := (38, [some (.inr (.inr (some (0, 0)))), some (.inl x1), some (.inl x2), some (.inl x3), some (.inl x4), some (.inl x5)], [.inl (1 : Int32), .inr (.inr (some (0, 0)))], D)) bX11_pour_36 oX11_pour_36 rfl trivial ?_
    refine mz_Go.callV (J := IX11_deny) (as := [.inl (1 : Int32)]) (ci := 11) (g := 0) (o := 0) (idx := 81) (pl := 635) (rest := []) (mX11_deny (1 : Int32) D) kX11_deny vX11_deny (by decide +kernel) (by decide +kernel) (by decide +kernel) rfl rfl ⟨rfl, rfl⟩ rfl rfl rfl rfl ?_
    cases h
    exact mz_Go.retz (by decide +kernel) rfl ⟨Nat.le_refl _, Nat.le_refl _⟩ (by decide) rfl
  · have h := mz_ifn hc1 h
    refine mz_Go.run (gs := [mz_kz 0 0 0]) (st' := (16, [some (.inr (.inr (some (0, 0)))), some (.inl x1), some (.inl x2), some (.inl x3), some (.inl x4), some (.inl x5)], [.inl x3, .inr (.inr (some (0, 4)))], D)) bX11_pour_11 oX11_pour_11 rfl ⟨rfl, trivial⟩ ?_
    refine mz_Go.callV (J := IX8_has) (as := [.inl x3]) (ci := 8) (g := 0) (o := 4) (idx := 77) (pl := 631) (rest := []) (mX8_has x3 D _ rfl) kX8_has vX8_has (by decide +kernel) (by decide +kernel) (by decide +kernel) rfl rfl ⟨rfl, rfl⟩ rfl rfl rfl rfl ?_
    refine mz_Go.run (gs := []) (st' := (if (fX8_has x3) = 0 then (36, [some (.inr (.inr (some (0, 0)))), some (.inl x1), some (.inl x2), some (.inl x3), some (.inl x4), some (.inl x5)], [], D) else (22, [some (.inr (.inr (some (0, 0)))), some (.inl x1), some (.inl x2), some (.inl x3), some (.inl x4), some (.inl x5)], [], D))) bX11_pour_19 oX11_pour_19 rfl trivial ?_
    refine mz_Go.ite (fun hc2 => ?_) (fun hc2 => ?_)
    · have h := mz_ifp hc2 h
      refine mz_Go.run (gs := []) (st' := (38, [some (.inr (.inr (some (0, 0)))), some (.inl x1), some (.inl x2), some (.inl x3), some (.inl x4), some (.inl x5)], [.inl (1 : Int32), .inr (.inr (some (0, 0)))], D)) bX11_pour_36 oX11_pour_36 rfl trivial ?_
      refine mz_Go.callV (J := IX11_deny) (as := [.inl (1 : Int32)]) (ci := 11) (g := 0) (o := 0) (idx := 81) (pl := 635) (rest := []) (mX11_deny (1 : Int32) D) kX11_deny vX11_deny (by decide +kernel) (by decide +kernel) (by decide +kernel) rfl rfl ⟨rfl, rfl⟩ rfl rfl rfl rfl ?_
      cases h
      exact mz_Go.retz (by decide +kernel) rfl ⟨Nat.le_refl _, Nat.le_refl _⟩ (by decide) rfl
    · have h := mz_ifn hc2 h
      refine mz_Go.run (gs := []) (st' := (if x2 < 0 then (36, [some (.inr (.inr (some (0, 0)))), some (.inl x1), some (.inl x2), some (.inl x3), some (.inl x4), some (.inl x5)], [], D) else (26, [some (.inr (.inr (some (0, 0)))), some (.inl x1), some (.inl x2), some (.inl x3), some (.inl x4), some (.inl x5)], [], D))) bX11_pour_22 oX11_pour_22 rfl trivial ?_
      refine mz_Go.ite (fun hc3 => ?_) (fun hc3 => ?_)
      · have h := mz_ifp hc3 h
        refine mz_Go.run (gs := []) (st' := (38, [some (.inr (.inr (some (0, 0)))), some (.inl x1), some (.inl x2), some (.inl x3), some (.inl x4), some (.inl x5)], [.inl (1 : Int32), .inr (.inr (some (0, 0)))], D)) bX11_pour_36 oX11_pour_36 rfl trivial ?_
        refine mz_Go.callV (J := IX11_deny) (as := [.inl (1 : Int32)]) (ci := 11) (g := 0) (o := 0) (idx := 81) (pl := 635) (rest := []) (mX11_deny (1 : Int32) D) kX11_deny vX11_deny (by decide +kernel) (by decide +kernel) (by decide +kernel) rfl rfl ⟨rfl, rfl⟩ rfl rfl rfl rfl ?_
        cases h
        exact mz_Go.retz (by decide +kernel) rfl ⟨Nat.le_refl _, Nat.le_refl _⟩ (by decide) rfl
      · have h := mz_ifn hc3 h
        refine mz_Go.run (gs := []) (st' := (if x4 < 0 then (36, [some (.inr (.inr (some (0, 0)))), some (.inl x1), some (.inl x2), some (.inl x3), some (.inl x4), some (.inl x5)], [], D) else (31, [some (.inr (.inr (some (0, 0)))), some (.inl x1), some (.inl x2), some (.inl x3), some (.inl x4), some (.inl x5)], [], D))) bX11_pour_26 oX11_pour_26 rfl trivial ?_
        refine mz_Go.ite (fun hc4 => ?_) (fun hc4 => ?_)
        · have h := mz_ifp hc4 h
          refine mz_Go.run (gs := []) (st' := (38, [some (.inr (.inr (some (0, 0)))), some (.inl x1), some (.inl x2), some (.inl x3), some (.inl x4), some (.inl x5)], [.inl (1 : Int32), .inr (.inr (some (0, 0)))], D)) bX11_pour_36 oX11_pour_36 rfl trivial ?_
          refine mz_Go.callV (J := IX11_deny) (as := [.inl (1 : Int32)]) (ci := 11) (g := 0) (o := 0) (idx := 81) (pl := 635) (rest := []) (mX11_deny (1 : Int32) D) kX11_deny vX11_deny (by decide +kernel) (by decide +kernel) (by decide +kernel) rfl rfl ⟨rfl, rfl⟩ rfl rfl rfl rfl ?_
          cases h
          exact mz_Go.retz (by decide +kernel) rfl ⟨Nat.le_refl _, Nat.le_refl _⟩ (by decide) rfl
        · have h := mz_ifn hc4 h
          refine mz_Go.run (gs := []) (st' := (if 0 ≤ x5 then (42, [some (.inr (.inr (some (0, 0)))), some (.inl x1), some (.inl x2), some (.inl x3), some (.inl x4), some (.inl x5)], [], D) else (36, [some (.inr (.inr (some (0, 0)))), some (.inl x1), some (.inl x2), some (.inl x3), some (.inl x4), some (.inl x5)], [], D))) bX11_pour_31 oX11_pour_31 rfl trivial ?_
          refine mz_Go.ite (fun hc5 => ?_) (fun hc5 => ?_)
          · have h := mz_ifp hc5 h
            refine mz_Go.run (gs := [mz_kz 0 0 0]) (st' := (47, [some (.inr (.inr (some (0, 0)))), some (.inl x1), some (.inl x2), some (.inl x3), some (.inl x4), some (.inl x5)], [.inl x1, .inr (.inr (some (0, 4)))], D)) bX11_pour_42 oX11_pour_42 rfl ⟨rfl, trivial⟩ ?_
            obtain ⟨q6, hq6, h⟩ := mz_bd_some h
            refine mz_Go.callV (J := IX8_isMissing) (as := [.inl x1]) (ci := 8) (g := 0) (o := 4) (idx := 108) (pl := 655) (rest := []) (mX8_isMissing x1 D q6 hq6) kX8_isMissing vX8_isMissing (by decide +kernel) (by decide +kernel) (by decide +kernel) rfl rfl ⟨rfl, rfl⟩ rfl rfl rfl rfl ?_
            refine mz_Go.run (gs := []) (st' := (if q6 = 0 then (53, [some (.inr (.inr (some (0, 0)))), some (.inl x1), some (.inl x2), some (.inl x3), some (.inl x4), some (.inl x5)], [], D) else (64, [some (.inr (.inr (some (0, 0)))), some (.inl x1), some (.inl x2), some (.inl x3), some (.inl x4), some (.inl x5)], [], D))) bX11_pour_50 oX11_pour_50 rfl trivial ?_
            refine mz_Go.ite (fun hc7 => ?_) (fun hc7 => ?_)
            · have h := mz_ifp hc7 h
              refine mz_Go.run (gs := [mz_kz 0 0 0]) (st' := (58, [some (.inr (.inr (some (0, 0)))), some (.inl x1), some (.inl x2), some (.inl x3), some (.inl x4), some (.inl x5)], [.inl x3, .inr (.inr (some (0, 4)))], D)) bX11_pour_53 oX11_pour_53 rfl ⟨rfl, trivial⟩ ?_
              obtain ⟨q8, hq8, h⟩ := mz_bd_some h
              refine mz_Go.callV (J := IX8_isMissing) (as := [.inl x3]) (ci := 8) (g := 0) (o := 4) (idx := 108) (pl := 655) (rest := []) (mX8_isMissing x3 D q8 hq8) kX8_isMissing vX8_isMissing (by decide +kernel) (by decide +kernel) (by decide +kernel) rfl rfl ⟨rfl, rfl⟩ rfl rfl rfl rfl ?_
              refine mz_Go.run (gs := []) (st' := (if q8 = 0 then (70, [some (.inr (.inr (some (0, 0)))), some (.inl x1), some (.inl x2), some (.inl x3), some (.inl x4), some (.inl x5)], [], D) else (64, [some (.inr (.inr (some (0, 0)))), some (.inl x1), some (.inl x2), some (.inl x3), some (.inl x4), some (.inl x5)], [], D))) bX11_pour_61 oX11_pour_61 rfl trivial ?_
              refine mz_Go.ite (fun hc9 => ?_) (fun hc9 => ?_)
              · have h := mz_ifp hc9 h
                refine mz_Go.run (gs := [mz_kz 0 0 0]) (st' := (75, [some (.inr (.inr (some (0, 0)))), some (.inl x1), some (.inl x2), some (.inl x3), some (.inl x4), some (.inl x5)], [.inl x1, .inr (.inr (some (0, 4)))], D)) bX11_pour_70 oX11_pour_70 rfl ⟨rfl, trivial⟩ ?_
                obtain ⟨q10, hq10, h⟩ := mz_bd_some h
                refine mz_Go.callV (J := IX8_sortOf) (as := [.inl x1]) (ci := 8) (g := 0) (o := 4) (idx := 111) (pl := 686) (rest := []) (mX8_sortOf x1 D q10 hq10) kX8_sortOf vX8_sortOf (by decide +kernel) (by decide +kernel) (by decide +kernel) rfl rfl ⟨rfl, rfl⟩ rfl rfl rfl rfl ?_
                refine mz_Go.run (gs := [mz_kz 0 0 0]) (st' := (83, [some (.inr (.inr (some (0, 0)))), some (.inl x1), some (.inl x2), some (.inl x3), some (.inl x4), some (.inl x5)], [.inl x3, .inr (.inr (some (0, 4))), .inl q10], D)) bX11_pour_78 oX11_pour_78 rfl ⟨rfl, trivial⟩ ?_
                obtain ⟨q11, hq11, h⟩ := mz_bd_some h
                refine mz_Go.callV (J := IX8_sortOf) (as := [.inl x3]) (ci := 8) (g := 0) (o := 4) (idx := 111) (pl := 686) (rest := [.inl q10]) (mX8_sortOf x3 D q11 hq11) kX8_sortOf vX8_sortOf (by decide +kernel) (by decide +kernel) (by decide +kernel) rfl rfl ⟨rfl, rfl⟩ rfl rfl rfl rfl ?_
                refine mz_Go.run (gs := []) (st' := (if q10 = q11 then (96, [some (.inr (.inr (some (0, 0)))), some (.inl x1), some (.inl x2), some (.inl x3), some (.inl x4), some (.inl x5)], [], D) else (89, [some (.inr (.inr (some (0, 0)))), some (.inl x1), some (.inl x2), some (.inl x3), some (.inl x4), some (.inl x5)], [], D))) bX11_pour_86 oX11_pour_86 rfl trivial ?_
                refine mz_Go.ite (fun hc12 => ?_) (fun hc12 => ?_)
                · have h := mz_ifp hc12 h
                  refine mz_Go.run (gs := [mz_kz 0 0 0]) (st' := (104, [some (.inr (.inr (some (0, 0)))), some (.inl x1), some (.inl x2), some (.inl x3), some (.inl x4), some (.inl x5)], [.inl x5, .inl x2, .inl x1, .inr (.inr (some (0, 4)))], D)) bX11_pour_96 oX11_pour_96 rfl ⟨rfl, trivial⟩ ?_
                  obtain ⟨q13, hq13, h⟩ := mz_bd_some h
                  refine mz_Go.callV (J := IX8_holds) (as := [.inl x1, .inl x2, .inl x5]) (ci := 8) (g := 0) (o := 4) (idx := 114) (pl := 659) (rest := []) (mX8_holds x1 x2 x5 D q13 hq13) kX8_holds vX8_holds (by decide +kernel) (by decide +kernel) (by decide +kernel) rfl rfl ⟨rfl, rfl⟩ rfl rfl rfl rfl ?_
                  refine mz_Go.run (gs := []) (st' := (if q13 = 0 then (125, [some (.inr (.inr (some (0, 0)))), some (.inl x1), some (.inl x2), some (.inl x3), some (.inl x4), some (.inl x5)], [], D) else (110, [some (.inr (.inr (some (0, 0)))), some (.inl x1), some (.inl x2), some (.inl x3), some (.inl x4), some (.inl x5)], [], D))) bX11_pour_107 oX11_pour_107 rfl trivial ?_
                  refine mz_Go.ite (fun hc14 => ?_) (fun hc14 => ?_)
                  · have h := mz_ifp hc14 h
                    refine mz_Go.run (gs := []) (st' := (127, [some (.inr (.inr (some (0, 0)))), some (.inl x1), some (.inl x2), some (.inl x3), some (.inl x4), some (.inl x5)], [.inl (3 : Int32), .inr (.inr (some (0, 0)))], D)) bX11_pour_125 oX11_pour_125 rfl trivial ?_
                    refine mz_Go.callV (J := IX11_deny) (as := [.inl (3 : Int32)]) (ci := 11) (g := 0) (o := 0) (idx := 81) (pl := 635) (rest := []) (mX11_deny (3 : Int32) D) kX11_deny vX11_deny (by decide +kernel) (by decide +kernel) (by decide +kernel) rfl rfl ⟨rfl, rfl⟩ rfl rfl rfl rfl ?_
                    cases h
                    exact mz_Go.retz (by decide +kernel) rfl ⟨Nat.le_refl _, Nat.le_refl _⟩ (by decide) rfl
                  · have h := mz_ifn hc14 h
                    refine mz_Go.run (gs := [mz_kz 0 0 0]) (st' := (119, [some (.inr (.inr (some (0, 0)))), some (.inl x1), some (.inl x2), some (.inl x3), some (.inl x4), some (.inl x5)], [.inl x5, .inl x4, .inl x3, .inr (.inr (some (0, 4)))], D)) bX11_pour_110 oX11_pour_110 rfl ⟨rfl, trivial⟩ ?_
                    obtain ⟨q15, hq15, h⟩ := mz_bd_some h
                    refine mz_Go.callV (J := IX8_holds) (as := [.inl x3, .inl x4, .inl x5]) (ci := 8) (g := 0) (o := 4) (idx := 114) (pl := 659) (rest := []) (mX8_holds x3 x4 x5 D q15 hq15) kX8_holds vX8_holds (by decide +kernel) (by decide +kernel) (by decide +kernel) rfl rfl ⟨rfl, rfl⟩ rfl rfl rfl rfl ?_
                    refine mz_Go.run (gs := []) (st' := (if q15 = 0 then (125, [some (.inr (.inr (some (0, 0)))), some (.inl x1), some (.inl x2), some (.inl x3), some (.inl x4), some (.inl x5)], [], D) else (131, [some (.inr (.inr (some (0, 0)))), some (.inl x1), some (.inl x2), some (.inl x3), some (.inl x4), some (.inl x5)], [], D))) bX11_pour_122 oX11_pour_122 rfl trivial ?_
                    refine mz_Go.ite (fun hc16 => ?_) (fun hc16 => ?_)
                    · have h := mz_ifp hc16 h
                      refine mz_Go.run (gs := []) (st' := (127, [some (.inr (.inr (some (0, 0)))), some (.inl x1), some (.inl x2), some (.inl x3), some (.inl x4), some (.inl x5)], [.inl (3 : Int32), .inr (.inr (some (0, 0)))], D)) bX11_pour_125 oX11_pour_125 rfl trivial ?_
                      refine mz_Go.callV (J := IX11_deny) (as := [.inl (3 : Int32)]) (ci := 11) (g := 0) (o := 0) (idx := 81) (pl := 635) (rest := []) (mX11_deny (3 : Int32) D) kX11_deny vX11_deny (by decide +kernel) (by decide +kernel) (by decide +kernel) rfl rfl ⟨rfl, rfl⟩ rfl rfl rfl rfl ?_
                      cases h
                      exact mz_Go.retz (by decide +kernel) rfl ⟨Nat.le_refl _, Nat.le_refl _⟩ (by decide) rfl
                    · have h := mz_ifn hc16 h
                      refine mz_Go.run (gs := [mz_kz 0 0 0]) (st' := (142, [some (.inr (.inr (some (0, 0)))), some (.inl x1), some (.inl x2), some (.inl x3), some (.inl x4), some (.inl x5)], [.inl x5, .inl x4, .inl x3, .inl x2, .inl x1, .inr (.inr (some (0, 4)))], D)) bX11_pour_131 oX11_pour_131 rfl ⟨rfl, trivial⟩ ?_
                      obtain ⟨q17, hq17, h⟩ := mz_bd_some h
                      refine mz_Go.callV (J := IX8_move) (as := [.inl x1, .inl x2, .inl x3, .inl x4, .inl x5]) (ci := 8) (g := 0) (o := 4) (idx := 118) (pl := 690) (rest := []) (mX8_move x1 x2 x3 x4 x5 D q17 hq17) kX8_move vX8_move (by decide +kernel) (by decide +kernel) (by decide +kernel) rfl rfl ⟨rfl, rfl⟩ rfl rfl rfl rfl ?_
                      refine mz_Go.run (gs := []) (st' := (146, [some (.inr (.inr (some (0, 0)))), some (.inl x1), some (.inl x2), some (.inl x3), some (.inl x4), some (.inl x5)], [.inr (.inr (some (0, 0)))], q17)) bX11_pour_145 oX11_pour_145 rfl trivial ?_
                      refine mz_Go.callV (J := IX11_grant) (as := []) (ci := 11) (g := 0) (o := 0) (idx := 88) (pl := 643) (rest := []) (mX11_grant q17) kX11_grant vX11_grant (by decide +kernel) (by decide +kernel) (by decide +kernel) rfl rfl ⟨rfl, rfl⟩ rfl rfl rfl rfl ?_
                      cases h
                      exact mz_Go.retz (by decide +kernel) rfl ⟨Nat.le_refl _, Nat.le_refl _⟩ (by decide) rfl
                · have h := mz_ifn hc12 h
                  refine mz_Go.run (gs := []) (st' := (92, [some (.inr (.inr (some (0, 0)))), some (.inl x1), some (.inl x2), some (.inl x3), some (.inl x4), some (.inl x5)], [.inl (8 : Int32), .inr (.inr (some (0, 0)))], D)) bX11_pour_89 oX11_pour_89 rfl trivial ?_
                  refine mz_Go.callV (J := IX11_deny) (as := [.inl (8 : Int32)]) (ci := 11) (g := 0) (o := 0) (idx := 81) (pl := 635) (rest := []) (mX11_deny (8 : Int32) D) kX11_deny vX11_deny (by decide +kernel) (by decide +kernel) (by decide +kernel) rfl rfl ⟨rfl, rfl⟩ rfl rfl rfl rfl ?_
                  cases h
                  exact mz_Go.retz (by decide +kernel) rfl ⟨Nat.le_refl _, Nat.le_refl _⟩ (by decide) rfl
              · have h := mz_ifn hc9 h
                refine mz_Go.run (gs := []) (st' := (66, [some (.inr (.inr (some (0, 0)))), some (.inl x1), some (.inl x2), some (.inl x3), some (.inl x4), some (.inl x5)], [.inl (2 : Int32), .inr (.inr (some (0, 0)))], D)) bX11_pour_64 oX11_pour_64 rfl trivial ?_
                refine mz_Go.callV (J := IX11_deny) (as := [.inl (2 : Int32)]) (ci := 11) (g := 0) (o := 0) (idx := 81) (pl := 635) (rest := []) (mX11_deny (2 : Int32) D) kX11_deny vX11_deny (by decide +kernel) (by decide +kernel) (by decide +kernel) rfl rfl ⟨rfl, rfl⟩ rfl rfl rfl rfl ?_
                cases h
                exact mz_Go.retz (by decide +kernel) rfl ⟨Nat.le_refl _, Nat.le_refl _⟩ (by decide) rfl
            · have h := mz_ifn hc7 h
              refine mz_Go.run (gs := []) (st' := (66, [some (.inr (.inr (some (0, 0)))), some (.inl x1), some (.inl x2), some (.inl x3), some (.inl x4), some (.inl x5)], [.inl (2 : Int32), .inr (.inr (some (0, 0)))], D)) bX11_pour_64 oX11_pour_64 rfl trivial ?_
              refine mz_Go.callV (J := IX11_deny) (as := [.inl (2 : Int32)]) (ci := 11) (g := 0) (o := 0) (idx := 81) (pl := 635) (rest := []) (mX11_deny (2 : Int32) D) kX11_deny vX11_deny (by decide +kernel) (by decide +kernel) (by decide +kernel) rfl rfl ⟨rfl, rfl⟩ rfl rfl rfl rfl ?_
              cases h
              exact mz_Go.retz (by decide +kernel) rfl ⟨Nat.le_refl _, Nat.le_refl _⟩ (by decide) rfl
          · have h := mz_ifn hc5 h
            refine mz_Go.run (gs := []) (st' := (38, [some (.inr (.inr (some (0, 0)))), some (.inl x1), some (.inl x2), some (.inl x3), some (.inl x4), some (.inl x5)], [.inl (1 : Int32), .inr (.inr (some (0, 0)))], D)) bX11_pour_36 oX11_pour_36 rfl trivial ?_
            refine mz_Go.callV (J := IX11_deny) (as := [.inl (1 : Int32)]) (ci := 11) (g := 0) (o := 0) (idx := 81) (pl := 635) (rest := []) (mX11_deny (1 : Int32) D) kX11_deny vX11_deny (by decide +kernel) (by decide +kernel) (by decide +kernel) rfl rfl ⟨rfl, rfl⟩ rfl rfl rfl rfl ?_
            cases h
            exact mz_Go.retz (by decide +kernel) rfl ⟨Nat.le_refl _, Nat.le_refl _⟩ (by decide) rfl
def bX11_tapeInt_0 : List mz_E := [(0, .bipush 24, 0, 0, 0, 24, 0), (2, .istore_n 2, 0, 0, 0, 0, 0)]
theorem oX11_tapeInt_0 : bX11_tapeInt_0.all (mz_ok RX11 cX11_tapeInt 3) = true := by decide +kernel
def bX11_tapeInt_3 : List mz_E := [(3, .iload_n 2, 0, 0, 0, 0, 0), (4, .ifCond .lt 42, 0, 46, 0, 0, 0)]
theorem oX11_tapeInt_3 : bX11_tapeInt_3.all (mz_ok RX11 cX11_tapeInt 3) = true := by decide +kernel
def bX11_tapeInt_7 : List mz_E := [(7, .aload_n 0, 0, 0, 0, 0, 0), (8, .getfield 122, 11, 1, 561, 0, 0), (11, .sipush 900, 0, 0, 0, 900, 0), (14, .if_icmp .ge 32, 0, 46, 0, 0, 0)]
theorem oX11_tapeInt_7 : bX11_tapeInt_7.all (mz_ok RX11 cX11_tapeInt 3) = true := by decide +kernel
def bX11_tapeInt_17 : List mz_E := [(17, .aload_n 0, 0, 0, 0, 0, 0), (18, .getfield 9, 11, 0, 560, 0, 0), (21, .aload_n 0, 0, 0, 0, 0, 0), (22, .getfield 122, 11, 1, 561, 0, 0), (25, .iload_n 1, 0, 0, 0, 0, 0), (26, .iload_n 2, 0, 0, 0, 0, 0), (27, .ishr, 0, 0, 0, 0, 0), (28, .i2b, 0, 0, 0, 0, 0), (29, .bastore, 0, 0, 0, 0, 0), (30, .aload_n 0, 0, 0, 0, 0, 0), (31, .dup, 0, 0, 0, 0, 0), (32, .getfield 122, 11, 1, 561, 0, 0), (35, .iconst 1, 0, 0, 0, 1, 0), (36, .iadd, 0, 0, 0, 0, 0), (37, .putfield 122, 11, 1, 561, 0, 0), (40, .iinc 2 (-8), 0, 0, 0, -8, 0), (43, .goto (-40), 0, 3, 0, 0, 0)]
theorem oX11_tapeInt_17 : bX11_tapeInt_17.all (mz_ok RX11 cX11_tapeInt 3) = true := by decide +kernel
abbrev IX11_tapeInt : mz_I := (yX11_tapeInt, cX11_tapeInt, 3, none, 0, 0, 0, 0)
theorem kX11_tapeInt : mz_okm IX11_tapeInt 704 127 703 1 = true := by decide +kernel
theorem vX11_tapeInt : mz_okV IX11_tapeInt 703 4 = true := by decide +kernel
def fX11_tapeInt_3 : Nat → Int32 → Int32 → mz_D → Option mz_D
  | 0 => fun _ _ _ => none
  | n + 1 => fun x1 x2 D => (if x2 < 0 then (some D) else (if (900 : Int32) ≤ (D.1 0 0 1) then (some D) else (mz_gd (mz_ix (D.1 0 0 1) 900) ((fX11_tapeInt_3 n) x1 (x2 + (-8 : Int32)) (mz_wi (mz_wi D 0 1 ((D.1 0 0 1)).toNatClampNeg (((x1 >>> (x2 &&& 31))).toInt8.toInt32).toInt8.toInt32) 0 0 1 ((D.1 0 0 1) + (1 : Int32)))))))
set_option maxHeartbeats 4000000 in
theorem tX11_tapeInt_3 (r : mz_D) : ∀ (n : Nat) (x1 : Int32) (x2 : Int32) (D : mz_D), fX11_tapeInt_3 n x1 x2 D = some r → mz_Go IX11_tapeInt (none, r) 0 0 (3, [some (.inr (.inr (some (0, 0)))), some (.inl x1), some (.inl x2)], [], D) := by
  intro n
  induction n with
  | zero => intro x1 x2 D h; have h : (none : Option mz_D) = some r := h; cases h
  | succ n ih =>
    intro x1 x2 D h
    rw [fX11_tapeInt_3] at h
    refine mz_Go.run (gs := []) (st' := (if x2 < 0 then (46, [some (.inr (.inr (some (0, 0)))), some (.inl x1), some (.inl x2)], [], D) else (7, [some (.inr (.inr (some (0, 0)))), some (.inl x1), some (.inl x2)], [], D))) bX11_tapeInt_3 oX11_tapeInt_3 rfl trivial ?_
    refine mz_Go.ite (fun hc1 => ?_) (fun hc1 => ?_)
    · have h := mz_ifp hc1 h
      cases h
      exact mz_Go.retv (by decide +kernel) rfl ⟨Nat.le_refl _, Nat.le_refl _⟩ rfl
    · have h := mz_ifn hc1 h
      refine mz_Go.run (gs := [mz_kz 0 0 0]) (st' := (if (900 : Int32) ≤ (D.1 0 0 1) then (46, [some (.inr (.inr (some (0, 0)))), some (.inl x1), some (.inl x2)], [], D) else (17, [some (.inr (.inr (some (0, 0)))), some (.inl x1), some (.inl x2)], [], D))) bX11_tapeInt_7 oX11_tapeInt_7 rfl ⟨rfl, trivial⟩ ?_
      refine mz_Go.ite (fun hc2 => ?_) (fun hc2 => ?_)
      · have h := mz_ifp hc2 h
        cases h
        exact mz_Go.retv (by decide +kernel) rfl ⟨Nat.le_refl _, Nat.le_refl _⟩ rfl
      · have h := mz_ifn hc2 h
        obtain ⟨hb3, h⟩ := mz_gd_some h
        refine mz_Go.run (gs := [mz_kz 0 0 0, mz_kz 0 0 0, mz_kz 0 0 1, mz_ix (D.1 0 0 1) 900, mz_kz 0 0 0, mz_kz 0 0 0]) (st' := (3, [some (.inr (.inr (some (0, 0)))), some (.inl x1), some (.inl (x2 + (-8 : Int32)))], [], (mz_wi (mz_wi D 0 1 ((D.1 0 0 1)).toNatClampNeg (((x1 >>> (x2 &&& 31))).toInt8.toInt32).toInt8.toInt32) 0 0 1 ((D.1 0 0 1) + (1 : Int32))))) bX11_tapeInt_17 oX11_tapeInt_17 rfl ⟨rfl, rfl, rfl, hb3, rfl, rfl, trivial⟩ ?_
        exact mz_Go.drop [true, true, true] (ih x1 (x2 + (-8 : Int32)) (mz_wi (mz_wi D 0 1 ((D.1 0 0 1)).toNatClampNeg (((x1 >>> (x2 &&& 31))).toInt8.toInt32).toInt8.toInt32) 0 0 1 ((D.1 0 0 1) + (1 : Int32))) h)
def fX11_tapeInt (x1 : Int32) (D : mz_D) : Option mz_D := (fX11_tapeInt_3 mz_N x1 (24 : Int32) D)
set_option maxHeartbeats 4000000 in
theorem mX11_tapeInt (x1 : Int32) (D : mz_D) (r : mz_D) (h : fX11_tapeInt x1 D = some r) : mz_Met IX11_tapeInt [.inr (.inr (some (0, 0))), .inl x1] D (none, r) := by
  refine mz_Met.of (by decide +kernel) (Nat.le_of_ble_eq_true rfl) ?_
  show mz_Go IX11_tapeInt (none, r) 0 0 (0, [some (.inr (.inr (some (0, 0)))), some (.inl x1), none], [], D)
  rw [fX11_tapeInt] at h
  refine mz_Go.run (gs := []) (st' := (3, [some (.inr (.inr (some (0, 0)))), some (.inl x1), some (.inl (24 : Int32))], [], D)) bX11_tapeInt_0 oX11_tapeInt_0 rfl trivial ?_
  exact mz_Go.drop [true, true, true] (tX11_tapeInt_3 r mz_N x1 (24 : Int32) D h)
def bX11_feed_0 : List mz_E := [(0, .aload_n 0, 0, 0, 0, 0, 0), (1, .getfield 122, 11, 1, 561, 0, 0), (4, .bipush 20, 0, 0, 0, 20, 0), (6, .iadd, 0, 0, 0, 0, 0), (7, .sipush 900, 0, 0, 0, 900, 0), (10, .if_icmp .le 5, 0, 15, 0, 0, 0)]
theorem oX11_feed_0 : bX11_feed_0.all (mz_ok RX11 cX11_feed 6) = true := by decide +kernel
def bX11_feed_15 : List mz_E := [(15, .aload_n 0, 0, 0, 0, 0, 0), (16, .iload_n 1, 0, 0, 0, 0, 0)]
theorem oX11_feed_15 : bX11_feed_15.all (mz_ok RX11 cX11_feed 6) = true := by decide +kernel
def bX11_feed_20 : List mz_E := [(20, .aload_n 0, 0, 0, 0, 0, 0), (21, .iload_n 2, 0, 0, 0, 0, 0)]
theorem oX11_feed_20 : bX11_feed_20.all (mz_ok RX11 cX11_feed 6) = true := by decide +kernel
def bX11_feed_25 : List mz_E := [(25, .aload_n 0, 0, 0, 0, 0, 0), (26, .iload_n 3, 0, 0, 0, 0, 0)]
theorem oX11_feed_25 : bX11_feed_25.all (mz_ok RX11 cX11_feed 6) = true := by decide +kernel
def bX11_feed_30 : List mz_E := [(30, .aload_n 0, 0, 0, 0, 0, 0), (31, .iload 4, 0, 0, 0, 0, 0)]
theorem oX11_feed_30 : bX11_feed_30.all (mz_ok RX11 cX11_feed 6) = true := by decide +kernel
def bX11_feed_36 : List mz_E := [(36, .aload_n 0, 0, 0, 0, 0, 0), (37, .iload 5, 0, 0, 0, 0, 0)]
theorem oX11_feed_36 : bX11_feed_36.all (mz_ok RX11 cX11_feed 6) = true := by decide +kernel
def bX11_feed_42 : List mz_E := [(42, .aload_n 0, 0, 0, 0, 0, 0), (43, .getfield 122, 11, 1, 561, 0, 0)]
theorem oX11_feed_42 : bX11_feed_42.all (mz_ok RX11 cX11_feed 6) = true := by decide +kernel
def bX11_feed_13 : List mz_E := [(13, .iconst (-1), 0, 0, 0, -1, 0)]
theorem oX11_feed_13 : bX11_feed_13.all (mz_ok RX11 cX11_feed 6) = true := by decide +kernel
abbrev IX11_feed : mz_I := (yX11_feed, cX11_feed, 6, (some .int), 0, 1, 0, 0)
theorem kX11_feed : mz_okm IX11_feed 700 127 698 5 = true := by decide +kernel
theorem vX11_feed : mz_okV IX11_feed 698 699 = true := by decide +kernel
def fX11_feed (x1 : Int32) (x2 : Int32) (x3 : Int32) (x4 : Int32) (x5 : Int32) (D : mz_D) : Option (Int32 × mz_D) := (if ((D.1 0 0 1) + (20 : Int32)) ≤ (900 : Int32) then (Option.bind (fX11_tapeInt x1 D) fun q2 => (Option.bind (fX11_tapeInt x2 q2) fun q3 => (Option.bind (fX11_tapeInt x3 q3) fun q4 => (Option.bind (fX11_tapeInt x4 q4) fun q5 => (Option.bind (fX11_tapeInt x5 q5) fun q6 => (some ((q6.1 0 0 1), q6))))))) else (some ((-1 : Int32), D)))
set_option maxHeartbeats 4000000 in
theorem mX11_feed (x1 : Int32) (x2 : Int32) (x3 : Int32) (x4 : Int32) (x5 : Int32) (D : mz_D) (r : (Int32 × mz_D)) (h : fX11_feed x1 x2 x3 x4 x5 D = some r) : mz_Met IX11_feed [.inr (.inr (some (0, 0))), .inl x1, .inl x2, .inl x3, .inl x4, .inl x5] D (some (.inl r.1), r.2) := by
  refine mz_Met.of (by decide +kernel) (Nat.le_of_ble_eq_true rfl) ?_
  show mz_Go IX11_feed (some (.inl r.1), r.2) 0 0 (0, [some (.inr (.inr (some (0, 0)))), some (.inl x1), some (.inl x2), some (.inl x3), some (.inl x4), some (.inl x5)], [], D)
  rw [fX11_feed] at h
  refine mz_Go.run (gs := [mz_kz 0 0 0]) (st' := (if ((D.1 0 0 1) + (20 : Int32)) ≤ (900 : Int32) then (15, [some (.inr (.inr (some (0, 0)))), some (.inl x1), some (.inl x2), some (.inl x3), some (.inl x4), some (.inl x5)], [], D) else (13, [some (.inr (.inr (some (0, 0)))), some (.inl x1), some (.inl x2), some (.inl x3), some (.inl x4), some (.inl x5)], [], D))) bX11_feed_0 oX11_feed_0 rfl ⟨rfl, trivial⟩ ?_
  refine mz_Go.ite (fun hc1 => ?_) (fun hc1 => ?_)
  · have h := mz_ifp hc1 h
    refine mz_Go.run (gs := []) (st' := (17, [some (.inr (.inr (some (0, 0)))), some (.inl x1), some (.inl x2), some (.inl x3), some (.inl x4), some (.inl x5)], [.inl x1, .inr (.inr (some (0, 0)))], D)) bX11_feed_15 oX11_feed_15 rfl trivial ?_
    obtain ⟨q2, hq2, h⟩ := mz_bd_some h
    refine mz_Go.callV (J := IX11_tapeInt) (as := [.inl x1]) (ci := 11) (g := 0) (o := 0) (idx := 125) (pl := 701) (rest := []) (mX11_tapeInt x1 D q2 hq2) kX11_tapeInt vX11_tapeInt (by decide +kernel) (by decide +kernel) (by decide +kernel) rfl rfl ⟨rfl, rfl⟩ rfl rfl rfl rfl ?_
    refine mz_Go.run (gs := []) (st' := (22, [some (.inr (.inr (some (0, 0)))), some (.inl x1), some (.inl x2), some (.inl x3), some (.inl x4), some (.inl x5)], [.inl x2, .inr (.inr (some (0, 0)))], q2)) bX11_feed_20 oX11_feed_20 rfl trivial ?_
    obtain ⟨q3, hq3, h⟩ := mz_bd_some h
    refine mz_Go.callV (J := IX11_tapeInt) (as := [.inl x2]) (ci := 11) (g := 0) (o := 0) (idx := 125) (pl := 701) (rest := []) (mX11_tapeInt x2 q2 q3 hq3) kX11_tapeInt vX11_tapeInt (by decide +kernel) (by decide +kernel) (by decide +kernel) rfl rfl ⟨rfl, rfl⟩ rfl rfl rfl rfl ?_
    refine mz_Go.run (gs := []) (st' := (27, [some (.inr (.inr (some (0, 0)))), some (.inl x1), some (.inl x2), some (.inl x3), some (.inl x4), some (.inl x5)], [.inl x3, .inr (.inr (some (0, 0)))], q3)) bX11_feed_25 oX11_feed_25 rfl trivial ?_
    obtain ⟨q4, hq4, h⟩ := mz_bd_some h
    refine mz_Go.callV (J := IX11_tapeInt) (as := [.inl x3]) (ci := 11) (g := 0) (o := 0) (idx := 125) (pl := 701) (rest := []) (mX11_tapeInt x3 q3 q4 hq4) kX11_tapeInt vX11_tapeInt (by decide +kernel) (by decide +kernel) (by decide +kernel) rfl rfl ⟨rfl, rfl⟩ rfl rfl rfl rfl ?_
    refine mz_Go.run (gs := []) (st' := (33, [some (.inr (.inr (some (0, 0)))), some (.inl x1), some (.inl x2), some (.inl x3), some (.inl x4), some (.inl x5)], [.inl x4, .inr (.inr (some (0, 0)))], q4)) bX11_feed_30 oX11_feed_30 rfl trivial ?_
    obtain ⟨q5, hq5, h⟩ := mz_bd_some h
    refine mz_Go.callV (J := IX11_tapeInt) (as := [.inl x4]) (ci := 11) (g := 0) (o := 0) (idx := 125) (pl := 701) (rest := []) (mX11_tapeInt x4 q4 q5 hq5) kX11_tapeInt vX11_tapeInt (by decide +kernel) (by decide +kernel) (by decide +kernel) rfl rfl ⟨rfl, rfl⟩ rfl rfl rfl rfl ?_
    refine mz_Go.run (gs := []) (st' := (39, [some (.inr (.inr (some (0, 0)))), some (.inl x1), some (.inl x2), some (.inl x3), some (.inl x4), some (.inl x5)], [.inl x5, .inr (.inr (some (0, 0)))], q5)) bX11_feed_36 oX11_feed_36 rfl trivial ?_
    obtain ⟨q6, hq6, h⟩ := mz_bd_some h
    refine mz_Go.callV (J := IX11_tapeInt) (as := [.inl x5]) (ci := 11) (g := 0) (o := 0) (idx := 125) (pl := 701) (rest := []) (mX11_tapeInt x5 q5 q6 hq6) kX11_tapeInt vX11_tapeInt (by decide +kernel) (by decide +kernel) (by decide +kernel) rfl rfl ⟨rfl, rfl⟩ rfl rfl rfl rfl ?_
    refine mz_Go.run (gs := [mz_kz 0 0 0]) (st' := (46, [some (.inr (.inr (some (0, 0)))), some (.inl x1), some (.inl x2), some (.inl x3), some (.inl x4), some (.inl x5)], [.inl (q6.1 0 0 1)], q6)) bX11_feed_42 oX11_feed_42 rfl ⟨rfl, trivial⟩ ?_
    cases h
    exact mz_Go.reti (by decide +kernel) rfl ⟨Nat.le_refl _, Nat.le_refl _⟩ rfl
  · have h := mz_ifn hc1 h
    refine mz_Go.run (gs := []) (st' := (14, [some (.inr (.inr (some (0, 0)))), some (.inl x1), some (.inl x2), some (.inl x3), some (.inl x4), some (.inl x5)], [.inl (-1 : Int32)], D)) bX11_feed_13 oX11_feed_13 rfl trivial ?_
    cases h
    exact mz_Go.reti (by decide +kernel) rfl ⟨Nat.le_refl _, Nat.le_refl _⟩ rfl
def bX11_fault_0 : List mz_E := [(0, .iload_n 1, 0, 0, 0, 0, 0), (1, .ifCond .ne 8, 0, 9, 0, 0, 0)]
theorem oX11_fault_0 : bX11_fault_0.all (mz_ok RX11 cX11_fault 2) = true := by decide +kernel
def bX11_fault_4 : List mz_E := [(4, .aload_n 0, 0, 0, 0, 0, 0), (5, .getfield 64, 11, 16, 576, 0, 0)]
theorem oX11_fault_4 : bX11_fault_4.all (mz_ok RX11 cX11_fault 2) = true := by decide +kernel
def bX11_fault_9 : List mz_E := [(9, .iload_n 1, 0, 0, 0, 0, 0), (10, .iconst 1, 0, 0, 0, 1, 0), (11, .if_icmp .ne 10, 0, 21, 0, 0, 0)]
theorem oX11_fault_9 : bX11_fault_9.all (mz_ok RX11 cX11_fault 2) = true := by decide +kernel
def bX11_fault_14 : List mz_E := [(14, .aload_n 0, 0, 0, 0, 0, 0), (15, .getfield 68, 11, 17, 577, 0, 0), (18, .goto 4, 0, 22, 0, 0, 0)]
theorem oX11_fault_14 : bX11_fault_14.all (mz_ok RX11 cX11_fault 2) = true := by decide +kernel
def bX11_fault_21 : List mz_E := [(21, .iconst (-1), 0, 0, 0, -1, 0)]
theorem oX11_fault_21 : bX11_fault_21.all (mz_ok RX11 cX11_fault 2) = true := by decide +kernel
abbrev IX11_fault : mz_I := (yX11_fault, cX11_fault, 2, (some .int), 0, 0, 0, 0)
theorem kX11_fault : mz_okm IX11_fault 1015 127 1013 1 = true := by decide +kernel
theorem vX11_fault : mz_okV IX11_fault 1013 1014 = true := by decide +kernel
def fX11_fault (x1 : Int32) (D : mz_D) : Int32 := (if x1 = 0 then (D.1 0 0 16) else (if x1 = (1 : Int32) then (D.1 0 0 17) else (-1 : Int32)))
set_option maxHeartbeats 4000000 in
theorem mX11_fault (x1 : Int32) (D : mz_D) (r : Int32) (h : fX11_fault x1 D = r) : mz_Met IX11_fault [.inr (.inr (some (0, 0))), .inl x1] D (some (.inl r), D) := by
  refine mz_Met.of (by decide +kernel) (Nat.le_of_ble_eq_true rfl) ?_
  show mz_Go IX11_fault (some (.inl r), D) 0 0 (0, [some (.inr (.inr (some (0, 0)))), some (.inl x1)], [], D)
  rw [fX11_fault] at h
  refine mz_Go.run (gs := []) (st' := (if x1 = 0 then (4, [some (.inr (.inr (some (0, 0)))), some (.inl x1)], [], D) else (9, [some (.inr (.inr (some (0, 0)))), some (.inl x1)], [], D))) bX11_fault_0 oX11_fault_0 rfl trivial ?_
  refine mz_Go.ite (fun hc1 => ?_) (fun hc1 => ?_)
  · have h := mz_ifp hc1 h
    refine mz_Go.run (gs := [mz_kz 0 0 0]) (st' := (8, [some (.inr (.inr (some (0, 0)))), some (.inl x1)], [.inl (D.1 0 0 16)], D)) bX11_fault_4 oX11_fault_4 rfl ⟨rfl, trivial⟩ ?_
    subst h
    exact mz_Go.reti (by decide +kernel) rfl ⟨Nat.le_refl _, Nat.le_refl _⟩ rfl
  · have h := mz_ifn hc1 h
    refine mz_Go.run (gs := []) (st' := (if x1 = (1 : Int32) then (14, [some (.inr (.inr (some (0, 0)))), some (.inl x1)], [], D) else (21, [some (.inr (.inr (some (0, 0)))), some (.inl x1)], [], D))) bX11_fault_9 oX11_fault_9 rfl trivial ?_
    refine mz_Go.ite (fun hc2 => ?_) (fun hc2 => ?_)
    · have h := mz_ifp hc2 h
      refine mz_Go.run (gs := [mz_kz 0 0 0]) (st' := (22, [some (.inr (.inr (some (0, 0)))), some (.inl x1)], [.inl (D.1 0 0 17)], D)) bX11_fault_14 oX11_fault_14 rfl ⟨rfl, trivial⟩ ?_
      subst h
      exact mz_Go.reti (by decide +kernel) rfl ⟨Nat.le_refl _, Nat.le_refl _⟩ rfl
    · have h := mz_ifn hc2 h
      refine mz_Go.run (gs := []) (st' := (22, [some (.inr (.inr (some (0, 0)))), some (.inl x1)], [.inl (-1 : Int32)], D)) bX11_fault_21 oX11_fault_21 rfl trivial ?_
      subst h
      exact mz_Go.reti (by decide +kernel) rfl ⟨Nat.le_refl _, Nat.le_refl _⟩ rfl
def bX11_answer_0 : List mz_E := [(0, .aload_n 0, 0, 0, 0, 0, 0), (1, .iconst 0, 0, 0, 0, 0, 0), (2, .putfield 71, 11, 13, 573, 0, 0), (5, .iload_n 1, 0, 0, 0, 0, 0)]
theorem oX11_answer_0 : bX11_answer_0.all (mz_ok RX11 cX11_answer 2) = true := by decide +kernel
abbrev IX11_answer : mz_I := (yX11_answer, cX11_answer, 2, (some .int), 0, 0, 0, 0)
theorem kX11_answer : mz_okm IX11_answer 918 127 917 1 = true := by decide +kernel
theorem vX11_answer : mz_okV IX11_answer 917 15 = true := by decide +kernel
theorem mX11_answer (x1 : Int32) (D : mz_D) : mz_Met IX11_answer [.inr (.inr (some (0, 0))), .inl x1] D (some (.inl x1), (mz_wi D 0 0 13 (0 : Int32))) := by
  refine mz_Met.of (by decide +kernel) (Nat.le_of_ble_eq_true rfl) ?_
  show mz_Go IX11_answer (some (.inl x1), (mz_wi D 0 0 13 (0 : Int32))) 0 0 (0, [some (.inr (.inr (some (0, 0)))), some (.inl x1)], [], D)
  refine mz_Go.run (gs := [mz_kz 0 0 0]) (st' := (6, [some (.inr (.inr (some (0, 0)))), some (.inl x1)], [.inl x1], (mz_wi D 0 0 13 (0 : Int32)))) bX11_answer_0 oX11_answer_0 rfl ⟨rfl, trivial⟩ ?_
  exact mz_Go.reti (by decide +kernel) rfl ⟨Nat.le_refl _, Nat.le_refl _⟩ rfl
def bX11_told_0 : List mz_E := [(0, .aload_n 0, 0, 0, 0, 0, 0), (1, .getfield 32, 11, 4, 564, 0, 0), (4, .getfield 151, 6, 0, 478, 0, 0), (7, .astore_n 2, 0, 0, 0, 0, 0), (8, .iload_n 1, 0, 0, 0, 0, 0)]
theorem oX11_told_0 : bX11_told_0.all (mz_ok RX11 cX11_told 3) = true := by decide +kernel
def bX11_told_72 : List mz_E := [(72, .aload_n 0, 0, 0, 0, 0, 0), (73, .aload_n 2, 0, 0, 0, 0, 0), (74, .getfield 155, 4, 0, 291, 0, 0)]
theorem oX11_told_72 : bX11_told_72.all (mz_ok RX11 cX11_told 3) = true := by decide +kernel
def bX11_told_81 : List mz_E := [(81, .aload_n 0, 0, 0, 0, 0, 0), (82, .aload_n 2, 0, 0, 0, 0, 0), (83, .getfield 180, 4, 1, 295, 0, 0)]
theorem oX11_told_81 : bX11_told_81.all (mz_ok RX11 cX11_told 3) = true := by decide +kernel
def bX11_told_90 : List mz_E := [(90, .aload_n 0, 0, 0, 0, 0, 0), (91, .aload_n 0, 0, 0, 0, 0, 0), (92, .getfield 32, 11, 4, 564, 0, 0), (95, .getfield 183, 6, 1, 482, 0, 0), (98, .getfield 187, 1, 0, 353, 0, 0)]
theorem oX11_told_90 : bX11_told_90.all (mz_ok RX11 cX11_told 3) = true := by decide +kernel
def bX11_told_105 : List mz_E := [(105, .aload_n 0, 0, 0, 0, 0, 0), (106, .aload_n 0, 0, 0, 0, 0, 0), (107, .getfield 32, 11, 4, 564, 0, 0), (110, .getfield 183, 6, 1, 482, 0, 0), (113, .getfield 190, 1, 1, 357, 0, 0)]
theorem oX11_told_105 : bX11_told_105.all (mz_ok RX11 cX11_told 3) = true := by decide +kernel
def bX11_told_120 : List mz_E := [(120, .aload_n 0, 0, 0, 0, 0, 0), (121, .aload_n 0, 0, 0, 0, 0, 0), (122, .getfield 32, 11, 4, 564, 0, 0), (125, .getfield 193, 6, 5, 496, 0, 0)]
theorem oX11_told_120 : bX11_told_120.all (mz_ok RX11 cX11_told 3) = true := by decide +kernel
def bX11_told_132 : List mz_E := [(132, .aload_n 0, 0, 0, 0, 0, 0), (133, .aload_n 0, 0, 0, 0, 0, 0), (134, .getfield 32, 11, 4, 564, 0, 0), (137, .getfield 183, 6, 1, 482, 0, 0)]
theorem oX11_told_132 : bX11_told_132.all (mz_ok RX11 cX11_told 3) = true := by decide +kernel
def bX11_told_147 : List mz_E := [(147, .aload_n 0, 0, 0, 0, 0, 0), (148, .aload_n 2, 0, 0, 0, 0, 0)]
theorem oX11_told_147 : bX11_told_147.all (mz_ok RX11 cX11_told 3) = true := by decide +kernel
def bX11_told_159 : List mz_E := [(159, .aload_n 0, 0, 0, 0, 0, 0), (160, .aload_n 2, 0, 0, 0, 0, 0)]
theorem oX11_told_159 : bX11_told_159.all (mz_ok RX11 cX11_told 3) = true := by decide +kernel
def bX11_told_168 : List mz_E := [(168, .aload_n 0, 0, 0, 0, 0, 0), (169, .aload_n 0, 0, 0, 0, 0, 0), (170, .getfield 32, 11, 4, 564, 0, 0), (173, .getfield 211, 6, 3, 490, 0, 0), (176, .getfield 215, 0, 1, 412, 0, 0)]
theorem oX11_told_168 : bX11_told_168.all (mz_ok RX11 cX11_told 3) = true := by decide +kernel
def bX11_told_183 : List mz_E := [(183, .aload_n 0, 0, 0, 0, 0, 0), (184, .aload_n 0, 0, 0, 0, 0, 0), (185, .getfield 32, 11, 4, 564, 0, 0), (188, .getfield 220, 6, 6, 499, 0, 0)]
theorem oX11_told_183 : bX11_told_183.all (mz_ok RX11 cX11_told 3) = true := by decide +kernel
def bX11_told_195 : List mz_E := [(195, .aload_n 0, 0, 0, 0, 0, 0), (196, .aload_n 2, 0, 0, 0, 0, 0), (197, .getfield 223, 4, 2, 298, 0, 0)]
theorem oX11_told_195 : bX11_told_195.all (mz_ok RX11 cX11_told 3) = true := by decide +kernel
def bX11_told_204 : List mz_E := [(204, .aload_n 0, 0, 0, 0, 0, 0), (205, .aload_n 0, 0, 0, 0, 0, 0), (206, .getfield 32, 11, 4, 564, 0, 0), (209, .getfield 211, 6, 3, 490, 0, 0), (212, .getfield 226, 0, 0, 410, 0, 0)]
theorem oX11_told_204 : bX11_told_204.all (mz_ok RX11 cX11_told 3) = true := by decide +kernel
def bX11_told_219 : List mz_E := [(219, .aload_n 0, 0, 0, 0, 0, 0), (220, .iconst 1, 0, 0, 0, 1, 0)]
theorem oX11_told_219 : bX11_told_219.all (mz_ok RX11 cX11_told 3) = true := by decide +kernel
abbrev IX11_told : mz_I := (yX11_told, cX11_told, 3, (some .int), 0, 2, 0, 0)
theorem kX11_told : mz_okm IX11_told 1019 127 1017 1 = true := by decide +kernel
theorem vX11_told : mz_okV IX11_told 1017 1018 = true := by decide +kernel
def fX11_told (x1 : Int32) (D : mz_D) : Option (Int32 × mz_D) := (if x1 = (0 : Int32) then (some ((D.1 1 101 0), (mz_wi D 0 0 13 (0 : Int32)))) else (if x1 = (1 : Int32) then (some ((D.1 1 101 1), (mz_wi D 0 0 13 (0 : Int32)))) else (if x1 = (2 : Int32) then (some ((D.1 1 109 0), (mz_wi D 0 0 13 (0 : Int32)))) else (if x1 = (3 : Int32) then (some ((D.1 1 109 1), (mz_wi D 0 0 13 (0 : Int32)))) else (if x1 = (4 : Int32) then (some ((D.1 1 100 5), (mz_wi D 0 0 13 (0 : Int32)))) else (if x1 = (5 : Int32) then (Option.bind (fX1_total 1 D) fun q7 => (some (q7, (mz_wi D 0 0 13 (0 : Int32))))) else (if x1 = (6 : Int32) then (some ((((((((((fX4_heads 1 D) - ((((fX4_heads 1 D)).toUInt32 >>> (((1 : Int32)).toUInt32 &&& Int32.toUInt32 31)).toInt32 &&& (1431655765 : Int32))) &&& (858993459 : Int32)) + (((((fX4_heads 1 D) - ((((fX4_heads 1 D)).toUInt32 >>> (((1 : Int32)).toUInt32 &&& Int32.toUInt32 31)).toInt32 &&& (1431655765 : Int32)))).toUInt32 >>> (((2 : Int32)).toUInt32 &&& Int32.toUInt32 31)).toInt32 &&& (858993459 : Int32))) + ((((((fX4_heads 1 D) - ((((fX4_heads 1 D)).toUInt32 >>> (((1 : Int32)).toUInt32 &&& Int32.toUInt32 31)).toInt32 &&& (1431655765 : Int32))) &&& (858993459 : Int32)) + (((((fX4_heads 1 D) - ((((fX4_heads 1 D)).toUInt32 >>> (((1 : Int32)).toUInt32 &&& Int32.toUInt32 31)).toInt32 &&& (1431655765 : Int32)))).toUInt32 >>> (((2 : Int32)).toUInt32 &&& Int32.toUInt32 31)).toInt32 &&& (858993459 : Int32)))).toUInt32 >>> (((4 : Int32)).toUInt32 &&& Int32.toUInt32 31)).toInt32) &&& (252645135 : Int32)) + ((((((((fX4_heads 1 D) - ((((fX4_heads 1 D)).toUInt32 >>> (((1 : Int32)).toUInt32 &&& Int32.toUInt32 31)).toInt32 &&& (1431655765 : Int32))) &&& (858993459 : Int32)) + (((((fX4_heads 1 D) - ((((fX4_heads 1 D)).toUInt32 >>> (((1 : Int32)).toUInt32 &&& Int32.toUInt32 31)).toInt32 &&& (1431655765 : Int32)))).toUInt32 >>> (((2 : Int32)).toUInt32 &&& Int32.toUInt32 31)).toInt32 &&& (858993459 : Int32))) + ((((((fX4_heads 1 D) - ((((fX4_heads 1 D)).toUInt32 >>> (((1 : Int32)).toUInt32 &&& Int32.toUInt32 31)).toInt32 &&& (1431655765 : Int32))) &&& (858993459 : Int32)) + (((((fX4_heads 1 D) - ((((fX4_heads 1 D)).toUInt32 >>> (((1 : Int32)).toUInt32 &&& Int32.toUInt32 31)).toInt32 &&& (1431655765 : Int32)))).toUInt32 >>> (((2 : Int32)).toUInt32 &&& Int32.toUInt32 31)).toInt32 &&& (858993459 : Int32)))).toUInt32 >>> (((4 : Int32)).toUInt32 &&& Int32.toUInt32 31)).toInt32) &&& (252645135 : Int32))).toUInt32 >>> (((8 : Int32)).toUInt32 &&& Int32.toUInt32 31)).toInt32) + (((((((((fX4_heads 1 D) - ((((fX4_heads 1 D)).toUInt32 >>> (((1 : Int32)).toUInt32 &&& Int32.toUInt32 31)).toInt32 &&& (1431655765 : Int32))) &&& (858993459 : Int32)) + (((((fX4_heads 1 D) - ((((fX4_heads 1 D)).toUInt32 >>> (((1 : Int32)).toUInt32 &&& Int32.toUInt32 31)).toInt32 &&& (1431655765 : Int32)))).toUInt32 >>> (((2 : Int32)).toUInt32 &&& Int32.toUInt32 31)).toInt32 &&& (858993459 : Int32))) + ((((((fX4_heads 1 D) - ((((fX4_heads 1 D)).toUInt32 >>> (((1 : Int32)).toUInt32 &&& Int32.toUInt32 31)).toInt32 &&& (1431655765 : Int32))) &&& (858993459 : Int32)) + (((((fX4_heads 1 D) - ((((fX4_heads 1 D)).toUInt32 >>> (((1 : Int32)).toUInt32 &&& Int32.toUInt32 31)).toInt32 &&& (1431655765 : Int32)))).toUInt32 >>> (((2 : Int32)).toUInt32 &&& Int32.toUInt32 31)).toInt32 &&& (858993459 : Int32)))).toUInt32 >>> (((4 : Int32)).toUInt32 &&& Int32.toUInt32 31)).toInt32) &&& (252645135 : Int32)) + ((((((((fX4_heads 1 D) - ((((fX4_heads 1 D)).toUInt32 >>> (((1 : Int32)).toUInt32 &&& Int32.toUInt32 31)).toInt32 &&& (1431655765 : Int32))) &&& (858993459 : Int32)) + (((((fX4_heads 1 D) - ((((fX4_heads 1 D)).toUInt32 >>> (((1 : Int32)).toUInt32 &&& Int32.toUInt32 31)).toInt32 &&& (1431655765 : Int32)))).toUInt32 >>> (((2 : Int32)).toUInt32 &&& Int32.toUInt32 31)).toInt32 &&& (858993459 : Int32))) + ((((((fX4_heads 1 D) - ((((fX4_heads 1 D)).toUInt32 >>> (((1 : Int32)).toUInt32 &&& Int32.toUInt32 31)).toInt32 &&& (1431655765 : Int32))) &&& (858993459 : Int32)) + (((((fX4_heads 1 D) - ((((fX4_heads 1 D)).toUInt32 >>> (((1 : Int32)).toUInt32 &&& Int32.toUInt32 31)).toInt32 &&& (1431655765 : Int32)))).toUInt32 >>> (((2 : Int32)).toUInt32 &&& Int32.toUInt32 31)).toInt32 &&& (858993459 : Int32)))).toUInt32 >>> (((4 : Int32)).toUInt32 &&& Int32.toUInt32 31)).toInt32) &&& (252645135 : Int32))).toUInt32 >>> (((8 : Int32)).toUInt32 &&& Int32.toUInt32 31)).toInt32)).toUInt32 >>> (((16 : Int32)).toUInt32 &&& Int32.toUInt32 31)).toInt32) &&& (63 : Int32)), (mz_wi D 0 0 13 (0 : Int32)))) else (if x1 = (7 : Int32) then (Option.bind (fX4_paidByAll 1 D) fun q10 => (some (q10, (mz_wi D 0 0 13 (0 : Int32))))) else (if x1 = (8 : Int32) then (some ((D.1 1 117 1), (mz_wi D 0 0 13 (0 : Int32)))) else (if x1 = (9 : Int32) then (some ((D.1 1 100 6), (mz_wi D 0 0 13 (0 : Int32)))) else (if x1 = (10 : Int32) then (some ((D.1 1 101 2), (mz_wi D 0 0 13 (0 : Int32)))) else (if x1 = (11 : Int32) then (some ((D.1 1 117 0), (mz_wi D 0 0 13 (0 : Int32)))) else (some ((-1 : Int32), (mz_wi D 0 0 13 (1 : Int32))))))))))))))))
set_option maxHeartbeats 4000000 in
theorem mX11_told (x1 : Int32) (D : mz_D) (r : (Int32 × mz_D)) (h : fX11_told x1 D = some r) : mz_Met IX11_told [.inr (.inr (some (0, 0))), .inl x1] D (some (.inl r.1), r.2) := by
  refine mz_Met.of (by decide +kernel) (Nat.le_of_ble_eq_true rfl) ?_
  show mz_Go IX11_told (some (.inl r.1), r.2) 0 0 (0, [some (.inr (.inr (some (0, 0)))), some (.inl x1), none], [], D)
  rw [fX11_told] at h
  refine mz_Go.run (gs := [mz_kz 0 0 0, mz_kz 0 1 100]) (st' := (9, [some (.inr (.inr (some (0, 0)))), some (.inl x1), some (.inr (.inr (some (1, 101))))], [.inl x1], D)) bX11_told_0 oX11_told_0 rfl ⟨rfl, rfl, trivial⟩ ?_
  refine mz_Go.tsw [(0, 72), (1, 81), (2, 90), (3, 105), (4, 120), (5, 132), (6, 147), (7, 159), (8, 168), (9, 183), (10, 195), (11, 204)] 219 (show decode cX11_told 9 = .ok (.tableswitch 210 0 11 #[63, 72, 81, 96, 111, 123, 138, 150, 159, 174, 186, 195], 63) by decide +kernel) (by decide +kernel) ?_
  refine mz_Go.swc (fun hc1 => ?_) (fun hc1 => ?_)
  · have h := mz_ifp hc1 h
    refine mz_Go.run (gs := [mz_kz 0 1 101]) (st' := (77, [some (.inr (.inr (some (0, 0)))), some (.inl x1), some (.inr (.inr (some (1, 101))))], [.inl (D.1 1 101 0), .inr (.inr (some (0, 0)))], D)) bX11_told_72 oX11_told_72 rfl ⟨rfl, trivial⟩ ?_
    refine mz_Go.callV (J := IX11_answer) (as := [.inl (D.1 1 101 0)]) (ci := 11) (g := 0) (o := 0) (idx := 160) (pl := 915) (rest := []) (mX11_answer (D.1 1 101 0) D) kX11_answer vX11_answer (by decide +kernel) (by decide +kernel) (by decide +kernel) rfl rfl ⟨rfl, rfl⟩ rfl rfl rfl rfl ?_
    cases h
    exact mz_Go.reti (by decide +kernel) rfl ⟨Nat.le_refl _, Nat.le_refl _⟩ rfl
  · have h := mz_ifn hc1 h
    refine mz_Go.swc (fun hc2 => ?_) (fun hc2 => ?_)
    · have h := mz_ifp hc2 h
      refine mz_Go.run (gs := [mz_kz 0 1 101]) (st' := (86, [some (.inr (.inr (some (0, 0)))), some (.inl x1), some (.inr (.inr (some (1, 101))))], [.inl (D.1 1 101 1), .inr (.inr (some (0, 0)))], D)) bX11_told_81 oX11_told_81 rfl ⟨rfl, trivial⟩ ?_
      refine mz_Go.callV (J := IX11_answer) (as := [.inl (D.1 1 101 1)]) (ci := 11) (g := 0) (o := 0) (idx := 160) (pl := 915) (rest := []) (mX11_answer (D.1 1 101 1) D) kX11_answer vX11_answer (by decide +kernel) (by decide +kernel) (by decide +kernel) rfl rfl ⟨rfl, rfl⟩ rfl rfl rfl rfl ?_
      cases h
      exact mz_Go.reti (by decide +kernel) rfl ⟨Nat.le_refl _, Nat.le_refl _⟩ rfl
    · have h := mz_ifn hc2 h
      refine mz_Go.swc (fun hc3 => ?_) (fun hc3 => ?_)
      · have h := mz_ifp hc3 h
        refine mz_Go.run (gs := [mz_kz 0 0 0, mz_kz 0 1 100, mz_kz 0 1 109]) (st' := (101, [some (.inr (.inr (some (0, 0)))), some (.inl x1), some (.inr (.inr (some (1, 101))))], [.inl (D.1 1 109 0), .inr (.inr (some (0, 0)))], D)) bX11_told_90 oX11_told_90 rfl ⟨rfl, rfl, rfl, trivial⟩ ?_
        refine mz_Go.callV (J := IX11_answer) (as := [.inl (D.1 1 109 0)]) (ci := 11) (g := 0) (o := 0) (idx := 160) (pl := 915) (rest := []) (mX11_answer (D.1 1 109 0) D) kX11_answer vX11_answer (by decide +kernel) (by decide +kernel) (by decide +kernel) rfl rfl ⟨rfl, rfl⟩ rfl rfl rfl rfl ?_
        cases h
        exact mz_Go.reti (by decide +kernel) rfl ⟨Nat.le_refl _, Nat.le_refl _⟩ rfl
      · have h := mz_ifn hc3 h
        refine mz_Go.swc (fun hc4 => ?_) (fun hc4 => ?_)
        · have h := mz_ifp hc4 h
          refine mz_Go.run (gs := [mz_kz 0 0 0, mz_kz 0 1 100, mz_kz 0 1 109]) (st' := (116, [some (.inr (.inr (some (0, 0)))), some (.inl x1), some (.inr (.inr (some (1, 101))))], [.inl (D.1 1 109 1), .inr (.inr (some (0, 0)))], D)) bX11_told_105 oX11_told_105 rfl ⟨rfl, rfl, rfl, trivial⟩ ?_
          refine mz_Go.callV (J := IX11_answer) (as := [.inl (D.1 1 109 1)]) (ci := 11) (g := 0) (o := 0) (idx := 160) (pl := 915) (rest := []) (mX11_answer (D.1 1 109 1) D) kX11_answer vX11_answer (by decide +kernel) (by decide +kernel) (by decide +kernel) rfl rfl ⟨rfl, rfl⟩ rfl rfl rfl rfl ?_
          cases h
          exact mz_Go.reti (by decide +kernel) rfl ⟨Nat.le_refl _, Nat.le_refl _⟩ rfl
        · have h := mz_ifn hc4 h
          refine mz_Go.swc (fun hc5 => ?_) (fun hc5 => ?_)
          · have h := mz_ifp hc5 h
            refine mz_Go.run (gs := [mz_kz 0 0 0, mz_kz 0 1 100]) (st' := (128, [some (.inr (.inr (some (0, 0)))), some (.inl x1), some (.inr (.inr (some (1, 101))))], [.inl (D.1 1 100 5), .inr (.inr (some (0, 0)))], D)) bX11_told_120 oX11_told_120 rfl ⟨rfl, rfl, trivial⟩ ?_
            refine mz_Go.callV (J := IX11_answer) (as := [.inl (D.1 1 100 5)]) (ci := 11) (g := 0) (o := 0) (idx := 160) (pl := 915) (rest := []) (mX11_answer (D.1 1 100 5) D) kX11_answer vX11_answer (by decide +kernel) (by decide +kernel) (by decide +kernel) rfl rfl ⟨rfl, rfl⟩ rfl rfl rfl rfl ?_
            cases h
            exact mz_Go.reti (by decide +kernel) rfl ⟨Nat.le_refl _, Nat.le_refl _⟩ rfl
          · have h := mz_ifn hc5 h
            refine mz_Go.swc (fun hc6 => ?_) (fun hc6 => ?_)
            · have h := mz_ifp hc6 h
              refine mz_Go.run (gs := [mz_kz 0 0 0, mz_kz 0 1 100]) (st' := (140, [some (.inr (.inr (some (0, 0)))), some (.inl x1), some (.inr (.inr (some (1, 101))))], [.inr (.inr (some (1, 109))), .inr (.inr (some (0, 0)))], D)) bX11_told_132 oX11_told_132 rfl ⟨rfl, rfl, trivial⟩ ?_
              obtain ⟨q7, hq7, h⟩ := mz_bd_some h
              refine mz_Go.callV (J := IX1_total) (as := []) (ci := 1) (g := 1) (o := 109) (idx := 196) (pl := 1020) (rest := [.inr (.inr (some (0, 0)))]) (mX1_total 1 D rfl q7 hq7) kX1_total vX1_total (by decide +kernel) (by decide +kernel) (by decide +kernel) rfl rfl ⟨rfl, rfl⟩ rfl rfl rfl rfl ?_
              refine mz_Go.callV (J := IX11_answer) (as := [.inl q7]) (ci := 11) (g := 0) (o := 0) (idx := 160) (pl := 915) (rest := []) (mX11_answer q7 D) kX11_answer vX11_answer (by decide +kernel) (by decide +kernel) (by decide +kernel) rfl rfl ⟨rfl, rfl⟩ rfl rfl rfl rfl ?_
              cases h
              exact mz_Go.reti (by decide +kernel) rfl ⟨Nat.le_refl _, Nat.le_refl _⟩ rfl
            · have h := mz_ifn hc6 h
              refine mz_Go.swc (fun hc8 => ?_) (fun hc8 => ?_)
              · have h := mz_ifp hc8 h
                refine mz_Go.run (gs := []) (st' := (149, [some (.inr (.inr (some (0, 0)))), some (.inl x1), some (.inr (.inr (some (1, 101))))], [.inr (.inr (some (1, 101))), .inr (.inr (some (0, 0)))], D)) bX11_told_147 oX11_told_147 rfl trivial ?_
                refine mz_Go.callV (J := IX4_heads) (as := []) (ci := 4) (g := 1) (o := 101) (idx := 200) (pl := 1024) (rest := [.inr (.inr (some (0, 0)))]) (mX4_heads 1 D rfl _ rfl) kX4_heads vX4_heads (by decide +kernel) (by decide +kernel) (by decide +kernel) rfl rfl ⟨rfl, rfl⟩ rfl rfl rfl rfl ?_
                refine mz_Go.callS (J := IJ6_bitCount_0f7a4) (as := [.inl (fX4_heads 1 D)]) (idx := 203) (pl := 1029) (rest := [.inr (.inr (some (0, 0)))]) (mJ6_bitCount_0f7a4 (fX4_heads 1 D) D) kJ6_bitCount_0f7a4 vJ6_bitCount_0f7a4 (by decide +kernel) (by decide +kernel) (by decide +kernel) rfl rfl ⟨rfl, rfl⟩ rfl ?_
                refine mz_Go.callV (J := IX11_answer) (as := [.inl (((((((((fX4_heads 1 D) - ((((fX4_heads 1 D)).toUInt32 >>> (((1 : Int32)).toUInt32 &&& Int32.toUInt32 31)).toInt32 &&& (1431655765 : Int32))) &&& (858993459 : Int32)) + (((((fX4_heads 1 D) - ((((fX4_heads 1 D)).toUInt32 >>> (((1 : Int32)).toUInt32 &&& Int32.toUInt32 31)).toInt32 &&& (1431655765 : Int32)))).toUInt32 >>> (((2 : Int32)).toUInt32 &&& Int32.toUInt32 31)).toInt32 &&& (858993459 : Int32))) + ((((((fX4_heads 1 D) - ((((fX4_heads 1 D)).toUInt32 >>> (((1 : Int32)).toUInt32 &&& Int32.toUInt32 31)).toInt32 &&& (1431655765 : Int32))) &&& (858993459 : Int32)) + (((((fX4_heads 1 D) - ((((fX4_heads 1 D)).toUInt32 >>> (((1 : Int32)).toUInt32 &&& Int32.toUInt32 31)).toInt32 &&& (1431655765 : Int32)))).toUInt32 >>> (((2 : Int32)).toUInt32 &&& Int32.toUInt32 31)).toInt32 &&& (858993459 : Int32)))).toUInt32 >>> (((4 : Int32)).toUInt32 &&& Int32.toUInt32 31)).toInt32) &&& (252645135 : Int32)) + ((((((((fX4_heads 1 D) - ((((fX4_heads 1 D)).toUInt32 >>> (((1 : Int32)).toUInt32 &&& Int32.toUInt32 31)).toInt32 &&& (1431655765 : Int32))) &&& (858993459 : Int32)) + (((((fX4_heads 1 D) - ((((fX4_heads 1 D)).toUInt32 >>> (((1 : Int32)).toUInt32 &&& Int32.toUInt32 31)).toInt32 &&& (1431655765 : Int32)))).toUInt32 >>> (((2 : Int32)).toUInt32 &&& Int32.toUInt32 31)).toInt32 &&& (858993459 : Int32))) + ((((((fX4_heads 1 D) - ((((fX4_heads 1 D)).toUInt32 >>> (((1 : Int32)).toUInt32 &&& Int32.toUInt32 31)).toInt32 &&& (1431655765 : Int32))) &&& (858993459 : Int32)) + (((((fX4_heads 1 D) - ((((fX4_heads 1 D)).toUInt32 >>> (((1 : Int32)).toUInt32 &&& Int32.toUInt32 31)).toInt32 &&& (1431655765 : Int32)))).toUInt32 >>> (((2 : Int32)).toUInt32 &&& Int32.toUInt32 31)).toInt32 &&& (858993459 : Int32)))).toUInt32 >>> (((4 : Int32)).toUInt32 &&& Int32.toUInt32 31)).toInt32) &&& (252645135 : Int32))).toUInt32 >>> (((8 : Int32)).toUInt32 &&& Int32.toUInt32 31)).toInt32) + (((((((((fX4_heads 1 D) - ((((fX4_heads 1 D)).toUInt32 >>> (((1 : Int32)).toUInt32 &&& Int32.toUInt32 31)).toInt32 &&& (1431655765 : Int32))) &&& (858993459 : Int32)) + (((((fX4_heads 1 D) - ((((fX4_heads 1 D)).toUInt32 >>> (((1 : Int32)).toUInt32 &&& Int32.toUInt32 31)).toInt32 &&& (1431655765 : Int32)))).toUInt32 >>> (((2 : Int32)).toUInt32 &&& Int32.toUInt32 31)).toInt32 &&& (858993459 : Int32))) + ((((((fX4_heads 1 D) - ((((fX4_heads 1 D)).toUInt32 >>> (((1 : Int32)).toUInt32 &&& Int32.toUInt32 31)).toInt32 &&& (1431655765 : Int32))) &&& (858993459 : Int32)) + (((((fX4_heads 1 D) - ((((fX4_heads 1 D)).toUInt32 >>> (((1 : Int32)).toUInt32 &&& Int32.toUInt32 31)).toInt32 &&& (1431655765 : Int32)))).toUInt32 >>> (((2 : Int32)).toUInt32 &&& Int32.toUInt32 31)).toInt32 &&& (858993459 : Int32)))).toUInt32 >>> (((4 : Int32)).toUInt32 &&& Int32.toUInt32 31)).toInt32) &&& (252645135 : Int32)) + ((((((((fX4_heads 1 D) - ((((fX4_heads 1 D)).toUInt32 >>> (((1 : Int32)).toUInt32 &&& Int32.toUInt32 31)).toInt32 &&& (1431655765 : Int32))) &&& (858993459 : Int32)) + (((((fX4_heads 1 D) - ((((fX4_heads 1 D)).toUInt32 >>> (((1 : Int32)).toUInt32 &&& Int32.toUInt32 31)).toInt32 &&& (1431655765 : Int32)))).toUInt32 >>> (((2 : Int32)).toUInt32 &&& Int32.toUInt32 31)).toInt32 &&& (858993459 : Int32))) + ((((((fX4_heads 1 D) - ((((fX4_heads 1 D)).toUInt32 >>> (((1 : Int32)).toUInt32 &&& Int32.toUInt32 31)).toInt32 &&& (1431655765 : Int32))) &&& (858993459 : Int32)) + (((((fX4_heads 1 D) - ((((fX4_heads 1 D)).toUInt32 >>> (((1 : Int32)).toUInt32 &&& Int32.toUInt32 31)).toInt32 &&& (1431655765 : Int32)))).toUInt32 >>> (((2 : Int32)).toUInt32 &&& Int32.toUInt32 31)).toInt32 &&& (858993459 : Int32)))).toUInt32 >>> (((4 : Int32)).toUInt32 &&& Int32.toUInt32 31)).toInt32) &&& (252645135 : Int32))).toUInt32 >>> (((8 : Int32)).toUInt32 &&& Int32.toUInt32 31)).toInt32)).toUInt32 >>> (((16 : Int32)).toUInt32 &&& Int32.toUInt32 31)).toInt32) &&& (63 : Int32))]) (ci := 11) (g := 0) (o := 0) (idx := 160) (pl := 915) (rest := []) (mX11_answer (((((((((fX4_heads 1 D) - ((((fX4_heads 1 D)).toUInt32 >>> (((1 : Int32)).toUInt32 &&& Int32.toUInt32 31)).toInt32 &&& (1431655765 : Int32))) &&& (858993459 : Int32)) + (((((fX4_heads 1 D) - ((((fX4_heads 1 D)).toUInt32 >>> (((1 : Int32)).toUInt32 &&& Int32.toUInt32 31)).toInt32 &&& (1431655765 : Int32)))).toUInt32 >>> (((2 : Int32)).toUInt32 &&& Int32.toUInt32 31)).toInt32 &&& (858993459 : Int32))) + ((((((fX4_heads 1 D) - ((((fX4_heads 1 D)).toUInt32 >>> (((1 : Int32)).toUInt32 &&& Int32.toUInt32 31)).toInt32 &&& (1431655765 : Int32))) &&& (858993459 : Int32)) + (((((fX4_heads 1 D) - ((((fX4_heads 1 D)).toUInt32 >>> (((1 : Int32)).toUInt32 &&& Int32.toUInt32 31)).toInt32 &&& (1431655765 : Int32)))).toUInt32 >>> (((2 : Int32)).toUInt32 &&& Int32.toUInt32 31)).toInt32 &&& (858993459 : Int32)))).toUInt32 >>> (((4 : Int32)).toUInt32 &&& Int32.toUInt32 31)).toInt32) &&& (252645135 : Int32)) + ((((((((fX4_heads 1 D) - ((((fX4_heads 1 D)).toUInt32 >>> (((1 : Int32)).toUInt32 &&& Int32.toUInt32 31)).toInt32 &&& (1431655765 : Int32))) &&& (858993459 : Int32)) + (((((fX4_heads 1 D) - ((((fX4_heads 1 D)).toUInt32 >>> (((1 : Int32)).toUInt32 &&& Int32.toUInt32 31)).toInt32 &&& (1431655765 : Int32)))).toUInt32 >>> (((2 : Int32)).toUInt32 &&& Int32.toUInt32 31)).toInt32 &&& (858993459 : Int32))) + ((((((fX4_heads 1 D) - ((((fX4_heads 1 D)).toUInt32 >>> (((1 : Int32)).toUInt32 &&& Int32.toUInt32 31)).toInt32 &&& (1431655765 : Int32))) &&& (858993459 : Int32)) + (((((fX4_heads 1 D) - ((((fX4_heads 1 D)).toUInt32 >>> (((1 : Int32)).toUInt32 &&& Int32.toUInt32 31)).toInt32 &&& (1431655765 : Int32)))).toUInt32 >>> (((2 : Int32)).toUInt32 &&& Int32.toUInt32 31)).toInt32 &&& (858993459 : Int32)))).toUInt32 >>> (((4 : Int32)).toUInt32 &&& Int32.toUInt32 31)).toInt32) &&& (252645135 : Int32))).toUInt32 >>> (((8 : Int32)).toUInt32 &&& Int32.toUInt32 31)).toInt32) + (((((((((fX4_heads 1 D) - ((((fX4_heads 1 D)).toUInt32 >>> (((1 : Int32)).toUInt32 &&& Int32.toUInt32 31)).toInt32 &&& (1431655765 : Int32))) &&& (858993459 : Int32)) + (((((fX4_heads 1 D) - ((((fX4_heads 1 D)).toUInt32 >>> (((1 : Int32)).toUInt32 &&& Int32.toUInt32 31)).toInt32 &&& (1431655765 : Int32)))).toUInt32 >>> (((2 : Int32)).toUInt32 &&& Int32.toUInt32 31)).toInt32 &&& (858993459 : Int32))) + ((((((fX4_heads 1 D) - ((((fX4_heads 1 D)).toUInt32 >>> (((1 : Int32)).toUInt32 &&& Int32.toUInt32 31)).toInt32 &&& (1431655765 : Int32))) &&& (858993459 : Int32)) + (((((fX4_heads 1 D) - ((((fX4_heads 1 D)).toUInt32 >>> (((1 : Int32)).toUInt32 &&& Int32.toUInt32 31)).toInt32 &&& (1431655765 : Int32)))).toUInt32 >>> (((2 : Int32)).toUInt32 &&& Int32.toUInt32 31)).toInt32 &&& (858993459 : Int32)))).toUInt32 >>> (((4 : Int32)).toUInt32 &&& Int32.toUInt32 31)).toInt32) &&& (252645135 : Int32)) + ((((((((fX4_heads 1 D) - ((((fX4_heads 1 D)).toUInt32 >>> (((1 : Int32)).toUInt32 &&& Int32.toUInt32 31)).toInt32 &&& (1431655765 : Int32))) &&& (858993459 : Int32)) + (((((fX4_heads 1 D) - ((((fX4_heads 1 D)).toUInt32 >>> (((1 : Int32)).toUInt32 &&& Int32.toUInt32 31)).toInt32 &&& (1431655765 : Int32)))).toUInt32 >>> (((2 : Int32)).toUInt32 &&& Int32.toUInt32 31)).toInt32 &&& (858993459 : Int32))) + ((((((fX4_heads 1 D) - ((((fX4_heads 1 D)).toUInt32 >>> (((1 : Int32)).toUInt32 &&& Int32.toUInt32 31)).toInt32 &&& (1431655765 : Int32))) &&& (858993459 : Int32)) + (((((fX4_heads 1 D) - ((((fX4_heads 1 D)).toUInt32 >>> (((1 : Int32)).toUInt32 &&& Int32.toUInt32 31)).toInt32 &&& (1431655765 : Int32)))).toUInt32 >>> (((2 : Int32)).toUInt32 &&& Int32.toUInt32 31)).toInt32 &&& (858993459 : Int32)))).toUInt32 >>> (((4 : Int32)).toUInt32 &&& Int32.toUInt32 31)).toInt32) &&& (252645135 : Int32))).toUInt32 >>> (((8 : Int32)).toUInt32 &&& Int32.toUInt32 31)).toInt32)).toUInt32 >>> (((16 : Int32)).toUInt32 &&& Int32.toUInt32 31)).toInt32) &&& (63 : Int32)) D) kX11_answer vX11_answer (by decide +kernel) (by decide +kernel) (by decide +kernel) rfl rfl ⟨rfl, rfl⟩ rfl rfl rfl rfl ?_
                cases h
                exact mz_Go.reti (by decide +kernel) rfl ⟨Nat.le_refl _, Nat.le_refl _⟩ rfl
              · have h := mz_ifn hc8 h
                refine mz_Go.swc (fun hc9 => ?_) (fun hc9 => ?_)
                · have h := mz_ifp hc9 h
                  refine mz_Go.run (gs := []) (st' := (161, [some (.inr (.inr (some (0, 0)))), some (.inl x1), some (.inr (.inr (some (1, 101))))], [.inr (.inr (some (1, 101))), .inr (.inr (some (0, 0)))], D)) bX11_told_159 oX11_told_159 rfl trivial ?_
                  obtain ⟨q10, hq10, h⟩ := mz_bd_some h
                  refine mz_Go.callV (J := IX4_paidByAll) (as := []) (ci := 4) (g := 1) (o := 101) (idx := 208) (pl := 1035) (rest := [.inr (.inr (some (0, 0)))]) (mX4_paidByAll 1 D rfl q10 hq10) kX4_paidByAll vX4_paidByAll (by decide +kernel) (by decide +kernel) (by decide +kernel) rfl rfl ⟨rfl, rfl⟩ rfl rfl rfl rfl ?_
                  refine mz_Go.callV (J := IX11_answer) (as := [.inl q10]) (ci := 11) (g := 0) (o := 0) (idx := 160) (pl := 915) (rest := []) (mX11_answer q10 D) kX11_answer vX11_answer (by decide +kernel) (by decide +kernel) (by decide +kernel) rfl rfl ⟨rfl, rfl⟩ rfl rfl rfl rfl ?_
                  cases h
                  exact mz_Go.reti (by decide +kernel) rfl ⟨Nat.le_refl _, Nat.le_refl _⟩ rfl
                · have h := mz_ifn hc9 h
                  refine mz_Go.swc (fun hc11 => ?_) (fun hc11 => ?_)
                  · have h := mz_ifp hc11 h
                    refine mz_Go.run (gs := [mz_kz 0 0 0, mz_kz 0 1 100, mz_kz 0 1 117]) (st' := (179, [some (.inr (.inr (some (0, 0)))), some (.inl x1), some (.inr (.inr (some (1, 101))))], [.inl (D.1 1 117 1), .inr (.inr (some (0, 0)))], D)) bX11_told_168 oX11_told_168 rfl ⟨rfl, rfl, rfl, trivial⟩ ?_
                    refine mz_Go.callV (J := IX11_answer) (as := [.inl (D.1 1 117 1)]) (ci := 11) (g := 0) (o := 0) (idx := 160) (pl := 915) (rest := []) (mX11_answer (D.1 1 117 1) D) kX11_answer vX11_answer (by decide +kernel) (by decide +kernel) (by decide +kernel) rfl rfl ⟨rfl, rfl⟩ rfl rfl rfl rfl ?_
                    cases h
                    exact mz_Go.reti (by decide +kernel) rfl ⟨Nat.le_refl _, Nat.le_refl _⟩ rfl
                  · have h := mz_ifn hc11 h
                    refine mz_Go.swc (fun hc12 => ?_) (fun hc12 => ?_)
                    · have h := mz_ifp hc12 h
                      refine mz_Go.run (gs := [mz_kz 0 0 0, mz_kz 0 1 100]) (st' := (191, [some (.inr (.inr (some (0, 0)))), some (.inl x1), some (.inr (.inr (some (1, 101))))], [.inl (D.1 1 100 6), .inr (.inr (some (0, 0)))], D)) bX11_told_183 oX11_told_183 rfl ⟨rfl, rfl, trivial⟩ ?_
                      refine mz_Go.callV (J := IX11_answer) (as := [.inl (D.1 1 100 6)]) (ci := 11) (g := 0) (o := 0) (idx := 160) (pl := 915) (rest := []) (mX11_answer (D.1 1 100 6) D) kX11_answer vX11_answer (by decide +kernel) (by decide +kernel) (by decide +kernel) rfl rfl ⟨rfl, rfl⟩ rfl rfl rfl rfl ?_
                      cases h
                      exact mz_Go.reti (by decide +kernel) rfl ⟨Nat.le_refl _, Nat.le_refl _⟩ rfl
                    · have h := mz_ifn hc12 h
                      refine mz_Go.swc (fun hc13 => ?_) (fun hc13 => ?_)
                      · have h := mz_ifp hc13 h
                        refine mz_Go.run (gs := [mz_kz 0 1 101]) (st' := (200, [some (.inr (.inr (some (0, 0)))), some (.inl x1), some (.inr (.inr (some (1, 101))))], [.inl (D.1 1 101 2), .inr (.inr (some (0, 0)))], D)) bX11_told_195 oX11_told_195 rfl ⟨rfl, trivial⟩ ?_
                        refine mz_Go.callV (J := IX11_answer) (as := [.inl (D.1 1 101 2)]) (ci := 11) (g := 0) (o := 0) (idx := 160) (pl := 915) (rest := []) (mX11_answer (D.1 1 101 2) D) kX11_answer vX11_answer (by decide +kernel) (by decide +kernel) (by decide +kernel) rfl rfl ⟨rfl, rfl⟩ rfl rfl rfl rfl ?_
                        cases h
                        exact mz_Go.reti (by decide +kernel) rfl ⟨Nat.le_refl _, Nat.le_refl _⟩ rfl
                      · have h := mz_ifn hc13 h
                        refine mz_Go.swc (fun hc14 => ?_) (fun hc14 => ?_)
                        · have h := mz_ifp hc14 h
                          refine mz_Go.run (gs := [mz_kz 0 0 0, mz_kz 0 1 100, mz_kz 0 1 117]) (st' := (215, [some (.inr (.inr (some (0, 0)))), some (.inl x1), some (.inr (.inr (some (1, 101))))], [.inl (D.1 1 117 0), .inr (.inr (some (0, 0)))], D)) bX11_told_204 oX11_told_204 rfl ⟨rfl, rfl, rfl, trivial⟩ ?_
                          refine mz_Go.callV (J := IX11_answer) (as := [.inl (D.1 1 117 0)]) (ci := 11) (g := 0) (o := 0) (idx := 160) (pl := 915) (rest := []) (mX11_answer (D.1 1 117 0) D) kX11_answer vX11_answer (by decide +kernel) (by decide +kernel) (by decide +kernel) rfl rfl ⟨rfl, rfl⟩ rfl rfl rfl rfl ?_
                          cases h
                          exact mz_Go.reti (by decide +kernel) rfl ⟨Nat.le_refl _, Nat.le_refl _⟩ rfl
                        · have h := mz_ifn hc14 h
                          refine mz_Go.run (gs := []) (st' := (221, [some (.inr (.inr (some (0, 0)))), some (.inl x1), some (.inr (.inr (some (1, 101))))], [.inl (1 : Int32), .inr (.inr (some (0, 0)))], D)) bX11_told_219 oX11_told_219 rfl trivial ?_
                          refine mz_Go.callV (J := IX11_refuse) (as := [.inl (1 : Int32)]) (ci := 11) (g := 0) (o := 0) (idx := 100) (pl := 674) (rest := []) (mX11_refuse (1 : Int32) D) kX11_refuse vX11_refuse (by decide +kernel) (by decide +kernel) (by decide +kernel) rfl rfl ⟨rfl, rfl⟩ rfl rfl rfl rfl ?_
                          cases h
                          exact mz_Go.reti (by decide +kernel) rfl ⟨Nat.le_refl _, Nat.le_refl _⟩ rfl
def bX11_answerIfAny_0 : List mz_E := [(0, .iload_n 1, 0, 0, 0, 0, 0), (1, .iconst (-1), 0, 0, 0, -1, 0), (2, .if_icmp .ne 12, 0, 14, 0, 0, 0)]
theorem oX11_answerIfAny_0 : bX11_answerIfAny_0.all (mz_ok RX11 cX11_answerIfAny 2) = true := by decide +kernel
def bX11_answerIfAny_5 : List mz_E := [(5, .aload_n 0, 0, 0, 0, 0, 0), (6, .bipush 6, 0, 0, 0, 6, 0)]
theorem oX11_answerIfAny_5 : bX11_answerIfAny_5.all (mz_ok RX11 cX11_answerIfAny 2) = true := by decide +kernel
def bX11_answerIfAny_11 : List mz_E := [(11, .goto 8, 0, 19, 0, 0, 0)]
theorem oX11_answerIfAny_11 : bX11_answerIfAny_11.all (mz_ok RX11 cX11_answerIfAny 2) = true := by decide +kernel
def bX11_answerIfAny_14 : List mz_E := [(14, .aload_n 0, 0, 0, 0, 0, 0), (15, .iload_n 1, 0, 0, 0, 0, 0)]
theorem oX11_answerIfAny_14 : bX11_answerIfAny_14.all (mz_ok RX11 cX11_answerIfAny 2) = true := by decide +kernel
abbrev IX11_answerIfAny : mz_I := (yX11_answerIfAny, cX11_answerIfAny, 2, (some .int), 0, 1, 0, 0)
theorem kX11_answerIfAny : mz_okm IX11_answerIfAny 1050 127 1049 1 = true := by decide +kernel
theorem vX11_answerIfAny : mz_okV IX11_answerIfAny 1049 25 = true := by decide +kernel
def fX11_answerIfAny (x1 : Int32) (D : mz_D) : Option (Int32 × mz_D) := (if x1 = (-1 : Int32) then (some ((-1 : Int32), (mz_wi D 0 0 13 (6 : Int32)))) else (some (x1, (mz_wi D 0 0 13 (0 : Int32)))))
set_option maxHeartbeats 4000000 in
theorem mX11_answerIfAny (x1 : Int32) (D : mz_D) (r : (Int32 × mz_D)) (h : fX11_answerIfAny x1 D = some r) : mz_Met IX11_answerIfAny [.inr (.inr (some (0, 0))), .inl x1] D (some (.inl r.1), r.2) := by
  refine mz_Met.of (by decide +kernel) (Nat.le_of_ble_eq_true rfl) ?_
  show mz_Go IX11_answerIfAny (some (.inl r.1), r.2) 0 0 (0, [some (.inr (.inr (some (0, 0)))), some (.inl x1)], [], D)
  rw [fX11_answerIfAny] at h
  refine mz_Go.run (gs := []) (st' := (if x1 = (-1 : Int32) then (5, [some (.inr (.inr (some (0, 0)))), some (.inl x1)], [], D) else (14, [some (.inr (.inr (some (0, 0)))), some (.inl x1)], [], D))) bX11_answerIfAny_0 oX11_answerIfAny_0 rfl trivial ?_
  refine mz_Go.ite (fun hc1 => ?_) (fun hc1 => ?_)
  · have h := mz_ifp hc1 h
    refine mz_Go.run (gs := []) (st' := (8, [some (.inr (.inr (some (0, 0)))), some (.inl x1)], [.inl (6 : Int32), .inr (.inr (some (0, 0)))], D)) bX11_answerIfAny_5 oX11_answerIfAny_5 rfl trivial ?_
    refine mz_Go.callV (J := IX11_refuse) (as := [.inl (6 : Int32)]) (ci := 11) (g := 0) (o := 0) (idx := 100) (pl := 674) (rest := []) (mX11_refuse (6 : Int32) D) kX11_refuse vX11_refuse (by decide +kernel) (by decide +kernel) (by decide +kernel) rfl rfl ⟨rfl, rfl⟩ rfl rfl rfl rfl ?_
    refine mz_Go.run (gs := []) (st' := (19, [some (.inr (.inr (some (0, 0)))), some (.inl x1)], [.inl (-1 : Int32)], (mz_wi D 0 0 13 (6 : Int32)))) bX11_answerIfAny_11 oX11_answerIfAny_11 rfl trivial ?_
    cases h
    exact mz_Go.reti (by decide +kernel) rfl ⟨Nat.le_refl _, Nat.le_refl _⟩ rfl
  · have h := mz_ifn hc1 h
    refine mz_Go.run (gs := []) (st' := (16, [some (.inr (.inr (some (0, 0)))), some (.inl x1)], [.inl x1, .inr (.inr (some (0, 0)))], D)) bX11_answerIfAny_14 oX11_answerIfAny_14 rfl trivial ?_
    refine mz_Go.callV (J := IX11_answer) (as := [.inl x1]) (ci := 11) (g := 0) (o := 0) (idx := 160) (pl := 915) (rest := []) (mX11_answer x1 D) kX11_answer vX11_answer (by decide +kernel) (by decide +kernel) (by decide +kernel) rfl rfl ⟨rfl, rfl⟩ rfl rfl rfl rfl ?_
    cases h
    exact mz_Go.reti (by decide +kernel) rfl ⟨Nat.le_refl _, Nat.le_refl _⟩ rfl
def bX11_person_0 : List mz_E := [(0, .aload_n 0, 0, 0, 0, 0, 0), (1, .getfield 32, 11, 4, 564, 0, 0), (4, .getfield 151, 6, 0, 478, 0, 0), (7, .astore_n 3, 0, 0, 0, 0, 0), (8, .aload_n 3, 0, 0, 0, 0, 0), (9, .iload_n 1, 0, 0, 0, 0, 0)]
theorem oX11_person_0 : bX11_person_0.all (mz_ok RX11 cX11_person 4) = true := by decide +kernel
def bX11_person_13 : List mz_E := [(13, .ifCond .ne 9, 0, 22, 0, 0, 0)]
theorem oX11_person_13 : bX11_person_13.all (mz_ok RX11 cX11_person 4) = true := by decide +kernel
def bX11_person_16 : List mz_E := [(16, .aload_n 0, 0, 0, 0, 0, 0), (17, .iconst 1, 0, 0, 0, 1, 0)]
theorem oX11_person_16 : bX11_person_16.all (mz_ok RX11 cX11_person 4) = true := by decide +kernel
def bX11_person_22 : List mz_E := [(22, .iload_n 2, 0, 0, 0, 0, 0)]
theorem oX11_person_22 : bX11_person_22.all (mz_ok RX11 cX11_person 4) = true := by decide +kernel
def bX11_person_60 : List mz_E := [(60, .aload_n 0, 0, 0, 0, 0, 0), (61, .aload_n 3, 0, 0, 0, 0, 0), (62, .getfield 230, 4, 4, 304, 0, 0), (65, .iload_n 1, 0, 0, 0, 0, 0), (66, .iaload, 0, 0, 0, 0, 0)]
theorem oX11_person_60 : bX11_person_60.all (mz_ok RX11 cX11_person 4) = true := by decide +kernel
def bX11_person_71 : List mz_E := [(71, .aload_n 0, 0, 0, 0, 0, 0), (72, .aload_n 3, 0, 0, 0, 0, 0), (73, .getfield 233, 4, 5, 309, 0, 0), (76, .iload_n 1, 0, 0, 0, 0, 0), (77, .iaload, 0, 0, 0, 0, 0)]
theorem oX11_person_71 : bX11_person_71.all (mz_ok RX11 cX11_person 4) = true := by decide +kernel
def bX11_person_82 : List mz_E := [(82, .aload_n 0, 0, 0, 0, 0, 0), (83, .aload_n 3, 0, 0, 0, 0, 0), (84, .getfield 236, 4, 6, 313, 0, 0), (87, .iload_n 1, 0, 0, 0, 0, 0), (88, .iaload, 0, 0, 0, 0, 0)]
theorem oX11_person_82 : bX11_person_82.all (mz_ok RX11 cX11_person 4) = true := by decide +kernel
def bX11_person_93 : List mz_E := [(93, .aload_n 0, 0, 0, 0, 0, 0), (94, .aload_n 3, 0, 0, 0, 0, 0), (95, .getfield 239, 4, 7, 316, 0, 0), (98, .iload_n 1, 0, 0, 0, 0, 0), (99, .iaload, 0, 0, 0, 0, 0)]
theorem oX11_person_93 : bX11_person_93.all (mz_ok RX11 cX11_person 4) = true := by decide +kernel
def bX11_person_104 : List mz_E := [(104, .aload_n 0, 0, 0, 0, 0, 0), (105, .aload_n 3, 0, 0, 0, 0, 0), (106, .getfield 242, 4, 8, 319, 0, 0), (109, .iload_n 1, 0, 0, 0, 0, 0), (110, .iaload, 0, 0, 0, 0, 0)]
theorem oX11_person_104 : bX11_person_104.all (mz_ok RX11 cX11_person 4) = true := by decide +kernel
def bX11_person_115 : List mz_E := [(115, .aload_n 0, 0, 0, 0, 0, 0), (116, .aload_n 3, 0, 0, 0, 0, 0), (117, .getfield 248, 4, 9, 323, 0, 0), (120, .iload_n 1, 0, 0, 0, 0, 0), (121, .iaload, 0, 0, 0, 0, 0)]
theorem oX11_person_115 : bX11_person_115.all (mz_ok RX11 cX11_person 4) = true := by decide +kernel
def bX11_person_126 : List mz_E := [(126, .aload_n 0, 0, 0, 0, 0, 0), (127, .iconst 1, 0, 0, 0, 1, 0)]
theorem oX11_person_126 : bX11_person_126.all (mz_ok RX11 cX11_person 4) = true := by decide +kernel
abbrev IX11_person : mz_I := (yX11_person, cX11_person, 4, (some .int), 0, 2, 0, 0)
theorem kX11_person : mz_okm IX11_person 1042 127 1040 2 = true := by decide +kernel
theorem vX11_person : mz_okV IX11_person 1040 1041 = true := by decide +kernel
def fX11_person (x1 : Int32) (x2 : Int32) (D : mz_D) : Option (Int32 × mz_D) := (if (fX4_has 1 x1 D) = 0 then (some ((-1 : Int32), (mz_wi D 0 0 13 (1 : Int32)))) else (if x2 = (0 : Int32) then (mz_gd (mz_ix x1 6) (some ((D.1 1 103 (x1).toNatClampNeg), (mz_wi D 0 0 13 (0 : Int32))))) else (if x2 = (1 : Int32) then (mz_gd (mz_ix x1 6) (some ((D.1 1 104 (x1).toNatClampNeg), (mz_wi D 0 0 13 (0 : Int32))))) else (if x2 = (2 : Int32) then (mz_gd (mz_ix x1 6) (some ((D.1 1 105 (x1).toNatClampNeg), (mz_wi D 0 0 13 (0 : Int32))))) else (if x2 = (3 : Int32) then (mz_gd (mz_ix x1 6) (some ((D.1 1 106 (x1).toNatClampNeg), (mz_wi D 0 0 13 (0 : Int32))))) else (if x2 = (4 : Int32) then (mz_gd (mz_ix x1 6) (Option.bind (fX11_answerIfAny (D.1 1 107 (x1).toNatClampNeg) D) fun q12 => (some (q12.1, q12.2)))) else (if x2 = (5 : Int32) then (mz_gd (mz_ix x1 6) (some ((D.1 1 108 (x1).toNatClampNeg), (mz_wi D 0 0 13 (0 : Int32))))) else (some ((-1 : Int32), (mz_wi D 0 0 13 (1 : Int32)))))))))))
set_option maxHeartbeats 4000000 in
theorem mX11_person (x1 : Int32) (x2 : Int32) (D : mz_D) (r : (Int32 × mz_D)) (h : fX11_person x1 x2 D = some r) : mz_Met IX11_person [.inr (.inr (some (0, 0))), .inl x1, .inl x2] D (some (.inl r.1), r.2) := by
  refine mz_Met.of (by decide +kernel) (Nat.le_of_ble_eq_true rfl) ?_
  show mz_Go IX11_person (some (.inl r.1), r.2) 0 0 (0, [some (.inr (.inr (some (0, 0)))), some (.inl x1), some (.inl x2), none], [], D)
  rw [fX11_person] at h
  refine mz_Go.run (gs := [mz_kz 0 0 0, mz_kz 0 1 100]) (st' := (10, [some (.inr (.inr (some (0, 0)))), some (.inl x1), some (.inl x2), some (.inr (.inr (some (1, 101))))], [.inl x1, .inr (.inr (some (1, 101)))], D)) bX11_person_0 oX11_person_0 rfl ⟨rfl, rfl, trivial⟩ ?_
  refine mz_Go.callV (J := IX4_has) (as := [.inl x1]) (ci := 4) (g := 1) (o := 101) (idx := 229) (pl := 1043) (rest := []) (mX4_has 1 x1 D rfl _ rfl) kX4_has vX4_has (by decide +kernel) (by decide +kernel) (by decide +kernel) rfl rfl ⟨rfl, rfl⟩ rfl rfl rfl rfl ?_
  refine mz_Go.run (gs := []) (st' := (if (fX4_has 1 x1 D) = 0 then (16, [some (.inr (.inr (some (0, 0)))), some (.inl x1), some (.inl x2), some (.inr (.inr (some (1, 101))))], [], D) else (22, [some (.inr (.inr (some (0, 0)))), some (.inl x1), some (.inl x2), some (.inr (.inr (some (1, 101))))], [], D))) bX11_person_13 oX11_person_13 rfl trivial ?_
  refine mz_Go.ite (fun hc1 => ?_) (fun hc1 => ?_)
  · have h := mz_ifp hc1 h
    refine mz_Go.run (gs := []) (st' := (18, [some (.inr (.inr (some (0, 0)))), some (.inl x1), some (.inl x2), some (.inr (.inr (some (1, 101))))], [.inl (1 : Int32), .inr (.inr (some (0, 0)))], D)) bX11_person_16 oX11_person_16 rfl trivial ?_
    refine mz_Go.callV (J := IX11_refuse) (as := [.inl (1 : Int32)]) (ci := 11) (g := 0) (o := 0) (idx := 100) (pl := 674) (rest := []) (mX11_refuse (1 : Int32) D) kX11_refuse vX11_refuse (by decide +kernel) (by decide +kernel) (by decide +kernel) rfl rfl ⟨rfl, rfl⟩ rfl rfl rfl rfl ?_
    cases h
    exact mz_Go.reti (by decide +kernel) rfl ⟨Nat.le_refl _, Nat.le_refl _⟩ rfl
  · have h := mz_ifn hc1 h
    refine mz_Go.run (gs := []) (st' := (23, [some (.inr (.inr (some (0, 0)))), some (.inl x1), some (.inl x2), some (.inr (.inr (some (1, 101))))], [.inl x2], D)) bX11_person_22 oX11_person_22 rfl trivial ?_
    refine mz_Go.tsw [(0, 60), (1, 71), (2, 82), (3, 93), (4, 104), (5, 115)] 126 (show decode cX11_person 23 = .ok (.tableswitch 103 0 5 #[37, 48, 59, 70, 81, 92], 37) by decide +kernel) (by decide +kernel) ?_
    refine mz_Go.swc (fun hc2 => ?_) (fun hc2 => ?_)
    · have h := mz_ifp hc2 h
      obtain ⟨hb3, h⟩ := mz_gd_some h
      refine mz_Go.run (gs := [mz_kz 0 1 101, mz_kz 0 1 103, mz_ix x1 6]) (st' := (67, [some (.inr (.inr (some (0, 0)))), some (.inl x1), some (.inl x2), some (.inr (.inr (some (1, 101))))], [.inl (D.1 1 103 (x1).toNatClampNeg), .inr (.inr (some (0, 0)))], D)) bX11_person_60 oX11_person_60 rfl ⟨rfl, rfl, hb3, trivial⟩ ?_
      refine mz_Go.callV (J := IX11_answer) (as := [.inl (D.1 1 103 (x1).toNatClampNeg)]) (ci := 11) (g := 0) (o := 0) (idx := 160) (pl := 915) (rest := []) (mX11_answer (D.1 1 103 (x1).toNatClampNeg) D) kX11_answer vX11_answer (by decide +kernel) (by decide +kernel) (by decide +kernel) rfl rfl ⟨rfl, rfl⟩ rfl rfl rfl rfl ?_
      cases h
      exact mz_Go.reti (by decide +kernel) rfl ⟨Nat.le_refl _, Nat.le_refl _⟩ rfl
    · have h := mz_ifn hc2 h
      refine mz_Go.swc (fun hc4 => ?_) (fun hc4 => ?_)
      · have h := mz_ifp hc4 h
        obtain ⟨hb5, h⟩ := mz_gd_some h
        refine mz_Go.run (gs := [mz_kz 0 1 101, mz_kz 0 1 104, mz_ix x1 6]) (st' := (78, [some (.inr (.inr (some (0, 0)))), some (.inl x1), some (.inl x2), some (.inr (.inr (some (1, 101))))], [.inl (D.1 1 104 (x1).toNatClampNeg), .inr (.inr (some (0, 0)))], D)) bX11_person_71 oX11_person_71 rfl ⟨rfl, rfl, hb5, trivial⟩ ?_
        refine mz_Go.callV (J := IX11_answer) (as := [.inl (D.1 1 104 (x1).toNatClampNeg)]) (ci := 11) (g := 0) (o := 0) (idx := 160) (pl := 915) (rest := []) (mX11_answer (D.1 1 104 (x1).toNatClampNeg) D) kX11_answer vX11_answer (by decide +kernel) (by decide +kernel) (by decide +kernel) rfl rfl ⟨rfl, rfl⟩ rfl rfl rfl rfl ?_
        cases h
        exact mz_Go.reti (by decide +kernel) rfl ⟨Nat.le_refl _, Nat.le_refl _⟩ rfl
      · have h := mz_ifn hc4 h
        refine mz_Go.swc (fun hc6 => ?_) (fun hc6 => ?_)
        · have h := mz_ifp hc6 h
          obtain ⟨hb7, h⟩ := mz_gd_some h
          refine mz_Go.run (gs := [mz_kz 0 1 101, mz_kz 0 1 105, mz_ix x1 6]) (st' := (89, [some (.inr (.inr (some (0, 0)))), some (.inl x1), some (.inl x2), some (.inr (.inr (some (1, 101))))], [.inl (D.1 1 105 (x1).toNatClampNeg), .inr (.inr (some (0, 0)))], D)) bX11_person_82 oX11_person_82 rfl ⟨rfl, rfl, hb7, trivial⟩ ?_
          refine mz_Go.callV (J := IX11_answer) (as := [.inl (D.1 1 105 (x1).toNatClampNeg)]) (ci := 11) (g := 0) (o := 0) (idx := 160) (pl := 915) (rest := []) (mX11_answer (D.1 1 105 (x1).toNatClampNeg) D) kX11_answer vX11_answer (by decide +kernel) (by decide +kernel) (by decide +kernel) rfl rfl ⟨rfl, rfl⟩ rfl rfl rfl rfl ?_
          cases h
          exact mz_Go.reti (by decide +kernel) rfl ⟨Nat.le_refl _, Nat.le_refl _⟩ rfl
        · have h := mz_ifn hc6 h
          refine mz_Go.swc (fun hc8 => ?_) (fun hc8 => ?_)
          · have h := mz_ifp hc8 h
            obtain ⟨hb9, h⟩ := mz_gd_some h
            refine mz_Go.run (gs := [mz_kz 0 1 101, mz_kz 0 1 106, mz_ix x1 6]) (st' := (100, [some (.inr (.inr (some (0, 0)))), some (.inl x1), some (.inl x2), some (.inr (.inr (some (1, 101))))], [.inl (D.1 1 106 (x1).toNatClampNeg), .inr (.inr (some (0, 0)))], D)) bX11_person_93 oX11_person_93 rfl ⟨rfl, rfl, hb9, trivial⟩ ?_
            refine mz_Go.callV (J := IX11_answer) (as := [.inl (D.1 1 106 (x1).toNatClampNeg)]) (ci := 11) (g := 0) (o := 0) (idx := 160) (pl := 915) (rest := []) (mX11_answer (D.1 1 106 (x1).toNatClampNeg) D) kX11_answer vX11_answer (by decide +kernel) (by decide +kernel) (by decide +kernel) rfl rfl ⟨rfl, rfl⟩ rfl rfl rfl rfl ?_
            cases h
            exact mz_Go.reti (by decide +kernel) rfl ⟨Nat.le_refl _, Nat.le_refl _⟩ rfl
          · have h := mz_ifn hc8 h
            refine mz_Go.swc (fun hc10 => ?_) (fun hc10 => ?_)
            · have h := mz_ifp hc10 h
              obtain ⟨hb11, h⟩ := mz_gd_some h
              refine mz_Go.run (gs := [mz_kz 0 1 101, mz_kz 0 1 107, mz_ix x1 6]) (st' := (111, [some (.inr (.inr (some (0, 0)))), some (.inl x1), some (.inl x2), some (.inr (.inr (some (1, 101))))], [.inl (D.1 1 107 (x1).toNatClampNeg), .inr (.inr (some (0, 0)))], D)) bX11_person_104 oX11_person_104 rfl ⟨rfl, rfl, hb11, trivial⟩ ?_
              obtain ⟨q12, hq12, h⟩ := mz_bd_some h
              refine mz_Go.callV (J := IX11_answerIfAny) (as := [.inl (D.1 1 107 (x1).toNatClampNeg)]) (ci := 11) (g := 0) (o := 0) (idx := 245) (pl := 1047) (rest := []) (mX11_answerIfAny (D.1 1 107 (x1).toNatClampNeg) D q12 hq12) kX11_answerIfAny vX11_answerIfAny (by decide +kernel) (by decide +kernel) (by decide +kernel) rfl rfl ⟨rfl, rfl⟩ rfl rfl rfl rfl ?_
              cases h
              exact mz_Go.reti (by decide +kernel) rfl ⟨Nat.le_refl _, Nat.le_refl _⟩ rfl
            · have h := mz_ifn hc10 h
              refine mz_Go.swc (fun hc13 => ?_) (fun hc13 => ?_)
              · have h := mz_ifp hc13 h
                obtain ⟨hb14, h⟩ := mz_gd_some h
                refine mz_Go.run (gs := [mz_kz 0 1 101, mz_kz 0 1 108, mz_ix x1 6]) (st' := (122, [some (.inr (.inr (some (0, 0)))), some (.inl x1), some (.inl x2), some (.inr (.inr (some (1, 101))))], [.inl (D.1 1 108 (x1).toNatClampNeg), .inr (.inr (some (0, 0)))], D)) bX11_person_115 oX11_person_115 rfl ⟨rfl, rfl, hb14, trivial⟩ ?_
                refine mz_Go.callV (J := IX11_answer) (as := [.inl (D.1 1 108 (x1).toNatClampNeg)]) (ci := 11) (g := 0) (o := 0) (idx := 160) (pl := 915) (rest := []) (mX11_answer (D.1 1 108 (x1).toNatClampNeg) D) kX11_answer vX11_answer (by decide +kernel) (by decide +kernel) (by decide +kernel) rfl rfl ⟨rfl, rfl⟩ rfl rfl rfl rfl ?_
                cases h
                exact mz_Go.reti (by decide +kernel) rfl ⟨Nat.le_refl _, Nat.le_refl _⟩ rfl
              · have h := mz_ifn hc13 h
                refine mz_Go.run (gs := []) (st' := (128, [some (.inr (.inr (some (0, 0)))), some (.inl x1), some (.inl x2), some (.inr (.inr (some (1, 101))))], [.inl (1 : Int32), .inr (.inr (some (0, 0)))], D)) bX11_person_126 oX11_person_126 rfl trivial ?_
                refine mz_Go.callV (J := IX11_refuse) (as := [.inl (1 : Int32)]) (ci := 11) (g := 0) (o := 0) (idx := 100) (pl := 674) (rest := []) (mX11_refuse (1 : Int32) D) kX11_refuse vX11_refuse (by decide +kernel) (by decide +kernel) (by decide +kernel) rfl rfl ⟨rfl, rfl⟩ rfl rfl rfl rfl ?_
                cases h
                exact mz_Go.reti (by decide +kernel) rfl ⟨Nat.le_refl _, Nat.le_refl _⟩ rfl
