abbrev IX11_copyRow_120_120 : mz_I := (yX11_copyRow, cX11_copyRow, 2, none, 0, 1, 0, 0)
theorem kX11_copyRow_120_120 : mz_okm IX11_copyRow_120_120 891 126 890 2 = true := by decide +kernel
theorem vX11_copyRow_120_120 : mz_okS IX11_copyRow_120_120 890 = true := by decide +kernel
def fX11_copyRow_120_120 (g0 : Nat) (g1 : Nat) (D : mz_D) : Option mz_D := (mz_gd (mz_cpg (0 : Int32) (0 : Int32) (fJ9_min_7cf53 (Int32.ofNat 30) (Int32.ofNat 30)) 30 30) (some (mz_cpi D g0 120 g1 120 ((0 : Int32)).toNatClampNeg ((0 : Int32)).toNatClampNeg ((fJ9_min_7cf53 (Int32.ofNat 30) (Int32.ofNat 30))).toNatClampNeg)))
set_option maxHeartbeats 4000000 in
theorem mX11_copyRow_120_120 (g0 : Nat) (g1 : Nat) (D : mz_D) (hg0 : mz_tb g0 = true) (hg1 : mz_tb g1 = true) (r : mz_D) (h : fX11_copyRow_120_120 g0 g1 D = some r) : mz_Met IX11_copyRow_120_120 [.inr (.inr (some (g0, 120))), .inr (.inr (some (g1, 120)))] D (none, r) := by
  refine mz_Met.of (by decide +kernel) (Nat.le_of_ble_eq_true rfl) ?_
  show mz_Go IX11_copyRow_120_120 (none, r) 0 0 (0, [some (.inr (.inr (some (g0, 120)))), some (.inr (.inr (some (g1, 120))))], [], D)
  rw [fX11_copyRow_120_120] at h
  refine mz_Go.run (gs := [mz_kz 0 g0 120, mz_kz 0 g1 120]) (st' := (8, [some (.inr (.inr (some (g0, 120)))), some (.inr (.inr (some (g1, 120))))], [.inl (Int32.ofNat 30), .inl (Int32.ofNat 30), .inl (0 : Int32), .inr (.inr (some (g1, 120))), .inl (0 : Int32), .inr (.inr (some (g0, 120)))], D)) bX11_copyRow_0 oX11_copyRow_0 rfl ⟨hg0, hg1, trivial⟩ ?_
  refine mz_Go.callS (I := IX11_copyRow_120_120) (J := IJ9_min_7cf53) (as := [.inl (Int32.ofNat 30), .inl (Int32.ofNat 30)]) (idx := 362) (pl := 892) (rest := [.inl (0 : Int32), .inr (.inr (some (g1, 120))), .inl (0 : Int32), .inr (.inr (some (g0, 120)))]) (mJ9_min_7cf53 (Int32.ofNat 30) (Int32.ofNat 30) D _ rfl) kJ9_min_7cf53 vJ9_min_7cf53 (by decide +kernel) (by decide +kernel) (by decide +kernel) rfl rfl ⟨rfl, rfl⟩ rfl ?_
  obtain ⟨hb1, h⟩ := mz_gd_some h
  refine mz_Go.cpi (I := IX11_copyRow_120_120) (idx := 492) (pl := 893) (pn := 695) (ps := 694) (pi := 142) (by decide +kernel) (by decide +kernel) rfl rfl hg0 hg1 hb1 rfl ?_
  cases h
  exact mz_Go.retv (by decide +kernel) rfl ⟨Nat.le_refl _, Nat.le_refl _⟩ rfl
abbrev IX11_copyRow_121_121 : mz_I := (yX11_copyRow, cX11_copyRow, 2, none, 0, 1, 0, 0)
theorem kX11_copyRow_121_121 : mz_okm IX11_copyRow_121_121 891 126 890 2 = true := by decide +kernel
theorem vX11_copyRow_121_121 : mz_okS IX11_copyRow_121_121 890 = true := by decide +kernel
def fX11_copyRow_121_121 (g0 : Nat) (g1 : Nat) (D : mz_D) : Option mz_D := (mz_gd (mz_cpg (0 : Int32) (0 : Int32) (fJ9_min_7cf53 (Int32.ofNat 30) (Int32.ofNat 30)) 30 30) (some (mz_cpi D g0 121 g1 121 ((0 : Int32)).toNatClampNeg ((0 : Int32)).toNatClampNeg ((fJ9_min_7cf53 (Int32.ofNat 30) (Int32.ofNat 30))).toNatClampNeg)))
set_option maxHeartbeats 4000000 in
theorem mX11_copyRow_121_121 (g0 : Nat) (g1 : Nat) (D : mz_D) (hg0 : mz_tb g0 = true) (hg1 : mz_tb g1 = true) (r : mz_D) (h : fX11_copyRow_121_121 g0 g1 D = some r) : mz_Met IX11_copyRow_121_121 [.inr (.inr (some (g0, 121))), .inr (.inr (some (g1, 121)))] D (none, r) := by
  refine mz_Met.of (by decide +kernel) (Nat.le_of_ble_eq_true rfl) ?_
  show mz_Go IX11_copyRow_121_121 (none, r) 0 0 (0, [some (.inr (.inr (some (g0, 121)))), some (.inr (.inr (some (g1, 121))))], [], D)
  rw [fX11_copyRow_121_121] at h
  refine mz_Go.run (gs := [mz_kz 0 g0 121, mz_kz 0 g1 121]) (st' := (8, [some (.inr (.inr (some (g0, 121)))), some (.inr (.inr (some (g1, 121))))], [.inl (Int32.ofNat 30), .inl (Int32.ofNat 30), .inl (0 : Int32), .inr (.inr (some (g1, 121))), .inl (0 : Int32), .inr (.inr (some (g0, 121)))], D)) bX11_copyRow_0 oX11_copyRow_0 rfl ⟨hg0, hg1, trivial⟩ ?_
  refine mz_Go.callS (I := IX11_copyRow_121_121) (J := IJ9_min_7cf53) (as := [.inl (Int32.ofNat 30), .inl (Int32.ofNat 30)]) (idx := 362) (pl := 892) (rest := [.inl (0 : Int32), .inr (.inr (some (g1, 121))), .inl (0 : Int32), .inr (.inr (some (g0, 121)))]) (mJ9_min_7cf53 (Int32.ofNat 30) (Int32.ofNat 30) D _ rfl) kJ9_min_7cf53 vJ9_min_7cf53 (by decide +kernel) (by decide +kernel) (by decide +kernel) rfl rfl ⟨rfl, rfl⟩ rfl ?_
  obtain ⟨hb1, h⟩ := mz_gd_some h
  refine mz_Go.cpi (I := IX11_copyRow_121_121) (idx := 492) (pl := 893) (pn := 695) (ps := 694) (pi := 142) (by decide +kernel) (by decide +kernel) rfl rfl hg0 hg1 hb1 rfl ?_
  cases h
  exact mz_Go.retv (by decide +kernel) rfl ⟨Nat.le_refl _, Nat.le_refl _⟩ rfl
abbrev IX11_copyRow_122_122 : mz_I := (yX11_copyRow, cX11_copyRow, 2, none, 0, 1, 0, 0)
theorem kX11_copyRow_122_122 : mz_okm IX11_copyRow_122_122 891 126 890 2 = true := by decide +kernel
theorem vX11_copyRow_122_122 : mz_okS IX11_copyRow_122_122 890 = true := by decide +kernel
def fX11_copyRow_122_122 (g0 : Nat) (g1 : Nat) (D : mz_D) : Option mz_D := (mz_gd (mz_cpg (0 : Int32) (0 : Int32) (fJ9_min_7cf53 (Int32.ofNat 30) (Int32.ofNat 30)) 30 30) (some (mz_cpi D g0 122 g1 122 ((0 : Int32)).toNatClampNeg ((0 : Int32)).toNatClampNeg ((fJ9_min_7cf53 (Int32.ofNat 30) (Int32.ofNat 30))).toNatClampNeg)))
set_option maxHeartbeats 4000000 in
theorem mX11_copyRow_122_122 (g0 : Nat) (g1 : Nat) (D : mz_D) (hg0 : mz_tb g0 = true) (hg1 : mz_tb g1 = true) (r : mz_D) (h : fX11_copyRow_122_122 g0 g1 D = some r) : mz_Met IX11_copyRow_122_122 [.inr (.inr (some (g0, 122))), .inr (.inr (some (g1, 122)))] D (none, r) := by
  refine mz_Met.of (by decide +kernel) (Nat.le_of_ble_eq_true rfl) ?_
  show mz_Go IX11_copyRow_122_122 (none, r) 0 0 (0, [some (.inr (.inr (some (g0, 122)))), some (.inr (.inr (some (g1, 122))))], [], D)
  rw [fX11_copyRow_122_122] at h
  refine mz_Go.run (gs := [mz_kz 0 g0 122, mz_kz 0 g1 122]) (st' := (8, [some (.inr (.inr (some (g0, 122)))), some (.inr (.inr (some (g1, 122))))], [.inl (Int32.ofNat 30), .inl (Int32.ofNat 30), .inl (0 : Int32), .inr (.inr (some (g1, 122))), .inl (0 : Int32), .inr (.inr (some (g0, 122)))], D)) bX11_copyRow_0 oX11_copyRow_0 rfl ⟨hg0, hg1, trivial⟩ ?_
  refine mz_Go.callS (I := IX11_copyRow_122_122) (J := IJ9_min_7cf53) (as := [.inl (Int32.ofNat 30), .inl (Int32.ofNat 30)]) (idx := 362) (pl := 892) (rest := [.inl (0 : Int32), .inr (.inr (some (g1, 122))), .inl (0 : Int32), .inr (.inr (some (g0, 122)))]) (mJ9_min_7cf53 (Int32.ofNat 30) (Int32.ofNat 30) D _ rfl) kJ9_min_7cf53 vJ9_min_7cf53 (by decide +kernel) (by decide +kernel) (by decide +kernel) rfl rfl ⟨rfl, rfl⟩ rfl ?_
  obtain ⟨hb1, h⟩ := mz_gd_some h
  refine mz_Go.cpi (I := IX11_copyRow_122_122) (idx := 492) (pl := 893) (pn := 695) (ps := 694) (pi := 142) (by decide +kernel) (by decide +kernel) rfl rfl hg0 hg1 hb1 rfl ?_
  cases h
  exact mz_Go.retv (by decide +kernel) rfl ⟨Nat.le_refl _, Nat.le_refl _⟩ rfl
abbrev IX11_copyRow_123_123 : mz_I := (yX11_copyRow, cX11_copyRow, 2, none, 0, 1, 0, 0)
theorem kX11_copyRow_123_123 : mz_okm IX11_copyRow_123_123 891 126 890 2 = true := by decide +kernel
theorem vX11_copyRow_123_123 : mz_okS IX11_copyRow_123_123 890 = true := by decide +kernel
def fX11_copyRow_123_123 (g0 : Nat) (g1 : Nat) (D : mz_D) : Option mz_D := (mz_gd (mz_cpg (0 : Int32) (0 : Int32) (fJ9_min_7cf53 (Int32.ofNat 30) (Int32.ofNat 30)) 30 30) (some (mz_cpi D g0 123 g1 123 ((0 : Int32)).toNatClampNeg ((0 : Int32)).toNatClampNeg ((fJ9_min_7cf53 (Int32.ofNat 30) (Int32.ofNat 30))).toNatClampNeg)))
set_option maxHeartbeats 4000000 in
theorem mX11_copyRow_123_123 (g0 : Nat) (g1 : Nat) (D : mz_D) (hg0 : mz_tb g0 = true) (hg1 : mz_tb g1 = true) (r : mz_D) (h : fX11_copyRow_123_123 g0 g1 D = some r) : mz_Met IX11_copyRow_123_123 [.inr (.inr (some (g0, 123))), .inr (.inr (some (g1, 123)))] D (none, r) := by
  refine mz_Met.of (by decide +kernel) (Nat.le_of_ble_eq_true rfl) ?_
  show mz_Go IX11_copyRow_123_123 (none, r) 0 0 (0, [some (.inr (.inr (some (g0, 123)))), some (.inr (.inr (some (g1, 123))))], [], D)
  rw [fX11_copyRow_123_123] at h
  refine mz_Go.run (gs := [mz_kz 0 g0 123, mz_kz 0 g1 123]) (st' := (8, [some (.inr (.inr (some (g0, 123)))), some (.inr (.inr (some (g1, 123))))], [.inl (Int32.ofNat 30), .inl (Int32.ofNat 30), .inl (0 : Int32), .inr (.inr (some (g1, 123))), .inl (0 : Int32), .inr (.inr (some (g0, 123)))], D)) bX11_copyRow_0 oX11_copyRow_0 rfl ⟨hg0, hg1, trivial⟩ ?_
  refine mz_Go.callS (I := IX11_copyRow_123_123) (J := IJ9_min_7cf53) (as := [.inl (Int32.ofNat 30), .inl (Int32.ofNat 30)]) (idx := 362) (pl := 892) (rest := [.inl (0 : Int32), .inr (.inr (some (g1, 123))), .inl (0 : Int32), .inr (.inr (some (g0, 123)))]) (mJ9_min_7cf53 (Int32.ofNat 30) (Int32.ofNat 30) D _ rfl) kJ9_min_7cf53 vJ9_min_7cf53 (by decide +kernel) (by decide +kernel) (by decide +kernel) rfl rfl ⟨rfl, rfl⟩ rfl ?_
  obtain ⟨hb1, h⟩ := mz_gd_some h
  refine mz_Go.cpi (I := IX11_copyRow_123_123) (idx := 492) (pl := 893) (pn := 695) (ps := 694) (pi := 142) (by decide +kernel) (by decide +kernel) rfl rfl hg0 hg1 hb1 rfl ?_
  cases h
  exact mz_Go.retv (by decide +kernel) rfl ⟨Nat.le_refl _, Nat.le_refl _⟩ rfl
abbrev IX11_copyRow_124_124 : mz_I := (yX11_copyRow, cX11_copyRow, 2, none, 0, 1, 0, 0)
theorem kX11_copyRow_124_124 : mz_okm IX11_copyRow_124_124 891 126 890 2 = true := by decide +kernel
theorem vX11_copyRow_124_124 : mz_okS IX11_copyRow_124_124 890 = true := by decide +kernel
def fX11_copyRow_124_124 (g0 : Nat) (g1 : Nat) (D : mz_D) : Option mz_D := (mz_gd (mz_cpg (0 : Int32) (0 : Int32) (fJ9_min_7cf53 (Int32.ofNat 30) (Int32.ofNat 30)) 30 30) (some (mz_cpi D g0 124 g1 124 ((0 : Int32)).toNatClampNeg ((0 : Int32)).toNatClampNeg ((fJ9_min_7cf53 (Int32.ofNat 30) (Int32.ofNat 30))).toNatClampNeg)))
set_option maxHeartbeats 4000000 in
theorem mX11_copyRow_124_124 (g0 : Nat) (g1 : Nat) (D : mz_D) (hg0 : mz_tb g0 = true) (hg1 : mz_tb g1 = true) (r : mz_D) (h : fX11_copyRow_124_124 g0 g1 D = some r) : mz_Met IX11_copyRow_124_124 [.inr (.inr (some (g0, 124))), .inr (.inr (some (g1, 124)))] D (none, r) := by
  refine mz_Met.of (by decide +kernel) (Nat.le_of_ble_eq_true rfl) ?_
  show mz_Go IX11_copyRow_124_124 (none, r) 0 0 (0, [some (.inr (.inr (some (g0, 124)))), some (.inr (.inr (some (g1, 124))))], [], D)
  rw [fX11_copyRow_124_124] at h
  refine mz_Go.run (gs := [mz_kz 0 g0 124, mz_kz 0 g1 124]) (st' := (8, [some (.inr (.inr (some (g0, 124)))), some (.inr (.inr (some (g1, 124))))], [.inl (Int32.ofNat 30), .inl (Int32.ofNat 30), .inl (0 : Int32), .inr (.inr (some (g1, 124))), .inl (0 : Int32), .inr (.inr (some (g0, 124)))], D)) bX11_copyRow_0 oX11_copyRow_0 rfl ⟨hg0, hg1, trivial⟩ ?_
  refine mz_Go.callS (I := IX11_copyRow_124_124) (J := IJ9_min_7cf53) (as := [.inl (Int32.ofNat 30), .inl (Int32.ofNat 30)]) (idx := 362) (pl := 892) (rest := [.inl (0 : Int32), .inr (.inr (some (g1, 124))), .inl (0 : Int32), .inr (.inr (some (g0, 124)))]) (mJ9_min_7cf53 (Int32.ofNat 30) (Int32.ofNat 30) D _ rfl) kJ9_min_7cf53 vJ9_min_7cf53 (by decide +kernel) (by decide +kernel) (by decide +kernel) rfl rfl ⟨rfl, rfl⟩ rfl ?_
  obtain ⟨hb1, h⟩ := mz_gd_some h
  refine mz_Go.cpi (I := IX11_copyRow_124_124) (idx := 492) (pl := 893) (pn := 695) (ps := 694) (pi := 142) (by decide +kernel) (by decide +kernel) rfl rfl hg0 hg1 hb1 rfl ?_
  cases h
  exact mz_Go.retv (by decide +kernel) rfl ⟨Nat.le_refl _, Nat.le_refl _⟩ rfl
abbrev IX11_copyRow_125_125 : mz_I := (yX11_copyRow, cX11_copyRow, 2, none, 0, 1, 0, 0)
theorem kX11_copyRow_125_125 : mz_okm IX11_copyRow_125_125 891 126 890 2 = true := by decide +kernel
theorem vX11_copyRow_125_125 : mz_okS IX11_copyRow_125_125 890 = true := by decide +kernel
def fX11_copyRow_125_125 (g0 : Nat) (g1 : Nat) (D : mz_D) : Option mz_D := (mz_gd (mz_cpg (0 : Int32) (0 : Int32) (fJ9_min_7cf53 (Int32.ofNat 30) (Int32.ofNat 30)) 30 30) (some (mz_cpi D g0 125 g1 125 ((0 : Int32)).toNatClampNeg ((0 : Int32)).toNatClampNeg ((fJ9_min_7cf53 (Int32.ofNat 30) (Int32.ofNat 30))).toNatClampNeg)))
set_option maxHeartbeats 4000000 in
theorem mX11_copyRow_125_125 (g0 : Nat) (g1 : Nat) (D : mz_D) (hg0 : mz_tb g0 = true) (hg1 : mz_tb g1 = true) (r : mz_D) (h : fX11_copyRow_125_125 g0 g1 D = some r) : mz_Met IX11_copyRow_125_125 [.inr (.inr (some (g0, 125))), .inr (.inr (some (g1, 125)))] D (none, r) := by
  refine mz_Met.of (by decide +kernel) (Nat.le_of_ble_eq_true rfl) ?_
  show mz_Go IX11_copyRow_125_125 (none, r) 0 0 (0, [some (.inr (.inr (some (g0, 125)))), some (.inr (.inr (some (g1, 125))))], [], D)
  rw [fX11_copyRow_125_125] at h
  refine mz_Go.run (gs := [mz_kz 0 g0 125, mz_kz 0 g1 125]) (st' := (8, [some (.inr (.inr (some (g0, 125)))), some (.inr (.inr (some (g1, 125))))], [.inl (Int32.ofNat 30), .inl (Int32.ofNat 30), .inl (0 : Int32), .inr (.inr (some (g1, 125))), .inl (0 : Int32), .inr (.inr (some (g0, 125)))], D)) bX11_copyRow_0 oX11_copyRow_0 rfl ⟨hg0, hg1, trivial⟩ ?_
  refine mz_Go.callS (I := IX11_copyRow_125_125) (J := IJ9_min_7cf53) (as := [.inl (Int32.ofNat 30), .inl (Int32.ofNat 30)]) (idx := 362) (pl := 892) (rest := [.inl (0 : Int32), .inr (.inr (some (g1, 125))), .inl (0 : Int32), .inr (.inr (some (g0, 125)))]) (mJ9_min_7cf53 (Int32.ofNat 30) (Int32.ofNat 30) D _ rfl) kJ9_min_7cf53 vJ9_min_7cf53 (by decide +kernel) (by decide +kernel) (by decide +kernel) rfl rfl ⟨rfl, rfl⟩ rfl ?_
  obtain ⟨hb1, h⟩ := mz_gd_some h
  refine mz_Go.cpi (I := IX11_copyRow_125_125) (idx := 492) (pl := 893) (pn := 695) (ps := 694) (pi := 142) (by decide +kernel) (by decide +kernel) rfl rfl hg0 hg1 hb1 rfl ?_
  cases h
  exact mz_Go.retv (by decide +kernel) rfl ⟨Nat.le_refl _, Nat.le_refl _⟩ rfl
abbrev IX11_copyRow_126_126 : mz_I := (yX11_copyRow, cX11_copyRow, 2, none, 0, 1, 0, 0)
theorem kX11_copyRow_126_126 : mz_okm IX11_copyRow_126_126 891 126 890 2 = true := by decide +kernel
theorem vX11_copyRow_126_126 : mz_okS IX11_copyRow_126_126 890 = true := by decide +kernel
def fX11_copyRow_126_126 (g0 : Nat) (g1 : Nat) (D : mz_D) : Option mz_D := (mz_gd (mz_cpg (0 : Int32) (0 : Int32) (fJ9_min_7cf53 (Int32.ofNat 30) (Int32.ofNat 30)) 30 30) (some (mz_cpi D g0 126 g1 126 ((0 : Int32)).toNatClampNeg ((0 : Int32)).toNatClampNeg ((fJ9_min_7cf53 (Int32.ofNat 30) (Int32.ofNat 30))).toNatClampNeg)))
set_option maxHeartbeats 4000000 in
theorem mX11_copyRow_126_126 (g0 : Nat) (g1 : Nat) (D : mz_D) (hg0 : mz_tb g0 = true) (hg1 : mz_tb g1 = true) (r : mz_D) (h : fX11_copyRow_126_126 g0 g1 D = some r) : mz_Met IX11_copyRow_126_126 [.inr (.inr (some (g0, 126))), .inr (.inr (some (g1, 126)))] D (none, r) := by
  refine mz_Met.of (by decide +kernel) (Nat.le_of_ble_eq_true rfl) ?_
  show mz_Go IX11_copyRow_126_126 (none, r) 0 0 (0, [some (.inr (.inr (some (g0, 126)))), some (.inr (.inr (some (g1, 126))))], [], D)
  rw [fX11_copyRow_126_126] at h
  refine mz_Go.run (gs := [mz_kz 0 g0 126, mz_kz 0 g1 126]) (st' := (8, [some (.inr (.inr (some (g0, 126)))), some (.inr (.inr (some (g1, 126))))], [.inl (Int32.ofNat 30), .inl (Int32.ofNat 30), .inl (0 : Int32), .inr (.inr (some (g1, 126))), .inl (0 : Int32), .inr (.inr (some (g0, 126)))], D)) bX11_copyRow_0 oX11_copyRow_0 rfl ⟨hg0, hg1, trivial⟩ ?_
  refine mz_Go.callS (I := IX11_copyRow_126_126) (J := IJ9_min_7cf53) (as := [.inl (Int32.ofNat 30), .inl (Int32.ofNat 30)]) (idx := 362) (pl := 892) (rest := [.inl (0 : Int32), .inr (.inr (some (g1, 126))), .inl (0 : Int32), .inr (.inr (some (g0, 126)))]) (mJ9_min_7cf53 (Int32.ofNat 30) (Int32.ofNat 30) D _ rfl) kJ9_min_7cf53 vJ9_min_7cf53 (by decide +kernel) (by decide +kernel) (by decide +kernel) rfl rfl ⟨rfl, rfl⟩ rfl ?_
  obtain ⟨hb1, h⟩ := mz_gd_some h
  refine mz_Go.cpi (I := IX11_copyRow_126_126) (idx := 492) (pl := 893) (pn := 695) (ps := 694) (pi := 142) (by decide +kernel) (by decide +kernel) rfl rfl hg0 hg1 hb1 rfl ?_
  cases h
  exact mz_Go.retv (by decide +kernel) rfl ⟨Nat.le_refl _, Nat.le_refl _⟩ rfl
def bX9_copyFrom_0 : List mz_E := [(0, .aload_n 0, 0, 0, 0, 0, 0), (1, .aload_n 1, 0, 0, 0, 0, 0), (2, .getfield 33, 9, 0, 427, 0, 0), (5, .putfield 33, 9, 0, 427, 0, 0), (8, .aload_n 0, 0, 0, 0, 0, 0), (9, .aload_n 1, 0, 0, 0, 0, 0), (10, .getfield 37, 9, 1, 430, 0, 0), (13, .putfield 37, 9, 1, 430, 0, 0), (16, .aload_n 1, 0, 0, 0, 0, 0), (17, .getfield 9, 9, 2, 434, 0, 0), (20, .aload_n 0, 0, 0, 0, 0, 0), (21, .getfield 9, 9, 2, 434, 0, 0)]
theorem oX9_copyFrom_0 : bX9_copyFrom_0.all (mz_ok RX9 cX9_copyFrom 2) = true := by decide +kernel
def bX9_copyFrom_27 : List mz_E := [(27, .aload_n 1, 0, 0, 0, 0, 0), (28, .getfield 15, 9, 3, 437, 0, 0), (31, .aload_n 0, 0, 0, 0, 0, 0), (32, .getfield 15, 9, 3, 437, 0, 0)]
theorem oX9_copyFrom_27 : bX9_copyFrom_27.all (mz_ok RX9 cX9_copyFrom 2) = true := by decide +kernel
def bX9_copyFrom_38 : List mz_E := [(38, .aload_n 1, 0, 0, 0, 0, 0), (39, .getfield 18, 9, 4, 440, 0, 0), (42, .aload_n 0, 0, 0, 0, 0, 0), (43, .getfield 18, 9, 4, 440, 0, 0)]
theorem oX9_copyFrom_38 : bX9_copyFrom_38.all (mz_ok RX9 cX9_copyFrom 2) = true := by decide +kernel
def bX9_copyFrom_49 : List mz_E := [(49, .aload_n 1, 0, 0, 0, 0, 0), (50, .getfield 21, 9, 5, 443, 0, 0), (53, .aload_n 0, 0, 0, 0, 0, 0), (54, .getfield 21, 9, 5, 443, 0, 0)]
theorem oX9_copyFrom_49 : bX9_copyFrom_49.all (mz_ok RX9 cX9_copyFrom 2) = true := by decide +kernel
def bX9_copyFrom_60 : List mz_E := [(60, .aload_n 1, 0, 0, 0, 0, 0), (61, .getfield 24, 9, 6, 446, 0, 0), (64, .aload_n 0, 0, 0, 0, 0, 0), (65, .getfield 24, 9, 6, 446, 0, 0)]
theorem oX9_copyFrom_60 : bX9_copyFrom_60.all (mz_ok RX9 cX9_copyFrom 2) = true := by decide +kernel
def bX9_copyFrom_71 : List mz_E := [(71, .aload_n 1, 0, 0, 0, 0, 0), (72, .getfield 27, 9, 7, 449, 0, 0), (75, .aload_n 0, 0, 0, 0, 0, 0), (76, .getfield 27, 9, 7, 449, 0, 0)]
theorem oX9_copyFrom_71 : bX9_copyFrom_71.all (mz_ok RX9 cX9_copyFrom 2) = true := by decide +kernel
def bX9_copyFrom_82 : List mz_E := [(82, .aload_n 1, 0, 0, 0, 0, 0), (83, .getfield 30, 9, 8, 452, 0, 0), (86, .aload_n 0, 0, 0, 0, 0, 0), (87, .getfield 30, 9, 8, 452, 0, 0)]
theorem oX9_copyFrom_82 : bX9_copyFrom_82.all (mz_ok RX9 cX9_copyFrom 2) = true := by decide +kernel
abbrev IX9_copyFrom : mz_I := (yX9_copyFrom, cX9_copyFrom, 2, none, 0, 2, 0, 0)
theorem kX9_copyFrom : mz_okm IX9_copyFrom 912 139 910 1 = true := by decide +kernel
theorem vX9_copyFrom : mz_okV IX9_copyFrom 910 911 = true := by decide +kernel
def fX9_copyFrom (g0 : Nat) (g1 : Nat) (D : mz_D) : Option mz_D := (mz_gd (mz_bo (D.1 g1 119 0)) (Option.bind (fX11_copyRow_120_120 g1 g0 (mz_wi (mz_wi D g0 119 0 (D.1 g1 119 0)) g0 119 1 ((mz_wi D g0 119 0 (D.1 g1 119 0)).1 g1 119 1))) fun q2 => (Option.bind (fX11_copyRow_121_121 g1 g0 q2) fun q3 => (Option.bind (fX11_copyRow_122_122 g1 g0 q3) fun q4 => (Option.bind (fX11_copyRow_123_123 g1 g0 q4) fun q5 => (Option.bind (fX11_copyRow_124_124 g1 g0 q5) fun q6 => (Option.bind (fX11_copyRow_125_125 g1 g0 q6) fun q7 => (Option.bind (fX11_copyRow_126_126 g1 g0 q7) fun q8 => (some q8)))))))))
set_option maxHeartbeats 4000000 in
theorem mX9_copyFrom (g0 : Nat) (g1 : Nat) (D : mz_D) (hg0 : mz_tb g0 = true) (hg1 : mz_tb g1 = true) (r : mz_D) (h : fX9_copyFrom g0 g1 D = some r) : mz_Met IX9_copyFrom [.inr (.inr (some (g0, 119))), .inr (.inr (some (g1, 119)))] D (none, r) := by
  refine mz_Met.of (by decide +kernel) (Nat.le_of_ble_eq_true rfl) ?_
  show mz_Go IX9_copyFrom (none, r) 0 0 (0, [some (.inr (.inr (some (g0, 119)))), some (.inr (.inr (some (g1, 119))))], [], D)
  rw [fX9_copyFrom] at h
  obtain ⟨hb1, h⟩ := mz_gd_some h
  refine mz_Go.run (gs := [mz_kz 0 g1 119, mz_kz 0 g0 119, mz_bo (D.1 g1 119 0), mz_kz 0 g1 119, mz_kz 0 g0 119, mz_kz 0 g1 119, mz_kz 0 g0 119]) (st' := (24, [some (.inr (.inr (some (g0, 119)))), some (.inr (.inr (some (g1, 119))))], [.inr (.inr (some (g0, 120))), .inr (.inr (some (g1, 120)))], (mz_wi (mz_wi D g0 119 0 (D.1 g1 119 0)) g0 119 1 ((mz_wi D g0 119 0 (D.1 g1 119 0)).1 g1 119 1)))) bX9_copyFrom_0 oX9_copyFrom_0 rfl ⟨hg1, hg0, hb1, hg1, hg0, hg1, hg0, trivial⟩ ?_
  obtain ⟨q2, hq2, h⟩ := mz_bd_some h
  refine mz_Go.callSN (I := IX9_copyFrom) (J := IX11_copyRow_120_120) (as := [.inr (.inr (some (g1, 120))), .inr (.inr (some (g0, 120)))]) (idx := 41) (pl := 913) (rest := []) (mX11_copyRow_120_120 g1 g0 (mz_wi (mz_wi D g0 119 0 (D.1 g1 119 0)) g0 119 1 ((mz_wi D g0 119 0 (D.1 g1 119 0)).1 g1 119 1)) hg1 hg0 q2 hq2) kX11_copyRow_120_120 vX11_copyRow_120_120 (by decide +kernel) (by decide +kernel) (by decide +kernel) rfl rfl ⟨rfl, rfl⟩ rfl ?_
  refine mz_Go.run (gs := [mz_kz 0 g1 119, mz_kz 0 g0 119]) (st' := (35, [some (.inr (.inr (some (g0, 119)))), some (.inr (.inr (some (g1, 119))))], [.inr (.inr (some (g0, 121))), .inr (.inr (some (g1, 121)))], q2)) bX9_copyFrom_27 oX9_copyFrom_27 rfl ⟨hg1, hg0, trivial⟩ ?_
  obtain ⟨q3, hq3, h⟩ := mz_bd_some h
  refine mz_Go.callSN (I := IX9_copyFrom) (J := IX11_copyRow_121_121) (as := [.inr (.inr (some (g1, 121))), .inr (.inr (some (g0, 121)))]) (idx := 41) (pl := 913) (rest := []) (mX11_copyRow_121_121 g1 g0 q2 hg1 hg0 q3 hq3) kX11_copyRow_121_121 vX11_copyRow_121_121 (by decide +kernel) (by decide +kernel) (by decide +kernel) rfl rfl ⟨rfl, rfl⟩ rfl ?_
  refine mz_Go.run (gs := [mz_kz 0 g1 119, mz_kz 0 g0 119]) (st' := (46, [some (.inr (.inr (some (g0, 119)))), some (.inr (.inr (some (g1, 119))))], [.inr (.inr (some (g0, 122))), .inr (.inr (some (g1, 122)))], q3)) bX9_copyFrom_38 oX9_copyFrom_38 rfl ⟨hg1, hg0, trivial⟩ ?_
  obtain ⟨q4, hq4, h⟩ := mz_bd_some h
  refine mz_Go.callSN (I := IX9_copyFrom) (J := IX11_copyRow_122_122) (as := [.inr (.inr (some (g1, 122))), .inr (.inr (some (g0, 122)))]) (idx := 41) (pl := 913) (rest := []) (mX11_copyRow_122_122 g1 g0 q3 hg1 hg0 q4 hq4) kX11_copyRow_122_122 vX11_copyRow_122_122 (by decide +kernel) (by decide +kernel) (by decide +kernel) rfl rfl ⟨rfl, rfl⟩ rfl ?_
  refine mz_Go.run (gs := [mz_kz 0 g1 119, mz_kz 0 g0 119]) (st' := (57, [some (.inr (.inr (some (g0, 119)))), some (.inr (.inr (some (g1, 119))))], [.inr (.inr (some (g0, 123))), .inr (.inr (some (g1, 123)))], q4)) bX9_copyFrom_49 oX9_copyFrom_49 rfl ⟨hg1, hg0, trivial⟩ ?_
  obtain ⟨q5, hq5, h⟩ := mz_bd_some h
  refine mz_Go.callSN (I := IX9_copyFrom) (J := IX11_copyRow_123_123) (as := [.inr (.inr (some (g1, 123))), .inr (.inr (some (g0, 123)))]) (idx := 41) (pl := 913) (rest := []) (mX11_copyRow_123_123 g1 g0 q4 hg1 hg0 q5 hq5) kX11_copyRow_123_123 vX11_copyRow_123_123 (by decide +kernel) (by decide +kernel) (by decide +kernel) rfl rfl ⟨rfl, rfl⟩ rfl ?_
  refine mz_Go.run (gs := [mz_kz 0 g1 119, mz_kz 0 g0 119]) (st' := (68, [some (.inr (.inr (some (g0, 119)))), some (.inr (.inr (some (g1, 119))))], [.inr (.inr (some (g0, 124))), .inr (.inr (some (g1, 124)))], q5)) bX9_copyFrom_60 oX9_copyFrom_60 rfl ⟨hg1, hg0, trivial⟩ ?_
  obtain ⟨q6, hq6, h⟩ := mz_bd_some h
  refine mz_Go.callSN (I := IX9_copyFrom) (J := IX11_copyRow_124_124) (as := [.inr (.inr (some (g1, 124))), .inr (.inr (some (g0, 124)))]) (idx := 41) (pl := 913) (rest := []) (mX11_copyRow_124_124 g1 g0 q5 hg1 hg0 q6 hq6) kX11_copyRow_124_124 vX11_copyRow_124_124 (by decide +kernel) (by decide +kernel) (by decide +kernel) rfl rfl ⟨rfl, rfl⟩ rfl ?_
  refine mz_Go.run (gs := [mz_kz 0 g1 119, mz_kz 0 g0 119]) (st' := (79, [some (.inr (.inr (some (g0, 119)))), some (.inr (.inr (some (g1, 119))))], [.inr (.inr (some (g0, 125))), .inr (.inr (some (g1, 125)))], q6)) bX9_copyFrom_71 oX9_copyFrom_71 rfl ⟨hg1, hg0, trivial⟩ ?_
  obtain ⟨q7, hq7, h⟩ := mz_bd_some h
  refine mz_Go.callSN (I := IX9_copyFrom) (J := IX11_copyRow_125_125) (as := [.inr (.inr (some (g1, 125))), .inr (.inr (some (g0, 125)))]) (idx := 41) (pl := 913) (rest := []) (mX11_copyRow_125_125 g1 g0 q6 hg1 hg0 q7 hq7) kX11_copyRow_125_125 vX11_copyRow_125_125 (by decide +kernel) (by decide +kernel) (by decide +kernel) rfl rfl ⟨rfl, rfl⟩ rfl ?_
  refine mz_Go.run (gs := [mz_kz 0 g1 119, mz_kz 0 g0 119]) (st' := (90, [some (.inr (.inr (some (g0, 119)))), some (.inr (.inr (some (g1, 119))))], [.inr (.inr (some (g0, 126))), .inr (.inr (some (g1, 126)))], q7)) bX9_copyFrom_82 oX9_copyFrom_82 rfl ⟨hg1, hg0, trivial⟩ ?_
  obtain ⟨q8, hq8, h⟩ := mz_bd_some h
  refine mz_Go.callSN (I := IX9_copyFrom) (J := IX11_copyRow_126_126) (as := [.inr (.inr (some (g1, 126))), .inr (.inr (some (g0, 126)))]) (idx := 41) (pl := 913) (rest := []) (mX11_copyRow_126_126 g1 g0 q7 hg1 hg0 q8 hq8) kX11_copyRow_126_126 vX11_copyRow_126_126 (by decide +kernel) (by decide +kernel) (by decide +kernel) rfl rfl ⟨rfl, rfl⟩ rfl ?_
  cases h
  exact mz_Go.retv (by decide +kernel) rfl ⟨Nat.le_refl _, Nat.le_refl _⟩ rfl
def bX6_copyFrom_0 : List mz_E := [(0, .aload_n 0, 0, 0, 0, 0, 0), (1, .getfield 12, 6, 0, 474, 0, 0), (4, .aload_n 1, 0, 0, 0, 0, 0), (5, .getfield 12, 6, 0, 474, 0, 0)]
theorem oX6_copyFrom_0 : bX6_copyFrom_0.all (mz_ok RX6 cX6_copyFrom 2) = true := by decide +kernel
def bX6_copyFrom_11 : List mz_E := [(11, .aload_n 0, 0, 0, 0, 0, 0), (12, .getfield 21, 6, 1, 478, 0, 0), (15, .aload_n 1, 0, 0, 0, 0, 0), (16, .getfield 21, 6, 1, 478, 0, 0)]
theorem oX6_copyFrom_11 : bX6_copyFrom_11.all (mz_ok RX6 cX6_copyFrom 2) = true := by decide +kernel
def bX6_copyFrom_22 : List mz_E := [(22, .aload_n 0, 0, 0, 0, 0, 0), (23, .getfield 28, 6, 2, 482, 0, 0), (26, .aload_n 1, 0, 0, 0, 0, 0), (27, .getfield 28, 6, 2, 482, 0, 0)]
theorem oX6_copyFrom_22 : bX6_copyFrom_22.all (mz_ok RX6 cX6_copyFrom 2) = true := by decide +kernel
def bX6_copyFrom_33 : List mz_E := [(33, .aload_n 0, 0, 0, 0, 0, 0), (34, .getfield 35, 6, 3, 486, 0, 0), (37, .aload_n 1, 0, 0, 0, 0, 0), (38, .getfield 35, 6, 3, 486, 0, 0)]
theorem oX6_copyFrom_33 : bX6_copyFrom_33.all (mz_ok RX6 cX6_copyFrom 2) = true := by decide +kernel
def bX6_copyFrom_44 : List mz_E := [(44, .aload_n 0, 0, 0, 0, 0, 0), (45, .getfield 42, 6, 4, 490, 0, 0), (48, .aload_n 1, 0, 0, 0, 0, 0), (49, .getfield 42, 6, 4, 490, 0, 0)]
theorem oX6_copyFrom_44 : bX6_copyFrom_44.all (mz_ok RX6 cX6_copyFrom 2) = true := by decide +kernel
def bX6_copyFrom_55 : List mz_E := [(55, .aload_n 0, 0, 0, 0, 0, 0), (56, .aload_n 1, 0, 0, 0, 0, 0), (57, .getfield 53, 6, 5, 493, 0, 0), (60, .putfield 53, 6, 5, 493, 0, 0), (63, .aload_n 0, 0, 0, 0, 0, 0), (64, .aload_n 1, 0, 0, 0, 0, 0), (65, .getfield 57, 6, 6, 497, 0, 0), (68, .putfield 57, 6, 6, 497, 0, 0)]
theorem oX6_copyFrom_55 : bX6_copyFrom_55.all (mz_ok RX6 cX6_copyFrom 2) = true := by decide +kernel
abbrev IX6_copyFrom : mz_I := (yX6_copyFrom, cX6_copyFrom, 2, none, 0, 3, 0, 0)
theorem kX6_copyFrom : mz_okm IX6_copyFrom 883 134 881 1 = true := by decide +kernel
theorem vX6_copyFrom : mz_okV IX6_copyFrom 881 882 = true := by decide +kernel
def fX6_copyFrom (g0 : Nat) (g1 : Nat) (D : mz_D) : Option mz_D := (Option.bind (fX4_copyFrom g0 g1 D) fun q1 => (Option.bind (fX1_copyFrom g0 g1 q1) fun q2 => (Option.bind (fX2_copyFrom g0 g1 q2) fun q3 => (Option.bind (fX0_copyFrom g0 g1 q3) fun q4 => (Option.bind (fX9_copyFrom g0 g1 q4) fun q5 => (some (mz_wi (mz_wi q5 g0 100 5 (q5.1 g1 100 5)) g0 100 6 ((mz_wi q5 g0 100 5 (q5.1 g1 100 5)).1 g1 100 6))))))))
set_option maxHeartbeats 4000000 in
theorem mX6_copyFrom (g0 : Nat) (g1 : Nat) (D : mz_D) (hg0 : mz_tb g0 = true) (hg1 : mz_tb g1 = true) (r : mz_D) (h : fX6_copyFrom g0 g1 D = some r) : mz_Met IX6_copyFrom [.inr (.inr (some (g0, 100))), .inr (.inr (some (g1, 100)))] D (none, r) := by
  refine mz_Met.of (by decide +kernel) (Nat.le_of_ble_eq_true rfl) ?_
  show mz_Go IX6_copyFrom (none, r) 0 0 (0, [some (.inr (.inr (some (g0, 100)))), some (.inr (.inr (some (g1, 100))))], [], D)
  rw [fX6_copyFrom] at h
  refine mz_Go.run (gs := [mz_kz 0 g0 100, mz_kz 0 g1 100]) (st' := (8, [some (.inr (.inr (some (g0, 100)))), some (.inr (.inr (some (g1, 100))))], [.inr (.inr (some (g1, 101))), .inr (.inr (some (g0, 101)))], D)) bX6_copyFrom_0 oX6_copyFrom_0 rfl ⟨hg0, hg1, trivial⟩ ?_
  obtain ⟨q1, hq1, h⟩ := mz_bd_some h
  refine mz_Go.callV (I := IX6_copyFrom) (J := IX4_copyFrom) (as := [.inr (.inr (some (g1, 101)))]) (ci := 4) (g := g0) (o := 101) (idx := 60) (pl := 884) (rest := []) (mX4_copyFrom g0 g1 D hg0 hg1 q1 hq1) kX4_copyFrom vX4_copyFrom (by decide +kernel) (by decide +kernel) (by decide +kernel) rfl rfl ⟨rfl, rfl⟩ rfl rfl hg0 rfl ?_
  refine mz_Go.run (gs := [mz_kz 0 g0 100, mz_kz 0 g1 100]) (st' := (19, [some (.inr (.inr (some (g0, 100)))), some (.inr (.inr (some (g1, 100))))], [.inr (.inr (some (g1, 109))), .inr (.inr (some (g0, 109)))], q1)) bX6_copyFrom_11 oX6_copyFrom_11 rfl ⟨hg0, hg1, trivial⟩ ?_
  obtain ⟨q2, hq2, h⟩ := mz_bd_some h
  refine mz_Go.callV (I := IX6_copyFrom) (J := IX1_copyFrom) (as := [.inr (.inr (some (g1, 109)))]) (ci := 1) (g := g0) (o := 109) (idx := 64) (pl := 894) (rest := []) (mX1_copyFrom g0 g1 q1 hg0 hg1 q2 hq2) kX1_copyFrom vX1_copyFrom (by decide +kernel) (by decide +kernel) (by decide +kernel) rfl rfl ⟨rfl, rfl⟩ rfl rfl hg0 rfl ?_
  refine mz_Go.run (gs := [mz_kz 0 g0 100, mz_kz 0 g1 100]) (st' := (30, [some (.inr (.inr (some (g0, 100)))), some (.inr (.inr (some (g1, 100))))], [.inr (.inr (some (g1, 113))), .inr (.inr (some (g0, 113)))], q2)) bX6_copyFrom_22 oX6_copyFrom_22 rfl ⟨hg0, hg1, trivial⟩ ?_
  obtain ⟨q3, hq3, h⟩ := mz_bd_some h
  refine mz_Go.callV (I := IX6_copyFrom) (J := IX2_copyFrom) (as := [.inr (.inr (some (g1, 113)))]) (ci := 2) (g := g0) (o := 113) (idx := 67) (pl := 899) (rest := []) (mX2_copyFrom g0 g1 q2 hg0 hg1 q3 hq3) kX2_copyFrom vX2_copyFrom (by decide +kernel) (by decide +kernel) (by decide +kernel) rfl rfl ⟨rfl, rfl⟩ rfl rfl hg0 rfl ?_
  refine mz_Go.run (gs := [mz_kz 0 g0 100, mz_kz 0 g1 100]) (st' := (41, [some (.inr (.inr (some (g0, 100)))), some (.inr (.inr (some (g1, 100))))], [.inr (.inr (some (g1, 117))), .inr (.inr (some (g0, 117)))], q3)) bX6_copyFrom_33 oX6_copyFrom_33 rfl ⟨hg0, hg1, trivial⟩ ?_
  obtain ⟨q4, hq4, h⟩ := mz_bd_some h
  refine mz_Go.callV (I := IX6_copyFrom) (J := IX0_copyFrom) (as := [.inr (.inr (some (g1, 117)))]) (ci := 0) (g := g0) (o := 117) (idx := 70) (pl := 904) (rest := []) (mX0_copyFrom g0 g1 q3 hg0 hg1 q4 hq4) kX0_copyFrom vX0_copyFrom (by decide +kernel) (by decide +kernel) (by decide +kernel) rfl rfl ⟨rfl, rfl⟩ rfl rfl hg0 rfl ?_
  refine mz_Go.run (gs := [mz_kz 0 g0 100, mz_kz 0 g1 100]) (st' := (52, [some (.inr (.inr (some (g0, 100)))), some (.inr (.inr (some (g1, 100))))], [.inr (.inr (some (g1, 119))), .inr (.inr (some (g0, 119)))], q4)) bX6_copyFrom_44 oX6_copyFrom_44 rfl ⟨hg0, hg1, trivial⟩ ?_
  obtain ⟨q5, hq5, h⟩ := mz_bd_some h
  refine mz_Go.callV (I := IX6_copyFrom) (J := IX9_copyFrom) (as := [.inr (.inr (some (g1, 119)))]) (ci := 9) (g := g0) (o := 119) (idx := 73) (pl := 909) (rest := []) (mX9_copyFrom g0 g1 q4 hg0 hg1 q5 hq5) kX9_copyFrom vX9_copyFrom (by decide +kernel) (by decide +kernel) (by decide +kernel) rfl rfl ⟨rfl, rfl⟩ rfl rfl hg0 rfl ?_
  refine mz_Go.run (gs := [mz_kz 0 g1 100, mz_kz 0 g0 100, mz_kz 0 g1 100, mz_kz 0 g0 100]) (st' := (71, [some (.inr (.inr (some (g0, 100)))), some (.inr (.inr (some (g1, 100))))], [], (mz_wi (mz_wi q5 g0 100 5 (q5.1 g1 100 5)) g0 100 6 ((mz_wi q5 g0 100 5 (q5.1 g1 100 5)).1 g1 100 6)))) bX6_copyFrom_55 oX6_copyFrom_55 rfl ⟨hg1, hg0, hg1, hg0, trivial⟩ ?_
  cases h
  exact mz_Go.retv (by decide +kernel) rfl ⟨Nat.le_refl _, Nat.le_refl _⟩ rfl
def bX6_regretOf_0 : List mz_E := [(0, .aload_n 0, 0, 0, 0, 0, 0), (1, .getfield 12, 6, 0, 474, 0, 0)]
theorem oX6_regretOf_0 : bX6_regretOf_0.all (mz_ok RX6 cX6_regretOf 3) = true := by decide +kernel
def bX6_regretOf_7 : List mz_E := [(7, .aload_n 0, 0, 0, 0, 0, 0), (8, .getfield 12, 6, 0, 474, 0, 0), (11, .getfield 86, 4, 9, 320, 0, 0), (14, .iload_n 1, 0, 0, 0, 0, 0), (15, .iaload, 0, 0, 0, 0, 0), (16, .isub, 0, 0, 0, 0, 0), (17, .istore_n 2, 0, 0, 0, 0, 0), (18, .aload_n 0, 0, 0, 0, 0, 0), (19, .getfield 12, 6, 0, 474, 0, 0), (22, .getfield 119, 4, 6, 311, 0, 0), (25, .iload_n 1, 0, 0, 0, 0, 0), (26, .iaload, 0, 0, 0, 0, 0), (27, .iload_n 2, 0, 0, 0, 0, 0), (28, .imul, 0, 0, 0, 0, 0), (29, .aload_n 0, 0, 0, 0, 0, 0), (30, .getfield 28, 6, 2, 482, 0, 0), (33, .iload_n 1, 0, 0, 0, 0, 0)]
theorem oX6_regretOf_7 : bX6_regretOf_7.all (mz_ok RX6 cX6_regretOf 3) = true := by decide +kernel
def bX6_regretOf_37 : List mz_E := [(37, .isub, 0, 0, 0, 0, 0)]
theorem oX6_regretOf_37 : bX6_regretOf_37.all (mz_ok RX6 cX6_regretOf 3) = true := by decide +kernel
abbrev IX6_regretOf : mz_I := (yX6_regretOf, cX6_regretOf, 3, (some .int), 0, 1, 0, 0)
theorem kX6_regretOf : mz_okm IX6_regretOf 1285 134 1283 1 = true := by decide +kernel
theorem vX6_regretOf : mz_okV IX6_regretOf 1283 1284 = true := by decide +kernel
def fX6_regretOf (g0 : Nat) (x1 : Int32) (D : mz_D) : Option Int32 := (Option.bind (fX4_paidByAll g0 D) fun q1 => (mz_gd (mz_ix x1 6) (Option.bind (fX2_balanceOf g0 x1 D) fun q3 => (some (((D.1 g0 105 (x1).toNatClampNeg) * (q1 - (D.1 g0 108 (x1).toNatClampNeg))) - q3)))))
set_option maxHeartbeats 4000000 in
theorem mX6_regretOf (g0 : Nat) (x1 : Int32) (D : mz_D) (hg0 : mz_tb g0 = true) (r : Int32) (h : fX6_regretOf g0 x1 D = some r) : mz_Met IX6_regretOf [.inr (.inr (some (g0, 100))), .inl x1] D (some (.inl r), D) := by
  refine mz_Met.of (by decide +kernel) (Nat.le_of_ble_eq_true rfl) ?_
  show mz_Go IX6_regretOf (some (.inl r), D) 0 0 (0, [some (.inr (.inr (some (g0, 100)))), some (.inl x1), none], [], D)
  rw [fX6_regretOf] at h
  refine mz_Go.run (gs := [mz_kz 0 g0 100]) (st' := (4, [some (.inr (.inr (some (g0, 100)))), some (.inl x1), none], [.inr (.inr (some (g0, 101)))], D)) bX6_regretOf_0 oX6_regretOf_0 rfl ⟨hg0, trivial⟩ ?_
  obtain ⟨q1, hq1, h⟩ := mz_bd_some h
  refine mz_Go.callV (I := IX6_regretOf) (J := IX4_paidByAll) (as := []) (ci := 4) (g := g0) (o := 101) (idx := 116) (pl := 1286) (rest := []) (mX4_paidByAll g0 D hg0 q1 hq1) kX4_paidByAll vX4_paidByAll (by decide +kernel) (by decide +kernel) (by decide +kernel) rfl rfl ⟨rfl, rfl⟩ rfl rfl hg0 rfl ?_
  obtain ⟨hb2, h⟩ := mz_gd_some h
  refine mz_Go.run (gs := [mz_kz 0 g0 100, mz_kz 0 g0 101, mz_kz 0 g0 108, mz_ix x1 6, mz_kz 0 g0 100, mz_kz 0 g0 101, mz_kz 0 g0 105, mz_ix x1 6, mz_kz 0 g0 100]) (st' := (34, [some (.inr (.inr (some (g0, 100)))), some (.inl x1), some (.inl (q1 - (D.1 g0 108 (x1).toNatClampNeg)))], [.inl x1, .inr (.inr (some (g0, 113))), .inl ((D.1 g0 105 (x1).toNatClampNeg) * (q1 - (D.1 g0 108 (x1).toNatClampNeg)))], D)) bX6_regretOf_7 oX6_regretOf_7 rfl ⟨hg0, hg0, hg0, hb2, hg0, hg0, hg0, hb2, hg0, trivial⟩ ?_
  obtain ⟨q3, hq3, h⟩ := mz_bd_some h
  refine mz_Go.callV (I := IX6_regretOf) (J := IX2_balanceOf) (as := [.inl x1]) (ci := 2) (g := g0) (o := 113) (idx := 106) (pl := 1202) (rest := [.inl ((D.1 g0 105 (x1).toNatClampNeg) * (q1 - (D.1 g0 108 (x1).toNatClampNeg)))]) (mX2_balanceOf g0 x1 D hg0 q3 hq3) kX2_balanceOf vX2_balanceOf (by decide +kernel) (by decide +kernel) (by decide +kernel) rfl rfl ⟨rfl, rfl⟩ rfl rfl hg0 rfl ?_
  refine mz_Go.run (gs := []) (st' := (38, [some (.inr (.inr (some (g0, 100)))), some (.inl x1), some (.inl (q1 - (D.1 g0 108 (x1).toNatClampNeg)))], [.inl (((D.1 g0 105 (x1).toNatClampNeg) * (q1 - (D.1 g0 108 (x1).toNatClampNeg))) - q3)], D)) bX6_regretOf_37 oX6_regretOf_37 rfl trivial ?_
  cases h
  exact mz_Go.reti (by decide +kernel) rfl ⟨Nat.le_refl _, Nat.le_refl _⟩ rfl
def bX6_dinnersBy_0 : List mz_E := [(0, .iload_n 1, 0, 0, 0, 0, 0), (1, .aload_n 0, 0, 0, 0, 0, 0), (2, .getfield 12, 6, 0, 474, 0, 0)]
theorem oX6_dinnersBy_0 : bX6_dinnersBy_0.all (mz_ok RX6 cX6_dinnersBy 6) = true := by decide +kernel
def bX6_dinnersBy_11 : List mz_E := [(11, .imul, 0, 0, 0, 0, 0), (12, .istore 4, 0, 0, 0, 0, 0), (14, .iload_n 1, 0, 0, 0, 0, 0), (15, .iload_n 2, 0, 0, 0, 0, 0), (16, .imul, 0, 0, 0, 0, 0), (17, .aload_n 0, 0, 0, 0, 0, 0), (18, .getfield 28, 6, 2, 482, 0, 0), (21, .iload_n 3, 0, 0, 0, 0, 0)]
theorem oX6_dinnersBy_11 : bX6_dinnersBy_11.all (mz_ok RX6 cX6_dinnersBy 6) = true := by decide +kernel
def bX6_dinnersBy_25 : List mz_E := [(25, .isub, 0, 0, 0, 0, 0), (26, .istore 5, 0, 0, 0, 0, 0), (28, .iload 4, 0, 0, 0, 0, 0), (30, .ifCond .le 24, 0, 54, 0, 0, 0)]
theorem oX6_dinnersBy_25 : bX6_dinnersBy_25.all (mz_ok RX6 cX6_dinnersBy 6) = true := by decide +kernel
def bX6_dinnersBy_54 : List mz_E := [(54, .iconst (-1), 0, 0, 0, -1, 0)]
theorem oX6_dinnersBy_54 : bX6_dinnersBy_54.all (mz_ok RX6 cX6_dinnersBy 6) = true := by decide +kernel
def bX6_dinnersBy_33 : List mz_E := [(33, .iload 5, 0, 0, 0, 0, 0), (35, .ifCond .lt 19, 0, 54, 0, 0, 0)]
theorem oX6_dinnersBy_33 : bX6_dinnersBy_33.all (mz_ok RX6 cX6_dinnersBy 6) = true := by decide +kernel
def bX6_dinnersBy_38 : List mz_E := [(38, .iload 5, 0, 0, 0, 0, 0), (40, .iload 4, 0, 0, 0, 0, 0), (42, .irem, 0, 0, 0, 0, 0), (43, .ifCond .ne 11, 0, 54, 0, 0, 0)]
theorem oX6_dinnersBy_38 : bX6_dinnersBy_38.all (mz_ok RX6 cX6_dinnersBy 6) = true := by decide +kernel
def bX6_dinnersBy_46 : List mz_E := [(46, .iload 5, 0, 0, 0, 0, 0), (48, .iload 4, 0, 0, 0, 0, 0), (50, .idiv, 0, 0, 0, 0, 0), (51, .goto 4, 0, 55, 0, 0, 0)]
theorem oX6_dinnersBy_46 : bX6_dinnersBy_46.all (mz_ok RX6 cX6_dinnersBy 6) = true := by decide +kernel
abbrev IX6_dinnersBy : mz_I := (yX6_dinnersBy, cX6_dinnersBy, 6, (some .int), 0, 2, 0, 0)
theorem kX6_dinnersBy : mz_okm IX6_dinnersBy 1386 134 1384 3 = true := by decide +kernel
theorem vX6_dinnersBy : mz_okV IX6_dinnersBy 1384 1385 = true := by decide +kernel
def fX6_dinnersBy (g0 : Nat) (x1 : Int32) (x2 : Int32) (x3 : Int32) (D : mz_D) : Option Int32 := (Option.bind (fX2_balanceOf g0 x3 D) fun q1 => (if (x1 * (fJ6_bitCount_0f7a4 (fX4_heads g0 D))) ≤ 0 then (some (-1 : Int32)) else (if ((x1 * x2) - q1) < 0 then (some (-1 : Int32)) else (mz_gd (mz_nz (x1 * (fJ6_bitCount_0f7a4 (fX4_heads g0 D)))) (if (((x1 * x2) - q1) - ((x1 * x2) - q1) / (x1 * (fJ6_bitCount_0f7a4 (fX4_heads g0 D))) * (x1 * (fJ6_bitCount_0f7a4 (fX4_heads g0 D)))) = 0 then (some (((x1 * x2) - q1) / (x1 * (fJ6_bitCount_0f7a4 (fX4_heads g0 D))))) else (some (-1 : Int32)))))))
set_option maxHeartbeats 4000000 in
theorem mX6_dinnersBy (g0 : Nat) (x1 : Int32) (x2 : Int32) (x3 : Int32) (D : mz_D) (hg0 : mz_tb g0 = true) (r : Int32) (h : fX6_dinnersBy g0 x1 x2 x3 D = some r) : mz_Met IX6_dinnersBy [.inr (.inr (some (g0, 100))), .inl x1, .inl x2, .inl x3] D (some (.inl r), D) := by
  refine mz_Met.of (by decide +kernel) (Nat.le_of_ble_eq_true rfl) ?_
  show mz_Go IX6_dinnersBy (some (.inl r), D) 0 0 (0, [some (.inr (.inr (some (g0, 100)))), some (.inl x1), some (.inl x2), some (.inl x3), none, none], [], D)
  rw [fX6_dinnersBy] at h
  refine mz_Go.run (gs := [mz_kz 0 g0 100]) (st' := (5, [some (.inr (.inr (some (g0, 100)))), some (.inl x1), some (.inl x2), some (.inl x3), none, none], [.inr (.inr (some (g0, 101))), .inl x1], D)) bX6_dinnersBy_0 oX6_dinnersBy_0 rfl ⟨hg0, trivial⟩ ?_
  refine mz_Go.callV (I := IX6_dinnersBy) (J := IX4_heads) (as := []) (ci := 4) (g := g0) (o := 101) (idx := 94) (pl := 1196) (rest := [.inl x1]) (mX4_heads g0 D hg0 _ rfl) kX4_heads vX4_heads (by decide +kernel) (by decide +kernel) (by decide +kernel) rfl rfl ⟨rfl, rfl⟩ rfl rfl hg0 rfl ?_
  refine mz_Go.callS (I := IX6_dinnersBy) (J := IJ6_bitCount_0f7a4) (as := [.inl (fX4_heads g0 D)]) (idx := 129) (pl := 1387) (rest := [.inl x1]) (mJ6_bitCount_0f7a4 (fX4_heads g0 D) D _ rfl) kJ6_bitCount_0f7a4 vJ6_bitCount_0f7a4 (by decide +kernel) (by decide +kernel) (by decide +kernel) rfl rfl ⟨rfl, rfl⟩ rfl ?_
  refine mz_Go.run (gs := [mz_kz 0 g0 100]) (st' := (22, [some (.inr (.inr (some (g0, 100)))), some (.inl x1), some (.inl x2), some (.inl x3), some (.inl (x1 * (fJ6_bitCount_0f7a4 (fX4_heads g0 D)))), none], [.inl x3, .inr (.inr (some (g0, 113))), .inl (x1 * x2)], D)) bX6_dinnersBy_11 oX6_dinnersBy_11 rfl ⟨hg0, trivial⟩ ?_
  obtain ⟨q1, hq1, h⟩ := mz_bd_some h
  refine mz_Go.callV (I := IX6_dinnersBy) (J := IX2_balanceOf) (as := [.inl x3]) (ci := 2) (g := g0) (o := 113) (idx := 106) (pl := 1202) (rest := [.inl (x1 * x2)]) (mX2_balanceOf g0 x3 D hg0 q1 hq1) kX2_balanceOf vX2_balanceOf (by decide +kernel) (by decide +kernel) (by decide +kernel) rfl rfl ⟨rfl, rfl⟩ rfl rfl hg0 rfl ?_
  refine mz_Go.run (gs := []) (st' := (if (x1 * (fJ6_bitCount_0f7a4 (fX4_heads g0 D))) ≤ 0 then (54, [some (.inr (.inr (some (g0, 100)))), some (.inl x1), some (.inl x2), some (.inl x3), some (.inl (x1 * (fJ6_bitCount_0f7a4 (fX4_heads g0 D)))), some (.inl ((x1 * x2) - q1))], [], D) else (33, [some (.inr (.inr (some (g0, 100)))), some (.inl x1), some (.inl x2), some (.inl x3), some (.inl (x1 * (fJ6_bitCount_0f7a4 (fX4_heads g0 D)))), some (.inl ((x1 * x2) - q1))], [], D))) bX6_dinnersBy_25 oX6_dinnersBy_25 rfl trivial ?_
  refine mz_Go.ite (fun hc2 => ?_) (fun hc2 => ?_)
  · have h := mz_ifp hc2 h
    refine mz_Go.run (gs := []) (st' := (55, [some (.inr (.inr (some (g0, 100)))), some (.inl x1), some (.inl x2), some (.inl x3), some (.inl (x1 * (fJ6_bitCount_0f7a4 (fX4_heads g0 D)))), some (.inl ((x1 * x2) - q1))], [.inl (-1 : Int32)], D)) bX6_dinnersBy_54 oX6_dinnersBy_54 rfl trivial ?_
    cases h
    exact mz_Go.reti (by decide +kernel) rfl ⟨Nat.le_refl _, Nat.le_refl _⟩ rfl
  · have h := mz_ifn hc2 h
    refine mz_Go.run (gs := []) (st' := (if ((x1 * x2) - q1) < 0 then (54, [some (.inr (.inr (some (g0, 100)))), some (.inl x1), some (.inl x2), some (.inl x3), some (.inl (x1 * (fJ6_bitCount_0f7a4 (fX4_heads g0 D)))), some (.inl ((x1 * x2) - q1))], [], D) else (38, [some (.inr (.inr (some (g0, 100)))), some (.inl x1), some (.inl x2), some (.inl x3), some (.inl (x1 * (fJ6_bitCount_0f7a4 (fX4_heads g0 D)))), some (.inl ((x1 * x2) - q1))], [], D))) bX6_dinnersBy_33 oX6_dinnersBy_33 rfl trivial ?_
    refine mz_Go.ite (fun hc3 => ?_) (fun hc3 => ?_)
    · have h := mz_ifp hc3 h
      refine mz_Go.run (gs := []) (st' := (55, [some (.inr (.inr (some (g0, 100)))), some (.inl x1), some (.inl x2), some (.inl x3), some (.inl (x1 * (fJ6_bitCount_0f7a4 (fX4_heads g0 D)))), some (.inl ((x1 * x2) - q1))], [.inl (-1 : Int32)], D)) bX6_dinnersBy_54 oX6_dinnersBy_54 rfl trivial ?_
      cases h
      exact mz_Go.reti (by decide +kernel) rfl ⟨Nat.le_refl _, Nat.le_refl _⟩ rfl
    · have h := mz_ifn hc3 h
      obtain ⟨hb4, h⟩ := mz_gd_some h
      refine mz_Go.run (gs := [mz_nz (x1 * (fJ6_bitCount_0f7a4 (fX4_heads g0 D)))]) (st' := (if (((x1 * x2) - q1) - ((x1 * x2) - q1) / (x1 * (fJ6_bitCount_0f7a4 (fX4_heads g0 D))) * (x1 * (fJ6_bitCount_0f7a4 (fX4_heads g0 D)))) = 0 then (46, [some (.inr (.inr (some (g0, 100)))), some (.inl x1), some (.inl x2), some (.inl x3), some (.inl (x1 * (fJ6_bitCount_0f7a4 (fX4_heads g0 D)))), some (.inl ((x1 * x2) - q1))], [], D) else (54, [some (.inr (.inr (some (g0, 100)))), some (.inl x1), some (.inl x2), some (.inl x3), some (.inl (x1 * (fJ6_bitCount_0f7a4 (fX4_heads g0 D)))), some (.inl ((x1 * x2) - q1))], [], D))) bX6_dinnersBy_38 oX6_dinnersBy_38 rfl ⟨hb4, trivial⟩ ?_
      refine mz_Go.ite (fun hc5 => ?_) (fun hc5 => ?_)
      · have h := mz_ifp hc5 h
        refine mz_Go.run (gs := [mz_nz (x1 * (fJ6_bitCount_0f7a4 (fX4_heads g0 D)))]) (st' := (55, [some (.inr (.inr (some (g0, 100)))), some (.inl x1), some (.inl x2), some (.inl x3), some (.inl (x1 * (fJ6_bitCount_0f7a4 (fX4_heads g0 D)))), some (.inl ((x1 * x2) - q1))], [.inl (((x1 * x2) - q1) / (x1 * (fJ6_bitCount_0f7a4 (fX4_heads g0 D))))], D)) bX6_dinnersBy_46 oX6_dinnersBy_46 rfl ⟨hb4, trivial⟩ ?_
        cases h
        exact mz_Go.reti (by decide +kernel) rfl ⟨Nat.le_refl _, Nat.le_refl _⟩ rfl
      · have h := mz_ifn hc5 h
        refine mz_Go.run (gs := []) (st' := (55, [some (.inr (.inr (some (g0, 100)))), some (.inl x1), some (.inl x2), some (.inl x3), some (.inl (x1 * (fJ6_bitCount_0f7a4 (fX4_heads g0 D)))), some (.inl ((x1 * x2) - q1))], [.inl (-1 : Int32)], D)) bX6_dinnersBy_54 oX6_dinnersBy_54 rfl trivial ?_
        cases h
        exact mz_Go.reti (by decide +kernel) rfl ⟨Nat.le_refl _, Nat.le_refl _⟩ rfl
def bX6_isEvenBehind_0 : List mz_E := [(0, .aload_n 0, 0, 0, 0, 0, 0), (1, .getfield 12, 6, 0, 474, 0, 0)]
theorem oX6_isEvenBehind_0 : bX6_isEvenBehind_0.all (mz_ok RX6 cX6_isEvenBehind 7) = true := by decide +kernel
def bX6_isEvenBehind_7 : List mz_E := [(7, .istore_n 3, 0, 0, 0, 0, 0), (8, .iconst 0, 0, 0, 0, 0, 0), (9, .istore 4, 0, 0, 0, 0, 0), (11, .iconst 0, 0, 0, 0, 0, 0), (12, .istore 5, 0, 0, 0, 0, 0)]
theorem oX6_isEvenBehind_7 : bX6_isEvenBehind_7.all (mz_ok RX6 cX6_isEvenBehind 7) = true := by decide +kernel
def bX6_isEvenBehind_14 : List mz_E := [(14, .iload 5, 0, 0, 0, 0, 0), (16, .aload_n 0, 0, 0, 0, 0, 0), (17, .getfield 12, 6, 0, 474, 0, 0), (20, .getfield 76, 4, 0, 288, 0, 0), (23, .if_icmp .ge 43, 0, 66, 0, 0, 0)]
theorem oX6_isEvenBehind_14 : bX6_isEvenBehind_14.all (mz_ok RX6 cX6_isEvenBehind 7) = true := by decide +kernel
def bX6_isEvenBehind_66 : List mz_E := [(66, .iload 4, 0, 0, 0, 0, 0), (68, .iload_n 2, 0, 0, 0, 0, 0), (69, .if_icmp .ne 7, 0, 76, 0, 0, 0)]
theorem oX6_isEvenBehind_66 : bX6_isEvenBehind_66.all (mz_ok RX6 cX6_isEvenBehind 7) = true := by decide +kernel
def bX6_isEvenBehind_72 : List mz_E := [(72, .iconst 1, 0, 0, 0, 1, 0), (73, .goto 4, 0, 77, 0, 0, 0)]
theorem oX6_isEvenBehind_72 : bX6_isEvenBehind_72.all (mz_ok RX6 cX6_isEvenBehind 7) = true := by decide +kernel
def bX6_isEvenBehind_76 : List mz_E := [(76, .iconst 0, 0, 0, 0, 0, 0)]
theorem oX6_isEvenBehind_76 : bX6_isEvenBehind_76.all (mz_ok RX6 cX6_isEvenBehind 7) = true := by decide +kernel
def bX6_isEvenBehind_26 : List mz_E := [(26, .iload_n 3, 0, 0, 0, 0, 0), (27, .iload 5, 0, 0, 0, 0, 0)]
theorem oX6_isEvenBehind_26 : bX6_isEvenBehind_26.all (mz_ok RX6 cX6_isEvenBehind 7) = true := by decide +kernel
def bX6_isEvenBehind_32 : List mz_E := [(32, .ifCond .eq 28, 0, 60, 0, 0, 0)]
theorem oX6_isEvenBehind_32 : bX6_isEvenBehind_32.all (mz_ok RX6 cX6_isEvenBehind 7) = true := by decide +kernel
def bX6_isEvenBehind_60 : List mz_E := [(60, .iinc 5 1, 0, 0, 0, 1, 0), (63, .goto (-49), 0, 14, 0, 0, 0)]
theorem oX6_isEvenBehind_60 : bX6_isEvenBehind_60.all (mz_ok RX6 cX6_isEvenBehind 7) = true := by decide +kernel
def bX6_isEvenBehind_35 : List mz_E := [(35, .aload_n 0, 0, 0, 0, 0, 0), (36, .iload_n 1, 0, 0, 0, 0, 0), (37, .iload_n 2, 0, 0, 0, 0, 0), (38, .iload 5, 0, 0, 0, 0, 0)]
theorem oX6_isEvenBehind_35 : bX6_isEvenBehind_35.all (mz_ok RX6 cX6_isEvenBehind 7) = true := by decide +kernel
def bX6_isEvenBehind_43 : List mz_E := [(43, .istore 6, 0, 0, 0, 0, 0), (45, .iload 6, 0, 0, 0, 0, 0), (47, .iconst (-1), 0, 0, 0, -1, 0), (48, .if_icmp .ne 5, 0, 53, 0, 0, 0)]
theorem oX6_isEvenBehind_43 : bX6_isEvenBehind_43.all (mz_ok RX6 cX6_isEvenBehind 7) = true := by decide +kernel
def bX6_isEvenBehind_51 : List mz_E := [(51, .iconst 0, 0, 0, 0, 0, 0)]
theorem oX6_isEvenBehind_51 : bX6_isEvenBehind_51.all (mz_ok RX6 cX6_isEvenBehind 7) = true := by decide +kernel
def bX6_isEvenBehind_53 : List mz_E := [(53, .iload 4, 0, 0, 0, 0, 0), (55, .iload 6, 0, 0, 0, 0, 0), (57, .iadd, 0, 0, 0, 0, 0), (58, .istore 4, 0, 0, 0, 0, 0), (60, .iinc 5 1, 0, 0, 0, 1, 0), (63, .goto (-49), 0, 14, 0, 0, 0)]
theorem oX6_isEvenBehind_53 : bX6_isEvenBehind_53.all (mz_ok RX6 cX6_isEvenBehind 7) = true := by decide +kernel
abbrev IX6_isEvenBehind : mz_I := (yX6_isEvenBehind, cX6_isEvenBehind, 7, (some .boolean), 0, 3, 0, 0)
theorem kX6_isEvenBehind : mz_okm IX6_isEvenBehind 1382 134 1381 2 = true := by decide +kernel
theorem vX6_isEvenBehind : mz_okV IX6_isEvenBehind 1381 32 = true := by decide +kernel
def fX6_isEvenBehind_14 (g0 : Nat) (D : mz_D) : Nat → Int32 → Int32 → Int32 → Int32 → Int32 → Option Int32
  | 0 => fun _ _ _ _ _ => none
  | n + 1 => fun x1 x2 x3 x4 x5 => (if (D.1 g0 101 0) ≤ x5 then (if x4 = x2 then (some (1 : Int32)) else (some (0 : Int32))) else (if (fX11_isIn x3 x5) = 0 then ((fX6_isEvenBehind_14 g0 D n) x1 x2 x3 x4 (x5 + (1 : Int32))) else (Option.bind (fX6_dinnersBy g0 x1 x2 x5 D) fun q4 => (if q4 = (-1 : Int32) then (some (0 : Int32)) else ((fX6_isEvenBehind_14 g0 D n) x1 x2 x3 (x4 + q4) (x5 + (1 : Int32)))))))
set_option maxHeartbeats 4000000 in
theorem tX6_isEvenBehind_14 (g0 : Nat) (D : mz_D) (hg0 : mz_tb g0 = true) (r : Int32) : ∀ (n : Nat) (x1 : Int32) (x2 : Int32) (x3 : Int32) (x4 : Int32) (x5 : Int32), fX6_isEvenBehind_14 g0 D n x1 x2 x3 x4 x5 = some r → mz_Go IX6_isEvenBehind (some (.inl r), D) 0 0 (14, [some (.inr (.inr (some (g0, 100)))), some (.inl x1), some (.inl x2), some (.inl x3), some (.inl x4), some (.inl x5), none], [], D) := by
  intro n
  induction n with
  | zero => intro x1 x2 x3 x4 x5 h; have h : (none : Option Int32) = some r := h; cases h
  | succ n ih =>
    intro x1 x2 x3 x4 x5 h
    rw [fX6_isEvenBehind_14] at h
    refine mz_Go.run (gs := [mz_kz 0 g0 100, mz_kz 0 g0 101]) (st' := (if (D.1 g0 101 0) ≤ x5 then (66, [some (.inr (.inr (some (g0, 100)))), some (.inl x1), some (.inl x2), some (.inl x3), some (.inl x4), some (.inl x5), none], [], D) else (26, [some (.inr (.inr (some (g0, 100)))), some (.inl x1), some (.inl x2), some (.inl x3), some (.inl x4), some (.inl x5), none], [], D))) bX6_isEvenBehind_14 oX6_isEvenBehind_14 rfl ⟨hg0, hg0, trivial⟩ ?_
    refine mz_Go.ite (fun hc1 => ?_) (fun hc1 => ?_)
    · have h := mz_ifp hc1 h
      refine mz_Go.run (gs := []) (st' := (if x4 = x2 then (72, [some (.inr (.inr (some (g0, 100)))), some (.inl x1), some (.inl x2), some (.inl x3), some (.inl x4), some (.inl x5), none], [], D) else (76, [some (.inr (.inr (some (g0, 100)))), some (.inl x1), some (.inl x2), some (.inl x3), some (.inl x4), some (.inl x5), none], [], D))) bX6_isEvenBehind_66 oX6_isEvenBehind_66 rfl trivial ?_
      refine mz_Go.ite (fun hc2 => ?_) (fun hc2 => ?_)
      · have h := mz_ifp hc2 h
        refine mz_Go.run (gs := []) (st' := (77, [some (.inr (.inr (some (g0, 100)))), some (.inl x1), some (.inl x2), some (.inl x3), some (.inl x4), some (.inl x5), none], [.inl (1 : Int32)], D)) bX6_isEvenBehind_72 oX6_isEvenBehind_72 rfl trivial ?_
        cases h
        exact mz_Go.retz (by decide +kernel) rfl ⟨Nat.le_refl _, Nat.le_refl _⟩ (by decide) rfl
      · have h := mz_ifn hc2 h
        refine mz_Go.run (gs := []) (st' := (77, [some (.inr (.inr (some (g0, 100)))), some (.inl x1), some (.inl x2), some (.inl x3), some (.inl x4), some (.inl x5), none], [.inl (0 : Int32)], D)) bX6_isEvenBehind_76 oX6_isEvenBehind_76 rfl trivial ?_
        cases h
        exact mz_Go.retz (by decide +kernel) rfl ⟨Nat.le_refl _, Nat.le_refl _⟩ (by decide) rfl
    · have h := mz_ifn hc1 h
      refine mz_Go.run (gs := []) (st' := (29, [some (.inr (.inr (some (g0, 100)))), some (.inl x1), some (.inl x2), some (.inl x3), some (.inl x4), some (.inl x5), none], [.inl x5, .inl x3], D)) bX6_isEvenBehind_26 oX6_isEvenBehind_26 rfl trivial ?_
      refine mz_Go.callSN (I := IX6_isEvenBehind) (J := IX11_isIn) (as := [.inl x3, .inl x5]) (idx := 98) (pl := 1197) (rest := []) (mX11_isIn x3 x5 D _ rfl) kX11_isIn vX11_isIn (by decide +kernel) (by decide +kernel) (by decide +kernel) rfl rfl ⟨rfl, rfl⟩ rfl ?_
      refine mz_Go.run (gs := []) (st' := (if (fX11_isIn x3 x5) = 0 then (60, [some (.inr (.inr (some (g0, 100)))), some (.inl x1), some (.inl x2), some (.inl x3), some (.inl x4), some (.inl x5), none], [], D) else (35, [some (.inr (.inr (some (g0, 100)))), some (.inl x1), some (.inl x2), some (.inl x3), some (.inl x4), some (.inl x5), none], [], D))) bX6_isEvenBehind_32 oX6_isEvenBehind_32 rfl trivial ?_
      refine mz_Go.ite (fun hc3 => ?_) (fun hc3 => ?_)
      · have h := mz_ifp hc3 h
        refine mz_Go.run (gs := []) (st' := (14, [some (.inr (.inr (some (g0, 100)))), some (.inl x1), some (.inl x2), some (.inl x3), some (.inl x4), some (.inl (x5 + (1 : Int32))), none], [], D)) bX6_isEvenBehind_60 oX6_isEvenBehind_60 rfl trivial ?_
        exact mz_Go.drop [true, true, true, true, true, true, false] (ih x1 x2 x3 x4 (x5 + (1 : Int32)) h)
      · have h := mz_ifn hc3 h
        refine mz_Go.run (gs := []) (st' := (40, [some (.inr (.inr (some (g0, 100)))), some (.inl x1), some (.inl x2), some (.inl x3), some (.inl x4), some (.inl x5), none], [.inl x5, .inl x2, .inl x1, .inr (.inr (some (g0, 100)))], D)) bX6_isEvenBehind_35 oX6_isEvenBehind_35 rfl trivial ?_
        obtain ⟨q4, hq4, h⟩ := mz_bd_some h
        refine mz_Go.callV (I := IX6_isEvenBehind) (J := IX6_dinnersBy) (as := [.inl x1, .inl x2, .inl x5]) (ci := 6) (g := g0) (o := 100) (idx := 125) (pl := 1383) (rest := []) (mX6_dinnersBy g0 x1 x2 x5 D hg0 q4 hq4) kX6_dinnersBy vX6_dinnersBy (by decide +kernel) (by decide +kernel) (by decide +kernel) rfl rfl ⟨rfl, rfl⟩ rfl rfl hg0 rfl ?_
        refine mz_Go.run (gs := []) (st' := (if q4 = (-1 : Int32) then (51, [some (.inr (.inr (some (g0, 100)))), some (.inl x1), some (.inl x2), some (.inl x3), some (.inl x4), some (.inl x5), some (.inl q4)], [], D) else (53, [some (.inr (.inr (some (g0, 100)))), some (.inl x1), some (.inl x2), some (.inl x3), some (.inl x4), some (.inl x5), some (.inl q4)], [], D))) bX6_isEvenBehind_43 oX6_isEvenBehind_43 rfl trivial ?_
        refine mz_Go.ite (fun hc5 => ?_) (fun hc5 => ?_)
        · have h := mz_ifp hc5 h
          refine mz_Go.run (gs := []) (st' := (52, [some (.inr (.inr (some (g0, 100)))), some (.inl x1), some (.inl x2), some (.inl x3), some (.inl x4), some (.inl x5), some (.inl q4)], [.inl (0 : Int32)], D)) bX6_isEvenBehind_51 oX6_isEvenBehind_51 rfl trivial ?_
          cases h
          exact mz_Go.retz (by decide +kernel) rfl ⟨Nat.le_refl _, Nat.le_refl _⟩ (by decide) rfl
        · have h := mz_ifn hc5 h
          refine mz_Go.run (gs := []) (st' := (14, [some (.inr (.inr (some (g0, 100)))), some (.inl x1), some (.inl x2), some (.inl x3), some (.inl (x4 + q4)), some (.inl (x5 + (1 : Int32))), some (.inl q4)], [], D)) bX6_isEvenBehind_53 oX6_isEvenBehind_53 rfl trivial ?_
          exact mz_Go.drop [true, true, true, true, true, true, false] (ih x1 x2 x3 (x4 + q4) (x5 + (1 : Int32)) h)
def fX6_isEvenBehind (g0 : Nat) (x1 : Int32) (x2 : Int32) (D : mz_D) : Option Int32 := (fX6_isEvenBehind_14 g0 D mz_N x1 x2 (fX4_heads g0 D) (0 : Int32) (0 : Int32))
set_option maxHeartbeats 4000000 in
theorem mX6_isEvenBehind (g0 : Nat) (x1 : Int32) (x2 : Int32) (D : mz_D) (hg0 : mz_tb g0 = true) (r : Int32) (h : fX6_isEvenBehind g0 x1 x2 D = some r) : mz_Met IX6_isEvenBehind [.inr (.inr (some (g0, 100))), .inl x1, .inl x2] D (some (.inl r), D) := by
  refine mz_Met.of (by decide +kernel) (Nat.le_of_ble_eq_true rfl) ?_
  show mz_Go IX6_isEvenBehind (some (.inl r), D) 0 0 (0, [some (.inr (.inr (some (g0, 100)))), some (.inl x1), some (.inl x2), none, none, none, none], [], D)
  rw [fX6_isEvenBehind] at h
  refine mz_Go.run (gs := [mz_kz 0 g0 100]) (st' := (4, [some (.inr (.inr (some (g0, 100)))), some (.inl x1), some (.inl x2), none, none, none, none], [.inr (.inr (some (g0, 101)))], D)) bX6_isEvenBehind_0 oX6_isEvenBehind_0 rfl ⟨hg0, trivial⟩ ?_
  refine mz_Go.callV (I := IX6_isEvenBehind) (J := IX4_heads) (as := []) (ci := 4) (g := g0) (o := 101) (idx := 94) (pl := 1196) (rest := []) (mX4_heads g0 D hg0 _ rfl) kX4_heads vX4_heads (by decide +kernel) (by decide +kernel) (by decide +kernel) rfl rfl ⟨rfl, rfl⟩ rfl rfl hg0 rfl ?_
  refine mz_Go.run (gs := []) (st' := (14, [some (.inr (.inr (some (g0, 100)))), some (.inl x1), some (.inl x2), some (.inl (fX4_heads g0 D)), some (.inl (0 : Int32)), some (.inl (0 : Int32)), none], [], D)) bX6_isEvenBehind_7 oX6_isEvenBehind_7 rfl trivial ?_
  exact mz_Go.drop [true, true, true, true, true, true, false] (tX6_isEvenBehind_14 g0 D hg0 r mz_N x1 x2 (fX4_heads g0 D) (0 : Int32) (0 : Int32) h)
def bX6_fewestDinners_0 : List mz_E := [(0, .iconst 0, 0, 0, 0, 0, 0), (1, .istore_n 2, 0, 0, 0, 0, 0)]
theorem oX6_fewestDinners_0 : bX6_fewestDinners_0.all (mz_ok RX6 cX6_fewestDinners 3) = true := by decide +kernel
def bX6_fewestDinners_2 : List mz_E := [(2, .iload_n 2, 0, 0, 0, 0, 0), (3, .bipush 99, 0, 0, 0, 99, 0), (5, .if_icmp .gt 20, 0, 25, 0, 0, 0)]
theorem oX6_fewestDinners_2 : bX6_fewestDinners_2.all (mz_ok RX6 cX6_fewestDinners 3) = true := by decide +kernel
def bX6_fewestDinners_25 : List mz_E := [(25, .iconst (-1), 0, 0, 0, -1, 0)]
theorem oX6_fewestDinners_25 : bX6_fewestDinners_25.all (mz_ok RX6 cX6_fewestDinners 3) = true := by decide +kernel
def bX6_fewestDinners_8 : List mz_E := [(8, .aload_n 0, 0, 0, 0, 0, 0), (9, .iload_n 1, 0, 0, 0, 0, 0), (10, .iload_n 2, 0, 0, 0, 0, 0)]
theorem oX6_fewestDinners_8 : bX6_fewestDinners_8.all (mz_ok RX6 cX6_fewestDinners 3) = true := by decide +kernel
def bX6_fewestDinners_14 : List mz_E := [(14, .ifCond .eq 5, 0, 19, 0, 0, 0)]
theorem oX6_fewestDinners_14 : bX6_fewestDinners_14.all (mz_ok RX6 cX6_fewestDinners 3) = true := by decide +kernel
def bX6_fewestDinners_19 : List mz_E := [(19, .iinc 2 1, 0, 0, 0, 1, 0), (22, .goto (-20), 0, 2, 0, 0, 0)]
theorem oX6_fewestDinners_19 : bX6_fewestDinners_19.all (mz_ok RX6 cX6_fewestDinners 3) = true := by decide +kernel
def bX6_fewestDinners_17 : List mz_E := [(17, .iload_n 2, 0, 0, 0, 0, 0)]
theorem oX6_fewestDinners_17 : bX6_fewestDinners_17.all (mz_ok RX6 cX6_fewestDinners 3) = true := by decide +kernel
abbrev IX6_fewestDinners : mz_I := (yX6_fewestDinners, cX6_fewestDinners, 3, (some .int), 0, 4, 0, 0)
theorem kX6_fewestDinners : mz_okm IX6_fewestDinners 1378 134 1376 1 = true := by decide +kernel
theorem vX6_fewestDinners : mz_okV IX6_fewestDinners 1376 1377 = true := by decide +kernel
def fX6_fewestDinners_2 (g0 : Nat) (D : mz_D) : Nat → Int32 → Int32 → Option Int32
  | 0 => fun _ _ => none
  | n + 1 => fun x1 x2 => (if (99 : Int32) < x2 then (some (-1 : Int32)) else (Option.bind (fX6_isEvenBehind g0 x1 x2 D) fun q2 => (if q2 = 0 then ((fX6_fewestDinners_2 g0 D n) x1 (x2 + (1 : Int32))) else (some x2))))
set_option maxHeartbeats 4000000 in
theorem tX6_fewestDinners_2 (g0 : Nat) (D : mz_D) (hg0 : mz_tb g0 = true) (r : Int32) : ∀ (n : Nat) (x1 : Int32) (x2 : Int32), fX6_fewestDinners_2 g0 D n x1 x2 = some r → mz_Go IX6_fewestDinners (some (.inl r), D) 0 0 (2, [some (.inr (.inr (some (g0, 100)))), some (.inl x1), some (.inl x2)], [], D) := by
  intro n
  induction n with
  | zero => intro x1 x2 h; have h : (none : Option Int32) = some r := h; cases h
  | succ n ih =>
    intro x1 x2 h
    rw [fX6_fewestDinners_2] at h
    refine mz_Go.run (gs := []) (st' := (if (99 : Int32) < x2 then (25, [some (.inr (.inr (some (g0, 100)))), some (.inl x1), some (.inl x2)], [], D) else (8, [some (.inr (.inr (some (g0, 100)))), some (.inl x1), some (.inl x2)], [], D))) bX6_fewestDinners_2 oX6_fewestDinners_2 rfl trivial ?_
    refine mz_Go.ite (fun hc1 => ?_) (fun hc1 => ?_)
    · have h := mz_ifp hc1 h
      refine mz_Go.run (gs := []) (st' := (26, [some (.inr (.inr (some (g0, 100)))), some (.inl x1), some (.inl x2)], [.inl (-1 : Int32)], D)) bX6_fewestDinners_25 oX6_fewestDinners_25 rfl trivial ?_
      cases h
      exact mz_Go.reti (by decide +kernel) rfl ⟨Nat.le_refl _, Nat.le_refl _⟩ rfl
    · have h := mz_ifn hc1 h
      refine mz_Go.run (gs := []) (st' := (11, [some (.inr (.inr (some (g0, 100)))), some (.inl x1), some (.inl x2)], [.inl x2, .inl x1, .inr (.inr (some (g0, 100)))], D)) bX6_fewestDinners_8 oX6_fewestDinners_8 rfl trivial ?_
      obtain ⟨q2, hq2, h⟩ := mz_bd_some h
      refine mz_Go.callV (I := IX6_fewestDinners) (J := IX6_isEvenBehind) (as := [.inl x1, .inl x2]) (ci := 6) (g := g0) (o := 100) (idx := 122) (pl := 1379) (rest := []) (mX6_isEvenBehind g0 x1 x2 D hg0 q2 hq2) kX6_isEvenBehind vX6_isEvenBehind (by decide +kernel) (by decide +kernel) (by decide +kernel) rfl rfl ⟨rfl, rfl⟩ rfl rfl hg0 rfl ?_
      refine mz_Go.run (gs := []) (st' := (if q2 = 0 then (19, [some (.inr (.inr (some (g0, 100)))), some (.inl x1), some (.inl x2)], [], D) else (17, [some (.inr (.inr (some (g0, 100)))), some (.inl x1), some (.inl x2)], [], D))) bX6_fewestDinners_14 oX6_fewestDinners_14 rfl trivial ?_
      refine mz_Go.ite (fun hc3 => ?_) (fun hc3 => ?_)
      · have h := mz_ifp hc3 h
        refine mz_Go.run (gs := []) (st' := (2, [some (.inr (.inr (some (g0, 100)))), some (.inl x1), some (.inl (x2 + (1 : Int32)))], [], D)) bX6_fewestDinners_19 oX6_fewestDinners_19 rfl trivial ?_
        exact mz_Go.drop [true, true, true] (ih x1 (x2 + (1 : Int32)) h)
      · have h := mz_ifn hc3 h
        refine mz_Go.run (gs := []) (st' := (18, [some (.inr (.inr (some (g0, 100)))), some (.inl x1), some (.inl x2)], [.inl x2], D)) bX6_fewestDinners_17 oX6_fewestDinners_17 rfl trivial ?_
        cases h
        exact mz_Go.reti (by decide +kernel) rfl ⟨Nat.le_refl _, Nat.le_refl _⟩ rfl
def fX6_fewestDinners (g0 : Nat) (x1 : Int32) (D : mz_D) : Option Int32 := (fX6_fewestDinners_2 g0 D mz_N x1 (0 : Int32))
set_option maxHeartbeats 4000000 in
theorem mX6_fewestDinners (g0 : Nat) (x1 : Int32) (D : mz_D) (hg0 : mz_tb g0 = true) (r : Int32) (h : fX6_fewestDinners g0 x1 D = some r) : mz_Met IX6_fewestDinners [.inr (.inr (some (g0, 100))), .inl x1] D (some (.inl r), D) := by
  refine mz_Met.of (by decide +kernel) (Nat.le_of_ble_eq_true rfl) ?_
  show mz_Go IX6_fewestDinners (some (.inl r), D) 0 0 (0, [some (.inr (.inr (some (g0, 100)))), some (.inl x1), none], [], D)
  rw [fX6_fewestDinners] at h
  refine mz_Go.run (gs := []) (st' := (2, [some (.inr (.inr (some (g0, 100)))), some (.inl x1), some (.inl (0 : Int32))], [], D)) bX6_fewestDinners_0 oX6_fewestDinners_0 rfl trivial ?_
  exact mz_Go.drop [true, true, true] (tX6_fewestDinners_2 g0 D hg0 r mz_N x1 (0 : Int32) h)
def bX7_takesTrait_0 : List mz_E := [(0, .aload_n 2, 0, 0, 0, 0, 0), (1, .iload_n 3, 0, 0, 0, 0, 0), (2, .iload 5, 0, 0, 0, 0, 0), (4, .iastore, 0, 0, 0, 0, 0), (5, .aload_n 0, 0, 0, 0, 0, 0), (6, .getfield 9, 7, 0, 758, 0, 0), (9, .getfield 25, 5, 2, 218, 0, 0), (12, .iload_n 1, 0, 0, 0, 0, 0), (13, .if_icmp .eq 5, 0, 18, 0, 0, 0)]
theorem oX7_takesTrait_0 : bX7_takesTrait_0.all (mz_ok RX7 cX7_takesTrait 7) = true := by decide +kernel
def bX7_takesTrait_18 : List mz_E := [(18, .aload_n 0, 0, 0, 0, 0, 0), (19, .getfield 9, 7, 0, 758, 0, 0)]
theorem oX7_takesTrait_18 : bX7_takesTrait_18.all (mz_ok RX7 cX7_takesTrait 7) = true := by decide +kernel
def bX7_takesTrait_25 : List mz_E := [(25, .aload_n 0, 0, 0, 0, 0, 0), (26, .getfield 9, 7, 0, 758, 0, 0), (29, .iconst 0, 0, 0, 0, 0, 0), (30, .iload 4, 0, 0, 0, 0, 0)]
theorem oX7_takesTrait_25 : bX7_takesTrait_25.all (mz_ok RX7 cX7_takesTrait 7) = true := by decide +kernel
def bX7_takesTrait_35 : List mz_E := [(35, .istore 6, 0, 0, 0, 0, 0), (37, .iload 6, 0, 0, 0, 0, 0), (39, .iconst (-1), 0, 0, 0, -1, 0), (40, .if_icmp .ne 5, 0, 45, 0, 0, 0)]
theorem oX7_takesTrait_35 : bX7_takesTrait_35.all (mz_ok RX7 cX7_takesTrait 7) = true := by decide +kernel
def bX7_takesTrait_43 : List mz_E := [(43, .iconst 0, 0, 0, 0, 0, 0)]
theorem oX7_takesTrait_43 : bX7_takesTrait_43.all (mz_ok RX7 cX7_takesTrait 7) = true := by decide +kernel
def bX7_takesTrait_45 : List mz_E := [(45, .aload_n 2, 0, 0, 0, 0, 0), (46, .iload_n 3, 0, 0, 0, 0, 0), (47, .iload 6, 0, 0, 0, 0, 0), (49, .iastore, 0, 0, 0, 0, 0), (50, .iconst 1, 0, 0, 0, 1, 0)]
theorem oX7_takesTrait_45 : bX7_takesTrait_45.all (mz_ok RX7 cX7_takesTrait 7) = true := by decide +kernel
def bX7_takesTrait_16 : List mz_E := [(16, .iconst 1, 0, 0, 0, 1, 0)]
theorem oX7_takesTrait_16 : bX7_takesTrait_16.all (mz_ok RX7 cX7_takesTrait 7) = true := by decide +kernel
abbrev IX7_takesTrait_103 : mz_I := (yX7_takesTrait, cX7_takesTrait, 7, (some .boolean), 1, 3, 0, 0)
theorem kX7_takesTrait_103 : mz_okm IX7_takesTrait_103 807 144 806 5 = true := by decide +kernel
theorem vX7_takesTrait_103 : mz_okV IX7_takesTrait_103 806 7 = true := by decide +kernel
def fX7_takesTrait_103 (x1 : Int32) (g2 : Nat) (x3 : Int32) (x4 : Int32) (x5 : Int32) (D : mz_D) : Option (Int32 × mz_D) := (mz_gd (mz_ix x3 6) (if (D.1 0 2 2) = x1 then (Option.bind (fX5_advance (mz_wi D g2 103 (x3).toNatClampNeg x5)) fun q3 => (Option.bind (fX5_takeNumber (0 : Int32) x4 q3) fun q4 => (if q4.1 = (-1 : Int32) then (some ((0 : Int32), q4.2)) else (some ((1 : Int32), (mz_wi q4.2 g2 103 (x3).toNatClampNeg q4.1)))))) else (some ((1 : Int32), (mz_wi D g2 103 (x3).toNatClampNeg x5)))))
set_option maxHeartbeats 4000000 in
theorem mX7_takesTrait_103 (x1 : Int32) (g2 : Nat) (x3 : Int32) (x4 : Int32) (x5 : Int32) (D : mz_D) (hg2 : mz_tb g2 = true) (r : (Int32 × mz_D)) (h : fX7_takesTrait_103 x1 g2 x3 x4 x5 D = some r) : mz_Met IX7_takesTrait_103 [.inr (.inr (some (0, 300))), .inl x1, .inr (.inr (some (g2, 103))), .inl x3, .inl x4, .inl x5] D (some (.inl r.1), r.2) := by
  refine mz_Met.of (by decide +kernel) (Nat.le_of_ble_eq_true rfl) ?_
  show mz_Go IX7_takesTrait_103 (some (.inl r.1), r.2) 0 0 (0, [some (.inr (.inr (some (0, 300)))), some (.inl x1), some (.inr (.inr (some (g2, 103)))), some (.inl x3), some (.inl x4), some (.inl x5), none], [], D)
  rw [fX7_takesTrait_103] at h
  obtain ⟨hb1, h⟩ := mz_gd_some h
  refine mz_Go.run (gs := [mz_kz 1 g2 103, mz_ix x3 6, mz_kz 1 0 300, mz_kz 1 0 2]) (st' := (if (D.1 0 2 2) = x1 then (18, [some (.inr (.inr (some (0, 300)))), some (.inl x1), some (.inr (.inr (some (g2, 103)))), some (.inl x3), some (.inl x4), some (.inl x5), none], [], (mz_wi D g2 103 (x3).toNatClampNeg x5)) else (16, [some (.inr (.inr (some (0, 300)))), some (.inl x1), some (.inr (.inr (some (g2, 103)))), some (.inl x3), some (.inl x4), some (.inl x5), none], [], (mz_wi D g2 103 (x3).toNatClampNeg x5)))) bX7_takesTrait_0 oX7_takesTrait_0 rfl ⟨hg2, hb1, rfl, rfl, trivial⟩ ?_
  refine mz_Go.ite (fun hc2 => ?_) (fun hc2 => ?_)
  · have h := mz_ifp hc2 h
    refine mz_Go.run (gs := [mz_kz 1 0 300]) (st' := (22, [some (.inr (.inr (some (0, 300)))), some (.inl x1), some (.inr (.inr (some (g2, 103)))), some (.inl x3), some (.inl x4), some (.inl x5), none], [.inr (.inr (some (0, 2)))], (mz_wi D g2 103 (x3).toNatClampNeg x5))) bX7_takesTrait_18 oX7_takesTrait_18 rfl ⟨rfl, trivial⟩ ?_
    obtain ⟨q3, hq3, h⟩ := mz_bd_some h
    refine mz_Go.callV (I := IX7_takesTrait_103) (J := IX5_advance) (as := []) (ci := 5) (g := 0) (o := 2) (idx := 78) (pl := 787) (rest := []) (mX5_advance (mz_wi D g2 103 (x3).toNatClampNeg x5) q3 hq3) kX5_advance vX5_advance (by decide +kernel) (by decide +kernel) (by decide +kernel) rfl rfl ⟨rfl, rfl⟩ rfl rfl rfl rfl ?_
    refine mz_Go.run (gs := [mz_kz 1 0 300]) (st' := (32, [some (.inr (.inr (some (0, 300)))), some (.inl x1), some (.inr (.inr (some (g2, 103)))), some (.inl x3), some (.inl x4), some (.inl x5), none], [.inl x4, .inl (0 : Int32), .inr (.inr (some (0, 2)))], q3)) bX7_takesTrait_25 oX7_takesTrait_25 rfl ⟨rfl, trivial⟩ ?_
    obtain ⟨q4, hq4, h⟩ := mz_bd_some h
    refine mz_Go.callV (I := IX7_takesTrait_103) (J := IX5_takeNumber) (as := [.inl (0 : Int32), .inl x4]) (ci := 5) (g := 0) (o := 2) (idx := 115) (pl := 808) (rest := []) (mX5_takeNumber (0 : Int32) x4 q3 q4 hq4) kX5_takeNumber vX5_takeNumber (by decide +kernel) (by decide +kernel) (by decide +kernel) rfl rfl ⟨rfl, rfl⟩ rfl rfl rfl rfl ?_
    refine mz_Go.run (gs := []) (st' := (if q4.1 = (-1 : Int32) then (43, [some (.inr (.inr (some (0, 300)))), some (.inl x1), some (.inr (.inr (some (g2, 103)))), some (.inl x3), some (.inl x4), some (.inl x5), some (.inl q4.1)], [], q4.2) else (45, [some (.inr (.inr (some (0, 300)))), some (.inl x1), some (.inr (.inr (some (g2, 103)))), some (.inl x3), some (.inl x4), some (.inl x5), some (.inl q4.1)], [], q4.2))) bX7_takesTrait_35 oX7_takesTrait_35 rfl trivial ?_
    refine mz_Go.ite (fun hc5 => ?_) (fun hc5 => ?_)
    · have h := mz_ifp hc5 h
      refine mz_Go.run (gs := []) (st' := (44, [some (.inr (.inr (some (0, 300)))), some (.inl x1), some (.inr (.inr (some (g2, 103)))), some (.inl x3), some (.inl x4), some (.inl x5), some (.inl q4.1)], [.inl (0 : Int32)], q4.2)) bX7_takesTrait_43 oX7_takesTrait_43 rfl trivial ?_
      cases h
      exact mz_Go.retz (by decide +kernel) rfl ⟨Nat.le_refl _, Nat.le_refl _⟩ (by decide) rfl
    · have h := mz_ifn hc5 h
      refine mz_Go.run (gs := [mz_kz 1 g2 103, mz_ix x3 6]) (st' := (51, [some (.inr (.inr (some (0, 300)))), some (.inl x1), some (.inr (.inr (some (g2, 103)))), some (.inl x3), some (.inl x4), some (.inl x5), some (.inl q4.1)], [.inl (1 : Int32)], (mz_wi q4.2 g2 103 (x3).toNatClampNeg q4.1))) bX7_takesTrait_45 oX7_takesTrait_45 rfl ⟨hg2, hb1, trivial⟩ ?_
      cases h
      exact mz_Go.retz (by decide +kernel) rfl ⟨Nat.le_refl _, Nat.le_refl _⟩ (by decide) rfl
  · have h := mz_ifn hc2 h
    refine mz_Go.run (gs := []) (st' := (17, [some (.inr (.inr (some (0, 300)))), some (.inl x1), some (.inr (.inr (some (g2, 103)))), some (.inl x3), some (.inl x4), some (.inl x5), none], [.inl (1 : Int32)], (mz_wi D g2 103 (x3).toNatClampNeg x5))) bX7_takesTrait_16 oX7_takesTrait_16 rfl trivial ?_
    cases h
    exact mz_Go.retz (by decide +kernel) rfl ⟨Nat.le_refl _, Nat.le_refl _⟩ (by decide) rfl
def bX7_takesGuest_0 : List mz_E := [(0, .aload_n 0, 0, 0, 0, 0, 0), (1, .getfield 9, 7, 0, 758, 0, 0), (4, .getfield 25, 5, 2, 218, 0, 0), (7, .iconst 5, 0, 0, 0, 5, 0), (8, .if_icmp .ne 28, 0, 36, 0, 0, 0)]
theorem oX7_takesGuest_0 : bX7_takesGuest_0.all (mz_ok RX7 cX7_takesGuest 2) = true := by decide +kernel
def bX7_takesGuest_11 : List mz_E := [(11, .aload_n 0, 0, 0, 0, 0, 0), (12, .getfield 15, 7, 1, 759, 0, 0), (15, .getfield 60, 6, 0, 475, 0, 0), (18, .dup, 0, 0, 0, 0, 0), (19, .getfield 119, 4, 2, 296, 0, 0), (22, .iconst 1, 0, 0, 0, 1, 0), (23, .iload_n 1, 0, 0, 0, 0, 0), (24, .ishl, 0, 0, 0, 0, 0), (25, .ior, 0, 0, 0, 0, 0), (26, .putfield 119, 4, 2, 296, 0, 0), (29, .aload_n 0, 0, 0, 0, 0, 0), (30, .getfield 9, 7, 0, 758, 0, 0)]
theorem oX7_takesGuest_11 : bX7_takesGuest_11.all (mz_ok RX7 cX7_takesGuest 2) = true := by decide +kernel
def bX7_takesGuest_36 : List mz_E := [(36, .iconst 1, 0, 0, 0, 1, 0)]
theorem oX7_takesGuest_36 : bX7_takesGuest_36.all (mz_ok RX7 cX7_takesGuest 2) = true := by decide +kernel
abbrev IX7_takesGuest : mz_I := (yX7_takesGuest, cX7_takesGuest, 2, (some .boolean), 1, 2, 0, 0)
theorem kX7_takesGuest : mz_okm IX7_takesGuest 816 144 815 1 = true := by decide +kernel
theorem vX7_takesGuest : mz_okV IX7_takesGuest 815 8 = true := by decide +kernel
def fX7_takesGuest (x1 : Int32) (D : mz_D) : Option (Int32 × mz_D) := (if (D.1 0 2 2) = (5 : Int32) then (Option.bind (fX5_advance (mz_wi D 2 101 2 ((D.1 2 101 2) ||| ((1 : Int32) <<< (x1 &&& 31))))) fun q2 => (some ((1 : Int32), q2))) else (some ((1 : Int32), D)))
set_option maxHeartbeats 4000000 in
theorem mX7_takesGuest (x1 : Int32) (D : mz_D) (r : (Int32 × mz_D)) (h : fX7_takesGuest x1 D = some r) : mz_Met IX7_takesGuest [.inr (.inr (some (0, 300))), .inl x1] D (some (.inl r.1), r.2) := by
  refine mz_Met.of (by decide +kernel) (Nat.le_of_ble_eq_true rfl) ?_
  show mz_Go IX7_takesGuest (some (.inl r.1), r.2) 0 0 (0, [some (.inr (.inr (some (0, 300)))), some (.inl x1)], [], D)
  rw [fX7_takesGuest] at h
  refine mz_Go.run (gs := [mz_kz 1 0 300, mz_kz 1 0 2]) (st' := (if (D.1 0 2 2) = (5 : Int32) then (11, [some (.inr (.inr (some (0, 300)))), some (.inl x1)], [], D) else (36, [some (.inr (.inr (some (0, 300)))), some (.inl x1)], [], D))) bX7_takesGuest_0 oX7_takesGuest_0 rfl ⟨rfl, rfl, trivial⟩ ?_
  refine mz_Go.ite (fun hc1 => ?_) (fun hc1 => ?_)
  · have h := mz_ifp hc1 h
    refine mz_Go.run (gs := [mz_kz 1 0 300, mz_kz 1 2 100, mz_kz 1 2 101, mz_kz 1 2 101, mz_kz 1 0 300]) (st' := (33, [some (.inr (.inr (some (0, 300)))), some (.inl x1)], [.inr (.inr (some (0, 2)))], (mz_wi D 2 101 2 ((D.1 2 101 2) ||| ((1 : Int32) <<< (x1 &&& 31)))))) bX7_takesGuest_11 oX7_takesGuest_11 rfl ⟨rfl, rfl, rfl, rfl, rfl, trivial⟩ ?_
    obtain ⟨q2, hq2, h⟩ := mz_bd_some h
    refine mz_Go.callV (I := IX7_takesGuest) (J := IX5_advance) (as := []) (ci := 5) (g := 0) (o := 2) (idx := 78) (pl := 787) (rest := []) (mX5_advance (mz_wi D 2 101 2 ((D.1 2 101 2) ||| ((1 : Int32) <<< (x1 &&& 31)))) q2 hq2) kX5_advance vX5_advance (by decide +kernel) (by decide +kernel) (by decide +kernel) rfl rfl ⟨rfl, rfl⟩ rfl rfl rfl rfl ?_
    refine mz_Go.run (gs := []) (st' := (37, [some (.inr (.inr (some (0, 300)))), some (.inl x1)], [.inl (1 : Int32)], q2)) bX7_takesGuest_36 oX7_takesGuest_36 rfl trivial ?_
    cases h
    exact mz_Go.retz (by decide +kernel) rfl ⟨Nat.le_refl _, Nat.le_refl _⟩ (by decide) rfl
  · have h := mz_ifn hc1 h
    refine mz_Go.run (gs := []) (st' := (37, [some (.inr (.inr (some (0, 300)))), some (.inl x1)], [.inl (1 : Int32)], D)) bX7_takesGuest_36 oX7_takesGuest_36 rfl trivial ?_
    cases h
    exact mz_Go.retz (by decide +kernel) rfl ⟨Nat.le_refl _, Nat.le_refl _⟩ (by decide) rfl
abbrev IX7_takesTrait_104 : mz_I := (yX7_takesTrait, cX7_takesTrait, 7, (some .boolean), 1, 3, 0, 0)
theorem kX7_takesTrait_104 : mz_okm IX7_takesTrait_104 807 144 806 5 = true := by decide +kernel
theorem vX7_takesTrait_104 : mz_okV IX7_takesTrait_104 806 7 = true := by decide +kernel
def fX7_takesTrait_104 (x1 : Int32) (g2 : Nat) (x3 : Int32) (x4 : Int32) (x5 : Int32) (D : mz_D) : Option (Int32 × mz_D) := (mz_gd (mz_ix x3 6) (if (D.1 0 2 2) = x1 then (Option.bind (fX5_advance (mz_wi D g2 104 (x3).toNatClampNeg x5)) fun q3 => (Option.bind (fX5_takeNumber (0 : Int32) x4 q3) fun q4 => (if q4.1 = (-1 : Int32) then (some ((0 : Int32), q4.2)) else (some ((1 : Int32), (mz_wi q4.2 g2 104 (x3).toNatClampNeg q4.1)))))) else (some ((1 : Int32), (mz_wi D g2 104 (x3).toNatClampNeg x5)))))
set_option maxHeartbeats 4000000 in
theorem mX7_takesTrait_104 (x1 : Int32) (g2 : Nat) (x3 : Int32) (x4 : Int32) (x5 : Int32) (D : mz_D) (hg2 : mz_tb g2 = true) (r : (Int32 × mz_D)) (h : fX7_takesTrait_104 x1 g2 x3 x4 x5 D = some r) : mz_Met IX7_takesTrait_104 [.inr (.inr (some (0, 300))), .inl x1, .inr (.inr (some (g2, 104))), .inl x3, .inl x4, .inl x5] D (some (.inl r.1), r.2) := by
  refine mz_Met.of (by decide +kernel) (Nat.le_of_ble_eq_true rfl) ?_
  show mz_Go IX7_takesTrait_104 (some (.inl r.1), r.2) 0 0 (0, [some (.inr (.inr (some (0, 300)))), some (.inl x1), some (.inr (.inr (some (g2, 104)))), some (.inl x3), some (.inl x4), some (.inl x5), none], [], D)
  rw [fX7_takesTrait_104] at h
  obtain ⟨hb1, h⟩ := mz_gd_some h
  refine mz_Go.run (gs := [mz_kz 1 g2 104, mz_ix x3 6, mz_kz 1 0 300, mz_kz 1 0 2]) (st' := (if (D.1 0 2 2) = x1 then (18, [some (.inr (.inr (some (0, 300)))), some (.inl x1), some (.inr (.inr (some (g2, 104)))), some (.inl x3), some (.inl x4), some (.inl x5), none], [], (mz_wi D g2 104 (x3).toNatClampNeg x5)) else (16, [some (.inr (.inr (some (0, 300)))), some (.inl x1), some (.inr (.inr (some (g2, 104)))), some (.inl x3), some (.inl x4), some (.inl x5), none], [], (mz_wi D g2 104 (x3).toNatClampNeg x5)))) bX7_takesTrait_0 oX7_takesTrait_0 rfl ⟨hg2, hb1, rfl, rfl, trivial⟩ ?_
  refine mz_Go.ite (fun hc2 => ?_) (fun hc2 => ?_)
  · have h := mz_ifp hc2 h
    refine mz_Go.run (gs := [mz_kz 1 0 300]) (st' := (22, [some (.inr (.inr (some (0, 300)))), some (.inl x1), some (.inr (.inr (some (g2, 104)))), some (.inl x3), some (.inl x4), some (.inl x5), none], [.inr (.inr (some (0, 2)))], (mz_wi D g2 104 (x3).toNatClampNeg x5))) bX7_takesTrait_18 oX7_takesTrait_18 rfl ⟨rfl, trivial⟩ ?_
    obtain ⟨q3, hq3, h⟩ := mz_bd_some h
    refine mz_Go.callV (I := IX7_takesTrait_104) (J := IX5_advance) (as := []) (ci := 5) (g := 0) (o := 2) (idx := 78) (pl := 787) (rest := []) (mX5_advance (mz_wi D g2 104 (x3).toNatClampNeg x5) q3 hq3) kX5_advance vX5_advance (by decide +kernel) (by decide +kernel) (by decide +kernel) rfl rfl ⟨rfl, rfl⟩ rfl rfl rfl rfl ?_
    refine mz_Go.run (gs := [mz_kz 1 0 300]) (st' := (32, [some (.inr (.inr (some (0, 300)))), some (.inl x1), some (.inr (.inr (some (g2, 104)))), some (.inl x3), some (.inl x4), some (.inl x5), none], [.inl x4, .inl (0 : Int32), .inr (.inr (some (0, 2)))], q3)) bX7_takesTrait_25 oX7_takesTrait_25 rfl ⟨rfl, trivial⟩ ?_
    obtain ⟨q4, hq4, h⟩ := mz_bd_some h
    refine mz_Go.callV (I := IX7_takesTrait_104) (J := IX5_takeNumber) (as := [.inl (0 : Int32), .inl x4]) (ci := 5) (g := 0) (o := 2) (idx := 115) (pl := 808) (rest := []) (mX5_takeNumber (0 : Int32) x4 q3 q4 hq4) kX5_takeNumber vX5_takeNumber (by decide +kernel) (by decide +kernel) (by decide +kernel) rfl rfl ⟨rfl, rfl⟩ rfl rfl rfl rfl ?_
    refine mz_Go.run (gs := []) (st' := (if q4.1 = (-1 : Int32) then (43, [some (.inr (.inr (some (0, 300)))), some (.inl x1), some (.inr (.inr (some (g2, 104)))), some (.inl x3), some (.inl x4), some (.inl x5), some (.inl q4.1)], [], q4.2) else (45, [some (.inr (.inr (some (0, 300)))), some (.inl x1), some (.inr (.inr (some (g2, 104)))), some (.inl x3), some (.inl x4), some (.inl x5), some (.inl q4.1)], [], q4.2))) bX7_takesTrait_35 oX7_takesTrait_35 rfl trivial ?_
    refine mz_Go.ite (fun hc5 => ?_) (fun hc5 => ?_)
    · have h := mz_ifp hc5 h
      refine mz_Go.run (gs := []) (st' := (44, [some (.inr (.inr (some (0, 300)))), some (.inl x1), some (.inr (.inr (some (g2, 104)))), some (.inl x3), some (.inl x4), some (.inl x5), some (.inl q4.1)], [.inl (0 : Int32)], q4.2)) bX7_takesTrait_43 oX7_takesTrait_43 rfl trivial ?_
      cases h
      exact mz_Go.retz (by decide +kernel) rfl ⟨Nat.le_refl _, Nat.le_refl _⟩ (by decide) rfl
    · have h := mz_ifn hc5 h
      refine mz_Go.run (gs := [mz_kz 1 g2 104, mz_ix x3 6]) (st' := (51, [some (.inr (.inr (some (0, 300)))), some (.inl x1), some (.inr (.inr (some (g2, 104)))), some (.inl x3), some (.inl x4), some (.inl x5), some (.inl q4.1)], [.inl (1 : Int32)], (mz_wi q4.2 g2 104 (x3).toNatClampNeg q4.1))) bX7_takesTrait_45 oX7_takesTrait_45 rfl ⟨hg2, hb1, trivial⟩ ?_
      cases h
      exact mz_Go.retz (by decide +kernel) rfl ⟨Nat.le_refl _, Nat.le_refl _⟩ (by decide) rfl
  · have h := mz_ifn hc2 h
    refine mz_Go.run (gs := []) (st' := (17, [some (.inr (.inr (some (0, 300)))), some (.inl x1), some (.inr (.inr (some (g2, 104)))), some (.inl x3), some (.inl x4), some (.inl x5), none], [.inl (1 : Int32)], (mz_wi D g2 104 (x3).toNatClampNeg x5))) bX7_takesTrait_16 oX7_takesTrait_16 rfl trivial ?_
    cases h
    exact mz_Go.retz (by decide +kernel) rfl ⟨Nat.le_refl _, Nat.le_refl _⟩ (by decide) rfl
abbrev IX7_takesTrait_105 : mz_I := (yX7_takesTrait, cX7_takesTrait, 7, (some .boolean), 1, 3, 0, 0)
theorem kX7_takesTrait_105 : mz_okm IX7_takesTrait_105 807 144 806 5 = true := by decide +kernel
theorem vX7_takesTrait_105 : mz_okV IX7_takesTrait_105 806 7 = true := by decide +kernel
def fX7_takesTrait_105 (x1 : Int32) (g2 : Nat) (x3 : Int32) (x4 : Int32) (x5 : Int32) (D : mz_D) : Option (Int32 × mz_D) := (mz_gd (mz_ix x3 6) (if (D.1 0 2 2) = x1 then (Option.bind (fX5_advance (mz_wi D g2 105 (x3).toNatClampNeg x5)) fun q3 => (Option.bind (fX5_takeNumber (0 : Int32) x4 q3) fun q4 => (if q4.1 = (-1 : Int32) then (some ((0 : Int32), q4.2)) else (some ((1 : Int32), (mz_wi q4.2 g2 105 (x3).toNatClampNeg q4.1)))))) else (some ((1 : Int32), (mz_wi D g2 105 (x3).toNatClampNeg x5)))))
set_option maxHeartbeats 4000000 in
theorem mX7_takesTrait_105 (x1 : Int32) (g2 : Nat) (x3 : Int32) (x4 : Int32) (x5 : Int32) (D : mz_D) (hg2 : mz_tb g2 = true) (r : (Int32 × mz_D)) (h : fX7_takesTrait_105 x1 g2 x3 x4 x5 D = some r) : mz_Met IX7_takesTrait_105 [.inr (.inr (some (0, 300))), .inl x1, .inr (.inr (some (g2, 105))), .inl x3, .inl x4, .inl x5] D (some (.inl r.1), r.2) := by
  refine mz_Met.of (by decide +kernel) (Nat.le_of_ble_eq_true rfl) ?_
  show mz_Go IX7_takesTrait_105 (some (.inl r.1), r.2) 0 0 (0, [some (.inr (.inr (some (0, 300)))), some (.inl x1), some (.inr (.inr (some (g2, 105)))), some (.inl x3), some (.inl x4), some (.inl x5), none], [], D)
  rw [fX7_takesTrait_105] at h
  obtain ⟨hb1, h⟩ := mz_gd_some h
  refine mz_Go.run (gs := [mz_kz 1 g2 105, mz_ix x3 6, mz_kz 1 0 300, mz_kz 1 0 2]) (st' := (if (D.1 0 2 2) = x1 then (18, [some (.inr (.inr (some (0, 300)))), some (.inl x1), some (.inr (.inr (some (g2, 105)))), some (.inl x3), some (.inl x4), some (.inl x5), none], [], (mz_wi D g2 105 (x3).toNatClampNeg x5)) else (16, [some (.inr (.inr (some (0, 300)))), some (.inl x1), some (.inr (.inr (some (g2, 105)))), some (.inl x3), some (.inl x4), some (.inl x5), none], [], (mz_wi D g2 105 (x3).toNatClampNeg x5)))) bX7_takesTrait_0 oX7_takesTrait_0 rfl ⟨hg2, hb1, rfl, rfl, trivial⟩ ?_
  refine mz_Go.ite (fun hc2 => ?_) (fun hc2 => ?_)
  · have h := mz_ifp hc2 h
    refine mz_Go.run (gs := [mz_kz 1 0 300]) (st' := (22, [some (.inr (.inr (some (0, 300)))), some (.inl x1), some (.inr (.inr (some (g2, 105)))), some (.inl x3), some (.inl x4), some (.inl x5), none], [.inr (.inr (some (0, 2)))], (mz_wi D g2 105 (x3).toNatClampNeg x5))) bX7_takesTrait_18 oX7_takesTrait_18 rfl ⟨rfl, trivial⟩ ?_
    obtain ⟨q3, hq3, h⟩ := mz_bd_some h
    refine mz_Go.callV (I := IX7_takesTrait_105) (J := IX5_advance) (as := []) (ci := 5) (g := 0) (o := 2) (idx := 78) (pl := 787) (rest := []) (mX5_advance (mz_wi D g2 105 (x3).toNatClampNeg x5) q3 hq3) kX5_advance vX5_advance (by decide +kernel) (by decide +kernel) (by decide +kernel) rfl rfl ⟨rfl, rfl⟩ rfl rfl rfl rfl ?_
    refine mz_Go.run (gs := [mz_kz 1 0 300]) (st' := (32, [some (.inr (.inr (some (0, 300)))), some (.inl x1), some (.inr (.inr (some (g2, 105)))), some (.inl x3), some (.inl x4), some (.inl x5), none], [.inl x4, .inl (0 : Int32), .inr (.inr (some (0, 2)))], q3)) bX7_takesTrait_25 oX7_takesTrait_25 rfl ⟨rfl, trivial⟩ ?_
    obtain ⟨q4, hq4, h⟩ := mz_bd_some h
    refine mz_Go.callV (I := IX7_takesTrait_105) (J := IX5_takeNumber) (as := [.inl (0 : Int32), .inl x4]) (ci := 5) (g := 0) (o := 2) (idx := 115) (pl := 808) (rest := []) (mX5_takeNumber (0 : Int32) x4 q3 q4 hq4) kX5_takeNumber vX5_takeNumber (by decide +kernel) (by decide +kernel) (by decide +kernel) rfl rfl ⟨rfl, rfl⟩ rfl rfl rfl rfl ?_
    refine mz_Go.run (gs := []) (st' := (if q4.1 = (-1 : Int32) then (43, [some (.inr (.inr (some (0, 300)))), some (.inl x1), some (.inr (.inr (some (g2, 105)))), some (.inl x3), some (.inl x4), some (.inl x5), some (.inl q4.1)], [], q4.2) else (45, [some (.inr (.inr (some (0, 300)))), some (.inl x1), some (.inr (.inr (some (g2, 105)))), some (.inl x3), some (.inl x4), some (.inl x5), some (.inl q4.1)], [], q4.2))) bX7_takesTrait_35 oX7_takesTrait_35 rfl trivial ?_
    refine mz_Go.ite (fun hc5 => ?_) (fun hc5 => ?_)
    · have h := mz_ifp hc5 h
      refine mz_Go.run (gs := []) (st' := (44, [some (.inr (.inr (some (0, 300)))), some (.inl x1), some (.inr (.inr (some (g2, 105)))), some (.inl x3), some (.inl x4), some (.inl x5), some (.inl q4.1)], [.inl (0 : Int32)], q4.2)) bX7_takesTrait_43 oX7_takesTrait_43 rfl trivial ?_
      cases h
      exact mz_Go.retz (by decide +kernel) rfl ⟨Nat.le_refl _, Nat.le_refl _⟩ (by decide) rfl
    · have h := mz_ifn hc5 h
      refine mz_Go.run (gs := [mz_kz 1 g2 105, mz_ix x3 6]) (st' := (51, [some (.inr (.inr (some (0, 300)))), some (.inl x1), some (.inr (.inr (some (g2, 105)))), some (.inl x3), some (.inl x4), some (.inl x5), some (.inl q4.1)], [.inl (1 : Int32)], (mz_wi q4.2 g2 105 (x3).toNatClampNeg q4.1))) bX7_takesTrait_45 oX7_takesTrait_45 rfl ⟨hg2, hb1, trivial⟩ ?_
      cases h
      exact mz_Go.retz (by decide +kernel) rfl ⟨Nat.le_refl _, Nat.le_refl _⟩ (by decide) rfl
  · have h := mz_ifn hc2 h
    refine mz_Go.run (gs := []) (st' := (17, [some (.inr (.inr (some (0, 300)))), some (.inl x1), some (.inr (.inr (some (g2, 105)))), some (.inl x3), some (.inl x4), some (.inl x5), none], [.inl (1 : Int32)], (mz_wi D g2 105 (x3).toNatClampNeg x5))) bX7_takesTrait_16 oX7_takesTrait_16 rfl trivial ?_
    cases h
    exact mz_Go.retz (by decide +kernel) rfl ⟨Nat.le_refl _, Nat.le_refl _⟩ (by decide) rfl
abbrev IX7_takesTrait_106 : mz_I := (yX7_takesTrait, cX7_takesTrait, 7, (some .boolean), 1, 3, 0, 0)
theorem kX7_takesTrait_106 : mz_okm IX7_takesTrait_106 807 144 806 5 = true := by decide +kernel
theorem vX7_takesTrait_106 : mz_okV IX7_takesTrait_106 806 7 = true := by decide +kernel
def fX7_takesTrait_106 (x1 : Int32) (g2 : Nat) (x3 : Int32) (x4 : Int32) (x5 : Int32) (D : mz_D) : Option (Int32 × mz_D) := (mz_gd (mz_ix x3 6) (if (D.1 0 2 2) = x1 then (Option.bind (fX5_advance (mz_wi D g2 106 (x3).toNatClampNeg x5)) fun q3 => (Option.bind (fX5_takeNumber (0 : Int32) x4 q3) fun q4 => (if q4.1 = (-1 : Int32) then (some ((0 : Int32), q4.2)) else (some ((1 : Int32), (mz_wi q4.2 g2 106 (x3).toNatClampNeg q4.1)))))) else (some ((1 : Int32), (mz_wi D g2 106 (x3).toNatClampNeg x5)))))
set_option maxHeartbeats 4000000 in
theorem mX7_takesTrait_106 (x1 : Int32) (g2 : Nat) (x3 : Int32) (x4 : Int32) (x5 : Int32) (D : mz_D) (hg2 : mz_tb g2 = true) (r : (Int32 × mz_D)) (h : fX7_takesTrait_106 x1 g2 x3 x4 x5 D = some r) : mz_Met IX7_takesTrait_106 [.inr (.inr (some (0, 300))), .inl x1, .inr (.inr (some (g2, 106))), .inl x3, .inl x4, .inl x5] D (some (.inl r.1), r.2) := by
  refine mz_Met.of (by decide +kernel) (Nat.le_of_ble_eq_true rfl) ?_
  show mz_Go IX7_takesTrait_106 (some (.inl r.1), r.2) 0 0 (0, [some (.inr (.inr (some (0, 300)))), some (.inl x1), some (.inr (.inr (some (g2, 106)))), some (.inl x3), some (.inl x4), some (.inl x5), none], [], D)
  rw [fX7_takesTrait_106] at h
  obtain ⟨hb1, h⟩ := mz_gd_some h
  refine mz_Go.run (gs := [mz_kz 1 g2 106, mz_ix x3 6, mz_kz 1 0 300, mz_kz 1 0 2]) (st' := (if (D.1 0 2 2) = x1 then (18, [some (.inr (.inr (some (0, 300)))), some (.inl x1), some (.inr (.inr (some (g2, 106)))), some (.inl x3), some (.inl x4), some (.inl x5), none], [], (mz_wi D g2 106 (x3).toNatClampNeg x5)) else (16, [some (.inr (.inr (some (0, 300)))), some (.inl x1), some (.inr (.inr (some (g2, 106)))), some (.inl x3), some (.inl x4), some (.inl x5), none], [], (mz_wi D g2 106 (x3).toNatClampNeg x5)))) bX7_takesTrait_0 oX7_takesTrait_0 rfl ⟨hg2, hb1, rfl, rfl, trivial⟩ ?_
  refine mz_Go.ite (fun hc2 => ?_) (fun hc2 => ?_)
  · have h := mz_ifp hc2 h
    refine mz_Go.run (gs := [mz_kz 1 0 300]) (st' := (22, [some (.inr (.inr (some (0, 300)))), some (.inl x1), some (.inr (.inr (some (g2, 106)))), some (.inl x3), some (.inl x4), some (.inl x5), none], [.inr (.inr (some (0, 2)))], (mz_wi D g2 106 (x3).toNatClampNeg x5))) bX7_takesTrait_18 oX7_takesTrait_18 rfl ⟨rfl, trivial⟩ ?_
    obtain ⟨q3, hq3, h⟩ := mz_bd_some h
    refine mz_Go.callV (I := IX7_takesTrait_106) (J := IX5_advance) (as := []) (ci := 5) (g := 0) (o := 2) (idx := 78) (pl := 787) (rest := []) (mX5_advance (mz_wi D g2 106 (x3).toNatClampNeg x5) q3 hq3) kX5_advance vX5_advance (by decide +kernel) (by decide +kernel) (by decide +kernel) rfl rfl ⟨rfl, rfl⟩ rfl rfl rfl rfl ?_
    refine mz_Go.run (gs := [mz_kz 1 0 300]) (st' := (32, [some (.inr (.inr (some (0, 300)))), some (.inl x1), some (.inr (.inr (some (g2, 106)))), some (.inl x3), some (.inl x4), some (.inl x5), none], [.inl x4, .inl (0 : Int32), .inr (.inr (some (0, 2)))], q3)) bX7_takesTrait_25 oX7_takesTrait_25 rfl ⟨rfl, trivial⟩ ?_
    obtain ⟨q4, hq4, h⟩ := mz_bd_some h
    refine mz_Go.callV (I := IX7_takesTrait_106) (J := IX5_takeNumber) (as := [.inl (0 : Int32), .inl x4]) (ci := 5) (g := 0) (o := 2) (idx := 115) (pl := 808) (rest := []) (mX5_takeNumber (0 : Int32) x4 q3 q4 hq4) kX5_takeNumber vX5_takeNumber (by decide +kernel) (by decide +kernel) (by decide +kernel) rfl rfl ⟨rfl, rfl⟩ rfl rfl rfl rfl ?_
    refine mz_Go.run (gs := []) (st' := (if q4.1 = (-1 : Int32) then (43, [some (.inr (.inr (some (0, 300)))), some (.inl x1), some (.inr (.inr (some (g2, 106)))), some (.inl x3), some (.inl x4), some (.inl x5), some (.inl q4.1)], [], q4.2) else (45, [some (.inr (.inr (some (0, 300)))), some (.inl x1), some (.inr (.inr (some (g2, 106)))), some (.inl x3), some (.inl x4), some (.inl x5), some (.inl q4.1)], [], q4.2))) bX7_takesTrait_35 oX7_takesTrait_35 rfl trivial ?_
    refine mz_Go.ite (fun hc5 => ?_) (fun hc5 => ?_)
    · have h := mz_ifp hc5 h
      refine mz_Go.run (gs := []) (st' := (44, [some (.inr (.inr (some (0, 300)))), some (.inl x1), some (.inr (.inr (some (g2, 106)))), some (.inl x3), some (.inl x4), some (.inl x5), some (.inl q4.1)], [.inl (0 : Int32)], q4.2)) bX7_takesTrait_43 oX7_takesTrait_43 rfl trivial ?_
      cases h
      exact mz_Go.retz (by decide +kernel) rfl ⟨Nat.le_refl _, Nat.le_refl _⟩ (by decide) rfl
    · have h := mz_ifn hc5 h
      refine mz_Go.run (gs := [mz_kz 1 g2 106, mz_ix x3 6]) (st' := (51, [some (.inr (.inr (some (0, 300)))), some (.inl x1), some (.inr (.inr (some (g2, 106)))), some (.inl x3), some (.inl x4), some (.inl x5), some (.inl q4.1)], [.inl (1 : Int32)], (mz_wi q4.2 g2 106 (x3).toNatClampNeg q4.1))) bX7_takesTrait_45 oX7_takesTrait_45 rfl ⟨hg2, hb1, trivial⟩ ?_
      cases h
      exact mz_Go.retz (by decide +kernel) rfl ⟨Nat.le_refl _, Nat.le_refl _⟩ (by decide) rfl
  · have h := mz_ifn hc2 h
    refine mz_Go.run (gs := []) (st' := (17, [some (.inr (.inr (some (0, 300)))), some (.inl x1), some (.inr (.inr (some (g2, 106)))), some (.inl x3), some (.inl x4), some (.inl x5), none], [.inl (1 : Int32)], (mz_wi D g2 106 (x3).toNatClampNeg x5))) bX7_takesTrait_16 oX7_takesTrait_16 rfl trivial ?_
    cases h
    exact mz_Go.retz (by decide +kernel) rfl ⟨Nat.le_refl _, Nat.le_refl _⟩ (by decide) rfl
def bX7_takesNewcomer_0 : List mz_E := [(0, .aload_n 0, 0, 0, 0, 0, 0), (1, .getfield 15, 7, 1, 759, 0, 0), (4, .getfield 60, 6, 0, 475, 0, 0), (7, .astore_n 1, 0, 0, 0, 0, 0), (8, .aload_n 1, 0, 0, 0, 0, 0), (9, .getfield 75, 4, 0, 287, 0, 0), (12, .bipush 6, 0, 0, 0, 6, 0), (14, .if_icmp .lt 13, 0, 27, 0, 0, 0)]
theorem oX7_takesNewcomer_0 : bX7_takesNewcomer_0.all (mz_ok RX7 cX7_takesNewcomer 3) = true := by decide +kernel
def bX7_takesNewcomer_27 : List mz_E := [(27, .aload_n 0, 0, 0, 0, 0, 0), (28, .getfield 9, 7, 0, 758, 0, 0)]
theorem oX7_takesNewcomer_27 : bX7_takesNewcomer_27.all (mz_ok RX7 cX7_takesNewcomer 3) = true := by decide +kernel
def bX7_takesNewcomer_34 : List mz_E := [(34, .aload_n 0, 0, 0, 0, 0, 0), (35, .getfield 9, 7, 0, 758, 0, 0)]
theorem oX7_takesNewcomer_34 : bX7_takesNewcomer_34.all (mz_ok RX7 cX7_takesNewcomer 3) = true := by decide +kernel
def bX7_takesNewcomer_41 : List mz_E := [(41, .ifCond .ne 12, 0, 53, 0, 0, 0)]
theorem oX7_takesNewcomer_41 : bX7_takesNewcomer_41.all (mz_ok RX7 cX7_takesNewcomer 3) = true := by decide +kernel
def bX7_takesNewcomer_44 : List mz_E := [(44, .aload_n 0, 0, 0, 0, 0, 0), (45, .getfield 9, 7, 0, 758, 0, 0), (48, .iconst 2, 0, 0, 0, 2, 0)]
theorem oX7_takesNewcomer_44 : bX7_takesNewcomer_44.all (mz_ok RX7 cX7_takesNewcomer 3) = true := by decide +kernel
def bX7_takesNewcomer_53 : List mz_E := [(53, .aload_n 1, 0, 0, 0, 0, 0), (54, .aload_n 0, 0, 0, 0, 0, 0), (55, .getfield 9, 7, 0, 758, 0, 0)]
theorem oX7_takesNewcomer_53 : bX7_takesNewcomer_53.all (mz_ok RX7 cX7_takesNewcomer 3) = true := by decide +kernel
def bX7_takesNewcomer_64 : List mz_E := [(64, .iconst (-1), 0, 0, 0, -1, 0), (65, .if_icmp .eq 12, 0, 77, 0, 0, 0)]
theorem oX7_takesNewcomer_64 : bX7_takesNewcomer_64.all (mz_ok RX7 cX7_takesNewcomer 3) = true := by decide +kernel
def bX7_takesNewcomer_77 : List mz_E := [(77, .aload_n 1, 0, 0, 0, 0, 0), (78, .aload_n 0, 0, 0, 0, 0, 0), (79, .getfield 9, 7, 0, 758, 0, 0)]
theorem oX7_takesNewcomer_77 : bX7_takesNewcomer_77.all (mz_ok RX7 cX7_takesNewcomer 3) = true := by decide +kernel
def bX7_takesNewcomer_88 : List mz_E := [(88, .istore_n 2, 0, 0, 0, 0, 0), (89, .aload_n 0, 0, 0, 0, 0, 0), (90, .getfield 9, 7, 0, 758, 0, 0)]
theorem oX7_takesNewcomer_88 : bX7_takesNewcomer_88.all (mz_ok RX7 cX7_takesNewcomer 3) = true := by decide +kernel
def bX7_takesNewcomer_96 : List mz_E := [(96, .aload_n 0, 0, 0, 0, 0, 0), (97, .iconst 1, 0, 0, 0, 1, 0), (98, .aload_n 1, 0, 0, 0, 0, 0), (99, .getfield 95, 4, 4, 300, 0, 0), (102, .iload_n 2, 0, 0, 0, 0, 0), (103, .bipush 16, 0, 0, 0, 16, 0), (105, .iconst 0, 0, 0, 0, 0, 0)]
theorem oX7_takesNewcomer_96 : bX7_takesNewcomer_96.all (mz_ok RX7 cX7_takesNewcomer 3) = true := by decide +kernel
def bX7_takesNewcomer_109 : List mz_E := [(109, .ifCond .eq 66, 0, 175, 0, 0, 0)]
theorem oX7_takesNewcomer_109 : bX7_takesNewcomer_109.all (mz_ok RX7 cX7_takesNewcomer 3) = true := by decide +kernel
def bX7_takesNewcomer_175 : List mz_E := [(175, .iconst 0, 0, 0, 0, 0, 0)]
theorem oX7_takesNewcomer_175 : bX7_takesNewcomer_175.all (mz_ok RX7 cX7_takesNewcomer 3) = true := by decide +kernel
def bX7_takesNewcomer_112 : List mz_E := [(112, .aload_n 0, 0, 0, 0, 0, 0), (113, .iconst 2, 0, 0, 0, 2, 0), (114, .aload_n 1, 0, 0, 0, 0, 0), (115, .getfield 103, 4, 5, 305, 0, 0), (118, .iload_n 2, 0, 0, 0, 0, 0), (119, .bipush 20, 0, 0, 0, 20, 0), (121, .iconst 1, 0, 0, 0, 1, 0)]
theorem oX7_takesNewcomer_112 : bX7_takesNewcomer_112.all (mz_ok RX7 cX7_takesNewcomer 3) = true := by decide +kernel
def bX7_takesNewcomer_125 : List mz_E := [(125, .ifCond .eq 50, 0, 175, 0, 0, 0)]
theorem oX7_takesNewcomer_125 : bX7_takesNewcomer_125.all (mz_ok RX7 cX7_takesNewcomer 3) = true := by decide +kernel
def bX7_takesNewcomer_128 : List mz_E := [(128, .aload_n 0, 0, 0, 0, 0, 0), (129, .iconst 3, 0, 0, 0, 3, 0), (130, .aload_n 1, 0, 0, 0, 0, 0), (131, .getfield 106, 4, 6, 310, 0, 0), (134, .iload_n 2, 0, 0, 0, 0, 0), (135, .bipush 99, 0, 0, 0, 99, 0), (137, .iconst 0, 0, 0, 0, 0, 0)]
theorem oX7_takesNewcomer_128 : bX7_takesNewcomer_128.all (mz_ok RX7 cX7_takesNewcomer 3) = true := by decide +kernel
def bX7_takesNewcomer_141 : List mz_E := [(141, .ifCond .eq 34, 0, 175, 0, 0, 0)]
theorem oX7_takesNewcomer_141 : bX7_takesNewcomer_141.all (mz_ok RX7 cX7_takesNewcomer 3) = true := by decide +kernel
def bX7_takesNewcomer_144 : List mz_E := [(144, .aload_n 0, 0, 0, 0, 0, 0), (145, .iconst 4, 0, 0, 0, 4, 0), (146, .aload_n 1, 0, 0, 0, 0, 0), (147, .getfield 109, 4, 7, 314, 0, 0), (150, .iload_n 2, 0, 0, 0, 0, 0), (151, .sipush 999, 0, 0, 0, 999, 0), (154, .sipush 999, 0, 0, 0, 999, 0)]
theorem oX7_takesNewcomer_144 : bX7_takesNewcomer_144.all (mz_ok RX7 cX7_takesNewcomer 3) = true := by decide +kernel
def bX7_takesNewcomer_160 : List mz_E := [(160, .ifCond .eq 15, 0, 175, 0, 0, 0)]
theorem oX7_takesNewcomer_160 : bX7_takesNewcomer_160.all (mz_ok RX7 cX7_takesNewcomer 3) = true := by decide +kernel
def bX7_takesNewcomer_163 : List mz_E := [(163, .aload_n 0, 0, 0, 0, 0, 0), (164, .iload_n 2, 0, 0, 0, 0, 0)]
theorem oX7_takesNewcomer_163 : bX7_takesNewcomer_163.all (mz_ok RX7 cX7_takesNewcomer 3) = true := by decide +kernel
def bX7_takesNewcomer_168 : List mz_E := [(168, .ifCond .eq 7, 0, 175, 0, 0, 0)]
theorem oX7_takesNewcomer_168 : bX7_takesNewcomer_168.all (mz_ok RX7 cX7_takesNewcomer 3) = true := by decide +kernel
def bX7_takesNewcomer_171 : List mz_E := [(171, .iconst 1, 0, 0, 0, 1, 0), (172, .goto 4, 0, 176, 0, 0, 0)]
theorem oX7_takesNewcomer_171 : bX7_takesNewcomer_171.all (mz_ok RX7 cX7_takesNewcomer 3) = true := by decide +kernel
def bX7_takesNewcomer_68 : List mz_E := [(68, .aload_n 0, 0, 0, 0, 0, 0), (69, .getfield 9, 7, 0, 758, 0, 0), (72, .iconst 3, 0, 0, 0, 3, 0)]
theorem oX7_takesNewcomer_68 : bX7_takesNewcomer_68.all (mz_ok RX7 cX7_takesNewcomer 3) = true := by decide +kernel
def bX7_takesNewcomer_17 : List mz_E := [(17, .aload_n 0, 0, 0, 0, 0, 0), (18, .getfield 9, 7, 0, 758, 0, 0), (21, .bipush 6, 0, 0, 0, 6, 0)]
theorem oX7_takesNewcomer_17 : bX7_takesNewcomer_17.all (mz_ok RX7 cX7_takesNewcomer 3) = true := by decide +kernel
abbrev IX7_takesNewcomer : mz_I := (yX7_takesNewcomer, cX7_takesNewcomer, 3, (some .boolean), 1, 4, 0, 0)
theorem kX7_takesNewcomer : mz_okm IX7_takesNewcomer 782 144 781 0 = true := by decide +kernel
theorem vX7_takesNewcomer : mz_okV IX7_takesNewcomer 781 6 = true := by decide +kernel
def fX7_takesNewcomer (D : mz_D) : Option (Int32 × mz_D) := (if (D.1 2 101 0) < (6 : Int32) then (Option.bind (fX5_advance D) fun q2 => (if (fX5_isName q2) = 0 then (Option.bind (fX5_fail (2 : Int32) q2) fun q4 => (mz_gd (mz_bo q4.1) (some (q4.1, q4.2)))) else (Option.bind (fX4_find 2 (q2.2 0 2 9) q2) fun q6 => (if q6 = (-1 : Int32) then (Option.bind (fX4_add 2 (q2.2 0 2 9) q2) fun q8 => (Option.bind (fX5_advance q8.2) fun q9 => (Option.bind (fX7_takesTrait_103 (1 : Int32) 2 q8.1 (16 : Int32) (0 : Int32) q9) fun q10 => (if q10.1 = 0 then (some ((0 : Int32), q10.2)) else (Option.bind (fX7_takesTrait_104 (2 : Int32) 2 q8.1 (20 : Int32) (1 : Int32) q10.2) fun q12 => (if q12.1 = 0 then (some ((0 : Int32), q12.2)) else (Option.bind (fX7_takesTrait_105 (3 : Int32) 2 q8.1 (99 : Int32) (0 : Int32) q12.2) fun q14 => (if q14.1 = 0 then (some ((0 : Int32), q14.2)) else (Option.bind (fX7_takesTrait_106 (4 : Int32) 2 q8.1 (999 : Int32) (999 : Int32) q14.2) fun q16 => (if q16.1 = 0 then (some ((0 : Int32), q16.2)) else (Option.bind (fX7_takesGuest q8.1 q16.2) fun q18 => (if q18.1 = 0 then (some ((0 : Int32), q18.2)) else (some ((1 : Int32), q18.2)))))))))))))) else (Option.bind (fX5_fail (3 : Int32) q2) fun q20 => (mz_gd (mz_bo q20.1) (some (q20.1, q20.2)))))))) else (Option.bind (fX5_fail (6 : Int32) D) fun q22 => (mz_gd (mz_bo q22.1) (some (q22.1, q22.2)))))
set_option maxHeartbeats 4000000 in
theorem mX7_takesNewcomer (D : mz_D) (r : (Int32 × mz_D)) (h : fX7_takesNewcomer D = some r) : mz_Met IX7_takesNewcomer [.inr (.inr (some (0, 300)))] D (some (.inl r.1), r.2) := by
  refine mz_Met.of (by decide +kernel) (Nat.le_of_ble_eq_true rfl) ?_
  show mz_Go IX7_takesNewcomer (some (.inl r.1), r.2) 0 0 (0, [some (.inr (.inr (some (0, 300)))), none, none], [], D)
  rw [fX7_takesNewcomer] at h
  refine mz_Go.run (gs := [mz_kz 1 0 300, mz_kz 1 2 100, mz_kz 1 2 101]) (st' := (if (D.1 2 101 0) < (6 : Int32) then (27, [some (.inr (.inr (some (0, 300)))), some (.inr (.inr (some (2, 101)))), none], [], D) else (17, [some (.inr (.inr (some (0, 300)))), some (.inr (.inr (some (2, 101)))), none], [], D))) bX7_takesNewcomer_0 oX7_takesNewcomer_0 rfl ⟨rfl, rfl, rfl, trivial⟩ ?_
  refine mz_Go.ite (fun hc1 => ?_) (fun hc1 => ?_)
  · have h := mz_ifp hc1 h
    refine mz_Go.run (gs := [mz_kz 1 0 300]) (st' := (31, [some (.inr (.inr (some (0, 300)))), some (.inr (.inr (some (2, 101)))), none], [.inr (.inr (some (0, 2)))], D)) bX7_takesNewcomer_27 oX7_takesNewcomer_27 rfl ⟨rfl, trivial⟩ ?_
    obtain ⟨q2, hq2, h⟩ := mz_bd_some h
    refine mz_Go.callV (I := IX7_takesNewcomer) (J := IX5_advance) (as := []) (ci := 5) (g := 0) (o := 2) (idx := 78) (pl := 787) (rest := []) (mX5_advance D q2 hq2) kX5_advance vX5_advance (by decide +kernel) (by decide +kernel) (by decide +kernel) rfl rfl ⟨rfl, rfl⟩ rfl rfl rfl rfl ?_
    refine mz_Go.run (gs := [mz_kz 1 0 300]) (st' := (38, [some (.inr (.inr (some (0, 300)))), some (.inr (.inr (some (2, 101)))), none], [.inr (.inr (some (0, 2)))], q2)) bX7_takesNewcomer_34 oX7_takesNewcomer_34 rfl ⟨rfl, trivial⟩ ?_
    refine mz_Go.callV (I := IX7_takesNewcomer) (J := IX5_isName) (as := []) (ci := 5) (g := 0) (o := 2) (idx := 81) (pl := 788) (rest := []) (mX5_isName q2 _ rfl) kX5_isName vX5_isName (by decide +kernel) (by decide +kernel) (by decide +kernel) rfl rfl ⟨rfl, rfl⟩ rfl rfl rfl rfl ?_
    refine mz_Go.run (gs := []) (st' := (if (fX5_isName q2) = 0 then (44, [some (.inr (.inr (some (0, 300)))), some (.inr (.inr (some (2, 101)))), none], [], q2) else (53, [some (.inr (.inr (some (0, 300)))), some (.inr (.inr (some (2, 101)))), none], [], q2))) bX7_takesNewcomer_41 oX7_takesNewcomer_41 rfl trivial ?_
    refine mz_Go.ite (fun hc3 => ?_) (fun hc3 => ?_)
    · have h := mz_ifp hc3 h
      refine mz_Go.run (gs := [mz_kz 1 0 300]) (st' := (49, [some (.inr (.inr (some (0, 300)))), some (.inr (.inr (some (2, 101)))), none], [.inl (2 : Int32), .inr (.inr (some (0, 2)))], q2)) bX7_takesNewcomer_44 oX7_takesNewcomer_44 rfl ⟨rfl, trivial⟩ ?_
      obtain ⟨q4, hq4, h⟩ := mz_bd_some h
      refine mz_Go.callV (I := IX7_takesNewcomer) (J := IX5_fail) (as := [.inl (2 : Int32)]) (ci := 5) (g := 0) (o := 2) (idx := 47) (pl := 783) (rest := []) (mX5_fail (2 : Int32) q2 q4 hq4) kX5_fail vX5_fail (by decide +kernel) (by decide +kernel) (by decide +kernel) rfl rfl ⟨rfl, rfl⟩ rfl rfl rfl rfl ?_
      obtain ⟨hb5, h⟩ := mz_gd_some h
      cases h
      exact mz_Go.retz (by decide +kernel) rfl ⟨Nat.le_refl _, Nat.le_refl _⟩ hb5 rfl
    · have h := mz_ifn hc3 h
      refine mz_Go.run (gs := [mz_kz 1 0 300]) (st' := (58, [some (.inr (.inr (some (0, 300)))), some (.inr (.inr (some (2, 101)))), none], [.inr (.inr (some (0, 2))), .inr (.inr (some (2, 101)))], q2)) bX7_takesNewcomer_53 oX7_takesNewcomer_53 rfl ⟨rfl, trivial⟩ ?_
      refine mz_Go.callV (I := IX7_takesNewcomer) (J := IX5_nameHere) (as := []) (ci := 5) (g := 0) (o := 2) (idx := 84) (pl := 792) (rest := [.inr (.inr (some (2, 101)))]) (mX5_nameHere q2) kX5_nameHere vX5_nameHere (by decide +kernel) (by decide +kernel) (by decide +kernel) rfl rfl ⟨rfl, rfl⟩ rfl rfl rfl rfl ?_
      obtain ⟨q6, hq6, h⟩ := mz_bd_some h
      refine mz_Go.callV (I := IX7_takesNewcomer) (J := IX4_find) (as := [.inr (.inl (q2.2 0 2 9))]) (ci := 4) (g := 2) (o := 101) (idx := 88) (pl := 796) (rest := []) (mX4_find 2 (q2.2 0 2 9) q2 rfl q6 hq6) kX4_find vX4_find (by decide +kernel) (by decide +kernel) (by decide +kernel) rfl rfl ⟨rfl, rfl⟩ rfl rfl rfl rfl ?_
      refine mz_Go.run (gs := []) (st' := (if q6 = (-1 : Int32) then (77, [some (.inr (.inr (some (0, 300)))), some (.inr (.inr (some (2, 101)))), none], [], q2) else (68, [some (.inr (.inr (some (0, 300)))), some (.inr (.inr (some (2, 101)))), none], [], q2))) bX7_takesNewcomer_64 oX7_takesNewcomer_64 rfl trivial ?_
      refine mz_Go.ite (fun hc7 => ?_) (fun hc7 => ?_)
      · have h := mz_ifp hc7 h
        refine mz_Go.run (gs := [mz_kz 1 0 300]) (st' := (82, [some (.inr (.inr (some (0, 300)))), some (.inr (.inr (some (2, 101)))), none], [.inr (.inr (some (0, 2))), .inr (.inr (some (2, 101)))], q2)) bX7_takesNewcomer_77 oX7_takesNewcomer_77 rfl ⟨rfl, trivial⟩ ?_
        refine mz_Go.callV (I := IX7_takesNewcomer) (J := IX5_nameHere) (as := []) (ci := 5) (g := 0) (o := 2) (idx := 84) (pl := 792) (rest := [.inr (.inr (some (2, 101)))]) (mX5_nameHere q2) kX5_nameHere vX5_nameHere (by decide +kernel) (by decide +kernel) (by decide +kernel) rfl rfl ⟨rfl, rfl⟩ rfl rfl rfl rfl ?_
        obtain ⟨q8, hq8, h⟩ := mz_bd_some h
        refine mz_Go.callV (I := IX7_takesNewcomer) (J := IX4_add) (as := [.inr (.inl (q2.2 0 2 9))]) (ci := 4) (g := 2) (o := 101) (idx := 92) (pl := 800) (rest := []) (mX4_add 2 (q2.2 0 2 9) q2 rfl q8 hq8) kX4_add vX4_add (by decide +kernel) (by decide +kernel) (by decide +kernel) rfl rfl ⟨rfl, rfl⟩ rfl rfl rfl rfl ?_
        refine mz_Go.run (gs := [mz_kz 1 0 300]) (st' := (93, [some (.inr (.inr (some (0, 300)))), some (.inr (.inr (some (2, 101)))), some (.inl q8.1)], [.inr (.inr (some (0, 2)))], q8.2)) bX7_takesNewcomer_88 oX7_takesNewcomer_88 rfl ⟨rfl, trivial⟩ ?_
        obtain ⟨q9, hq9, h⟩ := mz_bd_some h
        refine mz_Go.callV (I := IX7_takesNewcomer) (J := IX5_advance) (as := []) (ci := 5) (g := 0) (o := 2) (idx := 78) (pl := 787) (rest := []) (mX5_advance q8.2 q9 hq9) kX5_advance vX5_advance (by decide +kernel) (by decide +kernel) (by decide +kernel) rfl rfl ⟨rfl, rfl⟩ rfl rfl rfl rfl ?_
        refine mz_Go.run (gs := [mz_kz 1 2 101]) (st' := (106, [some (.inr (.inr (some (0, 300)))), some (.inr (.inr (some (2, 101)))), some (.inl q8.1)], [.inl (0 : Int32), .inl (16 : Int32), .inl q8.1, .inr (.inr (some (2, 103))), .inl (1 : Int32), .inr (.inr (some (0, 300)))], q9)) bX7_takesNewcomer_96 oX7_takesNewcomer_96 rfl ⟨rfl, trivial⟩ ?_
        obtain ⟨q10, hq10, h⟩ := mz_bd_some h
        refine mz_Go.callV (I := IX7_takesNewcomer) (J := IX7_takesTrait_103) (as := [.inl (1 : Int32), .inr (.inr (some (2, 103))), .inl q8.1, .inl (16 : Int32), .inl (0 : Int32)]) (ci := 7) (g := 0) (o := 300) (idx := 99) (pl := 804) (rest := []) (mX7_takesTrait_103 (1 : Int32) 2 q8.1 (16 : Int32) (0 : Int32) q9 rfl q10 hq10) kX7_takesTrait_103 vX7_takesTrait_103 (by decide +kernel) (by decide +kernel) (by decide +kernel) rfl rfl ⟨rfl, rfl⟩ rfl rfl rfl rfl ?_
        refine mz_Go.run (gs := []) (st' := (if q10.1 = 0 then (175, [some (.inr (.inr (some (0, 300)))), some (.inr (.inr (some (2, 101)))), some (.inl q8.1)], [], q10.2) else (112, [some (.inr (.inr (some (0, 300)))), some (.inr (.inr (some (2, 101)))), some (.inl q8.1)], [], q10.2))) bX7_takesNewcomer_109 oX7_takesNewcomer_109 rfl trivial ?_
        refine mz_Go.ite (fun hc11 => ?_) (fun hc11 => ?_)
        · have h := mz_ifp hc11 h
          refine mz_Go.run (gs := []) (st' := (176, [some (.inr (.inr (some (0, 300)))), some (.inr (.inr (some (2, 101)))), some (.inl q8.1)], [.inl (0 : Int32)], q10.2)) bX7_takesNewcomer_175 oX7_takesNewcomer_175 rfl trivial ?_
          cases h
          exact mz_Go.retz (by decide +kernel) rfl ⟨Nat.le_refl _, Nat.le_refl _⟩ (by decide) rfl
        · have h := mz_ifn hc11 h
          refine mz_Go.run (gs := [mz_kz 1 2 101]) (st' := (122, [some (.inr (.inr (some (0, 300)))), some (.inr (.inr (some (2, 101)))), some (.inl q8.1)], [.inl (1 : Int32), .inl (20 : Int32), .inl q8.1, .inr (.inr (some (2, 104))), .inl (2 : Int32), .inr (.inr (some (0, 300)))], q10.2)) bX7_takesNewcomer_112 oX7_takesNewcomer_112 rfl ⟨rfl, trivial⟩ ?_
          obtain ⟨q12, hq12, h⟩ := mz_bd_some h
          refine mz_Go.callV (I := IX7_takesNewcomer) (J := IX7_takesTrait_104) (as := [.inl (2 : Int32), .inr (.inr (some (2, 104))), .inl q8.1, .inl (20 : Int32), .inl (1 : Int32)]) (ci := 7) (g := 0) (o := 300) (idx := 99) (pl := 804) (rest := []) (mX7_takesTrait_104 (2 : Int32) 2 q8.1 (20 : Int32) (1 : Int32) q10.2 rfl q12 hq12) kX7_takesTrait_104 vX7_takesTrait_104 (by decide +kernel) (by decide +kernel) (by decide +kernel) rfl rfl ⟨rfl, rfl⟩ rfl rfl rfl rfl ?_
          refine mz_Go.run (gs := []) (st' := (if q12.1 = 0 then (175, [some (.inr (.inr (some (0, 300)))), some (.inr (.inr (some (2, 101)))), some (.inl q8.1)], [], q12.2) else (128, [some (.inr (.inr (some (0, 300)))), some (.inr (.inr (some (2, 101)))), some (.inl q8.1)], [], q12.2))) bX7_takesNewcomer_125 oX7_takesNewcomer_125 rfl trivial ?_
          refine mz_Go.ite (fun hc13 => ?_) (fun hc13 => ?_)
          · have h := mz_ifp hc13 h
            refine mz_Go.run (gs := []) (st' := (176, [some (.inr (.inr (some (0, 300)))), some (.inr (.inr (some (2, 101)))), some (.inl q8.1)], [.inl (0 : Int32)], q12.2)) bX7_takesNewcomer_175 oX7_takesNewcomer_175 rfl trivial ?_
            cases h
            exact mz_Go.retz (by decide +kernel) rfl ⟨Nat.le_refl _, Nat.le_refl _⟩ (by decide) rfl
          · have h := mz_ifn hc13 h
            refine mz_Go.run (gs := [mz_kz 1 2 101]) (st' := (138, [some (.inr (.inr (some (0, 300)))), some (.inr (.inr (some (2, 101)))), some (.inl q8.1)], [.inl (0 : Int32), .inl (99 : Int32), .inl q8.1, .inr (.inr (some (2, 105))), .inl (3 : Int32), .inr (.inr (some (0, 300)))], q12.2)) bX7_takesNewcomer_128 oX7_takesNewcomer_128 rfl ⟨rfl, trivial⟩ ?_
            obtain ⟨q14, hq14, h⟩ := mz_bd_some h
            refine mz_Go.callV (I := IX7_takesNewcomer) (J := IX7_takesTrait_105) (as := [.inl (3 : Int32), .inr (.inr (some (2, 105))), .inl q8.1, .inl (99 : Int32), .inl (0 : Int32)]) (ci := 7) (g := 0) (o := 300) (idx := 99) (pl := 804) (rest := []) (mX7_takesTrait_105 (3 : Int32) 2 q8.1 (99 : Int32) (0 : Int32) q12.2 rfl q14 hq14) kX7_takesTrait_105 vX7_takesTrait_105 (by decide +kernel) (by decide +kernel) (by decide +kernel) rfl rfl ⟨rfl, rfl⟩ rfl rfl rfl rfl ?_
            refine mz_Go.run (gs := []) (st' := (if q14.1 = 0 then (175, [some (.inr (.inr (some (0, 300)))), some (.inr (.inr (some (2, 101)))), some (.inl q8.1)], [], q14.2) else (144, [some (.inr (.inr (some (0, 300)))), some (.inr (.inr (some (2, 101)))), some (.inl q8.1)], [], q14.2))) bX7_takesNewcomer_141 oX7_takesNewcomer_141 rfl trivial ?_
            refine mz_Go.ite (fun hc15 => ?_) (fun hc15 => ?_)
            · have h := mz_ifp hc15 h
              refine mz_Go.run (gs := []) (st' := (176, [some (.inr (.inr (some (0, 300)))), some (.inr (.inr (some (2, 101)))), some (.inl q8.1)], [.inl (0 : Int32)], q14.2)) bX7_takesNewcomer_175 oX7_takesNewcomer_175 rfl trivial ?_
              cases h
              exact mz_Go.retz (by decide +kernel) rfl ⟨Nat.le_refl _, Nat.le_refl _⟩ (by decide) rfl
            · have h := mz_ifn hc15 h
              refine mz_Go.run (gs := [mz_kz 1 2 101]) (st' := (157, [some (.inr (.inr (some (0, 300)))), some (.inr (.inr (some (2, 101)))), some (.inl q8.1)], [.inl (999 : Int32), .inl (999 : Int32), .inl q8.1, .inr (.inr (some (2, 106))), .inl (4 : Int32), .inr (.inr (some (0, 300)))], q14.2)) bX7_takesNewcomer_144 oX7_takesNewcomer_144 rfl ⟨rfl, trivial⟩ ?_
              obtain ⟨q16, hq16, h⟩ := mz_bd_some h
              refine mz_Go.callV (I := IX7_takesNewcomer) (J := IX7_takesTrait_106) (as := [.inl (4 : Int32), .inr (.inr (some (2, 106))), .inl q8.1, .inl (999 : Int32), .inl (999 : Int32)]) (ci := 7) (g := 0) (o := 300) (idx := 99) (pl := 804) (rest := []) (mX7_takesTrait_106 (4 : Int32) 2 q8.1 (999 : Int32) (999 : Int32) q14.2 rfl q16 hq16) kX7_takesTrait_106 vX7_takesTrait_106 (by decide +kernel) (by decide +kernel) (by decide +kernel) rfl rfl ⟨rfl, rfl⟩ rfl rfl rfl rfl ?_
              refine mz_Go.run (gs := []) (st' := (if q16.1 = 0 then (175, [some (.inr (.inr (some (0, 300)))), some (.inr (.inr (some (2, 101)))), some (.inl q8.1)], [], q16.2) else (163, [some (.inr (.inr (some (0, 300)))), some (.inr (.inr (some (2, 101)))), some (.inl q8.1)], [], q16.2))) bX7_takesNewcomer_160 oX7_takesNewcomer_160 rfl trivial ?_
              refine mz_Go.ite (fun hc17 => ?_) (fun hc17 => ?_)
              · have h := mz_ifp hc17 h
                refine mz_Go.run (gs := []) (st' := (176, [some (.inr (.inr (some (0, 300)))), some (.inr (.inr (some (2, 101)))), some (.inl q8.1)], [.inl (0 : Int32)], q16.2)) bX7_takesNewcomer_175 oX7_takesNewcomer_175 rfl trivial ?_
                cases h
                exact mz_Go.retz (by decide +kernel) rfl ⟨Nat.le_refl _, Nat.le_refl _⟩ (by decide) rfl
              · have h := mz_ifn hc17 h
                refine mz_Go.run (gs := []) (st' := (165, [some (.inr (.inr (some (0, 300)))), some (.inr (.inr (some (2, 101)))), some (.inl q8.1)], [.inl q8.1, .inr (.inr (some (0, 300)))], q16.2)) bX7_takesNewcomer_163 oX7_takesNewcomer_163 rfl trivial ?_
                obtain ⟨q18, hq18, h⟩ := mz_bd_some h
                refine mz_Go.callV (I := IX7_takesNewcomer) (J := IX7_takesGuest) (as := [.inl q8.1]) (ci := 7) (g := 0) (o := 300) (idx := 112) (pl := 813) (rest := []) (mX7_takesGuest q8.1 q16.2 q18 hq18) kX7_takesGuest vX7_takesGuest (by decide +kernel) (by decide +kernel) (by decide +kernel) rfl rfl ⟨rfl, rfl⟩ rfl rfl rfl rfl ?_
                refine mz_Go.run (gs := []) (st' := (if q18.1 = 0 then (175, [some (.inr (.inr (some (0, 300)))), some (.inr (.inr (some (2, 101)))), some (.inl q8.1)], [], q18.2) else (171, [some (.inr (.inr (some (0, 300)))), some (.inr (.inr (some (2, 101)))), some (.inl q8.1)], [], q18.2))) bX7_takesNewcomer_168 oX7_takesNewcomer_168 rfl trivial ?_
                refine mz_Go.ite (fun hc19 => ?_) (fun hc19 => ?_)
                · have h := mz_ifp hc19 h
                  refine mz_Go.run (gs := []) (st' := (176, [some (.inr (.inr (some (0, 300)))), some (.inr (.inr (some (2, 101)))), some (.inl q8.1)], [.inl (0 : Int32)], q18.2)) bX7_takesNewcomer_175 oX7_takesNewcomer_175 rfl trivial ?_
                  cases h
                  exact mz_Go.retz (by decide +kernel) rfl ⟨Nat.le_refl _, Nat.le_refl _⟩ (by decide) rfl
                · have h := mz_ifn hc19 h
                  refine mz_Go.run (gs := []) (st' := (176, [some (.inr (.inr (some (0, 300)))), some (.inr (.inr (some (2, 101)))), some (.inl q8.1)], [.inl (1 : Int32)], q18.2)) bX7_takesNewcomer_171 oX7_takesNewcomer_171 rfl trivial ?_
                  cases h
                  exact mz_Go.retz (by decide +kernel) rfl ⟨Nat.le_refl _, Nat.le_refl _⟩ (by decide) rfl
      · have h := mz_ifn hc7 h
        refine mz_Go.run (gs := [mz_kz 1 0 300]) (st' := (73, [some (.inr (.inr (some (0, 300)))), some (.inr (.inr (some (2, 101)))), none], [.inl (3 : Int32), .inr (.inr (some (0, 2)))], q2)) bX7_takesNewcomer_68 oX7_takesNewcomer_68 rfl ⟨rfl, trivial⟩ ?_
        obtain ⟨q20, hq20, h⟩ := mz_bd_some h
        refine mz_Go.callV (I := IX7_takesNewcomer) (J := IX5_fail) (as := [.inl (3 : Int32)]) (ci := 5) (g := 0) (o := 2) (idx := 47) (pl := 783) (rest := []) (mX5_fail (3 : Int32) q2 q20 hq20) kX5_fail vX5_fail (by decide +kernel) (by decide +kernel) (by decide +kernel) rfl rfl ⟨rfl, rfl⟩ rfl rfl rfl rfl ?_
        obtain ⟨hb21, h⟩ := mz_gd_some h
        cases h
        exact mz_Go.retz (by decide +kernel) rfl ⟨Nat.le_refl _, Nat.le_refl _⟩ hb21 rfl
  · have h := mz_ifn hc1 h
    refine mz_Go.run (gs := [mz_kz 1 0 300]) (st' := (23, [some (.inr (.inr (some (0, 300)))), some (.inr (.inr (some (2, 101)))), none], [.inl (6 : Int32), .inr (.inr (some (0, 2)))], D)) bX7_takesNewcomer_17 oX7_takesNewcomer_17 rfl ⟨rfl, trivial⟩ ?_
    obtain ⟨q22, hq22, h⟩ := mz_bd_some h
    refine mz_Go.callV (I := IX7_takesNewcomer) (J := IX5_fail) (as := [.inl (6 : Int32)]) (ci := 5) (g := 0) (o := 2) (idx := 47) (pl := 783) (rest := []) (mX5_fail (6 : Int32) D q22 hq22) kX5_fail vX5_fail (by decide +kernel) (by decide +kernel) (by decide +kernel) rfl rfl ⟨rfl, rfl⟩ rfl rfl rfl rfl ?_
    obtain ⟨hb23, h⟩ := mz_gd_some h
    cases h
    exact mz_Go.retz (by decide +kernel) rfl ⟨Nat.le_refl _, Nat.le_refl _⟩ hb23 rfl
def bX7_takesCouple_0 : List mz_E := [(0, .aload_n 0, 0, 0, 0, 0, 0), (1, .getfield 15, 7, 1, 759, 0, 0), (4, .getfield 60, 6, 0, 475, 0, 0), (7, .astore_n 1, 0, 0, 0, 0, 0), (8, .aload_n 1, 0, 0, 0, 0, 0), (9, .getfield 122, 4, 1, 293, 0, 0), (12, .iconst 3, 0, 0, 0, 3, 0), (13, .if_icmp .lt 13, 0, 26, 0, 0, 0)]
theorem oX7_takesCouple_0 : bX7_takesCouple_0.all (mz_ok RX7 cX7_takesCouple 4) = true := by decide +kernel
def bX7_takesCouple_26 : List mz_E := [(26, .aload_n 0, 0, 0, 0, 0, 0), (27, .getfield 9, 7, 0, 758, 0, 0)]
theorem oX7_takesCouple_26 : bX7_takesCouple_26.all (mz_ok RX7 cX7_takesCouple 4) = true := by decide +kernel
def bX7_takesCouple_33 : List mz_E := [(33, .aload_n 0, 0, 0, 0, 0, 0), (34, .getfield 9, 7, 0, 758, 0, 0), (37, .aload_n 1, 0, 0, 0, 0, 0)]
theorem oX7_takesCouple_33 : bX7_takesCouple_33.all (mz_ok RX7 cX7_takesCouple 4) = true := by decide +kernel
def bX7_takesCouple_41 : List mz_E := [(41, .istore_n 2, 0, 0, 0, 0, 0), (42, .iload_n 2, 0, 0, 0, 0, 0), (43, .iconst (-1), 0, 0, 0, -1, 0), (44, .if_icmp .ne 5, 0, 49, 0, 0, 0)]
theorem oX7_takesCouple_41 : bX7_takesCouple_41.all (mz_ok RX7 cX7_takesCouple 4) = true := by decide +kernel
def bX7_takesCouple_47 : List mz_E := [(47, .iconst 0, 0, 0, 0, 0, 0)]
theorem oX7_takesCouple_47 : bX7_takesCouple_47.all (mz_ok RX7 cX7_takesCouple 4) = true := by decide +kernel
def bX7_takesCouple_49 : List mz_E := [(49, .aload_n 1, 0, 0, 0, 0, 0), (50, .getfield 129, 4, 8, 317, 0, 0), (53, .iload_n 2, 0, 0, 0, 0, 0), (54, .iaload, 0, 0, 0, 0, 0), (55, .iconst (-1), 0, 0, 0, -1, 0), (56, .if_icmp .eq 12, 0, 68, 0, 0, 0)]
theorem oX7_takesCouple_49 : bX7_takesCouple_49.all (mz_ok RX7 cX7_takesCouple 4) = true := by decide +kernel
def bX7_takesCouple_68 : List mz_E := [(68, .aload_n 0, 0, 0, 0, 0, 0), (69, .getfield 9, 7, 0, 758, 0, 0)]
theorem oX7_takesCouple_68 : bX7_takesCouple_68.all (mz_ok RX7 cX7_takesCouple 4) = true := by decide +kernel
def bX7_takesCouple_75 : List mz_E := [(75, .aload_n 0, 0, 0, 0, 0, 0), (76, .getfield 9, 7, 0, 758, 0, 0), (79, .aload_n 1, 0, 0, 0, 0, 0)]
theorem oX7_takesCouple_75 : bX7_takesCouple_75.all (mz_ok RX7 cX7_takesCouple 4) = true := by decide +kernel
def bX7_takesCouple_83 : List mz_E := [(83, .istore_n 3, 0, 0, 0, 0, 0), (84, .iload_n 3, 0, 0, 0, 0, 0), (85, .iconst (-1), 0, 0, 0, -1, 0), (86, .if_icmp .ne 5, 0, 91, 0, 0, 0)]
theorem oX7_takesCouple_83 : bX7_takesCouple_83.all (mz_ok RX7 cX7_takesCouple 4) = true := by decide +kernel
def bX7_takesCouple_89 : List mz_E := [(89, .iconst 0, 0, 0, 0, 0, 0)]
theorem oX7_takesCouple_89 : bX7_takesCouple_89.all (mz_ok RX7 cX7_takesCouple 4) = true := by decide +kernel
def bX7_takesCouple_91 : List mz_E := [(91, .iload_n 3, 0, 0, 0, 0, 0), (92, .iload_n 2, 0, 0, 0, 0, 0), (93, .if_icmp .eq 13, 0, 106, 0, 0, 0)]
theorem oX7_takesCouple_91 : bX7_takesCouple_91.all (mz_ok RX7 cX7_takesCouple 4) = true := by decide +kernel
def bX7_takesCouple_106 : List mz_E := [(106, .aload_n 0, 0, 0, 0, 0, 0), (107, .getfield 9, 7, 0, 758, 0, 0), (110, .iconst 5, 0, 0, 0, 5, 0)]
theorem oX7_takesCouple_106 : bX7_takesCouple_106.all (mz_ok RX7 cX7_takesCouple 4) = true := by decide +kernel
def bX7_takesCouple_96 : List mz_E := [(96, .aload_n 1, 0, 0, 0, 0, 0), (97, .getfield 129, 4, 8, 317, 0, 0), (100, .iload_n 3, 0, 0, 0, 0, 0), (101, .iaload, 0, 0, 0, 0, 0), (102, .iconst (-1), 0, 0, 0, -1, 0), (103, .if_icmp .eq 12, 0, 115, 0, 0, 0)]
theorem oX7_takesCouple_96 : bX7_takesCouple_96.all (mz_ok RX7 cX7_takesCouple 4) = true := by decide +kernel
def bX7_takesCouple_115 : List mz_E := [(115, .aload_n 0, 0, 0, 0, 0, 0), (116, .getfield 9, 7, 0, 758, 0, 0)]
theorem oX7_takesCouple_115 : bX7_takesCouple_115.all (mz_ok RX7 cX7_takesCouple 4) = true := by decide +kernel
def bX7_takesCouple_122 : List mz_E := [(122, .aload_n 1, 0, 0, 0, 0, 0), (123, .iload_n 2, 0, 0, 0, 0, 0), (124, .iload_n 3, 0, 0, 0, 0, 0)]
theorem oX7_takesCouple_122 : bX7_takesCouple_122.all (mz_ok RX7 cX7_takesCouple 4) = true := by decide +kernel
def bX7_takesCouple_128 : List mz_E := [(128, .iconst 1, 0, 0, 0, 1, 0)]
theorem oX7_takesCouple_128 : bX7_takesCouple_128.all (mz_ok RX7 cX7_takesCouple 4) = true := by decide +kernel
def bX7_takesCouple_59 : List mz_E := [(59, .aload_n 0, 0, 0, 0, 0, 0), (60, .getfield 9, 7, 0, 758, 0, 0), (63, .iconst 5, 0, 0, 0, 5, 0)]
theorem oX7_takesCouple_59 : bX7_takesCouple_59.all (mz_ok RX7 cX7_takesCouple 4) = true := by decide +kernel
def bX7_takesCouple_16 : List mz_E := [(16, .aload_n 0, 0, 0, 0, 0, 0), (17, .getfield 9, 7, 0, 758, 0, 0), (20, .bipush 6, 0, 0, 0, 6, 0)]
theorem oX7_takesCouple_16 : bX7_takesCouple_16.all (mz_ok RX7 cX7_takesCouple 4) = true := by decide +kernel
abbrev IX7_takesCouple : mz_I := (yX7_takesCouple, cX7_takesCouple, 4, (some .boolean), 1, 2, 0, 0)
theorem kX7_takesCouple : mz_okm IX7_takesCouple 820 144 819 0 = true := by decide +kernel
theorem vX7_takesCouple : mz_okV IX7_takesCouple 819 9 = true := by decide +kernel
def fX7_takesCouple_106 (D : mz_D) : Option (Int32 × mz_D) := (Option.bind (fX5_fail (5 : Int32) D) fun q1 => (mz_gd (mz_bo q1.1) (some (q1.1, q1.2))))
set_option maxHeartbeats 4000000 in
theorem tX7_takesCouple_106 (r : (Int32 × mz_D)) : ∀ (D : mz_D), fX7_takesCouple_106 D = some r → mz_Go IX7_takesCouple (some (.inl r.1), r.2) 0 0 (106, [some (.inr (.inr (some (0, 300)))), none, none, none], [], D) := by
  intro D h
  rw [fX7_takesCouple_106] at h
  refine mz_Go.run (gs := [mz_kz 1 0 300]) (st' := (111, [some (.inr (.inr (some (0, 300)))), none, none, none], [.inl (5 : Int32), .inr (.inr (some (0, 2)))], D)) bX7_takesCouple_106 oX7_takesCouple_106 rfl ⟨rfl, trivial⟩ ?_
  obtain ⟨q1, hq1, h⟩ := mz_bd_some h
  refine mz_Go.callV (I := IX7_takesCouple) (J := IX5_fail) (as := [.inl (5 : Int32)]) (ci := 5) (g := 0) (o := 2) (idx := 47) (pl := 783) (rest := []) (mX5_fail (5 : Int32) D q1 hq1) kX5_fail vX5_fail (by decide +kernel) (by decide +kernel) (by decide +kernel) rfl rfl ⟨rfl, rfl⟩ rfl rfl rfl rfl ?_
  obtain ⟨hb2, h⟩ := mz_gd_some h
  cases h
  exact mz_Go.retz (by decide +kernel) rfl ⟨Nat.le_refl _, Nat.le_refl _⟩ hb2 rfl
def fX7_takesCouple (D : mz_D) : Option (Int32 × mz_D) := (if (D.1 2 101 1) < (3 : Int32) then (Option.bind (fX5_advance D) fun q2 => (Option.bind (fX5_personHere 2 q2) fun q3 => (if q3.1 = (-1 : Int32) then (some ((0 : Int32), q3.2)) else (mz_gd (mz_ix q3.1 6) (if (q3.2.1 2 107 (q3.1).toNatClampNeg) = (-1 : Int32) then (Option.bind (fX5_advance q3.2) fun q7 => (Option.bind (fX5_personHere 2 q7) fun q8 => (if q8.1 = (-1 : Int32) then (some ((0 : Int32), q8.2)) else (if q8.1 = q3.1 then (fX7_takesCouple_106 q8.2) else (mz_gd (mz_ix q8.1 6) (if (q8.2.1 2 107 (q8.1).toNatClampNeg) = (-1 : Int32) then (Option.bind (fX5_advance q8.2) fun q13 => (Option.bind (fX4_join 2 q3.1 q8.1 q13) fun q14 => (some ((1 : Int32), q14)))) else (fX7_takesCouple_106 q8.2))))))) else (Option.bind (fX5_fail (5 : Int32) q3.2) fun q15 => (mz_gd (mz_bo q15.1) (some (q15.1, q15.2))))))))) else (Option.bind (fX5_fail (6 : Int32) D) fun q17 => (mz_gd (mz_bo q17.1) (some (q17.1, q17.2)))))
set_option maxHeartbeats 4000000 in
theorem mX7_takesCouple (D : mz_D) (r : (Int32 × mz_D)) (h : fX7_takesCouple D = some r) : mz_Met IX7_takesCouple [.inr (.inr (some (0, 300)))] D (some (.inl r.1), r.2) := by
  refine mz_Met.of (by decide +kernel) (Nat.le_of_ble_eq_true rfl) ?_
  show mz_Go IX7_takesCouple (some (.inl r.1), r.2) 0 0 (0, [some (.inr (.inr (some (0, 300)))), none, none, none], [], D)
  rw [fX7_takesCouple] at h
  refine mz_Go.run (gs := [mz_kz 1 0 300, mz_kz 1 2 100, mz_kz 1 2 101]) (st' := (if (D.1 2 101 1) < (3 : Int32) then (26, [some (.inr (.inr (some (0, 300)))), some (.inr (.inr (some (2, 101)))), none, none], [], D) else (16, [some (.inr (.inr (some (0, 300)))), some (.inr (.inr (some (2, 101)))), none, none], [], D))) bX7_takesCouple_0 oX7_takesCouple_0 rfl ⟨rfl, rfl, rfl, trivial⟩ ?_
  refine mz_Go.ite (fun hc1 => ?_) (fun hc1 => ?_)
  · have h := mz_ifp hc1 h
    refine mz_Go.run (gs := [mz_kz 1 0 300]) (st' := (30, [some (.inr (.inr (some (0, 300)))), some (.inr (.inr (some (2, 101)))), none, none], [.inr (.inr (some (0, 2)))], D)) bX7_takesCouple_26 oX7_takesCouple_26 rfl ⟨rfl, trivial⟩ ?_
    obtain ⟨q2, hq2, h⟩ := mz_bd_some h
    refine mz_Go.callV (I := IX7_takesCouple) (J := IX5_advance) (as := []) (ci := 5) (g := 0) (o := 2) (idx := 78) (pl := 787) (rest := []) (mX5_advance D q2 hq2) kX5_advance vX5_advance (by decide +kernel) (by decide +kernel) (by decide +kernel) rfl rfl ⟨rfl, rfl⟩ rfl rfl rfl rfl ?_
    refine mz_Go.run (gs := [mz_kz 1 0 300]) (st' := (38, [some (.inr (.inr (some (0, 300)))), some (.inr (.inr (some (2, 101)))), none, none], [.inr (.inr (some (2, 101))), .inr (.inr (some (0, 2)))], q2)) bX7_takesCouple_33 oX7_takesCouple_33 rfl ⟨rfl, trivial⟩ ?_
    obtain ⟨q3, hq3, h⟩ := mz_bd_some h
    refine mz_Go.callV (I := IX7_takesCouple) (J := IX5_personHere) (as := [.inr (.inr (some (2, 101)))]) (ci := 5) (g := 0) (o := 2) (idx := 125) (pl := 821) (rest := []) (mX5_personHere 2 q2 rfl q3 hq3) kX5_personHere vX5_personHere (by decide +kernel) (by decide +kernel) (by decide +kernel) rfl rfl ⟨rfl, rfl⟩ rfl rfl rfl rfl ?_
    refine mz_Go.run (gs := []) (st' := (if q3.1 = (-1 : Int32) then (47, [some (.inr (.inr (some (0, 300)))), some (.inr (.inr (some (2, 101)))), some (.inl q3.1), none], [], q3.2) else (49, [some (.inr (.inr (some (0, 300)))), some (.inr (.inr (some (2, 101)))), some (.inl q3.1), none], [], q3.2))) bX7_takesCouple_41 oX7_takesCouple_41 rfl trivial ?_
    refine mz_Go.ite (fun hc4 => ?_) (fun hc4 => ?_)
    · have h := mz_ifp hc4 h
      refine mz_Go.run (gs := []) (st' := (48, [some (.inr (.inr (some (0, 300)))), some (.inr (.inr (some (2, 101)))), some (.inl q3.1), none], [.inl (0 : Int32)], q3.2)) bX7_takesCouple_47 oX7_takesCouple_47 rfl trivial ?_
      cases h
      exact mz_Go.retz (by decide +kernel) rfl ⟨Nat.le_refl _, Nat.le_refl _⟩ (by decide) rfl
    · have h := mz_ifn hc4 h
      obtain ⟨hb5, h⟩ := mz_gd_some h
      refine mz_Go.run (gs := [mz_kz 1 2 101, mz_kz 1 2 107, mz_ix q3.1 6]) (st' := (if (q3.2.1 2 107 (q3.1).toNatClampNeg) = (-1 : Int32) then (68, [some (.inr (.inr (some (0, 300)))), some (.inr (.inr (some (2, 101)))), some (.inl q3.1), none], [], q3.2) else (59, [some (.inr (.inr (some (0, 300)))), some (.inr (.inr (some (2, 101)))), some (.inl q3.1), none], [], q3.2))) bX7_takesCouple_49 oX7_takesCouple_49 rfl ⟨rfl, rfl, hb5, trivial⟩ ?_
      refine mz_Go.ite (fun hc6 => ?_) (fun hc6 => ?_)
      · have h := mz_ifp hc6 h
        refine mz_Go.run (gs := [mz_kz 1 0 300]) (st' := (72, [some (.inr (.inr (some (0, 300)))), some (.inr (.inr (some (2, 101)))), some (.inl q3.1), none], [.inr (.inr (some (0, 2)))], q3.2)) bX7_takesCouple_68 oX7_takesCouple_68 rfl ⟨rfl, trivial⟩ ?_
        obtain ⟨q7, hq7, h⟩ := mz_bd_some h
        refine mz_Go.callV (I := IX7_takesCouple) (J := IX5_advance) (as := []) (ci := 5) (g := 0) (o := 2) (idx := 78) (pl := 787) (rest := []) (mX5_advance q3.2 q7 hq7) kX5_advance vX5_advance (by decide +kernel) (by decide +kernel) (by decide +kernel) rfl rfl ⟨rfl, rfl⟩ rfl rfl rfl rfl ?_
        refine mz_Go.run (gs := [mz_kz 1 0 300]) (st' := (80, [some (.inr (.inr (some (0, 300)))), some (.inr (.inr (some (2, 101)))), some (.inl q3.1), none], [.inr (.inr (some (2, 101))), .inr (.inr (some (0, 2)))], q7)) bX7_takesCouple_75 oX7_takesCouple_75 rfl ⟨rfl, trivial⟩ ?_
        obtain ⟨q8, hq8, h⟩ := mz_bd_some h
        refine mz_Go.callV (I := IX7_takesCouple) (J := IX5_personHere) (as := [.inr (.inr (some (2, 101)))]) (ci := 5) (g := 0) (o := 2) (idx := 125) (pl := 821) (rest := []) (mX5_personHere 2 q7 rfl q8 hq8) kX5_personHere vX5_personHere (by decide +kernel) (by decide +kernel) (by decide +kernel) rfl rfl ⟨rfl, rfl⟩ rfl rfl rfl rfl ?_
        refine mz_Go.run (gs := []) (st' := (if q8.1 = (-1 : Int32) then (89, [some (.inr (.inr (some (0, 300)))), some (.inr (.inr (some (2, 101)))), some (.inl q3.1), some (.inl q8.1)], [], q8.2) else (91, [some (.inr (.inr (some (0, 300)))), some (.inr (.inr (some (2, 101)))), some (.inl q3.1), some (.inl q8.1)], [], q8.2))) bX7_takesCouple_83 oX7_takesCouple_83 rfl trivial ?_
        refine mz_Go.ite (fun hc9 => ?_) (fun hc9 => ?_)
        · have h := mz_ifp hc9 h
          refine mz_Go.run (gs := []) (st' := (90, [some (.inr (.inr (some (0, 300)))), some (.inr (.inr (some (2, 101)))), some (.inl q3.1), some (.inl q8.1)], [.inl (0 : Int32)], q8.2)) bX7_takesCouple_89 oX7_takesCouple_89 rfl trivial ?_
          cases h
          exact mz_Go.retz (by decide +kernel) rfl ⟨Nat.le_refl _, Nat.le_refl _⟩ (by decide) rfl
        · have h := mz_ifn hc9 h
          refine mz_Go.run (gs := []) (st' := (if q8.1 = q3.1 then (106, [some (.inr (.inr (some (0, 300)))), some (.inr (.inr (some (2, 101)))), some (.inl q3.1), some (.inl q8.1)], [], q8.2) else (96, [some (.inr (.inr (some (0, 300)))), some (.inr (.inr (some (2, 101)))), some (.inl q3.1), some (.inl q8.1)], [], q8.2))) bX7_takesCouple_91 oX7_takesCouple_91 rfl trivial ?_
          refine mz_Go.ite (fun hc10 => ?_) (fun hc10 => ?_)
          · have h := mz_ifp hc10 h
            exact mz_Go.drop [true, false, false, false] (tX7_takesCouple_106 r q8.2 h)
          · have h := mz_ifn hc10 h
            obtain ⟨hb11, h⟩ := mz_gd_some h
            refine mz_Go.run (gs := [mz_kz 1 2 101, mz_kz 1 2 107, mz_ix q8.1 6]) (st' := (if (q8.2.1 2 107 (q8.1).toNatClampNeg) = (-1 : Int32) then (115, [some (.inr (.inr (some (0, 300)))), some (.inr (.inr (some (2, 101)))), some (.inl q3.1), some (.inl q8.1)], [], q8.2) else (106, [some (.inr (.inr (some (0, 300)))), some (.inr (.inr (some (2, 101)))), some (.inl q3.1), some (.inl q8.1)], [], q8.2))) bX7_takesCouple_96 oX7_takesCouple_96 rfl ⟨rfl, rfl, hb11, trivial⟩ ?_
            refine mz_Go.ite (fun hc12 => ?_) (fun hc12 => ?_)
            · have h := mz_ifp hc12 h
              refine mz_Go.run (gs := [mz_kz 1 0 300]) (st' := (119, [some (.inr (.inr (some (0, 300)))), some (.inr (.inr (some (2, 101)))), some (.inl q3.1), some (.inl q8.1)], [.inr (.inr (some (0, 2)))], q8.2)) bX7_takesCouple_115 oX7_takesCouple_115 rfl ⟨rfl, trivial⟩ ?_
              obtain ⟨q13, hq13, h⟩ := mz_bd_some h
              refine mz_Go.callV (I := IX7_takesCouple) (J := IX5_advance) (as := []) (ci := 5) (g := 0) (o := 2) (idx := 78) (pl := 787) (rest := []) (mX5_advance q8.2 q13 hq13) kX5_advance vX5_advance (by decide +kernel) (by decide +kernel) (by decide +kernel) rfl rfl ⟨rfl, rfl⟩ rfl rfl rfl rfl ?_
              refine mz_Go.run (gs := []) (st' := (125, [some (.inr (.inr (some (0, 300)))), some (.inr (.inr (some (2, 101)))), some (.inl q3.1), some (.inl q8.1)], [.inl q8.1, .inl q3.1, .inr (.inr (some (2, 101)))], q13)) bX7_takesCouple_122 oX7_takesCouple_122 rfl trivial ?_
              obtain ⟨q14, hq14, h⟩ := mz_bd_some h
              refine mz_Go.callV (I := IX7_takesCouple) (J := IX4_join) (as := [.inl q3.1, .inl q8.1]) (ci := 4) (g := 2) (o := 101) (idx := 132) (pl := 827) (rest := []) (mX4_join 2 q3.1 q8.1 q13 rfl q14 hq14) kX4_join vX4_join (by decide +kernel) (by decide +kernel) (by decide +kernel) rfl rfl ⟨rfl, rfl⟩ rfl rfl rfl rfl ?_
              refine mz_Go.run (gs := []) (st' := (129, [some (.inr (.inr (some (0, 300)))), some (.inr (.inr (some (2, 101)))), some (.inl q3.1), some (.inl q8.1)], [.inl (1 : Int32)], q14)) bX7_takesCouple_128 oX7_takesCouple_128 rfl trivial ?_
              cases h
              exact mz_Go.retz (by decide +kernel) rfl ⟨Nat.le_refl _, Nat.le_refl _⟩ (by decide) rfl
            · have h := mz_ifn hc12 h
              exact mz_Go.drop [true, false, false, false] (tX7_takesCouple_106 r q8.2 h)
      · have h := mz_ifn hc6 h
        refine mz_Go.run (gs := [mz_kz 1 0 300]) (st' := (64, [some (.inr (.inr (some (0, 300)))), some (.inr (.inr (some (2, 101)))), some (.inl q3.1), none], [.inl (5 : Int32), .inr (.inr (some (0, 2)))], q3.2)) bX7_takesCouple_59 oX7_takesCouple_59 rfl ⟨rfl, trivial⟩ ?_
        obtain ⟨q15, hq15, h⟩ := mz_bd_some h
        refine mz_Go.callV (I := IX7_takesCouple) (J := IX5_fail) (as := [.inl (5 : Int32)]) (ci := 5) (g := 0) (o := 2) (idx := 47) (pl := 783) (rest := []) (mX5_fail (5 : Int32) q3.2 q15 hq15) kX5_fail vX5_fail (by decide +kernel) (by decide +kernel) (by decide +kernel) rfl rfl ⟨rfl, rfl⟩ rfl rfl rfl rfl ?_
        obtain ⟨hb16, h⟩ := mz_gd_some h
        cases h
        exact mz_Go.retz (by decide +kernel) rfl ⟨Nat.le_refl _, Nat.le_refl _⟩ hb16 rfl
  · have h := mz_ifn hc1 h
    refine mz_Go.run (gs := [mz_kz 1 0 300]) (st' := (22, [some (.inr (.inr (some (0, 300)))), some (.inr (.inr (some (2, 101)))), none, none], [.inl (6 : Int32), .inr (.inr (some (0, 2)))], D)) bX7_takesCouple_16 oX7_takesCouple_16 rfl ⟨rfl, trivial⟩ ?_
    obtain ⟨q17, hq17, h⟩ := mz_bd_some h
    refine mz_Go.callV (I := IX7_takesCouple) (J := IX5_fail) (as := [.inl (6 : Int32)]) (ci := 5) (g := 0) (o := 2) (idx := 47) (pl := 783) (rest := []) (mX5_fail (6 : Int32) D q17 hq17) kX5_fail vX5_fail (by decide +kernel) (by decide +kernel) (by decide +kernel) rfl rfl ⟨rfl, rfl⟩ rfl rfl rfl rfl ?_
    obtain ⟨hb18, h⟩ := mz_gd_some h
    cases h
    exact mz_Go.retz (by decide +kernel) rfl ⟨Nat.le_refl _, Nat.le_refl _⟩ hb18 rfl
def bX7_takesDish_0 : List mz_E := [(0, .aload_n 0, 0, 0, 0, 0, 0), (1, .getfield 15, 7, 1, 759, 0, 0), (4, .getfield 136, 6, 1, 480, 0, 0), (7, .getfield 140, 1, 0, 351, 0, 0), (10, .bipush 16, 0, 0, 0, 16, 0), (12, .if_icmp .lt 13, 0, 25, 0, 0, 0)]
theorem oX7_takesDish_0 : bX7_takesDish_0.all (mz_ok RX7 cX7_takesDish 3) = true := by decide +kernel
def bX7_takesDish_25 : List mz_E := [(25, .aload_n 0, 0, 0, 0, 0, 0), (26, .getfield 9, 7, 0, 758, 0, 0)]
theorem oX7_takesDish_25 : bX7_takesDish_25.all (mz_ok RX7 cX7_takesDish 3) = true := by decide +kernel
def bX7_takesDish_32 : List mz_E := [(32, .aload_n 0, 0, 0, 0, 0, 0), (33, .getfield 9, 7, 0, 758, 0, 0), (36, .iconst 1, 0, 0, 0, 1, 0), (37, .sipush 999, 0, 0, 0, 999, 0)]
theorem oX7_takesDish_32 : bX7_takesDish_32.all (mz_ok RX7 cX7_takesDish 3) = true := by decide +kernel
def bX7_takesDish_43 : List mz_E := [(43, .istore_n 1, 0, 0, 0, 0, 0), (44, .iload_n 1, 0, 0, 0, 0, 0), (45, .iconst (-1), 0, 0, 0, -1, 0), (46, .if_icmp .ne 5, 0, 51, 0, 0, 0)]
theorem oX7_takesDish_43 : bX7_takesDish_43.all (mz_ok RX7 cX7_takesDish 3) = true := by decide +kernel
def bX7_takesDish_49 : List mz_E := [(49, .iconst 0, 0, 0, 0, 0, 0)]
theorem oX7_takesDish_49 : bX7_takesDish_49.all (mz_ok RX7 cX7_takesDish 3) = true := by decide +kernel
def bX7_takesDish_51 : List mz_E := [(51, .iconst (-1), 0, 0, 0, -1, 0), (52, .istore_n 2, 0, 0, 0, 0, 0), (53, .aload_n 0, 0, 0, 0, 0, 0), (54, .getfield 9, 7, 0, 758, 0, 0), (57, .getfield 25, 5, 2, 218, 0, 0), (60, .bipush 8, 0, 0, 0, 8, 0), (62, .if_icmp .ne 32, 0, 94, 0, 0, 0)]
theorem oX7_takesDish_51 : bX7_takesDish_51.all (mz_ok RX7 cX7_takesDish 3) = true := by decide +kernel
def bX7_takesDish_65 : List mz_E := [(65, .aload_n 0, 0, 0, 0, 0, 0), (66, .getfield 9, 7, 0, 758, 0, 0)]
theorem oX7_takesDish_65 : bX7_takesDish_65.all (mz_ok RX7 cX7_takesDish 3) = true := by decide +kernel
def bX7_takesDish_72 : List mz_E := [(72, .aload_n 0, 0, 0, 0, 0, 0), (73, .getfield 9, 7, 0, 758, 0, 0), (76, .aload_n 0, 0, 0, 0, 0, 0), (77, .getfield 15, 7, 1, 759, 0, 0), (80, .getfield 60, 6, 0, 475, 0, 0)]
theorem oX7_takesDish_72 : bX7_takesDish_72.all (mz_ok RX7 cX7_takesDish 3) = true := by decide +kernel
def bX7_takesDish_86 : List mz_E := [(86, .istore_n 2, 0, 0, 0, 0, 0), (87, .iload_n 2, 0, 0, 0, 0, 0), (88, .iconst (-1), 0, 0, 0, -1, 0), (89, .if_icmp .ne 5, 0, 94, 0, 0, 0)]
theorem oX7_takesDish_86 : bX7_takesDish_86.all (mz_ok RX7 cX7_takesDish 3) = true := by decide +kernel
def bX7_takesDish_92 : List mz_E := [(92, .iconst 0, 0, 0, 0, 0, 0)]
theorem oX7_takesDish_92 : bX7_takesDish_92.all (mz_ok RX7 cX7_takesDish 3) = true := by decide +kernel
def bX7_takesDish_94 : List mz_E := [(94, .aload_n 0, 0, 0, 0, 0, 0), (95, .getfield 15, 7, 1, 759, 0, 0), (98, .getfield 136, 6, 1, 480, 0, 0), (101, .iload_n 1, 0, 0, 0, 0, 0), (102, .iload_n 2, 0, 0, 0, 0, 0)]
theorem oX7_takesDish_94 : bX7_takesDish_94.all (mz_ok RX7 cX7_takesDish 3) = true := by decide +kernel
def bX7_takesDish_106 : List mz_E := [(106, .iconst 1, 0, 0, 0, 1, 0)]
theorem oX7_takesDish_106 : bX7_takesDish_106.all (mz_ok RX7 cX7_takesDish 3) = true := by decide +kernel
def bX7_takesDish_15 : List mz_E := [(15, .aload_n 0, 0, 0, 0, 0, 0), (16, .getfield 9, 7, 0, 758, 0, 0), (19, .bipush 6, 0, 0, 0, 6, 0)]
theorem oX7_takesDish_15 : bX7_takesDish_15.all (mz_ok RX7 cX7_takesDish 3) = true := by decide +kernel
abbrev IX7_takesDish : mz_I := (yX7_takesDish, cX7_takesDish, 3, (some .boolean), 1, 3, 0, 0)
theorem kX7_takesDish : mz_okm IX7_takesDish 834 144 833 0 = true := by decide +kernel
theorem vX7_takesDish : mz_okV IX7_takesDish 833 10 = true := by decide +kernel
def fX7_takesDish_94 (x1 : Int32) (x2 : Int32) (D : mz_D) : Option (Int32 × mz_D) := (Option.bind (fX1_add 2 x1 x2 D) fun q1 => (some ((1 : Int32), q1)))
set_option maxHeartbeats 4000000 in
theorem tX7_takesDish_94 (r : (Int32 × mz_D)) : ∀ (x1 : Int32) (x2 : Int32) (D : mz_D), fX7_takesDish_94 x1 x2 D = some r → mz_Go IX7_takesDish (some (.inl r.1), r.2) 0 0 (94, [some (.inr (.inr (some (0, 300)))), some (.inl x1), some (.inl x2)], [], D) := by
  intro x1 x2 D h
  rw [fX7_takesDish_94] at h
  refine mz_Go.run (gs := [mz_kz 1 0 300, mz_kz 1 2 100]) (st' := (103, [some (.inr (.inr (some (0, 300)))), some (.inl x1), some (.inl x2)], [.inl x2, .inl x1, .inr (.inr (some (2, 109)))], D)) bX7_takesDish_94 oX7_takesDish_94 rfl ⟨rfl, rfl, trivial⟩ ?_
  obtain ⟨q1, hq1, h⟩ := mz_bd_some h
  refine mz_Go.callV (I := IX7_takesDish) (J := IX1_add) (as := [.inl x1, .inl x2]) (ci := 1) (g := 2) (o := 109) (idx := 146) (pl := 840) (rest := []) (mX1_add 2 x1 x2 D rfl q1 hq1) kX1_add vX1_add (by decide +kernel) (by decide +kernel) (by decide +kernel) rfl rfl ⟨rfl, rfl⟩ rfl rfl rfl rfl ?_
  refine mz_Go.run (gs := []) (st' := (107, [some (.inr (.inr (some (0, 300)))), some (.inl x1), some (.inl x2)], [.inl (1 : Int32)], q1)) bX7_takesDish_106 oX7_takesDish_106 rfl trivial ?_
  cases h
  exact mz_Go.retz (by decide +kernel) rfl ⟨Nat.le_refl _, Nat.le_refl _⟩ (by decide) rfl
def fX7_takesDish (D : mz_D) : Option (Int32 × mz_D) := (if (D.1 2 109 0) < (16 : Int32) then (Option.bind (fX5_advance D) fun q2 => (Option.bind (fX5_takeNumber (1 : Int32) (999 : Int32) q2) fun q3 => (if q3.1 = (-1 : Int32) then (some ((0 : Int32), q3.2)) else (if (q3.2.1 0 2 2) = (8 : Int32) then (Option.bind (fX5_advance q3.2) fun q6 => (Option.bind (fX5_takePerson 2 q6) fun q7 => (if q7.1 = (-1 : Int32) then (some ((0 : Int32), q7.2)) else (fX7_takesDish_94 q3.1 q7.1 q7.2)))) else (fX7_takesDish_94 q3.1 (-1 : Int32) q3.2))))) else (Option.bind (fX5_fail (6 : Int32) D) fun q9 => (mz_gd (mz_bo q9.1) (some (q9.1, q9.2)))))
set_option maxHeartbeats 4000000 in
theorem mX7_takesDish (D : mz_D) (r : (Int32 × mz_D)) (h : fX7_takesDish D = some r) : mz_Met IX7_takesDish [.inr (.inr (some (0, 300)))] D (some (.inl r.1), r.2) := by
  refine mz_Met.of (by decide +kernel) (Nat.le_of_ble_eq_true rfl) ?_
  show mz_Go IX7_takesDish (some (.inl r.1), r.2) 0 0 (0, [some (.inr (.inr (some (0, 300)))), none, none], [], D)
  rw [fX7_takesDish] at h
  refine mz_Go.run (gs := [mz_kz 1 0 300, mz_kz 1 2 100, mz_kz 1 2 109]) (st' := (if (D.1 2 109 0) < (16 : Int32) then (25, [some (.inr (.inr (some (0, 300)))), none, none], [], D) else (15, [some (.inr (.inr (some (0, 300)))), none, none], [], D))) bX7_takesDish_0 oX7_takesDish_0 rfl ⟨rfl, rfl, rfl, trivial⟩ ?_
  refine mz_Go.ite (fun hc1 => ?_) (fun hc1 => ?_)
  · have h := mz_ifp hc1 h
    refine mz_Go.run (gs := [mz_kz 1 0 300]) (st' := (29, [some (.inr (.inr (some (0, 300)))), none, none], [.inr (.inr (some (0, 2)))], D)) bX7_takesDish_25 oX7_takesDish_25 rfl ⟨rfl, trivial⟩ ?_
    obtain ⟨q2, hq2, h⟩ := mz_bd_some h
    refine mz_Go.callV (I := IX7_takesDish) (J := IX5_advance) (as := []) (ci := 5) (g := 0) (o := 2) (idx := 78) (pl := 787) (rest := []) (mX5_advance D q2 hq2) kX5_advance vX5_advance (by decide +kernel) (by decide +kernel) (by decide +kernel) rfl rfl ⟨rfl, rfl⟩ rfl rfl rfl rfl ?_
    refine mz_Go.run (gs := [mz_kz 1 0 300]) (st' := (40, [some (.inr (.inr (some (0, 300)))), none, none], [.inl (999 : Int32), .inl (1 : Int32), .inr (.inr (some (0, 2)))], q2)) bX7_takesDish_32 oX7_takesDish_32 rfl ⟨rfl, trivial⟩ ?_
    obtain ⟨q3, hq3, h⟩ := mz_bd_some h
    refine mz_Go.callV (I := IX7_takesDish) (J := IX5_takeNumber) (as := [.inl (1 : Int32), .inl (999 : Int32)]) (ci := 5) (g := 0) (o := 2) (idx := 115) (pl := 808) (rest := []) (mX5_takeNumber (1 : Int32) (999 : Int32) q2 q3 hq3) kX5_takeNumber vX5_takeNumber (by decide +kernel) (by decide +kernel) (by decide +kernel) rfl rfl ⟨rfl, rfl⟩ rfl rfl rfl rfl ?_
    refine mz_Go.run (gs := []) (st' := (if q3.1 = (-1 : Int32) then (49, [some (.inr (.inr (some (0, 300)))), some (.inl q3.1), none], [], q3.2) else (51, [some (.inr (.inr (some (0, 300)))), some (.inl q3.1), none], [], q3.2))) bX7_takesDish_43 oX7_takesDish_43 rfl trivial ?_
    refine mz_Go.ite (fun hc4 => ?_) (fun hc4 => ?_)
    · have h := mz_ifp hc4 h
      refine mz_Go.run (gs := []) (st' := (50, [some (.inr (.inr (some (0, 300)))), some (.inl q3.1), none], [.inl (0 : Int32)], q3.2)) bX7_takesDish_49 oX7_takesDish_49 rfl trivial ?_
      cases h
      exact mz_Go.retz (by decide +kernel) rfl ⟨Nat.le_refl _, Nat.le_refl _⟩ (by decide) rfl
    · have h := mz_ifn hc4 h
      refine mz_Go.run (gs := [mz_kz 1 0 300, mz_kz 1 0 2]) (st' := (if (q3.2.1 0 2 2) = (8 : Int32) then (65, [some (.inr (.inr (some (0, 300)))), some (.inl q3.1), some (.inl (-1 : Int32))], [], q3.2) else (94, [some (.inr (.inr (some (0, 300)))), some (.inl q3.1), some (.inl (-1 : Int32))], [], q3.2))) bX7_takesDish_51 oX7_takesDish_51 rfl ⟨rfl, rfl, trivial⟩ ?_
      refine mz_Go.ite (fun hc5 => ?_) (fun hc5 => ?_)
      · have h := mz_ifp hc5 h
        refine mz_Go.run (gs := [mz_kz 1 0 300]) (st' := (69, [some (.inr (.inr (some (0, 300)))), some (.inl q3.1), some (.inl (-1 : Int32))], [.inr (.inr (some (0, 2)))], q3.2)) bX7_takesDish_65 oX7_takesDish_65 rfl ⟨rfl, trivial⟩ ?_
        obtain ⟨q6, hq6, h⟩ := mz_bd_some h
        refine mz_Go.callV (I := IX7_takesDish) (J := IX5_advance) (as := []) (ci := 5) (g := 0) (o := 2) (idx := 78) (pl := 787) (rest := []) (mX5_advance q3.2 q6 hq6) kX5_advance vX5_advance (by decide +kernel) (by decide +kernel) (by decide +kernel) rfl rfl ⟨rfl, rfl⟩ rfl rfl rfl rfl ?_
        refine mz_Go.run (gs := [mz_kz 1 0 300, mz_kz 1 0 300, mz_kz 1 2 100]) (st' := (83, [some (.inr (.inr (some (0, 300)))), some (.inl q3.1), some (.inl (-1 : Int32))], [.inr (.inr (some (2, 101))), .inr (.inr (some (0, 2)))], q6)) bX7_takesDish_72 oX7_takesDish_72 rfl ⟨rfl, rfl, rfl, trivial⟩ ?_
        obtain ⟨q7, hq7, h⟩ := mz_bd_some h
        refine mz_Go.callV (I := IX7_takesDish) (J := IX5_takePerson) (as := [.inr (.inr (some (2, 101)))]) (ci := 5) (g := 0) (o := 2) (idx := 143) (pl := 835) (rest := []) (mX5_takePerson 2 q6 rfl q7 hq7) kX5_takePerson vX5_takePerson (by decide +kernel) (by decide +kernel) (by decide +kernel) rfl rfl ⟨rfl, rfl⟩ rfl rfl rfl rfl ?_
        refine mz_Go.run (gs := []) (st' := (if q7.1 = (-1 : Int32) then (92, [some (.inr (.inr (some (0, 300)))), some (.inl q3.1), some (.inl q7.1)], [], q7.2) else (94, [some (.inr (.inr (some (0, 300)))), some (.inl q3.1), some (.inl q7.1)], [], q7.2))) bX7_takesDish_86 oX7_takesDish_86 rfl trivial ?_
        refine mz_Go.ite (fun hc8 => ?_) (fun hc8 => ?_)
        · have h := mz_ifp hc8 h
          refine mz_Go.run (gs := []) (st' := (93, [some (.inr (.inr (some (0, 300)))), some (.inl q3.1), some (.inl q7.1)], [.inl (0 : Int32)], q7.2)) bX7_takesDish_92 oX7_takesDish_92 rfl trivial ?_
          cases h
          exact mz_Go.retz (by decide +kernel) rfl ⟨Nat.le_refl _, Nat.le_refl _⟩ (by decide) rfl
        · have h := mz_ifn hc8 h
          exact mz_Go.drop [true, true, true] (tX7_takesDish_94 r q3.1 q7.1 q7.2 h)
      · have h := mz_ifn hc5 h
        exact mz_Go.drop [true, true, true] (tX7_takesDish_94 r q3.1 (-1 : Int32) q3.2 h)
  · have h := mz_ifn hc1 h
    refine mz_Go.run (gs := [mz_kz 1 0 300]) (st' := (21, [some (.inr (.inr (some (0, 300)))), none, none], [.inl (6 : Int32), .inr (.inr (some (0, 2)))], D)) bX7_takesDish_15 oX7_takesDish_15 rfl ⟨rfl, trivial⟩ ?_
    obtain ⟨q9, hq9, h⟩ := mz_bd_some h
    refine mz_Go.callV (I := IX7_takesDish) (J := IX5_fail) (as := [.inl (6 : Int32)]) (ci := 5) (g := 0) (o := 2) (idx := 47) (pl := 783) (rest := []) (mX5_fail (6 : Int32) D q9 hq9) kX5_fail vX5_fail (by decide +kernel) (by decide +kernel) (by decide +kernel) rfl rfl ⟨rfl, rfl⟩ rfl rfl rfl rfl ?_
    obtain ⟨hb10, h⟩ := mz_gd_some h
    cases h
    exact mz_Go.retz (by decide +kernel) rfl ⟨Nat.le_refl _, Nat.le_refl _⟩ hb10 rfl
def bX7_takesDebt_0 : List mz_E := [(0, .aload_n 0, 0, 0, 0, 0, 0), (1, .getfield 9, 7, 0, 758, 0, 0)]
theorem oX7_takesDebt_0 : bX7_takesDebt_0.all (mz_ok RX7 cX7_takesDebt 4) = true := by decide +kernel
def bX7_takesDebt_7 : List mz_E := [(7, .aload_n 0, 0, 0, 0, 0, 0), (8, .getfield 9, 7, 0, 758, 0, 0), (11, .aload_n 0, 0, 0, 0, 0, 0), (12, .getfield 15, 7, 1, 759, 0, 0), (15, .getfield 60, 6, 0, 475, 0, 0)]
theorem oX7_takesDebt_7 : bX7_takesDebt_7.all (mz_ok RX7 cX7_takesDebt 4) = true := by decide +kernel
def bX7_takesDebt_21 : List mz_E := [(21, .istore_n 1, 0, 0, 0, 0, 0), (22, .iload_n 1, 0, 0, 0, 0, 0), (23, .iconst (-1), 0, 0, 0, -1, 0), (24, .if_icmp .ne 5, 0, 29, 0, 0, 0)]
theorem oX7_takesDebt_21 : bX7_takesDebt_21.all (mz_ok RX7 cX7_takesDebt 4) = true := by decide +kernel
def bX7_takesDebt_27 : List mz_E := [(27, .iconst 0, 0, 0, 0, 0, 0)]
theorem oX7_takesDebt_27 : bX7_takesDebt_27.all (mz_ok RX7 cX7_takesDebt 4) = true := by decide +kernel
def bX7_takesDebt_29 : List mz_E := [(29, .aload_n 0, 0, 0, 0, 0, 0), (30, .getfield 9, 7, 0, 758, 0, 0), (33, .aload_n 0, 0, 0, 0, 0, 0), (34, .getfield 15, 7, 1, 759, 0, 0), (37, .getfield 60, 6, 0, 475, 0, 0), (40, .iload_n 1, 0, 0, 0, 0, 0)]
theorem oX7_takesDebt_29 : bX7_takesDebt_29.all (mz_ok RX7 cX7_takesDebt 4) = true := by decide +kernel
def bX7_takesDebt_44 : List mz_E := [(44, .istore_n 2, 0, 0, 0, 0, 0), (45, .iload_n 2, 0, 0, 0, 0, 0), (46, .iconst (-1), 0, 0, 0, -1, 0), (47, .if_icmp .ne 5, 0, 52, 0, 0, 0)]
theorem oX7_takesDebt_44 : bX7_takesDebt_44.all (mz_ok RX7 cX7_takesDebt 4) = true := by decide +kernel
def bX7_takesDebt_50 : List mz_E := [(50, .iconst 0, 0, 0, 0, 0, 0)]
theorem oX7_takesDebt_50 : bX7_takesDebt_50.all (mz_ok RX7 cX7_takesDebt 4) = true := by decide +kernel
def bX7_takesDebt_52 : List mz_E := [(52, .aload_n 0, 0, 0, 0, 0, 0), (53, .getfield 9, 7, 0, 758, 0, 0), (56, .iconst 0, 0, 0, 0, 0, 0), (57, .sipush 9999, 0, 0, 0, 9999, 0)]
theorem oX7_takesDebt_52 : bX7_takesDebt_52.all (mz_ok RX7 cX7_takesDebt 4) = true := by decide +kernel
def bX7_takesDebt_63 : List mz_E := [(63, .istore_n 3, 0, 0, 0, 0, 0), (64, .iload_n 3, 0, 0, 0, 0, 0), (65, .iconst (-1), 0, 0, 0, -1, 0), (66, .if_icmp .ne 5, 0, 71, 0, 0, 0)]
theorem oX7_takesDebt_63 : bX7_takesDebt_63.all (mz_ok RX7 cX7_takesDebt 4) = true := by decide +kernel
def bX7_takesDebt_69 : List mz_E := [(69, .iconst 0, 0, 0, 0, 0, 0)]
theorem oX7_takesDebt_69 : bX7_takesDebt_69.all (mz_ok RX7 cX7_takesDebt 4) = true := by decide +kernel
def bX7_takesDebt_71 : List mz_E := [(71, .aload_n 0, 0, 0, 0, 0, 0), (72, .getfield 15, 7, 1, 759, 0, 0), (75, .getfield 152, 6, 2, 484, 0, 0), (78, .iload_n 1, 0, 0, 0, 0, 0), (79, .iload_n 2, 0, 0, 0, 0, 0), (80, .iload_n 3, 0, 0, 0, 0, 0)]
theorem oX7_takesDebt_71 : bX7_takesDebt_71.all (mz_ok RX7 cX7_takesDebt 4) = true := by decide +kernel
def bX7_takesDebt_84 : List mz_E := [(84, .iconst 1, 0, 0, 0, 1, 0)]
theorem oX7_takesDebt_84 : bX7_takesDebt_84.all (mz_ok RX7 cX7_takesDebt 4) = true := by decide +kernel
abbrev IX7_takesDebt : mz_I := (yX7_takesDebt, cX7_takesDebt, 4, (some .boolean), 1, 3, 0, 0)
theorem kX7_takesDebt : mz_okm IX7_takesDebt 847 144 846 0 = true := by decide +kernel
theorem vX7_takesDebt : mz_okV IX7_takesDebt 846 11 = true := by decide +kernel
def fX7_takesDebt (D : mz_D) : Option (Int32 × mz_D) := (Option.bind (fX5_advance D) fun q1 => (Option.bind (fX5_takePerson 2 q1) fun q2 => (if q2.1 = (-1 : Int32) then (some ((0 : Int32), q2.2)) else (Option.bind (fX5_takeOther 2 q2.1 q2.2) fun q4 => (if q4.1 = (-1 : Int32) then (some ((0 : Int32), q4.2)) else (Option.bind (fX5_takeNumber (0 : Int32) (9999 : Int32) q4.2) fun q6 => (if q6.1 = (-1 : Int32) then (some ((0 : Int32), q6.2)) else (Option.bind (fX2_put 2 q2.1 q4.1 q6.1 q6.2) fun q8 => (some ((1 : Int32), q8))))))))))
set_option maxHeartbeats 4000000 in
theorem mX7_takesDebt (D : mz_D) (r : (Int32 × mz_D)) (h : fX7_takesDebt D = some r) : mz_Met IX7_takesDebt [.inr (.inr (some (0, 300)))] D (some (.inl r.1), r.2) := by
  refine mz_Met.of (by decide +kernel) (Nat.le_of_ble_eq_true rfl) ?_
  show mz_Go IX7_takesDebt (some (.inl r.1), r.2) 0 0 (0, [some (.inr (.inr (some (0, 300)))), none, none, none], [], D)
  rw [fX7_takesDebt] at h
  refine mz_Go.run (gs := [mz_kz 1 0 300]) (st' := (4, [some (.inr (.inr (some (0, 300)))), none, none, none], [.inr (.inr (some (0, 2)))], D)) bX7_takesDebt_0 oX7_takesDebt_0 rfl ⟨rfl, trivial⟩ ?_
  obtain ⟨q1, hq1, h⟩ := mz_bd_some h
  refine mz_Go.callV (I := IX7_takesDebt) (J := IX5_advance) (as := []) (ci := 5) (g := 0) (o := 2) (idx := 78) (pl := 787) (rest := []) (mX5_advance D q1 hq1) kX5_advance vX5_advance (by decide +kernel) (by decide +kernel) (by decide +kernel) rfl rfl ⟨rfl, rfl⟩ rfl rfl rfl rfl ?_
  refine mz_Go.run (gs := [mz_kz 1 0 300, mz_kz 1 0 300, mz_kz 1 2 100]) (st' := (18, [some (.inr (.inr (some (0, 300)))), none, none, none], [.inr (.inr (some (2, 101))), .inr (.inr (some (0, 2)))], q1)) bX7_takesDebt_7 oX7_takesDebt_7 rfl ⟨rfl, rfl, rfl, trivial⟩ ?_
  obtain ⟨q2, hq2, h⟩ := mz_bd_some h
  refine mz_Go.callV (I := IX7_takesDebt) (J := IX5_takePerson) (as := [.inr (.inr (some (2, 101)))]) (ci := 5) (g := 0) (o := 2) (idx := 143) (pl := 835) (rest := []) (mX5_takePerson 2 q1 rfl q2 hq2) kX5_takePerson vX5_takePerson (by decide +kernel) (by decide +kernel) (by decide +kernel) rfl rfl ⟨rfl, rfl⟩ rfl rfl rfl rfl ?_
  refine mz_Go.run (gs := []) (st' := (if q2.1 = (-1 : Int32) then (27, [some (.inr (.inr (some (0, 300)))), some (.inl q2.1), none, none], [], q2.2) else (29, [some (.inr (.inr (some (0, 300)))), some (.inl q2.1), none, none], [], q2.2))) bX7_takesDebt_21 oX7_takesDebt_21 rfl trivial ?_
  refine mz_Go.ite (fun hc3 => ?_) (fun hc3 => ?_)
  · have h := mz_ifp hc3 h
    refine mz_Go.run (gs := []) (st' := (28, [some (.inr (.inr (some (0, 300)))), some (.inl q2.1), none, none], [.inl (0 : Int32)], q2.2)) bX7_takesDebt_27 oX7_takesDebt_27 rfl trivial ?_
    cases h
    exact mz_Go.retz (by decide +kernel) rfl ⟨Nat.le_refl _, Nat.le_refl _⟩ (by decide) rfl
  · have h := mz_ifn hc3 h
    refine mz_Go.run (gs := [mz_kz 1 0 300, mz_kz 1 0 300, mz_kz 1 2 100]) (st' := (41, [some (.inr (.inr (some (0, 300)))), some (.inl q2.1), none, none], [.inl q2.1, .inr (.inr (some (2, 101))), .inr (.inr (some (0, 2)))], q2.2)) bX7_takesDebt_29 oX7_takesDebt_29 rfl ⟨rfl, rfl, rfl, trivial⟩ ?_
    obtain ⟨q4, hq4, h⟩ := mz_bd_some h
    refine mz_Go.callV (I := IX7_takesDebt) (J := IX5_takeOther) (as := [.inr (.inr (some (2, 101))), .inl q2.1]) (ci := 5) (g := 0) (o := 2) (idx := 148) (pl := 848) (rest := []) (mX5_takeOther 2 q2.1 q2.2 rfl q4 hq4) kX5_takeOther vX5_takeOther (by decide +kernel) (by decide +kernel) (by decide +kernel) rfl rfl ⟨rfl, rfl⟩ rfl rfl rfl rfl ?_
    refine mz_Go.run (gs := []) (st' := (if q4.1 = (-1 : Int32) then (50, [some (.inr (.inr (some (0, 300)))), some (.inl q2.1), some (.inl q4.1), none], [], q4.2) else (52, [some (.inr (.inr (some (0, 300)))), some (.inl q2.1), some (.inl q4.1), none], [], q4.2))) bX7_takesDebt_44 oX7_takesDebt_44 rfl trivial ?_
    refine mz_Go.ite (fun hc5 => ?_) (fun hc5 => ?_)
    · have h := mz_ifp hc5 h
      refine mz_Go.run (gs := []) (st' := (51, [some (.inr (.inr (some (0, 300)))), some (.inl q2.1), some (.inl q4.1), none], [.inl (0 : Int32)], q4.2)) bX7_takesDebt_50 oX7_takesDebt_50 rfl trivial ?_
      cases h
      exact mz_Go.retz (by decide +kernel) rfl ⟨Nat.le_refl _, Nat.le_refl _⟩ (by decide) rfl
    · have h := mz_ifn hc5 h
      refine mz_Go.run (gs := [mz_kz 1 0 300]) (st' := (60, [some (.inr (.inr (some (0, 300)))), some (.inl q2.1), some (.inl q4.1), none], [.inl (9999 : Int32), .inl (0 : Int32), .inr (.inr (some (0, 2)))], q4.2)) bX7_takesDebt_52 oX7_takesDebt_52 rfl ⟨rfl, trivial⟩ ?_
      obtain ⟨q6, hq6, h⟩ := mz_bd_some h
      refine mz_Go.callV (I := IX7_takesDebt) (J := IX5_takeNumber) (as := [.inl (0 : Int32), .inl (9999 : Int32)]) (ci := 5) (g := 0) (o := 2) (idx := 115) (pl := 808) (rest := []) (mX5_takeNumber (0 : Int32) (9999 : Int32) q4.2 q6 hq6) kX5_takeNumber vX5_takeNumber (by decide +kernel) (by decide +kernel) (by decide +kernel) rfl rfl ⟨rfl, rfl⟩ rfl rfl rfl rfl ?_
      refine mz_Go.run (gs := []) (st' := (if q6.1 = (-1 : Int32) then (69, [some (.inr (.inr (some (0, 300)))), some (.inl q2.1), some (.inl q4.1), some (.inl q6.1)], [], q6.2) else (71, [some (.inr (.inr (some (0, 300)))), some (.inl q2.1), some (.inl q4.1), some (.inl q6.1)], [], q6.2))) bX7_takesDebt_63 oX7_takesDebt_63 rfl trivial ?_
      refine mz_Go.ite (fun hc7 => ?_) (fun hc7 => ?_)
      · have h := mz_ifp hc7 h
        refine mz_Go.run (gs := []) (st' := (70, [some (.inr (.inr (some (0, 300)))), some (.inl q2.1), some (.inl q4.1), some (.inl q6.1)], [.inl (0 : Int32)], q6.2)) bX7_takesDebt_69 oX7_takesDebt_69 rfl trivial ?_
        cases h
        exact mz_Go.retz (by decide +kernel) rfl ⟨Nat.le_refl _, Nat.le_refl _⟩ (by decide) rfl
      · have h := mz_ifn hc7 h
        refine mz_Go.run (gs := [mz_kz 1 0 300, mz_kz 1 2 100]) (st' := (81, [some (.inr (.inr (some (0, 300)))), some (.inl q2.1), some (.inl q4.1), some (.inl q6.1)], [.inl q6.1, .inl q4.1, .inl q2.1, .inr (.inr (some (2, 113)))], q6.2)) bX7_takesDebt_71 oX7_takesDebt_71 rfl ⟨rfl, rfl, trivial⟩ ?_
        obtain ⟨q8, hq8, h⟩ := mz_bd_some h
        refine mz_Go.callV (I := IX7_takesDebt) (J := IX2_put) (as := [.inl q2.1, .inl q4.1, .inl q6.1]) (ci := 2) (g := 2) (o := 113) (idx := 156) (pl := 852) (rest := []) (mX2_put 2 q2.1 q4.1 q6.1 q6.2 rfl q8 hq8) kX2_put vX2_put (by decide +kernel) (by decide +kernel) (by decide +kernel) rfl rfl ⟨rfl, rfl⟩ rfl rfl rfl rfl ?_
        refine mz_Go.run (gs := []) (st' := (85, [some (.inr (.inr (some (0, 300)))), some (.inl q2.1), some (.inl q4.1), some (.inl q6.1)], [.inl (1 : Int32)], q8)) bX7_takesDebt_84 oX7_takesDebt_84 rfl trivial ?_
        cases h
        exact mz_Go.retz (by decide +kernel) rfl ⟨Nat.le_refl _, Nat.le_refl _⟩ (by decide) rfl
def bX7_takesSplit_0 : List mz_E := [(0, .aload_n 0, 0, 0, 0, 0, 0), (1, .getfield 162, 7, 2, 760, 0, 0), (4, .ifCond .eq 12, 0, 16, 0, 0, 0)]
theorem oX7_takesSplit_0 : bX7_takesSplit_0.all (mz_ok RX7 cX7_takesSplit 1) = true := by decide +kernel
def bX7_takesSplit_16 : List mz_E := [(16, .aload_n 0, 0, 0, 0, 0, 0), (17, .iconst 1, 0, 0, 0, 1, 0), (18, .putfield 162, 7, 2, 760, 0, 0), (21, .aload_n 0, 0, 0, 0, 0, 0), (22, .getfield 9, 7, 0, 758, 0, 0)]
theorem oX7_takesSplit_16 : bX7_takesSplit_16.all (mz_ok RX7 cX7_takesSplit 1) = true := by decide +kernel
def bX7_takesSplit_28 : List mz_E := [(28, .aload_n 0, 0, 0, 0, 0, 0), (29, .getfield 9, 7, 0, 758, 0, 0), (32, .getfield 25, 5, 2, 218, 0, 0)]
theorem oX7_takesSplit_28 : bX7_takesSplit_28.all (mz_ok RX7 cX7_takesSplit 1) = true := by decide +kernel
def bX7_takesSplit_60 : List mz_E := [(60, .aload_n 0, 0, 0, 0, 0, 0), (61, .getfield 15, 7, 1, 759, 0, 0), (64, .getfield 136, 6, 1, 480, 0, 0), (67, .iconst 0, 0, 0, 0, 0, 0), (68, .putfield 166, 1, 1, 355, 0, 0), (71, .goto 40, 0, 111, 0, 0, 0)]
theorem oX7_takesSplit_60 : bX7_takesSplit_60.all (mz_ok RX7 cX7_takesSplit 1) = true := by decide +kernel
def bX7_takesSplit_111 : List mz_E := [(111, .aload_n 0, 0, 0, 0, 0, 0), (112, .getfield 9, 7, 0, 758, 0, 0)]
theorem oX7_takesSplit_111 : bX7_takesSplit_111.all (mz_ok RX7 cX7_takesSplit 1) = true := by decide +kernel
def bX7_takesSplit_118 : List mz_E := [(118, .iconst 1, 0, 0, 0, 1, 0)]
theorem oX7_takesSplit_118 : bX7_takesSplit_118.all (mz_ok RX7 cX7_takesSplit 1) = true := by decide +kernel
def bX7_takesSplit_74 : List mz_E := [(74, .aload_n 0, 0, 0, 0, 0, 0), (75, .getfield 15, 7, 1, 759, 0, 0), (78, .getfield 136, 6, 1, 480, 0, 0), (81, .iconst 1, 0, 0, 0, 1, 0), (82, .putfield 166, 1, 1, 355, 0, 0), (85, .goto 26, 0, 111, 0, 0, 0)]
theorem oX7_takesSplit_74 : bX7_takesSplit_74.all (mz_ok RX7 cX7_takesSplit 1) = true := by decide +kernel
def bX7_takesSplit_88 : List mz_E := [(88, .aload_n 0, 0, 0, 0, 0, 0), (89, .getfield 15, 7, 1, 759, 0, 0), (92, .getfield 136, 6, 1, 480, 0, 0), (95, .iconst 2, 0, 0, 0, 2, 0), (96, .putfield 166, 1, 1, 355, 0, 0), (99, .goto 12, 0, 111, 0, 0, 0)]
theorem oX7_takesSplit_88 : bX7_takesSplit_88.all (mz_ok RX7 cX7_takesSplit 1) = true := by decide +kernel
def bX7_takesSplit_102 : List mz_E := [(102, .aload_n 0, 0, 0, 0, 0, 0), (103, .getfield 9, 7, 0, 758, 0, 0), (106, .iconst 2, 0, 0, 0, 2, 0)]
theorem oX7_takesSplit_102 : bX7_takesSplit_102.all (mz_ok RX7 cX7_takesSplit 1) = true := by decide +kernel
def bX7_takesSplit_7 : List mz_E := [(7, .aload_n 0, 0, 0, 0, 0, 0), (8, .getfield 9, 7, 0, 758, 0, 0), (11, .iconst 5, 0, 0, 0, 5, 0)]
theorem oX7_takesSplit_7 : bX7_takesSplit_7.all (mz_ok RX7 cX7_takesSplit 1) = true := by decide +kernel
abbrev IX7_takesSplit : mz_I := (yX7_takesSplit, cX7_takesSplit, 1, (some .boolean), 1, 2, 0, 0)
theorem kX7_takesSplit : mz_okm IX7_takesSplit 859 144 858 0 = true := by decide +kernel
theorem vX7_takesSplit : mz_okV IX7_takesSplit 858 12 = true := by decide +kernel
def fX7_takesSplit_111 (D : mz_D) : Option (Int32 × mz_D) := (Option.bind (fX5_advance D) fun q1 => (some ((1 : Int32), q1)))
set_option maxHeartbeats 4000000 in
theorem tX7_takesSplit_111 (r : (Int32 × mz_D)) : ∀ (D : mz_D), fX7_takesSplit_111 D = some r → mz_Go IX7_takesSplit (some (.inl r.1), r.2) 0 0 (111, [some (.inr (.inr (some (0, 300))))], [], D) := by
  intro D h
  rw [fX7_takesSplit_111] at h
  refine mz_Go.run (gs := [mz_kz 1 0 300]) (st' := (115, [some (.inr (.inr (some (0, 300))))], [.inr (.inr (some (0, 2)))], D)) bX7_takesSplit_111 oX7_takesSplit_111 rfl ⟨rfl, trivial⟩ ?_
  obtain ⟨q1, hq1, h⟩ := mz_bd_some h
  refine mz_Go.callV (I := IX7_takesSplit) (J := IX5_advance) (as := []) (ci := 5) (g := 0) (o := 2) (idx := 78) (pl := 787) (rest := []) (mX5_advance D q1 hq1) kX5_advance vX5_advance (by decide +kernel) (by decide +kernel) (by decide +kernel) rfl rfl ⟨rfl, rfl⟩ rfl rfl rfl rfl ?_
  refine mz_Go.run (gs := []) (st' := (119, [some (.inr (.inr (some (0, 300))))], [.inl (1 : Int32)], q1)) bX7_takesSplit_118 oX7_takesSplit_118 rfl trivial ?_
  cases h
  exact mz_Go.retz (by decide +kernel) rfl ⟨Nat.le_refl _, Nat.le_refl _⟩ (by decide) rfl
def fX7_takesSplit (D : mz_D) : Option (Int32 × mz_D) := (if (D.1 0 300 2) = 0 then (Option.bind (fX5_advance (mz_wi D 0 300 2 (1 : Int32))) fun q2 => (if (q2.1 0 2 2) = (11 : Int32) then (fX7_takesSplit_111 (mz_wi q2 2 109 1 (0 : Int32))) else (if (q2.1 0 2 2) = (12 : Int32) then (fX7_takesSplit_111 (mz_wi q2 2 109 1 (1 : Int32))) else (if (q2.1 0 2 2) = (13 : Int32) then (fX7_takesSplit_111 (mz_wi q2 2 109 1 (2 : Int32))) else (Option.bind (fX5_fail (2 : Int32) q2) fun q6 => (mz_gd (mz_bo q6.1) (some (q6.1, q6.2)))))))) else (Option.bind (fX5_fail (5 : Int32) D) fun q8 => (mz_gd (mz_bo q8.1) (some (q8.1, q8.2)))))
set_option maxHeartbeats 4000000 in
theorem mX7_takesSplit (D : mz_D) (r : (Int32 × mz_D)) (h : fX7_takesSplit D = some r) : mz_Met IX7_takesSplit [.inr (.inr (some (0, 300)))] D (some (.inl r.1), r.2) := by
  refine mz_Met.of (by decide +kernel) (Nat.le_of_ble_eq_true rfl) ?_
  show mz_Go IX7_takesSplit (some (.inl r.1), r.2) 0 0 (0, [some (.inr (.inr (some (0, 300))))], [], D)
  rw [fX7_takesSplit] at h
  refine mz_Go.run (gs := [mz_kz 1 0 300]) (st' := (if (D.1 0 300 2) = 0 then (16, [some (.inr (.inr (some (0, 300))))], [], D) else (7, [some (.inr (.inr (some (0, 300))))], [], D))) bX7_takesSplit_0 oX7_takesSplit_0 rfl ⟨rfl, trivial⟩ ?_
  refine mz_Go.ite (fun hc1 => ?_) (fun hc1 => ?_)
  · have h := mz_ifp hc1 h
    refine mz_Go.run (gs := [mz_kz 1 0 300, mz_bo (1 : Int32), mz_kz 1 0 300]) (st' := (25, [some (.inr (.inr (some (0, 300))))], [.inr (.inr (some (0, 2)))], (mz_wi D 0 300 2 (1 : Int32)))) bX7_takesSplit_16 oX7_takesSplit_16 rfl ⟨rfl, (by decide), rfl, trivial⟩ ?_
    obtain ⟨q2, hq2, h⟩ := mz_bd_some h
    refine mz_Go.callV (I := IX7_takesSplit) (J := IX5_advance) (as := []) (ci := 5) (g := 0) (o := 2) (idx := 78) (pl := 787) (rest := []) (mX5_advance (mz_wi D 0 300 2 (1 : Int32)) q2 hq2) kX5_advance vX5_advance (by decide +kernel) (by decide +kernel) (by decide +kernel) rfl rfl ⟨rfl, rfl⟩ rfl rfl rfl rfl ?_
    refine mz_Go.run (gs := [mz_kz 1 0 300, mz_kz 1 0 2]) (st' := (35, [some (.inr (.inr (some (0, 300))))], [.inl (q2.1 0 2 2)], q2)) bX7_takesSplit_28 oX7_takesSplit_28 rfl ⟨rfl, rfl, trivial⟩ ?_
    refine mz_Go.tsw [(11, 60), (12, 74), (13, 88)] 102 (show decode cX7_takesSplit 35 = .ok (.tableswitch 67 11 13 #[25, 39, 53], 25) by decide +kernel) (by decide +kernel) ?_
    refine mz_Go.swc (fun hc3 => ?_) (fun hc3 => ?_)
    · have h := mz_ifp hc3 h
      refine mz_Go.run (gs := [mz_kz 1 0 300, mz_kz 1 2 100, mz_kz 1 2 109]) (st' := (111, [some (.inr (.inr (some (0, 300))))], [], (mz_wi q2 2 109 1 (0 : Int32)))) bX7_takesSplit_60 oX7_takesSplit_60 rfl ⟨rfl, rfl, rfl, trivial⟩ ?_
      exact mz_Go.drop [true] (tX7_takesSplit_111 r (mz_wi q2 2 109 1 (0 : Int32)) h)
    · have h := mz_ifn hc3 h
      refine mz_Go.swc (fun hc4 => ?_) (fun hc4 => ?_)
      · have h := mz_ifp hc4 h
        refine mz_Go.run (gs := [mz_kz 1 0 300, mz_kz 1 2 100, mz_kz 1 2 109]) (st' := (111, [some (.inr (.inr (some (0, 300))))], [], (mz_wi q2 2 109 1 (1 : Int32)))) bX7_takesSplit_74 oX7_takesSplit_74 rfl ⟨rfl, rfl, rfl, trivial⟩ ?_
        exact mz_Go.drop [true] (tX7_takesSplit_111 r (mz_wi q2 2 109 1 (1 : Int32)) h)
      · have h := mz_ifn hc4 h
        refine mz_Go.swc (fun hc5 => ?_) (fun hc5 => ?_)
        · have h := mz_ifp hc5 h
          refine mz_Go.run (gs := [mz_kz 1 0 300, mz_kz 1 2 100, mz_kz 1 2 109]) (st' := (111, [some (.inr (.inr (some (0, 300))))], [], (mz_wi q2 2 109 1 (2 : Int32)))) bX7_takesSplit_88 oX7_takesSplit_88 rfl ⟨rfl, rfl, rfl, trivial⟩ ?_
          exact mz_Go.drop [true] (tX7_takesSplit_111 r (mz_wi q2 2 109 1 (2 : Int32)) h)
        · have h := mz_ifn hc5 h
          refine mz_Go.run (gs := [mz_kz 1 0 300]) (st' := (107, [some (.inr (.inr (some (0, 300))))], [.inl (2 : Int32), .inr (.inr (some (0, 2)))], q2)) bX7_takesSplit_102 oX7_takesSplit_102 rfl ⟨rfl, trivial⟩ ?_
          obtain ⟨q6, hq6, h⟩ := mz_bd_some h
          refine mz_Go.callV (I := IX7_takesSplit) (J := IX5_fail) (as := [.inl (2 : Int32)]) (ci := 5) (g := 0) (o := 2) (idx := 47) (pl := 783) (rest := []) (mX5_fail (2 : Int32) q2 q6 hq6) kX5_fail vX5_fail (by decide +kernel) (by decide +kernel) (by decide +kernel) rfl rfl ⟨rfl, rfl⟩ rfl rfl rfl rfl ?_
          obtain ⟨hb7, h⟩ := mz_gd_some h
          cases h
          exact mz_Go.retz (by decide +kernel) rfl ⟨Nat.le_refl _, Nat.le_refl _⟩ hb7 rfl
  · have h := mz_ifn hc1 h
    refine mz_Go.run (gs := [mz_kz 1 0 300]) (st' := (12, [some (.inr (.inr (some (0, 300))))], [.inl (5 : Int32), .inr (.inr (some (0, 2)))], D)) bX7_takesSplit_7 oX7_takesSplit_7 rfl ⟨rfl, trivial⟩ ?_
    obtain ⟨q8, hq8, h⟩ := mz_bd_some h
    refine mz_Go.callV (I := IX7_takesSplit) (J := IX5_fail) (as := [.inl (5 : Int32)]) (ci := 5) (g := 0) (o := 2) (idx := 47) (pl := 783) (rest := []) (mX5_fail (5 : Int32) D q8 hq8) kX5_fail vX5_fail (by decide +kernel) (by decide +kernel) (by decide +kernel) rfl rfl ⟨rfl, rfl⟩ rfl rfl rfl rfl ?_
    obtain ⟨hb9, h⟩ := mz_gd_some h
    cases h
    exact mz_Go.retz (by decide +kernel) rfl ⟨Nat.le_refl _, Nat.le_refl _⟩ hb9 rfl
def bX7_takesLaw_0 : List mz_E := [(0, .aload_n 0, 0, 0, 0, 0, 0), (1, .getfield 169, 7, 3, 761, 0, 0), (4, .ifCond .eq 12, 0, 16, 0, 0, 0)]
theorem oX7_takesLaw_0 : bX7_takesLaw_0.all (mz_ok RX7 cX7_takesLaw 1) = true := by decide +kernel
def bX7_takesLaw_16 : List mz_E := [(16, .aload_n 0, 0, 0, 0, 0, 0), (17, .iconst 1, 0, 0, 0, 1, 0), (18, .putfield 169, 7, 3, 761, 0, 0), (21, .aload_n 0, 0, 0, 0, 0, 0), (22, .getfield 9, 7, 0, 758, 0, 0)]
theorem oX7_takesLaw_16 : bX7_takesLaw_16.all (mz_ok RX7 cX7_takesLaw 1) = true := by decide +kernel
def bX7_takesLaw_28 : List mz_E := [(28, .aload_n 0, 0, 0, 0, 0, 0), (29, .getfield 9, 7, 0, 758, 0, 0), (32, .getfield 25, 5, 2, 218, 0, 0)]
theorem oX7_takesLaw_28 : bX7_takesLaw_28.all (mz_ok RX7 cX7_takesLaw 1) = true := by decide +kernel
def bX7_takesLaw_109 : List mz_E := [(109, .aload_n 0, 0, 0, 0, 0, 0), (110, .getfield 15, 7, 1, 759, 0, 0), (113, .iconst 3, 0, 0, 0, 3, 0), (114, .putfield 172, 6, 5, 494, 0, 0), (117, .goto 12, 0, 129, 0, 0, 0)]
theorem oX7_takesLaw_109 : bX7_takesLaw_109.all (mz_ok RX7 cX7_takesLaw 1) = true := by decide +kernel
def bX7_takesLaw_129 : List mz_E := [(129, .aload_n 0, 0, 0, 0, 0, 0), (130, .getfield 9, 7, 0, 758, 0, 0)]
theorem oX7_takesLaw_129 : bX7_takesLaw_129.all (mz_ok RX7 cX7_takesLaw 1) = true := by decide +kernel
def bX7_takesLaw_136 : List mz_E := [(136, .iconst 1, 0, 0, 0, 1, 0)]
theorem oX7_takesLaw_136 : bX7_takesLaw_136.all (mz_ok RX7 cX7_takesLaw 1) = true := by decide +kernel
def bX7_takesLaw_98 : List mz_E := [(98, .aload_n 0, 0, 0, 0, 0, 0), (99, .getfield 15, 7, 1, 759, 0, 0), (102, .iconst 2, 0, 0, 0, 2, 0), (103, .putfield 172, 6, 5, 494, 0, 0), (106, .goto 23, 0, 129, 0, 0, 0)]
theorem oX7_takesLaw_98 : bX7_takesLaw_98.all (mz_ok RX7 cX7_takesLaw 1) = true := by decide +kernel
def bX7_takesLaw_76 : List mz_E := [(76, .aload_n 0, 0, 0, 0, 0, 0), (77, .getfield 15, 7, 1, 759, 0, 0), (80, .iconst 0, 0, 0, 0, 0, 0), (81, .putfield 172, 6, 5, 494, 0, 0), (84, .goto 45, 0, 129, 0, 0, 0)]
theorem oX7_takesLaw_76 : bX7_takesLaw_76.all (mz_ok RX7 cX7_takesLaw 1) = true := by decide +kernel
def bX7_takesLaw_87 : List mz_E := [(87, .aload_n 0, 0, 0, 0, 0, 0), (88, .getfield 15, 7, 1, 759, 0, 0), (91, .iconst 1, 0, 0, 0, 1, 0), (92, .putfield 172, 6, 5, 494, 0, 0), (95, .goto 34, 0, 129, 0, 0, 0)]
theorem oX7_takesLaw_87 : bX7_takesLaw_87.all (mz_ok RX7 cX7_takesLaw 1) = true := by decide +kernel
def bX7_takesLaw_120 : List mz_E := [(120, .aload_n 0, 0, 0, 0, 0, 0), (121, .getfield 9, 7, 0, 758, 0, 0), (124, .iconst 2, 0, 0, 0, 2, 0)]
theorem oX7_takesLaw_120 : bX7_takesLaw_120.all (mz_ok RX7 cX7_takesLaw 1) = true := by decide +kernel
def bX7_takesLaw_7 : List mz_E := [(7, .aload_n 0, 0, 0, 0, 0, 0), (8, .getfield 9, 7, 0, 758, 0, 0), (11, .iconst 5, 0, 0, 0, 5, 0)]
theorem oX7_takesLaw_7 : bX7_takesLaw_7.all (mz_ok RX7 cX7_takesLaw 1) = true := by decide +kernel
abbrev IX7_takesLaw : mz_I := (yX7_takesLaw, cX7_takesLaw, 1, (some .boolean), 1, 2, 0, 0)
theorem kX7_takesLaw : mz_okm IX7_takesLaw 863 144 862 0 = true := by decide +kernel
theorem vX7_takesLaw : mz_okV IX7_takesLaw 862 13 = true := by decide +kernel
def fX7_takesLaw_129 (D : mz_D) : Option (Int32 × mz_D) := (Option.bind (fX5_advance D) fun q1 => (some ((1 : Int32), q1)))
set_option maxHeartbeats 4000000 in
theorem tX7_takesLaw_129 (r : (Int32 × mz_D)) : ∀ (D : mz_D), fX7_takesLaw_129 D = some r → mz_Go IX7_takesLaw (some (.inl r.1), r.2) 0 0 (129, [some (.inr (.inr (some (0, 300))))], [], D) := by
  intro D h
  rw [fX7_takesLaw_129] at h
  refine mz_Go.run (gs := [mz_kz 1 0 300]) (st' := (133, [some (.inr (.inr (some (0, 300))))], [.inr (.inr (some (0, 2)))], D)) bX7_takesLaw_129 oX7_takesLaw_129 rfl ⟨rfl, trivial⟩ ?_
  obtain ⟨q1, hq1, h⟩ := mz_bd_some h
  refine mz_Go.callV (I := IX7_takesLaw) (J := IX5_advance) (as := []) (ci := 5) (g := 0) (o := 2) (idx := 78) (pl := 787) (rest := []) (mX5_advance D q1 hq1) kX5_advance vX5_advance (by decide +kernel) (by decide +kernel) (by decide +kernel) rfl rfl ⟨rfl, rfl⟩ rfl rfl rfl rfl ?_
  refine mz_Go.run (gs := []) (st' := (137, [some (.inr (.inr (some (0, 300))))], [.inl (1 : Int32)], q1)) bX7_takesLaw_136 oX7_takesLaw_136 rfl trivial ?_
  cases h
  exact mz_Go.retz (by decide +kernel) rfl ⟨Nat.le_refl _, Nat.le_refl _⟩ (by decide) rfl
def fX7_takesLaw (D : mz_D) : Option (Int32 × mz_D) := (if (D.1 0 300 3) = 0 then (Option.bind (fX5_advance (mz_wi D 0 300 3 (1 : Int32))) fun q2 => (if (q2.1 0 2 2) = (1 : Int32) then (fX7_takesLaw_129 (mz_wi q2 2 100 5 (3 : Int32))) else (if (q2.1 0 2 2) = (2 : Int32) then (fX7_takesLaw_129 (mz_wi q2 2 100 5 (2 : Int32))) else (if (q2.1 0 2 2) = (15 : Int32) then (fX7_takesLaw_129 (mz_wi q2 2 100 5 (0 : Int32))) else (if (q2.1 0 2 2) = (16 : Int32) then (fX7_takesLaw_129 (mz_wi q2 2 100 5 (1 : Int32))) else (Option.bind (fX5_fail (2 : Int32) q2) fun q7 => (mz_gd (mz_bo q7.1) (some (q7.1, q7.2))))))))) else (Option.bind (fX5_fail (5 : Int32) D) fun q9 => (mz_gd (mz_bo q9.1) (some (q9.1, q9.2)))))
set_option maxHeartbeats 4000000 in
theorem mX7_takesLaw (D : mz_D) (r : (Int32 × mz_D)) (h : fX7_takesLaw D = some r) : mz_Met IX7_takesLaw [.inr (.inr (some (0, 300)))] D (some (.inl r.1), r.2) := by
  refine mz_Met.of (by decide +kernel) (Nat.le_of_ble_eq_true rfl) ?_
  show mz_Go IX7_takesLaw (some (.inl r.1), r.2) 0 0 (0, [some (.inr (.inr (some (0, 300))))], [], D)
  rw [fX7_takesLaw] at h
  refine mz_Go.run (gs := [mz_kz 1 0 300]) (st' := (if (D.1 0 300 3) = 0 then (16, [some (.inr (.inr (some (0, 300))))], [], D) else (7, [some (.inr (.inr (some (0, 300))))], [], D))) bX7_takesLaw_0 oX7_takesLaw_0 rfl ⟨rfl, trivial⟩ ?_
  refine mz_Go.ite (fun hc1 => ?_) (fun hc1 => ?_)
  · have h := mz_ifp hc1 h
    refine mz_Go.run (gs := [mz_kz 1 0 300, mz_bo (1 : Int32), mz_kz 1 0 300]) (st' := (25, [some (.inr (.inr (some (0, 300))))], [.inr (.inr (some (0, 2)))], (mz_wi D 0 300 3 (1 : Int32)))) bX7_takesLaw_16 oX7_takesLaw_16 rfl ⟨rfl, (by decide), rfl, trivial⟩ ?_
    obtain ⟨q2, hq2, h⟩ := mz_bd_some h
    refine mz_Go.callV (I := IX7_takesLaw) (J := IX5_advance) (as := []) (ci := 5) (g := 0) (o := 2) (idx := 78) (pl := 787) (rest := []) (mX5_advance (mz_wi D 0 300 3 (1 : Int32)) q2 hq2) kX5_advance vX5_advance (by decide +kernel) (by decide +kernel) (by decide +kernel) rfl rfl ⟨rfl, rfl⟩ rfl rfl rfl rfl ?_
    refine mz_Go.run (gs := [mz_kz 1 0 300, mz_kz 1 0 2]) (st' := (35, [some (.inr (.inr (some (0, 300))))], [.inl (q2.1 0 2 2)], q2)) bX7_takesLaw_28 oX7_takesLaw_28 rfl ⟨rfl, rfl, trivial⟩ ?_
    refine mz_Go.lsw [(1, 109), (2, 98), (15, 76), (16, 87)] 120 (show decode cX7_takesLaw 35 = .ok (.lookupswitch 85 #[(1, 74), (2, 63), (15, 41), (16, 52)], 41) by decide +kernel) (by decide +kernel) ?_
    refine mz_Go.swc (fun hc3 => ?_) (fun hc3 => ?_)
    · have h := mz_ifp hc3 h
      refine mz_Go.run (gs := [mz_kz 1 0 300, mz_kz 1 2 100]) (st' := (129, [some (.inr (.inr (some (0, 300))))], [], (mz_wi q2 2 100 5 (3 : Int32)))) bX7_takesLaw_109 oX7_takesLaw_109 rfl ⟨rfl, rfl, trivial⟩ ?_
      exact mz_Go.drop [true] (tX7_takesLaw_129 r (mz_wi q2 2 100 5 (3 : Int32)) h)
    · have h := mz_ifn hc3 h
      refine mz_Go.swc (fun hc4 => ?_) (fun hc4 => ?_)
      · have h := mz_ifp hc4 h
        refine mz_Go.run (gs := [mz_kz 1 0 300, mz_kz 1 2 100]) (st' := (129, [some (.inr (.inr (some (0, 300))))], [], (mz_wi q2 2 100 5 (2 : Int32)))) bX7_takesLaw_98 oX7_takesLaw_98 rfl ⟨rfl, rfl, trivial⟩ ?_
        exact mz_Go.drop [true] (tX7_takesLaw_129 r (mz_wi q2 2 100 5 (2 : Int32)) h)
      · have h := mz_ifn hc4 h
        refine mz_Go.swc (fun hc5 => ?_) (fun hc5 => ?_)
        · have h := mz_ifp hc5 h
          refine mz_Go.run (gs := [mz_kz 1 0 300, mz_kz 1 2 100]) (st' := (129, [some (.inr (.inr (some (0, 300))))], [], (mz_wi q2 2 100 5 (0 : Int32)))) bX7_takesLaw_76 oX7_takesLaw_76 rfl ⟨rfl, rfl, trivial⟩ ?_
          exact mz_Go.drop [true] (tX7_takesLaw_129 r (mz_wi q2 2 100 5 (0 : Int32)) h)
        · have h := mz_ifn hc5 h
          refine mz_Go.swc (fun hc6 => ?_) (fun hc6 => ?_)
          · have h := mz_ifp hc6 h
            refine mz_Go.run (gs := [mz_kz 1 0 300, mz_kz 1 2 100]) (st' := (129, [some (.inr (.inr (some (0, 300))))], [], (mz_wi q2 2 100 5 (1 : Int32)))) bX7_takesLaw_87 oX7_takesLaw_87 rfl ⟨rfl, rfl, trivial⟩ ?_
            exact mz_Go.drop [true] (tX7_takesLaw_129 r (mz_wi q2 2 100 5 (1 : Int32)) h)
          · have h := mz_ifn hc6 h
            refine mz_Go.run (gs := [mz_kz 1 0 300]) (st' := (125, [some (.inr (.inr (some (0, 300))))], [.inl (2 : Int32), .inr (.inr (some (0, 2)))], q2)) bX7_takesLaw_120 oX7_takesLaw_120 rfl ⟨rfl, trivial⟩ ?_
            obtain ⟨q7, hq7, h⟩ := mz_bd_some h
            refine mz_Go.callV (I := IX7_takesLaw) (J := IX5_fail) (as := [.inl (2 : Int32)]) (ci := 5) (g := 0) (o := 2) (idx := 47) (pl := 783) (rest := []) (mX5_fail (2 : Int32) q2 q7 hq7) kX5_fail vX5_fail (by decide +kernel) (by decide +kernel) (by decide +kernel) rfl rfl ⟨rfl, rfl⟩ rfl rfl rfl rfl ?_
            obtain ⟨hb8, h⟩ := mz_gd_some h
            cases h
            exact mz_Go.retz (by decide +kernel) rfl ⟨Nat.le_refl _, Nat.le_refl _⟩ hb8 rfl
  · have h := mz_ifn hc1 h
    refine mz_Go.run (gs := [mz_kz 1 0 300]) (st' := (12, [some (.inr (.inr (some (0, 300))))], [.inl (5 : Int32), .inr (.inr (some (0, 2)))], D)) bX7_takesLaw_7 oX7_takesLaw_7 rfl ⟨rfl, trivial⟩ ?_
    obtain ⟨q9, hq9, h⟩ := mz_bd_some h
    refine mz_Go.callV (I := IX7_takesLaw) (J := IX5_fail) (as := [.inl (5 : Int32)]) (ci := 5) (g := 0) (o := 2) (idx := 47) (pl := 783) (rest := []) (mX5_fail (5 : Int32) D q9 hq9) kX5_fail vX5_fail (by decide +kernel) (by decide +kernel) (by decide +kernel) rfl rfl ⟨rfl, rfl⟩ rfl rfl rfl rfl ?_
    obtain ⟨hb10, h⟩ := mz_gd_some h
    cases h
    exact mz_Go.retz (by decide +kernel) rfl ⟨Nat.le_refl _, Nat.le_refl _⟩ hb10 rfl
def bX7_isTaken_0 : List mz_E := [(0, .iconst 1, 0, 0, 0, 1, 0), (1, .istore_n 1, 0, 0, 0, 0, 0), (2, .iconst 0, 0, 0, 0, 0, 0), (3, .istore_n 2, 0, 0, 0, 0, 0)]
theorem oX7_isTaken_0 : bX7_isTaken_0.all (mz_ok RX7 cX7_isTaken 3) = true := by decide +kernel
def bX7_isTaken_4 : List mz_E := [(4, .iload_n 2, 0, 0, 0, 0, 0), (5, .sipush 900, 0, 0, 0, 900, 0), (8, .if_icmp .ge 183, 0, 191, 0, 0, 0)]
theorem oX7_isTaken_4 : bX7_isTaken_4.all (mz_ok RX7 cX7_isTaken 3) = true := by decide +kernel
def bX7_isTaken_191 : List mz_E := [(191, .aload_n 0, 0, 0, 0, 0, 0), (192, .getfield 15, 7, 1, 759, 0, 0), (195, .getfield 54, 6, 3, 487, 0, 0), (198, .aload_n 0, 0, 0, 0, 0, 0), (199, .getfield 15, 7, 1, 759, 0, 0), (202, .getfield 60, 6, 0, 475, 0, 0)]
theorem oX7_isTaken_191 : bX7_isTaken_191.all (mz_ok RX7 cX7_isTaken 3) = true := by decide +kernel
def bX7_isTaken_208 : List mz_E := [(208, .putfield 70, 0, 0, 408, 0, 0), (211, .iload_n 1, 0, 0, 0, 0, 0)]
theorem oX7_isTaken_208 : bX7_isTaken_208.all (mz_ok RX7 cX7_isTaken 3) = true := by decide +kernel
def bX7_isTaken_11 : List mz_E := [(11, .iload_n 1, 0, 0, 0, 0, 0), (12, .ifCond .eq 179, 0, 191, 0, 0, 0)]
theorem oX7_isTaken_11 : bX7_isTaken_11.all (mz_ok RX7 cX7_isTaken 3) = true := by decide +kernel
def bX7_isTaken_15 : List mz_E := [(15, .aload_n 0, 0, 0, 0, 0, 0), (16, .getfield 9, 7, 0, 758, 0, 0)]
theorem oX7_isTaken_15 : bX7_isTaken_15.all (mz_ok RX7 cX7_isTaken 3) = true := by decide +kernel
def bX7_isTaken_22 : List mz_E := [(22, .ifCond .ne 169, 0, 191, 0, 0, 0)]
theorem oX7_isTaken_22 : bX7_isTaken_22.all (mz_ok RX7 cX7_isTaken 3) = true := by decide +kernel
def bX7_isTaken_25 : List mz_E := [(25, .aload_n 0, 0, 0, 0, 0, 0), (26, .getfield 9, 7, 0, 758, 0, 0), (29, .getfield 25, 5, 2, 218, 0, 0)]
theorem oX7_isTaken_25 : bX7_isTaken_25.all (mz_ok RX7 cX7_isTaken 3) = true := by decide +kernel
def bX7_isTaken_108 : List mz_E := [(108, .aload_n 0, 0, 0, 0, 0, 0)]
theorem oX7_isTaken_108 : bX7_isTaken_108.all (mz_ok RX7 cX7_isTaken 3) = true := by decide +kernel
def bX7_isTaken_112 : List mz_E := [(112, .istore_n 1, 0, 0, 0, 0, 0), (113, .goto 52, 0, 165, 0, 0, 0)]
theorem oX7_isTaken_112 : bX7_isTaken_112.all (mz_ok RX7 cX7_isTaken 3) = true := by decide +kernel
def bX7_isTaken_165 : List mz_E := [(165, .iload_n 1, 0, 0, 0, 0, 0), (166, .ifCond .eq 17, 0, 183, 0, 0, 0)]
theorem oX7_isTaken_165 : bX7_isTaken_165.all (mz_ok RX7 cX7_isTaken 3) = true := by decide +kernel
def bX7_isTaken_183 : List mz_E := [(183, .iconst 0, 0, 0, 0, 0, 0), (184, .istore_n 1, 0, 0, 0, 0, 0), (185, .iinc 2 1, 0, 0, 0, 1, 0), (188, .goto (-184), 0, 4, 0, 0, 0)]
theorem oX7_isTaken_183 : bX7_isTaken_183.all (mz_ok RX7 cX7_isTaken 3) = true := by decide +kernel
def bX7_isTaken_169 : List mz_E := [(169, .aload_n 0, 0, 0, 0, 0, 0), (170, .getfield 9, 7, 0, 758, 0, 0)]
theorem oX7_isTaken_169 : bX7_isTaken_169.all (mz_ok RX7 cX7_isTaken 3) = true := by decide +kernel
def bX7_isTaken_176 : List mz_E := [(176, .ifCond .eq 7, 0, 183, 0, 0, 0)]
theorem oX7_isTaken_176 : bX7_isTaken_176.all (mz_ok RX7 cX7_isTaken 3) = true := by decide +kernel
def bX7_isTaken_179 : List mz_E := [(179, .iconst 1, 0, 0, 0, 1, 0), (180, .goto 4, 0, 184, 0, 0, 0), (184, .istore_n 1, 0, 0, 0, 0, 0), (185, .iinc 2 1, 0, 0, 0, 1, 0), (188, .goto (-184), 0, 4, 0, 0, 0)]
theorem oX7_isTaken_179 : bX7_isTaken_179.all (mz_ok RX7 cX7_isTaken 3) = true := by decide +kernel
def bX7_isTaken_156 : List mz_E := [(156, .aload_n 0, 0, 0, 0, 0, 0), (157, .getfield 9, 7, 0, 758, 0, 0), (160, .iconst 2, 0, 0, 0, 2, 0)]
theorem oX7_isTaken_156 : bX7_isTaken_156.all (mz_ok RX7 cX7_isTaken 3) = true := by decide +kernel
def bX7_isTaken_164 : List mz_E := [(164, .istore_n 1, 0, 0, 0, 0, 0)]
theorem oX7_isTaken_164 : bX7_isTaken_164.all (mz_ok RX7 cX7_isTaken 3) = true := by decide +kernel
def bX7_isTaken_116 : List mz_E := [(116, .aload_n 0, 0, 0, 0, 0, 0)]
theorem oX7_isTaken_116 : bX7_isTaken_116.all (mz_ok RX7 cX7_isTaken 3) = true := by decide +kernel
def bX7_isTaken_120 : List mz_E := [(120, .istore_n 1, 0, 0, 0, 0, 0), (121, .goto 44, 0, 165, 0, 0, 0)]
theorem oX7_isTaken_120 : bX7_isTaken_120.all (mz_ok RX7 cX7_isTaken 3) = true := by decide +kernel
def bX7_isTaken_124 : List mz_E := [(124, .aload_n 0, 0, 0, 0, 0, 0)]
theorem oX7_isTaken_124 : bX7_isTaken_124.all (mz_ok RX7 cX7_isTaken 3) = true := by decide +kernel
def bX7_isTaken_128 : List mz_E := [(128, .istore_n 1, 0, 0, 0, 0, 0), (129, .goto 36, 0, 165, 0, 0, 0)]
theorem oX7_isTaken_128 : bX7_isTaken_128.all (mz_ok RX7 cX7_isTaken 3) = true := by decide +kernel
def bX7_isTaken_132 : List mz_E := [(132, .aload_n 0, 0, 0, 0, 0, 0)]
theorem oX7_isTaken_132 : bX7_isTaken_132.all (mz_ok RX7 cX7_isTaken 3) = true := by decide +kernel
def bX7_isTaken_136 : List mz_E := [(136, .istore_n 1, 0, 0, 0, 0, 0), (137, .goto 28, 0, 165, 0, 0, 0)]
theorem oX7_isTaken_136 : bX7_isTaken_136.all (mz_ok RX7 cX7_isTaken 3) = true := by decide +kernel
def bX7_isTaken_140 : List mz_E := [(140, .aload_n 0, 0, 0, 0, 0, 0)]
theorem oX7_isTaken_140 : bX7_isTaken_140.all (mz_ok RX7 cX7_isTaken 3) = true := by decide +kernel
def bX7_isTaken_144 : List mz_E := [(144, .istore_n 1, 0, 0, 0, 0, 0), (145, .goto 20, 0, 165, 0, 0, 0)]
theorem oX7_isTaken_144 : bX7_isTaken_144.all (mz_ok RX7 cX7_isTaken 3) = true := by decide +kernel
def bX7_isTaken_148 : List mz_E := [(148, .aload_n 0, 0, 0, 0, 0, 0)]
theorem oX7_isTaken_148 : bX7_isTaken_148.all (mz_ok RX7 cX7_isTaken 3) = true := by decide +kernel
def bX7_isTaken_152 : List mz_E := [(152, .istore_n 1, 0, 0, 0, 0, 0), (153, .goto 12, 0, 165, 0, 0, 0)]
theorem oX7_isTaken_152 : bX7_isTaken_152.all (mz_ok RX7 cX7_isTaken 3) = true := by decide +kernel
abbrev IX7_isTaken : mz_I := (yX7_isTaken, cX7_isTaken, 3, (some .boolean), 1, 5, 0, 0)
theorem kX7_isTaken : mz_okm IX7_isTaken 774 144 772 0 = true := by decide +kernel
theorem vX7_isTaken : mz_okV IX7_isTaken 772 773 = true := by decide +kernel
def fX7_isTaken_191 (x1 : Int32) (D : mz_D) : Option (Int32 × mz_D) := (mz_gd (mz_bo x1) (some (x1, (mz_wi D 2 117 0 (((1 : Int32) <<< ((D.1 2 101 0) &&& 31)) - (1 : Int32))))))
set_option maxHeartbeats 4000000 in
theorem tX7_isTaken_191 (r : (Int32 × mz_D)) : ∀ (x1 : Int32) (D : mz_D), fX7_isTaken_191 x1 D = some r → mz_Go IX7_isTaken (some (.inl r.1), r.2) 0 0 (191, [some (.inr (.inr (some (0, 300)))), some (.inl x1), none], [], D) := by
  intro x1 D h
  rw [fX7_isTaken_191] at h
  refine mz_Go.run (gs := [mz_kz 1 0 300, mz_kz 1 2 100, mz_kz 1 0 300, mz_kz 1 2 100]) (st' := (205, [some (.inr (.inr (some (0, 300)))), some (.inl x1), none], [.inr (.inr (some (2, 101))), .inr (.inr (some (2, 117)))], D)) bX7_isTaken_191 oX7_isTaken_191 rfl ⟨rfl, rfl, rfl, rfl, trivial⟩ ?_
  refine mz_Go.callV (I := IX7_isTaken) (J := IX4_everyone) (as := []) (ci := 4) (g := 2) (o := 101) (idx := 64) (pl := 872) (rest := [.inr (.inr (some (2, 117)))]) (mX4_everyone 2 D rfl) kX4_everyone vX4_everyone (by decide +kernel) (by decide +kernel) (by decide +kernel) rfl rfl ⟨rfl, rfl⟩ rfl rfl rfl rfl ?_
  refine mz_Go.run (gs := [mz_kz 1 2 117]) (st' := (212, [some (.inr (.inr (some (0, 300)))), some (.inl x1), none], [.inl x1], (mz_wi D 2 117 0 (((1 : Int32) <<< ((D.1 2 101 0) &&& 31)) - (1 : Int32))))) bX7_isTaken_208 oX7_isTaken_208 rfl ⟨rfl, trivial⟩ ?_
  obtain ⟨hb1, h⟩ := mz_gd_some h
  cases h
  exact mz_Go.retz (by decide +kernel) rfl ⟨Nat.le_refl _, Nat.le_refl _⟩ hb1 rfl
def fX7_isTaken_183 (k4 : Int32 → Int32 → mz_D → Option (Int32 × mz_D)) (x2 : Int32) (D : mz_D) : Option (Int32 × mz_D) := (k4 (0 : Int32) (x2 + (1 : Int32)) D)
set_option maxHeartbeats 4000000 in
theorem tX7_isTaken_183 (r : (Int32 × mz_D)) (k4 : Int32 → Int32 → mz_D → Option (Int32 × mz_D)) (hk4 : ∀ (x1 : Int32) (x2 : Int32) (D : mz_D), k4 x1 x2 D = some r → mz_Go IX7_isTaken (some (.inl r.1), r.2) 0 0 (4, [some (.inr (.inr (some (0, 300)))), some (.inl x1), some (.inl x2)], [], D)) : ∀ (x2 : Int32) (D : mz_D), fX7_isTaken_183 k4 x2 D = some r → mz_Go IX7_isTaken (some (.inl r.1), r.2) 0 0 (183, [some (.inr (.inr (some (0, 300)))), none, some (.inl x2)], [], D) := by
  intro x2 D h
  rw [fX7_isTaken_183] at h
  refine mz_Go.run (gs := []) (st' := (4, [some (.inr (.inr (some (0, 300)))), some (.inl (0 : Int32)), some (.inl (x2 + (1 : Int32)))], [], D)) bX7_isTaken_183 oX7_isTaken_183 rfl trivial ?_
  exact mz_Go.drop [true, true, true] (hk4 (0 : Int32) (x2 + (1 : Int32)) D h)
def fX7_isTaken_165 (k4 : Int32 → Int32 → mz_D → Option (Int32 × mz_D)) (x1 : Int32) (x2 : Int32) (D : mz_D) : Option (Int32 × mz_D) := (if x1 = 0 then (fX7_isTaken_183 k4 x2 D) else (Option.bind (fX5_takesSemicolon D) fun q2 => (if q2.1 = 0 then (fX7_isTaken_183 k4 x2 q2.2) else (k4 (1 : Int32) (x2 + (1 : Int32)) q2.2))))
set_option maxHeartbeats 4000000 in
theorem tX7_isTaken_165 (r : (Int32 × mz_D)) (k4 : Int32 → Int32 → mz_D → Option (Int32 × mz_D)) (hk4 : ∀ (x1 : Int32) (x2 : Int32) (D : mz_D), k4 x1 x2 D = some r → mz_Go IX7_isTaken (some (.inl r.1), r.2) 0 0 (4, [some (.inr (.inr (some (0, 300)))), some (.inl x1), some (.inl x2)], [], D)) : ∀ (x1 : Int32) (x2 : Int32) (D : mz_D), fX7_isTaken_165 k4 x1 x2 D = some r → mz_Go IX7_isTaken (some (.inl r.1), r.2) 0 0 (165, [some (.inr (.inr (some (0, 300)))), some (.inl x1), some (.inl x2)], [], D) := by
  intro x1 x2 D h
  rw [fX7_isTaken_165] at h
  refine mz_Go.run (gs := []) (st' := (if x1 = 0 then (183, [some (.inr (.inr (some (0, 300)))), some (.inl x1), some (.inl x2)], [], D) else (169, [some (.inr (.inr (some (0, 300)))), some (.inl x1), some (.inl x2)], [], D))) bX7_isTaken_165 oX7_isTaken_165 rfl trivial ?_
  refine mz_Go.ite (fun hc1 => ?_) (fun hc1 => ?_)
  · have h := mz_ifp hc1 h
    exact mz_Go.drop [true, false, true] (tX7_isTaken_183 r k4 hk4 x2 D h)
  · have h := mz_ifn hc1 h
    refine mz_Go.run (gs := [mz_kz 1 0 300]) (st' := (173, [some (.inr (.inr (some (0, 300)))), some (.inl x1), some (.inl x2)], [.inr (.inr (some (0, 2)))], D)) bX7_isTaken_169 oX7_isTaken_169 rfl ⟨rfl, trivial⟩ ?_
    obtain ⟨q2, hq2, h⟩ := mz_bd_some h
    refine mz_Go.callV (I := IX7_isTaken) (J := IX5_takesSemicolon) (as := []) (ci := 5) (g := 0) (o := 2) (idx := 51) (pl := 864) (rest := []) (mX5_takesSemicolon D q2 hq2) kX5_takesSemicolon vX5_takesSemicolon (by decide +kernel) (by decide +kernel) (by decide +kernel) rfl rfl ⟨rfl, rfl⟩ rfl rfl rfl rfl ?_
    refine mz_Go.run (gs := []) (st' := (if q2.1 = 0 then (183, [some (.inr (.inr (some (0, 300)))), some (.inl x1), some (.inl x2)], [], q2.2) else (179, [some (.inr (.inr (some (0, 300)))), some (.inl x1), some (.inl x2)], [], q2.2))) bX7_isTaken_176 oX7_isTaken_176 rfl trivial ?_
    refine mz_Go.ite (fun hc3 => ?_) (fun hc3 => ?_)
    · have h := mz_ifp hc3 h
      exact mz_Go.drop [true, false, true] (tX7_isTaken_183 r k4 hk4 x2 q2.2 h)
    · have h := mz_ifn hc3 h
      refine mz_Go.run (gs := []) (st' := (4, [some (.inr (.inr (some (0, 300)))), some (.inl (1 : Int32)), some (.inl (x2 + (1 : Int32)))], [], q2.2)) bX7_isTaken_179 oX7_isTaken_179 rfl trivial ?_
      exact mz_Go.drop [true, true, true] (hk4 (1 : Int32) (x2 + (1 : Int32)) q2.2 h)
def fX7_isTaken_4 : Nat → Int32 → Int32 → mz_D → Option (Int32 × mz_D)
  | 0 => fun _ _ _ => none
  | n + 1 => fun x1 x2 D => (if (900 : Int32) ≤ x2 then (fX7_isTaken_191 x1 D) else (if x1 = 0 then (fX7_isTaken_191 x1 D) else (if (fX5_isOver D) = 0 then (if (D.1 0 2 2) = (0 : Int32) then (Option.bind (fX7_takesNewcomer D) fun q5 => (fX7_isTaken_165 (fX7_isTaken_4 n) q5.1 x2 q5.2)) else (if (D.1 0 2 2) = (1 : Int32) then (Option.bind (fX5_fail (2 : Int32) D) fun q7 => (fX7_isTaken_165 (fX7_isTaken_4 n) q7.1 x2 q7.2)) else (if (D.1 0 2 2) = (2 : Int32) then (Option.bind (fX5_fail (2 : Int32) D) fun q9 => (fX7_isTaken_165 (fX7_isTaken_4 n) q9.1 x2 q9.2)) else (if (D.1 0 2 2) = (3 : Int32) then (Option.bind (fX5_fail (2 : Int32) D) fun q11 => (fX7_isTaken_165 (fX7_isTaken_4 n) q11.1 x2 q11.2)) else (if (D.1 0 2 2) = (4 : Int32) then (Option.bind (fX5_fail (2 : Int32) D) fun q13 => (fX7_isTaken_165 (fX7_isTaken_4 n) q13.1 x2 q13.2)) else (if (D.1 0 2 2) = (5 : Int32) then (Option.bind (fX5_fail (2 : Int32) D) fun q15 => (fX7_isTaken_165 (fX7_isTaken_4 n) q15.1 x2 q15.2)) else (if (D.1 0 2 2) = (6 : Int32) then (Option.bind (fX7_takesCouple D) fun q17 => (fX7_isTaken_165 (fX7_isTaken_4 n) q17.1 x2 q17.2)) else (if (D.1 0 2 2) = (7 : Int32) then (Option.bind (fX7_takesDish D) fun q19 => (fX7_isTaken_165 (fX7_isTaken_4 n) q19.1 x2 q19.2)) else (if (D.1 0 2 2) = (8 : Int32) then (Option.bind (fX5_fail (2 : Int32) D) fun q21 => (fX7_isTaken_165 (fX7_isTaken_4 n) q21.1 x2 q21.2)) else (if (D.1 0 2 2) = (9 : Int32) then (Option.bind (fX7_takesDebt D) fun q23 => (fX7_isTaken_165 (fX7_isTaken_4 n) q23.1 x2 q23.2)) else (if (D.1 0 2 2) = (10 : Int32) then (Option.bind (fX7_takesSplit D) fun q25 => (fX7_isTaken_165 (fX7_isTaken_4 n) q25.1 x2 q25.2)) else (if (D.1 0 2 2) = (11 : Int32) then (Option.bind (fX5_fail (2 : Int32) D) fun q27 => (fX7_isTaken_165 (fX7_isTaken_4 n) q27.1 x2 q27.2)) else (if (D.1 0 2 2) = (12 : Int32) then (Option.bind (fX5_fail (2 : Int32) D) fun q29 => (fX7_isTaken_165 (fX7_isTaken_4 n) q29.1 x2 q29.2)) else (if (D.1 0 2 2) = (13 : Int32) then (Option.bind (fX5_fail (2 : Int32) D) fun q31 => (fX7_isTaken_165 (fX7_isTaken_4 n) q31.1 x2 q31.2)) else (if (D.1 0 2 2) = (14 : Int32) then (Option.bind (fX7_takesLaw D) fun q33 => (fX7_isTaken_165 (fX7_isTaken_4 n) q33.1 x2 q33.2)) else (Option.bind (fX5_fail (2 : Int32) D) fun q34 => (fX7_isTaken_165 (fX7_isTaken_4 n) q34.1 x2 q34.2))))))))))))))))) else (fX7_isTaken_191 x1 D))))
set_option maxHeartbeats 4000000 in
theorem tX7_isTaken_4 (r : (Int32 × mz_D)) : ∀ (n : Nat) (x1 : Int32) (x2 : Int32) (D : mz_D), fX7_isTaken_4 n x1 x2 D = some r → mz_Go IX7_isTaken (some (.inl r.1), r.2) 0 0 (4, [some (.inr (.inr (some (0, 300)))), some (.inl x1), some (.inl x2)], [], D) := by
  intro n
  induction n with
  | zero => intro x1 x2 D h; have h : (none : Option (Int32 × mz_D)) = some r := h; cases h
  | succ n ih =>
    intro x1 x2 D h
    rw [fX7_isTaken_4] at h
    refine mz_Go.run (gs := []) (st' := (if (900 : Int32) ≤ x2 then (191, [some (.inr (.inr (some (0, 300)))), some (.inl x1), some (.inl x2)], [], D) else (11, [some (.inr (.inr (some (0, 300)))), some (.inl x1), some (.inl x2)], [], D))) bX7_isTaken_4 oX7_isTaken_4 rfl trivial ?_
    refine mz_Go.ite (fun hc1 => ?_) (fun hc1 => ?_)
    · have h := mz_ifp hc1 h
      exact mz_Go.drop [true, true, false] (tX7_isTaken_191 r x1 D h)
    · have h := mz_ifn hc1 h
      refine mz_Go.run (gs := []) (st' := (if x1 = 0 then (191, [some (.inr (.inr (some (0, 300)))), some (.inl x1), some (.inl x2)], [], D) else (15, [some (.inr (.inr (some (0, 300)))), some (.inl x1), some (.inl x2)], [], D))) bX7_isTaken_11 oX7_isTaken_11 rfl trivial ?_
      refine mz_Go.ite (fun hc2 => ?_) (fun hc2 => ?_)
      · have h := mz_ifp hc2 h
        exact mz_Go.drop [true, true, false] (tX7_isTaken_191 r x1 D h)
      · have h := mz_ifn hc2 h
        refine mz_Go.run (gs := [mz_kz 1 0 300]) (st' := (19, [some (.inr (.inr (some (0, 300)))), some (.inl x1), some (.inl x2)], [.inr (.inr (some (0, 2)))], D)) bX7_isTaken_15 oX7_isTaken_15 rfl ⟨rfl, trivial⟩ ?_
        refine mz_Go.callV (I := IX7_isTaken) (J := IX5_isOver) (as := []) (ci := 5) (g := 0) (o := 2) (idx := 19) (pl := 775) (rest := []) (mX5_isOver D _ rfl) kX5_isOver vX5_isOver (by decide +kernel) (by decide +kernel) (by decide +kernel) rfl rfl ⟨rfl, rfl⟩ rfl rfl rfl rfl ?_
        refine mz_Go.run (gs := []) (st' := (if (fX5_isOver D) = 0 then (25, [some (.inr (.inr (some (0, 300)))), some (.inl x1), some (.inl x2)], [], D) else (191, [some (.inr (.inr (some (0, 300)))), some (.inl x1), some (.inl x2)], [], D))) bX7_isTaken_22 oX7_isTaken_22 rfl trivial ?_
        refine mz_Go.ite (fun hc3 => ?_) (fun hc3 => ?_)
        · have h := mz_ifp hc3 h
          refine mz_Go.run (gs := [mz_kz 1 0 300, mz_kz 1 0 2]) (st' := (32, [some (.inr (.inr (some (0, 300)))), some (.inl x1), some (.inl x2)], [.inl (D.1 0 2 2)], D)) bX7_isTaken_25 oX7_isTaken_25 rfl ⟨rfl, rfl, trivial⟩ ?_
          refine mz_Go.tsw [(0, 108), (1, 156), (2, 156), (3, 156), (4, 156), (5, 156), (6, 116), (7, 124), (8, 156), (9, 132), (10, 140), (11, 156), (12, 156), (13, 156), (14, 148)] 156 (show decode cX7_isTaken 32 = .ok (.tableswitch 124 0 14 #[76, 124, 124, 124, 124, 124, 84, 92, 124, 100, 108, 124, 124, 124, 116], 76) by decide +kernel) (by decide +kernel) ?_
          refine mz_Go.swc (fun hc4 => ?_) (fun hc4 => ?_)
          · have h := mz_ifp hc4 h
            refine mz_Go.run (gs := []) (st' := (109, [some (.inr (.inr (some (0, 300)))), some (.inl x1), some (.inl x2)], [.inr (.inr (some (0, 300)))], D)) bX7_isTaken_108 oX7_isTaken_108 rfl trivial ?_
            obtain ⟨q5, hq5, h⟩ := mz_bd_some h
            refine mz_Go.callV (I := IX7_isTaken) (J := IX7_takesNewcomer) (as := []) (ci := 7) (g := 0) (o := 300) (idx := 29) (pl := 779) (rest := []) (mX7_takesNewcomer D q5 hq5) kX7_takesNewcomer vX7_takesNewcomer (by decide +kernel) (by decide +kernel) (by decide +kernel) rfl rfl ⟨rfl, rfl⟩ rfl rfl rfl rfl ?_
            refine mz_Go.run (gs := []) (st' := (165, [some (.inr (.inr (some (0, 300)))), some (.inl q5.1), some (.inl x2)], [], q5.2)) bX7_isTaken_112 oX7_isTaken_112 rfl trivial ?_
            exact mz_Go.drop [true, true, true] (tX7_isTaken_165 r (fX7_isTaken_4 n) ih q5.1 x2 q5.2 h)
          · have h := mz_ifn hc4 h
            refine mz_Go.swc (fun hc6 => ?_) (fun hc6 => ?_)
            · have h := mz_ifp hc6 h
              refine mz_Go.run (gs := [mz_kz 1 0 300]) (st' := (161, [some (.inr (.inr (some (0, 300)))), some (.inl x1), some (.inl x2)], [.inl (2 : Int32), .inr (.inr (some (0, 2)))], D)) bX7_isTaken_156 oX7_isTaken_156 rfl ⟨rfl, trivial⟩ ?_
              obtain ⟨q7, hq7, h⟩ := mz_bd_some h
              refine mz_Go.callV (I := IX7_isTaken) (J := IX5_fail) (as := [.inl (2 : Int32)]) (ci := 5) (g := 0) (o := 2) (idx := 47) (pl := 783) (rest := []) (mX5_fail (2 : Int32) D q7 hq7) kX5_fail vX5_fail (by decide +kernel) (by decide +kernel) (by decide +kernel) rfl rfl ⟨rfl, rfl⟩ rfl rfl rfl rfl ?_
              refine mz_Go.run (gs := []) (st' := (165, [some (.inr (.inr (some (0, 300)))), some (.inl q7.1), some (.inl x2)], [], q7.2)) bX7_isTaken_164 oX7_isTaken_164 rfl trivial ?_
              exact mz_Go.drop [true, true, true] (tX7_isTaken_165 r (fX7_isTaken_4 n) ih q7.1 x2 q7.2 h)
            · have h := mz_ifn hc6 h
              refine mz_Go.swc (fun hc8 => ?_) (fun hc8 => ?_)
              · have h := mz_ifp hc8 h
                refine mz_Go.run (gs := [mz_kz 1 0 300]) (st' := (161, [some (.inr (.inr (some (0, 300)))), some (.inl x1), some (.inl x2)], [.inl (2 : Int32), .inr (.inr (some (0, 2)))], D)) bX7_isTaken_156 oX7_isTaken_156 rfl ⟨rfl, trivial⟩ ?_
                obtain ⟨q9, hq9, h⟩ := mz_bd_some h
                refine mz_Go.callV (I := IX7_isTaken) (J := IX5_fail) (as := [.inl (2 : Int32)]) (ci := 5) (g := 0) (o := 2) (idx := 47) (pl := 783) (rest := []) (mX5_fail (2 : Int32) D q9 hq9) kX5_fail vX5_fail (by decide +kernel) (by decide +kernel) (by decide +kernel) rfl rfl ⟨rfl, rfl⟩ rfl rfl rfl rfl ?_
                refine mz_Go.run (gs := []) (st' := (165, [some (.inr (.inr (some (0, 300)))), some (.inl q9.1), some (.inl x2)], [], q9.2)) bX7_isTaken_164 oX7_isTaken_164 rfl trivial ?_
                exact mz_Go.drop [true, true, true] (tX7_isTaken_165 r (fX7_isTaken_4 n) ih q9.1 x2 q9.2 h)
              · have h := mz_ifn hc8 h
                refine mz_Go.swc (fun hc10 => ?_) (fun hc10 => ?_)
                · have h := mz_ifp hc10 h
                  refine mz_Go.run (gs := [mz_kz 1 0 300]) (st' := (161, [some (.inr (.inr (some (0, 300)))), some (.inl x1), some (.inl x2)], [.inl (2 : Int32), .inr (.inr (some (0, 2)))], D)) bX7_isTaken_156 oX7_isTaken_156 rfl ⟨rfl, trivial⟩ ?_
                  obtain ⟨q11, hq11, h⟩ := mz_bd_some h
                  refine mz_Go.callV (I := IX7_isTaken) (J := IX5_fail) (as := [.inl (2 : Int32)]) (ci := 5) (g := 0) (o := 2) (idx := 47) (pl := 783) (rest := []) (mX5_fail (2 : Int32) D q11 hq11) kX5_fail vX5_fail (by decide +kernel) (by decide +kernel) (by decide +kernel) rfl rfl ⟨rfl, rfl⟩ rfl rfl rfl rfl ?_
                  refine mz_Go.run (gs := []) (st' := (165, [some (.inr (.inr (some (0, 300)))), some (.inl q11.1), some (.inl x2)], [], q11.2)) bX7_isTaken_164 oX7_isTaken_164 rfl trivial ?_
                  exact mz_Go.drop [true, true, true] (tX7_isTaken_165 r (fX7_isTaken_4 n) ih q11.1 x2 q11.2 h)
                · have h := mz_ifn hc10 h
                  refine mz_Go.swc (fun hc12 => ?_) (fun hc12 => ?_)
                  · have h := mz_ifp hc12 h
                    refine mz_Go.run (gs := [mz_kz 1 0 300]) (st' := (161, [some (.inr (.inr (some (0, 300)))), some (.inl x1), some (.inl x2)], [.inl (2 : Int32), .inr (.inr (some (0, 2)))], D)) bX7_isTaken_156 oX7_isTaken_156 rfl ⟨rfl, trivial⟩ ?_
                    obtain ⟨q13, hq13, h⟩ := mz_bd_some h
                    refine mz_Go.callV (I := IX7_isTaken) (J := IX5_fail) (as := [.inl (2 : Int32)]) (ci := 5) (g := 0) (o := 2) (idx := 47) (pl := 783) (rest := []) (mX5_fail (2 : Int32) D q13 hq13) kX5_fail vX5_fail (by decide +kernel) (by decide +kernel) (by decide +kernel) rfl rfl ⟨rfl, rfl⟩ rfl rfl rfl rfl ?_
                    refine mz_Go.run (gs := []) (st' := (165, [some (.inr (.inr (some (0, 300)))), some (.inl q13.1), some (.inl x2)], [], q13.2)) bX7_isTaken_164 oX7_isTaken_164 rfl trivial ?_
                    exact mz_Go.drop [true, true, true] (tX7_isTaken_165 r (fX7_isTaken_4 n) ih q13.1 x2 q13.2 h)
                  · have h := mz_ifn hc12 h
                    refine mz_Go.swc (fun hc14 => ?_) (fun hc14 => ?_)
                    · have h := mz_ifp hc14 h
                      refine mz_Go.run (gs := [mz_kz 1 0 300]) (st' := (161, [some (.inr (.inr (some (0, 300)))), some (.inl x1), some (.inl x2)], [.inl (2 : Int32), .inr (.inr (some (0, 2)))], D)) bX7_isTaken_156 oX7_isTaken_156 rfl ⟨rfl, trivial⟩ ?_
                      obtain ⟨q15, hq15, h⟩ := mz_bd_some h
                      refine mz_Go.callV (I := IX7_isTaken) (J := IX5_fail) (as := [.inl (2 : Int32)]) (ci := 5) (g := 0) (o := 2) (idx := 47) (pl := 783) (rest := []) (mX5_fail (2 : Int32) D q15 hq15) kX5_fail vX5_fail (by decide +kernel) (by decide +kernel) (by decide +kernel) rfl rfl ⟨rfl, rfl⟩ rfl rfl rfl rfl ?_
                      refine mz_Go.run (gs := []) (st' := (165, [some (.inr (.inr (some (0, 300)))), some (.inl q15.1), some (.inl x2)], [], q15.2)) bX7_isTaken_164 oX7_isTaken_164 rfl trivial ?_
                      exact mz_Go.drop [true, true, true] (tX7_isTaken_165 r (fX7_isTaken_4 n) ih q15.1 x2 q15.2 h)
                    · have h := mz_ifn hc14 h
                      refine mz_Go.swc (fun hc16 => ?_) (fun hc16 => ?_)
                      · have h := mz_ifp hc16 h
                        refine mz_Go.run (gs := []) (st' := (117, [some (.inr (.inr (some (0, 300)))), some (.inl x1), some (.inl x2)], [.inr (.inr (some (0, 300)))], D)) bX7_isTaken_116 oX7_isTaken_116 rfl trivial ?_
                        obtain ⟨q17, hq17, h⟩ := mz_bd_some h
                        refine mz_Go.callV (I := IX7_isTaken) (J := IX7_takesCouple) (as := []) (ci := 7) (g := 0) (o := 300) (idx := 32) (pl := 817) (rest := []) (mX7_takesCouple D q17 hq17) kX7_takesCouple vX7_takesCouple (by decide +kernel) (by decide +kernel) (by decide +kernel) rfl rfl ⟨rfl, rfl⟩ rfl rfl rfl rfl ?_
                        refine mz_Go.run (gs := []) (st' := (165, [some (.inr (.inr (some (0, 300)))), some (.inl q17.1), some (.inl x2)], [], q17.2)) bX7_isTaken_120 oX7_isTaken_120 rfl trivial ?_
                        exact mz_Go.drop [true, true, true] (tX7_isTaken_165 r (fX7_isTaken_4 n) ih q17.1 x2 q17.2 h)
                      · have h := mz_ifn hc16 h
                        refine mz_Go.swc (fun hc18 => ?_) (fun hc18 => ?_)
                        · have h := mz_ifp hc18 h
                          refine mz_Go.run (gs := []) (st' := (125, [some (.inr (.inr (some (0, 300)))), some (.inl x1), some (.inl x2)], [.inr (.inr (some (0, 300)))], D)) bX7_isTaken_124 oX7_isTaken_124 rfl trivial ?_
                          obtain ⟨q19, hq19, h⟩ := mz_bd_some h
                          refine mz_Go.callV (I := IX7_isTaken) (J := IX7_takesDish) (as := []) (ci := 7) (g := 0) (o := 300) (idx := 35) (pl := 831) (rest := []) (mX7_takesDish D q19 hq19) kX7_takesDish vX7_takesDish (by decide +kernel) (by decide +kernel) (by decide +kernel) rfl rfl ⟨rfl, rfl⟩ rfl rfl rfl rfl ?_
                          refine mz_Go.run (gs := []) (st' := (165, [some (.inr (.inr (some (0, 300)))), some (.inl q19.1), some (.inl x2)], [], q19.2)) bX7_isTaken_128 oX7_isTaken_128 rfl trivial ?_
                          exact mz_Go.drop [true, true, true] (tX7_isTaken_165 r (fX7_isTaken_4 n) ih q19.1 x2 q19.2 h)
                        · have h := mz_ifn hc18 h
                          refine mz_Go.swc (fun hc20 => ?_) (fun hc20 => ?_)
                          · have h := mz_ifp hc20 h
                            refine mz_Go.run (gs := [mz_kz 1 0 300]) (st' := (161, [some (.inr (.inr (some (0, 300)))), some (.inl x1), some (.inl x2)], [.inl (2 : Int32), .inr (.inr (some (0, 2)))], D)) bX7_isTaken_156 oX7_isTaken_156 rfl ⟨rfl, trivial⟩ ?_
                            obtain ⟨q21, hq21, h⟩ := mz_bd_some h
                            refine mz_Go.callV (I := IX7_isTaken) (J := IX5_fail) (as := [.inl (2 : Int32)]) (ci := 5) (g := 0) (o := 2) (idx := 47) (pl := 783) (rest := []) (mX5_fail (2 : Int32) D q21 hq21) kX5_fail vX5_fail (by decide +kernel) (by decide +kernel) (by decide +kernel) rfl rfl ⟨rfl, rfl⟩ rfl rfl rfl rfl ?_
                            refine mz_Go.run (gs := []) (st' := (165, [some (.inr (.inr (some (0, 300)))), some (.inl q21.1), some (.inl x2)], [], q21.2)) bX7_isTaken_164 oX7_isTaken_164 rfl trivial ?_
                            exact mz_Go.drop [true, true, true] (tX7_isTaken_165 r (fX7_isTaken_4 n) ih q21.1 x2 q21.2 h)
                          · have h := mz_ifn hc20 h
                            refine mz_Go.swc (fun hc22 => ?_) (fun hc22 => ?_)
                            · have h := mz_ifp hc22 h
                              refine mz_Go.run (gs := []) (st' := (133, [some (.inr (.inr (some (0, 300)))), some (.inl x1), some (.inl x2)], [.inr (.inr (some (0, 300)))], D)) bX7_isTaken_132 oX7_isTaken_132 rfl trivial ?_
                              obtain ⟨q23, hq23, h⟩ := mz_bd_some h
                              refine mz_Go.callV (I := IX7_isTaken) (J := IX7_takesDebt) (as := []) (ci := 7) (g := 0) (o := 300) (idx := 38) (pl := 844) (rest := []) (mX7_takesDebt D q23 hq23) kX7_takesDebt vX7_takesDebt (by decide +kernel) (by decide +kernel) (by decide +kernel) rfl rfl ⟨rfl, rfl⟩ rfl rfl rfl rfl ?_
                              refine mz_Go.run (gs := []) (st' := (165, [some (.inr (.inr (some (0, 300)))), some (.inl q23.1), some (.inl x2)], [], q23.2)) bX7_isTaken_136 oX7_isTaken_136 rfl trivial ?_
                              exact mz_Go.drop [true, true, true] (tX7_isTaken_165 r (fX7_isTaken_4 n) ih q23.1 x2 q23.2 h)
                            · have h := mz_ifn hc22 h
                              refine mz_Go.swc (fun hc24 => ?_) (fun hc24 => ?_)
                              · have h := mz_ifp hc24 h
                                refine mz_Go.run (gs := []) (st' := (141, [some (.inr (.inr (some (0, 300)))), some (.inl x1), some (.inl x2)], [.inr (.inr (some (0, 300)))], D)) bX7_isTaken_140 oX7_isTaken_140 rfl trivial ?_
                                obtain ⟨q25, hq25, h⟩ := mz_bd_some h
                                refine mz_Go.callV (I := IX7_isTaken) (J := IX7_takesSplit) (as := []) (ci := 7) (g := 0) (o := 300) (idx := 41) (pl := 856) (rest := []) (mX7_takesSplit D q25 hq25) kX7_takesSplit vX7_takesSplit (by decide +kernel) (by decide +kernel) (by decide +kernel) rfl rfl ⟨rfl, rfl⟩ rfl rfl rfl rfl ?_
                                refine mz_Go.run (gs := []) (st' := (165, [some (.inr (.inr (some (0, 300)))), some (.inl q25.1), some (.inl x2)], [], q25.2)) bX7_isTaken_144 oX7_isTaken_144 rfl trivial ?_
                                exact mz_Go.drop [true, true, true] (tX7_isTaken_165 r (fX7_isTaken_4 n) ih q25.1 x2 q25.2 h)
                              · have h := mz_ifn hc24 h
                                refine mz_Go.swc (fun hc26 => ?_) (fun hc26 => ?_)
                                · have h := mz_ifp hc26 h
                                  refine mz_Go.run (gs := [mz_kz 1 0 300]) (st' := (161, [some (.inr (.inr (some (0, 300)))), some (.inl x1), some (.inl x2)], [.inl (2 : Int32), .inr (.inr (some (0, 2)))], D)) bX7_isTaken_156 oX7_isTaken_156 rfl ⟨rfl, trivial⟩ ?_
                                  obtain ⟨q27, hq27, h⟩ := mz_bd_some h
                                  refine mz_Go.callV (I := IX7_isTaken) (J := IX5_fail) (as := [.inl (2 : Int32)]) (ci := 5) (g := 0) (o := 2) (idx := 47) (pl := 783) (rest := []) (mX5_fail (2 : Int32) D q27 hq27) kX5_fail vX5_fail (by decide +kernel) (by decide +kernel) (by decide +kernel) rfl rfl ⟨rfl, rfl⟩ rfl rfl rfl rfl ?_
                                  refine mz_Go.run (gs := []) (st' := (165, [some (.inr (.inr (some (0, 300)))), some (.inl q27.1), some (.inl x2)], [], q27.2)) bX7_isTaken_164 oX7_isTaken_164 rfl trivial ?_
                                  exact mz_Go.drop [true, true, true] (tX7_isTaken_165 r (fX7_isTaken_4 n) ih q27.1 x2 q27.2 h)
                                · have h := mz_ifn hc26 h
                                  refine mz_Go.swc (fun hc28 => ?_) (fun hc28 => ?_)
                                  · have h := mz_ifp hc28 h
                                    refine mz_Go.run (gs := [mz_kz 1 0 300]) (st' := (161, [some (.inr (.inr (some (0, 300)))), some (.inl x1), some (.inl x2)], [.inl (2 : Int32), .inr (.inr (some (0, 2)))], D)) bX7_isTaken_156 oX7_isTaken_156 rfl ⟨rfl, trivial⟩ ?_
                                    obtain ⟨q29, hq29, h⟩ := mz_bd_some h
                                    refine mz_Go.callV (I := IX7_isTaken) (J := IX5_fail) (as := [.inl (2 : Int32)]) (ci := 5) (g := 0) (o := 2) (idx := 47) (pl := 783) (rest := []) (mX5_fail (2 : Int32) D q29 hq29) kX5_fail vX5_fail (by decide +kernel) (by decide +kernel) (by decide +kernel) rfl rfl ⟨rfl, rfl⟩ rfl rfl rfl rfl ?_
                                    refine mz_Go.run (gs := []) (st' := (165, [some (.inr (.inr (some (0, 300)))), some (.inl q29.1), some (.inl x2)], [], q29.2)) bX7_isTaken_164 oX7_isTaken_164 rfl trivial ?_
                                    exact mz_Go.drop [true, true, true] (tX7_isTaken_165 r (fX7_isTaken_4 n) ih q29.1 x2 q29.2 h)
                                  · have h := mz_ifn hc28 h
                                    refine mz_Go.swc (fun hc30 => ?_) (fun hc30 => ?_)
                                    · have h := mz_ifp hc30 h
                                      refine mz_Go.run (gs := [mz_kz 1 0 300]) (st' := (161, [some (.inr (.inr (some (0, 300)))), some (.inl x1), some (.inl x2)], [.inl (2 : Int32), .inr (.inr (some (0, 2)))], D)) bX7_isTaken_156 oX7_isTaken_156 rfl ⟨rfl, trivial⟩ ?_
                                      obtain ⟨q31, hq31, h⟩ := mz_bd_some h
                                      refine mz_Go.callV (I := IX7_isTaken) (J := IX5_fail) (as := [.inl (2 : Int32)]) (ci := 5) (g := 0) (o := 2) (idx := 47) (pl := 783) (rest := []) (mX5_fail (2 : Int32) D q31 hq31) kX5_fail vX5_fail (by decide +kernel) (by decide +kernel) (by decide +kernel) rfl rfl ⟨rfl, rfl⟩ rfl rfl rfl rfl ?_
                                      refine mz_Go.run (gs := []) (st' := (165, [some (.inr (.inr (some (0, 300)))), some (.inl q31.1), some (.inl x2)], [], q31.2)) bX7_isTaken_164 oX7_isTaken_164 rfl trivial ?_
                                      exact mz_Go.drop [true, true, true] (tX7_isTaken_165 r (fX7_isTaken_4 n) ih q31.1 x2 q31.2 h)
                                    · have h := mz_ifn hc30 h
                                      refine mz_Go.swc (fun hc32 => ?_) (fun hc32 => ?_)
                                      · have h := mz_ifp hc32 h
                                        refine mz_Go.run (gs := []) (st' := (149, [some (.inr (.inr (some (0, 300)))), some (.inl x1), some (.inl x2)], [.inr (.inr (some (0, 300)))], D)) bX7_isTaken_148 oX7_isTaken_148 rfl trivial ?_
                                        obtain ⟨q33, hq33, h⟩ := mz_bd_some h
                                        refine mz_Go.callV (I := IX7_isTaken) (J := IX7_takesLaw) (as := []) (ci := 7) (g := 0) (o := 300) (idx := 44) (pl := 860) (rest := []) (mX7_takesLaw D q33 hq33) kX7_takesLaw vX7_takesLaw (by decide +kernel) (by decide +kernel) (by decide +kernel) rfl rfl ⟨rfl, rfl⟩ rfl rfl rfl rfl ?_
                                        refine mz_Go.run (gs := []) (st' := (165, [some (.inr (.inr (some (0, 300)))), some (.inl q33.1), some (.inl x2)], [], q33.2)) bX7_isTaken_152 oX7_isTaken_152 rfl trivial ?_
                                        exact mz_Go.drop [true, true, true] (tX7_isTaken_165 r (fX7_isTaken_4 n) ih q33.1 x2 q33.2 h)
                                      · have h := mz_ifn hc32 h
                                        refine mz_Go.run (gs := [mz_kz 1 0 300]) (st' := (161, [some (.inr (.inr (some (0, 300)))), some (.inl x1), some (.inl x2)], [.inl (2 : Int32), .inr (.inr (some (0, 2)))], D)) bX7_isTaken_156 oX7_isTaken_156 rfl ⟨rfl, trivial⟩ ?_
                                        obtain ⟨q34, hq34, h⟩ := mz_bd_some h
                                        refine mz_Go.callV (I := IX7_isTaken) (J := IX5_fail) (as := [.inl (2 : Int32)]) (ci := 5) (g := 0) (o := 2) (idx := 47) (pl := 783) (rest := []) (mX5_fail (2 : Int32) D q34 hq34) kX5_fail vX5_fail (by decide +kernel) (by decide +kernel) (by decide +kernel) rfl rfl ⟨rfl, rfl⟩ rfl rfl rfl rfl ?_
                                        refine mz_Go.run (gs := []) (st' := (165, [some (.inr (.inr (some (0, 300)))), some (.inl q34.1), some (.inl x2)], [], q34.2)) bX7_isTaken_164 oX7_isTaken_164 rfl trivial ?_
                                        exact mz_Go.drop [true, true, true] (tX7_isTaken_165 r (fX7_isTaken_4 n) ih q34.1 x2 q34.2 h)
        · have h := mz_ifn hc3 h
          exact mz_Go.drop [true, true, false] (tX7_isTaken_191 r x1 D h)
def fX7_isTaken (D : mz_D) : Option (Int32 × mz_D) := (fX7_isTaken_4 mz_N (1 : Int32) (0 : Int32) D)
set_option maxHeartbeats 4000000 in
theorem mX7_isTaken (D : mz_D) (r : (Int32 × mz_D)) (h : fX7_isTaken D = some r) : mz_Met IX7_isTaken [.inr (.inr (some (0, 300)))] D (some (.inl r.1), r.2) := by
  refine mz_Met.of (by decide +kernel) (Nat.le_of_ble_eq_true rfl) ?_
  show mz_Go IX7_isTaken (some (.inl r.1), r.2) 0 0 (0, [some (.inr (.inr (some (0, 300)))), none, none], [], D)
  rw [fX7_isTaken] at h
  refine mz_Go.run (gs := []) (st' := (4, [some (.inr (.inr (some (0, 300)))), some (.inl (1 : Int32)), some (.inl (0 : Int32))], [], D)) bX7_isTaken_0 oX7_isTaken_0 rfl trivial ?_
  exact mz_Go.drop [true, true, true] (tX7_isTaken_4 r mz_N (1 : Int32) (0 : Int32) D h)
