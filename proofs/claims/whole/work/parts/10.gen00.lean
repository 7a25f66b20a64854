def bJ7_fill_53178_0 : List mz_E := [(0, .iconst 0, 0, 0, 0, 0, 0), (1, .istore_n 2, 0, 0, 0, 0, 0), (2, .aload_n 0, 0, 0, 0, 0, 0), (3, .arraylength, 0, 0, 0, 0, 0), (4, .istore_n 3, 0, 0, 0, 0, 0)]
theorem oJ7_fill_53178_0 : bJ7_fill_53178_0.all (mz_ok RJ7 cJ7_fill_53178 4) = true := by decide +kernel
def bJ7_fill_53178_5 : List mz_E := [(5, .iload_n 2, 0, 0, 0, 0, 0), (6, .iload_n 3, 0, 0, 0, 0, 0), (7, .if_icmp .ge 13, 0, 20, 0, 0, 0)]
theorem oJ7_fill_53178_5 : bJ7_fill_53178_5.all (mz_ok RJ7 cJ7_fill_53178 4) = true := by decide +kernel
def bJ7_fill_53178_10 : List mz_E := [(10, .aload_n 0, 0, 0, 0, 0, 0), (11, .iload_n 2, 0, 0, 0, 0, 0), (12, .iload_n 1, 0, 0, 0, 0, 0), (13, .iastore, 0, 0, 0, 0, 0), (14, .iinc 2 1, 0, 0, 0, 1, 0), (17, .goto (-12), 0, 5, 0, 0, 0)]
theorem oJ7_fill_53178_10 : bJ7_fill_53178_10.all (mz_ok RJ7 cJ7_fill_53178 4) = true := by decide +kernel
abbrev IJ7_fill_53178_14 : mz_I := (yJ7_fill_53178, cJ7_fill_53178, 4, none, 0, 0, 0, 0)
theorem kJ7_fill_53178_14 : mz_okm IJ7_fill_53178_14 262 133 261 2 = true := by decide +kernel
theorem vJ7_fill_53178_14 : mz_okS IJ7_fill_53178_14 261 = true := by decide +kernel
def fJ7_fill_53178_14_5 : Nat → Int32 → Int32 → Int32 → mz_D → Option mz_D
  | 0 => fun _ _ _ _ => none
  | n + 1 => fun x1 x2 x3 D => (if x3 ≤ x2 then (some D) else (mz_gd (mz_ix x2 6) ((fJ7_fill_53178_14_5 n) x1 (x2 + (1 : Int32)) x3 (mz_wi D 0 14 (x2).toNatClampNeg x1))))
set_option maxHeartbeats 4000000 in
theorem tJ7_fill_53178_14_5 (r : mz_D) : ∀ (n : Nat) (x1 : Int32) (x2 : Int32) (x3 : Int32) (D : mz_D), fJ7_fill_53178_14_5 n x1 x2 x3 D = some r → mz_Go IJ7_fill_53178_14 (none, r) 0 0 (5, [some (.inr (.inr (some (0, 14)))), some (.inl x1), some (.inl x2), some (.inl x3)], [], D) := by
  intro n
  induction n with
  | zero => intro x1 x2 x3 D h; have h : (none : Option mz_D) = some r := h; cases h
  | succ n ih =>
    intro x1 x2 x3 D h
    rw [fJ7_fill_53178_14_5] at h
    refine mz_Go.run (gs := []) (st' := (if x3 ≤ x2 then (20, [some (.inr (.inr (some (0, 14)))), some (.inl x1), some (.inl x2), some (.inl x3)], [], D) else (10, [some (.inr (.inr (some (0, 14)))), some (.inl x1), some (.inl x2), some (.inl x3)], [], D))) bJ7_fill_53178_5 oJ7_fill_53178_5 rfl trivial ?_
    refine mz_Go.ite (fun hc1 => ?_) (fun hc1 => ?_)
    · have h := mz_ifp hc1 h
      cases h
      exact mz_Go.retv (by decide +kernel) rfl ⟨Nat.le_refl _, Nat.le_refl _⟩ rfl
    · have h := mz_ifn hc1 h
      obtain ⟨hb2, h⟩ := mz_gd_some h
      refine mz_Go.run (gs := [mz_kz 0 0 14, mz_ix x2 6]) (st' := (5, [some (.inr (.inr (some (0, 14)))), some (.inl x1), some (.inl (x2 + (1 : Int32))), some (.inl x3)], [], (mz_wi D 0 14 (x2).toNatClampNeg x1))) bJ7_fill_53178_10 oJ7_fill_53178_10 rfl ⟨rfl, hb2, trivial⟩ ?_
      exact mz_Go.drop [true, true, true, true] (ih x1 (x2 + (1 : Int32)) x3 (mz_wi D 0 14 (x2).toNatClampNeg x1) h)
def fJ7_fill_53178_14 (x1 : Int32) (D : mz_D) : Option mz_D := (fJ7_fill_53178_14_5 mz_N x1 (0 : Int32) (Int32.ofNat 6) D)
set_option maxHeartbeats 4000000 in
theorem mJ7_fill_53178_14 (x1 : Int32) (D : mz_D) (r : mz_D) (h : fJ7_fill_53178_14 x1 D = some r) : mz_Met IJ7_fill_53178_14 [.inr (.inr (some (0, 14))), .inl x1] D (none, r) := by
  refine mz_Met.of (by decide +kernel) (Nat.le_of_ble_eq_true rfl) ?_
  show mz_Go IJ7_fill_53178_14 (none, r) 0 0 (0, [some (.inr (.inr (some (0, 14)))), some (.inl x1), none, none], [], D)
  rw [fJ7_fill_53178_14] at h
  refine mz_Go.run (gs := [mz_kz 0 0 14]) (st' := (5, [some (.inr (.inr (some (0, 14)))), some (.inl x1), some (.inl (0 : Int32)), some (.inl (Int32.ofNat 6))], [], D)) bJ7_fill_53178_0 oJ7_fill_53178_0 rfl ⟨rfl, trivial⟩ ?_
  exact mz_Go.drop [true, true, true, true] (tJ7_fill_53178_14_5 r mz_N x1 (0 : Int32) (Int32.ofNat 6) D h)
abbrev IJ7_fill_53178_118 : mz_I := (yJ7_fill_53178, cJ7_fill_53178, 4, none, 0, 0, 0, 0)
theorem kJ7_fill_53178_118 : mz_okm IJ7_fill_53178_118 262 133 261 2 = true := by decide +kernel
theorem vJ7_fill_53178_118 : mz_okS IJ7_fill_53178_118 261 = true := by decide +kernel
def fJ7_fill_53178_118_5 (g0 : Nat) : Nat → Int32 → Int32 → Int32 → mz_D → Option mz_D
  | 0 => fun _ _ _ _ => none
  | n + 1 => fun x1 x2 x3 D => (if x3 ≤ x2 then (some D) else (mz_gd (mz_ix x2 6) ((fJ7_fill_53178_118_5 g0 n) x1 (x2 + (1 : Int32)) x3 (mz_wi D g0 118 (x2).toNatClampNeg x1))))
set_option maxHeartbeats 4000000 in
theorem tJ7_fill_53178_118_5 (g0 : Nat) (hg0 : mz_tb g0 = true) (r : mz_D) : ∀ (n : Nat) (x1 : Int32) (x2 : Int32) (x3 : Int32) (D : mz_D), fJ7_fill_53178_118_5 g0 n x1 x2 x3 D = some r → mz_Go IJ7_fill_53178_118 (none, r) 0 0 (5, [some (.inr (.inr (some (g0, 118)))), some (.inl x1), some (.inl x2), some (.inl x3)], [], D) := by
  intro n
  induction n with
  | zero => intro x1 x2 x3 D h; have h : (none : Option mz_D) = some r := h; cases h
  | succ n ih =>
    intro x1 x2 x3 D h
    rw [fJ7_fill_53178_118_5] at h
    refine mz_Go.run (gs := []) (st' := (if x3 ≤ x2 then (20, [some (.inr (.inr (some (g0, 118)))), some (.inl x1), some (.inl x2), some (.inl x3)], [], D) else (10, [some (.inr (.inr (some (g0, 118)))), some (.inl x1), some (.inl x2), some (.inl x3)], [], D))) bJ7_fill_53178_5 oJ7_fill_53178_5 rfl trivial ?_
    refine mz_Go.ite (fun hc1 => ?_) (fun hc1 => ?_)
    · have h := mz_ifp hc1 h
      cases h
      exact mz_Go.retv (by decide +kernel) rfl ⟨Nat.le_refl _, Nat.le_refl _⟩ rfl
    · have h := mz_ifn hc1 h
      obtain ⟨hb2, h⟩ := mz_gd_some h
      refine mz_Go.run (gs := [mz_kz 0 g0 118, mz_ix x2 6]) (st' := (5, [some (.inr (.inr (some (g0, 118)))), some (.inl x1), some (.inl (x2 + (1 : Int32))), some (.inl x3)], [], (mz_wi D g0 118 (x2).toNatClampNeg x1))) bJ7_fill_53178_10 oJ7_fill_53178_10 rfl ⟨hg0, hb2, trivial⟩ ?_
      exact mz_Go.drop [true, true, true, true] (ih x1 (x2 + (1 : Int32)) x3 (mz_wi D g0 118 (x2).toNatClampNeg x1) h)
def fJ7_fill_53178_118 (g0 : Nat) (x1 : Int32) (D : mz_D) : Option mz_D := (fJ7_fill_53178_118_5 g0 mz_N x1 (0 : Int32) (Int32.ofNat 6) D)
set_option maxHeartbeats 4000000 in
theorem mJ7_fill_53178_118 (g0 : Nat) (x1 : Int32) (D : mz_D) (hg0 : mz_tb g0 = true) (r : mz_D) (h : fJ7_fill_53178_118 g0 x1 D = some r) : mz_Met IJ7_fill_53178_118 [.inr (.inr (some (g0, 118))), .inl x1] D (none, r) := by
  refine mz_Met.of (by decide +kernel) (Nat.le_of_ble_eq_true rfl) ?_
  show mz_Go IJ7_fill_53178_118 (none, r) 0 0 (0, [some (.inr (.inr (some (g0, 118)))), some (.inl x1), none, none], [], D)
  rw [fJ7_fill_53178_118] at h
  refine mz_Go.run (gs := [mz_kz 0 g0 118]) (st' := (5, [some (.inr (.inr (some (g0, 118)))), some (.inl x1), some (.inl (0 : Int32)), some (.inl (Int32.ofNat 6))], [], D)) bJ7_fill_53178_0 oJ7_fill_53178_0 rfl ⟨hg0, trivial⟩ ?_
  exact mz_Go.drop [true, true, true, true] (tJ7_fill_53178_118_5 g0 hg0 r mz_N x1 (0 : Int32) (Int32.ofNat 6) D h)
def bX0_clear_0 : List mz_E := [(0, .aload_n 0, 0, 0, 0, 0, 0), (1, .iconst 0, 0, 0, 0, 0, 0), (2, .putfield 15, 0, 0, 407, 0, 0), (5, .aload_n 0, 0, 0, 0, 0, 0), (6, .iconst 0, 0, 0, 0, 0, 0), (7, .putfield 19, 0, 1, 410, 0, 0), (10, .aload_n 0, 0, 0, 0, 0, 0), (11, .getfield 9, 0, 2, 412, 0, 0), (14, .iconst 0, 0, 0, 0, 0, 0)]
theorem oX0_clear_0 : bX0_clear_0.all (mz_ok RX0 cX0_clear 1) = true := by decide +kernel
abbrev IX0_clear : mz_I := (yX0_clear, cX0_clear, 1, none, 0, 1, 0, 0)
theorem kX0_clear : mz_okm IX0_clear 728 138 726 0 = true := by decide +kernel
theorem vX0_clear : mz_okV IX0_clear 726 727 = true := by decide +kernel
def fX0_clear (g0 : Nat) (D : mz_D) : Option mz_D := (Option.bind (fJ7_fill_53178_118 g0 (0 : Int32) (mz_wi (mz_wi D g0 117 0 (0 : Int32)) g0 117 1 (0 : Int32))) fun q1 => (some q1))
set_option maxHeartbeats 4000000 in
theorem mX0_clear (g0 : Nat) (D : mz_D) (hg0 : mz_tb g0 = true) (r : mz_D) (h : fX0_clear g0 D = some r) : mz_Met IX0_clear [.inr (.inr (some (g0, 117)))] D (none, r) := by
  refine mz_Met.of (by decide +kernel) (Nat.le_of_ble_eq_true rfl) ?_
  show mz_Go IX0_clear (none, r) 0 0 (0, [some (.inr (.inr (some (g0, 117))))], [], D)
  rw [fX0_clear] at h
  refine mz_Go.run (gs := [mz_kz 0 g0 117, mz_kz 0 g0 117, mz_kz 0 g0 117]) (st' := (15, [some (.inr (.inr (some (g0, 117))))], [.inl (0 : Int32), .inr (.inr (some (g0, 118)))], (mz_wi (mz_wi D g0 117 0 (0 : Int32)) g0 117 1 (0 : Int32)))) bX0_clear_0 oX0_clear_0 rfl ⟨hg0, hg0, hg0, trivial⟩ ?_
  obtain ⟨q1, hq1, h⟩ := mz_bd_some h
  refine mz_Go.callS (I := IX0_clear) (J := IJ7_fill_53178_118) (as := [.inr (.inr (some (g0, 118))), .inl (0 : Int32)]) (idx := 22) (pl := 729) (rest := []) (mJ7_fill_53178_118 g0 (0 : Int32) (mz_wi (mz_wi D g0 117 0 (0 : Int32)) g0 117 1 (0 : Int32)) hg0 q1 hq1) kJ7_fill_53178_118 vJ7_fill_53178_118 (by decide +kernel) (by decide +kernel) (by decide +kernel) rfl rfl ⟨rfl, rfl⟩ rfl ?_
  cases h
  exact mz_Go.retv (by decide +kernel) rfl ⟨Nat.le_refl _, Nat.le_refl _⟩ rfl
def bJ9_min_7cf53_0 : List mz_E := [(0, .iload_n 0, 0, 0, 0, 0, 0), (1, .iload_n 1, 0, 0, 0, 0, 0), (2, .if_icmp .gt 7, 0, 9, 0, 0, 0)]
theorem oJ9_min_7cf53_0 : bJ9_min_7cf53_0.all (mz_ok RJ9 cJ9_min_7cf53 2) = true := by decide +kernel
def bJ9_min_7cf53_9 : List mz_E := [(9, .iload_n 1, 0, 0, 0, 0, 0)]
theorem oJ9_min_7cf53_9 : bJ9_min_7cf53_9.all (mz_ok RJ9 cJ9_min_7cf53 2) = true := by decide +kernel
def bJ9_min_7cf53_5 : List mz_E := [(5, .iload_n 0, 0, 0, 0, 0, 0), (6, .goto 4, 0, 10, 0, 0, 0)]
theorem oJ9_min_7cf53_5 : bJ9_min_7cf53_5.all (mz_ok RJ9 cJ9_min_7cf53 2) = true := by decide +kernel
abbrev IJ9_min_7cf53 : mz_I := (yJ9_min_7cf53, cJ9_min_7cf53, 2, (some .int), 9, 0, 0, 0)
theorem kJ9_min_7cf53 : mz_okm IJ9_min_7cf53 740 143 739 2 = true := by decide +kernel
theorem vJ9_min_7cf53 : mz_okS IJ9_min_7cf53 739 = true := by decide +kernel
def fJ9_min_7cf53 (x0 : Int32) (x1 : Int32) : Int32 := (if x1 < x0 then x1 else x0)
set_option maxHeartbeats 4000000 in
theorem mJ9_min_7cf53 (x0 : Int32) (x1 : Int32) (D : mz_D) (r : Int32) (h : fJ9_min_7cf53 x0 x1 = r) : mz_Met IJ9_min_7cf53 [.inl x0, .inl x1] D (some (.inl r), D) := by
  refine mz_Met.of (by decide +kernel) (Nat.le_of_ble_eq_true rfl) ?_
  show mz_Go IJ9_min_7cf53 (some (.inl r), D) 0 0 (0, [some (.inl x0), some (.inl x1)], [], D)
  rw [fJ9_min_7cf53] at h
  refine mz_Go.run (gs := []) (st' := (if x1 < x0 then (9, [some (.inl x0), some (.inl x1)], [], D) else (5, [some (.inl x0), some (.inl x1)], [], D))) bJ9_min_7cf53_0 oJ9_min_7cf53_0 rfl trivial ?_
  refine mz_Go.ite (fun hc1 => ?_) (fun hc1 => ?_)
  · have h := mz_ifp hc1 h
    refine mz_Go.run (gs := []) (st' := (10, [some (.inl x0), some (.inl x1)], [.inl x1], D)) bJ9_min_7cf53_9 oJ9_min_7cf53_9 rfl trivial ?_
    subst h
    exact mz_Go.reti (by decide +kernel) rfl ⟨Nat.le_refl _, Nat.le_refl _⟩ rfl
  · have h := mz_ifn hc1 h
    refine mz_Go.run (gs := []) (st' := (10, [some (.inl x0), some (.inl x1)], [.inl x0], D)) bJ9_min_7cf53_5 oJ9_min_7cf53_5 rfl trivial ?_
    subst h
    exact mz_Go.reti (by decide +kernel) rfl ⟨Nat.le_refl _, Nat.le_refl _⟩ rfl
def bX11_copyRow_0 : List mz_E := [(0, .aload_n 0, 0, 0, 0, 0, 0), (1, .iconst 0, 0, 0, 0, 0, 0), (2, .aload_n 1, 0, 0, 0, 0, 0), (3, .iconst 0, 0, 0, 0, 0, 0), (4, .aload_n 0, 0, 0, 0, 0, 0), (5, .arraylength, 0, 0, 0, 0, 0), (6, .aload_n 1, 0, 0, 0, 0, 0), (7, .arraylength, 0, 0, 0, 0, 0)]
theorem oX11_copyRow_0 : bX11_copyRow_0.all (mz_ok RX11 cX11_copyRow 2) = true := by decide +kernel
abbrev IX11_copyRow_103_103 : mz_I := (yX11_copyRow, cX11_copyRow, 2, none, 0, 1, 0, 0)
theorem kX11_copyRow_103_103 : mz_okm IX11_copyRow_103_103 891 126 890 2 = true := by decide +kernel
theorem vX11_copyRow_103_103 : mz_okS IX11_copyRow_103_103 890 = true := by decide +kernel
def fX11_copyRow_103_103 (g0 : Nat) (g1 : Nat) (D : mz_D) : Option mz_D := (mz_gd (mz_cpg (0 : Int32) (0 : Int32) (fJ9_min_7cf53 (Int32.ofNat 6) (Int32.ofNat 6)) 6 6) (some (mz_cpi D g0 103 g1 103 ((0 : Int32)).toNatClampNeg ((0 : Int32)).toNatClampNeg ((fJ9_min_7cf53 (Int32.ofNat 6) (Int32.ofNat 6))).toNatClampNeg)))
set_option maxHeartbeats 4000000 in
theorem mX11_copyRow_103_103 (g0 : Nat) (g1 : Nat) (D : mz_D) (hg0 : mz_tb g0 = true) (hg1 : mz_tb g1 = true) (r : mz_D) (h : fX11_copyRow_103_103 g0 g1 D = some r) : mz_Met IX11_copyRow_103_103 [.inr (.inr (some (g0, 103))), .inr (.inr (some (g1, 103)))] D (none, r) := by
  refine mz_Met.of (by decide +kernel) (Nat.le_of_ble_eq_true rfl) ?_
  show mz_Go IX11_copyRow_103_103 (none, r) 0 0 (0, [some (.inr (.inr (some (g0, 103)))), some (.inr (.inr (some (g1, 103))))], [], D)
  rw [fX11_copyRow_103_103] at h
  refine mz_Go.run (gs := [mz_kz 0 g0 103, mz_kz 0 g1 103]) (st' := (8, [some (.inr (.inr (some (g0, 103)))), some (.inr (.inr (some (g1, 103))))], [.inl (Int32.ofNat 6), .inl (Int32.ofNat 6), .inl (0 : Int32), .inr (.inr (some (g1, 103))), .inl (0 : Int32), .inr (.inr (some (g0, 103)))], D)) bX11_copyRow_0 oX11_copyRow_0 rfl ⟨hg0, hg1, trivial⟩ ?_
  refine mz_Go.callS (I := IX11_copyRow_103_103) (J := IJ9_min_7cf53) (as := [.inl (Int32.ofNat 6), .inl (Int32.ofNat 6)]) (idx := 362) (pl := 892) (rest := [.inl (0 : Int32), .inr (.inr (some (g1, 103))), .inl (0 : Int32), .inr (.inr (some (g0, 103)))]) (mJ9_min_7cf53 (Int32.ofNat 6) (Int32.ofNat 6) D _ rfl) kJ9_min_7cf53 vJ9_min_7cf53 (by decide +kernel) (by decide +kernel) (by decide +kernel) rfl rfl ⟨rfl, rfl⟩ rfl ?_
  obtain ⟨hb1, h⟩ := mz_gd_some h
  refine mz_Go.cpi (I := IX11_copyRow_103_103) (idx := 492) (pl := 893) (pn := 695) (ps := 694) (pi := 142) (by decide +kernel) (by decide +kernel) rfl rfl hg0 hg1 hb1 rfl ?_
  cases h
  exact mz_Go.retv (by decide +kernel) rfl ⟨Nat.le_refl _, Nat.le_refl _⟩ rfl
abbrev IX11_copyRow_118_118 : mz_I := (yX11_copyRow, cX11_copyRow, 2, none, 0, 1, 0, 0)
theorem kX11_copyRow_118_118 : mz_okm IX11_copyRow_118_118 891 126 890 2 = true := by decide +kernel
theorem vX11_copyRow_118_118 : mz_okS IX11_copyRow_118_118 890 = true := by decide +kernel
def fX11_copyRow_118_118 (g0 : Nat) (g1 : Nat) (D : mz_D) : Option mz_D := (mz_gd (mz_cpg (0 : Int32) (0 : Int32) (fJ9_min_7cf53 (Int32.ofNat 6) (Int32.ofNat 6)) 6 6) (some (mz_cpi D g0 118 g1 118 ((0 : Int32)).toNatClampNeg ((0 : Int32)).toNatClampNeg ((fJ9_min_7cf53 (Int32.ofNat 6) (Int32.ofNat 6))).toNatClampNeg)))
set_option maxHeartbeats 4000000 in
theorem mX11_copyRow_118_118 (g0 : Nat) (g1 : Nat) (D : mz_D) (hg0 : mz_tb g0 = true) (hg1 : mz_tb g1 = true) (r : mz_D) (h : fX11_copyRow_118_118 g0 g1 D = some r) : mz_Met IX11_copyRow_118_118 [.inr (.inr (some (g0, 118))), .inr (.inr (some (g1, 118)))] D (none, r) := by
  refine mz_Met.of (by decide +kernel) (Nat.le_of_ble_eq_true rfl) ?_
  show mz_Go IX11_copyRow_118_118 (none, r) 0 0 (0, [some (.inr (.inr (some (g0, 118)))), some (.inr (.inr (some (g1, 118))))], [], D)
  rw [fX11_copyRow_118_118] at h
  refine mz_Go.run (gs := [mz_kz 0 g0 118, mz_kz 0 g1 118]) (st' := (8, [some (.inr (.inr (some (g0, 118)))), some (.inr (.inr (some (g1, 118))))], [.inl (Int32.ofNat 6), .inl (Int32.ofNat 6), .inl (0 : Int32), .inr (.inr (some (g1, 118))), .inl (0 : Int32), .inr (.inr (some (g0, 118)))], D)) bX11_copyRow_0 oX11_copyRow_0 rfl ⟨hg0, hg1, trivial⟩ ?_
  refine mz_Go.callS (I := IX11_copyRow_118_118) (J := IJ9_min_7cf53) (as := [.inl (Int32.ofNat 6), .inl (Int32.ofNat 6)]) (idx := 362) (pl := 892) (rest := [.inl (0 : Int32), .inr (.inr (some (g1, 118))), .inl (0 : Int32), .inr (.inr (some (g0, 118)))]) (mJ9_min_7cf53 (Int32.ofNat 6) (Int32.ofNat 6) D _ rfl) kJ9_min_7cf53 vJ9_min_7cf53 (by decide +kernel) (by decide +kernel) (by decide +kernel) rfl rfl ⟨rfl, rfl⟩ rfl ?_
  obtain ⟨hb1, h⟩ := mz_gd_some h
  refine mz_Go.cpi (I := IX11_copyRow_118_118) (idx := 492) (pl := 893) (pn := 695) (ps := 694) (pi := 142) (by decide +kernel) (by decide +kernel) rfl rfl hg0 hg1 hb1 rfl ?_
  cases h
  exact mz_Go.retv (by decide +kernel) rfl ⟨Nat.le_refl _, Nat.le_refl _⟩ rfl
def bX0_copyFrom_0 : List mz_E := [(0, .aload_n 0, 0, 0, 0, 0, 0), (1, .aload_n 1, 0, 0, 0, 0, 0), (2, .getfield 15, 0, 0, 407, 0, 0), (5, .putfield 15, 0, 0, 407, 0, 0), (8, .aload_n 0, 0, 0, 0, 0, 0), (9, .aload_n 1, 0, 0, 0, 0, 0), (10, .getfield 19, 0, 1, 410, 0, 0), (13, .putfield 19, 0, 1, 410, 0, 0), (16, .aload_n 1, 0, 0, 0, 0, 0), (17, .getfield 9, 0, 2, 412, 0, 0), (20, .aload_n 0, 0, 0, 0, 0, 0), (21, .getfield 9, 0, 2, 412, 0, 0)]
theorem oX0_copyFrom_0 : bX0_copyFrom_0.all (mz_ok RX0 cX0_copyFrom 2) = true := by decide +kernel
abbrev IX0_copyFrom : mz_I := (yX0_copyFrom, cX0_copyFrom, 2, none, 0, 2, 0, 0)
theorem kX0_copyFrom : mz_okm IX0_copyFrom 907 138 905 1 = true := by decide +kernel
theorem vX0_copyFrom : mz_okV IX0_copyFrom 905 906 = true := by decide +kernel
def fX0_copyFrom (g0 : Nat) (g1 : Nat) (D : mz_D) : Option mz_D := (Option.bind (fX11_copyRow_118_118 g1 g0 (mz_wi (mz_wi D g0 117 0 (D.1 g1 117 0)) g0 117 1 ((mz_wi D g0 117 0 (D.1 g1 117 0)).1 g1 117 1))) fun q1 => (some q1))
set_option maxHeartbeats 4000000 in
theorem mX0_copyFrom (g0 : Nat) (g1 : Nat) (D : mz_D) (hg0 : mz_tb g0 = true) (hg1 : mz_tb g1 = true) (r : mz_D) (h : fX0_copyFrom g0 g1 D = some r) : mz_Met IX0_copyFrom [.inr (.inr (some (g0, 117))), .inr (.inr (some (g1, 117)))] D (none, r) := by
  refine mz_Met.of (by decide +kernel) (Nat.le_of_ble_eq_true rfl) ?_
  show mz_Go IX0_copyFrom (none, r) 0 0 (0, [some (.inr (.inr (some (g0, 117)))), some (.inr (.inr (some (g1, 117))))], [], D)
  rw [fX0_copyFrom] at h
  refine mz_Go.run (gs := [mz_kz 0 g1 117, mz_kz 0 g0 117, mz_kz 0 g1 117, mz_kz 0 g0 117, mz_kz 0 g1 117, mz_kz 0 g0 117]) (st' := (24, [some (.inr (.inr (some (g0, 117)))), some (.inr (.inr (some (g1, 117))))], [.inr (.inr (some (g0, 118))), .inr (.inr (some (g1, 118)))], (mz_wi (mz_wi D g0 117 0 (D.1 g1 117 0)) g0 117 1 ((mz_wi D g0 117 0 (D.1 g1 117 0)).1 g1 117 1)))) bX0_copyFrom_0 oX0_copyFrom_0 rfl ⟨hg1, hg0, hg1, hg0, hg1, hg0, trivial⟩ ?_
  obtain ⟨q1, hq1, h⟩ := mz_bd_some h
  refine mz_Go.callSN (I := IX0_copyFrom) (J := IX11_copyRow_118_118) (as := [.inr (.inr (some (g1, 118))), .inr (.inr (some (g0, 118)))]) (idx := 28) (pl := 908) (rest := []) (mX11_copyRow_118_118 g1 g0 (mz_wi (mz_wi D g0 117 0 (D.1 g1 117 0)) g0 117 1 ((mz_wi D g0 117 0 (D.1 g1 117 0)).1 g1 117 1)) hg1 hg0 q1 hq1) kX11_copyRow_118_118 vX11_copyRow_118_118 (by decide +kernel) (by decide +kernel) (by decide +kernel) rfl rfl ⟨rfl, rfl⟩ rfl ?_
  cases h
  exact mz_Go.retv (by decide +kernel) rfl ⟨Nat.le_refl _, Nat.le_refl _⟩ rfl
def bX11_isIn_0 : List mz_E := [(0, .iload_n 0, 0, 0, 0, 0, 0), (1, .iload_n 1, 0, 0, 0, 0, 0), (2, .ishr, 0, 0, 0, 0, 0), (3, .iconst 1, 0, 0, 0, 1, 0), (4, .iand, 0, 0, 0, 0, 0), (5, .iconst 1, 0, 0, 0, 1, 0), (6, .if_icmp .ne 7, 0, 13, 0, 0, 0)]
theorem oX11_isIn_0 : bX11_isIn_0.all (mz_ok RX11 cX11_isIn 2) = true := by decide +kernel
def bX11_isIn_9 : List mz_E := [(9, .iconst 1, 0, 0, 0, 1, 0), (10, .goto 4, 0, 14, 0, 0, 0)]
theorem oX11_isIn_9 : bX11_isIn_9.all (mz_ok RX11 cX11_isIn 2) = true := by decide +kernel
def bX11_isIn_13 : List mz_E := [(13, .iconst 0, 0, 0, 0, 0, 0)]
theorem oX11_isIn_13 : bX11_isIn_13.all (mz_ok RX11 cX11_isIn 2) = true := by decide +kernel
abbrev IX11_isIn : mz_I := (yX11_isIn, cX11_isIn, 2, (some .boolean), 9, 0, 0, 0)
theorem kX11_isIn : mz_okm IX11_isIn 1071 126 1070 2 = true := by decide +kernel
theorem vX11_isIn : mz_okS IX11_isIn 1070 = true := by decide +kernel
def fX11_isIn (x0 : Int32) (x1 : Int32) : Int32 := (if ((x0 >>> (x1 &&& 31)) &&& (1 : Int32)) = (1 : Int32) then (1 : Int32) else (0 : Int32))
set_option maxHeartbeats 4000000 in
theorem mX11_isIn (x0 : Int32) (x1 : Int32) (D : mz_D) (r : Int32) (h : fX11_isIn x0 x1 = r) : mz_Met IX11_isIn [.inl x0, .inl x1] D (some (.inl r), D) := by
  refine mz_Met.of (by decide +kernel) (Nat.le_of_ble_eq_true rfl) ?_
  show mz_Go IX11_isIn (some (.inl r), D) 0 0 (0, [some (.inl x0), some (.inl x1)], [], D)
  rw [fX11_isIn] at h
  refine mz_Go.run (gs := []) (st' := (if ((x0 >>> (x1 &&& 31)) &&& (1 : Int32)) = (1 : Int32) then (9, [some (.inl x0), some (.inl x1)], [], D) else (13, [some (.inl x0), some (.inl x1)], [], D))) bX11_isIn_0 oX11_isIn_0 rfl trivial ?_
  refine mz_Go.ite (fun hc1 => ?_) (fun hc1 => ?_)
  · have h := mz_ifp hc1 h
    refine mz_Go.run (gs := []) (st' := (14, [some (.inl x0), some (.inl x1)], [.inl (1 : Int32)], D)) bX11_isIn_9 oX11_isIn_9 rfl trivial ?_
    subst h
    exact mz_Go.retz (by decide +kernel) rfl ⟨Nat.le_refl _, Nat.le_refl _⟩ (by decide) rfl
  · have h := mz_ifn hc1 h
    refine mz_Go.run (gs := []) (st' := (14, [some (.inl x0), some (.inl x1)], [.inl (0 : Int32)], D)) bX11_isIn_13 oX11_isIn_13 rfl trivial ?_
    subst h
    exact mz_Go.retz (by decide +kernel) rfl ⟨Nat.le_refl _, Nat.le_refl _⟩ (by decide) rfl
def bX0_buyer_0 : List mz_E := [(0, .iconst (-1), 0, 0, 0, -1, 0), (1, .istore_n 1, 0, 0, 0, 0, 0), (2, .iconst 0, 0, 0, 0, 0, 0), (3, .istore_n 2, 0, 0, 0, 0, 0)]
theorem oX0_buyer_0 : bX0_buyer_0.all (mz_ok RX0 cX0_buyer 3) = true := by decide +kernel
def bX0_buyer_4 : List mz_E := [(4, .iload_n 2, 0, 0, 0, 0, 0), (5, .bipush 6, 0, 0, 0, 6, 0), (7, .if_icmp .ge 42, 0, 49, 0, 0, 0)]
theorem oX0_buyer_4 : bX0_buyer_4.all (mz_ok RX0 cX0_buyer 3) = true := by decide +kernel
def bX0_buyer_49 : List mz_E := [(49, .iload_n 1, 0, 0, 0, 0, 0)]
theorem oX0_buyer_49 : bX0_buyer_49.all (mz_ok RX0 cX0_buyer 3) = true := by decide +kernel
def bX0_buyer_10 : List mz_E := [(10, .aload_n 0, 0, 0, 0, 0, 0), (11, .getfield 15, 0, 0, 407, 0, 0), (14, .iload_n 2, 0, 0, 0, 0, 0)]
theorem oX0_buyer_10 : bX0_buyer_10.all (mz_ok RX0 cX0_buyer 3) = true := by decide +kernel
def bX0_buyer_18 : List mz_E := [(18, .ifCond .eq 25, 0, 43, 0, 0, 0)]
theorem oX0_buyer_18 : bX0_buyer_18.all (mz_ok RX0 cX0_buyer 3) = true := by decide +kernel
def bX0_buyer_43 : List mz_E := [(43, .iinc 2 1, 0, 0, 0, 1, 0), (46, .goto (-42), 0, 4, 0, 0, 0)]
theorem oX0_buyer_43 : bX0_buyer_43.all (mz_ok RX0 cX0_buyer 3) = true := by decide +kernel
def bX0_buyer_21 : List mz_E := [(21, .iload_n 1, 0, 0, 0, 0, 0), (22, .iconst (-1), 0, 0, 0, -1, 0), (23, .if_icmp .eq 18, 0, 41, 0, 0, 0)]
theorem oX0_buyer_21 : bX0_buyer_21.all (mz_ok RX0 cX0_buyer 3) = true := by decide +kernel
def bX0_buyer_41 : List mz_E := [(41, .iload_n 2, 0, 0, 0, 0, 0), (42, .istore_n 1, 0, 0, 0, 0, 0), (43, .iinc 2 1, 0, 0, 0, 1, 0), (46, .goto (-42), 0, 4, 0, 0, 0)]
theorem oX0_buyer_41 : bX0_buyer_41.all (mz_ok RX0 cX0_buyer 3) = true := by decide +kernel
def bX0_buyer_26 : List mz_E := [(26, .aload_n 0, 0, 0, 0, 0, 0), (27, .getfield 9, 0, 2, 412, 0, 0), (30, .iload_n 2, 0, 0, 0, 0, 0), (31, .iaload, 0, 0, 0, 0, 0), (32, .aload_n 0, 0, 0, 0, 0, 0), (33, .getfield 9, 0, 2, 412, 0, 0), (36, .iload_n 1, 0, 0, 0, 0, 0), (37, .iaload, 0, 0, 0, 0, 0), (38, .if_icmp .le 5, 0, 43, 0, 0, 0)]
theorem oX0_buyer_26 : bX0_buyer_26.all (mz_ok RX0 cX0_buyer 3) = true := by decide +kernel
abbrev IX0_buyer : mz_I := (yX0_buyer, cX0_buyer, 3, (some .int), 0, 1, 0, 0)
theorem kX0_buyer : mz_okm IX0_buyer 1404 138 1402 0 = true := by decide +kernel
theorem vX0_buyer : mz_okV IX0_buyer 1402 1403 = true := by decide +kernel
def fX0_buyer_41 (g0 : Nat) (D : mz_D) (k4 : Int32 → Int32 → Option Int32) (x2 : Int32) : Option Int32 := (k4 x2 (x2 + (1 : Int32)))
set_option maxHeartbeats 4000000 in
theorem tX0_buyer_41 (g0 : Nat) (D : mz_D) (hg0 : mz_tb g0 = true) (r : Int32) (k4 : Int32 → Int32 → Option Int32) (hk4 : ∀ (x1 : Int32) (x2 : Int32), k4 x1 x2 = some r → mz_Go IX0_buyer (some (.inl r), D) 0 0 (4, [some (.inr (.inr (some (g0, 117)))), some (.inl x1), some (.inl x2)], [], D)) : ∀ (x2 : Int32), fX0_buyer_41 g0 D k4 x2 = some r → mz_Go IX0_buyer (some (.inl r), D) 0 0 (41, [some (.inr (.inr (some (g0, 117)))), none, some (.inl x2)], [], D) := by
  intro x2 h
  rw [fX0_buyer_41] at h
  refine mz_Go.run (gs := []) (st' := (4, [some (.inr (.inr (some (g0, 117)))), some (.inl x2), some (.inl (x2 + (1 : Int32)))], [], D)) bX0_buyer_41 oX0_buyer_41 rfl trivial ?_
  exact mz_Go.drop [true, true, true] (hk4 x2 (x2 + (1 : Int32)) h)
def fX0_buyer_4 (g0 : Nat) (D : mz_D) : Nat → Int32 → Int32 → Option Int32
  | 0 => fun _ _ => none
  | n + 1 => fun x1 x2 => (if (6 : Int32) ≤ x2 then (some x1) else (if (fX11_isIn (D.1 g0 117 0) x2) = 0 then ((fX0_buyer_4 g0 D n) x1 (x2 + (1 : Int32))) else (if x1 = (-1 : Int32) then (fX0_buyer_41 g0 D (fX0_buyer_4 g0 D n) x2) else (mz_gd (mz_ix x2 6) (mz_gd (mz_ix x1 6) (if (D.1 g0 118 (x2).toNatClampNeg) ≤ (D.1 g0 118 (x1).toNatClampNeg) then ((fX0_buyer_4 g0 D n) x1 (x2 + (1 : Int32))) else (fX0_buyer_41 g0 D (fX0_buyer_4 g0 D n) x2)))))))
set_option maxHeartbeats 4000000 in
theorem tX0_buyer_4 (g0 : Nat) (D : mz_D) (hg0 : mz_tb g0 = true) (r : Int32) : ∀ (n : Nat) (x1 : Int32) (x2 : Int32), fX0_buyer_4 g0 D n x1 x2 = some r → mz_Go IX0_buyer (some (.inl r), D) 0 0 (4, [some (.inr (.inr (some (g0, 117)))), some (.inl x1), some (.inl x2)], [], D) := by
  intro n
  induction n with
  | zero => intro x1 x2 h; have h : (none : Option Int32) = some r := h; cases h
  | succ n ih =>
    intro x1 x2 h
    rw [fX0_buyer_4] at h
    refine mz_Go.run (gs := []) (st' := (if (6 : Int32) ≤ x2 then (49, [some (.inr (.inr (some (g0, 117)))), some (.inl x1), some (.inl x2)], [], D) else (10, [some (.inr (.inr (some (g0, 117)))), some (.inl x1), some (.inl x2)], [], D))) bX0_buyer_4 oX0_buyer_4 rfl trivial ?_
    refine mz_Go.ite (fun hc1 => ?_) (fun hc1 => ?_)
    · have h := mz_ifp hc1 h
      refine mz_Go.run (gs := []) (st' := (50, [some (.inr (.inr (some (g0, 117)))), some (.inl x1), some (.inl x2)], [.inl x1], D)) bX0_buyer_49 oX0_buyer_49 rfl trivial ?_
      cases h
      exact mz_Go.reti (by decide +kernel) rfl ⟨Nat.le_refl _, Nat.le_refl _⟩ rfl
    · have h := mz_ifn hc1 h
      refine mz_Go.run (gs := [mz_kz 0 g0 117]) (st' := (15, [some (.inr (.inr (some (g0, 117)))), some (.inl x1), some (.inl x2)], [.inl x2, .inl (D.1 g0 117 0)], D)) bX0_buyer_10 oX0_buyer_10 rfl ⟨hg0, trivial⟩ ?_
      refine mz_Go.callSN (I := IX0_buyer) (J := IX11_isIn) (as := [.inl (D.1 g0 117 0), .inl x2]) (idx := 32) (pl := 1405) (rest := []) (mX11_isIn (D.1 g0 117 0) x2 D _ rfl) kX11_isIn vX11_isIn (by decide +kernel) (by decide +kernel) (by decide +kernel) rfl rfl ⟨rfl, rfl⟩ rfl ?_
      refine mz_Go.run (gs := []) (st' := (if (fX11_isIn (D.1 g0 117 0) x2) = 0 then (43, [some (.inr (.inr (some (g0, 117)))), some (.inl x1), some (.inl x2)], [], D) else (21, [some (.inr (.inr (some (g0, 117)))), some (.inl x1), some (.inl x2)], [], D))) bX0_buyer_18 oX0_buyer_18 rfl trivial ?_
      refine mz_Go.ite (fun hc2 => ?_) (fun hc2 => ?_)
      · have h := mz_ifp hc2 h
        refine mz_Go.run (gs := []) (st' := (4, [some (.inr (.inr (some (g0, 117)))), some (.inl x1), some (.inl (x2 + (1 : Int32)))], [], D)) bX0_buyer_43 oX0_buyer_43 rfl trivial ?_
        exact mz_Go.drop [true, true, true] (ih x1 (x2 + (1 : Int32)) h)
      · have h := mz_ifn hc2 h
        refine mz_Go.run (gs := []) (st' := (if x1 = (-1 : Int32) then (41, [some (.inr (.inr (some (g0, 117)))), some (.inl x1), some (.inl x2)], [], D) else (26, [some (.inr (.inr (some (g0, 117)))), some (.inl x1), some (.inl x2)], [], D))) bX0_buyer_21 oX0_buyer_21 rfl trivial ?_
        refine mz_Go.ite (fun hc3 => ?_) (fun hc3 => ?_)
        · have h := mz_ifp hc3 h
          exact mz_Go.drop [true, false, true] (tX0_buyer_41 g0 D hg0 r (fX0_buyer_4 g0 D n) ih x2 h)
        · have h := mz_ifn hc3 h
          obtain ⟨hb4, h⟩ := mz_gd_some h
          obtain ⟨hb5, h⟩ := mz_gd_some h
          refine mz_Go.run (gs := [mz_kz 0 g0 117, mz_kz 0 g0 118, mz_ix x2 6, mz_kz 0 g0 117, mz_kz 0 g0 118, mz_ix x1 6]) (st' := (if (D.1 g0 118 (x2).toNatClampNeg) ≤ (D.1 g0 118 (x1).toNatClampNeg) then (43, [some (.inr (.inr (some (g0, 117)))), some (.inl x1), some (.inl x2)], [], D) else (41, [some (.inr (.inr (some (g0, 117)))), some (.inl x1), some (.inl x2)], [], D))) bX0_buyer_26 oX0_buyer_26 rfl ⟨hg0, hg0, hb4, hg0, hg0, hb5, trivial⟩ ?_
          refine mz_Go.ite (fun hc6 => ?_) (fun hc6 => ?_)
          · have h := mz_ifp hc6 h
            refine mz_Go.run (gs := []) (st' := (4, [some (.inr (.inr (some (g0, 117)))), some (.inl x1), some (.inl (x2 + (1 : Int32)))], [], D)) bX0_buyer_43 oX0_buyer_43 rfl trivial ?_
            exact mz_Go.drop [true, true, true] (ih x1 (x2 + (1 : Int32)) h)
          · have h := mz_ifn hc6 h
            exact mz_Go.drop [true, false, true] (tX0_buyer_41 g0 D hg0 r (fX0_buyer_4 g0 D n) ih x2 h)
def fX0_buyer (g0 : Nat) (D : mz_D) : Option Int32 := (fX0_buyer_4 g0 D mz_N (-1 : Int32) (0 : Int32))
set_option maxHeartbeats 4000000 in
theorem mX0_buyer (g0 : Nat) (D : mz_D) (hg0 : mz_tb g0 = true) (r : Int32) (h : fX0_buyer g0 D = some r) : mz_Met IX0_buyer [.inr (.inr (some (g0, 117)))] D (some (.inl r), D) := by
  refine mz_Met.of (by decide +kernel) (Nat.le_of_ble_eq_true rfl) ?_
  show mz_Go IX0_buyer (some (.inl r), D) 0 0 (0, [some (.inr (.inr (some (g0, 117)))), none, none], [], D)
  rw [fX0_buyer] at h
  refine mz_Go.run (gs := []) (st' := (4, [some (.inr (.inr (some (g0, 117)))), some (.inl (-1 : Int32)), some (.inl (0 : Int32))], [], D)) bX0_buyer_0 oX0_buyer_0 rfl trivial ?_
  exact mz_Go.drop [true, true, true] (tX0_buyer_4 g0 D hg0 r mz_N (-1 : Int32) (0 : Int32) h)
def bX0_serve_0 : List mz_E := [(0, .aload_n 0, 0, 0, 0, 0, 0)]
theorem oX0_serve_0 : bX0_serve_0.all (mz_ok RX0 cX0_serve 3) = true := by decide +kernel
def bX0_serve_4 : List mz_E := [(4, .istore_n 1, 0, 0, 0, 0, 0), (5, .iload_n 1, 0, 0, 0, 0, 0), (6, .iconst (-1), 0, 0, 0, -1, 0), (7, .if_icmp .ne 5, 0, 12, 0, 0, 0)]
theorem oX0_serve_4 : bX0_serve_4.all (mz_ok RX0 cX0_serve 3) = true := by decide +kernel
def bX0_serve_10 : List mz_E := [(10, .iconst (-1), 0, 0, 0, -1, 0)]
theorem oX0_serve_10 : bX0_serve_10.all (mz_ok RX0 cX0_serve 3) = true := by decide +kernel
def bX0_serve_12 : List mz_E := [(12, .iconst 0, 0, 0, 0, 0, 0), (13, .istore_n 2, 0, 0, 0, 0, 0)]
theorem oX0_serve_12 : bX0_serve_12.all (mz_ok RX0 cX0_serve 3) = true := by decide +kernel
def bX0_serve_14 : List mz_E := [(14, .iload_n 2, 0, 0, 0, 0, 0), (15, .bipush 6, 0, 0, 0, 6, 0), (17, .if_icmp .ge 40, 0, 57, 0, 0, 0)]
theorem oX0_serve_14 : bX0_serve_14.all (mz_ok RX0 cX0_serve 3) = true := by decide +kernel
def bX0_serve_57 : List mz_E := [(57, .aload_n 0, 0, 0, 0, 0, 0), (58, .dup, 0, 0, 0, 0, 0), (59, .getfield 19, 0, 1, 410, 0, 0), (62, .iconst 1, 0, 0, 0, 1, 0), (63, .iadd, 0, 0, 0, 0, 0), (64, .putfield 19, 0, 1, 410, 0, 0), (67, .iload_n 1, 0, 0, 0, 0, 0)]
theorem oX0_serve_57 : bX0_serve_57.all (mz_ok RX0 cX0_serve 3) = true := by decide +kernel
def bX0_serve_20 : List mz_E := [(20, .aload_n 0, 0, 0, 0, 0, 0), (21, .getfield 15, 0, 0, 407, 0, 0), (24, .iload_n 2, 0, 0, 0, 0, 0)]
theorem oX0_serve_20 : bX0_serve_20.all (mz_ok RX0 cX0_serve 3) = true := by decide +kernel
def bX0_serve_28 : List mz_E := [(28, .ifCond .eq 23, 0, 51, 0, 0, 0)]
theorem oX0_serve_28 : bX0_serve_28.all (mz_ok RX0 cX0_serve 3) = true := by decide +kernel
def bX0_serve_51 : List mz_E := [(51, .iinc 2 1, 0, 0, 0, 1, 0), (54, .goto (-40), 0, 14, 0, 0, 0)]
theorem oX0_serve_51 : bX0_serve_51.all (mz_ok RX0 cX0_serve 3) = true := by decide +kernel
def bX0_serve_31 : List mz_E := [(31, .aload_n 0, 0, 0, 0, 0, 0), (32, .getfield 9, 0, 2, 412, 0, 0), (35, .iload_n 2, 0, 0, 0, 0, 0), (36, .dup2, 0, 0, 0, 0, 0), (37, .iaload, 0, 0, 0, 0, 0), (38, .iconst 1, 0, 0, 0, 1, 0), (39, .iadd, 0, 0, 0, 0, 0), (40, .iastore, 0, 0, 0, 0, 0), (41, .aload_n 0, 0, 0, 0, 0, 0), (42, .getfield 9, 0, 2, 412, 0, 0), (45, .iload_n 1, 0, 0, 0, 0, 0), (46, .dup2, 0, 0, 0, 0, 0), (47, .iaload, 0, 0, 0, 0, 0), (48, .iconst 1, 0, 0, 0, 1, 0), (49, .isub, 0, 0, 0, 0, 0), (50, .iastore, 0, 0, 0, 0, 0), (51, .iinc 2 1, 0, 0, 0, 1, 0), (54, .goto (-40), 0, 14, 0, 0, 0)]
theorem oX0_serve_31 : bX0_serve_31.all (mz_ok RX0 cX0_serve 3) = true := by decide +kernel
abbrev IX0_serve : mz_I := (yX0_serve, cX0_serve, 3, (some .int), 0, 2, 0, 0)
theorem kX0_serve : mz_okm IX0_serve 1413 138 1411 0 = true := by decide +kernel
theorem vX0_serve : mz_okV IX0_serve 1411 1412 = true := by decide +kernel
def fX0_serve_14 (g0 : Nat) : Nat → Int32 → Int32 → mz_D → Option (Int32 × mz_D)
  | 0 => fun _ _ _ => none
  | n + 1 => fun x1 x2 D => (if (6 : Int32) ≤ x2 then (some (x1, (mz_wi D g0 117 1 ((D.1 g0 117 1) + (1 : Int32))))) else (if (fX11_isIn (D.1 g0 117 0) x2) = 0 then ((fX0_serve_14 g0 n) x1 (x2 + (1 : Int32)) D) else (mz_gd (mz_ix x2 6) (mz_gd (mz_ix x1 6) ((fX0_serve_14 g0 n) x1 (x2 + (1 : Int32)) (mz_wi (mz_wi D g0 118 (x2).toNatClampNeg ((D.1 g0 118 (x2).toNatClampNeg) + (1 : Int32))) g0 118 (x1).toNatClampNeg (((mz_wi D g0 118 (x2).toNatClampNeg ((D.1 g0 118 (x2).toNatClampNeg) + (1 : Int32))).1 g0 118 (x1).toNatClampNeg) - (1 : Int32))))))))
set_option maxHeartbeats 4000000 in
theorem tX0_serve_14 (g0 : Nat) (hg0 : mz_tb g0 = true) (r : (Int32 × mz_D)) : ∀ (n : Nat) (x1 : Int32) (x2 : Int32) (D : mz_D), fX0_serve_14 g0 n x1 x2 D = some r → mz_Go IX0_serve (some (.inl r.1), r.2) 0 0 (14, [some (.inr (.inr (some (g0, 117)))), some (.inl x1), some (.inl x2)], [], D) := by
  intro n
  induction n with
  | zero => intro x1 x2 D h; have h : (none : Option (Int32 × mz_D)) = some r := h; cases h
  | succ n ih =>
    intro x1 x2 D h
    rw [fX0_serve_14] at h
    refine mz_Go.run (gs := []) (st' := (if (6 : Int32) ≤ x2 then (57, [some (.inr (.inr (some (g0, 117)))), some (.inl x1), some (.inl x2)], [], D) else (20, [some (.inr (.inr (some (g0, 117)))), some (.inl x1), some (.inl x2)], [], D))) bX0_serve_14 oX0_serve_14 rfl trivial ?_
    refine mz_Go.ite (fun hc1 => ?_) (fun hc1 => ?_)
    · have h := mz_ifp hc1 h
      refine mz_Go.run (gs := [mz_kz 0 g0 117, mz_kz 0 g0 117]) (st' := (68, [some (.inr (.inr (some (g0, 117)))), some (.inl x1), some (.inl x2)], [.inl x1], (mz_wi D g0 117 1 ((D.1 g0 117 1) + (1 : Int32))))) bX0_serve_57 oX0_serve_57 rfl ⟨hg0, hg0, trivial⟩ ?_
      cases h
      exact mz_Go.reti (by decide +kernel) rfl ⟨Nat.le_refl _, Nat.le_refl _⟩ rfl
    · have h := mz_ifn hc1 h
      refine mz_Go.run (gs := [mz_kz 0 g0 117]) (st' := (25, [some (.inr (.inr (some (g0, 117)))), some (.inl x1), some (.inl x2)], [.inl x2, .inl (D.1 g0 117 0)], D)) bX0_serve_20 oX0_serve_20 rfl ⟨hg0, trivial⟩ ?_
      refine mz_Go.callSN (I := IX0_serve) (J := IX11_isIn) (as := [.inl (D.1 g0 117 0), .inl x2]) (idx := 32) (pl := 1405) (rest := []) (mX11_isIn (D.1 g0 117 0) x2 D _ rfl) kX11_isIn vX11_isIn (by decide +kernel) (by decide +kernel) (by decide +kernel) rfl rfl ⟨rfl, rfl⟩ rfl ?_
      refine mz_Go.run (gs := []) (st' := (if (fX11_isIn (D.1 g0 117 0) x2) = 0 then (51, [some (.inr (.inr (some (g0, 117)))), some (.inl x1), some (.inl x2)], [], D) else (31, [some (.inr (.inr (some (g0, 117)))), some (.inl x1), some (.inl x2)], [], D))) bX0_serve_28 oX0_serve_28 rfl trivial ?_
      refine mz_Go.ite (fun hc2 => ?_) (fun hc2 => ?_)
      · have h := mz_ifp hc2 h
        refine mz_Go.run (gs := []) (st' := (14, [some (.inr (.inr (some (g0, 117)))), some (.inl x1), some (.inl (x2 + (1 : Int32)))], [], D)) bX0_serve_51 oX0_serve_51 rfl trivial ?_
        exact mz_Go.drop [true, true, true] (ih x1 (x2 + (1 : Int32)) D h)
      · have h := mz_ifn hc2 h
        obtain ⟨hb3, h⟩ := mz_gd_some h
        obtain ⟨hb4, h⟩ := mz_gd_some h
        refine mz_Go.run (gs := [mz_kz 0 g0 117, mz_kz 0 g0 118, mz_ix x2 6, mz_kz 0 g0 118, mz_ix x2 6, mz_kz 0 g0 117, mz_kz 0 g0 118, mz_ix x1 6, mz_kz 0 g0 118, mz_ix x1 6]) (st' := (14, [some (.inr (.inr (some (g0, 117)))), some (.inl x1), some (.inl (x2 + (1 : Int32)))], [], (mz_wi (mz_wi D g0 118 (x2).toNatClampNeg ((D.1 g0 118 (x2).toNatClampNeg) + (1 : Int32))) g0 118 (x1).toNatClampNeg (((mz_wi D g0 118 (x2).toNatClampNeg ((D.1 g0 118 (x2).toNatClampNeg) + (1 : Int32))).1 g0 118 (x1).toNatClampNeg) - (1 : Int32))))) bX0_serve_31 oX0_serve_31 rfl ⟨hg0, hg0, hb3, hg0, hb3, hg0, hg0, hb4, hg0, hb4, trivial⟩ ?_
        exact mz_Go.drop [true, true, true] (ih x1 (x2 + (1 : Int32)) (mz_wi (mz_wi D g0 118 (x2).toNatClampNeg ((D.1 g0 118 (x2).toNatClampNeg) + (1 : Int32))) g0 118 (x1).toNatClampNeg (((mz_wi D g0 118 (x2).toNatClampNeg ((D.1 g0 118 (x2).toNatClampNeg) + (1 : Int32))).1 g0 118 (x1).toNatClampNeg) - (1 : Int32))) h)
def fX0_serve (g0 : Nat) (D : mz_D) : Option (Int32 × mz_D) := (Option.bind (fX0_buyer g0 D) fun q1 => (if q1 = (-1 : Int32) then (some ((-1 : Int32), D)) else (fX0_serve_14 g0 mz_N q1 (0 : Int32) D)))
set_option maxHeartbeats 4000000 in
theorem mX0_serve (g0 : Nat) (D : mz_D) (hg0 : mz_tb g0 = true) (r : (Int32 × mz_D)) (h : fX0_serve g0 D = some r) : mz_Met IX0_serve [.inr (.inr (some (g0, 117)))] D (some (.inl r.1), r.2) := by
  refine mz_Met.of (by decide +kernel) (Nat.le_of_ble_eq_true rfl) ?_
  show mz_Go IX0_serve (some (.inl r.1), r.2) 0 0 (0, [some (.inr (.inr (some (g0, 117)))), none, none], [], D)
  rw [fX0_serve] at h
  refine mz_Go.run (gs := []) (st' := (1, [some (.inr (.inr (some (g0, 117)))), none, none], [.inr (.inr (some (g0, 117)))], D)) bX0_serve_0 oX0_serve_0 rfl trivial ?_
  obtain ⟨q1, hq1, h⟩ := mz_bd_some h
  refine mz_Go.callV (I := IX0_serve) (J := IX0_buyer) (as := []) (ci := 0) (g := g0) (o := 117) (idx := 36) (pl := 1414) (rest := []) (mX0_buyer g0 D hg0 q1 hq1) kX0_buyer vX0_buyer (by decide +kernel) (by decide +kernel) (by decide +kernel) rfl rfl ⟨rfl, rfl⟩ rfl rfl hg0 rfl ?_
  refine mz_Go.run (gs := []) (st' := (if q1 = (-1 : Int32) then (10, [some (.inr (.inr (some (g0, 117)))), some (.inl q1), none], [], D) else (12, [some (.inr (.inr (some (g0, 117)))), some (.inl q1), none], [], D))) bX0_serve_4 oX0_serve_4 rfl trivial ?_
  refine mz_Go.ite (fun hc2 => ?_) (fun hc2 => ?_)
  · have h := mz_ifp hc2 h
    refine mz_Go.run (gs := []) (st' := (11, [some (.inr (.inr (some (g0, 117)))), some (.inl q1), none], [.inl (-1 : Int32)], D)) bX0_serve_10 oX0_serve_10 rfl trivial ?_
    cases h
    exact mz_Go.reti (by decide +kernel) rfl ⟨Nat.le_refl _, Nat.le_refl _⟩ rfl
  · have h := mz_ifn hc2 h
    refine mz_Go.run (gs := []) (st' := (14, [some (.inr (.inr (some (g0, 117)))), some (.inl q1), some (.inl (0 : Int32))], [], D)) bX0_serve_12 oX0_serve_12 rfl trivial ?_
    exact mz_Go.drop [true, true, true] (tX0_serve_14 g0 hg0 r mz_N q1 (0 : Int32) D h)
def bX0_isEven_0 : List mz_E := [(0, .aload_n 0, 0, 0, 0, 0, 0)]
theorem oX0_isEven_0 : bX0_isEven_0.all (mz_ok RX0 cX0_isEven 3) = true := by decide +kernel
def bX0_isEven_4 : List mz_E := [(4, .istore_n 1, 0, 0, 0, 0, 0), (5, .iconst 0, 0, 0, 0, 0, 0), (6, .istore_n 2, 0, 0, 0, 0, 0)]
theorem oX0_isEven_4 : bX0_isEven_4.all (mz_ok RX0 cX0_isEven 3) = true := by decide +kernel
def bX0_isEven_7 : List mz_E := [(7, .iload_n 2, 0, 0, 0, 0, 0), (8, .bipush 6, 0, 0, 0, 6, 0), (10, .if_icmp .ge 42, 0, 52, 0, 0, 0)]
theorem oX0_isEven_7 : bX0_isEven_7.all (mz_ok RX0 cX0_isEven 3) = true := by decide +kernel
def bX0_isEven_52 : List mz_E := [(52, .iconst 1, 0, 0, 0, 1, 0)]
theorem oX0_isEven_52 : bX0_isEven_52.all (mz_ok RX0 cX0_isEven 3) = true := by decide +kernel
def bX0_isEven_13 : List mz_E := [(13, .iload_n 1, 0, 0, 0, 0, 0), (14, .iconst (-1), 0, 0, 0, -1, 0), (15, .if_icmp .eq 37, 0, 52, 0, 0, 0)]
theorem oX0_isEven_13 : bX0_isEven_13.all (mz_ok RX0 cX0_isEven 3) = true := by decide +kernel
def bX0_isEven_18 : List mz_E := [(18, .aload_n 0, 0, 0, 0, 0, 0), (19, .getfield 15, 0, 0, 407, 0, 0), (22, .iload_n 2, 0, 0, 0, 0, 0)]
theorem oX0_isEven_18 : bX0_isEven_18.all (mz_ok RX0 cX0_isEven 3) = true := by decide +kernel
def bX0_isEven_26 : List mz_E := [(26, .ifCond .eq 20, 0, 46, 0, 0, 0)]
theorem oX0_isEven_26 : bX0_isEven_26.all (mz_ok RX0 cX0_isEven 3) = true := by decide +kernel
def bX0_isEven_46 : List mz_E := [(46, .iinc 2 1, 0, 0, 0, 1, 0), (49, .goto (-42), 0, 7, 0, 0, 0)]
theorem oX0_isEven_46 : bX0_isEven_46.all (mz_ok RX0 cX0_isEven 3) = true := by decide +kernel
def bX0_isEven_29 : List mz_E := [(29, .aload_n 0, 0, 0, 0, 0, 0), (30, .getfield 9, 0, 2, 412, 0, 0), (33, .iload_n 2, 0, 0, 0, 0, 0), (34, .iaload, 0, 0, 0, 0, 0), (35, .aload_n 0, 0, 0, 0, 0, 0), (36, .getfield 9, 0, 2, 412, 0, 0), (39, .iload_n 1, 0, 0, 0, 0, 0), (40, .iaload, 0, 0, 0, 0, 0), (41, .if_icmp .eq 5, 0, 46, 0, 0, 0)]
theorem oX0_isEven_29 : bX0_isEven_29.all (mz_ok RX0 cX0_isEven 3) = true := by decide +kernel
def bX0_isEven_44 : List mz_E := [(44, .iconst 0, 0, 0, 0, 0, 0)]
theorem oX0_isEven_44 : bX0_isEven_44.all (mz_ok RX0 cX0_isEven 3) = true := by decide +kernel
abbrev IX0_isEven : mz_I := (yX0_isEven, cX0_isEven, 3, (some .boolean), 0, 2, 0, 0)
theorem kX0_isEven : mz_okm IX0_isEven 1427 138 1425 0 = true := by decide +kernel
theorem vX0_isEven : mz_okV IX0_isEven 1425 1426 = true := by decide +kernel
def fX0_isEven_7 (g0 : Nat) (D : mz_D) : Nat → Int32 → Int32 → Option Int32
  | 0 => fun _ _ => none
  | n + 1 => fun x1 x2 => (if (6 : Int32) ≤ x2 then (some (1 : Int32)) else (if x1 = (-1 : Int32) then (some (1 : Int32)) else (if (fX11_isIn (D.1 g0 117 0) x2) = 0 then ((fX0_isEven_7 g0 D n) x1 (x2 + (1 : Int32))) else (mz_gd (mz_ix x2 6) (mz_gd (mz_ix x1 6) (if (D.1 g0 118 (x2).toNatClampNeg) = (D.1 g0 118 (x1).toNatClampNeg) then ((fX0_isEven_7 g0 D n) x1 (x2 + (1 : Int32))) else (some (0 : Int32))))))))
set_option maxHeartbeats 4000000 in
theorem tX0_isEven_7 (g0 : Nat) (D : mz_D) (hg0 : mz_tb g0 = true) (r : Int32) : ∀ (n : Nat) (x1 : Int32) (x2 : Int32), fX0_isEven_7 g0 D n x1 x2 = some r → mz_Go IX0_isEven (some (.inl r), D) 0 0 (7, [some (.inr (.inr (some (g0, 117)))), some (.inl x1), some (.inl x2)], [], D) := by
  intro n
  induction n with
  | zero => intro x1 x2 h; have h : (none : Option Int32) = some r := h; cases h
  | succ n ih =>
    intro x1 x2 h
    rw [fX0_isEven_7] at h
    refine mz_Go.run (gs := []) (st' := (if (6 : Int32) ≤ x2 then (52, [some (.inr (.inr (some (g0, 117)))), some (.inl x1), some (.inl x2)], [], D) else (13, [some (.inr (.inr (some (g0, 117)))), some (.inl x1), some (.inl x2)], [], D))) bX0_isEven_7 oX0_isEven_7 rfl trivial ?_
    refine mz_Go.ite (fun hc1 => ?_) (fun hc1 => ?_)
    · have h := mz_ifp hc1 h
      refine mz_Go.run (gs := []) (st' := (53, [some (.inr (.inr (some (g0, 117)))), some (.inl x1), some (.inl x2)], [.inl (1 : Int32)], D)) bX0_isEven_52 oX0_isEven_52 rfl trivial ?_
      cases h
      exact mz_Go.retz (by decide +kernel) rfl ⟨Nat.le_refl _, Nat.le_refl _⟩ (by decide) rfl
    · have h := mz_ifn hc1 h
      refine mz_Go.run (gs := []) (st' := (if x1 = (-1 : Int32) then (52, [some (.inr (.inr (some (g0, 117)))), some (.inl x1), some (.inl x2)], [], D) else (18, [some (.inr (.inr (some (g0, 117)))), some (.inl x1), some (.inl x2)], [], D))) bX0_isEven_13 oX0_isEven_13 rfl trivial ?_
      refine mz_Go.ite (fun hc2 => ?_) (fun hc2 => ?_)
      · have h := mz_ifp hc2 h
        refine mz_Go.run (gs := []) (st' := (53, [some (.inr (.inr (some (g0, 117)))), some (.inl x1), some (.inl x2)], [.inl (1 : Int32)], D)) bX0_isEven_52 oX0_isEven_52 rfl trivial ?_
        cases h
        exact mz_Go.retz (by decide +kernel) rfl ⟨Nat.le_refl _, Nat.le_refl _⟩ (by decide) rfl
      · have h := mz_ifn hc2 h
        refine mz_Go.run (gs := [mz_kz 0 g0 117]) (st' := (23, [some (.inr (.inr (some (g0, 117)))), some (.inl x1), some (.inl x2)], [.inl x2, .inl (D.1 g0 117 0)], D)) bX0_isEven_18 oX0_isEven_18 rfl ⟨hg0, trivial⟩ ?_
        refine mz_Go.callSN (I := IX0_isEven) (J := IX11_isIn) (as := [.inl (D.1 g0 117 0), .inl x2]) (idx := 32) (pl := 1405) (rest := []) (mX11_isIn (D.1 g0 117 0) x2 D _ rfl) kX11_isIn vX11_isIn (by decide +kernel) (by decide +kernel) (by decide +kernel) rfl rfl ⟨rfl, rfl⟩ rfl ?_
        refine mz_Go.run (gs := []) (st' := (if (fX11_isIn (D.1 g0 117 0) x2) = 0 then (46, [some (.inr (.inr (some (g0, 117)))), some (.inl x1), some (.inl x2)], [], D) else (29, [some (.inr (.inr (some (g0, 117)))), some (.inl x1), some (.inl x2)], [], D))) bX0_isEven_26 oX0_isEven_26 rfl trivial ?_
        refine mz_Go.ite (fun hc3 => ?_) (fun hc3 => ?_)
        · have h := mz_ifp hc3 h
          refine mz_Go.run (gs := []) (st' := (7, [some (.inr (.inr (some (g0, 117)))), some (.inl x1), some (.inl (x2 + (1 : Int32)))], [], D)) bX0_isEven_46 oX0_isEven_46 rfl trivial ?_
          exact mz_Go.drop [true, true, true] (ih x1 (x2 + (1 : Int32)) h)
        · have h := mz_ifn hc3 h
          obtain ⟨hb4, h⟩ := mz_gd_some h
          obtain ⟨hb5, h⟩ := mz_gd_some h
          refine mz_Go.run (gs := [mz_kz 0 g0 117, mz_kz 0 g0 118, mz_ix x2 6, mz_kz 0 g0 117, mz_kz 0 g0 118, mz_ix x1 6]) (st' := (if (D.1 g0 118 (x2).toNatClampNeg) = (D.1 g0 118 (x1).toNatClampNeg) then (46, [some (.inr (.inr (some (g0, 117)))), some (.inl x1), some (.inl x2)], [], D) else (44, [some (.inr (.inr (some (g0, 117)))), some (.inl x1), some (.inl x2)], [], D))) bX0_isEven_29 oX0_isEven_29 rfl ⟨hg0, hg0, hb4, hg0, hg0, hb5, trivial⟩ ?_
          refine mz_Go.ite (fun hc6 => ?_) (fun hc6 => ?_)
          · have h := mz_ifp hc6 h
            refine mz_Go.run (gs := []) (st' := (7, [some (.inr (.inr (some (g0, 117)))), some (.inl x1), some (.inl (x2 + (1 : Int32)))], [], D)) bX0_isEven_46 oX0_isEven_46 rfl trivial ?_
            exact mz_Go.drop [true, true, true] (ih x1 (x2 + (1 : Int32)) h)
          · have h := mz_ifn hc6 h
            refine mz_Go.run (gs := []) (st' := (45, [some (.inr (.inr (some (g0, 117)))), some (.inl x1), some (.inl x2)], [.inl (0 : Int32)], D)) bX0_isEven_44 oX0_isEven_44 rfl trivial ?_
            cases h
            exact mz_Go.retz (by decide +kernel) rfl ⟨Nat.le_refl _, Nat.le_refl _⟩ (by decide) rfl
def fX0_isEven (g0 : Nat) (D : mz_D) : Option Int32 := (Option.bind (fX0_buyer g0 D) fun q1 => (fX0_isEven_7 g0 D mz_N q1 (0 : Int32)))
set_option maxHeartbeats 4000000 in
theorem mX0_isEven (g0 : Nat) (D : mz_D) (hg0 : mz_tb g0 = true) (r : Int32) (h : fX0_isEven g0 D = some r) : mz_Met IX0_isEven [.inr (.inr (some (g0, 117)))] D (some (.inl r), D) := by
  refine mz_Met.of (by decide +kernel) (Nat.le_of_ble_eq_true rfl) ?_
  show mz_Go IX0_isEven (some (.inl r), D) 0 0 (0, [some (.inr (.inr (some (g0, 117)))), none, none], [], D)
  rw [fX0_isEven] at h
  refine mz_Go.run (gs := []) (st' := (1, [some (.inr (.inr (some (g0, 117)))), none, none], [.inr (.inr (some (g0, 117)))], D)) bX0_isEven_0 oX0_isEven_0 rfl trivial ?_
  obtain ⟨q1, hq1, h⟩ := mz_bd_some h
  refine mz_Go.callV (I := IX0_isEven) (J := IX0_buyer) (as := []) (ci := 0) (g := g0) (o := 117) (idx := 36) (pl := 1414) (rest := []) (mX0_buyer g0 D hg0 q1 hq1) kX0_buyer vX0_buyer (by decide +kernel) (by decide +kernel) (by decide +kernel) rfl rfl ⟨rfl, rfl⟩ rfl rfl hg0 rfl ?_
  refine mz_Go.run (gs := []) (st' := (7, [some (.inr (.inr (some (g0, 117)))), some (.inl q1), some (.inl (0 : Int32))], [], D)) bX0_isEven_4 oX0_isEven_4 rfl trivial ?_
  exact mz_Go.drop [true, true, true] (tX0_isEven_7 g0 D hg0 r mz_N q1 (0 : Int32) h)
def bX1_clear_0 : List mz_E := [(0, .aload_n 0, 0, 0, 0, 0, 0), (1, .iconst 0, 0, 0, 0, 0, 0), (2, .putfield 21, 1, 0, 350, 0, 0), (5, .aload_n 0, 0, 0, 0, 0, 0), (6, .iconst 0, 0, 0, 0, 0, 0), (7, .putfield 25, 1, 1, 353, 0, 0)]
theorem oX1_clear_0 : bX1_clear_0.all (mz_ok RX1 cX1_clear 1) = true := by decide +kernel
abbrev IX1_clear : mz_I := (yX1_clear, cX1_clear, 1, none, 0, 0, 0, 0)
theorem kX1_clear : mz_okm IX1_clear 719 136 717 0 = true := by decide +kernel
theorem vX1_clear : mz_okV IX1_clear 717 718 = true := by decide +kernel
theorem mX1_clear (g0 : Nat) (D : mz_D) (hg0 : mz_tb g0 = true) : mz_Met IX1_clear [.inr (.inr (some (g0, 109)))] D (none, (mz_wi (mz_wi D g0 109 0 (0 : Int32)) g0 109 1 (0 : Int32))) := by
  refine mz_Met.of (by decide +kernel) (Nat.le_of_ble_eq_true rfl) ?_
  show mz_Go IX1_clear (none, (mz_wi (mz_wi D g0 109 0 (0 : Int32)) g0 109 1 (0 : Int32))) 0 0 (0, [some (.inr (.inr (some (g0, 109))))], [], D)
  refine mz_Go.run (gs := [mz_kz 0 g0 109, mz_kz 0 g0 109]) (st' := (10, [some (.inr (.inr (some (g0, 109))))], [], (mz_wi (mz_wi D g0 109 0 (0 : Int32)) g0 109 1 (0 : Int32)))) bX1_clear_0 oX1_clear_0 rfl ⟨hg0, hg0, trivial⟩ ?_
  exact mz_Go.retv (by decide +kernel) rfl ⟨Nat.le_refl _, Nat.le_refl _⟩ rfl
abbrev IX11_copyRow_110_110 : mz_I := (yX11_copyRow, cX11_copyRow, 2, none, 0, 1, 0, 0)
theorem kX11_copyRow_110_110 : mz_okm IX11_copyRow_110_110 891 126 890 2 = true := by decide +kernel
theorem vX11_copyRow_110_110 : mz_okS IX11_copyRow_110_110 890 = true := by decide +kernel
def fX11_copyRow_110_110 (g0 : Nat) (g1 : Nat) (D : mz_D) : Option mz_D := (mz_gd (mz_cpg (0 : Int32) (0 : Int32) (fJ9_min_7cf53 (Int32.ofNat 16) (Int32.ofNat 16)) 16 16) (some (mz_cpi D g0 110 g1 110 ((0 : Int32)).toNatClampNeg ((0 : Int32)).toNatClampNeg ((fJ9_min_7cf53 (Int32.ofNat 16) (Int32.ofNat 16))).toNatClampNeg)))
set_option maxHeartbeats 4000000 in
theorem mX11_copyRow_110_110 (g0 : Nat) (g1 : Nat) (D : mz_D) (hg0 : mz_tb g0 = true) (hg1 : mz_tb g1 = true) (r : mz_D) (h : fX11_copyRow_110_110 g0 g1 D = some r) : mz_Met IX11_copyRow_110_110 [.inr (.inr (some (g0, 110))), .inr (.inr (some (g1, 110)))] D (none, r) := by
  refine mz_Met.of (by decide +kernel) (Nat.le_of_ble_eq_true rfl) ?_
  show mz_Go IX11_copyRow_110_110 (none, r) 0 0 (0, [some (.inr (.inr (some (g0, 110)))), some (.inr (.inr (some (g1, 110))))], [], D)
  rw [fX11_copyRow_110_110] at h
  refine mz_Go.run (gs := [mz_kz 0 g0 110, mz_kz 0 g1 110]) (st' := (8, [some (.inr (.inr (some (g0, 110)))), some (.inr (.inr (some (g1, 110))))], [.inl (Int32.ofNat 16), .inl (Int32.ofNat 16), .inl (0 : Int32), .inr (.inr (some (g1, 110))), .inl (0 : Int32), .inr (.inr (some (g0, 110)))], D)) bX11_copyRow_0 oX11_copyRow_0 rfl ⟨hg0, hg1, trivial⟩ ?_
  refine mz_Go.callS (I := IX11_copyRow_110_110) (J := IJ9_min_7cf53) (as := [.inl (Int32.ofNat 16), .inl (Int32.ofNat 16)]) (idx := 362) (pl := 892) (rest := [.inl (0 : Int32), .inr (.inr (some (g1, 110))), .inl (0 : Int32), .inr (.inr (some (g0, 110)))]) (mJ9_min_7cf53 (Int32.ofNat 16) (Int32.ofNat 16) D _ rfl) kJ9_min_7cf53 vJ9_min_7cf53 (by decide +kernel) (by decide +kernel) (by decide +kernel) rfl rfl ⟨rfl, rfl⟩ rfl ?_
  obtain ⟨hb1, h⟩ := mz_gd_some h
  refine mz_Go.cpi (I := IX11_copyRow_110_110) (idx := 492) (pl := 893) (pn := 695) (ps := 694) (pi := 142) (by decide +kernel) (by decide +kernel) rfl rfl hg0 hg1 hb1 rfl ?_
  cases h
  exact mz_Go.retv (by decide +kernel) rfl ⟨Nat.le_refl _, Nat.le_refl _⟩ rfl
abbrev IX11_copyRow_111_111 : mz_I := (yX11_copyRow, cX11_copyRow, 2, none, 0, 1, 0, 0)
theorem kX11_copyRow_111_111 : mz_okm IX11_copyRow_111_111 891 126 890 2 = true := by decide +kernel
theorem vX11_copyRow_111_111 : mz_okS IX11_copyRow_111_111 890 = true := by decide +kernel
def fX11_copyRow_111_111 (g0 : Nat) (g1 : Nat) (D : mz_D) : Option mz_D := (mz_gd (mz_cpg (0 : Int32) (0 : Int32) (fJ9_min_7cf53 (Int32.ofNat 16) (Int32.ofNat 16)) 16 16) (some (mz_cpi D g0 111 g1 111 ((0 : Int32)).toNatClampNeg ((0 : Int32)).toNatClampNeg ((fJ9_min_7cf53 (Int32.ofNat 16) (Int32.ofNat 16))).toNatClampNeg)))
set_option maxHeartbeats 4000000 in
theorem mX11_copyRow_111_111 (g0 : Nat) (g1 : Nat) (D : mz_D) (hg0 : mz_tb g0 = true) (hg1 : mz_tb g1 = true) (r : mz_D) (h : fX11_copyRow_111_111 g0 g1 D = some r) : mz_Met IX11_copyRow_111_111 [.inr (.inr (some (g0, 111))), .inr (.inr (some (g1, 111)))] D (none, r) := by
  refine mz_Met.of (by decide +kernel) (Nat.le_of_ble_eq_true rfl) ?_
  show mz_Go IX11_copyRow_111_111 (none, r) 0 0 (0, [some (.inr (.inr (some (g0, 111)))), some (.inr (.inr (some (g1, 111))))], [], D)
  rw [fX11_copyRow_111_111] at h
  refine mz_Go.run (gs := [mz_kz 0 g0 111, mz_kz 0 g1 111]) (st' := (8, [some (.inr (.inr (some (g0, 111)))), some (.inr (.inr (some (g1, 111))))], [.inl (Int32.ofNat 16), .inl (Int32.ofNat 16), .inl (0 : Int32), .inr (.inr (some (g1, 111))), .inl (0 : Int32), .inr (.inr (some (g0, 111)))], D)) bX11_copyRow_0 oX11_copyRow_0 rfl ⟨hg0, hg1, trivial⟩ ?_
  refine mz_Go.callS (I := IX11_copyRow_111_111) (J := IJ9_min_7cf53) (as := [.inl (Int32.ofNat 16), .inl (Int32.ofNat 16)]) (idx := 362) (pl := 892) (rest := [.inl (0 : Int32), .inr (.inr (some (g1, 111))), .inl (0 : Int32), .inr (.inr (some (g0, 111)))]) (mJ9_min_7cf53 (Int32.ofNat 16) (Int32.ofNat 16) D _ rfl) kJ9_min_7cf53 vJ9_min_7cf53 (by decide +kernel) (by decide +kernel) (by decide +kernel) rfl rfl ⟨rfl, rfl⟩ rfl ?_
  obtain ⟨hb1, h⟩ := mz_gd_some h
  refine mz_Go.cpi (I := IX11_copyRow_111_111) (idx := 492) (pl := 893) (pn := 695) (ps := 694) (pi := 142) (by decide +kernel) (by decide +kernel) rfl rfl hg0 hg1 hb1 rfl ?_
  cases h
  exact mz_Go.retv (by decide +kernel) rfl ⟨Nat.le_refl _, Nat.le_refl _⟩ rfl
def bX1_copyFrom_0 : List mz_E := [(0, .aload_n 0, 0, 0, 0, 0, 0), (1, .aload_n 1, 0, 0, 0, 0, 0), (2, .getfield 21, 1, 0, 350, 0, 0), (5, .putfield 21, 1, 0, 350, 0, 0), (8, .aload_n 0, 0, 0, 0, 0, 0), (9, .aload_n 1, 0, 0, 0, 0, 0), (10, .getfield 25, 1, 1, 353, 0, 0), (13, .putfield 25, 1, 1, 353, 0, 0), (16, .aload_n 1, 0, 0, 0, 0, 0), (17, .getfield 9, 1, 2, 357, 0, 0), (20, .aload_n 0, 0, 0, 0, 0, 0), (21, .getfield 9, 1, 2, 357, 0, 0)]
theorem oX1_copyFrom_0 : bX1_copyFrom_0.all (mz_ok RX1 cX1_copyFrom 2) = true := by decide +kernel
def bX1_copyFrom_27 : List mz_E := [(27, .aload_n 1, 0, 0, 0, 0, 0), (28, .getfield 15, 1, 3, 359, 0, 0), (31, .aload_n 0, 0, 0, 0, 0, 0), (32, .getfield 15, 1, 3, 359, 0, 0)]
theorem oX1_copyFrom_27 : bX1_copyFrom_27.all (mz_ok RX1 cX1_copyFrom 2) = true := by decide +kernel
abbrev IX1_copyFrom : mz_I := (yX1_copyFrom, cX1_copyFrom, 2, none, 0, 2, 0, 0)
theorem kX1_copyFrom : mz_okm IX1_copyFrom 897 136 895 1 = true := by decide +kernel
theorem vX1_copyFrom : mz_okV IX1_copyFrom 895 896 = true := by decide +kernel
def fX1_copyFrom (g0 : Nat) (g1 : Nat) (D : mz_D) : Option mz_D := (Option.bind (fX11_copyRow_110_110 g1 g0 (mz_wi (mz_wi D g0 109 0 (D.1 g1 109 0)) g0 109 1 ((mz_wi D g0 109 0 (D.1 g1 109 0)).1 g1 109 1))) fun q1 => (Option.bind (fX11_copyRow_111_111 g1 g0 q1) fun q2 => (some q2)))
set_option maxHeartbeats 4000000 in
theorem mX1_copyFrom (g0 : Nat) (g1 : Nat) (D : mz_D) (hg0 : mz_tb g0 = true) (hg1 : mz_tb g1 = true) (r : mz_D) (h : fX1_copyFrom g0 g1 D = some r) : mz_Met IX1_copyFrom [.inr (.inr (some (g0, 109))), .inr (.inr (some (g1, 109)))] D (none, r) := by
  refine mz_Met.of (by decide +kernel) (Nat.le_of_ble_eq_true rfl) ?_
  show mz_Go IX1_copyFrom (none, r) 0 0 (0, [some (.inr (.inr (some (g0, 109)))), some (.inr (.inr (some (g1, 109))))], [], D)
  rw [fX1_copyFrom] at h
  refine mz_Go.run (gs := [mz_kz 0 g1 109, mz_kz 0 g0 109, mz_kz 0 g1 109, mz_kz 0 g0 109, mz_kz 0 g1 109, mz_kz 0 g0 109]) (st' := (24, [some (.inr (.inr (some (g0, 109)))), some (.inr (.inr (some (g1, 109))))], [.inr (.inr (some (g0, 110))), .inr (.inr (some (g1, 110)))], (mz_wi (mz_wi D g0 109 0 (D.1 g1 109 0)) g0 109 1 ((mz_wi D g0 109 0 (D.1 g1 109 0)).1 g1 109 1)))) bX1_copyFrom_0 oX1_copyFrom_0 rfl ⟨hg1, hg0, hg1, hg0, hg1, hg0, trivial⟩ ?_
  obtain ⟨q1, hq1, h⟩ := mz_bd_some h
  refine mz_Go.callSN (I := IX1_copyFrom) (J := IX11_copyRow_110_110) (as := [.inr (.inr (some (g1, 110))), .inr (.inr (some (g0, 110)))]) (idx := 28) (pl := 898) (rest := []) (mX11_copyRow_110_110 g1 g0 (mz_wi (mz_wi D g0 109 0 (D.1 g1 109 0)) g0 109 1 ((mz_wi D g0 109 0 (D.1 g1 109 0)).1 g1 109 1)) hg1 hg0 q1 hq1) kX11_copyRow_110_110 vX11_copyRow_110_110 (by decide +kernel) (by decide +kernel) (by decide +kernel) rfl rfl ⟨rfl, rfl⟩ rfl ?_
  refine mz_Go.run (gs := [mz_kz 0 g1 109, mz_kz 0 g0 109]) (st' := (35, [some (.inr (.inr (some (g0, 109)))), some (.inr (.inr (some (g1, 109))))], [.inr (.inr (some (g0, 111))), .inr (.inr (some (g1, 111)))], q1)) bX1_copyFrom_27 oX1_copyFrom_27 rfl ⟨hg1, hg0, trivial⟩ ?_
  obtain ⟨q2, hq2, h⟩ := mz_bd_some h
  refine mz_Go.callSN (I := IX1_copyFrom) (J := IX11_copyRow_111_111) (as := [.inr (.inr (some (g1, 111))), .inr (.inr (some (g0, 111)))]) (idx := 28) (pl := 898) (rest := []) (mX11_copyRow_111_111 g1 g0 q1 hg1 hg0 q2 hq2) kX11_copyRow_111_111 vX11_copyRow_111_111 (by decide +kernel) (by decide +kernel) (by decide +kernel) rfl rfl ⟨rfl, rfl⟩ rfl ?_
  cases h
  exact mz_Go.retv (by decide +kernel) rfl ⟨Nat.le_refl _, Nat.le_refl _⟩ rfl
def bX1_add_0 : List mz_E := [(0, .aload_n 0, 0, 0, 0, 0, 0), (1, .getfield 9, 1, 2, 357, 0, 0), (4, .aload_n 0, 0, 0, 0, 0, 0), (5, .getfield 21, 1, 0, 350, 0, 0), (8, .iload_n 1, 0, 0, 0, 0, 0), (9, .iastore, 0, 0, 0, 0, 0), (10, .aload_n 0, 0, 0, 0, 0, 0), (11, .getfield 15, 1, 3, 359, 0, 0), (14, .aload_n 0, 0, 0, 0, 0, 0), (15, .getfield 21, 1, 0, 350, 0, 0), (18, .iload_n 2, 0, 0, 0, 0, 0), (19, .iastore, 0, 0, 0, 0, 0), (20, .aload_n 0, 0, 0, 0, 0, 0), (21, .dup, 0, 0, 0, 0, 0), (22, .getfield 21, 1, 0, 350, 0, 0), (25, .iconst 1, 0, 0, 0, 1, 0), (26, .iadd, 0, 0, 0, 0, 0), (27, .putfield 21, 1, 0, 350, 0, 0)]
theorem oX1_add_0 : bX1_add_0.all (mz_ok RX1 cX1_add 3) = true := by decide +kernel
abbrev IX1_add : mz_I := (yX1_add, cX1_add, 3, none, 0, 0, 0, 0)
theorem kX1_add : mz_okm IX1_add 843 136 841 2 = true := by decide +kernel
theorem vX1_add : mz_okV IX1_add 841 842 = true := by decide +kernel
def fX1_add (g0 : Nat) (x1 : Int32) (x2 : Int32) (D : mz_D) : Option mz_D := (mz_gd (mz_ix (D.1 g0 109 0) 16) (some (mz_wi (mz_wi (mz_wi D g0 110 ((D.1 g0 109 0)).toNatClampNeg x1) g0 111 ((D.1 g0 109 0)).toNatClampNeg x2) g0 109 0 ((D.1 g0 109 0) + (1 : Int32)))))
set_option maxHeartbeats 4000000 in
theorem mX1_add (g0 : Nat) (x1 : Int32) (x2 : Int32) (D : mz_D) (hg0 : mz_tb g0 = true) (r : mz_D) (h : fX1_add g0 x1 x2 D = some r) : mz_Met IX1_add [.inr (.inr (some (g0, 109))), .inl x1, .inl x2] D (none, r) := by
  refine mz_Met.of (by decide +kernel) (Nat.le_of_ble_eq_true rfl) ?_
  show mz_Go IX1_add (none, r) 0 0 (0, [some (.inr (.inr (some (g0, 109)))), some (.inl x1), some (.inl x2)], [], D)
  rw [fX1_add] at h
  obtain ⟨hb1, h⟩ := mz_gd_some h
  refine mz_Go.run (gs := [mz_kz 0 g0 109, mz_kz 0 g0 109, mz_kz 0 g0 110, mz_ix (D.1 g0 109 0) 16, mz_kz 0 g0 109, mz_kz 0 g0 109, mz_kz 0 g0 111, mz_ix (D.1 g0 109 0) 16, mz_kz 0 g0 109, mz_kz 0 g0 109]) (st' := (30, [some (.inr (.inr (some (g0, 109)))), some (.inl x1), some (.inl x2)], [], (mz_wi (mz_wi (mz_wi D g0 110 ((D.1 g0 109 0)).toNatClampNeg x1) g0 111 ((D.1 g0 109 0)).toNatClampNeg x2) g0 109 0 ((D.1 g0 109 0) + (1 : Int32))))) bX1_add_0 oX1_add_0 rfl ⟨hg0, hg0, hg0, hb1, hg0, hg0, hg0, hb1, hg0, hg0, trivial⟩ ?_
  cases h
  exact mz_Go.retv (by decide +kernel) rfl ⟨Nat.le_refl _, Nat.le_refl _⟩ rfl
def bX1_takeLast_0 : List mz_E := [(0, .aload_n 0, 0, 0, 0, 0, 0), (1, .dup, 0, 0, 0, 0, 0), (2, .getfield 21, 1, 0, 350, 0, 0), (5, .iconst 1, 0, 0, 0, 1, 0), (6, .isub, 0, 0, 0, 0, 0), (7, .putfield 21, 1, 0, 350, 0, 0), (10, .aload_n 0, 0, 0, 0, 0, 0), (11, .getfield 9, 1, 2, 357, 0, 0), (14, .aload_n 0, 0, 0, 0, 0, 0), (15, .getfield 21, 1, 0, 350, 0, 0), (18, .iaload, 0, 0, 0, 0, 0)]
theorem oX1_takeLast_0 : bX1_takeLast_0.all (mz_ok RX1 cX1_takeLast 1) = true := by decide +kernel
abbrev IX1_takeLast : mz_I := (yX1_takeLast, cX1_takeLast, 1, (some .int), 0, 0, 0, 0)
theorem kX1_takeLast : mz_okm IX1_takeLast 1133 136 1131 0 = true := by decide +kernel
theorem vX1_takeLast : mz_okV IX1_takeLast 1131 1132 = true := by decide +kernel
def fX1_takeLast (g0 : Nat) (D : mz_D) : Option (Int32 × mz_D) := (mz_gd (mz_ix ((mz_wi D g0 109 0 ((D.1 g0 109 0) - (1 : Int32))).1 g0 109 0) 16) (some ((D.1 g0 110 (((mz_wi D g0 109 0 ((D.1 g0 109 0) - (1 : Int32))).1 g0 109 0)).toNatClampNeg), (mz_wi D g0 109 0 ((D.1 g0 109 0) - (1 : Int32))))))
set_option maxHeartbeats 4000000 in
theorem mX1_takeLast (g0 : Nat) (D : mz_D) (hg0 : mz_tb g0 = true) (r : (Int32 × mz_D)) (h : fX1_takeLast g0 D = some r) : mz_Met IX1_takeLast [.inr (.inr (some (g0, 109)))] D (some (.inl r.1), r.2) := by
  refine mz_Met.of (by decide +kernel) (Nat.le_of_ble_eq_true rfl) ?_
  show mz_Go IX1_takeLast (some (.inl r.1), r.2) 0 0 (0, [some (.inr (.inr (some (g0, 109))))], [], D)
  rw [fX1_takeLast] at h
  obtain ⟨hb1, h⟩ := mz_gd_some h
  refine mz_Go.run (gs := [mz_kz 0 g0 109, mz_kz 0 g0 109, mz_kz 0 g0 109, mz_kz 0 g0 109, mz_kz 0 g0 110, mz_ix ((mz_wi D g0 109 0 ((D.1 g0 109 0) - (1 : Int32))).1 g0 109 0) 16]) (st' := (19, [some (.inr (.inr (some (g0, 109))))], [.inl (D.1 g0 110 (((mz_wi D g0 109 0 ((D.1 g0 109 0) - (1 : Int32))).1 g0 109 0)).toNatClampNeg)], (mz_wi D g0 109 0 ((D.1 g0 109 0) - (1 : Int32))))) bX1_takeLast_0 oX1_takeLast_0 rfl ⟨hg0, hg0, hg0, hg0, hg0, hb1, trivial⟩ ?_
  cases h
  exact mz_Go.reti (by decide +kernel) rfl ⟨Nat.le_refl _, Nat.le_refl _⟩ rfl
def bX1_total_0 : List mz_E := [(0, .iconst 0, 0, 0, 0, 0, 0), (1, .istore_n 1, 0, 0, 0, 0, 0), (2, .iconst 0, 0, 0, 0, 0, 0), (3, .istore_n 2, 0, 0, 0, 0, 0)]
theorem oX1_total_0 : bX1_total_0.all (mz_ok RX1 cX1_total 3) = true := by decide +kernel
def bX1_total_4 : List mz_E := [(4, .iload_n 2, 0, 0, 0, 0, 0), (5, .aload_n 0, 0, 0, 0, 0, 0), (6, .getfield 21, 1, 0, 350, 0, 0), (9, .if_icmp .ge 18, 0, 27, 0, 0, 0)]
theorem oX1_total_4 : bX1_total_4.all (mz_ok RX1 cX1_total 3) = true := by decide +kernel
def bX1_total_27 : List mz_E := [(27, .iload_n 1, 0, 0, 0, 0, 0)]
theorem oX1_total_27 : bX1_total_27.all (mz_ok RX1 cX1_total 3) = true := by decide +kernel
def bX1_total_12 : List mz_E := [(12, .iload_n 1, 0, 0, 0, 0, 0), (13, .aload_n 0, 0, 0, 0, 0, 0), (14, .getfield 9, 1, 2, 357, 0, 0), (17, .iload_n 2, 0, 0, 0, 0, 0), (18, .iaload, 0, 0, 0, 0, 0), (19, .iadd, 0, 0, 0, 0, 0), (20, .istore_n 1, 0, 0, 0, 0, 0), (21, .iinc 2 1, 0, 0, 0, 1, 0), (24, .goto (-20), 0, 4, 0, 0, 0)]
theorem oX1_total_12 : bX1_total_12.all (mz_ok RX1 cX1_total 3) = true := by decide +kernel
abbrev IX1_total : mz_I := (yX1_total, cX1_total, 3, (some .int), 0, 0, 0, 0)
theorem kX1_total : mz_okm IX1_total 1022 136 1020 0 = true := by decide +kernel
theorem vX1_total : mz_okV IX1_total 1020 1021 = true := by decide +kernel
def fX1_total_4 (g0 : Nat) (D : mz_D) : Nat → Int32 → Int32 → Option Int32
  | 0 => fun _ _ => none
  | n + 1 => fun x1 x2 => (if (D.1 g0 109 0) ≤ x2 then (some x1) else (mz_gd (mz_ix x2 16) ((fX1_total_4 g0 D n) (x1 + (D.1 g0 110 (x2).toNatClampNeg)) (x2 + (1 : Int32)))))
set_option maxHeartbeats 4000000 in
theorem tX1_total_4 (g0 : Nat) (D : mz_D) (hg0 : mz_tb g0 = true) (r : Int32) : ∀ (n : Nat) (x1 : Int32) (x2 : Int32), fX1_total_4 g0 D n x1 x2 = some r → mz_Go IX1_total (some (.inl r), D) 0 0 (4, [some (.inr (.inr (some (g0, 109)))), some (.inl x1), some (.inl x2)], [], D) := by
  intro n
  induction n with
  | zero => intro x1 x2 h; have h : (none : Option Int32) = some r := h; cases h
  | succ n ih =>
    intro x1 x2 h
    rw [fX1_total_4] at h
    refine mz_Go.run (gs := [mz_kz 0 g0 109]) (st' := (if (D.1 g0 109 0) ≤ x2 then (27, [some (.inr (.inr (some (g0, 109)))), some (.inl x1), some (.inl x2)], [], D) else (12, [some (.inr (.inr (some (g0, 109)))), some (.inl x1), some (.inl x2)], [], D))) bX1_total_4 oX1_total_4 rfl ⟨hg0, trivial⟩ ?_
    refine mz_Go.ite (fun hc1 => ?_) (fun hc1 => ?_)
    · have h := mz_ifp hc1 h
      refine mz_Go.run (gs := []) (st' := (28, [some (.inr (.inr (some (g0, 109)))), some (.inl x1), some (.inl x2)], [.inl x1], D)) bX1_total_27 oX1_total_27 rfl trivial ?_
      cases h
      exact mz_Go.reti (by decide +kernel) rfl ⟨Nat.le_refl _, Nat.le_refl _⟩ rfl
    · have h := mz_ifn hc1 h
      obtain ⟨hb2, h⟩ := mz_gd_some h
      refine mz_Go.run (gs := [mz_kz 0 g0 109, mz_kz 0 g0 110, mz_ix x2 16]) (st' := (4, [some (.inr (.inr (some (g0, 109)))), some (.inl (x1 + (D.1 g0 110 (x2).toNatClampNeg))), some (.inl (x2 + (1 : Int32)))], [], D)) bX1_total_12 oX1_total_12 rfl ⟨hg0, hg0, hb2, trivial⟩ ?_
      exact mz_Go.drop [true, true, true] (ih (x1 + (D.1 g0 110 (x2).toNatClampNeg)) (x2 + (1 : Int32)) h)
def fX1_total (g0 : Nat) (D : mz_D) : Option Int32 := (fX1_total_4 g0 D mz_N (0 : Int32) (0 : Int32))
set_option maxHeartbeats 4000000 in
theorem mX1_total (g0 : Nat) (D : mz_D) (hg0 : mz_tb g0 = true) (r : Int32) (h : fX1_total g0 D = some r) : mz_Met IX1_total [.inr (.inr (some (g0, 109)))] D (some (.inl r), D) := by
  refine mz_Met.of (by decide +kernel) (Nat.le_of_ble_eq_true rfl) ?_
  show mz_Go IX1_total (some (.inl r), D) 0 0 (0, [some (.inr (.inr (some (g0, 109)))), none, none], [], D)
  rw [fX1_total] at h
  refine mz_Go.run (gs := []) (st' := (4, [some (.inr (.inr (some (g0, 109)))), some (.inl (0 : Int32)), some (.inl (0 : Int32))], [], D)) bX1_total_0 oX1_total_0 rfl trivial ?_
  exact mz_Go.drop [true, true, true] (tX1_total_4 g0 D hg0 r mz_N (0 : Int32) (0 : Int32) h)
def bJ6_bitCount_0f7a4_0 : List mz_E := [(0, .iload_n 0, 0, 0, 0, 0, 0), (1, .iload_n 0, 0, 0, 0, 0, 0), (2, .iconst 1, 0, 0, 0, 1, 0), (3, .iushr, 0, 0, 0, 0, 0), (4, .ldc_w 265, 0, 0, 1031, 1431655765, 0), (7, .iand, 0, 0, 0, 0, 0), (8, .isub, 0, 0, 0, 0, 0), (9, .istore_n 0, 0, 0, 0, 0, 0), (10, .iload_n 0, 0, 0, 0, 0, 0), (11, .ldc_w 266, 0, 0, 1032, 858993459, 0), (14, .iand, 0, 0, 0, 0, 0), (15, .iload_n 0, 0, 0, 0, 0, 0), (16, .iconst 2, 0, 0, 0, 2, 0), (17, .iushr, 0, 0, 0, 0, 0), (18, .ldc_w 266, 0, 0, 1032, 858993459, 0), (21, .iand, 0, 0, 0, 0, 0), (22, .iadd, 0, 0, 0, 0, 0), (23, .istore_n 0, 0, 0, 0, 0, 0), (24, .iload_n 0, 0, 0, 0, 0, 0), (25, .iload_n 0, 0, 0, 0, 0, 0), (26, .iconst 4, 0, 0, 0, 4, 0), (27, .iushr, 0, 0, 0, 0, 0), (28, .iadd, 0, 0, 0, 0, 0), (29, .ldc_w 267, 0, 0, 1033, 252645135, 0), (32, .iand, 0, 0, 0, 0, 0), (33, .istore_n 0, 0, 0, 0, 0, 0), (34, .iload_n 0, 0, 0, 0, 0, 0), (35, .iload_n 0, 0, 0, 0, 0, 0), (36, .bipush 8, 0, 0, 0, 8, 0), (38, .iushr, 0, 0, 0, 0, 0), (39, .iadd, 0, 0, 0, 0, 0), (40, .istore_n 0, 0, 0, 0, 0, 0), (41, .iload_n 0, 0, 0, 0, 0, 0), (42, .iload_n 0, 0, 0, 0, 0, 0), (43, .bipush 16, 0, 0, 0, 16, 0), (45, .iushr, 0, 0, 0, 0, 0), (46, .iadd, 0, 0, 0, 0, 0), (47, .istore_n 0, 0, 0, 0, 0, 0), (48, .iload_n 0, 0, 0, 0, 0, 0), (49, .bipush 63, 0, 0, 0, 63, 0), (51, .iand, 0, 0, 0, 0, 0)]
theorem oJ6_bitCount_0f7a4_0 : bJ6_bitCount_0f7a4_0.all (mz_ok RJ6 cJ6_bitCount_0f7a4 1) = true := by decide +kernel
abbrev IJ6_bitCount_0f7a4 : mz_I := (yJ6_bitCount_0f7a4, cJ6_bitCount_0f7a4, 1, (some .int), 9, 0, 0, 0)
theorem kJ6_bitCount_0f7a4 : mz_okm IJ6_bitCount_0f7a4 1030 146 1029 1 = true := by decide +kernel
theorem vJ6_bitCount_0f7a4 : mz_okS IJ6_bitCount_0f7a4 1029 = true := by decide +kernel
def fJ6_bitCount_0f7a4 (x0 : Int32) : Int32 := ((((((((x0 - (((x0).toUInt32 >>> (((1 : Int32)).toUInt32 &&& Int32.toUInt32 31)).toInt32 &&& (1431655765 : Int32))) &&& (858993459 : Int32)) + ((((x0 - (((x0).toUInt32 >>> (((1 : Int32)).toUInt32 &&& Int32.toUInt32 31)).toInt32 &&& (1431655765 : Int32)))).toUInt32 >>> (((2 : Int32)).toUInt32 &&& Int32.toUInt32 31)).toInt32 &&& (858993459 : Int32))) + (((((x0 - (((x0).toUInt32 >>> (((1 : Int32)).toUInt32 &&& Int32.toUInt32 31)).toInt32 &&& (1431655765 : Int32))) &&& (858993459 : Int32)) + ((((x0 - (((x0).toUInt32 >>> (((1 : Int32)).toUInt32 &&& Int32.toUInt32 31)).toInt32 &&& (1431655765 : Int32)))).toUInt32 >>> (((2 : Int32)).toUInt32 &&& Int32.toUInt32 31)).toInt32 &&& (858993459 : Int32)))).toUInt32 >>> (((4 : Int32)).toUInt32 &&& Int32.toUInt32 31)).toInt32) &&& (252645135 : Int32)) + (((((((x0 - (((x0).toUInt32 >>> (((1 : Int32)).toUInt32 &&& Int32.toUInt32 31)).toInt32 &&& (1431655765 : Int32))) &&& (858993459 : Int32)) + ((((x0 - (((x0).toUInt32 >>> (((1 : Int32)).toUInt32 &&& Int32.toUInt32 31)).toInt32 &&& (1431655765 : Int32)))).toUInt32 >>> (((2 : Int32)).toUInt32 &&& Int32.toUInt32 31)).toInt32 &&& (858993459 : Int32))) + (((((x0 - (((x0).toUInt32 >>> (((1 : Int32)).toUInt32 &&& Int32.toUInt32 31)).toInt32 &&& (1431655765 : Int32))) &&& (858993459 : Int32)) + ((((x0 - (((x0).toUInt32 >>> (((1 : Int32)).toUInt32 &&& Int32.toUInt32 31)).toInt32 &&& (1431655765 : Int32)))).toUInt32 >>> (((2 : Int32)).toUInt32 &&& Int32.toUInt32 31)).toInt32 &&& (858993459 : Int32)))).toUInt32 >>> (((4 : Int32)).toUInt32 &&& Int32.toUInt32 31)).toInt32) &&& (252645135 : Int32))).toUInt32 >>> (((8 : Int32)).toUInt32 &&& Int32.toUInt32 31)).toInt32) + ((((((((x0 - (((x0).toUInt32 >>> (((1 : Int32)).toUInt32 &&& Int32.toUInt32 31)).toInt32 &&& (1431655765 : Int32))) &&& (858993459 : Int32)) + ((((x0 - (((x0).toUInt32 >>> (((1 : Int32)).toUInt32 &&& Int32.toUInt32 31)).toInt32 &&& (1431655765 : Int32)))).toUInt32 >>> (((2 : Int32)).toUInt32 &&& Int32.toUInt32 31)).toInt32 &&& (858993459 : Int32))) + (((((x0 - (((x0).toUInt32 >>> (((1 : Int32)).toUInt32 &&& Int32.toUInt32 31)).toInt32 &&& (1431655765 : Int32))) &&& (858993459 : Int32)) + ((((x0 - (((x0).toUInt32 >>> (((1 : Int32)).toUInt32 &&& Int32.toUInt32 31)).toInt32 &&& (1431655765 : Int32)))).toUInt32 >>> (((2 : Int32)).toUInt32 &&& Int32.toUInt32 31)).toInt32 &&& (858993459 : Int32)))).toUInt32 >>> (((4 : Int32)).toUInt32 &&& Int32.toUInt32 31)).toInt32) &&& (252645135 : Int32)) + (((((((x0 - (((x0).toUInt32 >>> (((1 : Int32)).toUInt32 &&& Int32.toUInt32 31)).toInt32 &&& (1431655765 : Int32))) &&& (858993459 : Int32)) + ((((x0 - (((x0).toUInt32 >>> (((1 : Int32)).toUInt32 &&& Int32.toUInt32 31)).toInt32 &&& (1431655765 : Int32)))).toUInt32 >>> (((2 : Int32)).toUInt32 &&& Int32.toUInt32 31)).toInt32 &&& (858993459 : Int32))) + (((((x0 - (((x0).toUInt32 >>> (((1 : Int32)).toUInt32 &&& Int32.toUInt32 31)).toInt32 &&& (1431655765 : Int32))) &&& (858993459 : Int32)) + ((((x0 - (((x0).toUInt32 >>> (((1 : Int32)).toUInt32 &&& Int32.toUInt32 31)).toInt32 &&& (1431655765 : Int32)))).toUInt32 >>> (((2 : Int32)).toUInt32 &&& Int32.toUInt32 31)).toInt32 &&& (858993459 : Int32)))).toUInt32 >>> (((4 : Int32)).toUInt32 &&& Int32.toUInt32 31)).toInt32) &&& (252645135 : Int32))).toUInt32 >>> (((8 : Int32)).toUInt32 &&& Int32.toUInt32 31)).toInt32)).toUInt32 >>> (((16 : Int32)).toUInt32 &&& Int32.toUInt32 31)).toInt32) &&& (63 : Int32))
set_option maxHeartbeats 4000000 in
theorem mJ6_bitCount_0f7a4 (x0 : Int32) (D : mz_D) (r : Int32) (h : fJ6_bitCount_0f7a4 x0 = r) : mz_Met IJ6_bitCount_0f7a4 [.inl x0] D (some (.inl r), D) := by
  refine mz_Met.of (by decide +kernel) (Nat.le_of_ble_eq_true rfl) ?_
  show mz_Go IJ6_bitCount_0f7a4 (some (.inl r), D) 0 0 (0, [some (.inl x0)], [], D)
  rw [fJ6_bitCount_0f7a4] at h
  refine mz_Go.run (gs := []) (st' := (52, [some (.inl (((((((x0 - (((x0).toUInt32 >>> (((1 : Int32)).toUInt32 &&& Int32.toUInt32 31)).toInt32 &&& (1431655765 : Int32))) &&& (858993459 : Int32)) + ((((x0 - (((x0).toUInt32 >>> (((1 : Int32)).toUInt32 &&& Int32.toUInt32 31)).toInt32 &&& (1431655765 : Int32)))).toUInt32 >>> (((2 : Int32)).toUInt32 &&& Int32.toUInt32 31)).toInt32 &&& (858993459 : Int32))) + (((((x0 - (((x0).toUInt32 >>> (((1 : Int32)).toUInt32 &&& Int32.toUInt32 31)).toInt32 &&& (1431655765 : Int32))) &&& (858993459 : Int32)) + ((((x0 - (((x0).toUInt32 >>> (((1 : Int32)).toUInt32 &&& Int32.toUInt32 31)).toInt32 &&& (1431655765 : Int32)))).toUInt32 >>> (((2 : Int32)).toUInt32 &&& Int32.toUInt32 31)).toInt32 &&& (858993459 : Int32)))).toUInt32 >>> (((4 : Int32)).toUInt32 &&& Int32.toUInt32 31)).toInt32) &&& (252645135 : Int32)) + (((((((x0 - (((x0).toUInt32 >>> (((1 : Int32)).toUInt32 &&& Int32.toUInt32 31)).toInt32 &&& (1431655765 : Int32))) &&& (858993459 : Int32)) + ((((x0 - (((x0).toUInt32 >>> (((1 : Int32)).toUInt32 &&& Int32.toUInt32 31)).toInt32 &&& (1431655765 : Int32)))).toUInt32 >>> (((2 : Int32)).toUInt32 &&& Int32.toUInt32 31)).toInt32 &&& (858993459 : Int32))) + (((((x0 - (((x0).toUInt32 >>> (((1 : Int32)).toUInt32 &&& Int32.toUInt32 31)).toInt32 &&& (1431655765 : Int32))) &&& (858993459 : Int32)) + ((((x0 - (((x0).toUInt32 >>> (((1 : Int32)).toUInt32 &&& Int32.toUInt32 31)).toInt32 &&& (1431655765 : Int32)))).toUInt32 >>> (((2 : Int32)).toUInt32 &&& Int32.toUInt32 31)).toInt32 &&& (858993459 : Int32)))).toUInt32 >>> (((4 : Int32)).toUInt32 &&& Int32.toUInt32 31)).toInt32) &&& (252645135 : Int32))).toUInt32 >>> (((8 : Int32)).toUInt32 &&& Int32.toUInt32 31)).toInt32) + ((((((((x0 - (((x0).toUInt32 >>> (((1 : Int32)).toUInt32 &&& Int32.toUInt32 31)).toInt32 &&& (1431655765 : Int32))) &&& (858993459 : Int32)) + ((((x0 - (((x0).toUInt32 >>> (((1 : Int32)).toUInt32 &&& Int32.toUInt32 31)).toInt32 &&& (1431655765 : Int32)))).toUInt32 >>> (((2 : Int32)).toUInt32 &&& Int32.toUInt32 31)).toInt32 &&& (858993459 : Int32))) + (((((x0 - (((x0).toUInt32 >>> (((1 : Int32)).toUInt32 &&& Int32.toUInt32 31)).toInt32 &&& (1431655765 : Int32))) &&& (858993459 : Int32)) + ((((x0 - (((x0).toUInt32 >>> (((1 : Int32)).toUInt32 &&& Int32.toUInt32 31)).toInt32 &&& (1431655765 : Int32)))).toUInt32 >>> (((2 : Int32)).toUInt32 &&& Int32.toUInt32 31)).toInt32 &&& (858993459 : Int32)))).toUInt32 >>> (((4 : Int32)).toUInt32 &&& Int32.toUInt32 31)).toInt32) &&& (252645135 : Int32)) + (((((((x0 - (((x0).toUInt32 >>> (((1 : Int32)).toUInt32 &&& Int32.toUInt32 31)).toInt32 &&& (1431655765 : Int32))) &&& (858993459 : Int32)) + ((((x0 - (((x0).toUInt32 >>> (((1 : Int32)).toUInt32 &&& Int32.toUInt32 31)).toInt32 &&& (1431655765 : Int32)))).toUInt32 >>> (((2 : Int32)).toUInt32 &&& Int32.toUInt32 31)).toInt32 &&& (858993459 : Int32))) + (((((x0 - (((x0).toUInt32 >>> (((1 : Int32)).toUInt32 &&& Int32.toUInt32 31)).toInt32 &&& (1431655765 : Int32))) &&& (858993459 : Int32)) + ((((x0 - (((x0).toUInt32 >>> (((1 : Int32)).toUInt32 &&& Int32.toUInt32 31)).toInt32 &&& (1431655765 : Int32)))).toUInt32 >>> (((2 : Int32)).toUInt32 &&& Int32.toUInt32 31)).toInt32 &&& (858993459 : Int32)))).toUInt32 >>> (((4 : Int32)).toUInt32 &&& Int32.toUInt32 31)).toInt32) &&& (252645135 : Int32))).toUInt32 >>> (((8 : Int32)).toUInt32 &&& Int32.toUInt32 31)).toInt32)).toUInt32 >>> (((16 : Int32)).toUInt32 &&& Int32.toUInt32 31)).toInt32))], [.inl ((((((((x0 - (((x0).toUInt32 >>> (((1 : Int32)).toUInt32 &&& Int32.toUInt32 31)).toInt32 &&& (1431655765 : Int32))) &&& (858993459 : Int32)) + ((((x0 - (((x0).toUInt32 >>> (((1 : Int32)).toUInt32 &&& Int32.toUInt32 31)).toInt32 &&& (1431655765 : Int32)))).toUInt32 >>> (((2 : Int32)).toUInt32 &&& Int32.toUInt32 31)).toInt32 &&& (858993459 : Int32))) + (((((x0 - (((x0).toUInt32 >>> (((1 : Int32)).toUInt32 &&& Int32.toUInt32 31)).toInt32 &&& (1431655765 : Int32))) &&& (858993459 : Int32)) + ((((x0 - (((x0).toUInt32 >>> (((1 : Int32)).toUInt32 &&& Int32.toUInt32 31)).toInt32 &&& (1431655765 : Int32)))).toUInt32 >>> (((2 : Int32)).toUInt32 &&& Int32.toUInt32 31)).toInt32 &&& (858993459 : Int32)))).toUInt32 >>> (((4 : Int32)).toUInt32 &&& Int32.toUInt32 31)).toInt32) &&& (252645135 : Int32)) + (((((((x0 - (((x0).toUInt32 >>> (((1 : Int32)).toUInt32 &&& Int32.toUInt32 31)).toInt32 &&& (1431655765 : Int32))) &&& (858993459 : Int32)) + ((((x0 - (((x0).toUInt32 >>> (((1 : Int32)).toUInt32 &&& Int32.toUInt32 31)).toInt32 &&& (1431655765 : Int32)))).toUInt32 >>> (((2 : Int32)).toUInt32 &&& Int32.toUInt32 31)).toInt32 &&& (858993459 : Int32))) + (((((x0 - (((x0).toUInt32 >>> (((1 : Int32)).toUInt32 &&& Int32.toUInt32 31)).toInt32 &&& (1431655765 : Int32))) &&& (858993459 : Int32)) + ((((x0 - (((x0).toUInt32 >>> (((1 : Int32)).toUInt32 &&& Int32.toUInt32 31)).toInt32 &&& (1431655765 : Int32)))).toUInt32 >>> (((2 : Int32)).toUInt32 &&& Int32.toUInt32 31)).toInt32 &&& (858993459 : Int32)))).toUInt32 >>> (((4 : Int32)).toUInt32 &&& Int32.toUInt32 31)).toInt32) &&& (252645135 : Int32))).toUInt32 >>> (((8 : Int32)).toUInt32 &&& Int32.toUInt32 31)).toInt32) + ((((((((x0 - (((x0).toUInt32 >>> (((1 : Int32)).toUInt32 &&& Int32.toUInt32 31)).toInt32 &&& (1431655765 : Int32))) &&& (858993459 : Int32)) + ((((x0 - (((x0).toUInt32 >>> (((1 : Int32)).toUInt32 &&& Int32.toUInt32 31)).toInt32 &&& (1431655765 : Int32)))).toUInt32 >>> (((2 : Int32)).toUInt32 &&& Int32.toUInt32 31)).toInt32 &&& (858993459 : Int32))) + (((((x0 - (((x0).toUInt32 >>> (((1 : Int32)).toUInt32 &&& Int32.toUInt32 31)).toInt32 &&& (1431655765 : Int32))) &&& (858993459 : Int32)) + ((((x0 - (((x0).toUInt32 >>> (((1 : Int32)).toUInt32 &&& Int32.toUInt32 31)).toInt32 &&& (1431655765 : Int32)))).toUInt32 >>> (((2 : Int32)).toUInt32 &&& Int32.toUInt32 31)).toInt32 &&& (858993459 : Int32)))).toUInt32 >>> (((4 : Int32)).toUInt32 &&& Int32.toUInt32 31)).toInt32) &&& (252645135 : Int32)) + (((((((x0 - (((x0).toUInt32 >>> (((1 : Int32)).toUInt32 &&& Int32.toUInt32 31)).toInt32 &&& (1431655765 : Int32))) &&& (858993459 : Int32)) + ((((x0 - (((x0).toUInt32 >>> (((1 : Int32)).toUInt32 &&& Int32.toUInt32 31)).toInt32 &&& (1431655765 : Int32)))).toUInt32 >>> (((2 : Int32)).toUInt32 &&& Int32.toUInt32 31)).toInt32 &&& (858993459 : Int32))) + (((((x0 - (((x0).toUInt32 >>> (((1 : Int32)).toUInt32 &&& Int32.toUInt32 31)).toInt32 &&& (1431655765 : Int32))) &&& (858993459 : Int32)) + ((((x0 - (((x0).toUInt32 >>> (((1 : Int32)).toUInt32 &&& Int32.toUInt32 31)).toInt32 &&& (1431655765 : Int32)))).toUInt32 >>> (((2 : Int32)).toUInt32 &&& Int32.toUInt32 31)).toInt32 &&& (858993459 : Int32)))).toUInt32 >>> (((4 : Int32)).toUInt32 &&& Int32.toUInt32 31)).toInt32) &&& (252645135 : Int32))).toUInt32 >>> (((8 : Int32)).toUInt32 &&& Int32.toUInt32 31)).toInt32)).toUInt32 >>> (((16 : Int32)).toUInt32 &&& Int32.toUInt32 31)).toInt32) &&& (63 : Int32))], D)) bJ6_bitCount_0f7a4_0 oJ6_bitCount_0f7a4_0 rfl trivial ?_
  subst h
  exact mz_Go.reti (by decide +kernel) rfl ⟨Nat.le_refl _, Nat.le_refl _⟩ rfl
def bX1_countSet_0 : List mz_E := [(0, .iload_n 1, 0, 0, 0, 0, 0)]
theorem oX1_countSet_0 : bX1_countSet_0.all (mz_ok RX1 cX1_countSet 3) = true := by decide +kernel
def bX1_countSet_4 : List mz_E := [(4, .istore_n 2, 0, 0, 0, 0, 0), (5, .aload_n 0, 0, 0, 0, 0, 0), (6, .getfield 74, 1, 4, 361, 0, 0), (9, .ifCond .eq 27, 0, 36, 0, 0, 0)]
theorem oX1_countSet_4 : bX1_countSet_4.all (mz_ok RX1 cX1_countSet 3) = true := by decide +kernel
def bX1_countSet_36 : List mz_E := [(36, .aload_n 0, 0, 0, 0, 0, 0), (37, .iload_n 2, 0, 0, 0, 0, 0), (38, .putfield 77, 1, 5, 363, 0, 0), (41, .aload_n 0, 0, 0, 0, 0, 0), (42, .iload_n 1, 0, 0, 0, 0, 0), (43, .putfield 80, 1, 6, 365, 0, 0), (46, .aload_n 0, 0, 0, 0, 0, 0), (47, .dup, 0, 0, 0, 0, 0), (48, .getfield 74, 1, 4, 361, 0, 0), (51, .iconst 1, 0, 0, 0, 1, 0), (52, .iadd, 0, 0, 0, 0, 0), (53, .putfield 74, 1, 4, 361, 0, 0)]
theorem oX1_countSet_36 : bX1_countSet_36.all (mz_ok RX1 cX1_countSet 3) = true := by decide +kernel
def bX1_countSet_12 : List mz_E := [(12, .iload_n 2, 0, 0, 0, 0, 0), (13, .aload_n 0, 0, 0, 0, 0, 0), (14, .getfield 77, 1, 5, 363, 0, 0), (17, .if_icmp .lt 19, 0, 36, 0, 0, 0)]
theorem oX1_countSet_12 : bX1_countSet_12.all (mz_ok RX1 cX1_countSet 3) = true := by decide +kernel
def bX1_countSet_20 : List mz_E := [(20, .iload_n 2, 0, 0, 0, 0, 0), (21, .aload_n 0, 0, 0, 0, 0, 0), (22, .getfield 77, 1, 5, 363, 0, 0), (25, .if_icmp .ne 21, 0, 46, 0, 0, 0)]
theorem oX1_countSet_20 : bX1_countSet_20.all (mz_ok RX1 cX1_countSet 3) = true := by decide +kernel
def bX1_countSet_28 : List mz_E := [(28, .iload_n 1, 0, 0, 0, 0, 0), (29, .aload_n 0, 0, 0, 0, 0, 0), (30, .getfield 80, 1, 6, 365, 0, 0), (33, .if_icmp .ge 13, 0, 46, 0, 0, 0)]
theorem oX1_countSet_28 : bX1_countSet_28.all (mz_ok RX1 cX1_countSet 3) = true := by decide +kernel
def bX1_countSet_46 : List mz_E := [(46, .aload_n 0, 0, 0, 0, 0, 0), (47, .dup, 0, 0, 0, 0, 0), (48, .getfield 74, 1, 4, 361, 0, 0), (51, .iconst 1, 0, 0, 0, 1, 0), (52, .iadd, 0, 0, 0, 0, 0), (53, .putfield 74, 1, 4, 361, 0, 0)]
theorem oX1_countSet_46 : bX1_countSet_46.all (mz_ok RX1 cX1_countSet 3) = true := by decide +kernel
abbrev IX1_countSet : mz_I := (yX1_countSet, cX1_countSet, 3, none, 0, 1, 0, 0)
theorem kX1_countSet : mz_okm IX1_countSet 1159 136 1158 1 = true := by decide +kernel
theorem vX1_countSet : mz_okV IX1_countSet 1158 27 = true := by decide +kernel
def fX1_countSet_36 (g0 : Nat) (x1 : Int32) (x2 : Int32) (D : mz_D) : Option mz_D := (some (mz_wi (mz_wi (mz_wi D g0 109 5 x2) g0 109 6 x1) g0 109 4 (((mz_wi (mz_wi D g0 109 5 x2) g0 109 6 x1).1 g0 109 4) + (1 : Int32))))
set_option maxHeartbeats 4000000 in
theorem tX1_countSet_36 (g0 : Nat) (hg0 : mz_tb g0 = true) (r : mz_D) : ∀ (x1 : Int32) (x2 : Int32) (D : mz_D), fX1_countSet_36 g0 x1 x2 D = some r → mz_Go IX1_countSet (none, r) 0 0 (36, [some (.inr (.inr (some (g0, 109)))), some (.inl x1), some (.inl x2)], [], D) := by
  intro x1 x2 D h
  rw [fX1_countSet_36] at h
  refine mz_Go.run (gs := [mz_kz 0 g0 109, mz_kz 0 g0 109, mz_kz 0 g0 109, mz_kz 0 g0 109]) (st' := (56, [some (.inr (.inr (some (g0, 109)))), some (.inl x1), some (.inl x2)], [], (mz_wi (mz_wi (mz_wi D g0 109 5 x2) g0 109 6 x1) g0 109 4 (((mz_wi (mz_wi D g0 109 5 x2) g0 109 6 x1).1 g0 109 4) + (1 : Int32))))) bX1_countSet_36 oX1_countSet_36 rfl ⟨hg0, hg0, hg0, hg0, trivial⟩ ?_
  cases h
  exact mz_Go.retv (by decide +kernel) rfl ⟨Nat.le_refl _, Nat.le_refl _⟩ rfl
def fX1_countSet (g0 : Nat) (x1 : Int32) (D : mz_D) : Option mz_D := (if (D.1 g0 109 4) = 0 then (fX1_countSet_36 g0 x1 (fJ6_bitCount_0f7a4 x1) D) else (if (fJ6_bitCount_0f7a4 x1) < (D.1 g0 109 5) then (fX1_countSet_36 g0 x1 (fJ6_bitCount_0f7a4 x1) D) else (if (fJ6_bitCount_0f7a4 x1) = (D.1 g0 109 5) then (if (D.1 g0 109 6) ≤ x1 then (some (mz_wi D g0 109 4 ((D.1 g0 109 4) + (1 : Int32)))) else (fX1_countSet_36 g0 x1 (fJ6_bitCount_0f7a4 x1) D)) else (some (mz_wi D g0 109 4 ((D.1 g0 109 4) + (1 : Int32)))))))
set_option maxHeartbeats 4000000 in
theorem mX1_countSet (g0 : Nat) (x1 : Int32) (D : mz_D) (hg0 : mz_tb g0 = true) (r : mz_D) (h : fX1_countSet g0 x1 D = some r) : mz_Met IX1_countSet [.inr (.inr (some (g0, 109))), .inl x1] D (none, r) := by
  refine mz_Met.of (by decide +kernel) (Nat.le_of_ble_eq_true rfl) ?_
  show mz_Go IX1_countSet (none, r) 0 0 (0, [some (.inr (.inr (some (g0, 109)))), some (.inl x1), none], [], D)
  rw [fX1_countSet] at h
  refine mz_Go.run (gs := []) (st' := (1, [some (.inr (.inr (some (g0, 109)))), some (.inl x1), none], [.inl x1], D)) bX1_countSet_0 oX1_countSet_0 rfl trivial ?_
  refine mz_Go.callS (I := IX1_countSet) (J := IJ6_bitCount_0f7a4) (as := [.inl x1]) (idx := 91) (pl := 1068) (rest := []) (mJ6_bitCount_0f7a4 x1 D _ rfl) kJ6_bitCount_0f7a4 vJ6_bitCount_0f7a4 (by decide +kernel) (by decide +kernel) (by decide +kernel) rfl rfl ⟨rfl, rfl⟩ rfl ?_
  refine mz_Go.run (gs := [mz_kz 0 g0 109]) (st' := (if (D.1 g0 109 4) = 0 then (36, [some (.inr (.inr (some (g0, 109)))), some (.inl x1), some (.inl (fJ6_bitCount_0f7a4 x1))], [], D) else (12, [some (.inr (.inr (some (g0, 109)))), some (.inl x1), some (.inl (fJ6_bitCount_0f7a4 x1))], [], D))) bX1_countSet_4 oX1_countSet_4 rfl ⟨hg0, trivial⟩ ?_
  refine mz_Go.ite (fun hc1 => ?_) (fun hc1 => ?_)
  · have h := mz_ifp hc1 h
    exact mz_Go.drop [true, true, true] (tX1_countSet_36 g0 hg0 r x1 (fJ6_bitCount_0f7a4 x1) D h)
  · have h := mz_ifn hc1 h
    refine mz_Go.run (gs := [mz_kz 0 g0 109]) (st' := (if (fJ6_bitCount_0f7a4 x1) < (D.1 g0 109 5) then (36, [some (.inr (.inr (some (g0, 109)))), some (.inl x1), some (.inl (fJ6_bitCount_0f7a4 x1))], [], D) else (20, [some (.inr (.inr (some (g0, 109)))), some (.inl x1), some (.inl (fJ6_bitCount_0f7a4 x1))], [], D))) bX1_countSet_12 oX1_countSet_12 rfl ⟨hg0, trivial⟩ ?_
    refine mz_Go.ite (fun hc2 => ?_) (fun hc2 => ?_)
    · have h := mz_ifp hc2 h
      exact mz_Go.drop [true, true, true] (tX1_countSet_36 g0 hg0 r x1 (fJ6_bitCount_0f7a4 x1) D h)
    · have h := mz_ifn hc2 h
      refine mz_Go.run (gs := [mz_kz 0 g0 109]) (st' := (if (fJ6_bitCount_0f7a4 x1) = (D.1 g0 109 5) then (28, [some (.inr (.inr (some (g0, 109)))), some (.inl x1), some (.inl (fJ6_bitCount_0f7a4 x1))], [], D) else (46, [some (.inr (.inr (some (g0, 109)))), some (.inl x1), some (.inl (fJ6_bitCount_0f7a4 x1))], [], D))) bX1_countSet_20 oX1_countSet_20 rfl ⟨hg0, trivial⟩ ?_
      refine mz_Go.ite (fun hc3 => ?_) (fun hc3 => ?_)
      · have h := mz_ifp hc3 h
        refine mz_Go.run (gs := [mz_kz 0 g0 109]) (st' := (if (D.1 g0 109 6) ≤ x1 then (46, [some (.inr (.inr (some (g0, 109)))), some (.inl x1), some (.inl (fJ6_bitCount_0f7a4 x1))], [], D) else (36, [some (.inr (.inr (some (g0, 109)))), some (.inl x1), some (.inl (fJ6_bitCount_0f7a4 x1))], [], D))) bX1_countSet_28 oX1_countSet_28 rfl ⟨hg0, trivial⟩ ?_
        refine mz_Go.ite (fun hc4 => ?_) (fun hc4 => ?_)
        · have h := mz_ifp hc4 h
          refine mz_Go.run (gs := [mz_kz 0 g0 109, mz_kz 0 g0 109]) (st' := (56, [some (.inr (.inr (some (g0, 109)))), some (.inl x1), some (.inl (fJ6_bitCount_0f7a4 x1))], [], (mz_wi D g0 109 4 ((D.1 g0 109 4) + (1 : Int32))))) bX1_countSet_46 oX1_countSet_46 rfl ⟨hg0, hg0, trivial⟩ ?_
          cases h
          exact mz_Go.retv (by decide +kernel) rfl ⟨Nat.le_refl _, Nat.le_refl _⟩ rfl
        · have h := mz_ifn hc4 h
          exact mz_Go.drop [true, true, true] (tX1_countSet_36 g0 hg0 r x1 (fJ6_bitCount_0f7a4 x1) D h)
      · have h := mz_ifn hc3 h
        refine mz_Go.run (gs := [mz_kz 0 g0 109, mz_kz 0 g0 109]) (st' := (56, [some (.inr (.inr (some (g0, 109)))), some (.inl x1), some (.inl (fJ6_bitCount_0f7a4 x1))], [], (mz_wi D g0 109 4 ((D.1 g0 109 4) + (1 : Int32))))) bX1_countSet_46 oX1_countSet_46 rfl ⟨hg0, hg0, trivial⟩ ?_
        cases h
        exact mz_Go.retv (by decide +kernel) rfl ⟨Nat.le_refl _, Nat.le_refl _⟩ rfl
abbrev IJ7_fill_53178_114 : mz_I := (yJ7_fill_53178, cJ7_fill_53178, 4, none, 0, 0, 0, 0)
theorem kJ7_fill_53178_114 : mz_okm IJ7_fill_53178_114 262 133 261 2 = true := by decide +kernel
theorem vJ7_fill_53178_114 : mz_okS IJ7_fill_53178_114 261 = true := by decide +kernel
def fJ7_fill_53178_114_5 (g0 : Nat) : Nat → Int32 → Int32 → Int32 → mz_D → Option mz_D
  | 0 => fun _ _ _ _ => none
  | n + 1 => fun x1 x2 x3 D => (if x3 ≤ x2 then (some D) else (mz_gd (mz_ix x2 36) ((fJ7_fill_53178_114_5 g0 n) x1 (x2 + (1 : Int32)) x3 (mz_wi D g0 114 (x2).toNatClampNeg x1))))
set_option maxHeartbeats 4000000 in
theorem tJ7_fill_53178_114_5 (g0 : Nat) (hg0 : mz_tb g0 = true) (r : mz_D) : ∀ (n : Nat) (x1 : Int32) (x2 : Int32) (x3 : Int32) (D : mz_D), fJ7_fill_53178_114_5 g0 n x1 x2 x3 D = some r → mz_Go IJ7_fill_53178_114 (none, r) 0 0 (5, [some (.inr (.inr (some (g0, 114)))), some (.inl x1), some (.inl x2), some (.inl x3)], [], D) := by
  intro n
  induction n with
  | zero => intro x1 x2 x3 D h; have h : (none : Option mz_D) = some r := h; cases h
  | succ n ih =>
    intro x1 x2 x3 D h
    rw [fJ7_fill_53178_114_5] at h
    refine mz_Go.run (gs := []) (st' := (if x3 ≤ x2 then (20, [some (.inr (.inr (some (g0, 114)))), some (.inl x1), some (.inl x2), some (.inl x3)], [], D) else (10, [some (.inr (.inr (some (g0, 114)))), some (.inl x1), some (.inl x2), some (.inl x3)], [], D))) bJ7_fill_53178_5 oJ7_fill_53178_5 rfl trivial ?_
    refine mz_Go.ite (fun hc1 => ?_) (fun hc1 => ?_)
    · have h := mz_ifp hc1 h
      cases h
      exact mz_Go.retv (by decide +kernel) rfl ⟨Nat.le_refl _, Nat.le_refl _⟩ rfl
    · have h := mz_ifn hc1 h
      obtain ⟨hb2, h⟩ := mz_gd_some h
      refine mz_Go.run (gs := [mz_kz 0 g0 114, mz_ix x2 36]) (st' := (5, [some (.inr (.inr (some (g0, 114)))), some (.inl x1), some (.inl (x2 + (1 : Int32))), some (.inl x3)], [], (mz_wi D g0 114 (x2).toNatClampNeg x1))) bJ7_fill_53178_10 oJ7_fill_53178_10 rfl ⟨hg0, hb2, trivial⟩ ?_
      exact mz_Go.drop [true, true, true, true] (ih x1 (x2 + (1 : Int32)) x3 (mz_wi D g0 114 (x2).toNatClampNeg x1) h)
def fJ7_fill_53178_114 (g0 : Nat) (x1 : Int32) (D : mz_D) : Option mz_D := (fJ7_fill_53178_114_5 g0 mz_N x1 (0 : Int32) (Int32.ofNat 36) D)
set_option maxHeartbeats 4000000 in
theorem mJ7_fill_53178_114 (g0 : Nat) (x1 : Int32) (D : mz_D) (hg0 : mz_tb g0 = true) (r : mz_D) (h : fJ7_fill_53178_114 g0 x1 D = some r) : mz_Met IJ7_fill_53178_114 [.inr (.inr (some (g0, 114))), .inl x1] D (none, r) := by
  refine mz_Met.of (by decide +kernel) (Nat.le_of_ble_eq_true rfl) ?_
  show mz_Go IJ7_fill_53178_114 (none, r) 0 0 (0, [some (.inr (.inr (some (g0, 114)))), some (.inl x1), none, none], [], D)
  rw [fJ7_fill_53178_114] at h
  refine mz_Go.run (gs := [mz_kz 0 g0 114]) (st' := (5, [some (.inr (.inr (some (g0, 114)))), some (.inl x1), some (.inl (0 : Int32)), some (.inl (Int32.ofNat 36))], [], D)) bJ7_fill_53178_0 oJ7_fill_53178_0 rfl ⟨hg0, trivial⟩ ?_
  exact mz_Go.drop [true, true, true, true] (tJ7_fill_53178_114_5 g0 hg0 r mz_N x1 (0 : Int32) (Int32.ofNat 36) D h)
def bX2_clear_0 : List mz_E := [(0, .aload_n 0, 0, 0, 0, 0, 0), (1, .getfield 9, 2, 0, 391, 0, 0), (4, .iconst 0, 0, 0, 0, 0, 0)]
theorem oX2_clear_0 : bX2_clear_0.all (mz_ok RX2 cX2_clear 1) = true := by decide +kernel
abbrev IX2_clear : mz_I := (yX2_clear, cX2_clear, 1, none, 0, 1, 0, 0)
theorem kX2_clear : mz_okm IX2_clear 723 137 721 0 = true := by decide +kernel
theorem vX2_clear : mz_okV IX2_clear 721 722 = true := by decide +kernel
def fX2_clear (g0 : Nat) (D : mz_D) : Option mz_D := (Option.bind (fJ7_fill_53178_114 g0 (0 : Int32) D) fun q1 => (some q1))
set_option maxHeartbeats 4000000 in
theorem mX2_clear (g0 : Nat) (D : mz_D) (hg0 : mz_tb g0 = true) (r : mz_D) (h : fX2_clear g0 D = some r) : mz_Met IX2_clear [.inr (.inr (some (g0, 113)))] D (none, r) := by
  refine mz_Met.of (by decide +kernel) (Nat.le_of_ble_eq_true rfl) ?_
  show mz_Go IX2_clear (none, r) 0 0 (0, [some (.inr (.inr (some (g0, 113))))], [], D)
  rw [fX2_clear] at h
  refine mz_Go.run (gs := [mz_kz 0 g0 113]) (st' := (5, [some (.inr (.inr (some (g0, 113))))], [.inl (0 : Int32), .inr (.inr (some (g0, 114)))], D)) bX2_clear_0 oX2_clear_0 rfl ⟨hg0, trivial⟩ ?_
  obtain ⟨q1, hq1, h⟩ := mz_bd_some h
  refine mz_Go.callS (I := IX2_clear) (J := IJ7_fill_53178_114) (as := [.inr (.inr (some (g0, 114))), .inl (0 : Int32)]) (idx := 21) (pl := 724) (rest := []) (mJ7_fill_53178_114 g0 (0 : Int32) D hg0 q1 hq1) kJ7_fill_53178_114 vJ7_fill_53178_114 (by decide +kernel) (by decide +kernel) (by decide +kernel) rfl rfl ⟨rfl, rfl⟩ rfl ?_
  cases h
  exact mz_Go.retv (by decide +kernel) rfl ⟨Nat.le_refl _, Nat.le_refl _⟩ rfl
abbrev IX11_copyRow_114_114 : mz_I := (yX11_copyRow, cX11_copyRow, 2, none, 0, 1, 0, 0)
theorem kX11_copyRow_114_114 : mz_okm IX11_copyRow_114_114 891 126 890 2 = true := by decide +kernel
theorem vX11_copyRow_114_114 : mz_okS IX11_copyRow_114_114 890 = true := by decide +kernel
def fX11_copyRow_114_114 (g0 : Nat) (g1 : Nat) (D : mz_D) : Option mz_D := (mz_gd (mz_cpg (0 : Int32) (0 : Int32) (fJ9_min_7cf53 (Int32.ofNat 36) (Int32.ofNat 36)) 36 36) (some (mz_cpi D g0 114 g1 114 ((0 : Int32)).toNatClampNeg ((0 : Int32)).toNatClampNeg ((fJ9_min_7cf53 (Int32.ofNat 36) (Int32.ofNat 36))).toNatClampNeg)))
set_option maxHeartbeats 4000000 in
theorem mX11_copyRow_114_114 (g0 : Nat) (g1 : Nat) (D : mz_D) (hg0 : mz_tb g0 = true) (hg1 : mz_tb g1 = true) (r : mz_D) (h : fX11_copyRow_114_114 g0 g1 D = some r) : mz_Met IX11_copyRow_114_114 [.inr (.inr (some (g0, 114))), .inr (.inr (some (g1, 114)))] D (none, r) := by
  refine mz_Met.of (by decide +kernel) (Nat.le_of_ble_eq_true rfl) ?_
  show mz_Go IX11_copyRow_114_114 (none, r) 0 0 (0, [some (.inr (.inr (some (g0, 114)))), some (.inr (.inr (some (g1, 114))))], [], D)
  rw [fX11_copyRow_114_114] at h
  refine mz_Go.run (gs := [mz_kz 0 g0 114, mz_kz 0 g1 114]) (st' := (8, [some (.inr (.inr (some (g0, 114)))), some (.inr (.inr (some (g1, 114))))], [.inl (Int32.ofNat 36), .inl (Int32.ofNat 36), .inl (0 : Int32), .inr (.inr (some (g1, 114))), .inl (0 : Int32), .inr (.inr (some (g0, 114)))], D)) bX11_copyRow_0 oX11_copyRow_0 rfl ⟨hg0, hg1, trivial⟩ ?_
  refine mz_Go.callS (I := IX11_copyRow_114_114) (J := IJ9_min_7cf53) (as := [.inl (Int32.ofNat 36), .inl (Int32.ofNat 36)]) (idx := 362) (pl := 892) (rest := [.inl (0 : Int32), .inr (.inr (some (g1, 114))), .inl (0 : Int32), .inr (.inr (some (g0, 114)))]) (mJ9_min_7cf53 (Int32.ofNat 36) (Int32.ofNat 36) D _ rfl) kJ9_min_7cf53 vJ9_min_7cf53 (by decide +kernel) (by decide +kernel) (by decide +kernel) rfl rfl ⟨rfl, rfl⟩ rfl ?_
  obtain ⟨hb1, h⟩ := mz_gd_some h
  refine mz_Go.cpi (I := IX11_copyRow_114_114) (idx := 492) (pl := 893) (pn := 695) (ps := 694) (pi := 142) (by decide +kernel) (by decide +kernel) rfl rfl hg0 hg1 hb1 rfl ?_
  cases h
  exact mz_Go.retv (by decide +kernel) rfl ⟨Nat.le_refl _, Nat.le_refl _⟩ rfl
def bX2_copyFrom_0 : List mz_E := [(0, .aload_n 1, 0, 0, 0, 0, 0), (1, .getfield 9, 2, 0, 391, 0, 0), (4, .aload_n 0, 0, 0, 0, 0, 0), (5, .getfield 9, 2, 0, 391, 0, 0)]
theorem oX2_copyFrom_0 : bX2_copyFrom_0.all (mz_ok RX2 cX2_copyFrom 2) = true := by decide +kernel
abbrev IX2_copyFrom : mz_I := (yX2_copyFrom, cX2_copyFrom, 2, none, 0, 2, 0, 0)
theorem kX2_copyFrom : mz_okm IX2_copyFrom 902 137 900 1 = true := by decide +kernel
theorem vX2_copyFrom : mz_okV IX2_copyFrom 900 901 = true := by decide +kernel
def fX2_copyFrom (g0 : Nat) (g1 : Nat) (D : mz_D) : Option mz_D := (Option.bind (fX11_copyRow_114_114 g1 g0 D) fun q1 => (some q1))
set_option maxHeartbeats 4000000 in
theorem mX2_copyFrom (g0 : Nat) (g1 : Nat) (D : mz_D) (hg0 : mz_tb g0 = true) (hg1 : mz_tb g1 = true) (r : mz_D) (h : fX2_copyFrom g0 g1 D = some r) : mz_Met IX2_copyFrom [.inr (.inr (some (g0, 113))), .inr (.inr (some (g1, 113)))] D (none, r) := by
  refine mz_Met.of (by decide +kernel) (Nat.le_of_ble_eq_true rfl) ?_
  show mz_Go IX2_copyFrom (none, r) 0 0 (0, [some (.inr (.inr (some (g0, 113)))), some (.inr (.inr (some (g1, 113))))], [], D)
  rw [fX2_copyFrom] at h
  refine mz_Go.run (gs := [mz_kz 0 g1 113, mz_kz 0 g0 113]) (st' := (8, [some (.inr (.inr (some (g0, 113)))), some (.inr (.inr (some (g1, 113))))], [.inr (.inr (some (g0, 114))), .inr (.inr (some (g1, 114)))], D)) bX2_copyFrom_0 oX2_copyFrom_0 rfl ⟨hg1, hg0, trivial⟩ ?_
  obtain ⟨q1, hq1, h⟩ := mz_bd_some h
  refine mz_Go.callSN (I := IX2_copyFrom) (J := IX11_copyRow_114_114) (as := [.inr (.inr (some (g1, 114))), .inr (.inr (some (g0, 114)))]) (idx := 27) (pl := 903) (rest := []) (mX11_copyRow_114_114 g1 g0 D hg1 hg0 q1 hq1) kX11_copyRow_114_114 vX11_copyRow_114_114 (by decide +kernel) (by decide +kernel) (by decide +kernel) rfl rfl ⟨rfl, rfl⟩ rfl ?_
  cases h
  exact mz_Go.retv (by decide +kernel) rfl ⟨Nat.le_refl _, Nat.le_refl _⟩ rfl
def bX2_get_0 : List mz_E := [(0, .aload_n 0, 0, 0, 0, 0, 0), (1, .getfield 9, 2, 0, 391, 0, 0), (4, .iload_n 1, 0, 0, 0, 0, 0), (5, .bipush 6, 0, 0, 0, 6, 0), (7, .imul, 0, 0, 0, 0, 0), (8, .iload_n 2, 0, 0, 0, 0, 0), (9, .iadd, 0, 0, 0, 0, 0), (10, .iaload, 0, 0, 0, 0, 0)]
theorem oX2_get_0 : bX2_get_0.all (mz_ok RX2 cX2_get 3) = true := by decide +kernel
abbrev IX2_get : mz_I := (yX2_get, cX2_get, 3, (some .int), 0, 0, 0, 0)
theorem kX2_get : mz_okm IX2_get 1186 137 1184 2 = true := by decide +kernel
theorem vX2_get : mz_okV IX2_get 1184 1185 = true := by decide +kernel
def fX2_get (g0 : Nat) (x1 : Int32) (x2 : Int32) (D : mz_D) : Option Int32 := (mz_gd (mz_ix ((x1 * (6 : Int32)) + x2) 36) (some (D.1 g0 114 (((x1 * (6 : Int32)) + x2)).toNatClampNeg)))
set_option maxHeartbeats 4000000 in
theorem mX2_get (g0 : Nat) (x1 : Int32) (x2 : Int32) (D : mz_D) (hg0 : mz_tb g0 = true) (r : Int32) (h : fX2_get g0 x1 x2 D = some r) : mz_Met IX2_get [.inr (.inr (some (g0, 113))), .inl x1, .inl x2] D (some (.inl r), D) := by
  refine mz_Met.of (by decide +kernel) (Nat.le_of_ble_eq_true rfl) ?_
  show mz_Go IX2_get (some (.inl r), D) 0 0 (0, [some (.inr (.inr (some (g0, 113)))), some (.inl x1), some (.inl x2)], [], D)
  rw [fX2_get] at h
  obtain ⟨hb1, h⟩ := mz_gd_some h
  refine mz_Go.run (gs := [mz_kz 0 g0 113, mz_kz 0 g0 114, mz_ix ((x1 * (6 : Int32)) + x2) 36]) (st' := (11, [some (.inr (.inr (some (g0, 113)))), some (.inl x1), some (.inl x2)], [.inl (D.1 g0 114 (((x1 * (6 : Int32)) + x2)).toNatClampNeg)], D)) bX2_get_0 oX2_get_0 rfl ⟨hg0, hg0, hb1, trivial⟩ ?_
  cases h
  exact mz_Go.reti (by decide +kernel) rfl ⟨Nat.le_refl _, Nat.le_refl _⟩ rfl
def bX2_put_0 : List mz_E := [(0, .aload_n 0, 0, 0, 0, 0, 0), (1, .getfield 9, 2, 0, 391, 0, 0), (4, .iload_n 1, 0, 0, 0, 0, 0), (5, .bipush 6, 0, 0, 0, 6, 0), (7, .imul, 0, 0, 0, 0, 0), (8, .iload_n 2, 0, 0, 0, 0, 0), (9, .iadd, 0, 0, 0, 0, 0), (10, .iload_n 3, 0, 0, 0, 0, 0), (11, .iastore, 0, 0, 0, 0, 0)]
theorem oX2_put_0 : bX2_put_0.all (mz_ok RX2 cX2_put 4) = true := by decide +kernel
abbrev IX2_put : mz_I := (yX2_put, cX2_put, 4, none, 0, 0, 0, 0)
theorem kX2_put : mz_okm IX2_put 855 137 853 3 = true := by decide +kernel
theorem vX2_put : mz_okV IX2_put 853 854 = true := by decide +kernel
def fX2_put (g0 : Nat) (x1 : Int32) (x2 : Int32) (x3 : Int32) (D : mz_D) : Option mz_D := (mz_gd (mz_ix ((x1 * (6 : Int32)) + x2) 36) (some (mz_wi D g0 114 (((x1 * (6 : Int32)) + x2)).toNatClampNeg x3)))
set_option maxHeartbeats 4000000 in
theorem mX2_put (g0 : Nat) (x1 : Int32) (x2 : Int32) (x3 : Int32) (D : mz_D) (hg0 : mz_tb g0 = true) (r : mz_D) (h : fX2_put g0 x1 x2 x3 D = some r) : mz_Met IX2_put [.inr (.inr (some (g0, 113))), .inl x1, .inl x2, .inl x3] D (none, r) := by
  refine mz_Met.of (by decide +kernel) (Nat.le_of_ble_eq_true rfl) ?_
  show mz_Go IX2_put (none, r) 0 0 (0, [some (.inr (.inr (some (g0, 113)))), some (.inl x1), some (.inl x2), some (.inl x3)], [], D)
  rw [fX2_put] at h
  obtain ⟨hb1, h⟩ := mz_gd_some h
  refine mz_Go.run (gs := [mz_kz 0 g0 113, mz_kz 0 g0 114, mz_ix ((x1 * (6 : Int32)) + x2) 36]) (st' := (12, [some (.inr (.inr (some (g0, 113)))), some (.inl x1), some (.inl x2), some (.inl x3)], [], (mz_wi D g0 114 (((x1 * (6 : Int32)) + x2)).toNatClampNeg x3))) bX2_put_0 oX2_put_0 rfl ⟨hg0, hg0, hb1, trivial⟩ ?_
  cases h
  exact mz_Go.retv (by decide +kernel) rfl ⟨Nat.le_refl _, Nat.le_refl _⟩ rfl
def bX2_canAdd_0 : List mz_E := [(0, .aload_n 0, 0, 0, 0, 0, 0), (1, .getfield 9, 2, 0, 391, 0, 0), (4, .iload_n 1, 0, 0, 0, 0, 0), (5, .bipush 6, 0, 0, 0, 6, 0), (7, .imul, 0, 0, 0, 0, 0), (8, .iload_n 2, 0, 0, 0, 0, 0), (9, .iadd, 0, 0, 0, 0, 0), (10, .iaload, 0, 0, 0, 0, 0), (11, .ldc 31, 0, 0, 1177, 999999, 0), (13, .iload_n 3, 0, 0, 0, 0, 0), (14, .isub, 0, 0, 0, 0, 0), (15, .if_icmp .gt 7, 0, 22, 0, 0, 0)]
theorem oX2_canAdd_0 : bX2_canAdd_0.all (mz_ok RX2 cX2_canAdd 4) = true := by decide +kernel
def bX2_canAdd_22 : List mz_E := [(22, .iconst 0, 0, 0, 0, 0, 0)]
theorem oX2_canAdd_22 : bX2_canAdd_22.all (mz_ok RX2 cX2_canAdd 4) = true := by decide +kernel
def bX2_canAdd_18 : List mz_E := [(18, .iconst 1, 0, 0, 0, 1, 0), (19, .goto 4, 0, 23, 0, 0, 0)]
theorem oX2_canAdd_18 : bX2_canAdd_18.all (mz_ok RX2 cX2_canAdd 4) = true := by decide +kernel
abbrev IX2_canAdd : mz_I := (yX2_canAdd, cX2_canAdd, 4, (some .boolean), 0, 0, 0, 0)
theorem kX2_canAdd : mz_okm IX2_canAdd 1176 137 1174 3 = true := by decide +kernel
theorem vX2_canAdd : mz_okV IX2_canAdd 1174 1175 = true := by decide +kernel
def fX2_canAdd (g0 : Nat) (x1 : Int32) (x2 : Int32) (x3 : Int32) (D : mz_D) : Option Int32 := (mz_gd (mz_ix ((x1 * (6 : Int32)) + x2) 36) (if ((999999 : Int32) - x3) < (D.1 g0 114 (((x1 * (6 : Int32)) + x2)).toNatClampNeg) then (some (0 : Int32)) else (some (1 : Int32))))
set_option maxHeartbeats 4000000 in
theorem mX2_canAdd (g0 : Nat) (x1 : Int32) (x2 : Int32) (x3 : Int32) (D : mz_D) (hg0 : mz_tb g0 = true) (r : Int32) (h : fX2_canAdd g0 x1 x2 x3 D = some r) : mz_Met IX2_canAdd [.inr (.inr (some (g0, 113))), .inl x1, .inl x2, .inl x3] D (some (.inl r), D) := by
  refine mz_Met.of (by decide +kernel) (Nat.le_of_ble_eq_true rfl) ?_
  show mz_Go IX2_canAdd (some (.inl r), D) 0 0 (0, [some (.inr (.inr (some (g0, 113)))), some (.inl x1), some (.inl x2), some (.inl x3)], [], D)
  rw [fX2_canAdd] at h
  obtain ⟨hb1, h⟩ := mz_gd_some h
  refine mz_Go.run (gs := [mz_kz 0 g0 113, mz_kz 0 g0 114, mz_ix ((x1 * (6 : Int32)) + x2) 36]) (st' := (if ((999999 : Int32) - x3) < (D.1 g0 114 (((x1 * (6 : Int32)) + x2)).toNatClampNeg) then (22, [some (.inr (.inr (some (g0, 113)))), some (.inl x1), some (.inl x2), some (.inl x3)], [], D) else (18, [some (.inr (.inr (some (g0, 113)))), some (.inl x1), some (.inl x2), some (.inl x3)], [], D))) bX2_canAdd_0 oX2_canAdd_0 rfl ⟨hg0, hg0, hb1, trivial⟩ ?_
  refine mz_Go.ite (fun hc2 => ?_) (fun hc2 => ?_)
  · have h := mz_ifp hc2 h
    refine mz_Go.run (gs := []) (st' := (23, [some (.inr (.inr (some (g0, 113)))), some (.inl x1), some (.inl x2), some (.inl x3)], [.inl (0 : Int32)], D)) bX2_canAdd_22 oX2_canAdd_22 rfl trivial ?_
    cases h
    exact mz_Go.retz (by decide +kernel) rfl ⟨Nat.le_refl _, Nat.le_refl _⟩ (by decide) rfl
  · have h := mz_ifn hc2 h
    refine mz_Go.run (gs := []) (st' := (23, [some (.inr (.inr (some (g0, 113)))), some (.inl x1), some (.inl x2), some (.inl x3)], [.inl (1 : Int32)], D)) bX2_canAdd_18 oX2_canAdd_18 rfl trivial ?_
    cases h
    exact mz_Go.retz (by decide +kernel) rfl ⟨Nat.le_refl _, Nat.le_refl _⟩ (by decide) rfl
def bX2_add_0 : List mz_E := [(0, .aload_n 0, 0, 0, 0, 0, 0), (1, .iload_n 1, 0, 0, 0, 0, 0), (2, .iload_n 2, 0, 0, 0, 0, 0), (3, .iload_n 3, 0, 0, 0, 0, 0)]
theorem oX2_add_0 : bX2_add_0.all (mz_ok RX2 cX2_add 4) = true := by decide +kernel
def bX2_add_7 : List mz_E := [(7, .ifCond .ne 5, 0, 12, 0, 0, 0)]
theorem oX2_add_7 : bX2_add_7.all (mz_ok RX2 cX2_add 4) = true := by decide +kernel
def bX2_add_10 : List mz_E := [(10, .iconst 0, 0, 0, 0, 0, 0)]
theorem oX2_add_10 : bX2_add_10.all (mz_ok RX2 cX2_add 4) = true := by decide +kernel
def bX2_add_12 : List mz_E := [(12, .aload_n 0, 0, 0, 0, 0, 0), (13, .iload_n 1, 0, 0, 0, 0, 0), (14, .iload_n 2, 0, 0, 0, 0, 0), (15, .aload_n 0, 0, 0, 0, 0, 0), (16, .iload_n 1, 0, 0, 0, 0, 0), (17, .iload_n 2, 0, 0, 0, 0, 0)]
theorem oX2_add_12 : bX2_add_12.all (mz_ok RX2 cX2_add 4) = true := by decide +kernel
def bX2_add_21 : List mz_E := [(21, .iload_n 3, 0, 0, 0, 0, 0), (22, .iadd, 0, 0, 0, 0, 0)]
theorem oX2_add_21 : bX2_add_21.all (mz_ok RX2 cX2_add 4) = true := by decide +kernel
def bX2_add_26 : List mz_E := [(26, .iconst 1, 0, 0, 0, 1, 0)]
theorem oX2_add_26 : bX2_add_26.all (mz_ok RX2 cX2_add 4) = true := by decide +kernel
abbrev IX2_add : mz_I := (yX2_add, cX2_add, 4, (some .boolean), 0, 1, 0, 0)
theorem kX2_add : mz_okm IX2_add 1181 137 1179 3 = true := by decide +kernel
theorem vX2_add : mz_okV IX2_add 1179 1180 = true := by decide +kernel
def fX2_add (g0 : Nat) (x1 : Int32) (x2 : Int32) (x3 : Int32) (D : mz_D) : Option (Int32 × mz_D) := (Option.bind (fX2_canAdd g0 x1 x2 x3 D) fun q1 => (if q1 = 0 then (some ((0 : Int32), D)) else (Option.bind (fX2_get g0 x1 x2 D) fun q3 => (Option.bind (fX2_put g0 x1 x2 (q3 + x3) D) fun q4 => (some ((1 : Int32), q4))))))
set_option maxHeartbeats 4000000 in
theorem mX2_add (g0 : Nat) (x1 : Int32) (x2 : Int32) (x3 : Int32) (D : mz_D) (hg0 : mz_tb g0 = true) (r : (Int32 × mz_D)) (h : fX2_add g0 x1 x2 x3 D = some r) : mz_Met IX2_add [.inr (.inr (some (g0, 113))), .inl x1, .inl x2, .inl x3] D (some (.inl r.1), r.2) := by
  refine mz_Met.of (by decide +kernel) (Nat.le_of_ble_eq_true rfl) ?_
  show mz_Go IX2_add (some (.inl r.1), r.2) 0 0 (0, [some (.inr (.inr (some (g0, 113)))), some (.inl x1), some (.inl x2), some (.inl x3)], [], D)
  rw [fX2_add] at h
  refine mz_Go.run (gs := []) (st' := (4, [some (.inr (.inr (some (g0, 113)))), some (.inl x1), some (.inl x2), some (.inl x3)], [.inl x3, .inl x2, .inl x1, .inr (.inr (some (g0, 113)))], D)) bX2_add_0 oX2_add_0 rfl trivial ?_
  obtain ⟨q1, hq1, h⟩ := mz_bd_some h
  refine mz_Go.callV (I := IX2_add) (J := IX2_canAdd) (as := [.inl x1, .inl x2, .inl x3]) (ci := 2) (g := g0) (o := 113) (idx := 32) (pl := 1182) (rest := []) (mX2_canAdd g0 x1 x2 x3 D hg0 q1 hq1) kX2_canAdd vX2_canAdd (by decide +kernel) (by decide +kernel) (by decide +kernel) rfl rfl ⟨rfl, rfl⟩ rfl rfl hg0 rfl ?_
  refine mz_Go.run (gs := []) (st' := (if q1 = 0 then (10, [some (.inr (.inr (some (g0, 113)))), some (.inl x1), some (.inl x2), some (.inl x3)], [], D) else (12, [some (.inr (.inr (some (g0, 113)))), some (.inl x1), some (.inl x2), some (.inl x3)], [], D))) bX2_add_7 oX2_add_7 rfl trivial ?_
  refine mz_Go.ite (fun hc2 => ?_) (fun hc2 => ?_)
  · have h := mz_ifp hc2 h
    refine mz_Go.run (gs := []) (st' := (11, [some (.inr (.inr (some (g0, 113)))), some (.inl x1), some (.inl x2), some (.inl x3)], [.inl (0 : Int32)], D)) bX2_add_10 oX2_add_10 rfl trivial ?_
    cases h
    exact mz_Go.retz (by decide +kernel) rfl ⟨Nat.le_refl _, Nat.le_refl _⟩ (by decide) rfl
  · have h := mz_ifn hc2 h
    refine mz_Go.run (gs := []) (st' := (18, [some (.inr (.inr (some (g0, 113)))), some (.inl x1), some (.inl x2), some (.inl x3)], [.inl x2, .inl x1, .inr (.inr (some (g0, 113))), .inl x2, .inl x1, .inr (.inr (some (g0, 113)))], D)) bX2_add_12 oX2_add_12 rfl trivial ?_
    obtain ⟨q3, hq3, h⟩ := mz_bd_some h
    refine mz_Go.callV (I := IX2_add) (J := IX2_get) (as := [.inl x1, .inl x2]) (ci := 2) (g := g0) (o := 113) (idx := 36) (pl := 1183) (rest := [.inl x2, .inl x1, .inr (.inr (some (g0, 113)))]) (mX2_get g0 x1 x2 D hg0 q3 hq3) kX2_get vX2_get (by decide +kernel) (by decide +kernel) (by decide +kernel) rfl rfl ⟨rfl, rfl⟩ rfl rfl hg0 rfl ?_
    refine mz_Go.run (gs := []) (st' := (23, [some (.inr (.inr (some (g0, 113)))), some (.inl x1), some (.inl x2), some (.inl x3)], [.inl (q3 + x3), .inl x2, .inl x1, .inr (.inr (some (g0, 113)))], D)) bX2_add_21 oX2_add_21 rfl trivial ?_
    obtain ⟨q4, hq4, h⟩ := mz_bd_some h
    refine mz_Go.callV (I := IX2_add) (J := IX2_put) (as := [.inl x1, .inl x2, .inl (q3 + x3)]) (ci := 2) (g := g0) (o := 113) (idx := 40) (pl := 1187) (rest := []) (mX2_put g0 x1 x2 (q3 + x3) D hg0 q4 hq4) kX2_put vX2_put (by decide +kernel) (by decide +kernel) (by decide +kernel) rfl rfl ⟨rfl, rfl⟩ rfl rfl hg0 rfl ?_
    refine mz_Go.run (gs := []) (st' := (27, [some (.inr (.inr (some (g0, 113)))), some (.inl x1), some (.inl x2), some (.inl x3)], [.inl (1 : Int32)], q4)) bX2_add_26 oX2_add_26 rfl trivial ?_
    cases h
    exact mz_Go.retz (by decide +kernel) rfl ⟨Nat.le_refl _, Nat.le_refl _⟩ (by decide) rfl
def bJ9_max_7cf53_0 : List mz_E := [(0, .iload_n 0, 0, 0, 0, 0, 0), (1, .iload_n 1, 0, 0, 0, 0, 0), (2, .if_icmp .lt 7, 0, 9, 0, 0, 0)]
theorem oJ9_max_7cf53_0 : bJ9_max_7cf53_0.all (mz_ok RJ9 cJ9_max_7cf53 2) = true := by decide +kernel
def bJ9_max_7cf53_9 : List mz_E := [(9, .iload_n 1, 0, 0, 0, 0, 0)]
theorem oJ9_max_7cf53_9 : bJ9_max_7cf53_9.all (mz_ok RJ9 cJ9_max_7cf53 2) = true := by decide +kernel
def bJ9_max_7cf53_5 : List mz_E := [(5, .iload_n 0, 0, 0, 0, 0, 0), (6, .goto 4, 0, 10, 0, 0, 0)]
theorem oJ9_max_7cf53_5 : bJ9_max_7cf53_5.all (mz_ok RJ9 cJ9_max_7cf53 2) = true := by decide +kernel
abbrev IJ9_max_7cf53 : mz_I := (yJ9_max_7cf53, cJ9_max_7cf53, 2, (some .int), 9, 0, 0, 0)
theorem kJ9_max_7cf53 : mz_okm IJ9_max_7cf53 1316 143 1315 2 = true := by decide +kernel
theorem vJ9_max_7cf53 : mz_okS IJ9_max_7cf53 1315 = true := by decide +kernel
def fJ9_max_7cf53 (x0 : Int32) (x1 : Int32) : Int32 := (if x0 < x1 then x1 else x0)
set_option maxHeartbeats 4000000 in
theorem mJ9_max_7cf53 (x0 : Int32) (x1 : Int32) (D : mz_D) (r : Int32) (h : fJ9_max_7cf53 x0 x1 = r) : mz_Met IJ9_max_7cf53 [.inl x0, .inl x1] D (some (.inl r), D) := by
  refine mz_Met.of (by decide +kernel) (Nat.le_of_ble_eq_true rfl) ?_
  show mz_Go IJ9_max_7cf53 (some (.inl r), D) 0 0 (0, [some (.inl x0), some (.inl x1)], [], D)
  rw [fJ9_max_7cf53] at h
  refine mz_Go.run (gs := []) (st' := (if x0 < x1 then (9, [some (.inl x0), some (.inl x1)], [], D) else (5, [some (.inl x0), some (.inl x1)], [], D))) bJ9_max_7cf53_0 oJ9_max_7cf53_0 rfl trivial ?_
  refine mz_Go.ite (fun hc1 => ?_) (fun hc1 => ?_)
  · have h := mz_ifp hc1 h
    refine mz_Go.run (gs := []) (st' := (10, [some (.inl x0), some (.inl x1)], [.inl x1], D)) bJ9_max_7cf53_9 oJ9_max_7cf53_9 rfl trivial ?_
    subst h
    exact mz_Go.reti (by decide +kernel) rfl ⟨Nat.le_refl _, Nat.le_refl _⟩ rfl
  · have h := mz_ifn hc1 h
    refine mz_Go.run (gs := []) (st' := (10, [some (.inl x0), some (.inl x1)], [.inl x0], D)) bJ9_max_7cf53_5 oJ9_max_7cf53_5 rfl trivial ?_
    subst h
    exact mz_Go.reti (by decide +kernel) rfl ⟨Nat.le_refl _, Nat.le_refl _⟩ rfl
def bX2_lower_0 : List mz_E := [(0, .aload_n 0, 0, 0, 0, 0, 0), (1, .iload_n 1, 0, 0, 0, 0, 0), (2, .iload_n 2, 0, 0, 0, 0, 0), (3, .iconst 0, 0, 0, 0, 0, 0), (4, .aload_n 0, 0, 0, 0, 0, 0), (5, .iload_n 1, 0, 0, 0, 0, 0), (6, .iload_n 2, 0, 0, 0, 0, 0)]
theorem oX2_lower_0 : bX2_lower_0.all (mz_ok RX2 cX2_lower 4) = true := by decide +kernel
def bX2_lower_10 : List mz_E := [(10, .iload_n 3, 0, 0, 0, 0, 0), (11, .isub, 0, 0, 0, 0, 0)]
theorem oX2_lower_10 : bX2_lower_10.all (mz_ok RX2 cX2_lower 4) = true := by decide +kernel
abbrev IX2_lower : mz_I := (yX2_lower, cX2_lower, 4, none, 0, 1, 0, 0)
theorem kX2_lower : mz_okm IX2_lower 1313 137 1311 3 = true := by decide +kernel
theorem vX2_lower : mz_okV IX2_lower 1311 1312 = true := by decide +kernel
def fX2_lower (g0 : Nat) (x1 : Int32) (x2 : Int32) (x3 : Int32) (D : mz_D) : Option mz_D := (Option.bind (fX2_get g0 x1 x2 D) fun q1 => (Option.bind (fX2_put g0 x1 x2 (fJ9_max_7cf53 (0 : Int32) (q1 - x3)) D) fun q2 => (some q2)))
set_option maxHeartbeats 4000000 in
theorem mX2_lower (g0 : Nat) (x1 : Int32) (x2 : Int32) (x3 : Int32) (D : mz_D) (hg0 : mz_tb g0 = true) (r : mz_D) (h : fX2_lower g0 x1 x2 x3 D = some r) : mz_Met IX2_lower [.inr (.inr (some (g0, 113))), .inl x1, .inl x2, .inl x3] D (none, r) := by
  refine mz_Met.of (by decide +kernel) (Nat.le_of_ble_eq_true rfl) ?_
  show mz_Go IX2_lower (none, r) 0 0 (0, [some (.inr (.inr (some (g0, 113)))), some (.inl x1), some (.inl x2), some (.inl x3)], [], D)
  rw [fX2_lower] at h
  refine mz_Go.run (gs := []) (st' := (7, [some (.inr (.inr (some (g0, 113)))), some (.inl x1), some (.inl x2), some (.inl x3)], [.inl x2, .inl x1, .inr (.inr (some (g0, 113))), .inl (0 : Int32), .inl x2, .inl x1, .inr (.inr (some (g0, 113)))], D)) bX2_lower_0 oX2_lower_0 rfl trivial ?_
  obtain ⟨q1, hq1, h⟩ := mz_bd_some h
  refine mz_Go.callV (I := IX2_lower) (J := IX2_get) (as := [.inl x1, .inl x2]) (ci := 2) (g := g0) (o := 113) (idx := 36) (pl := 1183) (rest := [.inl (0 : Int32), .inl x2, .inl x1, .inr (.inr (some (g0, 113)))]) (mX2_get g0 x1 x2 D hg0 q1 hq1) kX2_get vX2_get (by decide +kernel) (by decide +kernel) (by decide +kernel) rfl rfl ⟨rfl, rfl⟩ rfl rfl hg0 rfl ?_
  refine mz_Go.run (gs := []) (st' := (12, [some (.inr (.inr (some (g0, 113)))), some (.inl x1), some (.inl x2), some (.inl x3)], [.inl (q1 - x3), .inl (0 : Int32), .inl x2, .inl x1, .inr (.inr (some (g0, 113)))], D)) bX2_lower_10 oX2_lower_10 rfl trivial ?_
  refine mz_Go.callS (I := IX2_lower) (J := IJ9_max_7cf53) (as := [.inl (0 : Int32), .inl (q1 - x3)]) (idx := 44) (pl := 1314) (rest := [.inl x2, .inl x1, .inr (.inr (some (g0, 113)))]) (mJ9_max_7cf53 (0 : Int32) (q1 - x3) D _ rfl) kJ9_max_7cf53 vJ9_max_7cf53 (by decide +kernel) (by decide +kernel) (by decide +kernel) rfl rfl ⟨rfl, rfl⟩ rfl ?_
  obtain ⟨q2, hq2, h⟩ := mz_bd_some h
  refine mz_Go.callV (I := IX2_lower) (J := IX2_put) (as := [.inl x1, .inl x2, .inl (fJ9_max_7cf53 (0 : Int32) (q1 - x3))]) (ci := 2) (g := g0) (o := 113) (idx := 40) (pl := 1187) (rest := []) (mX2_put g0 x1 x2 (fJ9_max_7cf53 (0 : Int32) (q1 - x3)) D hg0 q2 hq2) kX2_put vX2_put (by decide +kernel) (by decide +kernel) (by decide +kernel) rfl rfl ⟨rfl, rfl⟩ rfl rfl hg0 rfl ?_
  cases h
  exact mz_Go.retv (by decide +kernel) rfl ⟨Nat.le_refl _, Nat.le_refl _⟩ rfl
def bX2_balanceOf_0 : List mz_E := [(0, .iconst 0, 0, 0, 0, 0, 0), (1, .istore_n 2, 0, 0, 0, 0, 0), (2, .iconst 0, 0, 0, 0, 0, 0), (3, .istore_n 3, 0, 0, 0, 0, 0)]
theorem oX2_balanceOf_0 : bX2_balanceOf_0.all (mz_ok RX2 cX2_balanceOf 4) = true := by decide +kernel
def bX2_balanceOf_4 : List mz_E := [(4, .iload_n 3, 0, 0, 0, 0, 0), (5, .bipush 6, 0, 0, 0, 6, 0), (7, .if_icmp .ge 35, 0, 42, 0, 0, 0)]
theorem oX2_balanceOf_4 : bX2_balanceOf_4.all (mz_ok RX2 cX2_balanceOf 4) = true := by decide +kernel
def bX2_balanceOf_42 : List mz_E := [(42, .iload_n 2, 0, 0, 0, 0, 0)]
theorem oX2_balanceOf_42 : bX2_balanceOf_42.all (mz_ok RX2 cX2_balanceOf 4) = true := by decide +kernel
def bX2_balanceOf_10 : List mz_E := [(10, .iload_n 2, 0, 0, 0, 0, 0), (11, .aload_n 0, 0, 0, 0, 0, 0), (12, .getfield 9, 2, 0, 391, 0, 0), (15, .iload_n 3, 0, 0, 0, 0, 0), (16, .bipush 6, 0, 0, 0, 6, 0), (18, .imul, 0, 0, 0, 0, 0), (19, .iload_n 1, 0, 0, 0, 0, 0), (20, .iadd, 0, 0, 0, 0, 0), (21, .iaload, 0, 0, 0, 0, 0), (22, .aload_n 0, 0, 0, 0, 0, 0), (23, .getfield 9, 2, 0, 391, 0, 0), (26, .iload_n 1, 0, 0, 0, 0, 0), (27, .bipush 6, 0, 0, 0, 6, 0), (29, .imul, 0, 0, 0, 0, 0), (30, .iload_n 3, 0, 0, 0, 0, 0), (31, .iadd, 0, 0, 0, 0, 0), (32, .iaload, 0, 0, 0, 0, 0), (33, .isub, 0, 0, 0, 0, 0), (34, .iadd, 0, 0, 0, 0, 0), (35, .istore_n 2, 0, 0, 0, 0, 0), (36, .iinc 3 1, 0, 0, 0, 1, 0), (39, .goto (-35), 0, 4, 0, 0, 0)]
theorem oX2_balanceOf_10 : bX2_balanceOf_10.all (mz_ok RX2 cX2_balanceOf 4) = true := by decide +kernel
abbrev IX2_balanceOf : mz_I := (yX2_balanceOf, cX2_balanceOf, 4, (some .int), 0, 0, 0, 0)
theorem kX2_balanceOf : mz_okm IX2_balanceOf 1205 137 1203 1 = true := by decide +kernel
theorem vX2_balanceOf : mz_okV IX2_balanceOf 1203 1204 = true := by decide +kernel
def fX2_balanceOf_4 (g0 : Nat) (D : mz_D) : Nat → Int32 → Int32 → Int32 → Option Int32
  | 0 => fun _ _ _ => none
  | n + 1 => fun x1 x2 x3 => (if (6 : Int32) ≤ x3 then (some x2) else (mz_gd (mz_ix ((x3 * (6 : Int32)) + x1) 36) (mz_gd (mz_ix ((x1 * (6 : Int32)) + x3) 36) ((fX2_balanceOf_4 g0 D n) x1 (x2 + ((D.1 g0 114 (((x3 * (6 : Int32)) + x1)).toNatClampNeg) - (D.1 g0 114 (((x1 * (6 : Int32)) + x3)).toNatClampNeg))) (x3 + (1 : Int32))))))
set_option maxHeartbeats 4000000 in
theorem tX2_balanceOf_4 (g0 : Nat) (D : mz_D) (hg0 : mz_tb g0 = true) (r : Int32) : ∀ (n : Nat) (x1 : Int32) (x2 : Int32) (x3 : Int32), fX2_balanceOf_4 g0 D n x1 x2 x3 = some r → mz_Go IX2_balanceOf (some (.inl r), D) 0 0 (4, [some (.inr (.inr (some (g0, 113)))), some (.inl x1), some (.inl x2), some (.inl x3)], [], D) := by
  intro n
  induction n with
  | zero => intro x1 x2 x3 h; have h : (none : Option Int32) = some r := h; cases h
  | succ n ih =>
    intro x1 x2 x3 h
    rw [fX2_balanceOf_4] at h
    refine mz_Go.run (gs := []) (st' := (if (6 : Int32) ≤ x3 then (42, [some (.inr (.inr (some (g0, 113)))), some (.inl x1), some (.inl x2), some (.inl x3)], [], D) else (10, [some (.inr (.inr (some (g0, 113)))), some (.inl x1), some (.inl x2), some (.inl x3)], [], D))) bX2_balanceOf_4 oX2_balanceOf_4 rfl trivial ?_
    refine mz_Go.ite (fun hc1 => ?_) (fun hc1 => ?_)
    · have h := mz_ifp hc1 h
      refine mz_Go.run (gs := []) (st' := (43, [some (.inr (.inr (some (g0, 113)))), some (.inl x1), some (.inl x2), some (.inl x3)], [.inl x2], D)) bX2_balanceOf_42 oX2_balanceOf_42 rfl trivial ?_
      cases h
      exact mz_Go.reti (by decide +kernel) rfl ⟨Nat.le_refl _, Nat.le_refl _⟩ rfl
    · have h := mz_ifn hc1 h
      obtain ⟨hb2, h⟩ := mz_gd_some h
      obtain ⟨hb3, h⟩ := mz_gd_some h
      refine mz_Go.run (gs := [mz_kz 0 g0 113, mz_kz 0 g0 114, mz_ix ((x3 * (6 : Int32)) + x1) 36, mz_kz 0 g0 113, mz_kz 0 g0 114, mz_ix ((x1 * (6 : Int32)) + x3) 36]) (st' := (4, [some (.inr (.inr (some (g0, 113)))), some (.inl x1), some (.inl (x2 + ((D.1 g0 114 (((x3 * (6 : Int32)) + x1)).toNatClampNeg) - (D.1 g0 114 (((x1 * (6 : Int32)) + x3)).toNatClampNeg)))), some (.inl (x3 + (1 : Int32)))], [], D)) bX2_balanceOf_10 oX2_balanceOf_10 rfl ⟨hg0, hg0, hb2, hg0, hg0, hb3, trivial⟩ ?_
      exact mz_Go.drop [true, true, true, true] (ih x1 (x2 + ((D.1 g0 114 (((x3 * (6 : Int32)) + x1)).toNatClampNeg) - (D.1 g0 114 (((x1 * (6 : Int32)) + x3)).toNatClampNeg))) (x3 + (1 : Int32)) h)
def fX2_balanceOf (g0 : Nat) (x1 : Int32) (D : mz_D) : Option Int32 := (fX2_balanceOf_4 g0 D mz_N x1 (0 : Int32) (0 : Int32))
set_option maxHeartbeats 4000000 in
theorem mX2_balanceOf (g0 : Nat) (x1 : Int32) (D : mz_D) (hg0 : mz_tb g0 = true) (r : Int32) (h : fX2_balanceOf g0 x1 D = some r) : mz_Met IX2_balanceOf [.inr (.inr (some (g0, 113))), .inl x1] D (some (.inl r), D) := by
  refine mz_Met.of (by decide +kernel) (Nat.le_of_ble_eq_true rfl) ?_
  show mz_Go IX2_balanceOf (some (.inl r), D) 0 0 (0, [some (.inr (.inr (some (g0, 113)))), some (.inl x1), none, none], [], D)
  rw [fX2_balanceOf] at h
  refine mz_Go.run (gs := []) (st' := (4, [some (.inr (.inr (some (g0, 113)))), some (.inl x1), some (.inl (0 : Int32)), some (.inl (0 : Int32))], [], D)) bX2_balanceOf_0 oX2_balanceOf_0 rfl trivial ?_
  exact mz_Go.drop [true, true, true, true] (tX2_balanceOf_4 g0 D hg0 r mz_N x1 (0 : Int32) (0 : Int32) h)
def bX2_weigh_0 : List mz_E := [(0, .iconst 0, 0, 0, 0, 0, 0), (1, .istore_n 1, 0, 0, 0, 0, 0)]
theorem oX2_weigh_0 : bX2_weigh_0.all (mz_ok RX2 cX2_weigh 2) = true := by decide +kernel
def bX2_weigh_2 : List mz_E := [(2, .iload_n 1, 0, 0, 0, 0, 0), (3, .bipush 6, 0, 0, 0, 6, 0), (5, .if_icmp .ge 20, 0, 25, 0, 0, 0)]
theorem oX2_weigh_2 : bX2_weigh_2.all (mz_ok RX2 cX2_weigh 2) = true := by decide +kernel
def bX2_weigh_25 : List mz_E := [(25, .aload_n 0, 0, 0, 0, 0, 0), (26, .getfield 15, 2, 1, 392, 0, 0)]
theorem oX2_weigh_25 : bX2_weigh_25.all (mz_ok RX2 cX2_weigh 2) = true := by decide +kernel
def bX2_weigh_8 : List mz_E := [(8, .aload_n 0, 0, 0, 0, 0, 0), (9, .getfield 15, 2, 1, 392, 0, 0), (12, .iload_n 1, 0, 0, 0, 0, 0), (13, .aload_n 0, 0, 0, 0, 0, 0), (14, .iload_n 1, 0, 0, 0, 0, 0)]
theorem oX2_weigh_8 : bX2_weigh_8.all (mz_ok RX2 cX2_weigh 2) = true := by decide +kernel
def bX2_weigh_18 : List mz_E := [(18, .iastore, 0, 0, 0, 0, 0), (19, .iinc 1 1, 0, 0, 0, 1, 0), (22, .goto (-20), 0, 2, 0, 0, 0)]
theorem oX2_weigh_18 : bX2_weigh_18.all (mz_ok RX2 cX2_weigh 2) = true := by decide +kernel
abbrev IX2_weigh : mz_I := (yX2_weigh, cX2_weigh, 2, (some (.array .int)), 0, 1, 0, 0)
theorem kX2_weigh : mz_okm IX2_weigh 1328 137 1326 0 = true := by decide +kernel
theorem vX2_weigh : mz_okV IX2_weigh 1326 1327 = true := by decide +kernel
def fX2_weigh_2 (g0 : Nat) : Nat → Int32 → mz_D → Option mz_D
  | 0 => fun _ _ => none
  | n + 1 => fun x1 D => (if (6 : Int32) ≤ x1 then (some D) else (Option.bind (fX2_balanceOf g0 x1 D) fun q2 => (mz_gd (mz_ix x1 6) ((fX2_weigh_2 g0 n) (x1 + (1 : Int32)) (mz_wi D g0 115 (x1).toNatClampNeg q2)))))
set_option maxHeartbeats 4000000 in
theorem tX2_weigh_2 (g0 : Nat) (hg0 : mz_tb g0 = true) (r : mz_D) : ∀ (n : Nat) (x1 : Int32) (D : mz_D), fX2_weigh_2 g0 n x1 D = some r → mz_Go IX2_weigh (some (.inr (.inr (some (g0, 115)))), r) 0 0 (2, [some (.inr (.inr (some (g0, 113)))), some (.inl x1)], [], D) := by
  intro n
  induction n with
  | zero => intro x1 D h; have h : (none : Option mz_D) = some r := h; cases h
  | succ n ih =>
    intro x1 D h
    rw [fX2_weigh_2] at h
    refine mz_Go.run (gs := []) (st' := (if (6 : Int32) ≤ x1 then (25, [some (.inr (.inr (some (g0, 113)))), some (.inl x1)], [], D) else (8, [some (.inr (.inr (some (g0, 113)))), some (.inl x1)], [], D))) bX2_weigh_2 oX2_weigh_2 rfl trivial ?_
    refine mz_Go.ite (fun hc1 => ?_) (fun hc1 => ?_)
    · have h := mz_ifp hc1 h
      refine mz_Go.run (gs := [mz_kz 0 g0 113]) (st' := (29, [some (.inr (.inr (some (g0, 113)))), some (.inl x1)], [.inr (.inr (some (g0, 115)))], D)) bX2_weigh_25 oX2_weigh_25 rfl ⟨hg0, trivial⟩ ?_
      cases h
      exact mz_Go.reta (by decide +kernel) rfl ⟨Nat.le_refl _, Nat.le_refl _⟩ rfl
    · have h := mz_ifn hc1 h
      refine mz_Go.run (gs := [mz_kz 0 g0 113]) (st' := (15, [some (.inr (.inr (some (g0, 113)))), some (.inl x1)], [.inl x1, .inr (.inr (some (g0, 113))), .inl x1, .inr (.inr (some (g0, 115)))], D)) bX2_weigh_8 oX2_weigh_8 rfl ⟨hg0, trivial⟩ ?_
      obtain ⟨q2, hq2, h⟩ := mz_bd_some h
      refine mz_Go.callV (I := IX2_weigh) (J := IX2_balanceOf) (as := [.inl x1]) (ci := 2) (g := g0) (o := 113) (idx := 49) (pl := 1329) (rest := [.inl x1, .inr (.inr (some (g0, 115)))]) (mX2_balanceOf g0 x1 D hg0 q2 hq2) kX2_balanceOf vX2_balanceOf (by decide +kernel) (by decide +kernel) (by decide +kernel) rfl rfl ⟨rfl, rfl⟩ rfl rfl hg0 rfl ?_
      obtain ⟨hb3, h⟩ := mz_gd_some h
      refine mz_Go.run (gs := [mz_kz 0 g0 115, mz_ix x1 6]) (st' := (2, [some (.inr (.inr (some (g0, 113)))), some (.inl (x1 + (1 : Int32)))], [], (mz_wi D g0 115 (x1).toNatClampNeg q2))) bX2_weigh_18 oX2_weigh_18 rfl ⟨hg0, hb3, trivial⟩ ?_
      exact mz_Go.drop [true, true] (ih (x1 + (1 : Int32)) (mz_wi D g0 115 (x1).toNatClampNeg q2) h)
def fX2_weigh (g0 : Nat) (D : mz_D) : Option mz_D := (fX2_weigh_2 g0 mz_N (0 : Int32) D)
set_option maxHeartbeats 4000000 in
theorem mX2_weigh (g0 : Nat) (D : mz_D) (hg0 : mz_tb g0 = true) (r : mz_D) (h : fX2_weigh g0 D = some r) : mz_Met IX2_weigh [.inr (.inr (some (g0, 113)))] D (some (.inr (.inr (some (g0, 115)))), r) := by
  refine mz_Met.of (by decide +kernel) (Nat.le_of_ble_eq_true rfl) ?_
  show mz_Go IX2_weigh (some (.inr (.inr (some (g0, 115)))), r) 0 0 (0, [some (.inr (.inr (some (g0, 113)))), none], [], D)
  rw [fX2_weigh] at h
  refine mz_Go.run (gs := []) (st' := (2, [some (.inr (.inr (some (g0, 113)))), some (.inl (0 : Int32))], [], D)) bX2_weigh_0 oX2_weigh_0 rfl trivial ?_
  exact mz_Go.drop [true, true] (tX2_weigh_2 g0 hg0 r mz_N (0 : Int32) D h)
def bX2_fewestPayings_0 : List mz_E := [(0, .aload_n 0, 0, 0, 0, 0, 0)]
theorem oX2_fewestPayings_0 : bX2_fewestPayings_0.all (mz_ok RX2 cX2_fewestPayings 7) = true := by decide +kernel
def bX2_fewestPayings_4 : List mz_E := [(4, .pop, 0, 0, 0, 0, 0), (5, .iconst 1, 0, 0, 0, 1, 0), (6, .iload_n 1, 0, 0, 0, 0, 0), (7, .ishl, 0, 0, 0, 0, 0), (8, .istore_n 2, 0, 0, 0, 0, 0), (9, .aload_n 0, 0, 0, 0, 0, 0), (10, .getfield 18, 2, 2, 393, 0, 0), (13, .iconst 0, 0, 0, 0, 0, 0), (14, .iconst 0, 0, 0, 0, 0, 0), (15, .iastore, 0, 0, 0, 0, 0), (16, .iconst 1, 0, 0, 0, 1, 0), (17, .istore_n 3, 0, 0, 0, 0, 0)]
theorem oX2_fewestPayings_4 : bX2_fewestPayings_4.all (mz_ok RX2 cX2_fewestPayings 7) = true := by decide +kernel
def bX2_fewestPayings_18 : List mz_E := [(18, .iload_n 3, 0, 0, 0, 0, 0), (19, .iload_n 2, 0, 0, 0, 0, 0), (20, .if_icmp .ge 89, 0, 109, 0, 0, 0)]
theorem oX2_fewestPayings_18 : bX2_fewestPayings_18.all (mz_ok RX2 cX2_fewestPayings 7) = true := by decide +kernel
def bX2_fewestPayings_109 : List mz_E := [(109, .iload_n 1, 0, 0, 0, 0, 0), (110, .aload_n 0, 0, 0, 0, 0, 0), (111, .getfield 18, 2, 2, 393, 0, 0), (114, .iload_n 2, 0, 0, 0, 0, 0), (115, .iconst 1, 0, 0, 0, 1, 0), (116, .isub, 0, 0, 0, 0, 0), (117, .iaload, 0, 0, 0, 0, 0), (118, .isub, 0, 0, 0, 0, 0)]
theorem oX2_fewestPayings_109 : bX2_fewestPayings_109.all (mz_ok RX2 cX2_fewestPayings 7) = true := by decide +kernel
def bX2_fewestPayings_23 : List mz_E := [(23, .iconst 0, 0, 0, 0, 0, 0), (24, .istore 4, 0, 0, 0, 0, 0), (26, .iconst 0, 0, 0, 0, 0, 0), (27, .istore 5, 0, 0, 0, 0, 0), (29, .iconst 0, 0, 0, 0, 0, 0), (30, .istore 6, 0, 0, 0, 0, 0)]
theorem oX2_fewestPayings_23 : bX2_fewestPayings_23.all (mz_ok RX2 cX2_fewestPayings 7) = true := by decide +kernel
def bX2_fewestPayings_32 : List mz_E := [(32, .iload 6, 0, 0, 0, 0, 0), (34, .iload_n 1, 0, 0, 0, 0, 0), (35, .if_icmp .ge 48, 0, 83, 0, 0, 0)]
theorem oX2_fewestPayings_32 : bX2_fewestPayings_32.all (mz_ok RX2 cX2_fewestPayings 7) = true := by decide +kernel
def bX2_fewestPayings_83 : List mz_E := [(83, .aload_n 0, 0, 0, 0, 0, 0), (84, .getfield 18, 2, 2, 393, 0, 0), (87, .iload_n 3, 0, 0, 0, 0, 0), (88, .iload 5, 0, 0, 0, 0, 0), (90, .ifCond .ne 10, 0, 100, 0, 0, 0)]
theorem oX2_fewestPayings_83 : bX2_fewestPayings_83.all (mz_ok RX2 cX2_fewestPayings 7) = true := by decide +kernel
def bX2_fewestPayings_93 : List mz_E := [(93, .iload 4, 0, 0, 0, 0, 0), (95, .iconst 1, 0, 0, 0, 1, 0), (96, .iadd, 0, 0, 0, 0, 0), (97, .goto 5, 0, 102, 0, 0, 0), (102, .iastore, 0, 0, 0, 0, 0), (103, .iinc 3 1, 0, 0, 0, 1, 0), (106, .goto (-88), 0, 18, 0, 0, 0)]
theorem oX2_fewestPayings_93 : bX2_fewestPayings_93.all (mz_ok RX2 cX2_fewestPayings 7) = true := by decide +kernel
def bX2_fewestPayings_100 : List mz_E := [(100, .iload 4, 0, 0, 0, 0, 0), (102, .iastore, 0, 0, 0, 0, 0), (103, .iinc 3 1, 0, 0, 0, 1, 0), (106, .goto (-88), 0, 18, 0, 0, 0)]
theorem oX2_fewestPayings_100 : bX2_fewestPayings_100.all (mz_ok RX2 cX2_fewestPayings 7) = true := by decide +kernel
def bX2_fewestPayings_38 : List mz_E := [(38, .iload_n 3, 0, 0, 0, 0, 0), (39, .iload 6, 0, 0, 0, 0, 0)]
theorem oX2_fewestPayings_38 : bX2_fewestPayings_38.all (mz_ok RX2 cX2_fewestPayings 7) = true := by decide +kernel
def bX2_fewestPayings_44 : List mz_E := [(44, .ifCond .eq 33, 0, 77, 0, 0, 0)]
theorem oX2_fewestPayings_44 : bX2_fewestPayings_44.all (mz_ok RX2 cX2_fewestPayings 7) = true := by decide +kernel
def bX2_fewestPayings_77 : List mz_E := [(77, .iinc 6 1, 0, 0, 0, 1, 0), (80, .goto (-48), 0, 32, 0, 0, 0)]
theorem oX2_fewestPayings_77 : bX2_fewestPayings_77.all (mz_ok RX2 cX2_fewestPayings 7) = true := by decide +kernel
def bX2_fewestPayings_47 : List mz_E := [(47, .iload 4, 0, 0, 0, 0, 0), (49, .aload_n 0, 0, 0, 0, 0, 0), (50, .getfield 18, 2, 2, 393, 0, 0), (53, .iload_n 3, 0, 0, 0, 0, 0), (54, .iconst 1, 0, 0, 0, 1, 0), (55, .iload 6, 0, 0, 0, 0, 0), (57, .ishl, 0, 0, 0, 0, 0), (58, .ixor, 0, 0, 0, 0, 0), (59, .iaload, 0, 0, 0, 0, 0)]
theorem oX2_fewestPayings_47 : bX2_fewestPayings_47.all (mz_ok RX2 cX2_fewestPayings 7) = true := by decide +kernel
def bX2_fewestPayings_63 : List mz_E := [(63, .istore 4, 0, 0, 0, 0, 0), (65, .iload 5, 0, 0, 0, 0, 0), (67, .aload_n 0, 0, 0, 0, 0, 0), (68, .getfield 15, 2, 1, 392, 0, 0), (71, .iload 6, 0, 0, 0, 0, 0), (73, .iaload, 0, 0, 0, 0, 0), (74, .iadd, 0, 0, 0, 0, 0), (75, .istore 5, 0, 0, 0, 0, 0), (77, .iinc 6 1, 0, 0, 0, 1, 0), (80, .goto (-48), 0, 32, 0, 0, 0)]
theorem oX2_fewestPayings_63 : bX2_fewestPayings_63.all (mz_ok RX2 cX2_fewestPayings 7) = true := by decide +kernel
abbrev IX2_fewestPayings : mz_I := (yX2_fewestPayings, cX2_fewestPayings, 7, (some .int), 0, 2, 0, 0)
theorem kX2_fewestPayings : mz_okm IX2_fewestPayings 1324 137 1322 1 = true := by decide +kernel
theorem vX2_fewestPayings : mz_okV IX2_fewestPayings 1322 1323 = true := by decide +kernel
def fX2_fewestPayings_32 (g0 : Nat) (k18 : Int32 → Int32 → Int32 → mz_D → Option (Int32 × mz_D)) : Nat → Int32 → Int32 → Int32 → Int32 → Int32 → Int32 → mz_D → Option (Int32 × mz_D)
  | 0 => fun _ _ _ _ _ _ _ => none
  | n + 1 => fun x1 x2 x3 x4 x5 x6 D => (if x1 ≤ x6 then (if x5 = 0 then (mz_gd (mz_ix x3 64) (k18 x1 x2 (x3 + (1 : Int32)) (mz_wi D g0 116 (x3).toNatClampNeg (x4 + (1 : Int32))))) else (mz_gd (mz_ix x3 64) (k18 x1 x2 (x3 + (1 : Int32)) (mz_wi D g0 116 (x3).toNatClampNeg x4)))) else (if (fX11_isIn x3 x6) = 0 then ((fX2_fewestPayings_32 g0 k18 n) x1 x2 x3 x4 x5 (x6 + (1 : Int32)) D) else (mz_gd (mz_ix (x3 ^^^ ((1 : Int32) <<< (x6 &&& 31))) 64) (mz_gd (mz_ix x6 6) ((fX2_fewestPayings_32 g0 k18 n) x1 x2 x3 (fJ9_max_7cf53 x4 (D.1 g0 116 ((x3 ^^^ ((1 : Int32) <<< (x6 &&& 31)))).toNatClampNeg)) (x5 + (D.1 g0 115 (x6).toNatClampNeg)) (x6 + (1 : Int32)) D)))))
set_option maxHeartbeats 4000000 in
theorem tX2_fewestPayings_32 (g0 : Nat) (hg0 : mz_tb g0 = true) (r : (Int32 × mz_D)) (k18 : Int32 → Int32 → Int32 → mz_D → Option (Int32 × mz_D)) (hk18 : ∀ (x1 : Int32) (x2 : Int32) (x3 : Int32) (D : mz_D), k18 x1 x2 x3 D = some r → mz_Go IX2_fewestPayings (some (.inl r.1), r.2) 0 0 (18, [some (.inr (.inr (some (g0, 113)))), some (.inl x1), some (.inl x2), some (.inl x3), none, none, none], [], D)) : ∀ (n : Nat) (x1 : Int32) (x2 : Int32) (x3 : Int32) (x4 : Int32) (x5 : Int32) (x6 : Int32) (D : mz_D), fX2_fewestPayings_32 g0 k18 n x1 x2 x3 x4 x5 x6 D = some r → mz_Go IX2_fewestPayings (some (.inl r.1), r.2) 0 0 (32, [some (.inr (.inr (some (g0, 113)))), some (.inl x1), some (.inl x2), some (.inl x3), some (.inl x4), some (.inl x5), some (.inl x6)], [], D) := by
  intro n
  induction n with
  | zero => intro x1 x2 x3 x4 x5 x6 D h; have h : (none : Option (Int32 × mz_D)) = some r := h; cases h
  | succ n ih =>
    intro x1 x2 x3 x4 x5 x6 D h
    rw [fX2_fewestPayings_32] at h
    refine mz_Go.run (gs := []) (st' := (if x1 ≤ x6 then (83, [some (.inr (.inr (some (g0, 113)))), some (.inl x1), some (.inl x2), some (.inl x3), some (.inl x4), some (.inl x5), some (.inl x6)], [], D) else (38, [some (.inr (.inr (some (g0, 113)))), some (.inl x1), some (.inl x2), some (.inl x3), some (.inl x4), some (.inl x5), some (.inl x6)], [], D))) bX2_fewestPayings_32 oX2_fewestPayings_32 rfl trivial ?_
    refine mz_Go.ite (fun hc1 => ?_) (fun hc1 => ?_)
    · have h := mz_ifp hc1 h
      refine mz_Go.run (gs := [mz_kz 0 g0 113]) (st' := (if x5 = 0 then (93, [some (.inr (.inr (some (g0, 113)))), some (.inl x1), some (.inl x2), some (.inl x3), some (.inl x4), some (.inl x5), some (.inl x6)], [.inl x3, .inr (.inr (some (g0, 116)))], D) else (100, [some (.inr (.inr (some (g0, 113)))), some (.inl x1), some (.inl x2), some (.inl x3), some (.inl x4), some (.inl x5), some (.inl x6)], [.inl x3, .inr (.inr (some (g0, 116)))], D))) bX2_fewestPayings_83 oX2_fewestPayings_83 rfl ⟨hg0, trivial⟩ ?_
      refine mz_Go.ite (fun hc2 => ?_) (fun hc2 => ?_)
      · have h := mz_ifp hc2 h
        obtain ⟨hb3, h⟩ := mz_gd_some h
        refine mz_Go.run (gs := [mz_kz 0 g0 116, mz_ix x3 64]) (st' := (18, [some (.inr (.inr (some (g0, 113)))), some (.inl x1), some (.inl x2), some (.inl (x3 + (1 : Int32))), some (.inl x4), some (.inl x5), some (.inl x6)], [], (mz_wi D g0 116 (x3).toNatClampNeg (x4 + (1 : Int32))))) bX2_fewestPayings_93 oX2_fewestPayings_93 rfl ⟨hg0, hb3, trivial⟩ ?_
        exact mz_Go.drop [true, true, true, true, false, false, false] (hk18 x1 x2 (x3 + (1 : Int32)) (mz_wi D g0 116 (x3).toNatClampNeg (x4 + (1 : Int32))) h)
      · have h := mz_ifn hc2 h
        obtain ⟨hb4, h⟩ := mz_gd_some h
        refine mz_Go.run (gs := [mz_kz 0 g0 116, mz_ix x3 64]) (st' := (18, [some (.inr (.inr (some (g0, 113)))), some (.inl x1), some (.inl x2), some (.inl (x3 + (1 : Int32))), some (.inl x4), some (.inl x5), some (.inl x6)], [], (mz_wi D g0 116 (x3).toNatClampNeg x4))) bX2_fewestPayings_100 oX2_fewestPayings_100 rfl ⟨hg0, hb4, trivial⟩ ?_
        exact mz_Go.drop [true, true, true, true, false, false, false] (hk18 x1 x2 (x3 + (1 : Int32)) (mz_wi D g0 116 (x3).toNatClampNeg x4) h)
    · have h := mz_ifn hc1 h
      refine mz_Go.run (gs := []) (st' := (41, [some (.inr (.inr (some (g0, 113)))), some (.inl x1), some (.inl x2), some (.inl x3), some (.inl x4), some (.inl x5), some (.inl x6)], [.inl x6, .inl x3], D)) bX2_fewestPayings_38 oX2_fewestPayings_38 rfl trivial ?_
      refine mz_Go.callSN (I := IX2_fewestPayings) (J := IX11_isIn) (as := [.inl x3, .inl x6]) (idx := 57) (pl := 1330) (rest := []) (mX11_isIn x3 x6 D _ rfl) kX11_isIn vX11_isIn (by decide +kernel) (by decide +kernel) (by decide +kernel) rfl rfl ⟨rfl, rfl⟩ rfl ?_
      refine mz_Go.run (gs := []) (st' := (if (fX11_isIn x3 x6) = 0 then (77, [some (.inr (.inr (some (g0, 113)))), some (.inl x1), some (.inl x2), some (.inl x3), some (.inl x4), some (.inl x5), some (.inl x6)], [], D) else (47, [some (.inr (.inr (some (g0, 113)))), some (.inl x1), some (.inl x2), some (.inl x3), some (.inl x4), some (.inl x5), some (.inl x6)], [], D))) bX2_fewestPayings_44 oX2_fewestPayings_44 rfl trivial ?_
      refine mz_Go.ite (fun hc5 => ?_) (fun hc5 => ?_)
      · have h := mz_ifp hc5 h
        refine mz_Go.run (gs := []) (st' := (32, [some (.inr (.inr (some (g0, 113)))), some (.inl x1), some (.inl x2), some (.inl x3), some (.inl x4), some (.inl x5), some (.inl (x6 + (1 : Int32)))], [], D)) bX2_fewestPayings_77 oX2_fewestPayings_77 rfl trivial ?_
        exact mz_Go.drop [true, true, true, true, true, true, true] (ih x1 x2 x3 x4 x5 (x6 + (1 : Int32)) D h)
      · have h := mz_ifn hc5 h
        obtain ⟨hb6, h⟩ := mz_gd_some h
        refine mz_Go.run (gs := [mz_kz 0 g0 113, mz_kz 0 g0 116, mz_ix (x3 ^^^ ((1 : Int32) <<< (x6 &&& 31))) 64]) (st' := (60, [some (.inr (.inr (some (g0, 113)))), some (.inl x1), some (.inl x2), some (.inl x3), some (.inl x4), some (.inl x5), some (.inl x6)], [.inl (D.1 g0 116 ((x3 ^^^ ((1 : Int32) <<< (x6 &&& 31)))).toNatClampNeg), .inl x4], D)) bX2_fewestPayings_47 oX2_fewestPayings_47 rfl ⟨hg0, hg0, hb6, trivial⟩ ?_
        refine mz_Go.callS (I := IX2_fewestPayings) (J := IJ9_max_7cf53) (as := [.inl x4, .inl (D.1 g0 116 ((x3 ^^^ ((1 : Int32) <<< (x6 &&& 31)))).toNatClampNeg)]) (idx := 44) (pl := 1314) (rest := []) (mJ9_max_7cf53 x4 (D.1 g0 116 ((x3 ^^^ ((1 : Int32) <<< (x6 &&& 31)))).toNatClampNeg) D _ rfl) kJ9_max_7cf53 vJ9_max_7cf53 (by decide +kernel) (by decide +kernel) (by decide +kernel) rfl rfl ⟨rfl, rfl⟩ rfl ?_
        obtain ⟨hb7, h⟩ := mz_gd_some h
        refine mz_Go.run (gs := [mz_kz 0 g0 113, mz_kz 0 g0 115, mz_ix x6 6]) (st' := (32, [some (.inr (.inr (some (g0, 113)))), some (.inl x1), some (.inl x2), some (.inl x3), some (.inl (fJ9_max_7cf53 x4 (D.1 g0 116 ((x3 ^^^ ((1 : Int32) <<< (x6 &&& 31)))).toNatClampNeg))), some (.inl (x5 + (D.1 g0 115 (x6).toNatClampNeg))), some (.inl (x6 + (1 : Int32)))], [], D)) bX2_fewestPayings_63 oX2_fewestPayings_63 rfl ⟨hg0, hg0, hb7, trivial⟩ ?_
        exact mz_Go.drop [true, true, true, true, true, true, true] (ih x1 x2 x3 (fJ9_max_7cf53 x4 (D.1 g0 116 ((x3 ^^^ ((1 : Int32) <<< (x6 &&& 31)))).toNatClampNeg)) (x5 + (D.1 g0 115 (x6).toNatClampNeg)) (x6 + (1 : Int32)) D h)
def fX2_fewestPayings_18 (g0 : Nat) : Nat → Int32 → Int32 → Int32 → mz_D → Option (Int32 × mz_D)
  | 0 => fun _ _ _ _ => none
  | n + 1 => fun x1 x2 x3 D => (if x2 ≤ x3 then (mz_gd (mz_ix (x2 - (1 : Int32)) 64) (some ((x1 - (D.1 g0 116 ((x2 - (1 : Int32))).toNatClampNeg)), D))) else (fX2_fewestPayings_32 g0 (fX2_fewestPayings_18 g0 n) mz_N x1 x2 x3 (0 : Int32) (0 : Int32) (0 : Int32) D))
set_option maxHeartbeats 4000000 in
theorem tX2_fewestPayings_18 (g0 : Nat) (hg0 : mz_tb g0 = true) (r : (Int32 × mz_D)) : ∀ (n : Nat) (x1 : Int32) (x2 : Int32) (x3 : Int32) (D : mz_D), fX2_fewestPayings_18 g0 n x1 x2 x3 D = some r → mz_Go IX2_fewestPayings (some (.inl r.1), r.2) 0 0 (18, [some (.inr (.inr (some (g0, 113)))), some (.inl x1), some (.inl x2), some (.inl x3), none, none, none], [], D) := by
  intro n
  induction n with
  | zero => intro x1 x2 x3 D h; have h : (none : Option (Int32 × mz_D)) = some r := h; cases h
  | succ n ih =>
    intro x1 x2 x3 D h
    rw [fX2_fewestPayings_18] at h
    refine mz_Go.run (gs := []) (st' := (if x2 ≤ x3 then (109, [some (.inr (.inr (some (g0, 113)))), some (.inl x1), some (.inl x2), some (.inl x3), none, none, none], [], D) else (23, [some (.inr (.inr (some (g0, 113)))), some (.inl x1), some (.inl x2), some (.inl x3), none, none, none], [], D))) bX2_fewestPayings_18 oX2_fewestPayings_18 rfl trivial ?_
    refine mz_Go.ite (fun hc1 => ?_) (fun hc1 => ?_)
    · have h := mz_ifp hc1 h
      obtain ⟨hb2, h⟩ := mz_gd_some h
      refine mz_Go.run (gs := [mz_kz 0 g0 113, mz_kz 0 g0 116, mz_ix (x2 - (1 : Int32)) 64]) (st' := (119, [some (.inr (.inr (some (g0, 113)))), some (.inl x1), some (.inl x2), some (.inl x3), none, none, none], [.inl (x1 - (D.1 g0 116 ((x2 - (1 : Int32))).toNatClampNeg))], D)) bX2_fewestPayings_109 oX2_fewestPayings_109 rfl ⟨hg0, hg0, hb2, trivial⟩ ?_
      cases h
      exact mz_Go.reti (by decide +kernel) rfl ⟨Nat.le_refl _, Nat.le_refl _⟩ rfl
    · have h := mz_ifn hc1 h
      refine mz_Go.run (gs := []) (st' := (32, [some (.inr (.inr (some (g0, 113)))), some (.inl x1), some (.inl x2), some (.inl x3), some (.inl (0 : Int32)), some (.inl (0 : Int32)), some (.inl (0 : Int32))], [], D)) bX2_fewestPayings_23 oX2_fewestPayings_23 rfl trivial ?_
      exact mz_Go.drop [true, true, true, true, true, true, true] (tX2_fewestPayings_32 g0 hg0 r (fX2_fewestPayings_18 g0 n) ih mz_N x1 x2 x3 (0 : Int32) (0 : Int32) (0 : Int32) D h)
def fX2_fewestPayings (g0 : Nat) (x1 : Int32) (D : mz_D) : Option (Int32 × mz_D) := (Option.bind (fX2_weigh g0 D) fun q1 => (fX2_fewestPayings_18 g0 mz_N x1 ((1 : Int32) <<< (x1 &&& 31)) (1 : Int32) (mz_wi q1 g0 116 ((0 : Int32)).toNatClampNeg (0 : Int32))))
set_option maxHeartbeats 4000000 in
theorem mX2_fewestPayings (g0 : Nat) (x1 : Int32) (D : mz_D) (hg0 : mz_tb g0 = true) (r : (Int32 × mz_D)) (h : fX2_fewestPayings g0 x1 D = some r) : mz_Met IX2_fewestPayings [.inr (.inr (some (g0, 113))), .inl x1] D (some (.inl r.1), r.2) := by
  refine mz_Met.of (by decide +kernel) (Nat.le_of_ble_eq_true rfl) ?_
  show mz_Go IX2_fewestPayings (some (.inl r.1), r.2) 0 0 (0, [some (.inr (.inr (some (g0, 113)))), some (.inl x1), none, none, none, none, none], [], D)
  rw [fX2_fewestPayings] at h
  refine mz_Go.run (gs := []) (st' := (1, [some (.inr (.inr (some (g0, 113)))), some (.inl x1), none, none, none, none, none], [.inr (.inr (some (g0, 113)))], D)) bX2_fewestPayings_0 oX2_fewestPayings_0 rfl trivial ?_
  obtain ⟨q1, hq1, h⟩ := mz_bd_some h
  refine mz_Go.callV (I := IX2_fewestPayings) (J := IX2_weigh) (as := []) (ci := 2) (g := g0) (o := 113) (idx := 53) (pl := 1325) (rest := []) (mX2_weigh g0 D hg0 q1 hq1) kX2_weigh vX2_weigh (by decide +kernel) (by decide +kernel) (by decide +kernel) rfl rfl ⟨rfl, rfl⟩ rfl rfl hg0 rfl ?_
  refine mz_Go.run (gs := [mz_kz 0 g0 113, mz_kz 0 g0 116, mz_ix (0 : Int32) 64]) (st' := (18, [some (.inr (.inr (some (g0, 113)))), some (.inl x1), some (.inl ((1 : Int32) <<< (x1 &&& 31))), some (.inl (1 : Int32)), none, none, none], [], (mz_wi q1 g0 116 ((0 : Int32)).toNatClampNeg (0 : Int32)))) bX2_fewestPayings_4 oX2_fewestPayings_4 rfl ⟨hg0, hg0, (by decide), trivial⟩ ?_
  exact mz_Go.drop [true, true, true, true, false, false, false] (tX2_fewestPayings_18 g0 hg0 r mz_N x1 ((1 : Int32) <<< (x1 &&& 31)) (1 : Int32) (mz_wi q1 g0 116 ((0 : Int32)).toNatClampNeg (0 : Int32)) h)
def bX2_creditorsOf_0 : List mz_E := [(0, .iconst 0, 0, 0, 0, 0, 0), (1, .istore_n 2, 0, 0, 0, 0, 0), (2, .iconst 0, 0, 0, 0, 0, 0), (3, .istore_n 3, 0, 0, 0, 0, 0)]
theorem oX2_creditorsOf_0 : bX2_creditorsOf_0.all (mz_ok RX2 cX2_creditorsOf 4) = true := by decide +kernel
def bX2_creditorsOf_4 : List mz_E := [(4, .iload_n 3, 0, 0, 0, 0, 0), (5, .bipush 6, 0, 0, 0, 6, 0), (7, .if_icmp .ge 24, 0, 31, 0, 0, 0)]
theorem oX2_creditorsOf_4 : bX2_creditorsOf_4.all (mz_ok RX2 cX2_creditorsOf 4) = true := by decide +kernel
def bX2_creditorsOf_31 : List mz_E := [(31, .iload_n 2, 0, 0, 0, 0, 0)]
theorem oX2_creditorsOf_31 : bX2_creditorsOf_31.all (mz_ok RX2 cX2_creditorsOf 4) = true := by decide +kernel
def bX2_creditorsOf_10 : List mz_E := [(10, .aload_n 0, 0, 0, 0, 0, 0), (11, .iload_n 1, 0, 0, 0, 0, 0), (12, .iload_n 3, 0, 0, 0, 0, 0)]
theorem oX2_creditorsOf_10 : bX2_creditorsOf_10.all (mz_ok RX2 cX2_creditorsOf 4) = true := by decide +kernel
def bX2_creditorsOf_16 : List mz_E := [(16, .ifCond .le 9, 0, 25, 0, 0, 0)]
theorem oX2_creditorsOf_16 : bX2_creditorsOf_16.all (mz_ok RX2 cX2_creditorsOf 4) = true := by decide +kernel
def bX2_creditorsOf_25 : List mz_E := [(25, .iinc 3 1, 0, 0, 0, 1, 0), (28, .goto (-24), 0, 4, 0, 0, 0)]
theorem oX2_creditorsOf_25 : bX2_creditorsOf_25.all (mz_ok RX2 cX2_creditorsOf 4) = true := by decide +kernel
def bX2_creditorsOf_19 : List mz_E := [(19, .iload_n 2, 0, 0, 0, 0, 0), (20, .iconst 1, 0, 0, 0, 1, 0), (21, .iload_n 3, 0, 0, 0, 0, 0), (22, .ishl, 0, 0, 0, 0, 0), (23, .ior, 0, 0, 0, 0, 0), (24, .istore_n 2, 0, 0, 0, 0, 0), (25, .iinc 3 1, 0, 0, 0, 1, 0), (28, .goto (-24), 0, 4, 0, 0, 0)]
theorem oX2_creditorsOf_19 : bX2_creditorsOf_19.all (mz_ok RX2 cX2_creditorsOf 4) = true := by decide +kernel
abbrev IX2_creditorsOf : mz_I := (yX2_creditorsOf, cX2_creditorsOf, 4, (some .int), 0, 1, 0, 0)
theorem kX2_creditorsOf : mz_okm IX2_creditorsOf 1367 137 1365 1 = true := by decide +kernel
theorem vX2_creditorsOf : mz_okV IX2_creditorsOf 1365 1366 = true := by decide +kernel
def fX2_creditorsOf_4 (g0 : Nat) (D : mz_D) : Nat → Int32 → Int32 → Int32 → Option Int32
  | 0 => fun _ _ _ => none
  | n + 1 => fun x1 x2 x3 => (if (6 : Int32) ≤ x3 then (some x2) else (Option.bind (fX2_get g0 x1 x3 D) fun q2 => (if q2 ≤ 0 then ((fX2_creditorsOf_4 g0 D n) x1 x2 (x3 + (1 : Int32))) else ((fX2_creditorsOf_4 g0 D n) x1 (x2 ||| ((1 : Int32) <<< (x3 &&& 31))) (x3 + (1 : Int32))))))
set_option maxHeartbeats 4000000 in
theorem tX2_creditorsOf_4 (g0 : Nat) (D : mz_D) (hg0 : mz_tb g0 = true) (r : Int32) : ∀ (n : Nat) (x1 : Int32) (x2 : Int32) (x3 : Int32), fX2_creditorsOf_4 g0 D n x1 x2 x3 = some r → mz_Go IX2_creditorsOf (some (.inl r), D) 0 0 (4, [some (.inr (.inr (some (g0, 113)))), some (.inl x1), some (.inl x2), some (.inl x3)], [], D) := by
  intro n
  induction n with
  | zero => intro x1 x2 x3 h; have h : (none : Option Int32) = some r := h; cases h
  | succ n ih =>
    intro x1 x2 x3 h
    rw [fX2_creditorsOf_4] at h
    refine mz_Go.run (gs := []) (st' := (if (6 : Int32) ≤ x3 then (31, [some (.inr (.inr (some (g0, 113)))), some (.inl x1), some (.inl x2), some (.inl x3)], [], D) else (10, [some (.inr (.inr (some (g0, 113)))), some (.inl x1), some (.inl x2), some (.inl x3)], [], D))) bX2_creditorsOf_4 oX2_creditorsOf_4 rfl trivial ?_
    refine mz_Go.ite (fun hc1 => ?_) (fun hc1 => ?_)
    · have h := mz_ifp hc1 h
      refine mz_Go.run (gs := []) (st' := (32, [some (.inr (.inr (some (g0, 113)))), some (.inl x1), some (.inl x2), some (.inl x3)], [.inl x2], D)) bX2_creditorsOf_31 oX2_creditorsOf_31 rfl trivial ?_
      cases h
      exact mz_Go.reti (by decide +kernel) rfl ⟨Nat.le_refl _, Nat.le_refl _⟩ rfl
    · have h := mz_ifn hc1 h
      refine mz_Go.run (gs := []) (st' := (13, [some (.inr (.inr (some (g0, 113)))), some (.inl x1), some (.inl x2), some (.inl x3)], [.inl x3, .inl x1, .inr (.inr (some (g0, 113)))], D)) bX2_creditorsOf_10 oX2_creditorsOf_10 rfl trivial ?_
      obtain ⟨q2, hq2, h⟩ := mz_bd_some h
      refine mz_Go.callV (I := IX2_creditorsOf) (J := IX2_get) (as := [.inl x1, .inl x3]) (ci := 2) (g := g0) (o := 113) (idx := 36) (pl := 1183) (rest := []) (mX2_get g0 x1 x3 D hg0 q2 hq2) kX2_get vX2_get (by decide +kernel) (by decide +kernel) (by decide +kernel) rfl rfl ⟨rfl, rfl⟩ rfl rfl hg0 rfl ?_
      refine mz_Go.run (gs := []) (st' := (if q2 ≤ 0 then (25, [some (.inr (.inr (some (g0, 113)))), some (.inl x1), some (.inl x2), some (.inl x3)], [], D) else (19, [some (.inr (.inr (some (g0, 113)))), some (.inl x1), some (.inl x2), some (.inl x3)], [], D))) bX2_creditorsOf_16 oX2_creditorsOf_16 rfl trivial ?_
      refine mz_Go.ite (fun hc3 => ?_) (fun hc3 => ?_)
      · have h := mz_ifp hc3 h
        refine mz_Go.run (gs := []) (st' := (4, [some (.inr (.inr (some (g0, 113)))), some (.inl x1), some (.inl x2), some (.inl (x3 + (1 : Int32)))], [], D)) bX2_creditorsOf_25 oX2_creditorsOf_25 rfl trivial ?_
        exact mz_Go.drop [true, true, true, true] (ih x1 x2 (x3 + (1 : Int32)) h)
      · have h := mz_ifn hc3 h
        refine mz_Go.run (gs := []) (st' := (4, [some (.inr (.inr (some (g0, 113)))), some (.inl x1), some (.inl (x2 ||| ((1 : Int32) <<< (x3 &&& 31)))), some (.inl (x3 + (1 : Int32)))], [], D)) bX2_creditorsOf_19 oX2_creditorsOf_19 rfl trivial ?_
        exact mz_Go.drop [true, true, true, true] (ih x1 (x2 ||| ((1 : Int32) <<< (x3 &&& 31))) (x3 + (1 : Int32)) h)
def fX2_creditorsOf (g0 : Nat) (x1 : Int32) (D : mz_D) : Option Int32 := (fX2_creditorsOf_4 g0 D mz_N x1 (0 : Int32) (0 : Int32))
set_option maxHeartbeats 4000000 in
theorem mX2_creditorsOf (g0 : Nat) (x1 : Int32) (D : mz_D) (hg0 : mz_tb g0 = true) (r : Int32) (h : fX2_creditorsOf g0 x1 D = some r) : mz_Met IX2_creditorsOf [.inr (.inr (some (g0, 113))), .inl x1] D (some (.inl r), D) := by
  refine mz_Met.of (by decide +kernel) (Nat.le_of_ble_eq_true rfl) ?_
  show mz_Go IX2_creditorsOf (some (.inl r), D) 0 0 (0, [some (.inr (.inr (some (g0, 113)))), some (.inl x1), none, none], [], D)
  rw [fX2_creditorsOf] at h
  refine mz_Go.run (gs := []) (st' := (4, [some (.inr (.inr (some (g0, 113)))), some (.inl x1), some (.inl (0 : Int32)), some (.inl (0 : Int32))], [], D)) bX2_creditorsOf_0 oX2_creditorsOf_0 rfl trivial ?_
  exact mz_Go.drop [true, true, true, true] (tX2_creditorsOf_4 g0 D hg0 r mz_N x1 (0 : Int32) (0 : Int32) h)
def bX2_countTies_0 : List mz_E := [(0, .iconst 0, 0, 0, 0, 0, 0), (1, .istore_n 1, 0, 0, 0, 0, 0), (2, .iconst 0, 0, 0, 0, 0, 0), (3, .istore_n 2, 0, 0, 0, 0, 0)]
theorem oX2_countTies_0 : bX2_countTies_0.all (mz_ok RX2 cX2_countTies 4) = true := by decide +kernel
def bX2_countTies_4 : List mz_E := [(4, .iload_n 2, 0, 0, 0, 0, 0), (5, .bipush 6, 0, 0, 0, 6, 0), (7, .if_icmp .ge 46, 0, 53, 0, 0, 0)]
theorem oX2_countTies_4 : bX2_countTies_4.all (mz_ok RX2 cX2_countTies 4) = true := by decide +kernel
def bX2_countTies_53 : List mz_E := [(53, .iload_n 1, 0, 0, 0, 0, 0)]
theorem oX2_countTies_53 : bX2_countTies_53.all (mz_ok RX2 cX2_countTies 4) = true := by decide +kernel
def bX2_countTies_10 : List mz_E := [(10, .iload_n 2, 0, 0, 0, 0, 0), (11, .iconst 1, 0, 0, 0, 1, 0), (12, .iadd, 0, 0, 0, 0, 0), (13, .istore_n 3, 0, 0, 0, 0, 0)]
theorem oX2_countTies_10 : bX2_countTies_10.all (mz_ok RX2 cX2_countTies 4) = true := by decide +kernel
def bX2_countTies_14 : List mz_E := [(14, .iload_n 3, 0, 0, 0, 0, 0), (15, .bipush 6, 0, 0, 0, 6, 0), (17, .if_icmp .ge 30, 0, 47, 0, 0, 0)]
theorem oX2_countTies_14 : bX2_countTies_14.all (mz_ok RX2 cX2_countTies 4) = true := by decide +kernel
def bX2_countTies_47 : List mz_E := [(47, .iinc 2 1, 0, 0, 0, 1, 0), (50, .goto (-46), 0, 4, 0, 0, 0)]
theorem oX2_countTies_47 : bX2_countTies_47.all (mz_ok RX2 cX2_countTies 4) = true := by decide +kernel
def bX2_countTies_20 : List mz_E := [(20, .aload_n 0, 0, 0, 0, 0, 0), (21, .iload_n 2, 0, 0, 0, 0, 0), (22, .iload_n 3, 0, 0, 0, 0, 0)]
theorem oX2_countTies_20 : bX2_countTies_20.all (mz_ok RX2 cX2_countTies 4) = true := by decide +kernel
def bX2_countTies_26 : List mz_E := [(26, .ifCond .gt 12, 0, 38, 0, 0, 0)]
theorem oX2_countTies_26 : bX2_countTies_26.all (mz_ok RX2 cX2_countTies 4) = true := by decide +kernel
def bX2_countTies_38 : List mz_E := [(38, .iinc 1 1, 0, 0, 0, 1, 0), (41, .iinc 3 1, 0, 0, 0, 1, 0), (44, .goto (-30), 0, 14, 0, 0, 0)]
theorem oX2_countTies_38 : bX2_countTies_38.all (mz_ok RX2 cX2_countTies 4) = true := by decide +kernel
def bX2_countTies_29 : List mz_E := [(29, .aload_n 0, 0, 0, 0, 0, 0), (30, .iload_n 3, 0, 0, 0, 0, 0), (31, .iload_n 2, 0, 0, 0, 0, 0)]
theorem oX2_countTies_29 : bX2_countTies_29.all (mz_ok RX2 cX2_countTies 4) = true := by decide +kernel
def bX2_countTies_35 : List mz_E := [(35, .ifCond .le 6, 0, 41, 0, 0, 0)]
theorem oX2_countTies_35 : bX2_countTies_35.all (mz_ok RX2 cX2_countTies 4) = true := by decide +kernel
def bX2_countTies_41 : List mz_E := [(41, .iinc 3 1, 0, 0, 0, 1, 0), (44, .goto (-30), 0, 14, 0, 0, 0)]
theorem oX2_countTies_41 : bX2_countTies_41.all (mz_ok RX2 cX2_countTies 4) = true := by decide +kernel
abbrev IX2_countTies : mz_I := (yX2_countTies, cX2_countTies, 4, (some .int), 0, 1, 0, 0)
theorem kX2_countTies : mz_okm IX2_countTies 1338 137 1336 0 = true := by decide +kernel
theorem vX2_countTies : mz_okV IX2_countTies 1336 1337 = true := by decide +kernel
def fX2_countTies_14 (g0 : Nat) (D : mz_D) (k4 : Int32 → Int32 → Option Int32) : Nat → Int32 → Int32 → Int32 → Option Int32
  | 0 => fun _ _ _ => none
  | n + 1 => fun x1 x2 x3 => (if (6 : Int32) ≤ x3 then (k4 x1 (x2 + (1 : Int32))) else (Option.bind (fX2_get g0 x2 x3 D) fun q2 => (if 0 < q2 then ((fX2_countTies_14 g0 D k4 n) (x1 + (1 : Int32)) x2 (x3 + (1 : Int32))) else (Option.bind (fX2_get g0 x3 x2 D) fun q4 => (if q4 ≤ 0 then ((fX2_countTies_14 g0 D k4 n) x1 x2 (x3 + (1 : Int32))) else ((fX2_countTies_14 g0 D k4 n) (x1 + (1 : Int32)) x2 (x3 + (1 : Int32))))))))
set_option maxHeartbeats 4000000 in
theorem tX2_countTies_14 (g0 : Nat) (D : mz_D) (hg0 : mz_tb g0 = true) (r : Int32) (k4 : Int32 → Int32 → Option Int32) (hk4 : ∀ (x1 : Int32) (x2 : Int32), k4 x1 x2 = some r → mz_Go IX2_countTies (some (.inl r), D) 0 0 (4, [some (.inr (.inr (some (g0, 113)))), some (.inl x1), some (.inl x2), none], [], D)) : ∀ (n : Nat) (x1 : Int32) (x2 : Int32) (x3 : Int32), fX2_countTies_14 g0 D k4 n x1 x2 x3 = some r → mz_Go IX2_countTies (some (.inl r), D) 0 0 (14, [some (.inr (.inr (some (g0, 113)))), some (.inl x1), some (.inl x2), some (.inl x3)], [], D) := by
  intro n
  induction n with
  | zero => intro x1 x2 x3 h; have h : (none : Option Int32) = some r := h; cases h
  | succ n ih =>
    intro x1 x2 x3 h
    rw [fX2_countTies_14] at h
    refine mz_Go.run (gs := []) (st' := (if (6 : Int32) ≤ x3 then (47, [some (.inr (.inr (some (g0, 113)))), some (.inl x1), some (.inl x2), some (.inl x3)], [], D) else (20, [some (.inr (.inr (some (g0, 113)))), some (.inl x1), some (.inl x2), some (.inl x3)], [], D))) bX2_countTies_14 oX2_countTies_14 rfl trivial ?_
    refine mz_Go.ite (fun hc1 => ?_) (fun hc1 => ?_)
    · have h := mz_ifp hc1 h
      refine mz_Go.run (gs := []) (st' := (4, [some (.inr (.inr (some (g0, 113)))), some (.inl x1), some (.inl (x2 + (1 : Int32))), some (.inl x3)], [], D)) bX2_countTies_47 oX2_countTies_47 rfl trivial ?_
      exact mz_Go.drop [true, true, true, false] (hk4 x1 (x2 + (1 : Int32)) h)
    · have h := mz_ifn hc1 h
      refine mz_Go.run (gs := []) (st' := (23, [some (.inr (.inr (some (g0, 113)))), some (.inl x1), some (.inl x2), some (.inl x3)], [.inl x3, .inl x2, .inr (.inr (some (g0, 113)))], D)) bX2_countTies_20 oX2_countTies_20 rfl trivial ?_
      obtain ⟨q2, hq2, h⟩ := mz_bd_some h
      refine mz_Go.callV (I := IX2_countTies) (J := IX2_get) (as := [.inl x2, .inl x3]) (ci := 2) (g := g0) (o := 113) (idx := 36) (pl := 1183) (rest := []) (mX2_get g0 x2 x3 D hg0 q2 hq2) kX2_get vX2_get (by decide +kernel) (by decide +kernel) (by decide +kernel) rfl rfl ⟨rfl, rfl⟩ rfl rfl hg0 rfl ?_
      refine mz_Go.run (gs := []) (st' := (if 0 < q2 then (38, [some (.inr (.inr (some (g0, 113)))), some (.inl x1), some (.inl x2), some (.inl x3)], [], D) else (29, [some (.inr (.inr (some (g0, 113)))), some (.inl x1), some (.inl x2), some (.inl x3)], [], D))) bX2_countTies_26 oX2_countTies_26 rfl trivial ?_
      refine mz_Go.ite (fun hc3 => ?_) (fun hc3 => ?_)
      · have h := mz_ifp hc3 h
        refine mz_Go.run (gs := []) (st' := (14, [some (.inr (.inr (some (g0, 113)))), some (.inl (x1 + (1 : Int32))), some (.inl x2), some (.inl (x3 + (1 : Int32)))], [], D)) bX2_countTies_38 oX2_countTies_38 rfl trivial ?_
        exact mz_Go.drop [true, true, true, true] (ih (x1 + (1 : Int32)) x2 (x3 + (1 : Int32)) h)
      · have h := mz_ifn hc3 h
        refine mz_Go.run (gs := []) (st' := (32, [some (.inr (.inr (some (g0, 113)))), some (.inl x1), some (.inl x2), some (.inl x3)], [.inl x2, .inl x3, .inr (.inr (some (g0, 113)))], D)) bX2_countTies_29 oX2_countTies_29 rfl trivial ?_
        obtain ⟨q4, hq4, h⟩ := mz_bd_some h
        refine mz_Go.callV (I := IX2_countTies) (J := IX2_get) (as := [.inl x3, .inl x2]) (ci := 2) (g := g0) (o := 113) (idx := 36) (pl := 1183) (rest := []) (mX2_get g0 x3 x2 D hg0 q4 hq4) kX2_get vX2_get (by decide +kernel) (by decide +kernel) (by decide +kernel) rfl rfl ⟨rfl, rfl⟩ rfl rfl hg0 rfl ?_
        refine mz_Go.run (gs := []) (st' := (if q4 ≤ 0 then (41, [some (.inr (.inr (some (g0, 113)))), some (.inl x1), some (.inl x2), some (.inl x3)], [], D) else (38, [some (.inr (.inr (some (g0, 113)))), some (.inl x1), some (.inl x2), some (.inl x3)], [], D))) bX2_countTies_35 oX2_countTies_35 rfl trivial ?_
        refine mz_Go.ite (fun hc5 => ?_) (fun hc5 => ?_)
        · have h := mz_ifp hc5 h
          refine mz_Go.run (gs := []) (st' := (14, [some (.inr (.inr (some (g0, 113)))), some (.inl x1), some (.inl x2), some (.inl (x3 + (1 : Int32)))], [], D)) bX2_countTies_41 oX2_countTies_41 rfl trivial ?_
          exact mz_Go.drop [true, true, true, true] (ih x1 x2 (x3 + (1 : Int32)) h)
        · have h := mz_ifn hc5 h
          refine mz_Go.run (gs := []) (st' := (14, [some (.inr (.inr (some (g0, 113)))), some (.inl (x1 + (1 : Int32))), some (.inl x2), some (.inl (x3 + (1 : Int32)))], [], D)) bX2_countTies_38 oX2_countTies_38 rfl trivial ?_
          exact mz_Go.drop [true, true, true, true] (ih (x1 + (1 : Int32)) x2 (x3 + (1 : Int32)) h)
def fX2_countTies_4 (g0 : Nat) (D : mz_D) : Nat → Int32 → Int32 → Option Int32
  | 0 => fun _ _ => none
  | n + 1 => fun x1 x2 => (if (6 : Int32) ≤ x2 then (some x1) else (fX2_countTies_14 g0 D (fX2_countTies_4 g0 D n) mz_N x1 x2 (x2 + (1 : Int32))))
set_option maxHeartbeats 4000000 in
theorem tX2_countTies_4 (g0 : Nat) (D : mz_D) (hg0 : mz_tb g0 = true) (r : Int32) : ∀ (n : Nat) (x1 : Int32) (x2 : Int32), fX2_countTies_4 g0 D n x1 x2 = some r → mz_Go IX2_countTies (some (.inl r), D) 0 0 (4, [some (.inr (.inr (some (g0, 113)))), some (.inl x1), some (.inl x2), none], [], D) := by
  intro n
  induction n with
  | zero => intro x1 x2 h; have h : (none : Option Int32) = some r := h; cases h
  | succ n ih =>
    intro x1 x2 h
    rw [fX2_countTies_4] at h
    refine mz_Go.run (gs := []) (st' := (if (6 : Int32) ≤ x2 then (53, [some (.inr (.inr (some (g0, 113)))), some (.inl x1), some (.inl x2), none], [], D) else (10, [some (.inr (.inr (some (g0, 113)))), some (.inl x1), some (.inl x2), none], [], D))) bX2_countTies_4 oX2_countTies_4 rfl trivial ?_
    refine mz_Go.ite (fun hc1 => ?_) (fun hc1 => ?_)
    · have h := mz_ifp hc1 h
      refine mz_Go.run (gs := []) (st' := (54, [some (.inr (.inr (some (g0, 113)))), some (.inl x1), some (.inl x2), none], [.inl x1], D)) bX2_countTies_53 oX2_countTies_53 rfl trivial ?_
      cases h
      exact mz_Go.reti (by decide +kernel) rfl ⟨Nat.le_refl _, Nat.le_refl _⟩ rfl
    · have h := mz_ifn hc1 h
      refine mz_Go.run (gs := []) (st' := (14, [some (.inr (.inr (some (g0, 113)))), some (.inl x1), some (.inl x2), some (.inl (x2 + (1 : Int32)))], [], D)) bX2_countTies_10 oX2_countTies_10 rfl trivial ?_
      exact mz_Go.drop [true, true, true, true] (tX2_countTies_14 g0 D hg0 r (fX2_countTies_4 g0 D n) ih mz_N x1 x2 (x2 + (1 : Int32)) h)
def fX2_countTies (g0 : Nat) (D : mz_D) : Option Int32 := (fX2_countTies_4 g0 D mz_N (0 : Int32) (0 : Int32))
set_option maxHeartbeats 4000000 in
theorem mX2_countTies (g0 : Nat) (D : mz_D) (hg0 : mz_tb g0 = true) (r : Int32) (h : fX2_countTies g0 D = some r) : mz_Met IX2_countTies [.inr (.inr (some (g0, 113)))] D (some (.inl r), D) := by
  refine mz_Met.of (by decide +kernel) (Nat.le_of_ble_eq_true rfl) ?_
  show mz_Go IX2_countTies (some (.inl r), D) 0 0 (0, [some (.inr (.inr (some (g0, 113)))), none, none, none], [], D)
  rw [fX2_countTies] at h
  refine mz_Go.run (gs := []) (st' := (4, [some (.inr (.inr (some (g0, 113)))), some (.inl (0 : Int32)), some (.inl (0 : Int32)), none], [], D)) bX2_countTies_0 oX2_countTies_0 rfl trivial ?_
  exact mz_Go.drop [true, true, true, false] (tX2_countTies_4 g0 D hg0 r mz_N (0 : Int32) (0 : Int32) h)
def bX3_begin_0 : List mz_E := [(0, .aload_n 0, 0, 0, 0, 0, 0), (1, .iload_n 1, 0, 0, 0, 0, 0), (2, .putfield 91, 3, 7, 529, 0, 0), (5, .aload_n 0, 0, 0, 0, 0, 0), (6, .iconst 0, 0, 0, 0, 0, 0), (7, .putfield 84, 3, 0, 521, 0, 0), (10, .aload_n 0, 0, 0, 0, 0, 0), (11, .iconst 0, 0, 0, 0, 0, 0), (12, .putfield 21, 3, 1, 523, 0, 0), (15, .aload_n 0, 0, 0, 0, 0, 0), (16, .iconst 0, 0, 0, 0, 0, 0), (17, .putfield 25, 3, 2, 524, 0, 0), (20, .aload_n 0, 0, 0, 0, 0, 0), (21, .iconst 0, 0, 0, 0, 0, 0), (22, .putfield 28, 3, 3, 525, 0, 0), (25, .aload_n 0, 0, 0, 0, 0, 0), (26, .iconst 0, 0, 0, 0, 0, 0), (27, .putfield 31, 3, 4, 526, 0, 0), (30, .aload_n 0, 0, 0, 0, 0, 0), (31, .iconst 0, 0, 0, 0, 0, 0), (32, .putfield 69, 3, 8, 530, 0, 0), (35, .aload_n 0, 0, 0, 0, 0, 0), (36, .iconst 0, 0, 0, 0, 0, 0), (37, .putfield 34, 3, 5, 527, 0, 0), (40, .aload_n 0, 0, 0, 0, 0, 0), (41, .iconst 0, 0, 0, 0, 0, 0), (42, .putfield 66, 3, 6, 528, 0, 0)]
theorem oX3_begin_0 : bX3_begin_0.all (mz_ok RX3 cX3_begin 2) = true := by decide +kernel
abbrev IX3_begin : mz_I := (yX3_begin, cX3_begin, 2, none, 0, 0, 0, 0)
theorem kX3_begin : mz_okm IX3_begin 1494 140 1493 1 = true := by decide +kernel
theorem vX3_begin : mz_okV IX3_begin 1493 35 = true := by decide +kernel
theorem mX3_begin (x1 : Int32) (D : mz_D) : mz_Met IX3_begin [.inr (.inr (some (0, 9))), .inl x1] D (none, (mz_wi (mz_wi (mz_wi (mz_wi (mz_wi (mz_wi (mz_wi (mz_wi (mz_wi D 0 9 7 x1) 0 9 0 (0 : Int32)) 0 9 1 (0 : Int32)) 0 9 2 (0 : Int32)) 0 9 3 (0 : Int32)) 0 9 4 (0 : Int32)) 0 9 8 (0 : Int32)) 0 9 5 (0 : Int32)) 0 9 6 (0 : Int32))) := by
  refine mz_Met.of (by decide +kernel) (Nat.le_of_ble_eq_true rfl) ?_
  show mz_Go IX3_begin (none, (mz_wi (mz_wi (mz_wi (mz_wi (mz_wi (mz_wi (mz_wi (mz_wi (mz_wi D 0 9 7 x1) 0 9 0 (0 : Int32)) 0 9 1 (0 : Int32)) 0 9 2 (0 : Int32)) 0 9 3 (0 : Int32)) 0 9 4 (0 : Int32)) 0 9 8 (0 : Int32)) 0 9 5 (0 : Int32)) 0 9 6 (0 : Int32))) 0 0 (0, [some (.inr (.inr (some (0, 9)))), some (.inl x1)], [], D)
  refine mz_Go.run (gs := [mz_kz 0 0 9, mz_kz 0 0 9, mz_kz 0 0 9, mz_kz 0 0 9, mz_kz 0 0 9, mz_kz 0 0 9, mz_kz 0 0 9, mz_kz 0 0 9, mz_bo (0 : Int32), mz_kz 0 0 9, mz_bo (0 : Int32)]) (st' := (45, [some (.inr (.inr (some (0, 9)))), some (.inl x1)], [], (mz_wi (mz_wi (mz_wi (mz_wi (mz_wi (mz_wi (mz_wi (mz_wi (mz_wi D 0 9 7 x1) 0 9 0 (0 : Int32)) 0 9 1 (0 : Int32)) 0 9 2 (0 : Int32)) 0 9 3 (0 : Int32)) 0 9 4 (0 : Int32)) 0 9 8 (0 : Int32)) 0 9 5 (0 : Int32)) 0 9 6 (0 : Int32)))) bX3_begin_0 oX3_begin_0 rfl ⟨rfl, rfl, rfl, rfl, rfl, rfl, rfl, rfl, (by decide), rfl, (by decide), trivial⟩ ?_
  exact mz_Go.retv (by decide +kernel) rfl ⟨Nat.le_refl _, Nat.le_refl _⟩ rfl
def bX4_has_0 : List mz_E := [(0, .iload_n 1, 0, 0, 0, 0, 0), (1, .ifCond .lt 15, 0, 16, 0, 0, 0)]
theorem oX4_has_0 : bX4_has_0.all (mz_ok RX4 cX4_has 2) = true := by decide +kernel
def bX4_has_16 : List mz_E := [(16, .iconst 0, 0, 0, 0, 0, 0)]
theorem oX4_has_16 : bX4_has_16.all (mz_ok RX4 cX4_has 2) = true := by decide +kernel
def bX4_has_4 : List mz_E := [(4, .iload_n 1, 0, 0, 0, 0, 0), (5, .aload_n 0, 0, 0, 0, 0, 0), (6, .getfield 34, 4, 0, 286, 0, 0), (9, .if_icmp .ge 7, 0, 16, 0, 0, 0)]
theorem oX4_has_4 : bX4_has_4.all (mz_ok RX4 cX4_has 2) = true := by decide +kernel
def bX4_has_12 : List mz_E := [(12, .iconst 1, 0, 0, 0, 1, 0), (13, .goto 4, 0, 17, 0, 0, 0)]
theorem oX4_has_12 : bX4_has_12.all (mz_ok RX4 cX4_has 2) = true := by decide +kernel
abbrev IX4_has : mz_I := (yX4_has, cX4_has, 2, (some .boolean), 0, 0, 0, 0)
theorem kX4_has : mz_okm IX4_has 1045 135 1043 1 = true := by decide +kernel
theorem vX4_has : mz_okV IX4_has 1043 1044 = true := by decide +kernel
def fX4_has (g0 : Nat) (x1 : Int32) (D : mz_D) : Int32 := (if x1 < 0 then (0 : Int32) else (if (D.1 g0 101 0) ≤ x1 then (0 : Int32) else (1 : Int32)))
set_option maxHeartbeats 4000000 in
theorem mX4_has (g0 : Nat) (x1 : Int32) (D : mz_D) (hg0 : mz_tb g0 = true) (r : Int32) (h : fX4_has g0 x1 D = r) : mz_Met IX4_has [.inr (.inr (some (g0, 101))), .inl x1] D (some (.inl r), D) := by
  refine mz_Met.of (by decide +kernel) (Nat.le_of_ble_eq_true rfl) ?_
  show mz_Go IX4_has (some (.inl r), D) 0 0 (0, [some (.inr (.inr (some (g0, 101)))), some (.inl x1)], [], D)
  rw [fX4_has] at h
  refine mz_Go.run (gs := []) (st' := (if x1 < 0 then (16, [some (.inr (.inr (some (g0, 101)))), some (.inl x1)], [], D) else (4, [some (.inr (.inr (some (g0, 101)))), some (.inl x1)], [], D))) bX4_has_0 oX4_has_0 rfl trivial ?_
  refine mz_Go.ite (fun hc1 => ?_) (fun hc1 => ?_)
  · have h := mz_ifp hc1 h
    refine mz_Go.run (gs := []) (st' := (17, [some (.inr (.inr (some (g0, 101)))), some (.inl x1)], [.inl (0 : Int32)], D)) bX4_has_16 oX4_has_16 rfl trivial ?_
    subst h
    exact mz_Go.retz (by decide +kernel) rfl ⟨Nat.le_refl _, Nat.le_refl _⟩ (by decide) rfl
  · have h := mz_ifn hc1 h
    refine mz_Go.run (gs := [mz_kz 0 g0 101]) (st' := (if (D.1 g0 101 0) ≤ x1 then (16, [some (.inr (.inr (some (g0, 101)))), some (.inl x1)], [], D) else (12, [some (.inr (.inr (some (g0, 101)))), some (.inl x1)], [], D))) bX4_has_4 oX4_has_4 rfl ⟨hg0, trivial⟩ ?_
    refine mz_Go.ite (fun hc2 => ?_) (fun hc2 => ?_)
    · have h := mz_ifp hc2 h
      refine mz_Go.run (gs := []) (st' := (17, [some (.inr (.inr (some (g0, 101)))), some (.inl x1)], [.inl (0 : Int32)], D)) bX4_has_16 oX4_has_16 rfl trivial ?_
      subst h
      exact mz_Go.retz (by decide +kernel) rfl ⟨Nat.le_refl _, Nat.le_refl _⟩ (by decide) rfl
    · have h := mz_ifn hc2 h
      refine mz_Go.run (gs := []) (st' := (17, [some (.inr (.inr (some (g0, 101)))), some (.inl x1)], [.inl (1 : Int32)], D)) bX4_has_12 oX4_has_12 rfl trivial ?_
      subst h
      exact mz_Go.retz (by decide +kernel) rfl ⟨Nat.le_refl _, Nat.le_refl _⟩ (by decide) rfl
def bX4_everyone_0 : List mz_E := [(0, .iconst 1, 0, 0, 0, 1, 0), (1, .aload_n 0, 0, 0, 0, 0, 0), (2, .getfield 34, 4, 0, 286, 0, 0), (5, .ishl, 0, 0, 0, 0, 0), (6, .iconst 1, 0, 0, 0, 1, 0), (7, .isub, 0, 0, 0, 0, 0)]
theorem oX4_everyone_0 : bX4_everyone_0.all (mz_ok RX4 cX4_everyone 1) = true := by decide +kernel
abbrev IX4_everyone : mz_I := (yX4_everyone, cX4_everyone, 1, (some .int), 0, 0, 0, 0)
theorem kX4_everyone : mz_okm IX4_everyone 875 135 873 0 = true := by decide +kernel
theorem vX4_everyone : mz_okV IX4_everyone 873 874 = true := by decide +kernel
theorem mX4_everyone (g0 : Nat) (D : mz_D) (hg0 : mz_tb g0 = true) : mz_Met IX4_everyone [.inr (.inr (some (g0, 101)))] D (some (.inl (((1 : Int32) <<< ((D.1 g0 101 0) &&& 31)) - (1 : Int32))), D) := by
  refine mz_Met.of (by decide +kernel) (Nat.le_of_ble_eq_true rfl) ?_
  show mz_Go IX4_everyone (some (.inl (((1 : Int32) <<< ((D.1 g0 101 0) &&& 31)) - (1 : Int32))), D) 0 0 (0, [some (.inr (.inr (some (g0, 101))))], [], D)
  refine mz_Go.run (gs := [mz_kz 0 g0 101]) (st' := (8, [some (.inr (.inr (some (g0, 101))))], [.inl (((1 : Int32) <<< ((D.1 g0 101 0) &&& 31)) - (1 : Int32))], D)) bX4_everyone_0 oX4_everyone_0 rfl ⟨hg0, trivial⟩ ?_
  exact mz_Go.reti (by decide +kernel) rfl ⟨Nat.le_refl _, Nat.le_refl _⟩ rfl
def bX1_spread_0 : List mz_E := [(0, .iload_n 1, 0, 0, 0, 0, 0)]
theorem oX1_spread_0 : bX1_spread_0.all (mz_ok RX1 cX1_spread 7) = true := by decide +kernel
def bX1_spread_4 : List mz_E := [(4, .istore_n 3, 0, 0, 0, 0, 0), (5, .iload_n 3, 0, 0, 0, 0, 0), (6, .ifCond .ne 4, 0, 10, 0, 0, 0)]
theorem oX1_spread_4 : bX1_spread_4.all (mz_ok RX1 cX1_spread 7) = true := by decide +kernel
def bX1_spread_10 : List mz_E := [(10, .iload_n 0, 0, 0, 0, 0, 0), (11, .iload_n 3, 0, 0, 0, 0, 0), (12, .idiv, 0, 0, 0, 0, 0), (13, .istore 4, 0, 0, 0, 0, 0), (15, .iload_n 0, 0, 0, 0, 0, 0), (16, .iload_n 3, 0, 0, 0, 0, 0), (17, .irem, 0, 0, 0, 0, 0), (18, .istore 5, 0, 0, 0, 0, 0), (20, .iconst 0, 0, 0, 0, 0, 0), (21, .istore 6, 0, 0, 0, 0, 0)]
theorem oX1_spread_10 : bX1_spread_10.all (mz_ok RX1 cX1_spread 7) = true := by decide +kernel
def bX1_spread_23 : List mz_E := [(23, .iload 6, 0, 0, 0, 0, 0), (25, .aload_n 2, 0, 0, 0, 0, 0), (26, .arraylength, 0, 0, 0, 0, 0), (27, .if_icmp .ge 42, 0, 69, 0, 0, 0)]
theorem oX1_spread_23 : bX1_spread_23.all (mz_ok RX1 cX1_spread 7) = true := by decide +kernel
def bX1_spread_30 : List mz_E := [(30, .iload_n 1, 0, 0, 0, 0, 0), (31, .iload 6, 0, 0, 0, 0, 0)]
theorem oX1_spread_30 : bX1_spread_30.all (mz_ok RX1 cX1_spread 7) = true := by decide +kernel
def bX1_spread_36 : List mz_E := [(36, .ifCond .eq 27, 0, 63, 0, 0, 0)]
theorem oX1_spread_36 : bX1_spread_36.all (mz_ok RX1 cX1_spread 7) = true := by decide +kernel
def bX1_spread_63 : List mz_E := [(63, .iinc 6 1, 0, 0, 0, 1, 0), (66, .goto (-43), 0, 23, 0, 0, 0)]
theorem oX1_spread_63 : bX1_spread_63.all (mz_ok RX1 cX1_spread 7) = true := by decide +kernel
def bX1_spread_39 : List mz_E := [(39, .aload_n 2, 0, 0, 0, 0, 0), (40, .iload 6, 0, 0, 0, 0, 0), (42, .dup2, 0, 0, 0, 0, 0), (43, .iaload, 0, 0, 0, 0, 0), (44, .iload 5, 0, 0, 0, 0, 0), (46, .ifCond .le 10, 0, 56, 0, 0, 0)]
theorem oX1_spread_39 : bX1_spread_39.all (mz_ok RX1 cX1_spread 7) = true := by decide +kernel
def bX1_spread_56 : List mz_E := [(56, .iload 4, 0, 0, 0, 0, 0)]
theorem oX1_spread_56 : bX1_spread_56.all (mz_ok RX1 cX1_spread 7) = true := by decide +kernel
def bX1_spread_58 : List mz_E := [(58, .iadd, 0, 0, 0, 0, 0), (59, .iastore, 0, 0, 0, 0, 0), (60, .iinc 5 (-1), 0, 0, 0, -1, 0), (63, .iinc 6 1, 0, 0, 0, 1, 0), (66, .goto (-43), 0, 23, 0, 0, 0)]
theorem oX1_spread_58 : bX1_spread_58.all (mz_ok RX1 cX1_spread 7) = true := by decide +kernel
def bX1_spread_49 : List mz_E := [(49, .iload 4, 0, 0, 0, 0, 0), (51, .iconst 1, 0, 0, 0, 1, 0), (52, .iadd, 0, 0, 0, 0, 0), (53, .goto 5, 0, 58, 0, 0, 0)]
theorem oX1_spread_49 : bX1_spread_49.all (mz_ok RX1 cX1_spread 7) = true := by decide +kernel
abbrev IX1_spread_14 : mz_I := (yX1_spread, cX1_spread, 7, none, 0, 1, 0, 0)
theorem kX1_spread_14 : mz_okm IX1_spread_14 1067 136 1066 3 = true := by decide +kernel
theorem vX1_spread_14 : mz_okS IX1_spread_14 1066 = true := by decide +kernel
def fX1_spread_14_58 (k23 : Int32 → Int32 → Int32 → Int32 → mz_D → Option mz_D) (x1 : Int32) (x4 : Int32) (x5 : Int32) (x6 : Int32) (s0 : Int32) (s1 : Int32) (s2 : Int32) (D : mz_D) : Option mz_D := (mz_gd (mz_ix s2 6) (k23 x1 x4 (x5 + (-1 : Int32)) (x6 + (1 : Int32)) (mz_wi D 0 14 (s2).toNatClampNeg (s1 + s0))))
set_option maxHeartbeats 4000000 in
theorem tX1_spread_14_58 (r : mz_D) (k23 : Int32 → Int32 → Int32 → Int32 → mz_D → Option mz_D) (hk23 : ∀ (x1 : Int32) (x4 : Int32) (x5 : Int32) (x6 : Int32) (D : mz_D), k23 x1 x4 x5 x6 D = some r → mz_Go IX1_spread_14 (none, r) 0 0 (23, [none, some (.inl x1), some (.inr (.inr (some (0, 14)))), none, some (.inl x4), some (.inl x5), some (.inl x6)], [], D)) : ∀ (x1 : Int32) (x4 : Int32) (x5 : Int32) (x6 : Int32) (s0 : Int32) (s1 : Int32) (s2 : Int32) (D : mz_D), fX1_spread_14_58 k23 x1 x4 x5 x6 s0 s1 s2 D = some r → mz_Go IX1_spread_14 (none, r) 0 0 (58, [none, some (.inl x1), some (.inr (.inr (some (0, 14)))), none, some (.inl x4), some (.inl x5), some (.inl x6)], [.inl s0, .inl s1, .inl s2, .inr (.inr (some (0, 14)))], D) := by
  intro x1 x4 x5 x6 s0 s1 s2 D h
  rw [fX1_spread_14_58] at h
  obtain ⟨hb1, h⟩ := mz_gd_some h
  refine mz_Go.run (gs := [mz_kz 0 0 14, mz_ix s2 6]) (st' := (23, [none, some (.inl x1), some (.inr (.inr (some (0, 14)))), none, some (.inl x4), some (.inl (x5 + (-1 : Int32))), some (.inl (x6 + (1 : Int32)))], [], (mz_wi D 0 14 (s2).toNatClampNeg (s1 + s0)))) bX1_spread_58 oX1_spread_58 rfl ⟨rfl, hb1, trivial⟩ ?_
  exact mz_Go.drop [false, true, true, false, true, true, true] (hk23 x1 x4 (x5 + (-1 : Int32)) (x6 + (1 : Int32)) (mz_wi D 0 14 (s2).toNatClampNeg (s1 + s0)) h)
def fX1_spread_14_23 : Nat → Int32 → Int32 → Int32 → Int32 → mz_D → Option mz_D
  | 0 => fun _ _ _ _ _ => none
  | n + 1 => fun x1 x4 x5 x6 D => (if (Int32.ofNat 6) ≤ x6 then (some D) else (if (fX11_isIn x1 x6) = 0 then ((fX1_spread_14_23 n) x1 x4 x5 (x6 + (1 : Int32)) D) else (mz_gd (mz_ix x6 6) (if x5 ≤ 0 then (fX1_spread_14_58 (fX1_spread_14_23 n) x1 x4 x5 x6 x4 (D.1 0 14 (x6).toNatClampNeg) x6 D) else (fX1_spread_14_58 (fX1_spread_14_23 n) x1 x4 x5 x6 (x4 + (1 : Int32)) (D.1 0 14 (x6).toNatClampNeg) x6 D)))))
set_option maxHeartbeats 4000000 in
theorem tX1_spread_14_23 (r : mz_D) : ∀ (n : Nat) (x1 : Int32) (x4 : Int32) (x5 : Int32) (x6 : Int32) (D : mz_D), fX1_spread_14_23 n x1 x4 x5 x6 D = some r → mz_Go IX1_spread_14 (none, r) 0 0 (23, [none, some (.inl x1), some (.inr (.inr (some (0, 14)))), none, some (.inl x4), some (.inl x5), some (.inl x6)], [], D) := by
  intro n
  induction n with
  | zero => intro x1 x4 x5 x6 D h; have h : (none : Option mz_D) = some r := h; cases h
  | succ n ih =>
    intro x1 x4 x5 x6 D h
    rw [fX1_spread_14_23] at h
    refine mz_Go.run (gs := [mz_kz 0 0 14]) (st' := (if (Int32.ofNat 6) ≤ x6 then (69, [none, some (.inl x1), some (.inr (.inr (some (0, 14)))), none, some (.inl x4), some (.inl x5), some (.inl x6)], [], D) else (30, [none, some (.inl x1), some (.inr (.inr (some (0, 14)))), none, some (.inl x4), some (.inl x5), some (.inl x6)], [], D))) bX1_spread_23 oX1_spread_23 rfl ⟨rfl, trivial⟩ ?_
    refine mz_Go.ite (fun hc1 => ?_) (fun hc1 => ?_)
    · have h := mz_ifp hc1 h
      cases h
      exact mz_Go.retv (by decide +kernel) rfl ⟨Nat.le_refl _, Nat.le_refl _⟩ rfl
    · have h := mz_ifn hc1 h
      refine mz_Go.run (gs := []) (st' := (33, [none, some (.inl x1), some (.inr (.inr (some (0, 14)))), none, some (.inl x4), some (.inl x5), some (.inl x6)], [.inl x6, .inl x1], D)) bX1_spread_30 oX1_spread_30 rfl trivial ?_
      refine mz_Go.callSN (I := IX1_spread_14) (J := IX11_isIn) (as := [.inl x1, .inl x6]) (idx := 70) (pl := 1069) (rest := []) (mX11_isIn x1 x6 D _ rfl) kX11_isIn vX11_isIn (by decide +kernel) (by decide +kernel) (by decide +kernel) rfl rfl ⟨rfl, rfl⟩ rfl ?_
      refine mz_Go.run (gs := []) (st' := (if (fX11_isIn x1 x6) = 0 then (63, [none, some (.inl x1), some (.inr (.inr (some (0, 14)))), none, some (.inl x4), some (.inl x5), some (.inl x6)], [], D) else (39, [none, some (.inl x1), some (.inr (.inr (some (0, 14)))), none, some (.inl x4), some (.inl x5), some (.inl x6)], [], D))) bX1_spread_36 oX1_spread_36 rfl trivial ?_
      refine mz_Go.ite (fun hc2 => ?_) (fun hc2 => ?_)
      · have h := mz_ifp hc2 h
        refine mz_Go.run (gs := []) (st' := (23, [none, some (.inl x1), some (.inr (.inr (some (0, 14)))), none, some (.inl x4), some (.inl x5), some (.inl (x6 + (1 : Int32)))], [], D)) bX1_spread_63 oX1_spread_63 rfl trivial ?_
        exact mz_Go.drop [false, true, true, false, true, true, true] (ih x1 x4 x5 (x6 + (1 : Int32)) D h)
      · have h := mz_ifn hc2 h
        obtain ⟨hb3, h⟩ := mz_gd_some h
        refine mz_Go.run (gs := [mz_kz 0 0 14, mz_ix x6 6]) (st' := (if x5 ≤ 0 then (56, [none, some (.inl x1), some (.inr (.inr (some (0, 14)))), none, some (.inl x4), some (.inl x5), some (.inl x6)], [.inl (D.1 0 14 (x6).toNatClampNeg), .inl x6, .inr (.inr (some (0, 14)))], D) else (49, [none, some (.inl x1), some (.inr (.inr (some (0, 14)))), none, some (.inl x4), some (.inl x5), some (.inl x6)], [.inl (D.1 0 14 (x6).toNatClampNeg), .inl x6, .inr (.inr (some (0, 14)))], D))) bX1_spread_39 oX1_spread_39 rfl ⟨rfl, hb3, trivial⟩ ?_
        refine mz_Go.ite (fun hc4 => ?_) (fun hc4 => ?_)
        · have h := mz_ifp hc4 h
          refine mz_Go.run (gs := []) (st' := (58, [none, some (.inl x1), some (.inr (.inr (some (0, 14)))), none, some (.inl x4), some (.inl x5), some (.inl x6)], [.inl x4, .inl (D.1 0 14 (x6).toNatClampNeg), .inl x6, .inr (.inr (some (0, 14)))], D)) bX1_spread_56 oX1_spread_56 rfl trivial ?_
          exact mz_Go.drop [false, true, true, false, true, true, true] (tX1_spread_14_58 r (fX1_spread_14_23 n) ih x1 x4 x5 x6 x4 (D.1 0 14 (x6).toNatClampNeg) x6 D h)
        · have h := mz_ifn hc4 h
          refine mz_Go.run (gs := []) (st' := (58, [none, some (.inl x1), some (.inr (.inr (some (0, 14)))), none, some (.inl x4), some (.inl x5), some (.inl x6)], [.inl (x4 + (1 : Int32)), .inl (D.1 0 14 (x6).toNatClampNeg), .inl x6, .inr (.inr (some (0, 14)))], D)) bX1_spread_49 oX1_spread_49 rfl trivial ?_
          exact mz_Go.drop [false, true, true, false, true, true, true] (tX1_spread_14_58 r (fX1_spread_14_23 n) ih x1 x4 x5 x6 (x4 + (1 : Int32)) (D.1 0 14 (x6).toNatClampNeg) x6 D h)
def fX1_spread_14 (x0 : Int32) (x1 : Int32) (D : mz_D) : Option mz_D := (if (fJ6_bitCount_0f7a4 x1) = 0 then (some D) else (mz_gd (mz_nz (fJ6_bitCount_0f7a4 x1)) (fX1_spread_14_23 mz_N x1 (x0 / (fJ6_bitCount_0f7a4 x1)) (x0 - x0 / (fJ6_bitCount_0f7a4 x1) * (fJ6_bitCount_0f7a4 x1)) (0 : Int32) D)))
set_option maxHeartbeats 4000000 in
theorem mX1_spread_14 (x0 : Int32) (x1 : Int32) (D : mz_D) (r : mz_D) (h : fX1_spread_14 x0 x1 D = some r) : mz_Met IX1_spread_14 [.inl x0, .inl x1, .inr (.inr (some (0, 14)))] D (none, r) := by
  refine mz_Met.of (by decide +kernel) (Nat.le_of_ble_eq_true rfl) ?_
  show mz_Go IX1_spread_14 (none, r) 0 0 (0, [some (.inl x0), some (.inl x1), some (.inr (.inr (some (0, 14)))), none, none, none, none], [], D)
  rw [fX1_spread_14] at h
  refine mz_Go.run (gs := []) (st' := (1, [some (.inl x0), some (.inl x1), some (.inr (.inr (some (0, 14)))), none, none, none, none], [.inl x1], D)) bX1_spread_0 oX1_spread_0 rfl trivial ?_
  refine mz_Go.callS (I := IX1_spread_14) (J := IJ6_bitCount_0f7a4) (as := [.inl x1]) (idx := 91) (pl := 1068) (rest := []) (mJ6_bitCount_0f7a4 x1 D _ rfl) kJ6_bitCount_0f7a4 vJ6_bitCount_0f7a4 (by decide +kernel) (by decide +kernel) (by decide +kernel) rfl rfl ⟨rfl, rfl⟩ rfl ?_
  refine mz_Go.run (gs := []) (st' := (if (fJ6_bitCount_0f7a4 x1) = 0 then (9, [some (.inl x0), some (.inl x1), some (.inr (.inr (some (0, 14)))), some (.inl (fJ6_bitCount_0f7a4 x1)), none, none, none], [], D) else (10, [some (.inl x0), some (.inl x1), some (.inr (.inr (some (0, 14)))), some (.inl (fJ6_bitCount_0f7a4 x1)), none, none, none], [], D))) bX1_spread_4 oX1_spread_4 rfl trivial ?_
  refine mz_Go.ite (fun hc1 => ?_) (fun hc1 => ?_)
  · have h := mz_ifp hc1 h
    cases h
    exact mz_Go.retv (by decide +kernel) rfl ⟨Nat.le_refl _, Nat.le_refl _⟩ rfl
  · have h := mz_ifn hc1 h
    obtain ⟨hb2, h⟩ := mz_gd_some h
    refine mz_Go.run (gs := [mz_nz (fJ6_bitCount_0f7a4 x1), mz_nz (fJ6_bitCount_0f7a4 x1)]) (st' := (23, [some (.inl x0), some (.inl x1), some (.inr (.inr (some (0, 14)))), some (.inl (fJ6_bitCount_0f7a4 x1)), some (.inl (x0 / (fJ6_bitCount_0f7a4 x1))), some (.inl (x0 - x0 / (fJ6_bitCount_0f7a4 x1) * (fJ6_bitCount_0f7a4 x1))), some (.inl (0 : Int32))], [], D)) bX1_spread_10 oX1_spread_10 rfl ⟨hb2, hb2, trivial⟩ ?_
    exact mz_Go.drop [false, true, true, false, true, true, true] (tX1_spread_14_23 r mz_N x1 (x0 / (fJ6_bitCount_0f7a4 x1)) (x0 - x0 / (fJ6_bitCount_0f7a4 x1) * (fJ6_bitCount_0f7a4 x1)) (0 : Int32) D h)
def bX1_fillEaten_0 : List mz_E := [(0, .aload_n 2, 0, 0, 0, 0, 0), (1, .iconst 0, 0, 0, 0, 0, 0)]
theorem oX1_fillEaten_0 : bX1_fillEaten_0.all (mz_ok RX1 cX1_fillEaten 6) = true := by decide +kernel
def bX1_fillEaten_5 : List mz_E := [(5, .iconst 0, 0, 0, 0, 0, 0), (6, .istore_n 3, 0, 0, 0, 0, 0), (7, .iconst 0, 0, 0, 0, 0, 0), (8, .istore 4, 0, 0, 0, 0, 0)]
theorem oX1_fillEaten_5 : bX1_fillEaten_5.all (mz_ok RX1 cX1_fillEaten 6) = true := by decide +kernel
def bX1_fillEaten_10 : List mz_E := [(10, .iload 4, 0, 0, 0, 0, 0), (12, .aload_n 0, 0, 0, 0, 0, 0), (13, .getfield 21, 1, 0, 350, 0, 0), (16, .if_icmp .ge 54, 0, 70, 0, 0, 0)]
theorem oX1_fillEaten_10 : bX1_fillEaten_10.all (mz_ok RX1 cX1_fillEaten 6) = true := by decide +kernel
def bX1_fillEaten_70 : List mz_E := [(70, .iload_n 3, 0, 0, 0, 0, 0), (71, .aload_n 1, 0, 0, 0, 0, 0)]
theorem oX1_fillEaten_70 : bX1_fillEaten_70.all (mz_ok RX1 cX1_fillEaten 6) = true := by decide +kernel
def bX1_fillEaten_75 : List mz_E := [(75, .aload_n 2, 0, 0, 0, 0, 0)]
theorem oX1_fillEaten_75 : bX1_fillEaten_75.all (mz_ok RX1 cX1_fillEaten 6) = true := by decide +kernel
def bX1_fillEaten_19 : List mz_E := [(19, .aload_n 0, 0, 0, 0, 0, 0), (20, .getfield 15, 1, 3, 359, 0, 0), (23, .iload 4, 0, 0, 0, 0, 0), (25, .iaload, 0, 0, 0, 0, 0), (26, .istore 5, 0, 0, 0, 0, 0), (28, .aload_n 1, 0, 0, 0, 0, 0), (29, .iload 5, 0, 0, 0, 0, 0)]
theorem oX1_fillEaten_19 : bX1_fillEaten_19.all (mz_ok RX1 cX1_fillEaten 6) = true := by decide +kernel
def bX1_fillEaten_34 : List mz_E := [(34, .ifCond .eq 20, 0, 54, 0, 0, 0)]
theorem oX1_fillEaten_34 : bX1_fillEaten_34.all (mz_ok RX1 cX1_fillEaten 6) = true := by decide +kernel
def bX1_fillEaten_54 : List mz_E := [(54, .iload_n 3, 0, 0, 0, 0, 0), (55, .aload_n 0, 0, 0, 0, 0, 0), (56, .getfield 9, 1, 2, 357, 0, 0), (59, .iload 4, 0, 0, 0, 0, 0), (61, .iaload, 0, 0, 0, 0, 0), (62, .iadd, 0, 0, 0, 0, 0), (63, .istore_n 3, 0, 0, 0, 0, 0), (64, .iinc 4 1, 0, 0, 0, 1, 0), (67, .goto (-57), 0, 10, 0, 0, 0)]
theorem oX1_fillEaten_54 : bX1_fillEaten_54.all (mz_ok RX1 cX1_fillEaten 6) = true := by decide +kernel
def bX1_fillEaten_37 : List mz_E := [(37, .aload_n 2, 0, 0, 0, 0, 0), (38, .iload 5, 0, 0, 0, 0, 0), (40, .dup2, 0, 0, 0, 0, 0), (41, .iaload, 0, 0, 0, 0, 0), (42, .aload_n 0, 0, 0, 0, 0, 0), (43, .getfield 9, 1, 2, 357, 0, 0), (46, .iload 4, 0, 0, 0, 0, 0), (48, .iaload, 0, 0, 0, 0, 0), (49, .iadd, 0, 0, 0, 0, 0), (50, .iastore, 0, 0, 0, 0, 0), (51, .goto 13, 0, 64, 0, 0, 0), (64, .iinc 4 1, 0, 0, 0, 1, 0), (67, .goto (-57), 0, 10, 0, 0, 0)]
theorem oX1_fillEaten_37 : bX1_fillEaten_37.all (mz_ok RX1 cX1_fillEaten 6) = true := by decide +kernel
abbrev IX1_fillEaten_14 : mz_I := (yX1_fillEaten, cX1_fillEaten, 6, none, 0, 2, 0, 0)
theorem kX1_fillEaten_14 : mz_okm IX1_fillEaten_14 1061 136 1059 2 = true := by decide +kernel
theorem vX1_fillEaten_14 : mz_okV IX1_fillEaten_14 1059 1060 = true := by decide +kernel
def fX1_fillEaten_14_10 (g0 : Nat) (g1 : Nat) : Nat → Int32 → Int32 → mz_D → Option mz_D
  | 0 => fun _ _ _ => none
  | n + 1 => fun x3 x4 D => (if (D.1 g0 109 0) ≤ x4 then (Option.bind (fX1_spread_14 x3 (((1 : Int32) <<< ((D.1 g1 101 0) &&& 31)) - (1 : Int32)) D) fun q2 => (some q2)) else (mz_gd (mz_ix x4 16) (if (fX4_has g1 (D.1 g0 111 (x4).toNatClampNeg) D) = 0 then ((fX1_fillEaten_14_10 g0 g1 n) (x3 + (D.1 g0 110 (x4).toNatClampNeg)) (x4 + (1 : Int32)) D) else (mz_gd (mz_ix (D.1 g0 111 (x4).toNatClampNeg) 6) ((fX1_fillEaten_14_10 g0 g1 n) x3 (x4 + (1 : Int32)) (mz_wi D 0 14 ((D.1 g0 111 (x4).toNatClampNeg)).toNatClampNeg ((D.1 0 14 ((D.1 g0 111 (x4).toNatClampNeg)).toNatClampNeg) + (D.1 g0 110 (x4).toNatClampNeg))))))))
set_option maxHeartbeats 4000000 in
theorem tX1_fillEaten_14_10 (g0 : Nat) (g1 : Nat) (hg0 : mz_tb g0 = true) (hg1 : mz_tb g1 = true) (r : mz_D) : ∀ (n : Nat) (x3 : Int32) (x4 : Int32) (D : mz_D), fX1_fillEaten_14_10 g0 g1 n x3 x4 D = some r → mz_Go IX1_fillEaten_14 (none, r) 0 0 (10, [some (.inr (.inr (some (g0, 109)))), some (.inr (.inr (some (g1, 101)))), some (.inr (.inr (some (0, 14)))), some (.inl x3), some (.inl x4), none], [], D) := by
  intro n
  induction n with
  | zero => intro x3 x4 D h; have h : (none : Option mz_D) = some r := h; cases h
  | succ n ih =>
    intro x3 x4 D h
    rw [fX1_fillEaten_14_10] at h
    refine mz_Go.run (gs := [mz_kz 0 g0 109]) (st' := (if (D.1 g0 109 0) ≤ x4 then (70, [some (.inr (.inr (some (g0, 109)))), some (.inr (.inr (some (g1, 101)))), some (.inr (.inr (some (0, 14)))), some (.inl x3), some (.inl x4), none], [], D) else (19, [some (.inr (.inr (some (g0, 109)))), some (.inr (.inr (some (g1, 101)))), some (.inr (.inr (some (0, 14)))), some (.inl x3), some (.inl x4), none], [], D))) bX1_fillEaten_10 oX1_fillEaten_10 rfl ⟨hg0, trivial⟩ ?_
    refine mz_Go.ite (fun hc1 => ?_) (fun hc1 => ?_)
    · have h := mz_ifp hc1 h
      refine mz_Go.run (gs := []) (st' := (72, [some (.inr (.inr (some (g0, 109)))), some (.inr (.inr (some (g1, 101)))), some (.inr (.inr (some (0, 14)))), some (.inl x3), some (.inl x4), none], [.inr (.inr (some (g1, 101))), .inl x3], D)) bX1_fillEaten_70 oX1_fillEaten_70 rfl trivial ?_
      refine mz_Go.callV (I := IX1_fillEaten_14) (J := IX4_everyone) (as := []) (ci := 4) (g := g1) (o := 101) (idx := 44) (pl := 1064) (rest := [.inl x3]) (mX4_everyone g1 D hg1) kX4_everyone vX4_everyone (by decide +kernel) (by decide +kernel) (by decide +kernel) rfl rfl ⟨rfl, rfl⟩ rfl rfl hg1 rfl ?_
      refine mz_Go.run (gs := []) (st' := (76, [some (.inr (.inr (some (g0, 109)))), some (.inr (.inr (some (g1, 101)))), some (.inr (.inr (some (0, 14)))), some (.inl x3), some (.inl x4), none], [.inr (.inr (some (0, 14))), .inl (((1 : Int32) <<< ((D.1 g1 101 0) &&& 31)) - (1 : Int32)), .inl x3], D)) bX1_fillEaten_75 oX1_fillEaten_75 rfl trivial ?_
      obtain ⟨q2, hq2, h⟩ := mz_bd_some h
      refine mz_Go.callS (I := IX1_fillEaten_14) (J := IX1_spread_14) (as := [.inl x3, .inl (((1 : Int32) <<< ((D.1 g1 101 0) &&& 31)) - (1 : Int32)), .inr (.inr (some (0, 14)))]) (idx := 48) (pl := 1065) (rest := []) (mX1_spread_14 x3 (((1 : Int32) <<< ((D.1 g1 101 0) &&& 31)) - (1 : Int32)) D q2 hq2) kX1_spread_14 vX1_spread_14 (by decide +kernel) (by decide +kernel) (by decide +kernel) rfl rfl ⟨rfl, rfl⟩ rfl ?_
      cases h
      exact mz_Go.retv (by decide +kernel) rfl ⟨Nat.le_refl _, Nat.le_refl _⟩ rfl
    · have h := mz_ifn hc1 h
      obtain ⟨hb3, h⟩ := mz_gd_some h
      refine mz_Go.run (gs := [mz_kz 0 g0 109, mz_kz 0 g0 111, mz_ix x4 16]) (st' := (31, [some (.inr (.inr (some (g0, 109)))), some (.inr (.inr (some (g1, 101)))), some (.inr (.inr (some (0, 14)))), some (.inl x3), some (.inl x4), some (.inl (D.1 g0 111 (x4).toNatClampNeg))], [.inl (D.1 g0 111 (x4).toNatClampNeg), .inr (.inr (some (g1, 101)))], D)) bX1_fillEaten_19 oX1_fillEaten_19 rfl ⟨hg0, hg0, hb3, trivial⟩ ?_
      refine mz_Go.callV (I := IX1_fillEaten_14) (J := IX4_has) (as := [.inl (D.1 g0 111 (x4).toNatClampNeg)]) (ci := 4) (g := g1) (o := 101) (idx := 38) (pl := 1063) (rest := []) (mX4_has g1 (D.1 g0 111 (x4).toNatClampNeg) D hg1 _ rfl) kX4_has vX4_has (by decide +kernel) (by decide +kernel) (by decide +kernel) rfl rfl ⟨rfl, rfl⟩ rfl rfl hg1 rfl ?_
      refine mz_Go.run (gs := []) (st' := (if (fX4_has g1 (D.1 g0 111 (x4).toNatClampNeg) D) = 0 then (54, [some (.inr (.inr (some (g0, 109)))), some (.inr (.inr (some (g1, 101)))), some (.inr (.inr (some (0, 14)))), some (.inl x3), some (.inl x4), some (.inl (D.1 g0 111 (x4).toNatClampNeg))], [], D) else (37, [some (.inr (.inr (some (g0, 109)))), some (.inr (.inr (some (g1, 101)))), some (.inr (.inr (some (0, 14)))), some (.inl x3), some (.inl x4), some (.inl (D.1 g0 111 (x4).toNatClampNeg))], [], D))) bX1_fillEaten_34 oX1_fillEaten_34 rfl trivial ?_
      refine mz_Go.ite (fun hc4 => ?_) (fun hc4 => ?_)
      · have h := mz_ifp hc4 h
        refine mz_Go.run (gs := [mz_kz 0 g0 109, mz_kz 0 g0 110, mz_ix x4 16]) (st' := (10, [some (.inr (.inr (some (g0, 109)))), some (.inr (.inr (some (g1, 101)))), some (.inr (.inr (some (0, 14)))), some (.inl (x3 + (D.1 g0 110 (x4).toNatClampNeg))), some (.inl (x4 + (1 : Int32))), some (.inl (D.1 g0 111 (x4).toNatClampNeg))], [], D)) bX1_fillEaten_54 oX1_fillEaten_54 rfl ⟨hg0, hg0, hb3, trivial⟩ ?_
        exact mz_Go.drop [true, true, true, true, true, false] (ih (x3 + (D.1 g0 110 (x4).toNatClampNeg)) (x4 + (1 : Int32)) D h)
      · have h := mz_ifn hc4 h
        obtain ⟨hb5, h⟩ := mz_gd_some h
        refine mz_Go.run (gs := [mz_kz 0 0 14, mz_ix (D.1 g0 111 (x4).toNatClampNeg) 6, mz_kz 0 g0 109, mz_kz 0 g0 110, mz_ix x4 16, mz_kz 0 0 14, mz_ix (D.1 g0 111 (x4).toNatClampNeg) 6]) (st' := (10, [some (.inr (.inr (some (g0, 109)))), some (.inr (.inr (some (g1, 101)))), some (.inr (.inr (some (0, 14)))), some (.inl x3), some (.inl (x4 + (1 : Int32))), some (.inl (D.1 g0 111 (x4).toNatClampNeg))], [], (mz_wi D 0 14 ((D.1 g0 111 (x4).toNatClampNeg)).toNatClampNeg ((D.1 0 14 ((D.1 g0 111 (x4).toNatClampNeg)).toNatClampNeg) + (D.1 g0 110 (x4).toNatClampNeg))))) bX1_fillEaten_37 oX1_fillEaten_37 rfl ⟨rfl, hb5, hg0, hg0, hb3, rfl, hb5, trivial⟩ ?_
        exact mz_Go.drop [true, true, true, true, true, false] (ih x3 (x4 + (1 : Int32)) (mz_wi D 0 14 ((D.1 g0 111 (x4).toNatClampNeg)).toNatClampNeg ((D.1 0 14 ((D.1 g0 111 (x4).toNatClampNeg)).toNatClampNeg) + (D.1 g0 110 (x4).toNatClampNeg))) h)
def fX1_fillEaten_14 (g0 : Nat) (g1 : Nat) (D : mz_D) : Option mz_D := (Option.bind (fJ7_fill_53178_14 (0 : Int32) D) fun q1 => (fX1_fillEaten_14_10 g0 g1 mz_N (0 : Int32) (0 : Int32) q1))
set_option maxHeartbeats 4000000 in
theorem mX1_fillEaten_14 (g0 : Nat) (g1 : Nat) (D : mz_D) (hg0 : mz_tb g0 = true) (hg1 : mz_tb g1 = true) (r : mz_D) (h : fX1_fillEaten_14 g0 g1 D = some r) : mz_Met IX1_fillEaten_14 [.inr (.inr (some (g0, 109))), .inr (.inr (some (g1, 101))), .inr (.inr (some (0, 14)))] D (none, r) := by
  refine mz_Met.of (by decide +kernel) (Nat.le_of_ble_eq_true rfl) ?_
  show mz_Go IX1_fillEaten_14 (none, r) 0 0 (0, [some (.inr (.inr (some (g0, 109)))), some (.inr (.inr (some (g1, 101)))), some (.inr (.inr (some (0, 14)))), none, none, none], [], D)
  rw [fX1_fillEaten_14] at h
  refine mz_Go.run (gs := []) (st' := (2, [some (.inr (.inr (some (g0, 109)))), some (.inr (.inr (some (g1, 101)))), some (.inr (.inr (some (0, 14)))), none, none, none], [.inl (0 : Int32), .inr (.inr (some (0, 14)))], D)) bX1_fillEaten_0 oX1_fillEaten_0 rfl trivial ?_
  obtain ⟨q1, hq1, h⟩ := mz_bd_some h
  refine mz_Go.callS (I := IX1_fillEaten_14) (J := IJ7_fill_53178_14) (as := [.inr (.inr (some (0, 14))), .inl (0 : Int32)]) (idx := 32) (pl := 1062) (rest := []) (mJ7_fill_53178_14 (0 : Int32) D q1 hq1) kJ7_fill_53178_14 vJ7_fill_53178_14 (by decide +kernel) (by decide +kernel) (by decide +kernel) rfl rfl ⟨rfl, rfl⟩ rfl ?_
  refine mz_Go.run (gs := []) (st' := (10, [some (.inr (.inr (some (g0, 109)))), some (.inr (.inr (some (g1, 101)))), some (.inr (.inr (some (0, 14)))), some (.inl (0 : Int32)), some (.inl (0 : Int32)), none], [], q1)) bX1_fillEaten_5 oX1_fillEaten_5 rfl trivial ?_
  exact mz_Go.drop [true, true, true, true, true, false] (tX1_fillEaten_14_10 g0 g1 hg0 hg1 r mz_N (0 : Int32) (0 : Int32) q1 h)
