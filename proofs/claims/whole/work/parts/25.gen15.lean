def bX12_lived_0 : List mz_E := [(0, .iload_n 1, 0, 0, 0, 0, 0), (1, .ifCond .lt 8, 0, 9, 0, 0, 0)]
theorem oX12_lived_0 : bX12_lived_0.all (mz_ok RX12 cX12_lived 2) = true := by decide +kernel
def bX12_lived_9 : List mz_E := [(9, .aload_n 0, 0, 0, 0, 0, 0), (10, .iconst 1, 0, 0, 0, 1, 0)]
theorem oX12_lived_9 : bX12_lived_9.all (mz_ok RX12 cX12_lived 2) = true := by decide +kernel
def bX12_lived_14 : List mz_E := [(14, .goto 29, 0, 43, 0, 0, 0)]
theorem oX12_lived_14 : bX12_lived_14.all (mz_ok RX12 cX12_lived 2) = true := by decide +kernel
def bX12_lived_4 : List mz_E := [(4, .iload_n 1, 0, 0, 0, 0, 0), (5, .iconst 4, 0, 0, 0, 4, 0), (6, .if_icmp .le 11, 0, 17, 0, 0, 0)]
theorem oX12_lived_4 : bX12_lived_4.all (mz_ok RX12 cX12_lived 2) = true := by decide +kernel
def bX12_lived_17 : List mz_E := [(17, .aload_n 0, 0, 0, 0, 0, 0), (18, .getfield 455, 12, 33, 1609, 0, 0), (21, .ifCond .eq 16, 0, 37, 0, 0, 0)]
theorem oX12_lived_17 : bX12_lived_17.all (mz_ok RX12 cX12_lived 2) = true := by decide +kernel
def bX12_lived_37 : List mz_E := [(37, .aload_n 0, 0, 0, 0, 0, 0), (38, .bipush 6, 0, 0, 0, 6, 0)]
theorem oX12_lived_37 : bX12_lived_37.all (mz_ok RX12 cX12_lived 2) = true := by decide +kernel
def bX12_lived_24 : List mz_E := [(24, .aload_n 0, 0, 0, 0, 0, 0), (25, .aload_n 0, 0, 0, 0, 0, 0), (26, .getfield 62, 12, 32, 1608, 0, 0), (29, .iload_n 1, 0, 0, 0, 0, 0), (30, .iaload, 0, 0, 0, 0, 0)]
theorem oX12_lived_24 : bX12_lived_24.all (mz_ok RX12 cX12_lived 2) = true := by decide +kernel
def bX12_lived_34 : List mz_E := [(34, .goto 9, 0, 43, 0, 0, 0)]
theorem oX12_lived_34 : bX12_lived_34.all (mz_ok RX12 cX12_lived 2) = true := by decide +kernel
abbrev IX12_lived : mz_I := (yX12_lived, cX12_lived, 2, (some .int), 0, 1, 0, 0)
theorem kX12_lived : mz_okm IX12_lived 2285 141 2283 1 = true := by decide +kernel
theorem vX12_lived : mz_okV IX12_lived 2283 2284 = true := by decide +kernel
def fX12_lived (x1 : Int32) (D : mz_D) : Option (Int32 × mz_D) := (if x1 < 0 then (some ((-1 : Int32), (mz_wi D 0 200 2 (1 : Int32)))) else (if x1 ≤ (4 : Int32) then (if (D.1 0 200 33) = 0 then (some ((-1 : Int32), (mz_wi D 0 200 2 (6 : Int32)))) else (mz_gd (mz_ix x1 5) (some ((D.1 0 214 (x1).toNatClampNeg), (mz_wi D 0 200 2 (0 : Int32)))))) else (some ((-1 : Int32), (mz_wi D 0 200 2 (1 : Int32))))))
set_option maxHeartbeats 4000000 in
theorem mX12_lived (x1 : Int32) (D : mz_D) (r : (Int32 × mz_D)) (h : fX12_lived x1 D = some r) : mz_Met IX12_lived [.inr (.inr (some (0, 200))), .inl x1] D (some (.inl r.1), r.2) := by
  refine mz_Met.of (by decide +kernel) (Nat.le_of_ble_eq_true rfl) ?_
  show mz_Go IX12_lived (some (.inl r.1), r.2) 0 0 (0, [some (.inr (.inr (some (0, 200)))), some (.inl x1)], [], D)
  rw [fX12_lived] at h
  refine mz_Go.run (gs := []) (st' := (if x1 < 0 then (9, [some (.inr (.inr (some (0, 200)))), some (.inl x1)], [], D) else (4, [some (.inr (.inr (some (0, 200)))), some (.inl x1)], [], D))) bX12_lived_0 oX12_lived_0 rfl trivial ?_
  refine mz_Go.ite (fun hc1 => ?_) (fun hc1 => ?_)
  · have h := mz_ifp hc1 h
    refine mz_Go.run (gs := []) (st' := (11, [some (.inr (.inr (some (0, 200)))), some (.inl x1)], [.inl (1 : Int32), .inr (.inr (some (0, 200)))], D)) bX12_lived_9 oX12_lived_9 rfl trivial ?_
    refine mz_Go.callV (I := IX12_lived) (J := IX12_refuse) (as := [.inl (1 : Int32)]) (ci := 12) (g := 0) (o := 200) (idx := 75) (pl := 1761) (rest := []) (mX12_refuse (1 : Int32) D) kX12_refuse vX12_refuse (by decide +kernel) (by decide +kernel) (by decide +kernel) rfl rfl ⟨rfl, rfl⟩ rfl rfl rfl rfl ?_
    refine mz_Go.run (gs := []) (st' := (43, [some (.inr (.inr (some (0, 200)))), some (.inl x1)], [.inl (-1 : Int32)], (mz_wi D 0 200 2 (1 : Int32)))) bX12_lived_14 oX12_lived_14 rfl trivial ?_
    cases h
    exact mz_Go.reti (by decide +kernel) rfl ⟨Nat.le_refl _, Nat.le_refl _⟩ rfl
  · have h := mz_ifn hc1 h
    refine mz_Go.run (gs := []) (st' := (if x1 ≤ (4 : Int32) then (17, [some (.inr (.inr (some (0, 200)))), some (.inl x1)], [], D) else (9, [some (.inr (.inr (some (0, 200)))), some (.inl x1)], [], D))) bX12_lived_4 oX12_lived_4 rfl trivial ?_
    refine mz_Go.ite (fun hc2 => ?_) (fun hc2 => ?_)
    · have h := mz_ifp hc2 h
      refine mz_Go.run (gs := [mz_kz 0 0 200]) (st' := (if (D.1 0 200 33) = 0 then (37, [some (.inr (.inr (some (0, 200)))), some (.inl x1)], [], D) else (24, [some (.inr (.inr (some (0, 200)))), some (.inl x1)], [], D))) bX12_lived_17 oX12_lived_17 rfl ⟨rfl, trivial⟩ ?_
      refine mz_Go.ite (fun hc3 => ?_) (fun hc3 => ?_)
      · have h := mz_ifp hc3 h
        refine mz_Go.run (gs := []) (st' := (40, [some (.inr (.inr (some (0, 200)))), some (.inl x1)], [.inl (6 : Int32), .inr (.inr (some (0, 200)))], D)) bX12_lived_37 oX12_lived_37 rfl trivial ?_
        refine mz_Go.callV (I := IX12_lived) (J := IX12_refuse) (as := [.inl (6 : Int32)]) (ci := 12) (g := 0) (o := 200) (idx := 75) (pl := 1761) (rest := []) (mX12_refuse (6 : Int32) D) kX12_refuse vX12_refuse (by decide +kernel) (by decide +kernel) (by decide +kernel) rfl rfl ⟨rfl, rfl⟩ rfl rfl rfl rfl ?_
        cases h
        exact mz_Go.reti (by decide +kernel) rfl ⟨Nat.le_refl _, Nat.le_refl _⟩ rfl
      · have h := mz_ifn hc3 h
        obtain ⟨hb4, h⟩ := mz_gd_some h
        refine mz_Go.run (gs := [mz_kz 0 0 200, mz_kz 0 0 214, mz_ix x1 5]) (st' := (31, [some (.inr (.inr (some (0, 200)))), some (.inl x1)], [.inl (D.1 0 214 (x1).toNatClampNeg), .inr (.inr (some (0, 200)))], D)) bX12_lived_24 oX12_lived_24 rfl ⟨rfl, rfl, hb4, trivial⟩ ?_
        refine mz_Go.callV (I := IX12_lived) (J := IX12_gives) (as := [.inl (D.1 0 214 (x1).toNatClampNeg)]) (ci := 12) (g := 0) (o := 200) (idx := 79) (pl := 1844) (rest := []) (mX12_gives (D.1 0 214 (x1).toNatClampNeg) D) kX12_gives vX12_gives (by decide +kernel) (by decide +kernel) (by decide +kernel) rfl rfl ⟨rfl, rfl⟩ rfl rfl rfl rfl ?_
        refine mz_Go.run (gs := []) (st' := (43, [some (.inr (.inr (some (0, 200)))), some (.inl x1)], [.inl (D.1 0 214 (x1).toNatClampNeg)], (mz_wi D 0 200 2 (0 : Int32)))) bX12_lived_34 oX12_lived_34 rfl trivial ?_
        cases h
        exact mz_Go.reti (by decide +kernel) rfl ⟨Nat.le_refl _, Nat.le_refl _⟩ rfl
    · have h := mz_ifn hc2 h
      refine mz_Go.run (gs := []) (st' := (11, [some (.inr (.inr (some (0, 200)))), some (.inl x1)], [.inl (1 : Int32), .inr (.inr (some (0, 200)))], D)) bX12_lived_9 oX12_lived_9 rfl trivial ?_
      refine mz_Go.callV (I := IX12_lived) (J := IX12_refuse) (as := [.inl (1 : Int32)]) (ci := 12) (g := 0) (o := 200) (idx := 75) (pl := 1761) (rest := []) (mX12_refuse (1 : Int32) D) kX12_refuse vX12_refuse (by decide +kernel) (by decide +kernel) (by decide +kernel) rfl rfl ⟨rfl, rfl⟩ rfl rfl rfl rfl ?_
      refine mz_Go.run (gs := []) (st' := (43, [some (.inr (.inr (some (0, 200)))), some (.inl x1)], [.inl (-1 : Int32)], (mz_wi D 0 200 2 (1 : Int32)))) bX12_lived_14 oX12_lived_14 rfl trivial ?_
      cases h
      exact mz_Go.reti (by decide +kernel) rfl ⟨Nat.le_refl _, Nat.le_refl _⟩ rfl
def bX12_mean_0 : List mz_E := [(0, .aload_n 0, 0, 0, 0, 0, 0), (1, .iload_n 1, 0, 0, 0, 0, 0)]
theorem oX12_mean_0 : bX12_mean_0.all (mz_ok RX12 cX12_mean 8) = true := by decide +kernel
def bX12_mean_5 : List mz_E := [(5, .ifCond .eq 38, 0, 43, 0, 0, 0)]
theorem oX12_mean_5 : bX12_mean_5.all (mz_ok RX12 cX12_mean 8) = true := by decide +kernel
def bX12_mean_43 : List mz_E := [(43, .aload_n 0, 0, 0, 0, 0, 0), (44, .iconst 1, 0, 0, 0, 1, 0)]
theorem oX12_mean_43 : bX12_mean_43.all (mz_ok RX12 cX12_mean 8) = true := by decide +kernel
def bX12_mean_8 : List mz_E := [(8, .iload_n 2, 0, 0, 0, 0, 0), (9, .i2l, 0, 0, 0, 0, 0), (10, .lconst 0, 0, 0, 0, 0, 0), (11, .ldc2_w 308, 0, 0, 1994, 0, 9999)]
theorem oX12_mean_8 : bX12_mean_8.all (mz_ok RX12 cX12_mean 8) = true := by decide +kernel
def bX12_mean_17 : List mz_E := [(17, .ifCond .eq 26, 0, 43, 0, 0, 0)]
theorem oX12_mean_17 : bX12_mean_17.all (mz_ok RX12 cX12_mean 8) = true := by decide +kernel
def bX12_mean_20 : List mz_E := [(20, .iload_n 3, 0, 0, 0, 0, 0), (21, .i2l, 0, 0, 0, 0, 0), (22, .lconst 1, 0, 0, 0, 0, 1), (23, .ldc2_w 459, 0, 0, 2290, 0, 20)]
theorem oX12_mean_20 : bX12_mean_20.all (mz_ok RX12 cX12_mean 8) = true := by decide +kernel
def bX12_mean_29 : List mz_E := [(29, .ifCond .eq 14, 0, 43, 0, 0, 0)]
theorem oX12_mean_29 : bX12_mean_29.all (mz_ok RX12 cX12_mean 8) = true := by decide +kernel
def bX12_mean_32 : List mz_E := [(32, .iload_n 2, 0, 0, 0, 0, 0), (33, .iload_n 3, 0, 0, 0, 0, 0), (34, .iadd, 0, 0, 0, 0, 0), (35, .iconst 1, 0, 0, 0, 1, 0), (36, .isub, 0, 0, 0, 0, 0), (37, .sipush 9999, 0, 0, 0, 9999, 0), (40, .if_icmp .le 9, 0, 49, 0, 0, 0)]
theorem oX12_mean_32 : bX12_mean_32.all (mz_ok RX12 cX12_mean 8) = true := by decide +kernel
def bX12_mean_49 : List mz_E := [(49, .aload_n 0, 0, 0, 0, 0, 0), (50, .getfield 7, 12, 0, 1576, 0, 0), (53, .bipush 9, 0, 0, 0, 9, 0), (55, .iaload, 0, 0, 0, 0, 0), (56, .iconst (-1), 0, 0, 0, -1, 0), (57, .if_icmp .ne 10, 0, 67, 0, 0, 0)]
theorem oX12_mean_49 : bX12_mean_49.all (mz_ok RX12 cX12_mean 8) = true := by decide +kernel
def bX12_mean_60 : List mz_E := [(60, .aload_n 0, 0, 0, 0, 0, 0), (61, .bipush 6, 0, 0, 0, 6, 0)]
theorem oX12_mean_60 : bX12_mean_60.all (mz_ok RX12 cX12_mean 8) = true := by decide +kernel
def bX12_mean_67 : List mz_E := [(67, .iconst 0, 0, 0, 0, 0, 0), (68, .istore 4, 0, 0, 0, 0, 0)]
theorem oX12_mean_67 : bX12_mean_67.all (mz_ok RX12 cX12_mean 8) = true := by decide +kernel
def bX12_mean_70 : List mz_E := [(70, .iload 4, 0, 0, 0, 0, 0), (72, .sipush 130, 0, 0, 0, 130, 0), (75, .if_icmp .ge 27, 0, 102, 0, 0, 0)]
theorem oX12_mean_70 : bX12_mean_70.all (mz_ok RX12 cX12_mean 8) = true := by decide +kernel
def bX12_mean_102 : List mz_E := [(102, .lconst 0, 0, 0, 0, 0, 0), (103, .lstore 4, 0, 0, 0, 0, 0), (105, .iconst 0, 0, 0, 0, 0, 0), (106, .istore 6, 0, 0, 0, 0, 0)]
theorem oX12_mean_102 : bX12_mean_102.all (mz_ok RX12 cX12_mean 8) = true := by decide +kernel
def bX12_mean_108 : List mz_E := [(108, .iload 6, 0, 0, 0, 0, 0), (110, .iload_n 3, 0, 0, 0, 0, 0), (111, .if_icmp .ge 69, 0, 180, 0, 0, 0)]
theorem oX12_mean_108 : bX12_mean_108.all (mz_ok RX12 cX12_mean 8) = true := by decide +kernel
def bX12_mean_180 : List mz_E := [(180, .aload_n 0, 0, 0, 0, 0, 0), (181, .lload 4, 0, 0, 0, 0, 0), (183, .iload_n 3, 0, 0, 0, 0, 0), (184, .i2l, 0, 0, 0, 0, 0)]
theorem oX12_mean_180 : bX12_mean_180.all (mz_ok RX12 cX12_mean 8) = true := by decide +kernel
def bX12_mean_114 : List mz_E := [(114, .aload_n 0, 0, 0, 0, 0, 0), (115, .iload_n 2, 0, 0, 0, 0, 0), (116, .iload 6, 0, 0, 0, 0, 0), (118, .iadd, 0, 0, 0, 0, 0)]
theorem oX12_mean_114 : bX12_mean_114.all (mz_ok RX12 cX12_mean 8) = true := by decide +kernel
def bX12_mean_122 : List mz_E := [(122, .lload 4, 0, 0, 0, 0, 0), (124, .aload_n 0, 0, 0, 0, 0, 0), (125, .getfield 7, 12, 0, 1576, 0, 0), (128, .iload_n 1, 0, 0, 0, 0, 0)]
theorem oX12_mean_122 : bX12_mean_122.all (mz_ok RX12 cX12_mean 8) = true := by decide +kernel
def bX12_mean_132 : List mz_E := [(132, .iconst 5, 0, 0, 0, 5, 0), (133, .iadd, 0, 0, 0, 0, 0), (134, .iaload, 0, 0, 0, 0, 0), (135, .i2l, 0, 0, 0, 0, 0), (136, .ladd, 0, 0, 0, 0, 0), (137, .lstore 4, 0, 0, 0, 0, 0), (139, .iconst 0, 0, 0, 0, 0, 0), (140, .istore 7, 0, 0, 0, 0, 0)]
theorem oX12_mean_132 : bX12_mean_132.all (mz_ok RX12 cX12_mean 8) = true := by decide +kernel
def bX12_mean_142 : List mz_E := [(142, .iload 7, 0, 0, 0, 0, 0), (144, .sipush 130, 0, 0, 0, 130, 0), (147, .if_icmp .ge 27, 0, 174, 0, 0, 0)]
theorem oX12_mean_142 : bX12_mean_142.all (mz_ok RX12 cX12_mean 8) = true := by decide +kernel
def bX12_mean_174 : List mz_E := [(174, .iinc 6 1, 0, 0, 0, 1, 0), (177, .goto (-69), 0, 108, 0, 0, 0)]
theorem oX12_mean_174 : bX12_mean_174.all (mz_ok RX12 cX12_mean 8) = true := by decide +kernel
def bX12_mean_150 : List mz_E := [(150, .aload_n 0, 0, 0, 0, 0, 0), (151, .getfield 7, 12, 0, 1576, 0, 0), (154, .iload 7, 0, 0, 0, 0, 0), (156, .aload_n 0, 0, 0, 0, 0, 0), (157, .getfield 7, 12, 0, 1576, 0, 0), (160, .sipush 2500, 0, 0, 0, 2500, 0), (163, .iload 7, 0, 0, 0, 0, 0), (165, .iadd, 0, 0, 0, 0, 0), (166, .iaload, 0, 0, 0, 0, 0), (167, .iastore, 0, 0, 0, 0, 0), (168, .iinc 7 1, 0, 0, 0, 1, 0), (171, .goto (-29), 0, 142, 0, 0, 0)]
theorem oX12_mean_150 : bX12_mean_150.all (mz_ok RX12 cX12_mean 8) = true := by decide +kernel
def bX12_mean_78 : List mz_E := [(78, .aload_n 0, 0, 0, 0, 0, 0), (79, .getfield 7, 12, 0, 1576, 0, 0), (82, .sipush 2500, 0, 0, 0, 2500, 0), (85, .iload 4, 0, 0, 0, 0, 0), (87, .iadd, 0, 0, 0, 0, 0), (88, .aload_n 0, 0, 0, 0, 0, 0), (89, .getfield 7, 12, 0, 1576, 0, 0), (92, .iload 4, 0, 0, 0, 0, 0), (94, .iaload, 0, 0, 0, 0, 0), (95, .iastore, 0, 0, 0, 0, 0), (96, .iinc 4 1, 0, 0, 0, 1, 0), (99, .goto (-29), 0, 70, 0, 0, 0)]
theorem oX12_mean_78 : bX12_mean_78.all (mz_ok RX12 cX12_mean 8) = true := by decide +kernel
abbrev IX12_mean : mz_I := (yX12_mean, cX12_mean, 8, (some .boolean), 0, 9, 0, 0)
theorem kX12_mean : mz_okm IX12_mean 2289 141 2287 3 = true := by decide +kernel
theorem vX12_mean : mz_okV IX12_mean 2287 2288 = true := by decide +kernel
def fX12_mean_43 (D : mz_D) : Option (Int32 × mz_D) := (Option.bind (fX12_is (1 : Int32) D) fun q1 => (mz_gd (mz_bo q1.1) (some (q1.1, q1.2))))
set_option maxHeartbeats 4000000 in
theorem tX12_mean_43 (r : (Int32 × mz_D)) : ∀ (D : mz_D), fX12_mean_43 D = some r → mz_Go IX12_mean (some (.inl r.1), r.2) 0 0 (43, [some (.inr (.inr (some (0, 200)))), none, none, none, none, none, none, none], [], D) := by
  intro D h
  rw [fX12_mean_43] at h
  refine mz_Go.run (gs := []) (st' := (45, [some (.inr (.inr (some (0, 200)))), none, none, none, none, none, none, none], [.inl (1 : Int32), .inr (.inr (some (0, 200)))], D)) bX12_mean_43 oX12_mean_43 rfl trivial ?_
  obtain ⟨q1, hq1, h⟩ := mz_bd_some h
  refine mz_Go.callV (I := IX12_mean) (J := IX12_is) (as := [.inl (1 : Int32)]) (ci := 12) (g := 0) (o := 200) (idx := 82) (pl := 1701) (rest := []) (mX12_is (1 : Int32) D q1 hq1) kX12_is vX12_is (by decide +kernel) (by decide +kernel) (by decide +kernel) rfl rfl ⟨rfl, rfl⟩ rfl rfl rfl rfl ?_
  obtain ⟨hb2, h⟩ := mz_gd_some h
  cases h
  exact mz_Go.retz (by decide +kernel) rfl ⟨Nat.le_refl _, Nat.le_refl _⟩ hb2 rfl
def fX12_mean_142 (k108 : Int32 → Int32 → Int32 → Int64 → Int32 → mz_D → Option (Int32 × mz_D)) : Nat → Int32 → Int32 → Int32 → Int64 → Int32 → Int32 → mz_D → Option (Int32 × mz_D)
  | 0 => fun _ _ _ _ _ _ _ => none
  | n + 1 => fun x1 x2 x3 y4 x6 x7 D => (if (130 : Int32) ≤ x7 then (k108 x1 x2 x3 y4 (x6 + (1 : Int32)) D) else (mz_gd (mz_ix ((2500 : Int32) + x7) 3000) (mz_gd (mz_ix x7 3000) ((fX12_mean_142 k108 n) x1 x2 x3 y4 x6 (x7 + (1 : Int32)) (mz_wi D 0 201 (x7).toNatClampNeg (D.1 0 201 (((2500 : Int32) + x7)).toNatClampNeg))))))
set_option maxHeartbeats 4000000 in
theorem tX12_mean_142 (r : (Int32 × mz_D)) (k108 : Int32 → Int32 → Int32 → Int64 → Int32 → mz_D → Option (Int32 × mz_D)) (hk108 : ∀ (x1 : Int32) (x2 : Int32) (x3 : Int32) (y4 : Int64) (x6 : Int32) (D : mz_D), k108 x1 x2 x3 y4 x6 D = some r → mz_Go IX12_mean (some (.inl r.1), r.2) 0 0 (108, [some (.inr (.inr (some (0, 200)))), some (.inl x1), some (.inl x2), some (.inl x3), some (.inr (.inl y4)), none, some (.inl x6), none], [], D)) : ∀ (n : Nat) (x1 : Int32) (x2 : Int32) (x3 : Int32) (y4 : Int64) (x6 : Int32) (x7 : Int32) (D : mz_D), fX12_mean_142 k108 n x1 x2 x3 y4 x6 x7 D = some r → mz_Go IX12_mean (some (.inl r.1), r.2) 0 0 (142, [some (.inr (.inr (some (0, 200)))), some (.inl x1), some (.inl x2), some (.inl x3), some (.inr (.inl y4)), none, some (.inl x6), some (.inl x7)], [], D) := by
  intro n
  induction n with
  | zero => intro x1 x2 x3 y4 x6 x7 D h; have h : (none : Option (Int32 × mz_D)) = some r := h; cases h
  | succ n ih =>
    intro x1 x2 x3 y4 x6 x7 D h
    rw [fX12_mean_142] at h
    refine mz_Go.run (gs := []) (st' := (if (130 : Int32) ≤ x7 then (174, [some (.inr (.inr (some (0, 200)))), some (.inl x1), some (.inl x2), some (.inl x3), some (.inr (.inl y4)), none, some (.inl x6), some (.inl x7)], [], D) else (150, [some (.inr (.inr (some (0, 200)))), some (.inl x1), some (.inl x2), some (.inl x3), some (.inr (.inl y4)), none, some (.inl x6), some (.inl x7)], [], D))) bX12_mean_142 oX12_mean_142 rfl trivial ?_
    refine mz_Go.ite (fun hc1 => ?_) (fun hc1 => ?_)
    · have h := mz_ifp hc1 h
      refine mz_Go.run (gs := []) (st' := (108, [some (.inr (.inr (some (0, 200)))), some (.inl x1), some (.inl x2), some (.inl x3), some (.inr (.inl y4)), none, some (.inl (x6 + (1 : Int32))), some (.inl x7)], [], D)) bX12_mean_174 oX12_mean_174 rfl trivial ?_
      exact mz_Go.drop [true, true, true, true, true, false, true, false] (hk108 x1 x2 x3 y4 (x6 + (1 : Int32)) D h)
    · have h := mz_ifn hc1 h
      obtain ⟨hb2, h⟩ := mz_gd_some h
      obtain ⟨hb3, h⟩ := mz_gd_some h
      refine mz_Go.run (gs := [mz_kz 0 0 200, mz_kz 0 0 200, mz_kz 0 0 201, mz_ix ((2500 : Int32) + x7) 3000, mz_kz 0 0 201, mz_ix x7 3000]) (st' := (142, [some (.inr (.inr (some (0, 200)))), some (.inl x1), some (.inl x2), some (.inl x3), some (.inr (.inl y4)), none, some (.inl x6), some (.inl (x7 + (1 : Int32)))], [], (mz_wi D 0 201 (x7).toNatClampNeg (D.1 0 201 (((2500 : Int32) + x7)).toNatClampNeg)))) bX12_mean_150 oX12_mean_150 rfl ⟨rfl, rfl, rfl, hb2, rfl, hb3, trivial⟩ ?_
      exact mz_Go.drop [true, true, true, true, true, false, true, true] (ih x1 x2 x3 y4 x6 (x7 + (1 : Int32)) (mz_wi D 0 201 (x7).toNatClampNeg (D.1 0 201 (((2500 : Int32) + x7)).toNatClampNeg)) h)
def fX12_mean_108 : Nat → Int32 → Int32 → Int32 → Int64 → Int32 → mz_D → Option (Int32 × mz_D)
  | 0 => fun _ _ _ _ _ _ => none
  | n + 1 => fun x1 x2 x3 y4 x6 D => (if x3 ≤ x6 then (Option.bind (fX12_tellsBy y4 (x3).toInt64 D) fun q2 => (mz_gd (mz_bo q2.1) (some (q2.1, q2.2)))) else (Option.bind (fX12_lives (x2 + x6) D) fun q4 => (mz_gd (mz_ix (((12 : Int32) + ((8 : Int32) * x1)) + (5 : Int32)) 3000) (fX12_mean_142 (fX12_mean_108 n) mz_N x1 x2 x3 (y4 + ((q4.1 0 201 ((((12 : Int32) + ((8 : Int32) * x1)) + (5 : Int32))).toNatClampNeg)).toInt64) x6 (0 : Int32) q4))))
set_option maxHeartbeats 4000000 in
theorem tX12_mean_108 (r : (Int32 × mz_D)) : ∀ (n : Nat) (x1 : Int32) (x2 : Int32) (x3 : Int32) (y4 : Int64) (x6 : Int32) (D : mz_D), fX12_mean_108 n x1 x2 x3 y4 x6 D = some r → mz_Go IX12_mean (some (.inl r.1), r.2) 0 0 (108, [some (.inr (.inr (some (0, 200)))), some (.inl x1), some (.inl x2), some (.inl x3), some (.inr (.inl y4)), none, some (.inl x6), none], [], D) := by
  intro n
  induction n with
  | zero => intro x1 x2 x3 y4 x6 D h; have h : (none : Option (Int32 × mz_D)) = some r := h; cases h
  | succ n ih =>
    intro x1 x2 x3 y4 x6 D h
    rw [fX12_mean_108] at h
    refine mz_Go.run (gs := []) (st' := (if x3 ≤ x6 then (180, [some (.inr (.inr (some (0, 200)))), some (.inl x1), some (.inl x2), some (.inl x3), some (.inr (.inl y4)), none, some (.inl x6), none], [], D) else (114, [some (.inr (.inr (some (0, 200)))), some (.inl x1), some (.inl x2), some (.inl x3), some (.inr (.inl y4)), none, some (.inl x6), none], [], D))) bX12_mean_108 oX12_mean_108 rfl trivial ?_
    refine mz_Go.ite (fun hc1 => ?_) (fun hc1 => ?_)
    · have h := mz_ifp hc1 h
      refine mz_Go.run (gs := []) (st' := (185, [some (.inr (.inr (some (0, 200)))), some (.inl x1), some (.inl x2), some (.inl x3), some (.inr (.inl y4)), none, some (.inl x6), none], [.inr (.inl (x3).toInt64), .inr (.inl y4), .inr (.inr (some (0, 200)))], D)) bX12_mean_180 oX12_mean_180 rfl trivial ?_
      obtain ⟨q2, hq2, h⟩ := mz_bd_some h
      refine mz_Go.callV (I := IX12_mean) (J := IX12_tellsBy) (as := [.inr (.inl y4), .inr (.inl (x3).toInt64)]) (ci := 12) (g := 0) (o := 200) (idx := 343) (pl := 2056) (rest := []) (mX12_tellsBy y4 (x3).toInt64 D q2 hq2) kX12_tellsBy vX12_tellsBy (by decide +kernel) (by decide +kernel) (by decide +kernel) rfl rfl ⟨rfl, rfl⟩ rfl rfl rfl rfl ?_
      obtain ⟨hb3, h⟩ := mz_gd_some h
      cases h
      exact mz_Go.retz (by decide +kernel) rfl ⟨Nat.le_refl _, Nat.le_refl _⟩ hb3 rfl
    · have h := mz_ifn hc1 h
      refine mz_Go.run (gs := []) (st' := (119, [some (.inr (.inr (some (0, 200)))), some (.inl x1), some (.inl x2), some (.inl x3), some (.inr (.inl y4)), none, some (.inl x6), none], [.inl (x2 + x6), .inr (.inr (some (0, 200)))], D)) bX12_mean_114 oX12_mean_114 rfl trivial ?_
      obtain ⟨q4, hq4, h⟩ := mz_bd_some h
      refine mz_Go.callV (I := IX12_mean) (J := IX12_lives) (as := [.inl (x2 + x6)]) (ci := 12) (g := 0) (o := 200) (idx := 452) (pl := 2249) (rest := []) (mX12_lives (x2 + x6) D q4 hq4) kX12_lives vX12_lives (by decide +kernel) (by decide +kernel) (by decide +kernel) rfl rfl ⟨rfl, rfl⟩ rfl rfl rfl rfl ?_
      refine mz_Go.run (gs := [mz_kz 0 0 200]) (st' := (129, [some (.inr (.inr (some (0, 200)))), some (.inl x1), some (.inl x2), some (.inl x3), some (.inr (.inl y4)), none, some (.inl x6), none], [.inl x1, .inr (.inr (some (0, 201))), .inr (.inl y4)], q4)) bX12_mean_122 oX12_mean_122 rfl ⟨rfl, trivial⟩ ?_
      refine mz_Go.callS (I := IX12_mean) (J := IX12_personRow) (as := [.inl x1]) (idx := 267) (pl := 1895) (rest := [.inr (.inr (some (0, 201))), .inr (.inl y4)]) (mX12_personRow x1 q4) kX12_personRow vX12_personRow (by decide +kernel) (by decide +kernel) (by decide +kernel) rfl rfl ⟨rfl, rfl⟩ rfl ?_
      obtain ⟨hb5, h⟩ := mz_gd_some h
      refine mz_Go.run (gs := [mz_kz 0 0 201, mz_ix (((12 : Int32) + ((8 : Int32) * x1)) + (5 : Int32)) 3000]) (st' := (142, [some (.inr (.inr (some (0, 200)))), some (.inl x1), some (.inl x2), some (.inl x3), some (.inr (.inl (y4 + ((q4.1 0 201 ((((12 : Int32) + ((8 : Int32) * x1)) + (5 : Int32))).toNatClampNeg)).toInt64))), none, some (.inl x6), some (.inl (0 : Int32))], [], q4)) bX12_mean_132 oX12_mean_132 rfl ⟨rfl, hb5, trivial⟩ ?_
      exact mz_Go.drop [true, true, true, true, true, false, true, true] (tX12_mean_142 r (fX12_mean_108 n) ih mz_N x1 x2 x3 (y4 + ((q4.1 0 201 ((((12 : Int32) + ((8 : Int32) * x1)) + (5 : Int32))).toNatClampNeg)).toInt64) x6 (0 : Int32) q4 h)
def fX12_mean_70 : Nat → Int32 → Int32 → Int32 → Int32 → mz_D → Option (Int32 × mz_D)
  | 0 => fun _ _ _ _ _ => none
  | n + 1 => fun x1 x2 x3 x4 D => (if (130 : Int32) ≤ x4 then (fX12_mean_108 mz_N x1 x2 x3 (0 : Int64) (0 : Int32) D) else (mz_gd (mz_ix x4 3000) (mz_gd (mz_ix ((2500 : Int32) + x4) 3000) ((fX12_mean_70 n) x1 x2 x3 (x4 + (1 : Int32)) (mz_wi D 0 201 (((2500 : Int32) + x4)).toNatClampNeg (D.1 0 201 (x4).toNatClampNeg))))))
set_option maxHeartbeats 4000000 in
theorem tX12_mean_70 (r : (Int32 × mz_D)) : ∀ (n : Nat) (x1 : Int32) (x2 : Int32) (x3 : Int32) (x4 : Int32) (D : mz_D), fX12_mean_70 n x1 x2 x3 x4 D = some r → mz_Go IX12_mean (some (.inl r.1), r.2) 0 0 (70, [some (.inr (.inr (some (0, 200)))), some (.inl x1), some (.inl x2), some (.inl x3), some (.inl x4), none, none, none], [], D) := by
  intro n
  induction n with
  | zero => intro x1 x2 x3 x4 D h; have h : (none : Option (Int32 × mz_D)) = some r := h; cases h
  | succ n ih =>
    intro x1 x2 x3 x4 D h
    rw [fX12_mean_70] at h
    refine mz_Go.run (gs := []) (st' := (if (130 : Int32) ≤ x4 then (102, [some (.inr (.inr (some (0, 200)))), some (.inl x1), some (.inl x2), some (.inl x3), some (.inl x4), none, none, none], [], D) else (78, [some (.inr (.inr (some (0, 200)))), some (.inl x1), some (.inl x2), some (.inl x3), some (.inl x4), none, none, none], [], D))) bX12_mean_70 oX12_mean_70 rfl trivial ?_
    refine mz_Go.ite (fun hc1 => ?_) (fun hc1 => ?_)
    · have h := mz_ifp hc1 h
      refine mz_Go.run (gs := []) (st' := (108, [some (.inr (.inr (some (0, 200)))), some (.inl x1), some (.inl x2), some (.inl x3), some (.inr (.inl (0 : Int64))), none, some (.inl (0 : Int32)), none], [], D)) bX12_mean_102 oX12_mean_102 rfl trivial ?_
      exact mz_Go.drop [true, true, true, true, true, false, true, false] (tX12_mean_108 r mz_N x1 x2 x3 (0 : Int64) (0 : Int32) D h)
    · have h := mz_ifn hc1 h
      obtain ⟨hb2, h⟩ := mz_gd_some h
      obtain ⟨hb3, h⟩ := mz_gd_some h
      refine mz_Go.run (gs := [mz_kz 0 0 200, mz_kz 0 0 200, mz_kz 0 0 201, mz_ix x4 3000, mz_kz 0 0 201, mz_ix ((2500 : Int32) + x4) 3000]) (st' := (70, [some (.inr (.inr (some (0, 200)))), some (.inl x1), some (.inl x2), some (.inl x3), some (.inl (x4 + (1 : Int32))), none, none, none], [], (mz_wi D 0 201 (((2500 : Int32) + x4)).toNatClampNeg (D.1 0 201 (x4).toNatClampNeg)))) bX12_mean_78 oX12_mean_78 rfl ⟨rfl, rfl, rfl, hb2, rfl, hb3, trivial⟩ ?_
      exact mz_Go.drop [true, true, true, true, true, false, false, false] (ih x1 x2 x3 (x4 + (1 : Int32)) (mz_wi D 0 201 (((2500 : Int32) + x4)).toNatClampNeg (D.1 0 201 (x4).toNatClampNeg)) h)
def fX12_mean (x1 : Int32) (x2 : Int32) (x3 : Int32) (D : mz_D) : Option (Int32 × mz_D) := (if (fX12_isPerson x1 D) = 0 then (fX12_mean_43 D) else (if (fX12_isFrom (x2).toInt64 (0 : Int64) (9999 : Int64)) = 0 then (fX12_mean_43 D) else (if (fX12_isFrom (x3).toInt64 (1 : Int64) (20 : Int64)) = 0 then (fX12_mean_43 D) else (if ((x2 + x3) - (1 : Int32)) ≤ (9999 : Int32) then (if (D.1 0 201 ((9 : Int32)).toNatClampNeg) = (-1 : Int32) then (Option.bind (fX12_is (6 : Int32) D) fun q6 => (mz_gd (mz_bo q6.1) (some (q6.1, q6.2)))) else (fX12_mean_70 mz_N x1 x2 x3 (0 : Int32) D)) else (fX12_mean_43 D)))))
set_option maxHeartbeats 4000000 in
theorem mX12_mean (x1 : Int32) (x2 : Int32) (x3 : Int32) (D : mz_D) (r : (Int32 × mz_D)) (h : fX12_mean x1 x2 x3 D = some r) : mz_Met IX12_mean [.inr (.inr (some (0, 200))), .inl x1, .inl x2, .inl x3] D (some (.inl r.1), r.2) := by
  refine mz_Met.of (by decide +kernel) (Nat.le_of_ble_eq_true rfl) ?_
  show mz_Go IX12_mean (some (.inl r.1), r.2) 0 0 (0, [some (.inr (.inr (some (0, 200)))), some (.inl x1), some (.inl x2), some (.inl x3), none, none, none, none], [], D)
  rw [fX12_mean] at h
  refine mz_Go.run (gs := []) (st' := (2, [some (.inr (.inr (some (0, 200)))), some (.inl x1), some (.inl x2), some (.inl x3), none, none, none, none], [.inl x1, .inr (.inr (some (0, 200)))], D)) bX12_mean_0 oX12_mean_0 rfl trivial ?_
  refine mz_Go.callV (I := IX12_mean) (J := IX12_isPerson) (as := [.inl x1]) (ci := 12) (g := 0) (o := 200) (idx := 248) (pl := 1902) (rest := []) (mX12_isPerson x1 D _ rfl) kX12_isPerson vX12_isPerson (by decide +kernel) (by decide +kernel) (by decide +kernel) rfl rfl ⟨rfl, rfl⟩ rfl rfl rfl rfl ?_
  refine mz_Go.run (gs := []) (st' := (if (fX12_isPerson x1 D) = 0 then (43, [some (.inr (.inr (some (0, 200)))), some (.inl x1), some (.inl x2), some (.inl x3), none, none, none, none], [], D) else (8, [some (.inr (.inr (some (0, 200)))), some (.inl x1), some (.inl x2), some (.inl x3), none, none, none, none], [], D))) bX12_mean_5 oX12_mean_5 rfl trivial ?_
  refine mz_Go.ite (fun hc1 => ?_) (fun hc1 => ?_)
  · have h := mz_ifp hc1 h
    exact mz_Go.drop [true, false, false, false, false, false, false, false] (tX12_mean_43 r D h)
  · have h := mz_ifn hc1 h
    refine mz_Go.run (gs := []) (st' := (14, [some (.inr (.inr (some (0, 200)))), some (.inl x1), some (.inl x2), some (.inl x3), none, none, none, none], [.inr (.inl (9999 : Int64)), .inr (.inl (0 : Int64)), .inr (.inl (x2).toInt64)], D)) bX12_mean_8 oX12_mean_8 rfl trivial ?_
    refine mz_Go.callS (I := IX12_mean) (J := IX12_isFrom) (as := [.inr (.inl (x2).toInt64), .inr (.inl (0 : Int64)), .inr (.inl (9999 : Int64))]) (idx := 302) (pl := 1974) (rest := []) (mX12_isFrom (x2).toInt64 (0 : Int64) (9999 : Int64) D _ rfl) kX12_isFrom vX12_isFrom (by decide +kernel) (by decide +kernel) (by decide +kernel) rfl rfl ⟨rfl, rfl⟩ rfl ?_
    refine mz_Go.run (gs := []) (st' := (if (fX12_isFrom (x2).toInt64 (0 : Int64) (9999 : Int64)) = 0 then (43, [some (.inr (.inr (some (0, 200)))), some (.inl x1), some (.inl x2), some (.inl x3), none, none, none, none], [], D) else (20, [some (.inr (.inr (some (0, 200)))), some (.inl x1), some (.inl x2), some (.inl x3), none, none, none, none], [], D))) bX12_mean_17 oX12_mean_17 rfl trivial ?_
    refine mz_Go.ite (fun hc2 => ?_) (fun hc2 => ?_)
    · have h := mz_ifp hc2 h
      exact mz_Go.drop [true, false, false, false, false, false, false, false] (tX12_mean_43 r D h)
    · have h := mz_ifn hc2 h
      refine mz_Go.run (gs := []) (st' := (26, [some (.inr (.inr (some (0, 200)))), some (.inl x1), some (.inl x2), some (.inl x3), none, none, none, none], [.inr (.inl (20 : Int64)), .inr (.inl (1 : Int64)), .inr (.inl (x3).toInt64)], D)) bX12_mean_20 oX12_mean_20 rfl trivial ?_
      refine mz_Go.callS (I := IX12_mean) (J := IX12_isFrom) (as := [.inr (.inl (x3).toInt64), .inr (.inl (1 : Int64)), .inr (.inl (20 : Int64))]) (idx := 302) (pl := 1974) (rest := []) (mX12_isFrom (x3).toInt64 (1 : Int64) (20 : Int64) D _ rfl) kX12_isFrom vX12_isFrom (by decide +kernel) (by decide +kernel) (by decide +kernel) rfl rfl ⟨rfl, rfl⟩ rfl ?_
      refine mz_Go.run (gs := []) (st' := (if (fX12_isFrom (x3).toInt64 (1 : Int64) (20 : Int64)) = 0 then (43, [some (.inr (.inr (some (0, 200)))), some (.inl x1), some (.inl x2), some (.inl x3), none, none, none, none], [], D) else (32, [some (.inr (.inr (some (0, 200)))), some (.inl x1), some (.inl x2), some (.inl x3), none, none, none, none], [], D))) bX12_mean_29 oX12_mean_29 rfl trivial ?_
      refine mz_Go.ite (fun hc3 => ?_) (fun hc3 => ?_)
      · have h := mz_ifp hc3 h
        exact mz_Go.drop [true, false, false, false, false, false, false, false] (tX12_mean_43 r D h)
      · have h := mz_ifn hc3 h
        refine mz_Go.run (gs := []) (st' := (if ((x2 + x3) - (1 : Int32)) ≤ (9999 : Int32) then (49, [some (.inr (.inr (some (0, 200)))), some (.inl x1), some (.inl x2), some (.inl x3), none, none, none, none], [], D) else (43, [some (.inr (.inr (some (0, 200)))), some (.inl x1), some (.inl x2), some (.inl x3), none, none, none, none], [], D))) bX12_mean_32 oX12_mean_32 rfl trivial ?_
        refine mz_Go.ite (fun hc4 => ?_) (fun hc4 => ?_)
        · have h := mz_ifp hc4 h
          refine mz_Go.run (gs := [mz_kz 0 0 200, mz_kz 0 0 201, mz_ix (9 : Int32) 3000]) (st' := (if (D.1 0 201 ((9 : Int32)).toNatClampNeg) = (-1 : Int32) then (60, [some (.inr (.inr (some (0, 200)))), some (.inl x1), some (.inl x2), some (.inl x3), none, none, none, none], [], D) else (67, [some (.inr (.inr (some (0, 200)))), some (.inl x1), some (.inl x2), some (.inl x3), none, none, none, none], [], D))) bX12_mean_49 oX12_mean_49 rfl ⟨rfl, rfl, (by decide), trivial⟩ ?_
          refine mz_Go.ite (fun hc5 => ?_) (fun hc5 => ?_)
          · have h := mz_ifp hc5 h
            refine mz_Go.run (gs := []) (st' := (63, [some (.inr (.inr (some (0, 200)))), some (.inl x1), some (.inl x2), some (.inl x3), none, none, none, none], [.inl (6 : Int32), .inr (.inr (some (0, 200)))], D)) bX12_mean_60 oX12_mean_60 rfl trivial ?_
            obtain ⟨q6, hq6, h⟩ := mz_bd_some h
            refine mz_Go.callV (I := IX12_mean) (J := IX12_is) (as := [.inl (6 : Int32)]) (ci := 12) (g := 0) (o := 200) (idx := 82) (pl := 1701) (rest := []) (mX12_is (6 : Int32) D q6 hq6) kX12_is vX12_is (by decide +kernel) (by decide +kernel) (by decide +kernel) rfl rfl ⟨rfl, rfl⟩ rfl rfl rfl rfl ?_
            obtain ⟨hb7, h⟩ := mz_gd_some h
            cases h
            exact mz_Go.retz (by decide +kernel) rfl ⟨Nat.le_refl _, Nat.le_refl _⟩ hb7 rfl
          · have h := mz_ifn hc5 h
            refine mz_Go.run (gs := []) (st' := (70, [some (.inr (.inr (some (0, 200)))), some (.inl x1), some (.inl x2), some (.inl x3), some (.inl (0 : Int32)), none, none, none], [], D)) bX12_mean_67 oX12_mean_67 rfl trivial ?_
            exact mz_Go.drop [true, true, true, true, true, false, false, false] (tX12_mean_70 r mz_N x1 x2 x3 (0 : Int32) D h)
        · have h := mz_ifn hc4 h
          exact mz_Go.drop [true, false, false, false, false, false, false, false] (tX12_mean_43 r D h)
def bX12_copies_0 : List mz_E := [(0, .iconst 0, 0, 0, 0, 0, 0), (1, .istore_n 3, 0, 0, 0, 0, 0)]
theorem oX12_copies_0 : bX12_copies_0.all (mz_ok RX12 cX12_copies 4) = true := by decide +kernel
def bX12_copies_2 : List mz_E := [(2, .iload_n 3, 0, 0, 0, 0, 0), (3, .sipush 500, 0, 0, 0, 500, 0), (6, .if_icmp .ge 33, 0, 39, 0, 0, 0)]
theorem oX12_copies_2 : bX12_copies_2.all (mz_ok RX12 cX12_copies 4) = true := by decide +kernel
def bX12_copies_39 : List mz_E := [(39, .iconst 0, 0, 0, 0, 0, 0), (40, .istore_n 3, 0, 0, 0, 0, 0)]
theorem oX12_copies_39 : bX12_copies_39.all (mz_ok RX12 cX12_copies 4) = true := by decide +kernel
def bX12_copies_41 : List mz_E := [(41, .iload_n 3, 0, 0, 0, 0, 0), (42, .bipush 6, 0, 0, 0, 6, 0), (44, .if_icmp .ge 31, 0, 75, 0, 0, 0)]
theorem oX12_copies_41 : bX12_copies_41.all (mz_ok RX12 cX12_copies 4) = true := by decide +kernel
def bX12_copies_47 : List mz_E := [(47, .aload_n 0, 0, 0, 0, 0, 0), (48, .getfield 13, 12, 1, 1577, 0, 0), (51, .bipush 6, 0, 0, 0, 6, 0), (53, .iload_n 2, 0, 0, 0, 0, 0), (54, .imul, 0, 0, 0, 0, 0), (55, .iload_n 3, 0, 0, 0, 0, 0), (56, .iadd, 0, 0, 0, 0, 0), (57, .aload_n 0, 0, 0, 0, 0, 0), (58, .getfield 13, 12, 1, 1577, 0, 0), (61, .bipush 6, 0, 0, 0, 6, 0), (63, .iload_n 1, 0, 0, 0, 0, 0), (64, .imul, 0, 0, 0, 0, 0), (65, .iload_n 3, 0, 0, 0, 0, 0), (66, .iadd, 0, 0, 0, 0, 0), (67, .laload, 0, 0, 0, 0, 0), (68, .lastore, 0, 0, 0, 0, 0), (69, .iinc 3 1, 0, 0, 0, 1, 0), (72, .goto (-31), 0, 41, 0, 0, 0)]
theorem oX12_copies_47 : bX12_copies_47.all (mz_ok RX12 cX12_copies 4) = true := by decide +kernel
def bX12_copies_9 : List mz_E := [(9, .aload_n 0, 0, 0, 0, 0, 0), (10, .getfield 7, 12, 0, 1576, 0, 0), (13, .sipush 500, 0, 0, 0, 500, 0), (16, .iload_n 2, 0, 0, 0, 0, 0), (17, .imul, 0, 0, 0, 0, 0), (18, .iload_n 3, 0, 0, 0, 0, 0), (19, .iadd, 0, 0, 0, 0, 0), (20, .aload_n 0, 0, 0, 0, 0, 0), (21, .getfield 7, 12, 0, 1576, 0, 0), (24, .sipush 500, 0, 0, 0, 500, 0), (27, .iload_n 1, 0, 0, 0, 0, 0), (28, .imul, 0, 0, 0, 0, 0), (29, .iload_n 3, 0, 0, 0, 0, 0), (30, .iadd, 0, 0, 0, 0, 0), (31, .iaload, 0, 0, 0, 0, 0), (32, .iastore, 0, 0, 0, 0, 0), (33, .iinc 3 1, 0, 0, 0, 1, 0), (36, .goto (-34), 0, 2, 0, 0, 0)]
theorem oX12_copies_9 : bX12_copies_9.all (mz_ok RX12 cX12_copies 4) = true := by decide +kernel
abbrev IX12_copies : mz_I := (yX12_copies, cX12_copies, 4, none, 0, 0, 0, 0)
theorem kX12_copies : mz_okm IX12_copies 2298 141 2297 2 = true := by decide +kernel
theorem vX12_copies : mz_okV IX12_copies 2297 124 = true := by decide +kernel
def fX12_copies_41 : Nat → Int32 → Int32 → Int32 → mz_D → Option mz_D
  | 0 => fun _ _ _ _ => none
  | n + 1 => fun x1 x2 x3 D => (if (6 : Int32) ≤ x3 then (some D) else (mz_gd (mz_ix (((6 : Int32) * x1) + x3) 36) (mz_gd (mz_ix (((6 : Int32) * x2) + x3) 36) ((fX12_copies_41 n) x1 x2 (x3 + (1 : Int32)) (mz_wg D 0 202 ((((6 : Int32) * x2) + x3)).toNatClampNeg (D.2 0 202 ((((6 : Int32) * x1) + x3)).toNatClampNeg))))))
set_option maxHeartbeats 4000000 in
theorem tX12_copies_41 (r : mz_D) : ∀ (n : Nat) (x1 : Int32) (x2 : Int32) (x3 : Int32) (D : mz_D), fX12_copies_41 n x1 x2 x3 D = some r → mz_Go IX12_copies (none, r) 0 0 (41, [some (.inr (.inr (some (0, 200)))), some (.inl x1), some (.inl x2), some (.inl x3)], [], D) := by
  intro n
  induction n with
  | zero => intro x1 x2 x3 D h; have h : (none : Option mz_D) = some r := h; cases h
  | succ n ih =>
    intro x1 x2 x3 D h
    rw [fX12_copies_41] at h
    refine mz_Go.run (gs := []) (st' := (if (6 : Int32) ≤ x3 then (75, [some (.inr (.inr (some (0, 200)))), some (.inl x1), some (.inl x2), some (.inl x3)], [], D) else (47, [some (.inr (.inr (some (0, 200)))), some (.inl x1), some (.inl x2), some (.inl x3)], [], D))) bX12_copies_41 oX12_copies_41 rfl trivial ?_
    refine mz_Go.ite (fun hc1 => ?_) (fun hc1 => ?_)
    · have h := mz_ifp hc1 h
      cases h
      exact mz_Go.retv (by decide +kernel) rfl ⟨Nat.le_refl _, Nat.le_refl _⟩ rfl
    · have h := mz_ifn hc1 h
      obtain ⟨hb2, h⟩ := mz_gd_some h
      obtain ⟨hb3, h⟩ := mz_gd_some h
      refine mz_Go.run (gs := [mz_kz 0 0 200, mz_kz 0 0 200, mz_kz 0 0 202, mz_ix (((6 : Int32) * x1) + x3) 36, mz_kz 0 0 202, mz_ix (((6 : Int32) * x2) + x3) 36]) (st' := (41, [some (.inr (.inr (some (0, 200)))), some (.inl x1), some (.inl x2), some (.inl (x3 + (1 : Int32)))], [], (mz_wg D 0 202 ((((6 : Int32) * x2) + x3)).toNatClampNeg (D.2 0 202 ((((6 : Int32) * x1) + x3)).toNatClampNeg)))) bX12_copies_47 oX12_copies_47 rfl ⟨rfl, rfl, rfl, hb2, rfl, hb3, trivial⟩ ?_
      exact mz_Go.drop [true, true, true, true] (ih x1 x2 (x3 + (1 : Int32)) (mz_wg D 0 202 ((((6 : Int32) * x2) + x3)).toNatClampNeg (D.2 0 202 ((((6 : Int32) * x1) + x3)).toNatClampNeg)) h)
def fX12_copies_2 : Nat → Int32 → Int32 → Int32 → mz_D → Option mz_D
  | 0 => fun _ _ _ _ => none
  | n + 1 => fun x1 x2 x3 D => (if (500 : Int32) ≤ x3 then (fX12_copies_41 mz_N x1 x2 (0 : Int32) D) else (mz_gd (mz_ix (((500 : Int32) * x1) + x3) 3000) (mz_gd (mz_ix (((500 : Int32) * x2) + x3) 3000) ((fX12_copies_2 n) x1 x2 (x3 + (1 : Int32)) (mz_wi D 0 201 ((((500 : Int32) * x2) + x3)).toNatClampNeg (D.1 0 201 ((((500 : Int32) * x1) + x3)).toNatClampNeg))))))
set_option maxHeartbeats 4000000 in
theorem tX12_copies_2 (r : mz_D) : ∀ (n : Nat) (x1 : Int32) (x2 : Int32) (x3 : Int32) (D : mz_D), fX12_copies_2 n x1 x2 x3 D = some r → mz_Go IX12_copies (none, r) 0 0 (2, [some (.inr (.inr (some (0, 200)))), some (.inl x1), some (.inl x2), some (.inl x3)], [], D) := by
  intro n
  induction n with
  | zero => intro x1 x2 x3 D h; have h : (none : Option mz_D) = some r := h; cases h
  | succ n ih =>
    intro x1 x2 x3 D h
    rw [fX12_copies_2] at h
    refine mz_Go.run (gs := []) (st' := (if (500 : Int32) ≤ x3 then (39, [some (.inr (.inr (some (0, 200)))), some (.inl x1), some (.inl x2), some (.inl x3)], [], D) else (9, [some (.inr (.inr (some (0, 200)))), some (.inl x1), some (.inl x2), some (.inl x3)], [], D))) bX12_copies_2 oX12_copies_2 rfl trivial ?_
    refine mz_Go.ite (fun hc1 => ?_) (fun hc1 => ?_)
    · have h := mz_ifp hc1 h
      refine mz_Go.run (gs := []) (st' := (41, [some (.inr (.inr (some (0, 200)))), some (.inl x1), some (.inl x2), some (.inl (0 : Int32))], [], D)) bX12_copies_39 oX12_copies_39 rfl trivial ?_
      exact mz_Go.drop [true, true, true, true] (tX12_copies_41 r mz_N x1 x2 (0 : Int32) D h)
    · have h := mz_ifn hc1 h
      obtain ⟨hb2, h⟩ := mz_gd_some h
      obtain ⟨hb3, h⟩ := mz_gd_some h
      refine mz_Go.run (gs := [mz_kz 0 0 200, mz_kz 0 0 200, mz_kz 0 0 201, mz_ix (((500 : Int32) * x1) + x3) 3000, mz_kz 0 0 201, mz_ix (((500 : Int32) * x2) + x3) 3000]) (st' := (2, [some (.inr (.inr (some (0, 200)))), some (.inl x1), some (.inl x2), some (.inl (x3 + (1 : Int32)))], [], (mz_wi D 0 201 ((((500 : Int32) * x2) + x3)).toNatClampNeg (D.1 0 201 ((((500 : Int32) * x1) + x3)).toNatClampNeg)))) bX12_copies_9 oX12_copies_9 rfl ⟨rfl, rfl, rfl, hb2, rfl, hb3, trivial⟩ ?_
      exact mz_Go.drop [true, true, true, true] (ih x1 x2 (x3 + (1 : Int32)) (mz_wi D 0 201 ((((500 : Int32) * x2) + x3)).toNatClampNeg (D.1 0 201 ((((500 : Int32) * x1) + x3)).toNatClampNeg)) h)
def fX12_copies (x1 : Int32) (x2 : Int32) (D : mz_D) : Option mz_D := (fX12_copies_2 mz_N x1 x2 (0 : Int32) D)
set_option maxHeartbeats 4000000 in
theorem mX12_copies (x1 : Int32) (x2 : Int32) (D : mz_D) (r : mz_D) (h : fX12_copies x1 x2 D = some r) : mz_Met IX12_copies [.inr (.inr (some (0, 200))), .inl x1, .inl x2] D (none, r) := by
  refine mz_Met.of (by decide +kernel) (Nat.le_of_ble_eq_true rfl) ?_
  show mz_Go IX12_copies (none, r) 0 0 (0, [some (.inr (.inr (some (0, 200)))), some (.inl x1), some (.inl x2), none], [], D)
  rw [fX12_copies] at h
  refine mz_Go.run (gs := []) (st' := (2, [some (.inr (.inr (some (0, 200)))), some (.inl x1), some (.inl x2), some (.inl (0 : Int32))], [], D)) bX12_copies_0 oX12_copies_0 rfl trivial ?_
  exact mz_Go.drop [true, true, true, true] (tX12_copies_2 r mz_N x1 x2 (0 : Int32) D h)
def bX12_mark_0 : List mz_E := [(0, .aload_n 0, 0, 0, 0, 0, 0), (1, .getfield 461, 12, 34, 1610, 0, 0), (4, .iconst 3, 0, 0, 0, 3, 0), (5, .if_icmp .ne 9, 0, 14, 0, 0, 0)]
theorem oX12_mark_0 : bX12_mark_0.all (mz_ok RX12 cX12_mark 1) = true := by decide +kernel
def bX12_mark_8 : List mz_E := [(8, .aload_n 0, 0, 0, 0, 0, 0), (9, .iconst 4, 0, 0, 0, 4, 0)]
theorem oX12_mark_8 : bX12_mark_8.all (mz_ok RX12 cX12_mark 1) = true := by decide +kernel
def bX12_mark_14 : List mz_E := [(14, .aload_n 0, 0, 0, 0, 0, 0), (15, .dup, 0, 0, 0, 0, 0), (16, .getfield 461, 12, 34, 1610, 0, 0), (19, .iconst 1, 0, 0, 0, 1, 0), (20, .iadd, 0, 0, 0, 0, 0), (21, .putfield 461, 12, 34, 1610, 0, 0), (24, .aload_n 0, 0, 0, 0, 0, 0), (25, .iconst 0, 0, 0, 0, 0, 0), (26, .aload_n 0, 0, 0, 0, 0, 0), (27, .getfield 461, 12, 34, 1610, 0, 0)]
theorem oX12_mark_14 : bX12_mark_14.all (mz_ok RX12 cX12_mark 1) = true := by decide +kernel
def bX12_mark_33 : List mz_E := [(33, .aload_n 0, 0, 0, 0, 0, 0), (34, .aload_n 0, 0, 0, 0, 0, 0), (35, .getfield 461, 12, 34, 1610, 0, 0)]
theorem oX12_mark_33 : bX12_mark_33.all (mz_ok RX12 cX12_mark 1) = true := by decide +kernel
abbrev IX12_mark : mz_I := (yX12_mark, cX12_mark, 1, (some .int), 0, 1, 0, 0)
theorem kX12_mark : mz_okm IX12_mark 2294 141 2292 0 = true := by decide +kernel
theorem vX12_mark : mz_okV IX12_mark 2292 2293 = true := by decide +kernel
def fX12_mark (D : mz_D) : Option (Int32 × mz_D) := (if (D.1 0 200 34) = (3 : Int32) then (some ((-1 : Int32), (mz_wi D 0 200 2 (4 : Int32)))) else (Option.bind (fX12_copies (0 : Int32) ((D.1 0 200 34) + (1 : Int32)) (mz_wi D 0 200 34 ((D.1 0 200 34) + (1 : Int32)))) fun q2 => (some ((q2.1 0 200 34), (mz_wi q2 0 200 2 (0 : Int32))))))
set_option maxHeartbeats 4000000 in
theorem mX12_mark (D : mz_D) (r : (Int32 × mz_D)) (h : fX12_mark D = some r) : mz_Met IX12_mark [.inr (.inr (some (0, 200)))] D (some (.inl r.1), r.2) := by
  refine mz_Met.of (by decide +kernel) (Nat.le_of_ble_eq_true rfl) ?_
  show mz_Go IX12_mark (some (.inl r.1), r.2) 0 0 (0, [some (.inr (.inr (some (0, 200))))], [], D)
  rw [fX12_mark] at h
  refine mz_Go.run (gs := [mz_kz 0 0 200]) (st' := (if (D.1 0 200 34) = (3 : Int32) then (8, [some (.inr (.inr (some (0, 200))))], [], D) else (14, [some (.inr (.inr (some (0, 200))))], [], D))) bX12_mark_0 oX12_mark_0 rfl ⟨rfl, trivial⟩ ?_
  refine mz_Go.ite (fun hc1 => ?_) (fun hc1 => ?_)
  · have h := mz_ifp hc1 h
    refine mz_Go.run (gs := []) (st' := (10, [some (.inr (.inr (some (0, 200))))], [.inl (4 : Int32), .inr (.inr (some (0, 200)))], D)) bX12_mark_8 oX12_mark_8 rfl trivial ?_
    refine mz_Go.callV (I := IX12_mark) (J := IX12_refuse) (as := [.inl (4 : Int32)]) (ci := 12) (g := 0) (o := 200) (idx := 75) (pl := 1761) (rest := []) (mX12_refuse (4 : Int32) D) kX12_refuse vX12_refuse (by decide +kernel) (by decide +kernel) (by decide +kernel) rfl rfl ⟨rfl, rfl⟩ rfl rfl rfl rfl ?_
    cases h
    exact mz_Go.reti (by decide +kernel) rfl ⟨Nat.le_refl _, Nat.le_refl _⟩ rfl
  · have h := mz_ifn hc1 h
    refine mz_Go.run (gs := [mz_kz 0 0 200, mz_kz 0 0 200, mz_kz 0 0 200]) (st' := (30, [some (.inr (.inr (some (0, 200))))], [.inl ((D.1 0 200 34) + (1 : Int32)), .inl (0 : Int32), .inr (.inr (some (0, 200)))], (mz_wi D 0 200 34 ((D.1 0 200 34) + (1 : Int32))))) bX12_mark_14 oX12_mark_14 rfl ⟨rfl, rfl, rfl, trivial⟩ ?_
    obtain ⟨q2, hq2, h⟩ := mz_bd_some h
    refine mz_Go.callV (I := IX12_mark) (J := IX12_copies) (as := [.inl (0 : Int32), .inl ((D.1 0 200 34) + (1 : Int32))]) (ci := 12) (g := 0) (o := 200) (idx := 464) (pl := 2295) (rest := []) (mX12_copies (0 : Int32) ((D.1 0 200 34) + (1 : Int32)) (mz_wi D 0 200 34 ((D.1 0 200 34) + (1 : Int32))) q2 hq2) kX12_copies vX12_copies (by decide +kernel) (by decide +kernel) (by decide +kernel) rfl rfl ⟨rfl, rfl⟩ rfl rfl rfl rfl ?_
    refine mz_Go.run (gs := [mz_kz 0 0 200]) (st' := (38, [some (.inr (.inr (some (0, 200))))], [.inl (q2.1 0 200 34), .inr (.inr (some (0, 200)))], q2)) bX12_mark_33 oX12_mark_33 rfl ⟨rfl, trivial⟩ ?_
    refine mz_Go.callV (I := IX12_mark) (J := IX12_gives) (as := [.inl (q2.1 0 200 34)]) (ci := 12) (g := 0) (o := 200) (idx := 79) (pl := 1844) (rest := []) (mX12_gives (q2.1 0 200 34) q2) kX12_gives vX12_gives (by decide +kernel) (by decide +kernel) (by decide +kernel) rfl rfl ⟨rfl, rfl⟩ rfl rfl rfl rfl ?_
    cases h
    exact mz_Go.reti (by decide +kernel) rfl ⟨Nat.le_refl _, Nat.le_refl _⟩ rfl
def bX12_back_0 : List mz_E := [(0, .aload_n 0, 0, 0, 0, 0, 0), (1, .getfield 461, 12, 34, 1610, 0, 0), (4, .ifCond .ne 10, 0, 14, 0, 0, 0)]
theorem oX12_back_0 : bX12_back_0.all (mz_ok RX12 cX12_back 1) = true := by decide +kernel
def bX12_back_7 : List mz_E := [(7, .aload_n 0, 0, 0, 0, 0, 0), (8, .bipush 6, 0, 0, 0, 6, 0)]
theorem oX12_back_7 : bX12_back_7.all (mz_ok RX12 cX12_back 1) = true := by decide +kernel
def bX12_back_14 : List mz_E := [(14, .aload_n 0, 0, 0, 0, 0, 0), (15, .aload_n 0, 0, 0, 0, 0, 0), (16, .getfield 461, 12, 34, 1610, 0, 0), (19, .iconst 0, 0, 0, 0, 0, 0)]
theorem oX12_back_14 : bX12_back_14.all (mz_ok RX12 cX12_back 1) = true := by decide +kernel
def bX12_back_23 : List mz_E := [(23, .aload_n 0, 0, 0, 0, 0, 0), (24, .dup, 0, 0, 0, 0, 0), (25, .getfield 461, 12, 34, 1610, 0, 0), (28, .iconst 1, 0, 0, 0, 1, 0), (29, .isub, 0, 0, 0, 0, 0), (30, .putfield 461, 12, 34, 1610, 0, 0), (33, .aload_n 0, 0, 0, 0, 0, 0), (34, .aload_n 0, 0, 0, 0, 0, 0), (35, .getfield 461, 12, 34, 1610, 0, 0)]
theorem oX12_back_23 : bX12_back_23.all (mz_ok RX12 cX12_back 1) = true := by decide +kernel
abbrev IX12_back : mz_I := (yX12_back, cX12_back, 1, (some .int), 0, 1, 0, 0)
theorem kX12_back : mz_okm IX12_back 2302 141 2300 0 = true := by decide +kernel
theorem vX12_back : mz_okV IX12_back 2300 2301 = true := by decide +kernel
def fX12_back (D : mz_D) : Option (Int32 × mz_D) := (if (D.1 0 200 34) = 0 then (some ((-1 : Int32), (mz_wi D 0 200 2 (6 : Int32)))) else (Option.bind (fX12_copies (D.1 0 200 34) (0 : Int32) D) fun q2 => (some (((q2.1 0 200 34) - (1 : Int32)), (mz_wi (mz_wi q2 0 200 34 ((q2.1 0 200 34) - (1 : Int32))) 0 200 2 (0 : Int32))))))
set_option maxHeartbeats 4000000 in
theorem mX12_back (D : mz_D) (r : (Int32 × mz_D)) (h : fX12_back D = some r) : mz_Met IX12_back [.inr (.inr (some (0, 200)))] D (some (.inl r.1), r.2) := by
  refine mz_Met.of (by decide +kernel) (Nat.le_of_ble_eq_true rfl) ?_
  show mz_Go IX12_back (some (.inl r.1), r.2) 0 0 (0, [some (.inr (.inr (some (0, 200))))], [], D)
  rw [fX12_back] at h
  refine mz_Go.run (gs := [mz_kz 0 0 200]) (st' := (if (D.1 0 200 34) = 0 then (7, [some (.inr (.inr (some (0, 200))))], [], D) else (14, [some (.inr (.inr (some (0, 200))))], [], D))) bX12_back_0 oX12_back_0 rfl ⟨rfl, trivial⟩ ?_
  refine mz_Go.ite (fun hc1 => ?_) (fun hc1 => ?_)
  · have h := mz_ifp hc1 h
    refine mz_Go.run (gs := []) (st' := (10, [some (.inr (.inr (some (0, 200))))], [.inl (6 : Int32), .inr (.inr (some (0, 200)))], D)) bX12_back_7 oX12_back_7 rfl trivial ?_
    refine mz_Go.callV (I := IX12_back) (J := IX12_refuse) (as := [.inl (6 : Int32)]) (ci := 12) (g := 0) (o := 200) (idx := 75) (pl := 1761) (rest := []) (mX12_refuse (6 : Int32) D) kX12_refuse vX12_refuse (by decide +kernel) (by decide +kernel) (by decide +kernel) rfl rfl ⟨rfl, rfl⟩ rfl rfl rfl rfl ?_
    cases h
    exact mz_Go.reti (by decide +kernel) rfl ⟨Nat.le_refl _, Nat.le_refl _⟩ rfl
  · have h := mz_ifn hc1 h
    refine mz_Go.run (gs := [mz_kz 0 0 200]) (st' := (20, [some (.inr (.inr (some (0, 200))))], [.inl (0 : Int32), .inl (D.1 0 200 34), .inr (.inr (some (0, 200)))], D)) bX12_back_14 oX12_back_14 rfl ⟨rfl, trivial⟩ ?_
    obtain ⟨q2, hq2, h⟩ := mz_bd_some h
    refine mz_Go.callV (I := IX12_back) (J := IX12_copies) (as := [.inl (D.1 0 200 34), .inl (0 : Int32)]) (ci := 12) (g := 0) (o := 200) (idx := 464) (pl := 2295) (rest := []) (mX12_copies (D.1 0 200 34) (0 : Int32) D q2 hq2) kX12_copies vX12_copies (by decide +kernel) (by decide +kernel) (by decide +kernel) rfl rfl ⟨rfl, rfl⟩ rfl rfl rfl rfl ?_
    refine mz_Go.run (gs := [mz_kz 0 0 200, mz_kz 0 0 200, mz_kz 0 0 200]) (st' := (38, [some (.inr (.inr (some (0, 200))))], [.inl ((q2.1 0 200 34) - (1 : Int32)), .inr (.inr (some (0, 200)))], (mz_wi q2 0 200 34 ((q2.1 0 200 34) - (1 : Int32))))) bX12_back_23 oX12_back_23 rfl ⟨rfl, rfl, rfl, trivial⟩ ?_
    refine mz_Go.callV (I := IX12_back) (J := IX12_gives) (as := [.inl ((q2.1 0 200 34) - (1 : Int32))]) (ci := 12) (g := 0) (o := 200) (idx := 79) (pl := 1844) (rest := []) (mX12_gives ((q2.1 0 200 34) - (1 : Int32)) (mz_wi q2 0 200 34 ((q2.1 0 200 34) - (1 : Int32)))) kX12_gives vX12_gives (by decide +kernel) (by decide +kernel) (by decide +kernel) rfl rfl ⟨rfl, rfl⟩ rfl rfl rfl rfl ?_
    cases h
    exact mz_Go.reti (by decide +kernel) rfl ⟨Nat.le_refl _, Nat.le_refl _⟩ rfl
