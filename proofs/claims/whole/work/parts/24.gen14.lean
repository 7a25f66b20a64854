def bX12_receipts_0 : List mz_E := [(0, .iload_n 1, 0, 0, 0, 0, 0)]
theorem oX12_receipts_0 : bX12_receipts_0.all (mz_ok RX12 cX12_receipts 8) = true := by decide +kernel
def bX12_receipts_4 : List mz_E := [(4, .ifCond .eq 36, 0, 40, 0, 0, 0)]
theorem oX12_receipts_4 : bX12_receipts_4.all (mz_ok RX12 cX12_receipts 8) = true := by decide +kernel
def bX12_receipts_40 : List mz_E := [(40, .aload_n 0, 0, 0, 0, 0, 0), (41, .iconst 1, 0, 0, 0, 1, 0)]
theorem oX12_receipts_40 : bX12_receipts_40.all (mz_ok RX12 cX12_receipts 8) = true := by decide +kernel
def bX12_receipts_7 : List mz_E := [(7, .iload 4, 0, 0, 0, 0, 0)]
theorem oX12_receipts_7 : bX12_receipts_7.all (mz_ok RX12 cX12_receipts 8) = true := by decide +kernel
def bX12_receipts_12 : List mz_E := [(12, .ifCond .eq 28, 0, 40, 0, 0, 0)]
theorem oX12_receipts_12 : bX12_receipts_12.all (mz_ok RX12 cX12_receipts 8) = true := by decide +kernel
def bX12_receipts_15 : List mz_E := [(15, .iload_n 2, 0, 0, 0, 0, 0), (16, .ifCond .lt 24, 0, 40, 0, 0, 0)]
theorem oX12_receipts_15 : bX12_receipts_15.all (mz_ok RX12 cX12_receipts 8) = true := by decide +kernel
def bX12_receipts_19 : List mz_E := [(19, .iload_n 3, 0, 0, 0, 0, 0), (20, .i2l, 0, 0, 0, 0, 0), (21, .lconst 1, 0, 0, 0, 0, 1), (22, .ldc2_w 300, 0, 0, 1973, 0, 999)]
theorem oX12_receipts_19 : bX12_receipts_19.all (mz_ok RX12 cX12_receipts 8) = true := by decide +kernel
def bX12_receipts_28 : List mz_E := [(28, .ifCond .eq 12, 0, 40, 0, 0, 0)]
theorem oX12_receipts_28 : bX12_receipts_28.all (mz_ok RX12 cX12_receipts 8) = true := by decide +kernel
def bX12_receipts_31 : List mz_E := [(31, .aload_n 0, 0, 0, 0, 0, 0), (32, .getfield 7, 12, 0, 1576, 0, 0), (35, .iconst 0, 0, 0, 0, 0, 0), (36, .iaload, 0, 0, 0, 0, 0), (37, .ifCond .ne 9, 0, 46, 0, 0, 0)]
theorem oX12_receipts_31 : bX12_receipts_31.all (mz_ok RX12 cX12_receipts 8) = true := by decide +kernel
def bX12_receipts_46 : List mz_E := [(46, .aload_n 0, 0, 0, 0, 0, 0), (47, .getfield 24, 12, 6, 1582, 0, 0), (50, .iload_n 1, 0, 0, 0, 0, 0), (51, .iaload, 0, 0, 0, 0, 0), (52, .iconst (-1), 0, 0, 0, -1, 0), (53, .if_icmp .eq 14, 0, 67, 0, 0, 0)]
theorem oX12_receipts_46 : bX12_receipts_46.all (mz_ok RX12 cX12_receipts 8) = true := by decide +kernel
def bX12_receipts_67 : List mz_E := [(67, .aload_n 0, 0, 0, 0, 0, 0), (68, .iconst 2, 0, 0, 0, 2, 0)]
theorem oX12_receipts_67 : bX12_receipts_67.all (mz_ok RX12 cX12_receipts 8) = true := by decide +kernel
def bX12_receipts_56 : List mz_E := [(56, .aload_n 0, 0, 0, 0, 0, 0), (57, .getfield 24, 12, 6, 1582, 0, 0), (60, .iload 4, 0, 0, 0, 0, 0), (62, .iaload, 0, 0, 0, 0, 0), (63, .iconst (-1), 0, 0, 0, -1, 0), (64, .if_icmp .ne 9, 0, 73, 0, 0, 0)]
theorem oX12_receipts_56 : bX12_receipts_56.all (mz_ok RX12 cX12_receipts 8) = true := by decide +kernel
def bX12_receipts_73 : List mz_E := [(73, .aload_n 0, 0, 0, 0, 0, 0), (74, .getfield 24, 12, 6, 1582, 0, 0), (77, .iload_n 1, 0, 0, 0, 0, 0), (78, .iaload, 0, 0, 0, 0, 0), (79, .iload_n 2, 0, 0, 0, 0, 0), (80, .if_icmp .lt 19, 0, 99, 0, 0, 0)]
theorem oX12_receipts_73 : bX12_receipts_73.all (mz_ok RX12 cX12_receipts 8) = true := by decide +kernel
def bX12_receipts_99 : List mz_E := [(99, .aload_n 0, 0, 0, 0, 0, 0), (100, .iconst 3, 0, 0, 0, 3, 0)]
theorem oX12_receipts_99 : bX12_receipts_99.all (mz_ok RX12 cX12_receipts 8) = true := by decide +kernel
def bX12_receipts_83 : List mz_E := [(83, .aload_n 0, 0, 0, 0, 0, 0), (84, .getfield 24, 12, 6, 1582, 0, 0), (87, .iload 4, 0, 0, 0, 0, 0), (89, .iaload, 0, 0, 0, 0, 0), (90, .aload_n 0, 0, 0, 0, 0, 0), (91, .getfield 7, 12, 0, 1576, 0, 0), (94, .iconst 0, 0, 0, 0, 0, 0), (95, .iaload, 0, 0, 0, 0, 0), (96, .if_icmp .ge 9, 0, 105, 0, 0, 0)]
theorem oX12_receipts_83 : bX12_receipts_83.all (mz_ok RX12 cX12_receipts 8) = true := by decide +kernel
def bX12_receipts_105 : List mz_E := [(105, .iconst 0, 0, 0, 0, 0, 0), (106, .istore 5, 0, 0, 0, 0, 0)]
theorem oX12_receipts_105 : bX12_receipts_105.all (mz_ok RX12 cX12_receipts 8) = true := by decide +kernel
def bX12_receipts_108 : List mz_E := [(108, .iload 5, 0, 0, 0, 0, 0), (110, .iload_n 2, 0, 0, 0, 0, 0), (111, .if_icmp .ge 43, 0, 154, 0, 0, 0)]
theorem oX12_receipts_108 : bX12_receipts_108.all (mz_ok RX12 cX12_receipts 8) = true := by decide +kernel
def bX12_receipts_154 : List mz_E := [(154, .iconst 0, 0, 0, 0, 0, 0), (155, .istore 5, 0, 0, 0, 0, 0)]
theorem oX12_receipts_154 : bX12_receipts_154.all (mz_ok RX12 cX12_receipts 8) = true := by decide +kernel
def bX12_receipts_157 : List mz_E := [(157, .iload 5, 0, 0, 0, 0, 0), (159, .aload_n 0, 0, 0, 0, 0, 0), (160, .getfield 7, 12, 0, 1576, 0, 0), (163, .iconst 0, 0, 0, 0, 0, 0), (164, .iaload, 0, 0, 0, 0, 0), (165, .if_icmp .ge 17, 0, 182, 0, 0, 0)]
theorem oX12_receipts_157 : bX12_receipts_157.all (mz_ok RX12 cX12_receipts 8) = true := by decide +kernel
def bX12_receipts_182 : List mz_E := [(182, .iconst 0, 0, 0, 0, 0, 0), (183, .istore 5, 0, 0, 0, 0, 0)]
theorem oX12_receipts_182 : bX12_receipts_182.all (mz_ok RX12 cX12_receipts 8) = true := by decide +kernel
def bX12_receipts_185 : List mz_E := [(185, .iload 5, 0, 0, 0, 0, 0), (187, .iload_n 2, 0, 0, 0, 0, 0), (188, .if_icmp .ge 89, 0, 277, 0, 0, 0)]
theorem oX12_receipts_185 : bX12_receipts_185.all (mz_ok RX12 cX12_receipts 8) = true := by decide +kernel
def bX12_receipts_277 : List mz_E := [(277, .iconst 0, 0, 0, 0, 0, 0), (278, .istore 5, 0, 0, 0, 0, 0)]
theorem oX12_receipts_277 : bX12_receipts_277.all (mz_ok RX12 cX12_receipts 8) = true := by decide +kernel
def bX12_receipts_280 : List mz_E := [(280, .iload 5, 0, 0, 0, 0, 0), (282, .aload_n 0, 0, 0, 0, 0, 0), (283, .getfield 7, 12, 0, 1576, 0, 0), (286, .iconst 0, 0, 0, 0, 0, 0), (287, .iaload, 0, 0, 0, 0, 0), (288, .if_icmp .ge 26, 0, 314, 0, 0, 0)]
theorem oX12_receipts_280 : bX12_receipts_280.all (mz_ok RX12 cX12_receipts 8) = true := by decide +kernel
def bX12_receipts_314 : List mz_E := [(314, .aload_n 0, 0, 0, 0, 0, 0), (315, .aload_n 0, 0, 0, 0, 0, 0), (316, .getfield 7, 12, 0, 1576, 0, 0), (319, .iconst 0, 0, 0, 0, 0, 0), (320, .iaload, 0, 0, 0, 0, 0)]
theorem oX12_receipts_314 : bX12_receipts_314.all (mz_ok RX12 cX12_receipts 8) = true := by decide +kernel
def bX12_receipts_291 : List mz_E := [(291, .aload_n 0, 0, 0, 0, 0, 0), (292, .iload 4, 0, 0, 0, 0, 0), (294, .iload 5, 0, 0, 0, 0, 0), (296, .aload_n 0, 0, 0, 0, 0, 0), (297, .getfield 50, 12, 25, 1601, 0, 0), (300, .iload 5, 0, 0, 0, 0, 0), (302, .iaload, 0, 0, 0, 0, 0), (303, .i2l, 0, 0, 0, 0, 0)]
theorem oX12_receipts_291 : bX12_receipts_291.all (mz_ok RX12 cX12_receipts 8) = true := by decide +kernel
def bX12_receipts_307 : List mz_E := [(307, .pop, 0, 0, 0, 0, 0), (308, .iinc 5 1, 0, 0, 0, 1, 0), (311, .goto (-31), 0, 280, 0, 0, 0)]
theorem oX12_receipts_307 : bX12_receipts_307.all (mz_ok RX12 cX12_receipts 8) = true := by decide +kernel
def bX12_receipts_191 : List mz_E := [(191, .aload_n 0, 0, 0, 0, 0, 0), (192, .getfield 27, 12, 7, 1583, 0, 0), (195, .bipush 60, 0, 0, 0, 60, 0), (197, .iload_n 1, 0, 0, 0, 0, 0), (198, .imul, 0, 0, 0, 0, 0), (199, .iload 5, 0, 0, 0, 0, 0), (201, .iadd, 0, 0, 0, 0, 0), (202, .laload, 0, 0, 0, 0, 0), (203, .l2i, 0, 0, 0, 0, 0), (204, .istore 6, 0, 0, 0, 0, 0), (206, .iconst 0, 0, 0, 0, 0, 0), (207, .istore 7, 0, 0, 0, 0, 0)]
theorem oX12_receipts_191 : bX12_receipts_191.all (mz_ok RX12 cX12_receipts 8) = true := by decide +kernel
def bX12_receipts_209 : List mz_E := [(209, .iload 7, 0, 0, 0, 0, 0), (211, .aload_n 0, 0, 0, 0, 0, 0), (212, .getfield 7, 12, 0, 1576, 0, 0), (215, .iconst 0, 0, 0, 0, 0, 0), (216, .iaload, 0, 0, 0, 0, 0), (217, .if_icmp .ge 54, 0, 271, 0, 0, 0)]
theorem oX12_receipts_209 : bX12_receipts_209.all (mz_ok RX12 cX12_receipts 8) = true := by decide +kernel
def bX12_receipts_271 : List mz_E := [(271, .iinc 5 1, 0, 0, 0, 1, 0), (274, .goto (-89), 0, 185, 0, 0, 0)]
theorem oX12_receipts_271 : bX12_receipts_271.all (mz_ok RX12 cX12_receipts 8) = true := by decide +kernel
def bX12_receipts_220 : List mz_E := [(220, .iload 7, 0, 0, 0, 0, 0), (222, .iload 6, 0, 0, 0, 0, 0), (224, .if_icmp .eq 41, 0, 265, 0, 0, 0)]
theorem oX12_receipts_220 : bX12_receipts_220.all (mz_ok RX12 cX12_receipts 8) = true := by decide +kernel
def bX12_receipts_265 : List mz_E := [(265, .iinc 7 1, 0, 0, 0, 1, 0), (268, .goto (-59), 0, 209, 0, 0, 0)]
theorem oX12_receipts_265 : bX12_receipts_265.all (mz_ok RX12 cX12_receipts 8) = true := by decide +kernel
def bX12_receipts_227 : List mz_E := [(227, .aload_n 0, 0, 0, 0, 0, 0), (228, .aload_n 0, 0, 0, 0, 0, 0)]
theorem oX12_receipts_227 : bX12_receipts_227.all (mz_ok RX12 cX12_receipts 8) = true := by decide +kernel
def bX12_receipts_232 : List mz_E := [(232, .iload 7, 0, 0, 0, 0, 0)]
theorem oX12_receipts_232 : bX12_receipts_232.all (mz_ok RX12 cX12_receipts 8) = true := by decide +kernel
def bX12_receipts_237 : List mz_E := [(237, .ifCond .ne 6, 0, 243, 0, 0, 0)]
theorem oX12_receipts_237 : bX12_receipts_237.all (mz_ok RX12 cX12_receipts 8) = true := by decide +kernel
def bX12_receipts_240 : List mz_E := [(240, .goto 25, 0, 265, 0, 0, 0), (265, .iinc 7 1, 0, 0, 0, 1, 0), (268, .goto (-59), 0, 209, 0, 0, 0)]
theorem oX12_receipts_240 : bX12_receipts_240.all (mz_ok RX12 cX12_receipts 8) = true := by decide +kernel
def bX12_receipts_243 : List mz_E := [(243, .aload_n 0, 0, 0, 0, 0, 0), (244, .getfield 50, 12, 25, 1601, 0, 0), (247, .iload 7, 0, 0, 0, 0, 0), (249, .dup2, 0, 0, 0, 0, 0), (250, .iaload, 0, 0, 0, 0, 0), (251, .iload_n 3, 0, 0, 0, 0, 0), (252, .isub, 0, 0, 0, 0, 0), (253, .iastore, 0, 0, 0, 0, 0), (254, .aload_n 0, 0, 0, 0, 0, 0), (255, .getfield 50, 12, 25, 1601, 0, 0), (258, .iload 6, 0, 0, 0, 0, 0), (260, .dup2, 0, 0, 0, 0, 0), (261, .iaload, 0, 0, 0, 0, 0), (262, .iload_n 3, 0, 0, 0, 0, 0), (263, .iadd, 0, 0, 0, 0, 0), (264, .iastore, 0, 0, 0, 0, 0), (265, .iinc 7 1, 0, 0, 0, 1, 0), (268, .goto (-59), 0, 209, 0, 0, 0)]
theorem oX12_receipts_243 : bX12_receipts_243.all (mz_ok RX12 cX12_receipts 8) = true := by decide +kernel
def bX12_receipts_168 : List mz_E := [(168, .aload_n 0, 0, 0, 0, 0, 0), (169, .getfield 50, 12, 25, 1601, 0, 0), (172, .iload 5, 0, 0, 0, 0, 0), (174, .iconst 0, 0, 0, 0, 0, 0), (175, .iastore, 0, 0, 0, 0, 0), (176, .iinc 5 1, 0, 0, 0, 1, 0), (179, .goto (-22), 0, 157, 0, 0, 0)]
theorem oX12_receipts_168 : bX12_receipts_168.all (mz_ok RX12 cX12_receipts 8) = true := by decide +kernel
def bX12_receipts_114 : List mz_E := [(114, .aload_n 0, 0, 0, 0, 0, 0), (115, .getfield 27, 12, 7, 1583, 0, 0), (118, .bipush 60, 0, 0, 0, 60, 0), (120, .iload_n 1, 0, 0, 0, 0, 0), (121, .imul, 0, 0, 0, 0, 0), (122, .iload 5, 0, 0, 0, 0, 0), (124, .iadd, 0, 0, 0, 0, 0), (125, .laload, 0, 0, 0, 0, 0), (126, .lconst 0, 0, 0, 0, 0, 0), (127, .aload_n 0, 0, 0, 0, 0, 0), (128, .getfield 7, 12, 0, 1576, 0, 0), (131, .iconst 0, 0, 0, 0, 0, 0), (132, .iaload, 0, 0, 0, 0, 0), (133, .i2l, 0, 0, 0, 0, 0), (134, .lconst 1, 0, 0, 0, 0, 1), (135, .lsub, 0, 0, 0, 0, 0)]
theorem oX12_receipts_114 : bX12_receipts_114.all (mz_ok RX12 cX12_receipts 8) = true := by decide +kernel
def bX12_receipts_139 : List mz_E := [(139, .ifCond .ne 9, 0, 148, 0, 0, 0)]
theorem oX12_receipts_139 : bX12_receipts_139.all (mz_ok RX12 cX12_receipts 8) = true := by decide +kernel
def bX12_receipts_142 : List mz_E := [(142, .aload_n 0, 0, 0, 0, 0, 0), (143, .iconst 5, 0, 0, 0, 5, 0)]
theorem oX12_receipts_142 : bX12_receipts_142.all (mz_ok RX12 cX12_receipts 8) = true := by decide +kernel
def bX12_receipts_148 : List mz_E := [(148, .iinc 5 1, 0, 0, 0, 1, 0), (151, .goto (-43), 0, 108, 0, 0, 0)]
theorem oX12_receipts_148 : bX12_receipts_148.all (mz_ok RX12 cX12_receipts 8) = true := by decide +kernel
abbrev IX12_receipts : mz_I := (yX12_receipts, cX12_receipts, 8, (some .int), 0, 3, 0, 0)
theorem kX12_receipts : mz_okm IX12_receipts 2236 141 2234 4 = true := by decide +kernel
theorem vX12_receipts : mz_okV IX12_receipts 2234 2235 = true := by decide +kernel
def fX12_receipts_280 : Nat → Int32 → Int32 → mz_D → Option (Int32 × mz_D)
  | 0 => fun _ _ _ => none
  | n + 1 => fun x4 x5 D => (if (D.1 0 201 ((0 : Int32)).toNatClampNeg) ≤ x5 then (some ((D.1 0 201 ((0 : Int32)).toNatClampNeg), (mz_wi D 0 200 2 (0 : Int32)))) else (mz_gd (mz_ix x5 6) (Option.bind (fX12_write x4 x5 ((D.1 0 210 (x5).toNatClampNeg)).toInt64 D) fun q3 => ((fX12_receipts_280 n) x4 (x5 + (1 : Int32)) q3.2))))
set_option maxHeartbeats 4000000 in
theorem tX12_receipts_280 (r : (Int32 × mz_D)) : ∀ (n : Nat) (x4 : Int32) (x5 : Int32) (D : mz_D), fX12_receipts_280 n x4 x5 D = some r → mz_Go IX12_receipts (some (.inl r.1), r.2) 0 0 (280, [some (.inr (.inr (some (0, 200)))), none, none, none, some (.inl x4), some (.inl x5), none, none], [], D) := by
  intro n
  induction n with
  | zero => intro x4 x5 D h; have h : (none : Option (Int32 × mz_D)) = some r := h; cases h
  | succ n ih =>
    intro x4 x5 D h
    rw [fX12_receipts_280] at h
    refine mz_Go.run (gs := [mz_kz 0 0 200, mz_kz 0 0 201, mz_ix (0 : Int32) 3000]) (st' := (if (D.1 0 201 ((0 : Int32)).toNatClampNeg) ≤ x5 then (314, [some (.inr (.inr (some (0, 200)))), none, none, none, some (.inl x4), some (.inl x5), none, none], [], D) else (291, [some (.inr (.inr (some (0, 200)))), none, none, none, some (.inl x4), some (.inl x5), none, none], [], D))) bX12_receipts_280 oX12_receipts_280 rfl ⟨rfl, rfl, (by decide), trivial⟩ ?_
    refine mz_Go.ite (fun hc1 => ?_) (fun hc1 => ?_)
    · have h := mz_ifp hc1 h
      refine mz_Go.run (gs := [mz_kz 0 0 200, mz_kz 0 0 201, mz_ix (0 : Int32) 3000]) (st' := (321, [some (.inr (.inr (some (0, 200)))), none, none, none, some (.inl x4), some (.inl x5), none, none], [.inl (D.1 0 201 ((0 : Int32)).toNatClampNeg), .inr (.inr (some (0, 200)))], D)) bX12_receipts_314 oX12_receipts_314 rfl ⟨rfl, rfl, (by decide), trivial⟩ ?_
      refine mz_Go.callV (I := IX12_receipts) (J := IX12_gives) (as := [.inl (D.1 0 201 ((0 : Int32)).toNatClampNeg)]) (ci := 12) (g := 0) (o := 200) (idx := 79) (pl := 1844) (rest := []) (mX12_gives (D.1 0 201 ((0 : Int32)).toNatClampNeg) D) kX12_gives vX12_gives (by decide +kernel) (by decide +kernel) (by decide +kernel) rfl rfl ⟨rfl, rfl⟩ rfl rfl rfl rfl ?_
      cases h
      exact mz_Go.reti (by decide +kernel) rfl ⟨Nat.le_refl _, Nat.le_refl _⟩ rfl
    · have h := mz_ifn hc1 h
      obtain ⟨hb2, h⟩ := mz_gd_some h
      refine mz_Go.run (gs := [mz_kz 0 0 200, mz_kz 0 0 210, mz_ix x5 6]) (st' := (304, [some (.inr (.inr (some (0, 200)))), none, none, none, some (.inl x4), some (.inl x5), none, none], [.inr (.inl ((D.1 0 210 (x5).toNatClampNeg)).toInt64), .inl x5, .inl x4, .inr (.inr (some (0, 200)))], D)) bX12_receipts_291 oX12_receipts_291 rfl ⟨rfl, rfl, hb2, trivial⟩ ?_
      obtain ⟨q3, hq3, h⟩ := mz_bd_some h
      refine mz_Go.callV (I := IX12_receipts) (J := IX12_write) (as := [.inl x4, .inl x5, .inr (.inl ((D.1 0 210 (x5).toNatClampNeg)).toInt64)]) (ci := 12) (g := 0) (o := 200) (idx := 413) (pl := 2237) (rest := []) (mX12_write x4 x5 ((D.1 0 210 (x5).toNatClampNeg)).toInt64 D q3 hq3) kX12_write vX12_write (by decide +kernel) (by decide +kernel) (by decide +kernel) rfl rfl ⟨rfl, rfl⟩ rfl rfl rfl rfl ?_
      refine mz_Go.run (gs := []) (st' := (280, [some (.inr (.inr (some (0, 200)))), none, none, none, some (.inl x4), some (.inl (x5 + (1 : Int32))), none, none], [], q3.2)) bX12_receipts_307 oX12_receipts_307 rfl trivial ?_
      exact mz_Go.drop [true, false, false, false, true, true, false, false] (ih x4 (x5 + (1 : Int32)) q3.2 h)
def fX12_receipts_209 (k185 : Int32 → Int32 → Int32 → Int32 → Int32 → mz_D → Option (Int32 × mz_D)) : Nat → Int32 → Int32 → Int32 → Int32 → Int32 → Int32 → Int32 → mz_D → Option (Int32 × mz_D)
  | 0 => fun _ _ _ _ _ _ _ _ => none
  | n + 1 => fun x1 x2 x3 x4 x5 x6 x7 D => (if (D.1 0 201 ((0 : Int32)).toNatClampNeg) ≤ x7 then (k185 x1 x2 x3 x4 (x5 + (1 : Int32)) D) else (if x7 = x6 then ((fX12_receipts_209 k185 n) x1 x2 x3 x4 x5 x6 (x7 + (1 : Int32)) D) else (if (fX12_isIn (fX12_heads D) x7) = 0 then ((fX12_receipts_209 k185 n) x1 x2 x3 x4 x5 x6 (x7 + (1 : Int32)) D) else (mz_gd (mz_ix x7 6) (mz_gd (mz_ix x6 6) ((fX12_receipts_209 k185 n) x1 x2 x3 x4 x5 x6 (x7 + (1 : Int32)) (mz_wi (mz_wi D 0 210 (x7).toNatClampNeg ((D.1 0 210 (x7).toNatClampNeg) - x3)) 0 210 (x6).toNatClampNeg (((mz_wi D 0 210 (x7).toNatClampNeg ((D.1 0 210 (x7).toNatClampNeg) - x3)).1 0 210 (x6).toNatClampNeg) + x3))))))))
set_option maxHeartbeats 4000000 in
theorem tX12_receipts_209 (r : (Int32 × mz_D)) (k185 : Int32 → Int32 → Int32 → Int32 → Int32 → mz_D → Option (Int32 × mz_D)) (hk185 : ∀ (x1 : Int32) (x2 : Int32) (x3 : Int32) (x4 : Int32) (x5 : Int32) (D : mz_D), k185 x1 x2 x3 x4 x5 D = some r → mz_Go IX12_receipts (some (.inl r.1), r.2) 0 0 (185, [some (.inr (.inr (some (0, 200)))), some (.inl x1), some (.inl x2), some (.inl x3), some (.inl x4), some (.inl x5), none, none], [], D)) : ∀ (n : Nat) (x1 : Int32) (x2 : Int32) (x3 : Int32) (x4 : Int32) (x5 : Int32) (x6 : Int32) (x7 : Int32) (D : mz_D), fX12_receipts_209 k185 n x1 x2 x3 x4 x5 x6 x7 D = some r → mz_Go IX12_receipts (some (.inl r.1), r.2) 0 0 (209, [some (.inr (.inr (some (0, 200)))), some (.inl x1), some (.inl x2), some (.inl x3), some (.inl x4), some (.inl x5), some (.inl x6), some (.inl x7)], [], D) := by
  intro n
  induction n with
  | zero => intro x1 x2 x3 x4 x5 x6 x7 D h; have h : (none : Option (Int32 × mz_D)) = some r := h; cases h
  | succ n ih =>
    intro x1 x2 x3 x4 x5 x6 x7 D h
    rw [fX12_receipts_209] at h
    refine mz_Go.run (gs := [mz_kz 0 0 200, mz_kz 0 0 201, mz_ix (0 : Int32) 3000]) (st' := (if (D.1 0 201 ((0 : Int32)).toNatClampNeg) ≤ x7 then (271, [some (.inr (.inr (some (0, 200)))), some (.inl x1), some (.inl x2), some (.inl x3), some (.inl x4), some (.inl x5), some (.inl x6), some (.inl x7)], [], D) else (220, [some (.inr (.inr (some (0, 200)))), some (.inl x1), some (.inl x2), some (.inl x3), some (.inl x4), some (.inl x5), some (.inl x6), some (.inl x7)], [], D))) bX12_receipts_209 oX12_receipts_209 rfl ⟨rfl, rfl, (by decide), trivial⟩ ?_
    refine mz_Go.ite (fun hc1 => ?_) (fun hc1 => ?_)
    · have h := mz_ifp hc1 h
      refine mz_Go.run (gs := []) (st' := (185, [some (.inr (.inr (some (0, 200)))), some (.inl x1), some (.inl x2), some (.inl x3), some (.inl x4), some (.inl (x5 + (1 : Int32))), some (.inl x6), some (.inl x7)], [], D)) bX12_receipts_271 oX12_receipts_271 rfl trivial ?_
      exact mz_Go.drop [true, true, true, true, true, true, false, false] (hk185 x1 x2 x3 x4 (x5 + (1 : Int32)) D h)
    · have h := mz_ifn hc1 h
      refine mz_Go.run (gs := []) (st' := (if x7 = x6 then (265, [some (.inr (.inr (some (0, 200)))), some (.inl x1), some (.inl x2), some (.inl x3), some (.inl x4), some (.inl x5), some (.inl x6), some (.inl x7)], [], D) else (227, [some (.inr (.inr (some (0, 200)))), some (.inl x1), some (.inl x2), some (.inl x3), some (.inl x4), some (.inl x5), some (.inl x6), some (.inl x7)], [], D))) bX12_receipts_220 oX12_receipts_220 rfl trivial ?_
      refine mz_Go.ite (fun hc2 => ?_) (fun hc2 => ?_)
      · have h := mz_ifp hc2 h
        refine mz_Go.run (gs := []) (st' := (209, [some (.inr (.inr (some (0, 200)))), some (.inl x1), some (.inl x2), some (.inl x3), some (.inl x4), some (.inl x5), some (.inl x6), some (.inl (x7 + (1 : Int32)))], [], D)) bX12_receipts_265 oX12_receipts_265 rfl trivial ?_
        exact mz_Go.drop [true, true, true, true, true, true, true, true] (ih x1 x2 x3 x4 x5 x6 (x7 + (1 : Int32)) D h)
      · have h := mz_ifn hc2 h
        refine mz_Go.run (gs := []) (st' := (229, [some (.inr (.inr (some (0, 200)))), some (.inl x1), some (.inl x2), some (.inl x3), some (.inl x4), some (.inl x5), some (.inl x6), some (.inl x7)], [.inr (.inr (some (0, 200))), .inr (.inr (some (0, 200)))], D)) bX12_receipts_227 oX12_receipts_227 rfl trivial ?_
        refine mz_Go.callV (I := IX12_receipts) (J := IX12_heads) (as := []) (ci := 12) (g := 0) (o := 200) (idx := 264) (pl := 1880) (rest := [.inr (.inr (some (0, 200)))]) (mX12_heads D _ rfl) kX12_heads vX12_heads (by decide +kernel) (by decide +kernel) (by decide +kernel) rfl rfl ⟨rfl, rfl⟩ rfl rfl rfl rfl ?_
        refine mz_Go.run (gs := []) (st' := (234, [some (.inr (.inr (some (0, 200)))), some (.inl x1), some (.inl x2), some (.inl x3), some (.inl x4), some (.inl x5), some (.inl x6), some (.inl x7)], [.inl x7, .inl (fX12_heads D), .inr (.inr (some (0, 200)))], D)) bX12_receipts_232 oX12_receipts_232 rfl trivial ?_
        refine mz_Go.callV (I := IX12_receipts) (J := IX12_isIn) (as := [.inl (fX12_heads D), .inl x7]) (ci := 12) (g := 0) (o := 200) (idx := 270) (pl := 1944) (rest := []) (mX12_isIn (fX12_heads D) x7 D _ rfl) kX12_isIn vX12_isIn (by decide +kernel) (by decide +kernel) (by decide +kernel) rfl rfl ⟨rfl, rfl⟩ rfl rfl rfl rfl ?_
        refine mz_Go.run (gs := []) (st' := (if (fX12_isIn (fX12_heads D) x7) = 0 then (240, [some (.inr (.inr (some (0, 200)))), some (.inl x1), some (.inl x2), some (.inl x3), some (.inl x4), some (.inl x5), some (.inl x6), some (.inl x7)], [], D) else (243, [some (.inr (.inr (some (0, 200)))), some (.inl x1), some (.inl x2), some (.inl x3), some (.inl x4), some (.inl x5), some (.inl x6), some (.inl x7)], [], D))) bX12_receipts_237 oX12_receipts_237 rfl trivial ?_
        refine mz_Go.ite (fun hc3 => ?_) (fun hc3 => ?_)
        · have h := mz_ifp hc3 h
          refine mz_Go.run (gs := []) (st' := (209, [some (.inr (.inr (some (0, 200)))), some (.inl x1), some (.inl x2), some (.inl x3), some (.inl x4), some (.inl x5), some (.inl x6), some (.inl (x7 + (1 : Int32)))], [], D)) bX12_receipts_240 oX12_receipts_240 rfl trivial ?_
          exact mz_Go.drop [true, true, true, true, true, true, true, true] (ih x1 x2 x3 x4 x5 x6 (x7 + (1 : Int32)) D h)
        · have h := mz_ifn hc3 h
          obtain ⟨hb4, h⟩ := mz_gd_some h
          obtain ⟨hb5, h⟩ := mz_gd_some h
          refine mz_Go.run (gs := [mz_kz 0 0 200, mz_kz 0 0 210, mz_ix x7 6, mz_kz 0 0 210, mz_ix x7 6, mz_kz 0 0 200, mz_kz 0 0 210, mz_ix x6 6, mz_kz 0 0 210, mz_ix x6 6]) (st' := (209, [some (.inr (.inr (some (0, 200)))), some (.inl x1), some (.inl x2), some (.inl x3), some (.inl x4), some (.inl x5), some (.inl x6), some (.inl (x7 + (1 : Int32)))], [], (mz_wi (mz_wi D 0 210 (x7).toNatClampNeg ((D.1 0 210 (x7).toNatClampNeg) - x3)) 0 210 (x6).toNatClampNeg (((mz_wi D 0 210 (x7).toNatClampNeg ((D.1 0 210 (x7).toNatClampNeg) - x3)).1 0 210 (x6).toNatClampNeg) + x3)))) bX12_receipts_243 oX12_receipts_243 rfl ⟨rfl, rfl, hb4, rfl, hb4, rfl, rfl, hb5, rfl, hb5, trivial⟩ ?_
          exact mz_Go.drop [true, true, true, true, true, true, true, true] (ih x1 x2 x3 x4 x5 x6 (x7 + (1 : Int32)) (mz_wi (mz_wi D 0 210 (x7).toNatClampNeg ((D.1 0 210 (x7).toNatClampNeg) - x3)) 0 210 (x6).toNatClampNeg (((mz_wi D 0 210 (x7).toNatClampNeg ((D.1 0 210 (x7).toNatClampNeg) - x3)).1 0 210 (x6).toNatClampNeg) + x3)) h)
def fX12_receipts_185 : Nat → Int32 → Int32 → Int32 → Int32 → Int32 → mz_D → Option (Int32 × mz_D)
  | 0 => fun _ _ _ _ _ _ => none
  | n + 1 => fun x1 x2 x3 x4 x5 D => (if x2 ≤ x5 then (fX12_receipts_280 mz_N x4 (0 : Int32) D) else (mz_gd (mz_ix (((60 : Int32) * x1) + x5) 240) (fX12_receipts_209 (fX12_receipts_185 n) mz_N x1 x2 x3 x4 x5 ((D.2 0 205 ((((60 : Int32) * x1) + x5)).toNatClampNeg)).toInt32 (0 : Int32) D)))
set_option maxHeartbeats 4000000 in
theorem tX12_receipts_185 (r : (Int32 × mz_D)) : ∀ (n : Nat) (x1 : Int32) (x2 : Int32) (x3 : Int32) (x4 : Int32) (x5 : Int32) (D : mz_D), fX12_receipts_185 n x1 x2 x3 x4 x5 D = some r → mz_Go IX12_receipts (some (.inl r.1), r.2) 0 0 (185, [some (.inr (.inr (some (0, 200)))), some (.inl x1), some (.inl x2), some (.inl x3), some (.inl x4), some (.inl x5), none, none], [], D) := by
  intro n
  induction n with
  | zero => intro x1 x2 x3 x4 x5 D h; have h : (none : Option (Int32 × mz_D)) = some r := h; cases h
  | succ n ih =>
    intro x1 x2 x3 x4 x5 D h
    rw [fX12_receipts_185] at h
    refine mz_Go.run (gs := []) (st' := (if x2 ≤ x5 then (277, [some (.inr (.inr (some (0, 200)))), some (.inl x1), some (.inl x2), some (.inl x3), some (.inl x4), some (.inl x5), none, none], [], D) else (191, [some (.inr (.inr (some (0, 200)))), some (.inl x1), some (.inl x2), some (.inl x3), some (.inl x4), some (.inl x5), none, none], [], D))) bX12_receipts_185 oX12_receipts_185 rfl trivial ?_
    refine mz_Go.ite (fun hc1 => ?_) (fun hc1 => ?_)
    · have h := mz_ifp hc1 h
      refine mz_Go.run (gs := []) (st' := (280, [some (.inr (.inr (some (0, 200)))), some (.inl x1), some (.inl x2), some (.inl x3), some (.inl x4), some (.inl (0 : Int32)), none, none], [], D)) bX12_receipts_277 oX12_receipts_277 rfl trivial ?_
      exact mz_Go.drop [true, false, false, false, true, true, false, false] (tX12_receipts_280 r mz_N x4 (0 : Int32) D h)
    · have h := mz_ifn hc1 h
      obtain ⟨hb2, h⟩ := mz_gd_some h
      refine mz_Go.run (gs := [mz_kz 0 0 200, mz_kz 0 0 205, mz_ix (((60 : Int32) * x1) + x5) 240]) (st' := (209, [some (.inr (.inr (some (0, 200)))), some (.inl x1), some (.inl x2), some (.inl x3), some (.inl x4), some (.inl x5), some (.inl ((D.2 0 205 ((((60 : Int32) * x1) + x5)).toNatClampNeg)).toInt32), some (.inl (0 : Int32))], [], D)) bX12_receipts_191 oX12_receipts_191 rfl ⟨rfl, rfl, hb2, trivial⟩ ?_
      exact mz_Go.drop [true, true, true, true, true, true, true, true] (tX12_receipts_209 r (fX12_receipts_185 n) ih mz_N x1 x2 x3 x4 x5 ((D.2 0 205 ((((60 : Int32) * x1) + x5)).toNatClampNeg)).toInt32 (0 : Int32) D h)
def fX12_receipts_157 : Nat → Int32 → Int32 → Int32 → Int32 → Int32 → mz_D → Option (Int32 × mz_D)
  | 0 => fun _ _ _ _ _ _ => none
  | n + 1 => fun x1 x2 x3 x4 x5 D => (if (D.1 0 201 ((0 : Int32)).toNatClampNeg) ≤ x5 then (fX12_receipts_185 mz_N x1 x2 x3 x4 (0 : Int32) D) else (mz_gd (mz_ix x5 6) ((fX12_receipts_157 n) x1 x2 x3 x4 (x5 + (1 : Int32)) (mz_wi D 0 210 (x5).toNatClampNeg (0 : Int32)))))
set_option maxHeartbeats 4000000 in
theorem tX12_receipts_157 (r : (Int32 × mz_D)) : ∀ (n : Nat) (x1 : Int32) (x2 : Int32) (x3 : Int32) (x4 : Int32) (x5 : Int32) (D : mz_D), fX12_receipts_157 n x1 x2 x3 x4 x5 D = some r → mz_Go IX12_receipts (some (.inl r.1), r.2) 0 0 (157, [some (.inr (.inr (some (0, 200)))), some (.inl x1), some (.inl x2), some (.inl x3), some (.inl x4), some (.inl x5), none, none], [], D) := by
  intro n
  induction n with
  | zero => intro x1 x2 x3 x4 x5 D h; have h : (none : Option (Int32 × mz_D)) = some r := h; cases h
  | succ n ih =>
    intro x1 x2 x3 x4 x5 D h
    rw [fX12_receipts_157] at h
    refine mz_Go.run (gs := [mz_kz 0 0 200, mz_kz 0 0 201, mz_ix (0 : Int32) 3000]) (st' := (if (D.1 0 201 ((0 : Int32)).toNatClampNeg) ≤ x5 then (182, [some (.inr (.inr (some (0, 200)))), some (.inl x1), some (.inl x2), some (.inl x3), some (.inl x4), some (.inl x5), none, none], [], D) else (168, [some (.inr (.inr (some (0, 200)))), some (.inl x1), some (.inl x2), some (.inl x3), some (.inl x4), some (.inl x5), none, none], [], D))) bX12_receipts_157 oX12_receipts_157 rfl ⟨rfl, rfl, (by decide), trivial⟩ ?_
    refine mz_Go.ite (fun hc1 => ?_) (fun hc1 => ?_)
    · have h := mz_ifp hc1 h
      refine mz_Go.run (gs := []) (st' := (185, [some (.inr (.inr (some (0, 200)))), some (.inl x1), some (.inl x2), some (.inl x3), some (.inl x4), some (.inl (0 : Int32)), none, none], [], D)) bX12_receipts_182 oX12_receipts_182 rfl trivial ?_
      exact mz_Go.drop [true, true, true, true, true, true, false, false] (tX12_receipts_185 r mz_N x1 x2 x3 x4 (0 : Int32) D h)
    · have h := mz_ifn hc1 h
      obtain ⟨hb2, h⟩ := mz_gd_some h
      refine mz_Go.run (gs := [mz_kz 0 0 200, mz_kz 0 0 210, mz_ix x5 6]) (st' := (157, [some (.inr (.inr (some (0, 200)))), some (.inl x1), some (.inl x2), some (.inl x3), some (.inl x4), some (.inl (x5 + (1 : Int32))), none, none], [], (mz_wi D 0 210 (x5).toNatClampNeg (0 : Int32)))) bX12_receipts_168 oX12_receipts_168 rfl ⟨rfl, rfl, hb2, trivial⟩ ?_
      exact mz_Go.drop [true, true, true, true, true, true, false, false] (ih x1 x2 x3 x4 (x5 + (1 : Int32)) (mz_wi D 0 210 (x5).toNatClampNeg (0 : Int32)) h)
def fX12_receipts_108 : Nat → Int32 → Int32 → Int32 → Int32 → Int32 → mz_D → Option (Int32 × mz_D)
  | 0 => fun _ _ _ _ _ _ => none
  | n + 1 => fun x1 x2 x3 x4 x5 D => (if x2 ≤ x5 then (fX12_receipts_157 mz_N x1 x2 x3 x4 (0 : Int32) D) else (mz_gd (mz_ix (((60 : Int32) * x1) + x5) 240) (if (fX12_isFrom (D.2 0 205 ((((60 : Int32) * x1) + x5)).toNatClampNeg) (0 : Int64) (((D.1 0 201 ((0 : Int32)).toNatClampNeg)).toInt64 - (1 : Int64))) = 0 then (some ((-1 : Int32), (mz_wi D 0 200 2 (5 : Int32)))) else ((fX12_receipts_108 n) x1 x2 x3 x4 (x5 + (1 : Int32)) D))))
set_option maxHeartbeats 4000000 in
theorem tX12_receipts_108 (r : (Int32 × mz_D)) : ∀ (n : Nat) (x1 : Int32) (x2 : Int32) (x3 : Int32) (x4 : Int32) (x5 : Int32) (D : mz_D), fX12_receipts_108 n x1 x2 x3 x4 x5 D = some r → mz_Go IX12_receipts (some (.inl r.1), r.2) 0 0 (108, [some (.inr (.inr (some (0, 200)))), some (.inl x1), some (.inl x2), some (.inl x3), some (.inl x4), some (.inl x5), none, none], [], D) := by
  intro n
  induction n with
  | zero => intro x1 x2 x3 x4 x5 D h; have h : (none : Option (Int32 × mz_D)) = some r := h; cases h
  | succ n ih =>
    intro x1 x2 x3 x4 x5 D h
    rw [fX12_receipts_108] at h
    refine mz_Go.run (gs := []) (st' := (if x2 ≤ x5 then (154, [some (.inr (.inr (some (0, 200)))), some (.inl x1), some (.inl x2), some (.inl x3), some (.inl x4), some (.inl x5), none, none], [], D) else (114, [some (.inr (.inr (some (0, 200)))), some (.inl x1), some (.inl x2), some (.inl x3), some (.inl x4), some (.inl x5), none, none], [], D))) bX12_receipts_108 oX12_receipts_108 rfl trivial ?_
    refine mz_Go.ite (fun hc1 => ?_) (fun hc1 => ?_)
    · have h := mz_ifp hc1 h
      refine mz_Go.run (gs := []) (st' := (157, [some (.inr (.inr (some (0, 200)))), some (.inl x1), some (.inl x2), some (.inl x3), some (.inl x4), some (.inl (0 : Int32)), none, none], [], D)) bX12_receipts_154 oX12_receipts_154 rfl trivial ?_
      exact mz_Go.drop [true, true, true, true, true, true, false, false] (tX12_receipts_157 r mz_N x1 x2 x3 x4 (0 : Int32) D h)
    · have h := mz_ifn hc1 h
      obtain ⟨hb2, h⟩ := mz_gd_some h
      refine mz_Go.run (gs := [mz_kz 0 0 200, mz_kz 0 0 205, mz_ix (((60 : Int32) * x1) + x5) 240, mz_kz 0 0 200, mz_kz 0 0 201, mz_ix (0 : Int32) 3000]) (st' := (136, [some (.inr (.inr (some (0, 200)))), some (.inl x1), some (.inl x2), some (.inl x3), some (.inl x4), some (.inl x5), none, none], [.inr (.inl (((D.1 0 201 ((0 : Int32)).toNatClampNeg)).toInt64 - (1 : Int64))), .inr (.inl (0 : Int64)), .inr (.inl (D.2 0 205 ((((60 : Int32) * x1) + x5)).toNatClampNeg))], D)) bX12_receipts_114 oX12_receipts_114 rfl ⟨rfl, rfl, hb2, rfl, rfl, (by decide), trivial⟩ ?_
      refine mz_Go.callS (I := IX12_receipts) (J := IX12_isFrom) (as := [.inr (.inl (D.2 0 205 ((((60 : Int32) * x1) + x5)).toNatClampNeg)), .inr (.inl (0 : Int64)), .inr (.inl (((D.1 0 201 ((0 : Int32)).toNatClampNeg)).toInt64 - (1 : Int64)))]) (idx := 302) (pl := 1974) (rest := []) (mX12_isFrom (D.2 0 205 ((((60 : Int32) * x1) + x5)).toNatClampNeg) (0 : Int64) (((D.1 0 201 ((0 : Int32)).toNatClampNeg)).toInt64 - (1 : Int64)) D _ rfl) kX12_isFrom vX12_isFrom (by decide +kernel) (by decide +kernel) (by decide +kernel) rfl rfl ⟨rfl, rfl⟩ rfl ?_
      refine mz_Go.run (gs := []) (st' := (if (fX12_isFrom (D.2 0 205 ((((60 : Int32) * x1) + x5)).toNatClampNeg) (0 : Int64) (((D.1 0 201 ((0 : Int32)).toNatClampNeg)).toInt64 - (1 : Int64))) = 0 then (142, [some (.inr (.inr (some (0, 200)))), some (.inl x1), some (.inl x2), some (.inl x3), some (.inl x4), some (.inl x5), none, none], [], D) else (148, [some (.inr (.inr (some (0, 200)))), some (.inl x1), some (.inl x2), some (.inl x3), some (.inl x4), some (.inl x5), none, none], [], D))) bX12_receipts_139 oX12_receipts_139 rfl trivial ?_
      refine mz_Go.ite (fun hc3 => ?_) (fun hc3 => ?_)
      · have h := mz_ifp hc3 h
        refine mz_Go.run (gs := []) (st' := (144, [some (.inr (.inr (some (0, 200)))), some (.inl x1), some (.inl x2), some (.inl x3), some (.inl x4), some (.inl x5), none, none], [.inl (5 : Int32), .inr (.inr (some (0, 200)))], D)) bX12_receipts_142 oX12_receipts_142 rfl trivial ?_
        refine mz_Go.callV (I := IX12_receipts) (J := IX12_refuse) (as := [.inl (5 : Int32)]) (ci := 12) (g := 0) (o := 200) (idx := 75) (pl := 1761) (rest := []) (mX12_refuse (5 : Int32) D) kX12_refuse vX12_refuse (by decide +kernel) (by decide +kernel) (by decide +kernel) rfl rfl ⟨rfl, rfl⟩ rfl rfl rfl rfl ?_
        cases h
        exact mz_Go.reti (by decide +kernel) rfl ⟨Nat.le_refl _, Nat.le_refl _⟩ rfl
      · have h := mz_ifn hc3 h
        refine mz_Go.run (gs := []) (st' := (108, [some (.inr (.inr (some (0, 200)))), some (.inl x1), some (.inl x2), some (.inl x3), some (.inl x4), some (.inl (x5 + (1 : Int32))), none, none], [], D)) bX12_receipts_148 oX12_receipts_148 rfl trivial ?_
        exact mz_Go.drop [true, true, true, true, true, true, false, false] (ih x1 x2 x3 x4 (x5 + (1 : Int32)) D h)
def fX12_receipts (x1 : Int32) (x2 : Int32) (x3 : Int32) (x4 : Int32) (D : mz_D) : Option (Int32 × mz_D) := (if (fX12_isTray x1) = 0 then (some ((-1 : Int32), (mz_wi D 0 200 2 (1 : Int32)))) else (if (fX12_isTray x4) = 0 then (some ((-1 : Int32), (mz_wi D 0 200 2 (1 : Int32)))) else (if x2 < 0 then (some ((-1 : Int32), (mz_wi D 0 200 2 (1 : Int32)))) else (if (fX12_isFrom (x3).toInt64 (1 : Int64) (999 : Int64)) = 0 then (some ((-1 : Int32), (mz_wi D 0 200 2 (1 : Int32)))) else (if (D.1 0 201 ((0 : Int32)).toNatClampNeg) = 0 then (some ((-1 : Int32), (mz_wi D 0 200 2 (1 : Int32)))) else (mz_gd (mz_ix x1 4) (if (D.1 0 204 (x1).toNatClampNeg) = (-1 : Int32) then (some ((-1 : Int32), (mz_wi D 0 200 2 (2 : Int32)))) else (mz_gd (mz_ix x4 4) (if (D.1 0 204 (x4).toNatClampNeg) = (-1 : Int32) then (some ((-1 : Int32), (mz_wi D 0 200 2 (2 : Int32)))) else (if (D.1 0 204 (x1).toNatClampNeg) < x2 then (some ((-1 : Int32), (mz_wi D 0 200 2 (3 : Int32)))) else (if (D.1 0 201 ((0 : Int32)).toNatClampNeg) ≤ (D.1 0 204 (x4).toNatClampNeg) then (fX12_receipts_108 mz_N x1 x2 x3 x4 (0 : Int32) D) else (some ((-1 : Int32), (mz_wi D 0 200 2 (3 : Int32)))))))))))))))
set_option maxHeartbeats 4000000 in
theorem mX12_receipts (x1 : Int32) (x2 : Int32) (x3 : Int32) (x4 : Int32) (D : mz_D) (r : (Int32 × mz_D)) (h : fX12_receipts x1 x2 x3 x4 D = some r) : mz_Met IX12_receipts [.inr (.inr (some (0, 200))), .inl x1, .inl x2, .inl x3, .inl x4] D (some (.inl r.1), r.2) := by
  refine mz_Met.of (by decide +kernel) (Nat.le_of_ble_eq_true rfl) ?_
  show mz_Go IX12_receipts (some (.inl r.1), r.2) 0 0 (0, [some (.inr (.inr (some (0, 200)))), some (.inl x1), some (.inl x2), some (.inl x3), some (.inl x4), none, none, none], [], D)
  rw [fX12_receipts] at h
  refine mz_Go.run (gs := []) (st' := (1, [some (.inr (.inr (some (0, 200)))), some (.inl x1), some (.inl x2), some (.inl x3), some (.inl x4), none, none, none], [.inl x1], D)) bX12_receipts_0 oX12_receipts_0 rfl trivial ?_
  refine mz_Go.callS (I := IX12_receipts) (J := IX12_isTray) (as := [.inl x1]) (idx := 86) (pl := 1698) (rest := []) (mX12_isTray x1 D _ rfl) kX12_isTray vX12_isTray (by decide +kernel) (by decide +kernel) (by decide +kernel) rfl rfl ⟨rfl, rfl⟩ rfl ?_
  refine mz_Go.run (gs := []) (st' := (if (fX12_isTray x1) = 0 then (40, [some (.inr (.inr (some (0, 200)))), some (.inl x1), some (.inl x2), some (.inl x3), some (.inl x4), none, none, none], [], D) else (7, [some (.inr (.inr (some (0, 200)))), some (.inl x1), some (.inl x2), some (.inl x3), some (.inl x4), none, none, none], [], D))) bX12_receipts_4 oX12_receipts_4 rfl trivial ?_
  refine mz_Go.ite (fun hc1 => ?_) (fun hc1 => ?_)
  · have h := mz_ifp hc1 h
    refine mz_Go.run (gs := []) (st' := (42, [some (.inr (.inr (some (0, 200)))), some (.inl x1), some (.inl x2), some (.inl x3), some (.inl x4), none, none, none], [.inl (1 : Int32), .inr (.inr (some (0, 200)))], D)) bX12_receipts_40 oX12_receipts_40 rfl trivial ?_
    refine mz_Go.callV (I := IX12_receipts) (J := IX12_refuse) (as := [.inl (1 : Int32)]) (ci := 12) (g := 0) (o := 200) (idx := 75) (pl := 1761) (rest := []) (mX12_refuse (1 : Int32) D) kX12_refuse vX12_refuse (by decide +kernel) (by decide +kernel) (by decide +kernel) rfl rfl ⟨rfl, rfl⟩ rfl rfl rfl rfl ?_
    cases h
    exact mz_Go.reti (by decide +kernel) rfl ⟨Nat.le_refl _, Nat.le_refl _⟩ rfl
  · have h := mz_ifn hc1 h
    refine mz_Go.run (gs := []) (st' := (9, [some (.inr (.inr (some (0, 200)))), some (.inl x1), some (.inl x2), some (.inl x3), some (.inl x4), none, none, none], [.inl x4], D)) bX12_receipts_7 oX12_receipts_7 rfl trivial ?_
    refine mz_Go.callS (I := IX12_receipts) (J := IX12_isTray) (as := [.inl x4]) (idx := 86) (pl := 1698) (rest := []) (mX12_isTray x4 D _ rfl) kX12_isTray vX12_isTray (by decide +kernel) (by decide +kernel) (by decide +kernel) rfl rfl ⟨rfl, rfl⟩ rfl ?_
    refine mz_Go.run (gs := []) (st' := (if (fX12_isTray x4) = 0 then (40, [some (.inr (.inr (some (0, 200)))), some (.inl x1), some (.inl x2), some (.inl x3), some (.inl x4), none, none, none], [], D) else (15, [some (.inr (.inr (some (0, 200)))), some (.inl x1), some (.inl x2), some (.inl x3), some (.inl x4), none, none, none], [], D))) bX12_receipts_12 oX12_receipts_12 rfl trivial ?_
    refine mz_Go.ite (fun hc2 => ?_) (fun hc2 => ?_)
    · have h := mz_ifp hc2 h
      refine mz_Go.run (gs := []) (st' := (42, [some (.inr (.inr (some (0, 200)))), some (.inl x1), some (.inl x2), some (.inl x3), some (.inl x4), none, none, none], [.inl (1 : Int32), .inr (.inr (some (0, 200)))], D)) bX12_receipts_40 oX12_receipts_40 rfl trivial ?_
      refine mz_Go.callV (I := IX12_receipts) (J := IX12_refuse) (as := [.inl (1 : Int32)]) (ci := 12) (g := 0) (o := 200) (idx := 75) (pl := 1761) (rest := []) (mX12_refuse (1 : Int32) D) kX12_refuse vX12_refuse (by decide +kernel) (by decide +kernel) (by decide +kernel) rfl rfl ⟨rfl, rfl⟩ rfl rfl rfl rfl ?_
      cases h
      exact mz_Go.reti (by decide +kernel) rfl ⟨Nat.le_refl _, Nat.le_refl _⟩ rfl
    · have h := mz_ifn hc2 h
      refine mz_Go.run (gs := []) (st' := (if x2 < 0 then (40, [some (.inr (.inr (some (0, 200)))), some (.inl x1), some (.inl x2), some (.inl x3), some (.inl x4), none, none, none], [], D) else (19, [some (.inr (.inr (some (0, 200)))), some (.inl x1), some (.inl x2), some (.inl x3), some (.inl x4), none, none, none], [], D))) bX12_receipts_15 oX12_receipts_15 rfl trivial ?_
      refine mz_Go.ite (fun hc3 => ?_) (fun hc3 => ?_)
      · have h := mz_ifp hc3 h
        refine mz_Go.run (gs := []) (st' := (42, [some (.inr (.inr (some (0, 200)))), some (.inl x1), some (.inl x2), some (.inl x3), some (.inl x4), none, none, none], [.inl (1 : Int32), .inr (.inr (some (0, 200)))], D)) bX12_receipts_40 oX12_receipts_40 rfl trivial ?_
        refine mz_Go.callV (I := IX12_receipts) (J := IX12_refuse) (as := [.inl (1 : Int32)]) (ci := 12) (g := 0) (o := 200) (idx := 75) (pl := 1761) (rest := []) (mX12_refuse (1 : Int32) D) kX12_refuse vX12_refuse (by decide +kernel) (by decide +kernel) (by decide +kernel) rfl rfl ⟨rfl, rfl⟩ rfl rfl rfl rfl ?_
        cases h
        exact mz_Go.reti (by decide +kernel) rfl ⟨Nat.le_refl _, Nat.le_refl _⟩ rfl
      · have h := mz_ifn hc3 h
        refine mz_Go.run (gs := []) (st' := (25, [some (.inr (.inr (some (0, 200)))), some (.inl x1), some (.inl x2), some (.inl x3), some (.inl x4), none, none, none], [.inr (.inl (999 : Int64)), .inr (.inl (1 : Int64)), .inr (.inl (x3).toInt64)], D)) bX12_receipts_19 oX12_receipts_19 rfl trivial ?_
        refine mz_Go.callS (I := IX12_receipts) (J := IX12_isFrom) (as := [.inr (.inl (x3).toInt64), .inr (.inl (1 : Int64)), .inr (.inl (999 : Int64))]) (idx := 302) (pl := 1974) (rest := []) (mX12_isFrom (x3).toInt64 (1 : Int64) (999 : Int64) D _ rfl) kX12_isFrom vX12_isFrom (by decide +kernel) (by decide +kernel) (by decide +kernel) rfl rfl ⟨rfl, rfl⟩ rfl ?_
        refine mz_Go.run (gs := []) (st' := (if (fX12_isFrom (x3).toInt64 (1 : Int64) (999 : Int64)) = 0 then (40, [some (.inr (.inr (some (0, 200)))), some (.inl x1), some (.inl x2), some (.inl x3), some (.inl x4), none, none, none], [], D) else (31, [some (.inr (.inr (some (0, 200)))), some (.inl x1), some (.inl x2), some (.inl x3), some (.inl x4), none, none, none], [], D))) bX12_receipts_28 oX12_receipts_28 rfl trivial ?_
        refine mz_Go.ite (fun hc4 => ?_) (fun hc4 => ?_)
        · have h := mz_ifp hc4 h
          refine mz_Go.run (gs := []) (st' := (42, [some (.inr (.inr (some (0, 200)))), some (.inl x1), some (.inl x2), some (.inl x3), some (.inl x4), none, none, none], [.inl (1 : Int32), .inr (.inr (some (0, 200)))], D)) bX12_receipts_40 oX12_receipts_40 rfl trivial ?_
          refine mz_Go.callV (I := IX12_receipts) (J := IX12_refuse) (as := [.inl (1 : Int32)]) (ci := 12) (g := 0) (o := 200) (idx := 75) (pl := 1761) (rest := []) (mX12_refuse (1 : Int32) D) kX12_refuse vX12_refuse (by decide +kernel) (by decide +kernel) (by decide +kernel) rfl rfl ⟨rfl, rfl⟩ rfl rfl rfl rfl ?_
          cases h
          exact mz_Go.reti (by decide +kernel) rfl ⟨Nat.le_refl _, Nat.le_refl _⟩ rfl
        · have h := mz_ifn hc4 h
          refine mz_Go.run (gs := [mz_kz 0 0 200, mz_kz 0 0 201, mz_ix (0 : Int32) 3000]) (st' := (if (D.1 0 201 ((0 : Int32)).toNatClampNeg) = 0 then (40, [some (.inr (.inr (some (0, 200)))), some (.inl x1), some (.inl x2), some (.inl x3), some (.inl x4), none, none, none], [], D) else (46, [some (.inr (.inr (some (0, 200)))), some (.inl x1), some (.inl x2), some (.inl x3), some (.inl x4), none, none, none], [], D))) bX12_receipts_31 oX12_receipts_31 rfl ⟨rfl, rfl, (by decide), trivial⟩ ?_
          refine mz_Go.ite (fun hc5 => ?_) (fun hc5 => ?_)
          · have h := mz_ifp hc5 h
            refine mz_Go.run (gs := []) (st' := (42, [some (.inr (.inr (some (0, 200)))), some (.inl x1), some (.inl x2), some (.inl x3), some (.inl x4), none, none, none], [.inl (1 : Int32), .inr (.inr (some (0, 200)))], D)) bX12_receipts_40 oX12_receipts_40 rfl trivial ?_
            refine mz_Go.callV (I := IX12_receipts) (J := IX12_refuse) (as := [.inl (1 : Int32)]) (ci := 12) (g := 0) (o := 200) (idx := 75) (pl := 1761) (rest := []) (mX12_refuse (1 : Int32) D) kX12_refuse vX12_refuse (by decide +kernel) (by decide +kernel) (by decide +kernel) rfl rfl ⟨rfl, rfl⟩ rfl rfl rfl rfl ?_
            cases h
            exact mz_Go.reti (by decide +kernel) rfl ⟨Nat.le_refl _, Nat.le_refl _⟩ rfl
          · have h := mz_ifn hc5 h
            obtain ⟨hb6, h⟩ := mz_gd_some h
            refine mz_Go.run (gs := [mz_kz 0 0 200, mz_kz 0 0 204, mz_ix x1 4]) (st' := (if (D.1 0 204 (x1).toNatClampNeg) = (-1 : Int32) then (67, [some (.inr (.inr (some (0, 200)))), some (.inl x1), some (.inl x2), some (.inl x3), some (.inl x4), none, none, none], [], D) else (56, [some (.inr (.inr (some (0, 200)))), some (.inl x1), some (.inl x2), some (.inl x3), some (.inl x4), none, none, none], [], D))) bX12_receipts_46 oX12_receipts_46 rfl ⟨rfl, rfl, hb6, trivial⟩ ?_
            refine mz_Go.ite (fun hc7 => ?_) (fun hc7 => ?_)
            · have h := mz_ifp hc7 h
              refine mz_Go.run (gs := []) (st' := (69, [some (.inr (.inr (some (0, 200)))), some (.inl x1), some (.inl x2), some (.inl x3), some (.inl x4), none, none, none], [.inl (2 : Int32), .inr (.inr (some (0, 200)))], D)) bX12_receipts_67 oX12_receipts_67 rfl trivial ?_
              refine mz_Go.callV (I := IX12_receipts) (J := IX12_refuse) (as := [.inl (2 : Int32)]) (ci := 12) (g := 0) (o := 200) (idx := 75) (pl := 1761) (rest := []) (mX12_refuse (2 : Int32) D) kX12_refuse vX12_refuse (by decide +kernel) (by decide +kernel) (by decide +kernel) rfl rfl ⟨rfl, rfl⟩ rfl rfl rfl rfl ?_
              cases h
              exact mz_Go.reti (by decide +kernel) rfl ⟨Nat.le_refl _, Nat.le_refl _⟩ rfl
            · have h := mz_ifn hc7 h
              obtain ⟨hb8, h⟩ := mz_gd_some h
              refine mz_Go.run (gs := [mz_kz 0 0 200, mz_kz 0 0 204, mz_ix x4 4]) (st' := (if (D.1 0 204 (x4).toNatClampNeg) = (-1 : Int32) then (67, [some (.inr (.inr (some (0, 200)))), some (.inl x1), some (.inl x2), some (.inl x3), some (.inl x4), none, none, none], [], D) else (73, [some (.inr (.inr (some (0, 200)))), some (.inl x1), some (.inl x2), some (.inl x3), some (.inl x4), none, none, none], [], D))) bX12_receipts_56 oX12_receipts_56 rfl ⟨rfl, rfl, hb8, trivial⟩ ?_
              refine mz_Go.ite (fun hc9 => ?_) (fun hc9 => ?_)
              · have h := mz_ifp hc9 h
                refine mz_Go.run (gs := []) (st' := (69, [some (.inr (.inr (some (0, 200)))), some (.inl x1), some (.inl x2), some (.inl x3), some (.inl x4), none, none, none], [.inl (2 : Int32), .inr (.inr (some (0, 200)))], D)) bX12_receipts_67 oX12_receipts_67 rfl trivial ?_
                refine mz_Go.callV (I := IX12_receipts) (J := IX12_refuse) (as := [.inl (2 : Int32)]) (ci := 12) (g := 0) (o := 200) (idx := 75) (pl := 1761) (rest := []) (mX12_refuse (2 : Int32) D) kX12_refuse vX12_refuse (by decide +kernel) (by decide +kernel) (by decide +kernel) rfl rfl ⟨rfl, rfl⟩ rfl rfl rfl rfl ?_
                cases h
                exact mz_Go.reti (by decide +kernel) rfl ⟨Nat.le_refl _, Nat.le_refl _⟩ rfl
              · have h := mz_ifn hc9 h
                refine mz_Go.run (gs := [mz_kz 0 0 200, mz_kz 0 0 204, mz_ix x1 4]) (st' := (if (D.1 0 204 (x1).toNatClampNeg) < x2 then (99, [some (.inr (.inr (some (0, 200)))), some (.inl x1), some (.inl x2), some (.inl x3), some (.inl x4), none, none, none], [], D) else (83, [some (.inr (.inr (some (0, 200)))), some (.inl x1), some (.inl x2), some (.inl x3), some (.inl x4), none, none, none], [], D))) bX12_receipts_73 oX12_receipts_73 rfl ⟨rfl, rfl, hb6, trivial⟩ ?_
                refine mz_Go.ite (fun hc10 => ?_) (fun hc10 => ?_)
                · have h := mz_ifp hc10 h
                  refine mz_Go.run (gs := []) (st' := (101, [some (.inr (.inr (some (0, 200)))), some (.inl x1), some (.inl x2), some (.inl x3), some (.inl x4), none, none, none], [.inl (3 : Int32), .inr (.inr (some (0, 200)))], D)) bX12_receipts_99 oX12_receipts_99 rfl trivial ?_
                  refine mz_Go.callV (I := IX12_receipts) (J := IX12_refuse) (as := [.inl (3 : Int32)]) (ci := 12) (g := 0) (o := 200) (idx := 75) (pl := 1761) (rest := []) (mX12_refuse (3 : Int32) D) kX12_refuse vX12_refuse (by decide +kernel) (by decide +kernel) (by decide +kernel) rfl rfl ⟨rfl, rfl⟩ rfl rfl rfl rfl ?_
                  cases h
                  exact mz_Go.reti (by decide +kernel) rfl ⟨Nat.le_refl _, Nat.le_refl _⟩ rfl
                · have h := mz_ifn hc10 h
                  refine mz_Go.run (gs := [mz_kz 0 0 200, mz_kz 0 0 204, mz_ix x4 4, mz_kz 0 0 200, mz_kz 0 0 201, mz_ix (0 : Int32) 3000]) (st' := (if (D.1 0 201 ((0 : Int32)).toNatClampNeg) ≤ (D.1 0 204 (x4).toNatClampNeg) then (105, [some (.inr (.inr (some (0, 200)))), some (.inl x1), some (.inl x2), some (.inl x3), some (.inl x4), none, none, none], [], D) else (99, [some (.inr (.inr (some (0, 200)))), some (.inl x1), some (.inl x2), some (.inl x3), some (.inl x4), none, none, none], [], D))) bX12_receipts_83 oX12_receipts_83 rfl ⟨rfl, rfl, hb8, rfl, rfl, (by decide), trivial⟩ ?_
                  refine mz_Go.ite (fun hc11 => ?_) (fun hc11 => ?_)
                  · have h := mz_ifp hc11 h
                    refine mz_Go.run (gs := []) (st' := (108, [some (.inr (.inr (some (0, 200)))), some (.inl x1), some (.inl x2), some (.inl x3), some (.inl x4), some (.inl (0 : Int32)), none, none], [], D)) bX12_receipts_105 oX12_receipts_105 rfl trivial ?_
                    exact mz_Go.drop [true, true, true, true, true, true, false, false] (tX12_receipts_108 r mz_N x1 x2 x3 x4 (0 : Int32) D h)
                  · have h := mz_ifn hc11 h
                    refine mz_Go.run (gs := []) (st' := (101, [some (.inr (.inr (some (0, 200)))), some (.inl x1), some (.inl x2), some (.inl x3), some (.inl x4), none, none, none], [.inl (3 : Int32), .inr (.inr (some (0, 200)))], D)) bX12_receipts_99 oX12_receipts_99 rfl trivial ?_
                    refine mz_Go.callV (I := IX12_receipts) (J := IX12_refuse) (as := [.inl (3 : Int32)]) (ci := 12) (g := 0) (o := 200) (idx := 75) (pl := 1761) (rest := []) (mX12_refuse (3 : Int32) D) kX12_refuse vX12_refuse (by decide +kernel) (by decide +kernel) (by decide +kernel) rfl rfl ⟨rfl, rfl⟩ rfl rfl rfl rfl ?_
                    cases h
                    exact mz_Go.reti (by decide +kernel) rfl ⟨Nat.le_refl _, Nat.le_refl _⟩ rfl
def bX12_remembers_0 : List mz_E := [(0, .iload_n 1, 0, 0, 0, 0, 0)]
theorem oX12_remembers_0 : bX12_remembers_0.all (mz_ok RX12 cX12_remembers 8) = true := by decide +kernel
def bX12_remembers_4 : List mz_E := [(4, .ifCond .ne 9, 0, 13, 0, 0, 0)]
theorem oX12_remembers_4 : bX12_remembers_4.all (mz_ok RX12 cX12_remembers 8) = true := by decide +kernel
def bX12_remembers_7 : List mz_E := [(7, .aload_n 0, 0, 0, 0, 0, 0), (8, .iconst 1, 0, 0, 0, 1, 0)]
theorem oX12_remembers_7 : bX12_remembers_7.all (mz_ok RX12 cX12_remembers 8) = true := by decide +kernel
def bX12_remembers_13 : List mz_E := [(13, .aload_n 0, 0, 0, 0, 0, 0), (14, .getfield 24, 12, 6, 1582, 0, 0), (17, .iload_n 1, 0, 0, 0, 0, 0), (18, .iaload, 0, 0, 0, 0, 0), (19, .iconst (-1), 0, 0, 0, -1, 0), (20, .if_icmp .ne 9, 0, 29, 0, 0, 0)]
theorem oX12_remembers_13 : bX12_remembers_13.all (mz_ok RX12 cX12_remembers 8) = true := by decide +kernel
def bX12_remembers_23 : List mz_E := [(23, .aload_n 0, 0, 0, 0, 0, 0), (24, .iconst 2, 0, 0, 0, 2, 0)]
theorem oX12_remembers_23 : bX12_remembers_23.all (mz_ok RX12 cX12_remembers 8) = true := by decide +kernel
def bX12_remembers_29 : List mz_E := [(29, .aload_n 0, 0, 0, 0, 0, 0), (30, .getfield 24, 12, 6, 1582, 0, 0), (33, .iload_n 1, 0, 0, 0, 0, 0), (34, .iaload, 0, 0, 0, 0, 0), (35, .aload_n 0, 0, 0, 0, 0, 0), (36, .getfield 7, 12, 0, 1576, 0, 0), (39, .iconst 0, 0, 0, 0, 0, 0), (40, .iaload, 0, 0, 0, 0, 0), (41, .if_icmp .ge 9, 0, 50, 0, 0, 0)]
theorem oX12_remembers_29 : bX12_remembers_29.all (mz_ok RX12 cX12_remembers 8) = true := by decide +kernel
def bX12_remembers_50 : List mz_E := [(50, .iconst 0, 0, 0, 0, 0, 0), (51, .istore_n 2, 0, 0, 0, 0, 0)]
theorem oX12_remembers_50 : bX12_remembers_50.all (mz_ok RX12 cX12_remembers 8) = true := by decide +kernel
def bX12_remembers_52 : List mz_E := [(52, .iload_n 2, 0, 0, 0, 0, 0), (53, .aload_n 0, 0, 0, 0, 0, 0), (54, .getfield 7, 12, 0, 1576, 0, 0), (57, .iconst 0, 0, 0, 0, 0, 0), (58, .iaload, 0, 0, 0, 0, 0), (59, .if_icmp .ge 38, 0, 97, 0, 0, 0)]
theorem oX12_remembers_52 : bX12_remembers_52.all (mz_ok RX12 cX12_remembers 8) = true := by decide +kernel
def bX12_remembers_97 : List mz_E := [(97, .iconst (-1), 0, 0, 0, -1, 0), (98, .istore_n 2, 0, 0, 0, 0, 0), (99, .lconst 0, 0, 0, 0, 0, 0), (100, .lstore_n 3, 0, 0, 0, 0, 0), (101, .iconst 0, 0, 0, 0, 0, 0), (102, .istore 5, 0, 0, 0, 0, 0)]
theorem oX12_remembers_97 : bX12_remembers_97.all (mz_ok RX12 cX12_remembers 8) = true := by decide +kernel
def bX12_remembers_104 : List mz_E := [(104, .iload 5, 0, 0, 0, 0, 0), (106, .aload_n 0, 0, 0, 0, 0, 0), (107, .getfield 7, 12, 0, 1576, 0, 0), (110, .iconst 0, 0, 0, 0, 0, 0), (111, .iaload, 0, 0, 0, 0, 0), (112, .if_icmp .ge 50, 0, 162, 0, 0, 0)]
theorem oX12_remembers_104 : bX12_remembers_104.all (mz_ok RX12 cX12_remembers 8) = true := by decide +kernel
def bX12_remembers_162 : List mz_E := [(162, .aload_n 0, 0, 0, 0, 0, 0), (163, .iload_n 2, 0, 0, 0, 0, 0)]
theorem oX12_remembers_162 : bX12_remembers_162.all (mz_ok RX12 cX12_remembers 8) = true := by decide +kernel
def bX12_remembers_115 : List mz_E := [(115, .aload_n 0, 0, 0, 0, 0, 0), (116, .getfield 27, 12, 7, 1583, 0, 0), (119, .bipush 60, 0, 0, 0, 60, 0), (121, .iload_n 1, 0, 0, 0, 0, 0), (122, .imul, 0, 0, 0, 0, 0), (123, .iload 5, 0, 0, 0, 0, 0), (125, .iadd, 0, 0, 0, 0, 0), (126, .laload, 0, 0, 0, 0, 0), (127, .aload_n 0, 0, 0, 0, 0, 0), (128, .iload 5, 0, 0, 0, 0, 0)]
theorem oX12_remembers_115 : bX12_remembers_115.all (mz_ok RX12 cX12_remembers 8) = true := by decide +kernel
def bX12_remembers_133 : List mz_E := [(133, .i2l, 0, 0, 0, 0, 0), (134, .lsub, 0, 0, 0, 0, 0)]
theorem oX12_remembers_133 : bX12_remembers_133.all (mz_ok RX12 cX12_remembers 8) = true := by decide +kernel
def bX12_remembers_138 : List mz_E := [(138, .lstore 6, 0, 0, 0, 0, 0), (140, .lload 6, 0, 0, 0, 0, 0), (142, .lload_n 3, 0, 0, 0, 0, 0), (143, .lcmp, 0, 0, 0, 0, 0), (144, .ifCond .gt 6, 0, 150, 0, 0, 0)]
theorem oX12_remembers_138 : bX12_remembers_138.all (mz_ok RX12 cX12_remembers 8) = true := by decide +kernel
def bX12_remembers_150 : List mz_E := [(150, .lload 6, 0, 0, 0, 0, 0), (152, .lstore_n 3, 0, 0, 0, 0, 0), (153, .iload 5, 0, 0, 0, 0, 0), (155, .istore_n 2, 0, 0, 0, 0, 0), (156, .iinc 5 1, 0, 0, 0, 1, 0), (159, .goto (-55), 0, 104, 0, 0, 0)]
theorem oX12_remembers_150 : bX12_remembers_150.all (mz_ok RX12 cX12_remembers 8) = true := by decide +kernel
def bX12_remembers_147 : List mz_E := [(147, .goto 9, 0, 156, 0, 0, 0), (156, .iinc 5 1, 0, 0, 0, 1, 0), (159, .goto (-55), 0, 104, 0, 0, 0)]
theorem oX12_remembers_147 : bX12_remembers_147.all (mz_ok RX12 cX12_remembers 8) = true := by decide +kernel
def bX12_remembers_62 : List mz_E := [(62, .aload_n 0, 0, 0, 0, 0, 0), (63, .getfield 27, 12, 7, 1583, 0, 0), (66, .bipush 60, 0, 0, 0, 60, 0), (68, .iload_n 1, 0, 0, 0, 0, 0), (69, .imul, 0, 0, 0, 0, 0), (70, .iload_n 2, 0, 0, 0, 0, 0), (71, .iadd, 0, 0, 0, 0, 0), (72, .laload, 0, 0, 0, 0, 0), (73, .ldc2_w 417, 0, 0, 2242, 0, -9999999), (76, .ldc2_w 419, 0, 0, 2243, 0, 9999999)]
theorem oX12_remembers_62 : bX12_remembers_62.all (mz_ok RX12 cX12_remembers 8) = true := by decide +kernel
def bX12_remembers_82 : List mz_E := [(82, .ifCond .ne 9, 0, 91, 0, 0, 0)]
theorem oX12_remembers_82 : bX12_remembers_82.all (mz_ok RX12 cX12_remembers 8) = true := by decide +kernel
def bX12_remembers_85 : List mz_E := [(85, .aload_n 0, 0, 0, 0, 0, 0), (86, .iconst 5, 0, 0, 0, 5, 0)]
theorem oX12_remembers_85 : bX12_remembers_85.all (mz_ok RX12 cX12_remembers 8) = true := by decide +kernel
def bX12_remembers_91 : List mz_E := [(91, .iinc 2 1, 0, 0, 0, 1, 0), (94, .goto (-42), 0, 52, 0, 0, 0)]
theorem oX12_remembers_91 : bX12_remembers_91.all (mz_ok RX12 cX12_remembers 8) = true := by decide +kernel
def bX12_remembers_44 : List mz_E := [(44, .aload_n 0, 0, 0, 0, 0, 0), (45, .iconst 3, 0, 0, 0, 3, 0)]
theorem oX12_remembers_44 : bX12_remembers_44.all (mz_ok RX12 cX12_remembers 8) = true := by decide +kernel
abbrev IX12_remembers : mz_I := (yX12_remembers, cX12_remembers, 8, (some .int), 0, 2, 0, 0)
theorem kX12_remembers : mz_okm IX12_remembers 2241 141 2239 1 = true := by decide +kernel
theorem vX12_remembers : mz_okV IX12_remembers 2239 2240 = true := by decide +kernel
def fX12_remembers_104 : Nat → Int32 → Int32 → Int64 → Int32 → mz_D → Option (Int32 × mz_D)
  | 0 => fun _ _ _ _ _ => none
  | n + 1 => fun x1 x2 y3 x5 D => (if (D.1 0 201 ((0 : Int32)).toNatClampNeg) ≤ x5 then (Option.bind (fX12_orNone x2 D) fun q2 => (some (q2.1, q2.2))) else (mz_gd (mz_ix (((60 : Int32) * x1) + x5) 240) (Option.bind (fX12_balanceOf x5 D) fun q4 => (if 0 < (lg_cmp (fJ9_abs_067f4 ((D.2 0 205 ((((60 : Int32) * x1) + x5)).toNatClampNeg) - (q4).toInt64)) y3) then ((fX12_remembers_104 n) x1 x5 (fJ9_abs_067f4 ((D.2 0 205 ((((60 : Int32) * x1) + x5)).toNatClampNeg) - (q4).toInt64)) (x5 + (1 : Int32)) D) else ((fX12_remembers_104 n) x1 x2 y3 (x5 + (1 : Int32)) D)))))
set_option maxHeartbeats 4000000 in
theorem tX12_remembers_104 (r : (Int32 × mz_D)) : ∀ (n : Nat) (x1 : Int32) (x2 : Int32) (y3 : Int64) (x5 : Int32) (D : mz_D), fX12_remembers_104 n x1 x2 y3 x5 D = some r → mz_Go IX12_remembers (some (.inl r.1), r.2) 0 0 (104, [some (.inr (.inr (some (0, 200)))), some (.inl x1), some (.inl x2), some (.inr (.inl y3)), none, some (.inl x5), none, none], [], D) := by
  intro n
  induction n with
  | zero => intro x1 x2 y3 x5 D h; have h : (none : Option (Int32 × mz_D)) = some r := h; cases h
  | succ n ih =>
    intro x1 x2 y3 x5 D h
    rw [fX12_remembers_104] at h
    refine mz_Go.run (gs := [mz_kz 0 0 200, mz_kz 0 0 201, mz_ix (0 : Int32) 3000]) (st' := (if (D.1 0 201 ((0 : Int32)).toNatClampNeg) ≤ x5 then (162, [some (.inr (.inr (some (0, 200)))), some (.inl x1), some (.inl x2), some (.inr (.inl y3)), none, some (.inl x5), none, none], [], D) else (115, [some (.inr (.inr (some (0, 200)))), some (.inl x1), some (.inl x2), some (.inr (.inl y3)), none, some (.inl x5), none, none], [], D))) bX12_remembers_104 oX12_remembers_104 rfl ⟨rfl, rfl, (by decide), trivial⟩ ?_
    refine mz_Go.ite (fun hc1 => ?_) (fun hc1 => ?_)
    · have h := mz_ifp hc1 h
      refine mz_Go.run (gs := []) (st' := (164, [some (.inr (.inr (some (0, 200)))), some (.inl x1), some (.inl x2), some (.inr (.inl y3)), none, some (.inl x5), none, none], [.inl x2, .inr (.inr (some (0, 200)))], D)) bX12_remembers_162 oX12_remembers_162 rfl trivial ?_
      obtain ⟨q2, hq2, h⟩ := mz_bd_some h
      refine mz_Go.callV (I := IX12_remembers) (J := IX12_orNone) (as := [.inl x2]) (ci := 12) (g := 0) (o := 200) (idx := 291) (pl := 1906) (rest := []) (mX12_orNone x2 D q2 hq2) kX12_orNone vX12_orNone (by decide +kernel) (by decide +kernel) (by decide +kernel) rfl rfl ⟨rfl, rfl⟩ rfl rfl rfl rfl ?_
      cases h
      exact mz_Go.reti (by decide +kernel) rfl ⟨Nat.le_refl _, Nat.le_refl _⟩ rfl
    · have h := mz_ifn hc1 h
      obtain ⟨hb3, h⟩ := mz_gd_some h
      refine mz_Go.run (gs := [mz_kz 0 0 200, mz_kz 0 0 205, mz_ix (((60 : Int32) * x1) + x5) 240]) (st' := (130, [some (.inr (.inr (some (0, 200)))), some (.inl x1), some (.inl x2), some (.inr (.inl y3)), none, some (.inl x5), none, none], [.inl x5, .inr (.inr (some (0, 200))), .inr (.inl (D.2 0 205 ((((60 : Int32) * x1) + x5)).toNatClampNeg))], D)) bX12_remembers_115 oX12_remembers_115 rfl ⟨rfl, rfl, hb3, trivial⟩ ?_
      obtain ⟨q4, hq4, h⟩ := mz_bd_some h
      refine mz_Go.callV (I := IX12_remembers) (J := IX12_balanceOf) (as := [.inl x5]) (ci := 12) (g := 0) (o := 200) (idx := 319) (pl := 2024) (rest := [.inr (.inl (D.2 0 205 ((((60 : Int32) * x1) + x5)).toNatClampNeg))]) (mX12_balanceOf x5 D q4 hq4) kX12_balanceOf vX12_balanceOf (by decide +kernel) (by decide +kernel) (by decide +kernel) rfl rfl ⟨rfl, rfl⟩ rfl rfl rfl rfl ?_
      refine mz_Go.run (gs := []) (st' := (135, [some (.inr (.inr (some (0, 200)))), some (.inl x1), some (.inl x2), some (.inr (.inl y3)), none, some (.inl x5), none, none], [.inr (.inl ((D.2 0 205 ((((60 : Int32) * x1) + x5)).toNatClampNeg) - (q4).toInt64))], D)) bX12_remembers_133 oX12_remembers_133 rfl trivial ?_
      refine mz_Go.callS (I := IX12_remembers) (J := IJ9_abs_067f4) (as := [.inr (.inl ((D.2 0 205 ((((60 : Int32) * x1) + x5)).toNatClampNeg) - (q4).toInt64))]) (idx := 421) (pl := 2244) (rest := []) (mJ9_abs_067f4 ((D.2 0 205 ((((60 : Int32) * x1) + x5)).toNatClampNeg) - (q4).toInt64) D _ rfl) kJ9_abs_067f4 vJ9_abs_067f4 (by decide +kernel) (by decide +kernel) (by decide +kernel) rfl rfl ⟨rfl, rfl⟩ rfl ?_
      refine mz_Go.run (gs := []) (st' := (if 0 < (lg_cmp (fJ9_abs_067f4 ((D.2 0 205 ((((60 : Int32) * x1) + x5)).toNatClampNeg) - (q4).toInt64)) y3) then (150, [some (.inr (.inr (some (0, 200)))), some (.inl x1), some (.inl x2), some (.inr (.inl y3)), none, some (.inl x5), some (.inr (.inl (fJ9_abs_067f4 ((D.2 0 205 ((((60 : Int32) * x1) + x5)).toNatClampNeg) - (q4).toInt64)))), none], [], D) else (147, [some (.inr (.inr (some (0, 200)))), some (.inl x1), some (.inl x2), some (.inr (.inl y3)), none, some (.inl x5), some (.inr (.inl (fJ9_abs_067f4 ((D.2 0 205 ((((60 : Int32) * x1) + x5)).toNatClampNeg) - (q4).toInt64)))), none], [], D))) bX12_remembers_138 oX12_remembers_138 rfl trivial ?_
      refine mz_Go.ite (fun hc5 => ?_) (fun hc5 => ?_)
      · have h := mz_ifp hc5 h
        refine mz_Go.run (gs := []) (st' := (104, [some (.inr (.inr (some (0, 200)))), some (.inl x1), some (.inl x5), some (.inr (.inl (fJ9_abs_067f4 ((D.2 0 205 ((((60 : Int32) * x1) + x5)).toNatClampNeg) - (q4).toInt64)))), none, some (.inl (x5 + (1 : Int32))), some (.inr (.inl (fJ9_abs_067f4 ((D.2 0 205 ((((60 : Int32) * x1) + x5)).toNatClampNeg) - (q4).toInt64)))), none], [], D)) bX12_remembers_150 oX12_remembers_150 rfl trivial ?_
        exact mz_Go.drop [true, true, true, true, false, true, false, false] (ih x1 x5 (fJ9_abs_067f4 ((D.2 0 205 ((((60 : Int32) * x1) + x5)).toNatClampNeg) - (q4).toInt64)) (x5 + (1 : Int32)) D h)
      · have h := mz_ifn hc5 h
        refine mz_Go.run (gs := []) (st' := (104, [some (.inr (.inr (some (0, 200)))), some (.inl x1), some (.inl x2), some (.inr (.inl y3)), none, some (.inl (x5 + (1 : Int32))), some (.inr (.inl (fJ9_abs_067f4 ((D.2 0 205 ((((60 : Int32) * x1) + x5)).toNatClampNeg) - (q4).toInt64)))), none], [], D)) bX12_remembers_147 oX12_remembers_147 rfl trivial ?_
        exact mz_Go.drop [true, true, true, true, false, true, false, false] (ih x1 x2 y3 (x5 + (1 : Int32)) D h)
def fX12_remembers_52 : Nat → Int32 → Int32 → mz_D → Option (Int32 × mz_D)
  | 0 => fun _ _ _ => none
  | n + 1 => fun x1 x2 D => (if (D.1 0 201 ((0 : Int32)).toNatClampNeg) ≤ x2 then (fX12_remembers_104 mz_N x1 (-1 : Int32) (0 : Int64) (0 : Int32) D) else (mz_gd (mz_ix (((60 : Int32) * x1) + x2) 240) (if (fX12_isFrom (D.2 0 205 ((((60 : Int32) * x1) + x2)).toNatClampNeg) (-9999999 : Int64) (9999999 : Int64)) = 0 then (some ((-1 : Int32), (mz_wi D 0 200 2 (5 : Int32)))) else ((fX12_remembers_52 n) x1 (x2 + (1 : Int32)) D))))
set_option maxHeartbeats 4000000 in
theorem tX12_remembers_52 (r : (Int32 × mz_D)) : ∀ (n : Nat) (x1 : Int32) (x2 : Int32) (D : mz_D), fX12_remembers_52 n x1 x2 D = some r → mz_Go IX12_remembers (some (.inl r.1), r.2) 0 0 (52, [some (.inr (.inr (some (0, 200)))), some (.inl x1), some (.inl x2), none, none, none, none, none], [], D) := by
  intro n
  induction n with
  | zero => intro x1 x2 D h; have h : (none : Option (Int32 × mz_D)) = some r := h; cases h
  | succ n ih =>
    intro x1 x2 D h
    rw [fX12_remembers_52] at h
    refine mz_Go.run (gs := [mz_kz 0 0 200, mz_kz 0 0 201, mz_ix (0 : Int32) 3000]) (st' := (if (D.1 0 201 ((0 : Int32)).toNatClampNeg) ≤ x2 then (97, [some (.inr (.inr (some (0, 200)))), some (.inl x1), some (.inl x2), none, none, none, none, none], [], D) else (62, [some (.inr (.inr (some (0, 200)))), some (.inl x1), some (.inl x2), none, none, none, none, none], [], D))) bX12_remembers_52 oX12_remembers_52 rfl ⟨rfl, rfl, (by decide), trivial⟩ ?_
    refine mz_Go.ite (fun hc1 => ?_) (fun hc1 => ?_)
    · have h := mz_ifp hc1 h
      refine mz_Go.run (gs := []) (st' := (104, [some (.inr (.inr (some (0, 200)))), some (.inl x1), some (.inl (-1 : Int32)), some (.inr (.inl (0 : Int64))), none, some (.inl (0 : Int32)), none, none], [], D)) bX12_remembers_97 oX12_remembers_97 rfl trivial ?_
      exact mz_Go.drop [true, true, true, true, false, true, false, false] (tX12_remembers_104 r mz_N x1 (-1 : Int32) (0 : Int64) (0 : Int32) D h)
    · have h := mz_ifn hc1 h
      obtain ⟨hb2, h⟩ := mz_gd_some h
      refine mz_Go.run (gs := [mz_kz 0 0 200, mz_kz 0 0 205, mz_ix (((60 : Int32) * x1) + x2) 240]) (st' := (79, [some (.inr (.inr (some (0, 200)))), some (.inl x1), some (.inl x2), none, none, none, none, none], [.inr (.inl (9999999 : Int64)), .inr (.inl (-9999999 : Int64)), .inr (.inl (D.2 0 205 ((((60 : Int32) * x1) + x2)).toNatClampNeg))], D)) bX12_remembers_62 oX12_remembers_62 rfl ⟨rfl, rfl, hb2, trivial⟩ ?_
      refine mz_Go.callS (I := IX12_remembers) (J := IX12_isFrom) (as := [.inr (.inl (D.2 0 205 ((((60 : Int32) * x1) + x2)).toNatClampNeg)), .inr (.inl (-9999999 : Int64)), .inr (.inl (9999999 : Int64))]) (idx := 302) (pl := 1974) (rest := []) (mX12_isFrom (D.2 0 205 ((((60 : Int32) * x1) + x2)).toNatClampNeg) (-9999999 : Int64) (9999999 : Int64) D _ rfl) kX12_isFrom vX12_isFrom (by decide +kernel) (by decide +kernel) (by decide +kernel) rfl rfl ⟨rfl, rfl⟩ rfl ?_
      refine mz_Go.run (gs := []) (st' := (if (fX12_isFrom (D.2 0 205 ((((60 : Int32) * x1) + x2)).toNatClampNeg) (-9999999 : Int64) (9999999 : Int64)) = 0 then (85, [some (.inr (.inr (some (0, 200)))), some (.inl x1), some (.inl x2), none, none, none, none, none], [], D) else (91, [some (.inr (.inr (some (0, 200)))), some (.inl x1), some (.inl x2), none, none, none, none, none], [], D))) bX12_remembers_82 oX12_remembers_82 rfl trivial ?_
      refine mz_Go.ite (fun hc3 => ?_) (fun hc3 => ?_)
      · have h := mz_ifp hc3 h
        refine mz_Go.run (gs := []) (st' := (87, [some (.inr (.inr (some (0, 200)))), some (.inl x1), some (.inl x2), none, none, none, none, none], [.inl (5 : Int32), .inr (.inr (some (0, 200)))], D)) bX12_remembers_85 oX12_remembers_85 rfl trivial ?_
        refine mz_Go.callV (I := IX12_remembers) (J := IX12_refuse) (as := [.inl (5 : Int32)]) (ci := 12) (g := 0) (o := 200) (idx := 75) (pl := 1761) (rest := []) (mX12_refuse (5 : Int32) D) kX12_refuse vX12_refuse (by decide +kernel) (by decide +kernel) (by decide +kernel) rfl rfl ⟨rfl, rfl⟩ rfl rfl rfl rfl ?_
        cases h
        exact mz_Go.reti (by decide +kernel) rfl ⟨Nat.le_refl _, Nat.le_refl _⟩ rfl
      · have h := mz_ifn hc3 h
        refine mz_Go.run (gs := []) (st' := (52, [some (.inr (.inr (some (0, 200)))), some (.inl x1), some (.inl (x2 + (1 : Int32))), none, none, none, none, none], [], D)) bX12_remembers_91 oX12_remembers_91 rfl trivial ?_
        exact mz_Go.drop [true, true, true, false, false, false, false, false] (ih x1 (x2 + (1 : Int32)) D h)
def fX12_remembers (x1 : Int32) (D : mz_D) : Option (Int32 × mz_D) := (if (fX12_isTray x1) = 0 then (some ((-1 : Int32), (mz_wi D 0 200 2 (1 : Int32)))) else (mz_gd (mz_ix x1 4) (if (D.1 0 204 (x1).toNatClampNeg) = (-1 : Int32) then (some ((-1 : Int32), (mz_wi D 0 200 2 (2 : Int32)))) else (if (D.1 0 201 ((0 : Int32)).toNatClampNeg) ≤ (D.1 0 204 (x1).toNatClampNeg) then (fX12_remembers_52 mz_N x1 (0 : Int32) D) else (some ((-1 : Int32), (mz_wi D 0 200 2 (3 : Int32))))))))
set_option maxHeartbeats 4000000 in
theorem mX12_remembers (x1 : Int32) (D : mz_D) (r : (Int32 × mz_D)) (h : fX12_remembers x1 D = some r) : mz_Met IX12_remembers [.inr (.inr (some (0, 200))), .inl x1] D (some (.inl r.1), r.2) := by
  refine mz_Met.of (by decide +kernel) (Nat.le_of_ble_eq_true rfl) ?_
  show mz_Go IX12_remembers (some (.inl r.1), r.2) 0 0 (0, [some (.inr (.inr (some (0, 200)))), some (.inl x1), none, none, none, none, none, none], [], D)
  rw [fX12_remembers] at h
  refine mz_Go.run (gs := []) (st' := (1, [some (.inr (.inr (some (0, 200)))), some (.inl x1), none, none, none, none, none, none], [.inl x1], D)) bX12_remembers_0 oX12_remembers_0 rfl trivial ?_
  refine mz_Go.callS (I := IX12_remembers) (J := IX12_isTray) (as := [.inl x1]) (idx := 86) (pl := 1698) (rest := []) (mX12_isTray x1 D _ rfl) kX12_isTray vX12_isTray (by decide +kernel) (by decide +kernel) (by decide +kernel) rfl rfl ⟨rfl, rfl⟩ rfl ?_
  refine mz_Go.run (gs := []) (st' := (if (fX12_isTray x1) = 0 then (7, [some (.inr (.inr (some (0, 200)))), some (.inl x1), none, none, none, none, none, none], [], D) else (13, [some (.inr (.inr (some (0, 200)))), some (.inl x1), none, none, none, none, none, none], [], D))) bX12_remembers_4 oX12_remembers_4 rfl trivial ?_
  refine mz_Go.ite (fun hc1 => ?_) (fun hc1 => ?_)
  · have h := mz_ifp hc1 h
    refine mz_Go.run (gs := []) (st' := (9, [some (.inr (.inr (some (0, 200)))), some (.inl x1), none, none, none, none, none, none], [.inl (1 : Int32), .inr (.inr (some (0, 200)))], D)) bX12_remembers_7 oX12_remembers_7 rfl trivial ?_
    refine mz_Go.callV (I := IX12_remembers) (J := IX12_refuse) (as := [.inl (1 : Int32)]) (ci := 12) (g := 0) (o := 200) (idx := 75) (pl := 1761) (rest := []) (mX12_refuse (1 : Int32) D) kX12_refuse vX12_refuse (by decide +kernel) (by decide +kernel) (by decide +kernel) rfl rfl ⟨rfl, rfl⟩ rfl rfl rfl rfl ?_
    cases h
    exact mz_Go.reti (by decide +kernel) rfl ⟨Nat.le_refl _, Nat.le_refl _⟩ rfl
  · have h := mz_ifn hc1 h
    obtain ⟨hb2, h⟩ := mz_gd_some h
    refine mz_Go.run (gs := [mz_kz 0 0 200, mz_kz 0 0 204, mz_ix x1 4]) (st' := (if (D.1 0 204 (x1).toNatClampNeg) = (-1 : Int32) then (23, [some (.inr (.inr (some (0, 200)))), some (.inl x1), none, none, none, none, none, none], [], D) else (29, [some (.inr (.inr (some (0, 200)))), some (.inl x1), none, none, none, none, none, none], [], D))) bX12_remembers_13 oX12_remembers_13 rfl ⟨rfl, rfl, hb2, trivial⟩ ?_
    refine mz_Go.ite (fun hc3 => ?_) (fun hc3 => ?_)
    · have h := mz_ifp hc3 h
      refine mz_Go.run (gs := []) (st' := (25, [some (.inr (.inr (some (0, 200)))), some (.inl x1), none, none, none, none, none, none], [.inl (2 : Int32), .inr (.inr (some (0, 200)))], D)) bX12_remembers_23 oX12_remembers_23 rfl trivial ?_
      refine mz_Go.callV (I := IX12_remembers) (J := IX12_refuse) (as := [.inl (2 : Int32)]) (ci := 12) (g := 0) (o := 200) (idx := 75) (pl := 1761) (rest := []) (mX12_refuse (2 : Int32) D) kX12_refuse vX12_refuse (by decide +kernel) (by decide +kernel) (by decide +kernel) rfl rfl ⟨rfl, rfl⟩ rfl rfl rfl rfl ?_
      cases h
      exact mz_Go.reti (by decide +kernel) rfl ⟨Nat.le_refl _, Nat.le_refl _⟩ rfl
    · have h := mz_ifn hc3 h
      refine mz_Go.run (gs := [mz_kz 0 0 200, mz_kz 0 0 204, mz_ix x1 4, mz_kz 0 0 200, mz_kz 0 0 201, mz_ix (0 : Int32) 3000]) (st' := (if (D.1 0 201 ((0 : Int32)).toNatClampNeg) ≤ (D.1 0 204 (x1).toNatClampNeg) then (50, [some (.inr (.inr (some (0, 200)))), some (.inl x1), none, none, none, none, none, none], [], D) else (44, [some (.inr (.inr (some (0, 200)))), some (.inl x1), none, none, none, none, none, none], [], D))) bX12_remembers_29 oX12_remembers_29 rfl ⟨rfl, rfl, hb2, rfl, rfl, (by decide), trivial⟩ ?_
      refine mz_Go.ite (fun hc4 => ?_) (fun hc4 => ?_)
      · have h := mz_ifp hc4 h
        refine mz_Go.run (gs := []) (st' := (52, [some (.inr (.inr (some (0, 200)))), some (.inl x1), some (.inl (0 : Int32)), none, none, none, none, none], [], D)) bX12_remembers_50 oX12_remembers_50 rfl trivial ?_
        exact mz_Go.drop [true, true, true, false, false, false, false, false] (tX12_remembers_52 r mz_N x1 (0 : Int32) D h)
      · have h := mz_ifn hc4 h
        refine mz_Go.run (gs := []) (st' := (46, [some (.inr (.inr (some (0, 200)))), some (.inl x1), none, none, none, none, none, none], [.inl (3 : Int32), .inr (.inr (some (0, 200)))], D)) bX12_remembers_44 oX12_remembers_44 rfl trivial ?_
        refine mz_Go.callV (I := IX12_remembers) (J := IX12_refuse) (as := [.inl (3 : Int32)]) (ci := 12) (g := 0) (o := 200) (idx := 75) (pl := 1761) (rest := []) (mX12_refuse (3 : Int32) D) kX12_refuse vX12_refuse (by decide +kernel) (by decide +kernel) (by decide +kernel) rfl rfl ⟨rfl, rfl⟩ rfl rfl rfl rfl ?_
        cases h
        exact mz_Go.reti (by decide +kernel) rfl ⟨Nat.le_refl _, Nat.le_refl _⟩ rfl
def bX12_draw_0 : List mz_E := [(0, .aload_n 0, 0, 0, 0, 0, 0), (1, .aload_n 0, 0, 0, 0, 0, 0), (2, .getfield 424, 12, 28, 1604, 0, 0), (5, .sipush 2917, 0, 0, 0, 2917, 0), (8, .imul, 0, 0, 0, 0, 0), (9, .sipush 11119, 0, 0, 0, 11119, 0), (12, .iadd, 0, 0, 0, 0, 0), (13, .ldc_w 427, 0, 0, 2265, 65536, 0), (16, .irem, 0, 0, 0, 0, 0), (17, .putfield 424, 12, 28, 1604, 0, 0), (20, .aload_n 0, 0, 0, 0, 0, 0), (21, .getfield 424, 12, 28, 1604, 0, 0), (24, .bipush 8, 0, 0, 0, 8, 0), (26, .idiv, 0, 0, 0, 0, 0), (27, .iload_n 1, 0, 0, 0, 0, 0), (28, .irem, 0, 0, 0, 0, 0)]
theorem oX12_draw_0 : bX12_draw_0.all (mz_ok RX12 cX12_draw 2) = true := by decide +kernel
abbrev IX12_draw : mz_I := (yX12_draw, cX12_draw, 2, (some .int), 0, 0, 0, 0)
theorem kX12_draw : mz_okm IX12_draw 2264 141 2263 1 = true := by decide +kernel
theorem vX12_draw : mz_okV IX12_draw 2263 119 = true := by decide +kernel
def fX12_draw (x1 : Int32) (D : mz_D) : Option (Int32 × mz_D) := (mz_gd (mz_nz x1) (some (((((((D.1 0 200 28) * (2917 : Int32)) + (11119 : Int32)) - (((D.1 0 200 28) * (2917 : Int32)) + (11119 : Int32)) / (65536 : Int32) * (65536 : Int32)) / (8 : Int32)) - (((((D.1 0 200 28) * (2917 : Int32)) + (11119 : Int32)) - (((D.1 0 200 28) * (2917 : Int32)) + (11119 : Int32)) / (65536 : Int32) * (65536 : Int32)) / (8 : Int32)) / x1 * x1), (mz_wi D 0 200 28 ((((D.1 0 200 28) * (2917 : Int32)) + (11119 : Int32)) - (((D.1 0 200 28) * (2917 : Int32)) + (11119 : Int32)) / (65536 : Int32) * (65536 : Int32))))))
set_option maxHeartbeats 4000000 in
theorem mX12_draw (x1 : Int32) (D : mz_D) (r : (Int32 × mz_D)) (h : fX12_draw x1 D = some r) : mz_Met IX12_draw [.inr (.inr (some (0, 200))), .inl x1] D (some (.inl r.1), r.2) := by
  refine mz_Met.of (by decide +kernel) (Nat.le_of_ble_eq_true rfl) ?_
  show mz_Go IX12_draw (some (.inl r.1), r.2) 0 0 (0, [some (.inr (.inr (some (0, 200)))), some (.inl x1)], [], D)
  rw [fX12_draw] at h
  obtain ⟨hb1, h⟩ := mz_gd_some h
  refine mz_Go.run (gs := [mz_kz 0 0 200, mz_nz (65536 : Int32), mz_kz 0 0 200, mz_kz 0 0 200, mz_nz (8 : Int32), mz_nz x1]) (st' := (29, [some (.inr (.inr (some (0, 200)))), some (.inl x1)], [.inl ((((((D.1 0 200 28) * (2917 : Int32)) + (11119 : Int32)) - (((D.1 0 200 28) * (2917 : Int32)) + (11119 : Int32)) / (65536 : Int32) * (65536 : Int32)) / (8 : Int32)) - (((((D.1 0 200 28) * (2917 : Int32)) + (11119 : Int32)) - (((D.1 0 200 28) * (2917 : Int32)) + (11119 : Int32)) / (65536 : Int32) * (65536 : Int32)) / (8 : Int32)) / x1 * x1)], (mz_wi D 0 200 28 ((((D.1 0 200 28) * (2917 : Int32)) + (11119 : Int32)) - (((D.1 0 200 28) * (2917 : Int32)) + (11119 : Int32)) / (65536 : Int32) * (65536 : Int32))))) bX12_draw_0 oX12_draw_0 rfl ⟨rfl, (by decide), rfl, rfl, (by decide), hb1, trivial⟩ ?_
  cases h
  exact mz_Go.reti (by decide +kernel) rfl ⟨Nat.le_refl _, Nat.le_refl _⟩ rfl
def bX12_dines_0 : List mz_E := [(0, .aload_n 0, 0, 0, 0, 0, 0), (1, .iload_n 1, 0, 0, 0, 0, 0)]
theorem oX12_dines_0 : bX12_dines_0.all (mz_ok RX12 cX12_dines 2) = true := by decide +kernel
def bX12_dines_5 : List mz_E := [(5, .ifCond .ne 5, 0, 10, 0, 0, 0)]
theorem oX12_dines_5 : bX12_dines_5.all (mz_ok RX12 cX12_dines 2) = true := by decide +kernel
def bX12_dines_8 : List mz_E := [(8, .iconst 0, 0, 0, 0, 0, 0)]
theorem oX12_dines_8 : bX12_dines_8.all (mz_ok RX12 cX12_dines 2) = true := by decide +kernel
def bX12_dines_10 : List mz_E := [(10, .aload_n 0, 0, 0, 0, 0, 0), (11, .getfield 59, 12, 31, 1607, 0, 0), (14, .iconst 1, 0, 0, 0, 1, 0), (15, .dup2, 0, 0, 0, 0, 0), (16, .iaload, 0, 0, 0, 0, 0), (17, .iconst 1, 0, 0, 0, 1, 0), (18, .iadd, 0, 0, 0, 0, 0), (19, .iastore, 0, 0, 0, 0, 0), (20, .iconst 1, 0, 0, 0, 1, 0)]
theorem oX12_dines_10 : bX12_dines_10.all (mz_ok RX12 cX12_dines 2) = true := by decide +kernel
abbrev IX12_dines : mz_I := (yX12_dines, cX12_dines, 2, (some .boolean), 0, 5, 0, 0)
theorem kX12_dines : mz_okm IX12_dines 2269 141 2268 1 = true := by decide +kernel
theorem vX12_dines : mz_okV IX12_dines 2268 120 = true := by decide +kernel
def fX12_dines (x1 : Int32) (D : mz_D) : Option (Int32 × mz_D) := (Option.bind (fX12_pays x1 D) fun q1 => (if q1.1 = 0 then (some ((0 : Int32), q1.2)) else (some ((1 : Int32), (mz_wi q1.2 0 213 ((1 : Int32)).toNatClampNeg ((q1.2.1 0 213 ((1 : Int32)).toNatClampNeg) + (1 : Int32)))))))
set_option maxHeartbeats 4000000 in
theorem mX12_dines (x1 : Int32) (D : mz_D) (r : (Int32 × mz_D)) (h : fX12_dines x1 D = some r) : mz_Met IX12_dines [.inr (.inr (some (0, 200))), .inl x1] D (some (.inl r.1), r.2) := by
  refine mz_Met.of (by decide +kernel) (Nat.le_of_ble_eq_true rfl) ?_
  show mz_Go IX12_dines (some (.inl r.1), r.2) 0 0 (0, [some (.inr (.inr (some (0, 200)))), some (.inl x1)], [], D)
  rw [fX12_dines] at h
  refine mz_Go.run (gs := []) (st' := (2, [some (.inr (.inr (some (0, 200)))), some (.inl x1)], [.inl x1, .inr (.inr (some (0, 200)))], D)) bX12_dines_0 oX12_dines_0 rfl trivial ?_
  obtain ⟨q1, hq1, h⟩ := mz_bd_some h
  refine mz_Go.callV (I := IX12_dines) (J := IX12_pays) (as := [.inl x1]) (ci := 12) (g := 0) (o := 200) (idx := 316) (pl := 2004) (rest := []) (mX12_pays x1 D q1 hq1) kX12_pays vX12_pays (by decide +kernel) (by decide +kernel) (by decide +kernel) rfl rfl ⟨rfl, rfl⟩ rfl rfl rfl rfl ?_
  refine mz_Go.run (gs := []) (st' := (if q1.1 = 0 then (8, [some (.inr (.inr (some (0, 200)))), some (.inl x1)], [], q1.2) else (10, [some (.inr (.inr (some (0, 200)))), some (.inl x1)], [], q1.2))) bX12_dines_5 oX12_dines_5 rfl trivial ?_
  refine mz_Go.ite (fun hc2 => ?_) (fun hc2 => ?_)
  · have h := mz_ifp hc2 h
    refine mz_Go.run (gs := []) (st' := (9, [some (.inr (.inr (some (0, 200)))), some (.inl x1)], [.inl (0 : Int32)], q1.2)) bX12_dines_8 oX12_dines_8 rfl trivial ?_
    cases h
    exact mz_Go.retz (by decide +kernel) rfl ⟨Nat.le_refl _, Nat.le_refl _⟩ (by decide) rfl
  · have h := mz_ifn hc2 h
    refine mz_Go.run (gs := [mz_kz 0 0 200, mz_kz 0 0 213, mz_ix (1 : Int32) 5, mz_kz 0 0 213, mz_ix (1 : Int32) 5]) (st' := (21, [some (.inr (.inr (some (0, 200)))), some (.inl x1)], [.inl (1 : Int32)], (mz_wi q1.2 0 213 ((1 : Int32)).toNatClampNeg ((q1.2.1 0 213 ((1 : Int32)).toNatClampNeg) + (1 : Int32))))) bX12_dines_10 oX12_dines_10 rfl ⟨rfl, rfl, (by decide), rfl, (by decide), trivial⟩ ?_
    cases h
    exact mz_Go.retz (by decide +kernel) rfl ⟨Nat.le_refl _, Nat.le_refl _⟩ (by decide) rfl
def bX12_reaches_0 : List mz_E := [(0, .aload_n 0, 0, 0, 0, 0, 0), (1, .aload_n 0, 0, 0, 0, 0, 0)]
theorem oX12_reaches_0 : bX12_reaches_0.all (mz_ok RX12 cX12_reaches 4) = true := by decide +kernel
def bX12_reaches_8 : List mz_E := [(8, .istore_n 1, 0, 0, 0, 0, 0), (9, .iload_n 1, 0, 0, 0, 0, 0), (10, .ifCond .ne 5, 0, 15, 0, 0, 0)]
theorem oX12_reaches_8 : bX12_reaches_8.all (mz_ok RX12 cX12_reaches 4) = true := by decide +kernel
def bX12_reaches_13 : List mz_E := [(13, .iconst 0, 0, 0, 0, 0, 0)]
theorem oX12_reaches_13 : bX12_reaches_13.all (mz_ok RX12 cX12_reaches 4) = true := by decide +kernel
def bX12_reaches_15 : List mz_E := [(15, .aload_n 0, 0, 0, 0, 0, 0), (16, .iload_n 1, 0, 0, 0, 0, 0)]
theorem oX12_reaches_15 : bX12_reaches_15.all (mz_ok RX12 cX12_reaches 4) = true := by decide +kernel
def bX12_reaches_20 : List mz_E := [(20, .istore_n 2, 0, 0, 0, 0, 0), (21, .iconst 0, 0, 0, 0, 0, 0), (22, .istore_n 3, 0, 0, 0, 0, 0)]
theorem oX12_reaches_20 : bX12_reaches_20.all (mz_ok RX12 cX12_reaches 4) = true := by decide +kernel
def bX12_reaches_23 : List mz_E := [(23, .iload_n 2, 0, 0, 0, 0, 0), (24, .aload_n 0, 0, 0, 0, 0, 0), (25, .getfield 7, 12, 0, 1576, 0, 0), (28, .iload_n 3, 0, 0, 0, 0, 0)]
theorem oX12_reaches_23 : bX12_reaches_23.all (mz_ok RX12 cX12_reaches 4) = true := by decide +kernel
def bX12_reaches_32 : List mz_E := [(32, .iconst 1, 0, 0, 0, 1, 0), (33, .iadd, 0, 0, 0, 0, 0), (34, .iaload, 0, 0, 0, 0, 0), (35, .if_icmp .lt 23, 0, 58, 0, 0, 0)]
theorem oX12_reaches_32 : bX12_reaches_32.all (mz_ok RX12 cX12_reaches 4) = true := by decide +kernel
def bX12_reaches_58 : List mz_E := [(58, .aload_n 0, 0, 0, 0, 0, 0), (59, .iload_n 3, 0, 0, 0, 0, 0)]
theorem oX12_reaches_58 : bX12_reaches_58.all (mz_ok RX12 cX12_reaches 4) = true := by decide +kernel
def bX12_reaches_38 : List mz_E := [(38, .iload_n 2, 0, 0, 0, 0, 0), (39, .aload_n 0, 0, 0, 0, 0, 0), (40, .getfield 7, 12, 0, 1576, 0, 0), (43, .iload_n 3, 0, 0, 0, 0, 0)]
theorem oX12_reaches_38 : bX12_reaches_38.all (mz_ok RX12 cX12_reaches 4) = true := by decide +kernel
def bX12_reaches_47 : List mz_E := [(47, .iconst 1, 0, 0, 0, 1, 0), (48, .iadd, 0, 0, 0, 0, 0), (49, .iaload, 0, 0, 0, 0, 0), (50, .isub, 0, 0, 0, 0, 0), (51, .istore_n 2, 0, 0, 0, 0, 0), (52, .iinc 3 1, 0, 0, 0, 1, 0), (55, .goto (-32), 0, 23, 0, 0, 0)]
theorem oX12_reaches_47 : bX12_reaches_47.all (mz_ok RX12 cX12_reaches 4) = true := by decide +kernel
abbrev IX12_reaches : mz_I := (yX12_reaches, cX12_reaches, 4, (some .boolean), 0, 6, 0, 0)
theorem kX12_reaches : mz_okm IX12_reaches 2260 141 2259 0 = true := by decide +kernel
theorem vX12_reaches : mz_okV IX12_reaches 2259 118 = true := by decide +kernel
def fX12_reaches_23 : Nat → Int32 → Int32 → mz_D → Option (Int32 × mz_D)
  | 0 => fun _ _ _ => none
  | n + 1 => fun x2 x3 D => (mz_gd (mz_ix (((12 : Int32) + ((8 : Int32) * x3)) + (1 : Int32)) 3000) (if x2 < (D.1 0 201 ((((12 : Int32) + ((8 : Int32) * x3)) + (1 : Int32))).toNatClampNeg) then (Option.bind (fX12_dines x3 D) fun q3 => (mz_gd (mz_bo q3.1) (some (q3.1, q3.2)))) else ((fX12_reaches_23 n) (x2 - (D.1 0 201 ((((12 : Int32) + ((8 : Int32) * x3)) + (1 : Int32))).toNatClampNeg)) (x3 + (1 : Int32)) D)))
set_option maxHeartbeats 4000000 in
theorem tX12_reaches_23 (r : (Int32 × mz_D)) : ∀ (n : Nat) (x2 : Int32) (x3 : Int32) (D : mz_D), fX12_reaches_23 n x2 x3 D = some r → mz_Go IX12_reaches (some (.inl r.1), r.2) 0 0 (23, [some (.inr (.inr (some (0, 200)))), none, some (.inl x2), some (.inl x3)], [], D) := by
  intro n
  induction n with
  | zero => intro x2 x3 D h; have h : (none : Option (Int32 × mz_D)) = some r := h; cases h
  | succ n ih =>
    intro x2 x3 D h
    rw [fX12_reaches_23] at h
    refine mz_Go.run (gs := [mz_kz 0 0 200]) (st' := (29, [some (.inr (.inr (some (0, 200)))), none, some (.inl x2), some (.inl x3)], [.inl x3, .inr (.inr (some (0, 201))), .inl x2], D)) bX12_reaches_23 oX12_reaches_23 rfl ⟨rfl, trivial⟩ ?_
    refine mz_Go.callS (I := IX12_reaches) (J := IX12_personRow) (as := [.inl x3]) (idx := 267) (pl := 1895) (rest := [.inr (.inr (some (0, 201))), .inl x2]) (mX12_personRow x3 D) kX12_personRow vX12_personRow (by decide +kernel) (by decide +kernel) (by decide +kernel) rfl rfl ⟨rfl, rfl⟩ rfl ?_
    obtain ⟨hb1, h⟩ := mz_gd_some h
    refine mz_Go.run (gs := [mz_kz 0 0 201, mz_ix (((12 : Int32) + ((8 : Int32) * x3)) + (1 : Int32)) 3000]) (st' := (if x2 < (D.1 0 201 ((((12 : Int32) + ((8 : Int32) * x3)) + (1 : Int32))).toNatClampNeg) then (58, [some (.inr (.inr (some (0, 200)))), none, some (.inl x2), some (.inl x3)], [], D) else (38, [some (.inr (.inr (some (0, 200)))), none, some (.inl x2), some (.inl x3)], [], D))) bX12_reaches_32 oX12_reaches_32 rfl ⟨rfl, hb1, trivial⟩ ?_
    refine mz_Go.ite (fun hc2 => ?_) (fun hc2 => ?_)
    · have h := mz_ifp hc2 h
      refine mz_Go.run (gs := []) (st' := (60, [some (.inr (.inr (some (0, 200)))), none, some (.inl x2), some (.inl x3)], [.inl x3, .inr (.inr (some (0, 200)))], D)) bX12_reaches_58 oX12_reaches_58 rfl trivial ?_
      obtain ⟨q3, hq3, h⟩ := mz_bd_some h
      refine mz_Go.callV (I := IX12_reaches) (J := IX12_dines) (as := [.inl x3]) (ci := 12) (g := 0) (o := 200) (idx := 431) (pl := 2266) (rest := []) (mX12_dines x3 D q3 hq3) kX12_dines vX12_dines (by decide +kernel) (by decide +kernel) (by decide +kernel) rfl rfl ⟨rfl, rfl⟩ rfl rfl rfl rfl ?_
      obtain ⟨hb4, h⟩ := mz_gd_some h
      cases h
      exact mz_Go.retz (by decide +kernel) rfl ⟨Nat.le_refl _, Nat.le_refl _⟩ hb4 rfl
    · have h := mz_ifn hc2 h
      refine mz_Go.run (gs := [mz_kz 0 0 200]) (st' := (44, [some (.inr (.inr (some (0, 200)))), none, some (.inl x2), some (.inl x3)], [.inl x3, .inr (.inr (some (0, 201))), .inl x2], D)) bX12_reaches_38 oX12_reaches_38 rfl ⟨rfl, trivial⟩ ?_
      refine mz_Go.callS (I := IX12_reaches) (J := IX12_personRow) (as := [.inl x3]) (idx := 267) (pl := 1895) (rest := [.inr (.inr (some (0, 201))), .inl x2]) (mX12_personRow x3 D) kX12_personRow vX12_personRow (by decide +kernel) (by decide +kernel) (by decide +kernel) rfl rfl ⟨rfl, rfl⟩ rfl ?_
      refine mz_Go.run (gs := [mz_kz 0 0 201, mz_ix (((12 : Int32) + ((8 : Int32) * x3)) + (1 : Int32)) 3000]) (st' := (23, [some (.inr (.inr (some (0, 200)))), none, some (.inl (x2 - (D.1 0 201 ((((12 : Int32) + ((8 : Int32) * x3)) + (1 : Int32))).toNatClampNeg))), some (.inl (x3 + (1 : Int32)))], [], D)) bX12_reaches_47 oX12_reaches_47 rfl ⟨rfl, hb1, trivial⟩ ?_
      exact mz_Go.drop [true, false, true, true] (ih (x2 - (D.1 0 201 ((((12 : Int32) + ((8 : Int32) * x3)) + (1 : Int32))).toNatClampNeg)) (x3 + (1 : Int32)) D h)
def fX12_reaches (D : mz_D) : Option (Int32 × mz_D) := (Option.bind (fX12_quickOf (((1 : Int32) <<< ((D.1 0 201 ((0 : Int32)).toNatClampNeg) &&& 31)) - (1 : Int32)) D) fun q1 => (if q1 = 0 then (some ((0 : Int32), D)) else (Option.bind (fX12_draw q1 D) fun q3 => (fX12_reaches_23 mz_N q3.1 (0 : Int32) q3.2))))
set_option maxHeartbeats 4000000 in
theorem mX12_reaches (D : mz_D) (r : (Int32 × mz_D)) (h : fX12_reaches D = some r) : mz_Met IX12_reaches [.inr (.inr (some (0, 200)))] D (some (.inl r.1), r.2) := by
  refine mz_Met.of (by decide +kernel) (Nat.le_of_ble_eq_true rfl) ?_
  show mz_Go IX12_reaches (some (.inl r.1), r.2) 0 0 (0, [some (.inr (.inr (some (0, 200)))), none, none, none], [], D)
  rw [fX12_reaches] at h
  refine mz_Go.run (gs := []) (st' := (2, [some (.inr (.inr (some (0, 200)))), none, none, none], [.inr (.inr (some (0, 200))), .inr (.inr (some (0, 200)))], D)) bX12_reaches_0 oX12_reaches_0 rfl trivial ?_
  refine mz_Go.callV (I := IX12_reaches) (J := IX12_everybody) (as := []) (ci := 12) (g := 0) (o := 200) (idx := 251) (pl := 1884) (rest := [.inr (.inr (some (0, 200)))]) (mX12_everybody D) kX12_everybody vX12_everybody (by decide +kernel) (by decide +kernel) (by decide +kernel) rfl rfl ⟨rfl, rfl⟩ rfl rfl rfl rfl ?_
  obtain ⟨q1, hq1, h⟩ := mz_bd_some h
  refine mz_Go.callV (I := IX12_reaches) (J := IX12_quickOf) (as := [.inl (((1 : Int32) <<< ((D.1 0 201 ((0 : Int32)).toNatClampNeg) &&& 31)) - (1 : Int32))]) (ci := 12) (g := 0) (o := 200) (idx := 351) (pl := 2074) (rest := []) (mX12_quickOf (((1 : Int32) <<< ((D.1 0 201 ((0 : Int32)).toNatClampNeg) &&& 31)) - (1 : Int32)) D q1 hq1) kX12_quickOf vX12_quickOf (by decide +kernel) (by decide +kernel) (by decide +kernel) rfl rfl ⟨rfl, rfl⟩ rfl rfl rfl rfl ?_
  refine mz_Go.run (gs := []) (st' := (if q1 = 0 then (13, [some (.inr (.inr (some (0, 200)))), some (.inl q1), none, none], [], D) else (15, [some (.inr (.inr (some (0, 200)))), some (.inl q1), none, none], [], D))) bX12_reaches_8 oX12_reaches_8 rfl trivial ?_
  refine mz_Go.ite (fun hc2 => ?_) (fun hc2 => ?_)
  · have h := mz_ifp hc2 h
    refine mz_Go.run (gs := []) (st' := (14, [some (.inr (.inr (some (0, 200)))), some (.inl q1), none, none], [.inl (0 : Int32)], D)) bX12_reaches_13 oX12_reaches_13 rfl trivial ?_
    cases h
    exact mz_Go.retz (by decide +kernel) rfl ⟨Nat.le_refl _, Nat.le_refl _⟩ (by decide) rfl
  · have h := mz_ifn hc2 h
    refine mz_Go.run (gs := []) (st' := (17, [some (.inr (.inr (some (0, 200)))), some (.inl q1), none, none], [.inl q1, .inr (.inr (some (0, 200)))], D)) bX12_reaches_15 oX12_reaches_15 rfl trivial ?_
    obtain ⟨q3, hq3, h⟩ := mz_bd_some h
    refine mz_Go.callV (I := IX12_reaches) (J := IX12_draw) (as := [.inl q1]) (ci := 12) (g := 0) (o := 200) (idx := 428) (pl := 2261) (rest := []) (mX12_draw q1 D q3 hq3) kX12_draw vX12_draw (by decide +kernel) (by decide +kernel) (by decide +kernel) rfl rfl ⟨rfl, rfl⟩ rfl rfl rfl rfl ?_
    refine mz_Go.run (gs := []) (st' := (23, [some (.inr (.inr (some (0, 200)))), some (.inl q1), some (.inl q3.1), some (.inl (0 : Int32))], [], q3.2)) bX12_reaches_20 oX12_reaches_20 rfl trivial ?_
    exact mz_Go.drop [true, false, true, true] (tX12_reaches_23 r mz_N q3.1 (0 : Int32) q3.2 h)
def bX12_duels_0 : List mz_E := [(0, .iconst 0, 0, 0, 0, 0, 0), (1, .istore_n 3, 0, 0, 0, 0, 0)]
theorem oX12_duels_0 : bX12_duels_0.all (mz_ok RX12 cX12_duels 5) = true := by decide +kernel
def bX12_duels_2 : List mz_E := [(2, .iload_n 3, 0, 0, 0, 0, 0), (3, .bipush 20, 0, 0, 0, 20, 0), (5, .if_icmp .ge 50, 0, 55, 0, 0, 0)]
theorem oX12_duels_2 : bX12_duels_2.all (mz_ok RX12 cX12_duels 5) = true := by decide +kernel
def bX12_duels_55 : List mz_E := [(55, .aload_n 0, 0, 0, 0, 0, 0), (56, .iload_n 3, 0, 0, 0, 0, 0), (57, .iconst 2, 0, 0, 0, 2, 0), (58, .irem, 0, 0, 0, 0, 0), (59, .ifCond .ne 7, 0, 66, 0, 0, 0)]
theorem oX12_duels_55 : bX12_duels_55.all (mz_ok RX12 cX12_duels 5) = true := by decide +kernel
def bX12_duels_62 : List mz_E := [(62, .iload_n 2, 0, 0, 0, 0, 0), (63, .goto 4, 0, 67, 0, 0, 0)]
theorem oX12_duels_62 : bX12_duels_62.all (mz_ok RX12 cX12_duels 5) = true := by decide +kernel
def bX12_duels_66 : List mz_E := [(66, .iload_n 1, 0, 0, 0, 0, 0)]
theorem oX12_duels_66 : bX12_duels_66.all (mz_ok RX12 cX12_duels 5) = true := by decide +kernel
def bX12_duels_8 : List mz_E := [(8, .aload_n 0, 0, 0, 0, 0, 0), (9, .bipush 16, 0, 0, 0, 16, 0)]
theorem oX12_duels_8 : bX12_duels_8.all (mz_ok RX12 cX12_duels 5) = true := by decide +kernel
def bX12_duels_14 : List mz_E := [(14, .istore 4, 0, 0, 0, 0, 0), (16, .aload_n 0, 0, 0, 0, 0, 0), (17, .getfield 59, 12, 31, 1607, 0, 0), (20, .iconst 2, 0, 0, 0, 2, 0), (21, .dup2, 0, 0, 0, 0, 0), (22, .iaload, 0, 0, 0, 0, 0), (23, .iconst 1, 0, 0, 0, 1, 0), (24, .iadd, 0, 0, 0, 0, 0), (25, .iastore, 0, 0, 0, 0, 0), (26, .iload 4, 0, 0, 0, 0, 0), (28, .aload_n 0, 0, 0, 0, 0, 0), (29, .iload_n 3, 0, 0, 0, 0, 0), (30, .iconst 2, 0, 0, 0, 2, 0), (31, .irem, 0, 0, 0, 0, 0), (32, .ifCond .ne 7, 0, 39, 0, 0, 0)]
theorem oX12_duels_14 : bX12_duels_14.all (mz_ok RX12 cX12_duels 5) = true := by decide +kernel
def bX12_duels_35 : List mz_E := [(35, .iload_n 1, 0, 0, 0, 0, 0), (36, .goto 4, 0, 40, 0, 0, 0)]
theorem oX12_duels_35 : bX12_duels_35.all (mz_ok RX12 cX12_duels 5) = true := by decide +kernel
def bX12_duels_43 : List mz_E := [(43, .if_icmp .lt 6, 0, 49, 0, 0, 0)]
theorem oX12_duels_43 : bX12_duels_43.all (mz_ok RX12 cX12_duels 5) = true := by decide +kernel
def bX12_duels_49 : List mz_E := [(49, .iinc 3 1, 0, 0, 0, 1, 0), (52, .goto (-50), 0, 2, 0, 0, 0)]
theorem oX12_duels_49 : bX12_duels_49.all (mz_ok RX12 cX12_duels 5) = true := by decide +kernel
def bX12_duels_46 : List mz_E := [(46, .goto 9, 0, 55, 0, 0, 0)]
theorem oX12_duels_46 : bX12_duels_46.all (mz_ok RX12 cX12_duels 5) = true := by decide +kernel
def bX12_duels_39 : List mz_E := [(39, .iload_n 2, 0, 0, 0, 0, 0)]
theorem oX12_duels_39 : bX12_duels_39.all (mz_ok RX12 cX12_duels 5) = true := by decide +kernel
abbrev IX12_duels : mz_I := (yX12_duels, cX12_duels, 5, (some .boolean), 0, 6, 0, 0)
theorem kX12_duels : mz_okm IX12_duels 2273 141 2272 2 = true := by decide +kernel
theorem vX12_duels : mz_okV IX12_duels 2272 121 = true := by decide +kernel
def fX12_duels_67 (s0 : Int32) (D : mz_D) : Option (Int32 × mz_D) := (Option.bind (fX12_dines s0 D) fun q1 => (mz_gd (mz_bo q1.1) (some (q1.1, q1.2))))
set_option maxHeartbeats 4000000 in
theorem tX12_duels_67 (r : (Int32 × mz_D)) : ∀ (s0 : Int32) (D : mz_D), fX12_duels_67 s0 D = some r → mz_Go IX12_duels (some (.inl r.1), r.2) 0 0 (67, [none, none, none, none, none], [.inl s0, .inr (.inr (some (0, 200)))], D) := by
  intro s0 D h
  rw [fX12_duels_67] at h
  obtain ⟨q1, hq1, h⟩ := mz_bd_some h
  refine mz_Go.callV (I := IX12_duels) (J := IX12_dines) (as := [.inl s0]) (ci := 12) (g := 0) (o := 200) (idx := 431) (pl := 2266) (rest := []) (mX12_dines s0 D q1 hq1) kX12_dines vX12_dines (by decide +kernel) (by decide +kernel) (by decide +kernel) rfl rfl ⟨rfl, rfl⟩ rfl rfl rfl rfl ?_
  obtain ⟨hb2, h⟩ := mz_gd_some h
  cases h
  exact mz_Go.retz (by decide +kernel) rfl ⟨Nat.le_refl _, Nat.le_refl _⟩ hb2 rfl
def fX12_duels_55 (x1 : Int32) (x2 : Int32) (x3 : Int32) (D : mz_D) : Option (Int32 × mz_D) := (if (x3 - x3 / (2 : Int32) * (2 : Int32)) = 0 then (fX12_duels_67 x2 D) else (fX12_duels_67 x1 D))
set_option maxHeartbeats 4000000 in
theorem tX12_duels_55 (r : (Int32 × mz_D)) : ∀ (x1 : Int32) (x2 : Int32) (x3 : Int32) (D : mz_D), fX12_duels_55 x1 x2 x3 D = some r → mz_Go IX12_duels (some (.inl r.1), r.2) 0 0 (55, [some (.inr (.inr (some (0, 200)))), some (.inl x1), some (.inl x2), some (.inl x3), none], [], D) := by
  intro x1 x2 x3 D h
  rw [fX12_duels_55] at h
  refine mz_Go.run (gs := [mz_nz (2 : Int32)]) (st' := (if (x3 - x3 / (2 : Int32) * (2 : Int32)) = 0 then (62, [some (.inr (.inr (some (0, 200)))), some (.inl x1), some (.inl x2), some (.inl x3), none], [.inr (.inr (some (0, 200)))], D) else (66, [some (.inr (.inr (some (0, 200)))), some (.inl x1), some (.inl x2), some (.inl x3), none], [.inr (.inr (some (0, 200)))], D))) bX12_duels_55 oX12_duels_55 rfl ⟨(by decide), trivial⟩ ?_
  refine mz_Go.ite (fun hc1 => ?_) (fun hc1 => ?_)
  · have h := mz_ifp hc1 h
    refine mz_Go.run (gs := []) (st' := (67, [some (.inr (.inr (some (0, 200)))), some (.inl x1), some (.inl x2), some (.inl x3), none], [.inl x2, .inr (.inr (some (0, 200)))], D)) bX12_duels_62 oX12_duels_62 rfl trivial ?_
    exact mz_Go.drop [false, false, false, false, false] (tX12_duels_67 r x2 D h)
  · have h := mz_ifn hc1 h
    refine mz_Go.run (gs := []) (st' := (67, [some (.inr (.inr (some (0, 200)))), some (.inl x1), some (.inl x2), some (.inl x3), none], [.inl x1, .inr (.inr (some (0, 200)))], D)) bX12_duels_66 oX12_duels_66 rfl trivial ?_
    exact mz_Go.drop [false, false, false, false, false] (tX12_duels_67 r x1 D h)
def fX12_duels_40 (k2 : Int32 → Int32 → Int32 → mz_D → Option (Int32 × mz_D)) (x1 : Int32) (x2 : Int32) (x3 : Int32) (s0 : Int32) (s2 : Int32) (D : mz_D) : Option (Int32 × mz_D) := (Option.bind (fX12_insists s0 D) fun q1 => (if s2 < q1 then (k2 x1 x2 (x3 + (1 : Int32)) D) else (fX12_duels_55 x1 x2 x3 D)))
set_option maxHeartbeats 4000000 in
theorem tX12_duels_40 (r : (Int32 × mz_D)) (k2 : Int32 → Int32 → Int32 → mz_D → Option (Int32 × mz_D)) (hk2 : ∀ (x1 : Int32) (x2 : Int32) (x3 : Int32) (D : mz_D), k2 x1 x2 x3 D = some r → mz_Go IX12_duels (some (.inl r.1), r.2) 0 0 (2, [some (.inr (.inr (some (0, 200)))), some (.inl x1), some (.inl x2), some (.inl x3), none], [], D)) : ∀ (x1 : Int32) (x2 : Int32) (x3 : Int32) (s0 : Int32) (s2 : Int32) (D : mz_D), fX12_duels_40 k2 x1 x2 x3 s0 s2 D = some r → mz_Go IX12_duels (some (.inl r.1), r.2) 0 0 (40, [some (.inr (.inr (some (0, 200)))), some (.inl x1), some (.inl x2), some (.inl x3), none], [.inl s0, .inr (.inr (some (0, 200))), .inl s2], D) := by
  intro x1 x2 x3 s0 s2 D h
  rw [fX12_duels_40] at h
  obtain ⟨q1, hq1, h⟩ := mz_bd_some h
  refine mz_Go.callV (I := IX12_duels) (J := IX12_insists) (as := [.inl s0]) (ci := 12) (g := 0) (o := 200) (idx := 328) (pl := 2044) (rest := [.inl s2]) (mX12_insists s0 D q1 hq1) kX12_insists vX12_insists (by decide +kernel) (by decide +kernel) (by decide +kernel) rfl rfl ⟨rfl, rfl⟩ rfl rfl rfl rfl ?_
  refine mz_Go.run (gs := []) (st' := (if s2 < q1 then (49, [some (.inr (.inr (some (0, 200)))), some (.inl x1), some (.inl x2), some (.inl x3), none], [], D) else (46, [some (.inr (.inr (some (0, 200)))), some (.inl x1), some (.inl x2), some (.inl x3), none], [], D))) bX12_duels_43 oX12_duels_43 rfl trivial ?_
  refine mz_Go.ite (fun hc2 => ?_) (fun hc2 => ?_)
  · have h := mz_ifp hc2 h
    refine mz_Go.run (gs := []) (st' := (2, [some (.inr (.inr (some (0, 200)))), some (.inl x1), some (.inl x2), some (.inl (x3 + (1 : Int32))), none], [], D)) bX12_duels_49 oX12_duels_49 rfl trivial ?_
    exact mz_Go.drop [true, true, true, true, false] (hk2 x1 x2 (x3 + (1 : Int32)) D h)
  · have h := mz_ifn hc2 h
    refine mz_Go.run (gs := []) (st' := (55, [some (.inr (.inr (some (0, 200)))), some (.inl x1), some (.inl x2), some (.inl x3), none], [], D)) bX12_duels_46 oX12_duels_46 rfl trivial ?_
    exact mz_Go.drop [true, true, true, true, false] (tX12_duels_55 r x1 x2 x3 D h)
def fX12_duels_2 : Nat → Int32 → Int32 → Int32 → mz_D → Option (Int32 × mz_D)
  | 0 => fun _ _ _ _ => none
  | n + 1 => fun x1 x2 x3 D => (if (20 : Int32) ≤ x3 then (fX12_duels_55 x1 x2 x3 D) else (Option.bind (fX12_draw (16 : Int32) D) fun q2 => (if (x3 - x3 / (2 : Int32) * (2 : Int32)) = 0 then (fX12_duels_40 (fX12_duels_2 n) x1 x2 x3 x1 q2.1 (mz_wi q2.2 0 213 ((2 : Int32)).toNatClampNeg ((q2.2.1 0 213 ((2 : Int32)).toNatClampNeg) + (1 : Int32)))) else (fX12_duels_40 (fX12_duels_2 n) x1 x2 x3 x2 q2.1 (mz_wi q2.2 0 213 ((2 : Int32)).toNatClampNeg ((q2.2.1 0 213 ((2 : Int32)).toNatClampNeg) + (1 : Int32)))))))
set_option maxHeartbeats 4000000 in
theorem tX12_duels_2 (r : (Int32 × mz_D)) : ∀ (n : Nat) (x1 : Int32) (x2 : Int32) (x3 : Int32) (D : mz_D), fX12_duels_2 n x1 x2 x3 D = some r → mz_Go IX12_duels (some (.inl r.1), r.2) 0 0 (2, [some (.inr (.inr (some (0, 200)))), some (.inl x1), some (.inl x2), some (.inl x3), none], [], D) := by
  intro n
  induction n with
  | zero => intro x1 x2 x3 D h; have h : (none : Option (Int32 × mz_D)) = some r := h; cases h
  | succ n ih =>
    intro x1 x2 x3 D h
    rw [fX12_duels_2] at h
    refine mz_Go.run (gs := []) (st' := (if (20 : Int32) ≤ x3 then (55, [some (.inr (.inr (some (0, 200)))), some (.inl x1), some (.inl x2), some (.inl x3), none], [], D) else (8, [some (.inr (.inr (some (0, 200)))), some (.inl x1), some (.inl x2), some (.inl x3), none], [], D))) bX12_duels_2 oX12_duels_2 rfl trivial ?_
    refine mz_Go.ite (fun hc1 => ?_) (fun hc1 => ?_)
    · have h := mz_ifp hc1 h
      exact mz_Go.drop [true, true, true, true, false] (tX12_duels_55 r x1 x2 x3 D h)
    · have h := mz_ifn hc1 h
      refine mz_Go.run (gs := []) (st' := (11, [some (.inr (.inr (some (0, 200)))), some (.inl x1), some (.inl x2), some (.inl x3), none], [.inl (16 : Int32), .inr (.inr (some (0, 200)))], D)) bX12_duels_8 oX12_duels_8 rfl trivial ?_
      obtain ⟨q2, hq2, h⟩ := mz_bd_some h
      refine mz_Go.callV (I := IX12_duels) (J := IX12_draw) (as := [.inl (16 : Int32)]) (ci := 12) (g := 0) (o := 200) (idx := 428) (pl := 2261) (rest := []) (mX12_draw (16 : Int32) D q2 hq2) kX12_draw vX12_draw (by decide +kernel) (by decide +kernel) (by decide +kernel) rfl rfl ⟨rfl, rfl⟩ rfl rfl rfl rfl ?_
      refine mz_Go.run (gs := [mz_kz 0 0 200, mz_kz 0 0 213, mz_ix (2 : Int32) 5, mz_kz 0 0 213, mz_ix (2 : Int32) 5, mz_nz (2 : Int32)]) (st' := (if (x3 - x3 / (2 : Int32) * (2 : Int32)) = 0 then (35, [some (.inr (.inr (some (0, 200)))), some (.inl x1), some (.inl x2), some (.inl x3), some (.inl q2.1)], [.inr (.inr (some (0, 200))), .inl q2.1], (mz_wi q2.2 0 213 ((2 : Int32)).toNatClampNeg ((q2.2.1 0 213 ((2 : Int32)).toNatClampNeg) + (1 : Int32)))) else (39, [some (.inr (.inr (some (0, 200)))), some (.inl x1), some (.inl x2), some (.inl x3), some (.inl q2.1)], [.inr (.inr (some (0, 200))), .inl q2.1], (mz_wi q2.2 0 213 ((2 : Int32)).toNatClampNeg ((q2.2.1 0 213 ((2 : Int32)).toNatClampNeg) + (1 : Int32)))))) bX12_duels_14 oX12_duels_14 rfl ⟨rfl, rfl, (by decide), rfl, (by decide), (by decide), trivial⟩ ?_
      refine mz_Go.ite (fun hc3 => ?_) (fun hc3 => ?_)
      · have h := mz_ifp hc3 h
        refine mz_Go.run (gs := []) (st' := (40, [some (.inr (.inr (some (0, 200)))), some (.inl x1), some (.inl x2), some (.inl x3), some (.inl q2.1)], [.inl x1, .inr (.inr (some (0, 200))), .inl q2.1], (mz_wi q2.2 0 213 ((2 : Int32)).toNatClampNeg ((q2.2.1 0 213 ((2 : Int32)).toNatClampNeg) + (1 : Int32))))) bX12_duels_35 oX12_duels_35 rfl trivial ?_
        exact mz_Go.drop [true, true, true, true, false] (tX12_duels_40 r (fX12_duels_2 n) ih x1 x2 x3 x1 q2.1 (mz_wi q2.2 0 213 ((2 : Int32)).toNatClampNeg ((q2.2.1 0 213 ((2 : Int32)).toNatClampNeg) + (1 : Int32))) h)
      · have h := mz_ifn hc3 h
        refine mz_Go.run (gs := []) (st' := (40, [some (.inr (.inr (some (0, 200)))), some (.inl x1), some (.inl x2), some (.inl x3), some (.inl q2.1)], [.inl x2, .inr (.inr (some (0, 200))), .inl q2.1], (mz_wi q2.2 0 213 ((2 : Int32)).toNatClampNeg ((q2.2.1 0 213 ((2 : Int32)).toNatClampNeg) + (1 : Int32))))) bX12_duels_39 oX12_duels_39 rfl trivial ?_
        exact mz_Go.drop [true, true, true, true, false] (tX12_duels_40 r (fX12_duels_2 n) ih x1 x2 x3 x2 q2.1 (mz_wi q2.2 0 213 ((2 : Int32)).toNatClampNeg ((q2.2.1 0 213 ((2 : Int32)).toNatClampNeg) + (1 : Int32))) h)
def fX12_duels (x1 : Int32) (x2 : Int32) (D : mz_D) : Option (Int32 × mz_D) := (fX12_duels_2 mz_N x1 x2 (0 : Int32) D)
set_option maxHeartbeats 4000000 in
theorem mX12_duels (x1 : Int32) (x2 : Int32) (D : mz_D) (r : (Int32 × mz_D)) (h : fX12_duels x1 x2 D = some r) : mz_Met IX12_duels [.inr (.inr (some (0, 200))), .inl x1, .inl x2] D (some (.inl r.1), r.2) := by
  refine mz_Met.of (by decide +kernel) (Nat.le_of_ble_eq_true rfl) ?_
  show mz_Go IX12_duels (some (.inl r.1), r.2) 0 0 (0, [some (.inr (.inr (some (0, 200)))), some (.inl x1), some (.inl x2), none, none], [], D)
  rw [fX12_duels] at h
  refine mz_Go.run (gs := []) (st' := (2, [some (.inr (.inr (some (0, 200)))), some (.inl x1), some (.inl x2), some (.inl (0 : Int32)), none], [], D)) bX12_duels_0 oX12_duels_0 rfl trivial ?_
  exact mz_Go.drop [true, true, true, true, false] (tX12_duels_2 r mz_N x1 x2 (0 : Int32) D h)
def bX12_does_0 : List mz_E := [(0, .aload_n 0, 0, 0, 0, 0, 0), (1, .getfield 7, 12, 0, 1576, 0, 0), (4, .iload_n 1, 0, 0, 0, 0, 0), (5, .iconst 1, 0, 0, 0, 1, 0), (6, .iadd, 0, 0, 0, 0, 0), (7, .iaload, 0, 0, 0, 0, 0), (8, .istore_n 2, 0, 0, 0, 0, 0), (9, .aload_n 0, 0, 0, 0, 0, 0), (10, .getfield 7, 12, 0, 1576, 0, 0), (13, .iload_n 1, 0, 0, 0, 0, 0), (14, .iconst 2, 0, 0, 0, 2, 0), (15, .iadd, 0, 0, 0, 0, 0), (16, .iaload, 0, 0, 0, 0, 0), (17, .istore_n 3, 0, 0, 0, 0, 0), (18, .aload_n 0, 0, 0, 0, 0, 0), (19, .getfield 7, 12, 0, 1576, 0, 0), (22, .iload_n 1, 0, 0, 0, 0, 0), (23, .iaload, 0, 0, 0, 0, 0)]
theorem oX12_does_0 : bX12_does_0.all (mz_ok RX12 cX12_does 4) = true := by decide +kernel
def bX12_does_60 : List mz_E := [(60, .iload_n 2, 0, 0, 0, 0, 0), (61, .iconst (-1), 0, 0, 0, -1, 0), (62, .if_icmp .ne 10, 0, 72, 0, 0, 0)]
theorem oX12_does_60 : bX12_does_60.all (mz_ok RX12 cX12_does 4) = true := by decide +kernel
def bX12_does_65 : List mz_E := [(65, .aload_n 0, 0, 0, 0, 0, 0)]
theorem oX12_does_65 : bX12_does_65.all (mz_ok RX12 cX12_does 4) = true := by decide +kernel
def bX12_does_69 : List mz_E := [(69, .goto 8, 0, 77, 0, 0, 0)]
theorem oX12_does_69 : bX12_does_69.all (mz_ok RX12 cX12_does 4) = true := by decide +kernel
def bX12_does_72 : List mz_E := [(72, .aload_n 0, 0, 0, 0, 0, 0), (73, .iload_n 2, 0, 0, 0, 0, 0)]
theorem oX12_does_72 : bX12_does_72.all (mz_ok RX12 cX12_does 4) = true := by decide +kernel
def bX12_does_78 : List mz_E := [(78, .aload_n 0, 0, 0, 0, 0, 0), (79, .iload_n 2, 0, 0, 0, 0, 0), (80, .iload_n 3, 0, 0, 0, 0, 0)]
theorem oX12_does_78 : bX12_does_78.all (mz_ok RX12 cX12_does 4) = true := by decide +kernel
def bX12_does_85 : List mz_E := [(85, .aload_n 0, 0, 0, 0, 0, 0), (86, .iload_n 2, 0, 0, 0, 0, 0), (87, .iload_n 3, 0, 0, 0, 0, 0), (88, .aload_n 0, 0, 0, 0, 0, 0), (89, .getfield 7, 12, 0, 1576, 0, 0), (92, .iload_n 1, 0, 0, 0, 0, 0), (93, .iconst 3, 0, 0, 0, 3, 0), (94, .iadd, 0, 0, 0, 0, 0), (95, .iaload, 0, 0, 0, 0, 0)]
theorem oX12_does_85 : bX12_does_85.all (mz_ok RX12 cX12_does 4) = true := by decide +kernel
def bX12_does_100 : List mz_E := [(100, .aload_n 0, 0, 0, 0, 0, 0), (101, .iload_n 2, 0, 0, 0, 0, 0), (102, .iload_n 3, 0, 0, 0, 0, 0), (103, .aload_n 0, 0, 0, 0, 0, 0), (104, .getfield 7, 12, 0, 1576, 0, 0), (107, .iload_n 1, 0, 0, 0, 0, 0), (108, .iconst 3, 0, 0, 0, 3, 0), (109, .iadd, 0, 0, 0, 0, 0), (110, .iaload, 0, 0, 0, 0, 0)]
theorem oX12_does_100 : bX12_does_100.all (mz_ok RX12 cX12_does 4) = true := by decide +kernel
def bX12_does_114 : List mz_E := [(114, .iconst 1, 0, 0, 0, 1, 0)]
theorem oX12_does_114 : bX12_does_114.all (mz_ok RX12 cX12_does 4) = true := by decide +kernel
def bX12_does_116 : List mz_E := [(116, .aload_n 0, 0, 0, 0, 0, 0)]
theorem oX12_does_116 : bX12_does_116.all (mz_ok RX12 cX12_does 4) = true := by decide +kernel
def bX12_does_120 : List mz_E := [(120, .iconst (-1), 0, 0, 0, -1, 0), (121, .if_icmp .ne 5, 0, 126, 0, 0, 0)]
theorem oX12_does_120 : bX12_does_120.all (mz_ok RX12 cX12_does 4) = true := by decide +kernel
def bX12_does_124 : List mz_E := [(124, .iconst 0, 0, 0, 0, 0, 0)]
theorem oX12_does_124 : bX12_does_124.all (mz_ok RX12 cX12_does 4) = true := by decide +kernel
def bX12_does_126 : List mz_E := [(126, .aload_n 0, 0, 0, 0, 0, 0), (127, .getfield 59, 12, 31, 1607, 0, 0), (130, .iconst 3, 0, 0, 0, 3, 0), (131, .dup2, 0, 0, 0, 0, 0), (132, .iaload, 0, 0, 0, 0, 0), (133, .iconst 1, 0, 0, 0, 1, 0), (134, .iadd, 0, 0, 0, 0, 0), (135, .iastore, 0, 0, 0, 0, 0), (136, .iconst 1, 0, 0, 0, 1, 0)]
theorem oX12_does_126 : bX12_does_126.all (mz_ok RX12 cX12_does 4) = true := by decide +kernel
def bX12_does_138 : List mz_E := [(138, .iconst 1, 0, 0, 0, 1, 0)]
theorem oX12_does_138 : bX12_does_138.all (mz_ok RX12 cX12_does 4) = true := by decide +kernel
abbrev IX12_does : mz_I := (yX12_does, cX12_does, 4, (some .boolean), 0, 7, 0, 0)
theorem kX12_does : mz_okm IX12_does 2256 141 2255 1 = true := by decide +kernel
theorem vX12_does : mz_okV IX12_does 2255 117 = true := by decide +kernel
def fX12_does (x1 : Int32) (D : mz_D) : Option (Int32 × mz_D) := (mz_gd (mz_ix (x1 + (1 : Int32)) 3000) (mz_gd (mz_ix (x1 + (2 : Int32)) 3000) (mz_gd (mz_ix x1 3000) (if (D.1 0 201 (x1).toNatClampNeg) = (17 : Int32) then (if (D.1 0 201 ((x1 + (1 : Int32))).toNatClampNeg) = (-1 : Int32) then (Option.bind (fX12_reaches D) fun q6 => (mz_gd (mz_bo q6.1) (some (q6.1, q6.2)))) else (Option.bind (fX12_dines (D.1 0 201 ((x1 + (1 : Int32))).toNatClampNeg) D) fun q8 => (mz_gd (mz_bo q8.1) (some (q8.1, q8.2))))) else (if (D.1 0 201 (x1).toNatClampNeg) = (18 : Int32) then (Option.bind (fX12_duels (D.1 0 201 ((x1 + (1 : Int32))).toNatClampNeg) (D.1 0 201 ((x1 + (2 : Int32))).toNatClampNeg) D) fun q11 => (mz_gd (mz_bo q11.1) (some (q11.1, q11.2)))) else (if (D.1 0 201 (x1).toNatClampNeg) = (19 : Int32) then (mz_gd (mz_ix (x1 + (3 : Int32)) 3000) (Option.bind (fX12_lends (D.1 0 201 ((x1 + (1 : Int32))).toNatClampNeg) (D.1 0 201 ((x1 + (2 : Int32))).toNatClampNeg) (D.1 0 201 ((x1 + (3 : Int32))).toNatClampNeg) D) fun q15 => (mz_gd (mz_bo q15.1) (some (q15.1, q15.2))))) else (if (D.1 0 201 (x1).toNatClampNeg) = (20 : Int32) then (mz_gd (mz_ix (x1 + (3 : Int32)) 3000) (Option.bind (fX12_gifts (D.1 0 201 ((x1 + (1 : Int32))).toNatClampNeg) (D.1 0 201 ((x1 + (2 : Int32))).toNatClampNeg) (D.1 0 201 ((x1 + (3 : Int32))).toNatClampNeg) D) fun q19 => (some ((1 : Int32), q19)))) else (if (D.1 0 201 (x1).toNatClampNeg) = (21 : Int32) then (Option.bind (fX12_rounds D) fun q21 => (if q21.1 = (-1 : Int32) then (some ((0 : Int32), q21.2)) else (some ((1 : Int32), (mz_wi q21.2 0 213 ((3 : Int32)).toNatClampNeg ((q21.2.1 0 213 ((3 : Int32)).toNatClampNeg) + (1 : Int32))))))) else (some ((1 : Int32), D))))))))))
set_option maxHeartbeats 4000000 in
theorem mX12_does (x1 : Int32) (D : mz_D) (r : (Int32 × mz_D)) (h : fX12_does x1 D = some r) : mz_Met IX12_does [.inr (.inr (some (0, 200))), .inl x1] D (some (.inl r.1), r.2) := by
  refine mz_Met.of (by decide +kernel) (Nat.le_of_ble_eq_true rfl) ?_
  show mz_Go IX12_does (some (.inl r.1), r.2) 0 0 (0, [some (.inr (.inr (some (0, 200)))), some (.inl x1), none, none], [], D)
  rw [fX12_does] at h
  obtain ⟨hb1, h⟩ := mz_gd_some h
  obtain ⟨hb2, h⟩ := mz_gd_some h
  obtain ⟨hb3, h⟩ := mz_gd_some h
  refine mz_Go.run (gs := [mz_kz 0 0 200, mz_kz 0 0 201, mz_ix (x1 + (1 : Int32)) 3000, mz_kz 0 0 200, mz_kz 0 0 201, mz_ix (x1 + (2 : Int32)) 3000, mz_kz 0 0 200, mz_kz 0 0 201, mz_ix x1 3000]) (st' := (24, [some (.inr (.inr (some (0, 200)))), some (.inl x1), some (.inl (D.1 0 201 ((x1 + (1 : Int32))).toNatClampNeg)), some (.inl (D.1 0 201 ((x1 + (2 : Int32))).toNatClampNeg))], [.inl (D.1 0 201 (x1).toNatClampNeg)], D)) bX12_does_0 oX12_does_0 rfl ⟨rfl, rfl, hb1, rfl, rfl, hb2, rfl, rfl, hb3, trivial⟩ ?_
  refine mz_Go.tsw [(17, 60), (18, 78), (19, 85), (20, 100), (21, 116)] 138 (show decode cX12_does 24 = .ok (.tableswitch 114 17 21 #[36, 54, 61, 76, 92], 36) by decide +kernel) (by decide +kernel) ?_
  refine mz_Go.swc (fun hc4 => ?_) (fun hc4 => ?_)
  · have h := mz_ifp hc4 h
    refine mz_Go.run (gs := []) (st' := (if (D.1 0 201 ((x1 + (1 : Int32))).toNatClampNeg) = (-1 : Int32) then (65, [some (.inr (.inr (some (0, 200)))), some (.inl x1), some (.inl (D.1 0 201 ((x1 + (1 : Int32))).toNatClampNeg)), some (.inl (D.1 0 201 ((x1 + (2 : Int32))).toNatClampNeg))], [], D) else (72, [some (.inr (.inr (some (0, 200)))), some (.inl x1), some (.inl (D.1 0 201 ((x1 + (1 : Int32))).toNatClampNeg)), some (.inl (D.1 0 201 ((x1 + (2 : Int32))).toNatClampNeg))], [], D))) bX12_does_60 oX12_does_60 rfl trivial ?_
    refine mz_Go.ite (fun hc5 => ?_) (fun hc5 => ?_)
    · have h := mz_ifp hc5 h
      refine mz_Go.run (gs := []) (st' := (66, [some (.inr (.inr (some (0, 200)))), some (.inl x1), some (.inl (D.1 0 201 ((x1 + (1 : Int32))).toNatClampNeg)), some (.inl (D.1 0 201 ((x1 + (2 : Int32))).toNatClampNeg))], [.inr (.inr (some (0, 200)))], D)) bX12_does_65 oX12_does_65 rfl trivial ?_
      obtain ⟨q6, hq6, h⟩ := mz_bd_some h
      refine mz_Go.callV (I := IX12_does) (J := IX12_reaches) (as := []) (ci := 12) (g := 0) (o := 200) (idx := 434) (pl := 2257) (rest := []) (mX12_reaches D q6 hq6) kX12_reaches vX12_reaches (by decide +kernel) (by decide +kernel) (by decide +kernel) rfl rfl ⟨rfl, rfl⟩ rfl rfl rfl rfl ?_
      refine mz_Go.run (gs := []) (st' := (77, [some (.inr (.inr (some (0, 200)))), some (.inl x1), some (.inl (D.1 0 201 ((x1 + (1 : Int32))).toNatClampNeg)), some (.inl (D.1 0 201 ((x1 + (2 : Int32))).toNatClampNeg))], [.inl q6.1], q6.2)) bX12_does_69 oX12_does_69 rfl trivial ?_
      obtain ⟨hb7, h⟩ := mz_gd_some h
      cases h
      exact mz_Go.retz (by decide +kernel) rfl ⟨Nat.le_refl _, Nat.le_refl _⟩ hb7 rfl
    · have h := mz_ifn hc5 h
      refine mz_Go.run (gs := []) (st' := (74, [some (.inr (.inr (some (0, 200)))), some (.inl x1), some (.inl (D.1 0 201 ((x1 + (1 : Int32))).toNatClampNeg)), some (.inl (D.1 0 201 ((x1 + (2 : Int32))).toNatClampNeg))], [.inl (D.1 0 201 ((x1 + (1 : Int32))).toNatClampNeg), .inr (.inr (some (0, 200)))], D)) bX12_does_72 oX12_does_72 rfl trivial ?_
      obtain ⟨q8, hq8, h⟩ := mz_bd_some h
      refine mz_Go.callV (I := IX12_does) (J := IX12_dines) (as := [.inl (D.1 0 201 ((x1 + (1 : Int32))).toNatClampNeg)]) (ci := 12) (g := 0) (o := 200) (idx := 431) (pl := 2266) (rest := []) (mX12_dines (D.1 0 201 ((x1 + (1 : Int32))).toNatClampNeg) D q8 hq8) kX12_dines vX12_dines (by decide +kernel) (by decide +kernel) (by decide +kernel) rfl rfl ⟨rfl, rfl⟩ rfl rfl rfl rfl ?_
      obtain ⟨hb9, h⟩ := mz_gd_some h
      cases h
      exact mz_Go.retz (by decide +kernel) rfl ⟨Nat.le_refl _, Nat.le_refl _⟩ hb9 rfl
  · have h := mz_ifn hc4 h
    refine mz_Go.swc (fun hc10 => ?_) (fun hc10 => ?_)
    · have h := mz_ifp hc10 h
      refine mz_Go.run (gs := []) (st' := (81, [some (.inr (.inr (some (0, 200)))), some (.inl x1), some (.inl (D.1 0 201 ((x1 + (1 : Int32))).toNatClampNeg)), some (.inl (D.1 0 201 ((x1 + (2 : Int32))).toNatClampNeg))], [.inl (D.1 0 201 ((x1 + (2 : Int32))).toNatClampNeg), .inl (D.1 0 201 ((x1 + (1 : Int32))).toNatClampNeg), .inr (.inr (some (0, 200)))], D)) bX12_does_78 oX12_does_78 rfl trivial ?_
      obtain ⟨q11, hq11, h⟩ := mz_bd_some h
      refine mz_Go.callV (I := IX12_does) (J := IX12_duels) (as := [.inl (D.1 0 201 ((x1 + (1 : Int32))).toNatClampNeg), .inl (D.1 0 201 ((x1 + (2 : Int32))).toNatClampNeg)]) (ci := 12) (g := 0) (o := 200) (idx := 437) (pl := 2270) (rest := []) (mX12_duels (D.1 0 201 ((x1 + (1 : Int32))).toNatClampNeg) (D.1 0 201 ((x1 + (2 : Int32))).toNatClampNeg) D q11 hq11) kX12_duels vX12_duels (by decide +kernel) (by decide +kernel) (by decide +kernel) rfl rfl ⟨rfl, rfl⟩ rfl rfl rfl rfl ?_
      obtain ⟨hb12, h⟩ := mz_gd_some h
      cases h
      exact mz_Go.retz (by decide +kernel) rfl ⟨Nat.le_refl _, Nat.le_refl _⟩ hb12 rfl
    · have h := mz_ifn hc10 h
      refine mz_Go.swc (fun hc13 => ?_) (fun hc13 => ?_)
      · have h := mz_ifp hc13 h
        obtain ⟨hb14, h⟩ := mz_gd_some h
        refine mz_Go.run (gs := [mz_kz 0 0 200, mz_kz 0 0 201, mz_ix (x1 + (3 : Int32)) 3000]) (st' := (96, [some (.inr (.inr (some (0, 200)))), some (.inl x1), some (.inl (D.1 0 201 ((x1 + (1 : Int32))).toNatClampNeg)), some (.inl (D.1 0 201 ((x1 + (2 : Int32))).toNatClampNeg))], [.inl (D.1 0 201 ((x1 + (3 : Int32))).toNatClampNeg), .inl (D.1 0 201 ((x1 + (2 : Int32))).toNatClampNeg), .inl (D.1 0 201 ((x1 + (1 : Int32))).toNatClampNeg), .inr (.inr (some (0, 200)))], D)) bX12_does_85 oX12_does_85 rfl ⟨rfl, rfl, hb14, trivial⟩ ?_
        obtain ⟨q15, hq15, h⟩ := mz_bd_some h
        refine mz_Go.callV (I := IX12_does) (J := IX12_lends) (as := [.inl (D.1 0 201 ((x1 + (1 : Int32))).toNatClampNeg), .inl (D.1 0 201 ((x1 + (2 : Int32))).toNatClampNeg), .inl (D.1 0 201 ((x1 + (3 : Int32))).toNatClampNeg)]) (ci := 12) (g := 0) (o := 200) (idx := 357) (pl := 2102) (rest := []) (mX12_lends (D.1 0 201 ((x1 + (1 : Int32))).toNatClampNeg) (D.1 0 201 ((x1 + (2 : Int32))).toNatClampNeg) (D.1 0 201 ((x1 + (3 : Int32))).toNatClampNeg) D q15 hq15) kX12_lends vX12_lends (by decide +kernel) (by decide +kernel) (by decide +kernel) rfl rfl ⟨rfl, rfl⟩ rfl rfl rfl rfl ?_
        obtain ⟨hb16, h⟩ := mz_gd_some h
        cases h
        exact mz_Go.retz (by decide +kernel) rfl ⟨Nat.le_refl _, Nat.le_refl _⟩ hb16 rfl
      · have h := mz_ifn hc13 h
        refine mz_Go.swc (fun hc17 => ?_) (fun hc17 => ?_)
        · have h := mz_ifp hc17 h
          obtain ⟨hb18, h⟩ := mz_gd_some h
          refine mz_Go.run (gs := [mz_kz 0 0 200, mz_kz 0 0 201, mz_ix (x1 + (3 : Int32)) 3000]) (st' := (111, [some (.inr (.inr (some (0, 200)))), some (.inl x1), some (.inl (D.1 0 201 ((x1 + (1 : Int32))).toNatClampNeg)), some (.inl (D.1 0 201 ((x1 + (2 : Int32))).toNatClampNeg))], [.inl (D.1 0 201 ((x1 + (3 : Int32))).toNatClampNeg), .inl (D.1 0 201 ((x1 + (2 : Int32))).toNatClampNeg), .inl (D.1 0 201 ((x1 + (1 : Int32))).toNatClampNeg), .inr (.inr (some (0, 200)))], D)) bX12_does_100 oX12_does_100 rfl ⟨rfl, rfl, hb18, trivial⟩ ?_
          obtain ⟨q19, hq19, h⟩ := mz_bd_some h
          refine mz_Go.callV (I := IX12_does) (J := IX12_gifts) (as := [.inl (D.1 0 201 ((x1 + (1 : Int32))).toNatClampNeg), .inl (D.1 0 201 ((x1 + (2 : Int32))).toNatClampNeg), .inl (D.1 0 201 ((x1 + (3 : Int32))).toNatClampNeg)]) (ci := 12) (g := 0) (o := 200) (idx := 409) (pl := 2229) (rest := []) (mX12_gifts (D.1 0 201 ((x1 + (1 : Int32))).toNatClampNeg) (D.1 0 201 ((x1 + (2 : Int32))).toNatClampNeg) (D.1 0 201 ((x1 + (3 : Int32))).toNatClampNeg) D q19 hq19) kX12_gifts vX12_gifts (by decide +kernel) (by decide +kernel) (by decide +kernel) rfl rfl ⟨rfl, rfl⟩ rfl rfl rfl rfl ?_
          refine mz_Go.run (gs := []) (st' := (115, [some (.inr (.inr (some (0, 200)))), some (.inl x1), some (.inl (D.1 0 201 ((x1 + (1 : Int32))).toNatClampNeg)), some (.inl (D.1 0 201 ((x1 + (2 : Int32))).toNatClampNeg))], [.inl (1 : Int32)], q19)) bX12_does_114 oX12_does_114 rfl trivial ?_
          cases h
          exact mz_Go.retz (by decide +kernel) rfl ⟨Nat.le_refl _, Nat.le_refl _⟩ (by decide) rfl
        · have h := mz_ifn hc17 h
          refine mz_Go.swc (fun hc20 => ?_) (fun hc20 => ?_)
          · have h := mz_ifp hc20 h
            refine mz_Go.run (gs := []) (st' := (117, [some (.inr (.inr (some (0, 200)))), some (.inl x1), some (.inl (D.1 0 201 ((x1 + (1 : Int32))).toNatClampNeg)), some (.inl (D.1 0 201 ((x1 + (2 : Int32))).toNatClampNeg))], [.inr (.inr (some (0, 200)))], D)) bX12_does_116 oX12_does_116 rfl trivial ?_
            obtain ⟨q21, hq21, h⟩ := mz_bd_some h
            refine mz_Go.callV (I := IX12_does) (J := IX12_rounds) (as := []) (ci := 12) (g := 0) (o := 200) (idx := 389) (pl := 2188) (rest := []) (mX12_rounds D q21 hq21) kX12_rounds vX12_rounds (by decide +kernel) (by decide +kernel) (by decide +kernel) rfl rfl ⟨rfl, rfl⟩ rfl rfl rfl rfl ?_
            refine mz_Go.run (gs := []) (st' := (if q21.1 = (-1 : Int32) then (124, [some (.inr (.inr (some (0, 200)))), some (.inl x1), some (.inl (D.1 0 201 ((x1 + (1 : Int32))).toNatClampNeg)), some (.inl (D.1 0 201 ((x1 + (2 : Int32))).toNatClampNeg))], [], q21.2) else (126, [some (.inr (.inr (some (0, 200)))), some (.inl x1), some (.inl (D.1 0 201 ((x1 + (1 : Int32))).toNatClampNeg)), some (.inl (D.1 0 201 ((x1 + (2 : Int32))).toNatClampNeg))], [], q21.2))) bX12_does_120 oX12_does_120 rfl trivial ?_
            refine mz_Go.ite (fun hc22 => ?_) (fun hc22 => ?_)
            · have h := mz_ifp hc22 h
              refine mz_Go.run (gs := []) (st' := (125, [some (.inr (.inr (some (0, 200)))), some (.inl x1), some (.inl (D.1 0 201 ((x1 + (1 : Int32))).toNatClampNeg)), some (.inl (D.1 0 201 ((x1 + (2 : Int32))).toNatClampNeg))], [.inl (0 : Int32)], q21.2)) bX12_does_124 oX12_does_124 rfl trivial ?_
              cases h
              exact mz_Go.retz (by decide +kernel) rfl ⟨Nat.le_refl _, Nat.le_refl _⟩ (by decide) rfl
            · have h := mz_ifn hc22 h
              refine mz_Go.run (gs := [mz_kz 0 0 200, mz_kz 0 0 213, mz_ix (3 : Int32) 5, mz_kz 0 0 213, mz_ix (3 : Int32) 5]) (st' := (137, [some (.inr (.inr (some (0, 200)))), some (.inl x1), some (.inl (D.1 0 201 ((x1 + (1 : Int32))).toNatClampNeg)), some (.inl (D.1 0 201 ((x1 + (2 : Int32))).toNatClampNeg))], [.inl (1 : Int32)], (mz_wi q21.2 0 213 ((3 : Int32)).toNatClampNeg ((q21.2.1 0 213 ((3 : Int32)).toNatClampNeg) + (1 : Int32))))) bX12_does_126 oX12_does_126 rfl ⟨rfl, rfl, (by decide), rfl, (by decide), trivial⟩ ?_
              cases h
              exact mz_Go.retz (by decide +kernel) rfl ⟨Nat.le_refl _, Nat.le_refl _⟩ (by decide) rfl
          · have h := mz_ifn hc20 h
            refine mz_Go.run (gs := []) (st' := (139, [some (.inr (.inr (some (0, 200)))), some (.inl x1), some (.inl (D.1 0 201 ((x1 + (1 : Int32))).toNatClampNeg)), some (.inl (D.1 0 201 ((x1 + (2 : Int32))).toNatClampNeg))], [.inl (1 : Int32)], D)) bX12_does_138 oX12_does_138 rfl trivial ?_
            cases h
            exact mz_Go.retz (by decide +kernel) rfl ⟨Nat.le_refl _, Nat.le_refl _⟩ (by decide) rfl
def bX12_holds_0 : List mz_E := [(0, .aload_n 0, 0, 0, 0, 0, 0), (1, .getfield 7, 12, 0, 1576, 0, 0), (4, .iload_n 1, 0, 0, 0, 0, 0), (5, .iaload, 0, 0, 0, 0, 0), (6, .sipush 2400, 0, 0, 0, 2400, 0), (9, .isub, 0, 0, 0, 0, 0), (10, .istore_n 2, 0, 0, 0, 0, 0), (11, .aload_n 0, 0, 0, 0, 0, 0), (12, .getfield 7, 12, 0, 1576, 0, 0), (15, .iload_n 1, 0, 0, 0, 0, 0), (16, .iconst 1, 0, 0, 0, 1, 0), (17, .iadd, 0, 0, 0, 0, 0), (18, .iaload, 0, 0, 0, 0, 0), (19, .istore_n 3, 0, 0, 0, 0, 0), (20, .iload_n 2, 0, 0, 0, 0, 0), (21, .bipush 15, 0, 0, 0, 15, 0), (23, .if_icmp .ne 23, 0, 46, 0, 0, 0)]
theorem oX12_holds_0 : bX12_holds_0.all (mz_ok RX12 cX12_holds 5) = true := by decide +kernel
def bX12_holds_26 : List mz_E := [(26, .aload_n 0, 0, 0, 0, 0, 0), (27, .aload_n 0, 0, 0, 0, 0, 0), (28, .getfield 7, 12, 0, 1576, 0, 0), (31, .iconst 4, 0, 0, 0, 4, 0), (32, .iaload, 0, 0, 0, 0, 0)]
theorem oX12_holds_26 : bX12_holds_26.all (mz_ok RX12 cX12_holds 5) = true := by decide +kernel
def bX12_holds_36 : List mz_E := [(36, .iload_n 3, 0, 0, 0, 0, 0), (37, .if_icmp .ne 7, 0, 44, 0, 0, 0)]
theorem oX12_holds_36 : bX12_holds_36.all (mz_ok RX12 cX12_holds 5) = true := by decide +kernel
def bX12_holds_40 : List mz_E := [(40, .iconst 1, 0, 0, 0, 1, 0), (41, .goto 4, 0, 45, 0, 0, 0)]
theorem oX12_holds_40 : bX12_holds_40.all (mz_ok RX12 cX12_holds 5) = true := by decide +kernel
def bX12_holds_44 : List mz_E := [(44, .iconst 0, 0, 0, 0, 0, 0)]
theorem oX12_holds_44 : bX12_holds_44.all (mz_ok RX12 cX12_holds 5) = true := by decide +kernel
def bX12_holds_46 : List mz_E := [(46, .iload_n 2, 0, 0, 0, 0, 0), (47, .bipush 28, 0, 0, 0, 28, 0), (49, .if_icmp .ne 17, 0, 66, 0, 0, 0)]
theorem oX12_holds_46 : bX12_holds_46.all (mz_ok RX12 cX12_holds 5) = true := by decide +kernel
def bX12_holds_52 : List mz_E := [(52, .aload_n 0, 0, 0, 0, 0, 0), (53, .getfield 7, 12, 0, 1576, 0, 0), (56, .iload_n 3, 0, 0, 0, 0, 0)]
theorem oX12_holds_52 : bX12_holds_52.all (mz_ok RX12 cX12_holds 5) = true := by decide +kernel
def bX12_holds_60 : List mz_E := [(60, .iconst 5, 0, 0, 0, 5, 0), (61, .iadd, 0, 0, 0, 0, 0), (62, .iaload, 0, 0, 0, 0, 0), (63, .goto 20, 0, 83, 0, 0, 0)]
theorem oX12_holds_60 : bX12_holds_60.all (mz_ok RX12 cX12_holds 5) = true := by decide +kernel
def bX12_holds_83 : List mz_E := [(83, .istore 4, 0, 0, 0, 0, 0), (85, .aload_n 0, 0, 0, 0, 0, 0), (86, .getfield 7, 12, 0, 1576, 0, 0), (89, .iload_n 1, 0, 0, 0, 0, 0), (90, .iconst 5, 0, 0, 0, 5, 0), (91, .iadd, 0, 0, 0, 0, 0), (92, .iaload, 0, 0, 0, 0, 0), (93, .bipush 60, 0, 0, 0, 60, 0), (95, .if_icmp .ne 24, 0, 119, 0, 0, 0)]
theorem oX12_holds_83 : bX12_holds_83.all (mz_ok RX12 cX12_holds 5) = true := by decide +kernel
def bX12_holds_98 : List mz_E := [(98, .iload 4, 0, 0, 0, 0, 0), (100, .aload_n 0, 0, 0, 0, 0, 0), (101, .getfield 7, 12, 0, 1576, 0, 0), (104, .iload_n 1, 0, 0, 0, 0, 0), (105, .iconst 3, 0, 0, 0, 3, 0), (106, .iadd, 0, 0, 0, 0, 0), (107, .iaload, 0, 0, 0, 0, 0), (108, .if_icmp .ge 7, 0, 115, 0, 0, 0)]
theorem oX12_holds_98 : bX12_holds_98.all (mz_ok RX12 cX12_holds 5) = true := by decide +kernel
def bX12_holds_115 : List mz_E := [(115, .iconst 0, 0, 0, 0, 0, 0), (116, .goto 55, 0, 171, 0, 0, 0)]
theorem oX12_holds_115 : bX12_holds_115.all (mz_ok RX12 cX12_holds 5) = true := by decide +kernel
def bX12_holds_111 : List mz_E := [(111, .iconst 1, 0, 0, 0, 1, 0), (112, .goto 59, 0, 171, 0, 0, 0)]
theorem oX12_holds_111 : bX12_holds_111.all (mz_ok RX12 cX12_holds 5) = true := by decide +kernel
def bX12_holds_119 : List mz_E := [(119, .aload_n 0, 0, 0, 0, 0, 0), (120, .getfield 7, 12, 0, 1576, 0, 0), (123, .iload_n 1, 0, 0, 0, 0, 0), (124, .iconst 5, 0, 0, 0, 5, 0), (125, .iadd, 0, 0, 0, 0, 0), (126, .iaload, 0, 0, 0, 0, 0), (127, .bipush 62, 0, 0, 0, 62, 0), (129, .if_icmp .ne 24, 0, 153, 0, 0, 0)]
theorem oX12_holds_119 : bX12_holds_119.all (mz_ok RX12 cX12_holds 5) = true := by decide +kernel
def bX12_holds_132 : List mz_E := [(132, .iload 4, 0, 0, 0, 0, 0), (134, .aload_n 0, 0, 0, 0, 0, 0), (135, .getfield 7, 12, 0, 1576, 0, 0), (138, .iload_n 1, 0, 0, 0, 0, 0), (139, .iconst 3, 0, 0, 0, 3, 0), (140, .iadd, 0, 0, 0, 0, 0), (141, .iaload, 0, 0, 0, 0, 0), (142, .if_icmp .le 7, 0, 149, 0, 0, 0)]
theorem oX12_holds_132 : bX12_holds_132.all (mz_ok RX12 cX12_holds 5) = true := by decide +kernel
def bX12_holds_149 : List mz_E := [(149, .iconst 0, 0, 0, 0, 0, 0), (150, .goto 21, 0, 171, 0, 0, 0)]
theorem oX12_holds_149 : bX12_holds_149.all (mz_ok RX12 cX12_holds 5) = true := by decide +kernel
def bX12_holds_145 : List mz_E := [(145, .iconst 1, 0, 0, 0, 1, 0), (146, .goto 25, 0, 171, 0, 0, 0)]
theorem oX12_holds_145 : bX12_holds_145.all (mz_ok RX12 cX12_holds 5) = true := by decide +kernel
def bX12_holds_153 : List mz_E := [(153, .iload 4, 0, 0, 0, 0, 0), (155, .aload_n 0, 0, 0, 0, 0, 0), (156, .getfield 7, 12, 0, 1576, 0, 0), (159, .iload_n 1, 0, 0, 0, 0, 0), (160, .iconst 3, 0, 0, 0, 3, 0), (161, .iadd, 0, 0, 0, 0, 0), (162, .iaload, 0, 0, 0, 0, 0), (163, .if_icmp .ne 7, 0, 170, 0, 0, 0)]
theorem oX12_holds_153 : bX12_holds_153.all (mz_ok RX12 cX12_holds 5) = true := by decide +kernel
def bX12_holds_166 : List mz_E := [(166, .iconst 1, 0, 0, 0, 1, 0), (167, .goto 4, 0, 171, 0, 0, 0)]
theorem oX12_holds_166 : bX12_holds_166.all (mz_ok RX12 cX12_holds 5) = true := by decide +kernel
def bX12_holds_170 : List mz_E := [(170, .iconst 0, 0, 0, 0, 0, 0)]
theorem oX12_holds_170 : bX12_holds_170.all (mz_ok RX12 cX12_holds 5) = true := by decide +kernel
def bX12_holds_66 : List mz_E := [(66, .aload_n 0, 0, 0, 0, 0, 0), (67, .getfield 7, 12, 0, 1576, 0, 0), (70, .iload_n 3, 0, 0, 0, 0, 0), (71, .aload_n 0, 0, 0, 0, 0, 0), (72, .getfield 7, 12, 0, 1576, 0, 0), (75, .iload_n 1, 0, 0, 0, 0, 0), (76, .iconst 2, 0, 0, 0, 2, 0), (77, .iadd, 0, 0, 0, 0, 0), (78, .iaload, 0, 0, 0, 0, 0)]
theorem oX12_holds_66 : bX12_holds_66.all (mz_ok RX12 cX12_holds 5) = true := by decide +kernel
def bX12_holds_82 : List mz_E := [(82, .iaload, 0, 0, 0, 0, 0)]
theorem oX12_holds_82 : bX12_holds_82.all (mz_ok RX12 cX12_holds 5) = true := by decide +kernel
abbrev IX12_holds : mz_I := (yX12_holds, cX12_holds, 5, (some .boolean), 0, 4, 0, 0)
theorem kX12_holds : mz_okm IX12_holds 2277 141 2276 1 = true := by decide +kernel
theorem vX12_holds : mz_okV IX12_holds 2276 122 = true := by decide +kernel
def fX12_holds_83 (D : mz_D) (x1 : Int32) (s0 : Int32) : Option Int32 := (mz_gd (mz_ix (x1 + (5 : Int32)) 3000) (if (D.1 0 201 ((x1 + (5 : Int32))).toNatClampNeg) = (60 : Int32) then (mz_gd (mz_ix (x1 + (3 : Int32)) 3000) (if (D.1 0 201 ((x1 + (3 : Int32))).toNatClampNeg) ≤ s0 then (some (0 : Int32)) else (some (1 : Int32)))) else (if (D.1 0 201 ((x1 + (5 : Int32))).toNatClampNeg) = (62 : Int32) then (mz_gd (mz_ix (x1 + (3 : Int32)) 3000) (if s0 ≤ (D.1 0 201 ((x1 + (3 : Int32))).toNatClampNeg) then (some (0 : Int32)) else (some (1 : Int32)))) else (mz_gd (mz_ix (x1 + (3 : Int32)) 3000) (if s0 = (D.1 0 201 ((x1 + (3 : Int32))).toNatClampNeg) then (some (1 : Int32)) else (some (0 : Int32)))))))
set_option maxHeartbeats 4000000 in
theorem tX12_holds_83 (D : mz_D) (r : Int32) : ∀ (x1 : Int32) (s0 : Int32), fX12_holds_83 D x1 s0 = some r → mz_Go IX12_holds (some (.inl r), D) 0 0 (83, [some (.inr (.inr (some (0, 200)))), some (.inl x1), none, none, none], [.inl s0], D) := by
  intro x1 s0 h
  rw [fX12_holds_83] at h
  obtain ⟨hb1, h⟩ := mz_gd_some h
  refine mz_Go.run (gs := [mz_kz 0 0 200, mz_kz 0 0 201, mz_ix (x1 + (5 : Int32)) 3000]) (st' := (if (D.1 0 201 ((x1 + (5 : Int32))).toNatClampNeg) = (60 : Int32) then (98, [some (.inr (.inr (some (0, 200)))), some (.inl x1), none, none, some (.inl s0)], [], D) else (119, [some (.inr (.inr (some (0, 200)))), some (.inl x1), none, none, some (.inl s0)], [], D))) bX12_holds_83 oX12_holds_83 rfl ⟨rfl, rfl, hb1, trivial⟩ ?_
  refine mz_Go.ite (fun hc2 => ?_) (fun hc2 => ?_)
  · have h := mz_ifp hc2 h
    obtain ⟨hb3, h⟩ := mz_gd_some h
    refine mz_Go.run (gs := [mz_kz 0 0 200, mz_kz 0 0 201, mz_ix (x1 + (3 : Int32)) 3000]) (st' := (if (D.1 0 201 ((x1 + (3 : Int32))).toNatClampNeg) ≤ s0 then (115, [some (.inr (.inr (some (0, 200)))), some (.inl x1), none, none, some (.inl s0)], [], D) else (111, [some (.inr (.inr (some (0, 200)))), some (.inl x1), none, none, some (.inl s0)], [], D))) bX12_holds_98 oX12_holds_98 rfl ⟨rfl, rfl, hb3, trivial⟩ ?_
    refine mz_Go.ite (fun hc4 => ?_) (fun hc4 => ?_)
    · have h := mz_ifp hc4 h
      refine mz_Go.run (gs := []) (st' := (171, [some (.inr (.inr (some (0, 200)))), some (.inl x1), none, none, some (.inl s0)], [.inl (0 : Int32)], D)) bX12_holds_115 oX12_holds_115 rfl trivial ?_
      cases h
      exact mz_Go.retz (by decide +kernel) rfl ⟨Nat.le_refl _, Nat.le_refl _⟩ (by decide) rfl
    · have h := mz_ifn hc4 h
      refine mz_Go.run (gs := []) (st' := (171, [some (.inr (.inr (some (0, 200)))), some (.inl x1), none, none, some (.inl s0)], [.inl (1 : Int32)], D)) bX12_holds_111 oX12_holds_111 rfl trivial ?_
      cases h
      exact mz_Go.retz (by decide +kernel) rfl ⟨Nat.le_refl _, Nat.le_refl _⟩ (by decide) rfl
  · have h := mz_ifn hc2 h
    refine mz_Go.run (gs := [mz_kz 0 0 200, mz_kz 0 0 201, mz_ix (x1 + (5 : Int32)) 3000]) (st' := (if (D.1 0 201 ((x1 + (5 : Int32))).toNatClampNeg) = (62 : Int32) then (132, [some (.inr (.inr (some (0, 200)))), some (.inl x1), none, none, some (.inl s0)], [], D) else (153, [some (.inr (.inr (some (0, 200)))), some (.inl x1), none, none, some (.inl s0)], [], D))) bX12_holds_119 oX12_holds_119 rfl ⟨rfl, rfl, hb1, trivial⟩ ?_
    refine mz_Go.ite (fun hc5 => ?_) (fun hc5 => ?_)
    · have h := mz_ifp hc5 h
      obtain ⟨hb6, h⟩ := mz_gd_some h
      refine mz_Go.run (gs := [mz_kz 0 0 200, mz_kz 0 0 201, mz_ix (x1 + (3 : Int32)) 3000]) (st' := (if s0 ≤ (D.1 0 201 ((x1 + (3 : Int32))).toNatClampNeg) then (149, [some (.inr (.inr (some (0, 200)))), some (.inl x1), none, none, some (.inl s0)], [], D) else (145, [some (.inr (.inr (some (0, 200)))), some (.inl x1), none, none, some (.inl s0)], [], D))) bX12_holds_132 oX12_holds_132 rfl ⟨rfl, rfl, hb6, trivial⟩ ?_
      refine mz_Go.ite (fun hc7 => ?_) (fun hc7 => ?_)
      · have h := mz_ifp hc7 h
        refine mz_Go.run (gs := []) (st' := (171, [some (.inr (.inr (some (0, 200)))), some (.inl x1), none, none, some (.inl s0)], [.inl (0 : Int32)], D)) bX12_holds_149 oX12_holds_149 rfl trivial ?_
        cases h
        exact mz_Go.retz (by decide +kernel) rfl ⟨Nat.le_refl _, Nat.le_refl _⟩ (by decide) rfl
      · have h := mz_ifn hc7 h
        refine mz_Go.run (gs := []) (st' := (171, [some (.inr (.inr (some (0, 200)))), some (.inl x1), none, none, some (.inl s0)], [.inl (1 : Int32)], D)) bX12_holds_145 oX12_holds_145 rfl trivial ?_
        cases h
        exact mz_Go.retz (by decide +kernel) rfl ⟨Nat.le_refl _, Nat.le_refl _⟩ (by decide) rfl
    · have h := mz_ifn hc5 h
      obtain ⟨hb8, h⟩ := mz_gd_some h
      refine mz_Go.run (gs := [mz_kz 0 0 200, mz_kz 0 0 201, mz_ix (x1 + (3 : Int32)) 3000]) (st' := (if s0 = (D.1 0 201 ((x1 + (3 : Int32))).toNatClampNeg) then (166, [some (.inr (.inr (some (0, 200)))), some (.inl x1), none, none, some (.inl s0)], [], D) else (170, [some (.inr (.inr (some (0, 200)))), some (.inl x1), none, none, some (.inl s0)], [], D))) bX12_holds_153 oX12_holds_153 rfl ⟨rfl, rfl, hb8, trivial⟩ ?_
      refine mz_Go.ite (fun hc9 => ?_) (fun hc9 => ?_)
      · have h := mz_ifp hc9 h
        refine mz_Go.run (gs := []) (st' := (171, [some (.inr (.inr (some (0, 200)))), some (.inl x1), none, none, some (.inl s0)], [.inl (1 : Int32)], D)) bX12_holds_166 oX12_holds_166 rfl trivial ?_
        cases h
        exact mz_Go.retz (by decide +kernel) rfl ⟨Nat.le_refl _, Nat.le_refl _⟩ (by decide) rfl
      · have h := mz_ifn hc9 h
        refine mz_Go.run (gs := []) (st' := (171, [some (.inr (.inr (some (0, 200)))), some (.inl x1), none, none, some (.inl s0)], [.inl (0 : Int32)], D)) bX12_holds_170 oX12_holds_170 rfl trivial ?_
        cases h
        exact mz_Go.retz (by decide +kernel) rfl ⟨Nat.le_refl _, Nat.le_refl _⟩ (by decide) rfl
def fX12_holds (x1 : Int32) (D : mz_D) : Option Int32 := (mz_gd (mz_ix x1 3000) (mz_gd (mz_ix (x1 + (1 : Int32)) 3000) (if ((D.1 0 201 (x1).toNatClampNeg) - (2400 : Int32)) = (15 : Int32) then (Option.bind (fX12_turnOf (D.1 0 201 ((4 : Int32)).toNatClampNeg) D) fun q4 => (if q4 = (D.1 0 201 ((x1 + (1 : Int32))).toNatClampNeg) then (some (1 : Int32)) else (some (0 : Int32)))) else (if ((D.1 0 201 (x1).toNatClampNeg) - (2400 : Int32)) = (28 : Int32) then (mz_gd (mz_ix (((12 : Int32) + ((8 : Int32) * (D.1 0 201 ((x1 + (1 : Int32))).toNatClampNeg))) + (5 : Int32)) 3000) (fX12_holds_83 D x1 (D.1 0 201 ((((12 : Int32) + ((8 : Int32) * (D.1 0 201 ((x1 + (1 : Int32))).toNatClampNeg))) + (5 : Int32))).toNatClampNeg))) else (mz_gd (mz_ix (x1 + (2 : Int32)) 3000) (mz_gd (mz_ix (((92 : Int32) + ((6 : Int32) * (D.1 0 201 ((x1 + (1 : Int32))).toNatClampNeg))) + (D.1 0 201 ((x1 + (2 : Int32))).toNatClampNeg)) 3000) (fX12_holds_83 D x1 (D.1 0 201 ((((92 : Int32) + ((6 : Int32) * (D.1 0 201 ((x1 + (1 : Int32))).toNatClampNeg))) + (D.1 0 201 ((x1 + (2 : Int32))).toNatClampNeg))).toNatClampNeg))))))))
set_option maxHeartbeats 4000000 in
theorem mX12_holds (x1 : Int32) (D : mz_D) (r : Int32) (h : fX12_holds x1 D = some r) : mz_Met IX12_holds [.inr (.inr (some (0, 200))), .inl x1] D (some (.inl r), D) := by
  refine mz_Met.of (by decide +kernel) (Nat.le_of_ble_eq_true rfl) ?_
  show mz_Go IX12_holds (some (.inl r), D) 0 0 (0, [some (.inr (.inr (some (0, 200)))), some (.inl x1), none, none, none], [], D)
  rw [fX12_holds] at h
  obtain ⟨hb1, h⟩ := mz_gd_some h
  obtain ⟨hb2, h⟩ := mz_gd_some h
  refine mz_Go.run (gs := [mz_kz 0 0 200, mz_kz 0 0 201, mz_ix x1 3000, mz_kz 0 0 200, mz_kz 0 0 201, mz_ix (x1 + (1 : Int32)) 3000]) (st' := (if ((D.1 0 201 (x1).toNatClampNeg) - (2400 : Int32)) = (15 : Int32) then (26, [some (.inr (.inr (some (0, 200)))), some (.inl x1), some (.inl ((D.1 0 201 (x1).toNatClampNeg) - (2400 : Int32))), some (.inl (D.1 0 201 ((x1 + (1 : Int32))).toNatClampNeg)), none], [], D) else (46, [some (.inr (.inr (some (0, 200)))), some (.inl x1), some (.inl ((D.1 0 201 (x1).toNatClampNeg) - (2400 : Int32))), some (.inl (D.1 0 201 ((x1 + (1 : Int32))).toNatClampNeg)), none], [], D))) bX12_holds_0 oX12_holds_0 rfl ⟨rfl, rfl, hb1, rfl, rfl, hb2, trivial⟩ ?_
  refine mz_Go.ite (fun hc3 => ?_) (fun hc3 => ?_)
  · have h := mz_ifp hc3 h
    refine mz_Go.run (gs := [mz_kz 0 0 200, mz_kz 0 0 201, mz_ix (4 : Int32) 3000]) (st' := (33, [some (.inr (.inr (some (0, 200)))), some (.inl x1), some (.inl ((D.1 0 201 (x1).toNatClampNeg) - (2400 : Int32))), some (.inl (D.1 0 201 ((x1 + (1 : Int32))).toNatClampNeg)), none], [.inl (D.1 0 201 ((4 : Int32)).toNatClampNeg), .inr (.inr (some (0, 200)))], D)) bX12_holds_26 oX12_holds_26 rfl ⟨rfl, rfl, (by decide), trivial⟩ ?_
    obtain ⟨q4, hq4, h⟩ := mz_bd_some h
    refine mz_Go.callV (I := IX12_holds) (J := IX12_turnOf) (as := [.inl (D.1 0 201 ((4 : Int32)).toNatClampNeg)]) (ci := 12) (g := 0) (o := 200) (idx := 325) (pl := 2016) (rest := []) (mX12_turnOf (D.1 0 201 ((4 : Int32)).toNatClampNeg) D q4 hq4) kX12_turnOf vX12_turnOf (by decide +kernel) (by decide +kernel) (by decide +kernel) rfl rfl ⟨rfl, rfl⟩ rfl rfl rfl rfl ?_
    refine mz_Go.run (gs := []) (st' := (if q4 = (D.1 0 201 ((x1 + (1 : Int32))).toNatClampNeg) then (40, [some (.inr (.inr (some (0, 200)))), some (.inl x1), some (.inl ((D.1 0 201 (x1).toNatClampNeg) - (2400 : Int32))), some (.inl (D.1 0 201 ((x1 + (1 : Int32))).toNatClampNeg)), none], [], D) else (44, [some (.inr (.inr (some (0, 200)))), some (.inl x1), some (.inl ((D.1 0 201 (x1).toNatClampNeg) - (2400 : Int32))), some (.inl (D.1 0 201 ((x1 + (1 : Int32))).toNatClampNeg)), none], [], D))) bX12_holds_36 oX12_holds_36 rfl trivial ?_
    refine mz_Go.ite (fun hc5 => ?_) (fun hc5 => ?_)
    · have h := mz_ifp hc5 h
      refine mz_Go.run (gs := []) (st' := (45, [some (.inr (.inr (some (0, 200)))), some (.inl x1), some (.inl ((D.1 0 201 (x1).toNatClampNeg) - (2400 : Int32))), some (.inl (D.1 0 201 ((x1 + (1 : Int32))).toNatClampNeg)), none], [.inl (1 : Int32)], D)) bX12_holds_40 oX12_holds_40 rfl trivial ?_
      cases h
      exact mz_Go.retz (by decide +kernel) rfl ⟨Nat.le_refl _, Nat.le_refl _⟩ (by decide) rfl
    · have h := mz_ifn hc5 h
      refine mz_Go.run (gs := []) (st' := (45, [some (.inr (.inr (some (0, 200)))), some (.inl x1), some (.inl ((D.1 0 201 (x1).toNatClampNeg) - (2400 : Int32))), some (.inl (D.1 0 201 ((x1 + (1 : Int32))).toNatClampNeg)), none], [.inl (0 : Int32)], D)) bX12_holds_44 oX12_holds_44 rfl trivial ?_
      cases h
      exact mz_Go.retz (by decide +kernel) rfl ⟨Nat.le_refl _, Nat.le_refl _⟩ (by decide) rfl
  · have h := mz_ifn hc3 h
    refine mz_Go.run (gs := []) (st' := (if ((D.1 0 201 (x1).toNatClampNeg) - (2400 : Int32)) = (28 : Int32) then (52, [some (.inr (.inr (some (0, 200)))), some (.inl x1), some (.inl ((D.1 0 201 (x1).toNatClampNeg) - (2400 : Int32))), some (.inl (D.1 0 201 ((x1 + (1 : Int32))).toNatClampNeg)), none], [], D) else (66, [some (.inr (.inr (some (0, 200)))), some (.inl x1), some (.inl ((D.1 0 201 (x1).toNatClampNeg) - (2400 : Int32))), some (.inl (D.1 0 201 ((x1 + (1 : Int32))).toNatClampNeg)), none], [], D))) bX12_holds_46 oX12_holds_46 rfl trivial ?_
    refine mz_Go.ite (fun hc6 => ?_) (fun hc6 => ?_)
    · have h := mz_ifp hc6 h
      refine mz_Go.run (gs := [mz_kz 0 0 200]) (st' := (57, [some (.inr (.inr (some (0, 200)))), some (.inl x1), some (.inl ((D.1 0 201 (x1).toNatClampNeg) - (2400 : Int32))), some (.inl (D.1 0 201 ((x1 + (1 : Int32))).toNatClampNeg)), none], [.inl (D.1 0 201 ((x1 + (1 : Int32))).toNatClampNeg), .inr (.inr (some (0, 201)))], D)) bX12_holds_52 oX12_holds_52 rfl ⟨rfl, trivial⟩ ?_
      refine mz_Go.callS (I := IX12_holds) (J := IX12_personRow) (as := [.inl (D.1 0 201 ((x1 + (1 : Int32))).toNatClampNeg)]) (idx := 267) (pl := 1895) (rest := [.inr (.inr (some (0, 201)))]) (mX12_personRow (D.1 0 201 ((x1 + (1 : Int32))).toNatClampNeg) D) kX12_personRow vX12_personRow (by decide +kernel) (by decide +kernel) (by decide +kernel) rfl rfl ⟨rfl, rfl⟩ rfl ?_
      obtain ⟨hb7, h⟩ := mz_gd_some h
      refine mz_Go.run (gs := [mz_kz 0 0 201, mz_ix (((12 : Int32) + ((8 : Int32) * (D.1 0 201 ((x1 + (1 : Int32))).toNatClampNeg))) + (5 : Int32)) 3000]) (st' := (83, [some (.inr (.inr (some (0, 200)))), some (.inl x1), some (.inl ((D.1 0 201 (x1).toNatClampNeg) - (2400 : Int32))), some (.inl (D.1 0 201 ((x1 + (1 : Int32))).toNatClampNeg)), none], [.inl (D.1 0 201 ((((12 : Int32) + ((8 : Int32) * (D.1 0 201 ((x1 + (1 : Int32))).toNatClampNeg))) + (5 : Int32))).toNatClampNeg)], D)) bX12_holds_60 oX12_holds_60 rfl ⟨rfl, hb7, trivial⟩ ?_
      exact mz_Go.drop [true, true, false, false, false] (tX12_holds_83 D r x1 (D.1 0 201 ((((12 : Int32) + ((8 : Int32) * (D.1 0 201 ((x1 + (1 : Int32))).toNatClampNeg))) + (5 : Int32))).toNatClampNeg) h)
    · have h := mz_ifn hc6 h
      obtain ⟨hb8, h⟩ := mz_gd_some h
      refine mz_Go.run (gs := [mz_kz 0 0 200, mz_kz 0 0 200, mz_kz 0 0 201, mz_ix (x1 + (2 : Int32)) 3000]) (st' := (79, [some (.inr (.inr (some (0, 200)))), some (.inl x1), some (.inl ((D.1 0 201 (x1).toNatClampNeg) - (2400 : Int32))), some (.inl (D.1 0 201 ((x1 + (1 : Int32))).toNatClampNeg)), none], [.inl (D.1 0 201 ((x1 + (2 : Int32))).toNatClampNeg), .inl (D.1 0 201 ((x1 + (1 : Int32))).toNatClampNeg), .inr (.inr (some (0, 201)))], D)) bX12_holds_66 oX12_holds_66 rfl ⟨rfl, rfl, rfl, hb8, trivial⟩ ?_
      refine mz_Go.callS (I := IX12_holds) (J := IX12_debtRow) (as := [.inl (D.1 0 201 ((x1 + (1 : Int32))).toNatClampNeg), .inl (D.1 0 201 ((x1 + (2 : Int32))).toNatClampNeg)]) (idx := 312) (pl := 2008) (rest := [.inr (.inr (some (0, 201)))]) (mX12_debtRow (D.1 0 201 ((x1 + (1 : Int32))).toNatClampNeg) (D.1 0 201 ((x1 + (2 : Int32))).toNatClampNeg) D) kX12_debtRow vX12_debtRow (by decide +kernel) (by decide +kernel) (by decide +kernel) rfl rfl ⟨rfl, rfl⟩ rfl ?_
      obtain ⟨hb9, h⟩ := mz_gd_some h
      refine mz_Go.run (gs := [mz_kz 0 0 201, mz_ix (((92 : Int32) + ((6 : Int32) * (D.1 0 201 ((x1 + (1 : Int32))).toNatClampNeg))) + (D.1 0 201 ((x1 + (2 : Int32))).toNatClampNeg)) 3000]) (st' := (83, [some (.inr (.inr (some (0, 200)))), some (.inl x1), some (.inl ((D.1 0 201 (x1).toNatClampNeg) - (2400 : Int32))), some (.inl (D.1 0 201 ((x1 + (1 : Int32))).toNatClampNeg)), none], [.inl (D.1 0 201 ((((92 : Int32) + ((6 : Int32) * (D.1 0 201 ((x1 + (1 : Int32))).toNatClampNeg))) + (D.1 0 201 ((x1 + (2 : Int32))).toNatClampNeg))).toNatClampNeg)], D)) bX12_holds_82 oX12_holds_82 rfl ⟨rfl, hb9, trivial⟩ ?_
      exact mz_Go.drop [true, true, false, false, false] (tX12_holds_83 D r x1 (D.1 0 201 ((((92 : Int32) + ((6 : Int32) * (D.1 0 201 ((x1 + (1 : Int32))).toNatClampNeg))) + (D.1 0 201 ((x1 + (2 : Int32))).toNatClampNeg))).toNatClampNeg) h)
def bX12_behindEnds_0 : List mz_E := [(0, .iload_n 1, 0, 0, 0, 0, 0), (1, .istore_n 2, 0, 0, 0, 0, 0)]
theorem oX12_behindEnds_0 : bX12_behindEnds_0.all (mz_ok RX12 cX12_behindEnds 5) = true := by decide +kernel
def bX12_behindEnds_2 : List mz_E := [(2, .iload_n 2, 0, 0, 0, 0, 0), (3, .aload_n 0, 0, 0, 0, 0, 0), (4, .getfield 7, 12, 0, 1576, 0, 0), (7, .bipush 9, 0, 0, 0, 9, 0), (9, .iaload, 0, 0, 0, 0, 0), (10, .if_icmp .ge 108, 0, 118, 0, 0, 0)]
theorem oX12_behindEnds_2 : bX12_behindEnds_2.all (mz_ok RX12 cX12_behindEnds 5) = true := by decide +kernel
def bX12_behindEnds_118 : List mz_E := [(118, .iload_n 2, 0, 0, 0, 0, 0)]
theorem oX12_behindEnds_118 : bX12_behindEnds_118.all (mz_ok RX12 cX12_behindEnds 5) = true := by decide +kernel
def bX12_behindEnds_13 : List mz_E := [(13, .aload_n 0, 0, 0, 0, 0, 0), (14, .getfield 7, 12, 0, 1576, 0, 0), (17, .sipush 130, 0, 0, 0, 130, 0), (20, .bipush 6, 0, 0, 0, 6, 0), (22, .iload_n 2, 0, 0, 0, 0, 0), (23, .imul, 0, 0, 0, 0, 0), (24, .iadd, 0, 0, 0, 0, 0), (25, .iaload, 0, 0, 0, 0, 0), (26, .bipush 26, 0, 0, 0, 26, 0), (28, .if_icmp .ne 90, 0, 118, 0, 0, 0)]
theorem oX12_behindEnds_13 : bX12_behindEnds_13.all (mz_ok RX12 cX12_behindEnds 5) = true := by decide +kernel
def bX12_behindEnds_31 : List mz_E := [(31, .aload_n 0, 0, 0, 0, 0, 0), (32, .getfield 7, 12, 0, 1576, 0, 0), (35, .sipush 130, 0, 0, 0, 130, 0), (38, .bipush 6, 0, 0, 0, 6, 0), (40, .iload_n 2, 0, 0, 0, 0, 0), (41, .imul, 0, 0, 0, 0, 0), (42, .iadd, 0, 0, 0, 0, 0), (43, .iconst 4, 0, 0, 0, 4, 0), (44, .iadd, 0, 0, 0, 0, 0), (45, .iaload, 0, 0, 0, 0, 0), (46, .istore_n 3, 0, 0, 0, 0, 0), (47, .aload_n 0, 0, 0, 0, 0, 0), (48, .getfield 7, 12, 0, 1576, 0, 0), (51, .sipush 130, 0, 0, 0, 130, 0), (54, .bipush 6, 0, 0, 0, 6, 0), (56, .iload_n 3, 0, 0, 0, 0, 0), (57, .imul, 0, 0, 0, 0, 0), (58, .iadd, 0, 0, 0, 0, 0), (59, .iaload, 0, 0, 0, 0, 0), (60, .bipush 25, 0, 0, 0, 25, 0), (62, .if_icmp .ne 16, 0, 78, 0, 0, 0)]
theorem oX12_behindEnds_31 : bX12_behindEnds_31.all (mz_ok RX12 cX12_behindEnds 5) = true := by decide +kernel
def bX12_behindEnds_65 : List mz_E := [(65, .aload_n 0, 0, 0, 0, 0, 0), (66, .getfield 56, 12, 30, 1606, 0, 0), (69, .iload_n 3, 0, 0, 0, 0, 0), (70, .iaload, 0, 0, 0, 0, 0), (71, .ifCond .le 7, 0, 78, 0, 0, 0)]
theorem oX12_behindEnds_65 : bX12_behindEnds_65.all (mz_ok RX12 cX12_behindEnds 5) = true := by decide +kernel
def bX12_behindEnds_78 : List mz_E := [(78, .iconst 0, 0, 0, 0, 0, 0)]
theorem oX12_behindEnds_78 : bX12_behindEnds_78.all (mz_ok RX12 cX12_behindEnds 5) = true := by decide +kernel
def bX12_behindEnds_79 : List mz_E := [(79, .istore 4, 0, 0, 0, 0, 0), (81, .aload_n 0, 0, 0, 0, 0, 0), (82, .getfield 56, 12, 30, 1606, 0, 0), (85, .iload_n 3, 0, 0, 0, 0, 0), (86, .dup2, 0, 0, 0, 0, 0), (87, .iaload, 0, 0, 0, 0, 0), (88, .iload 4, 0, 0, 0, 0, 0), (90, .ifCond .eq 7, 0, 97, 0, 0, 0)]
theorem oX12_behindEnds_79 : bX12_behindEnds_79.all (mz_ok RX12 cX12_behindEnds 5) = true := by decide +kernel
def bX12_behindEnds_97 : List mz_E := [(97, .iconst 0, 0, 0, 0, 0, 0)]
theorem oX12_behindEnds_97 : bX12_behindEnds_97.all (mz_ok RX12 cX12_behindEnds 5) = true := by decide +kernel
def bX12_behindEnds_98 : List mz_E := [(98, .isub, 0, 0, 0, 0, 0), (99, .iastore, 0, 0, 0, 0, 0), (100, .iload 4, 0, 0, 0, 0, 0), (102, .ifCond .eq 9, 0, 111, 0, 0, 0)]
theorem oX12_behindEnds_98 : bX12_behindEnds_98.all (mz_ok RX12 cX12_behindEnds 5) = true := by decide +kernel
def bX12_behindEnds_111 : List mz_E := [(111, .iload_n 2, 0, 0, 0, 0, 0), (112, .iconst 1, 0, 0, 0, 1, 0), (113, .iadd, 0, 0, 0, 0, 0), (114, .istore_n 2, 0, 0, 0, 0, 0), (115, .goto (-113), 0, 2, 0, 0, 0)]
theorem oX12_behindEnds_111 : bX12_behindEnds_111.all (mz_ok RX12 cX12_behindEnds 5) = true := by decide +kernel
def bX12_behindEnds_105 : List mz_E := [(105, .iload_n 3, 0, 0, 0, 0, 0), (106, .iconst 1, 0, 0, 0, 1, 0), (107, .iadd, 0, 0, 0, 0, 0), (108, .goto 6, 0, 114, 0, 0, 0), (114, .istore_n 2, 0, 0, 0, 0, 0), (115, .goto (-113), 0, 2, 0, 0, 0)]
theorem oX12_behindEnds_105 : bX12_behindEnds_105.all (mz_ok RX12 cX12_behindEnds 5) = true := by decide +kernel
def bX12_behindEnds_93 : List mz_E := [(93, .iconst 1, 0, 0, 0, 1, 0), (94, .goto 4, 0, 98, 0, 0, 0)]
theorem oX12_behindEnds_93 : bX12_behindEnds_93.all (mz_ok RX12 cX12_behindEnds 5) = true := by decide +kernel
def bX12_behindEnds_74 : List mz_E := [(74, .iconst 1, 0, 0, 0, 1, 0), (75, .goto 4, 0, 79, 0, 0, 0)]
theorem oX12_behindEnds_74 : bX12_behindEnds_74.all (mz_ok RX12 cX12_behindEnds 5) = true := by decide +kernel
abbrev IX12_behindEnds : mz_I := (yX12_behindEnds, cX12_behindEnds, 5, (some .int), 0, 0, 0, 0)
theorem kX12_behindEnds : mz_okm IX12_behindEnds 2281 141 2280 1 = true := by decide +kernel
theorem vX12_behindEnds : mz_okV IX12_behindEnds 2280 123 = true := by decide +kernel
def fX12_behindEnds_98 (k2 : Int32 → mz_D → Option (Int32 × mz_D)) (x2 : Int32) (x3 : Int32) (x4 : Int32) (s0 : Int32) (s1 : Int32) (s2 : Int32) (D : mz_D) : Option (Int32 × mz_D) := (mz_gd (mz_ix s2 80) (if x4 = 0 then (k2 (x2 + (1 : Int32)) (mz_wi D 0 212 (s2).toNatClampNeg (s1 - s0))) else (k2 (x3 + (1 : Int32)) (mz_wi D 0 212 (s2).toNatClampNeg (s1 - s0)))))
set_option maxHeartbeats 4000000 in
theorem tX12_behindEnds_98 (r : (Int32 × mz_D)) (k2 : Int32 → mz_D → Option (Int32 × mz_D)) (hk2 : ∀ (x2 : Int32) (D : mz_D), k2 x2 D = some r → mz_Go IX12_behindEnds (some (.inl r.1), r.2) 0 0 (2, [some (.inr (.inr (some (0, 200)))), none, some (.inl x2), none, none], [], D)) : ∀ (x2 : Int32) (x3 : Int32) (x4 : Int32) (s0 : Int32) (s1 : Int32) (s2 : Int32) (D : mz_D), fX12_behindEnds_98 k2 x2 x3 x4 s0 s1 s2 D = some r → mz_Go IX12_behindEnds (some (.inl r.1), r.2) 0 0 (98, [some (.inr (.inr (some (0, 200)))), none, some (.inl x2), some (.inl x3), some (.inl x4)], [.inl s0, .inl s1, .inl s2, .inr (.inr (some (0, 212)))], D) := by
  intro x2 x3 x4 s0 s1 s2 D h
  rw [fX12_behindEnds_98] at h
  obtain ⟨hb1, h⟩ := mz_gd_some h
  refine mz_Go.run (gs := [mz_kz 0 0 212, mz_ix s2 80]) (st' := (if x4 = 0 then (111, [some (.inr (.inr (some (0, 200)))), none, some (.inl x2), some (.inl x3), some (.inl x4)], [], (mz_wi D 0 212 (s2).toNatClampNeg (s1 - s0))) else (105, [some (.inr (.inr (some (0, 200)))), none, some (.inl x2), some (.inl x3), some (.inl x4)], [], (mz_wi D 0 212 (s2).toNatClampNeg (s1 - s0))))) bX12_behindEnds_98 oX12_behindEnds_98 rfl ⟨rfl, hb1, trivial⟩ ?_
  refine mz_Go.ite (fun hc2 => ?_) (fun hc2 => ?_)
  · have h := mz_ifp hc2 h
    refine mz_Go.run (gs := []) (st' := (2, [some (.inr (.inr (some (0, 200)))), none, some (.inl (x2 + (1 : Int32))), some (.inl x3), some (.inl x4)], [], (mz_wi D 0 212 (s2).toNatClampNeg (s1 - s0)))) bX12_behindEnds_111 oX12_behindEnds_111 rfl trivial ?_
    exact mz_Go.drop [true, false, true, false, false] (hk2 (x2 + (1 : Int32)) (mz_wi D 0 212 (s2).toNatClampNeg (s1 - s0)) h)
  · have h := mz_ifn hc2 h
    refine mz_Go.run (gs := []) (st' := (2, [some (.inr (.inr (some (0, 200)))), none, some (.inl (x3 + (1 : Int32))), some (.inl x3), some (.inl x4)], [], (mz_wi D 0 212 (s2).toNatClampNeg (s1 - s0)))) bX12_behindEnds_105 oX12_behindEnds_105 rfl trivial ?_
    exact mz_Go.drop [true, false, true, false, false] (hk2 (x3 + (1 : Int32)) (mz_wi D 0 212 (s2).toNatClampNeg (s1 - s0)) h)
def fX12_behindEnds_79 (k2 : Int32 → mz_D → Option (Int32 × mz_D)) (x2 : Int32) (x3 : Int32) (s0 : Int32) (D : mz_D) : Option (Int32 × mz_D) := (mz_gd (mz_ix x3 80) (if s0 = 0 then (fX12_behindEnds_98 k2 x2 x3 s0 (0 : Int32) (D.1 0 212 (x3).toNatClampNeg) x3 D) else (fX12_behindEnds_98 k2 x2 x3 s0 (1 : Int32) (D.1 0 212 (x3).toNatClampNeg) x3 D)))
set_option maxHeartbeats 4000000 in
theorem tX12_behindEnds_79 (r : (Int32 × mz_D)) (k2 : Int32 → mz_D → Option (Int32 × mz_D)) (hk2 : ∀ (x2 : Int32) (D : mz_D), k2 x2 D = some r → mz_Go IX12_behindEnds (some (.inl r.1), r.2) 0 0 (2, [some (.inr (.inr (some (0, 200)))), none, some (.inl x2), none, none], [], D)) : ∀ (x2 : Int32) (x3 : Int32) (s0 : Int32) (D : mz_D), fX12_behindEnds_79 k2 x2 x3 s0 D = some r → mz_Go IX12_behindEnds (some (.inl r.1), r.2) 0 0 (79, [some (.inr (.inr (some (0, 200)))), none, some (.inl x2), some (.inl x3), none], [.inl s0], D) := by
  intro x2 x3 s0 D h
  rw [fX12_behindEnds_79] at h
  obtain ⟨hb1, h⟩ := mz_gd_some h
  refine mz_Go.run (gs := [mz_kz 0 0 200, mz_kz 0 0 212, mz_ix x3 80]) (st' := (if s0 = 0 then (97, [some (.inr (.inr (some (0, 200)))), none, some (.inl x2), some (.inl x3), some (.inl s0)], [.inl (D.1 0 212 (x3).toNatClampNeg), .inl x3, .inr (.inr (some (0, 212)))], D) else (93, [some (.inr (.inr (some (0, 200)))), none, some (.inl x2), some (.inl x3), some (.inl s0)], [.inl (D.1 0 212 (x3).toNatClampNeg), .inl x3, .inr (.inr (some (0, 212)))], D))) bX12_behindEnds_79 oX12_behindEnds_79 rfl ⟨rfl, rfl, hb1, trivial⟩ ?_
  refine mz_Go.ite (fun hc2 => ?_) (fun hc2 => ?_)
  · have h := mz_ifp hc2 h
    refine mz_Go.run (gs := []) (st' := (98, [some (.inr (.inr (some (0, 200)))), none, some (.inl x2), some (.inl x3), some (.inl s0)], [.inl (0 : Int32), .inl (D.1 0 212 (x3).toNatClampNeg), .inl x3, .inr (.inr (some (0, 212)))], D)) bX12_behindEnds_97 oX12_behindEnds_97 rfl trivial ?_
    exact mz_Go.drop [true, false, true, true, true] (tX12_behindEnds_98 r k2 hk2 x2 x3 s0 (0 : Int32) (D.1 0 212 (x3).toNatClampNeg) x3 D h)
  · have h := mz_ifn hc2 h
    refine mz_Go.run (gs := []) (st' := (98, [some (.inr (.inr (some (0, 200)))), none, some (.inl x2), some (.inl x3), some (.inl s0)], [.inl (1 : Int32), .inl (D.1 0 212 (x3).toNatClampNeg), .inl x3, .inr (.inr (some (0, 212)))], D)) bX12_behindEnds_93 oX12_behindEnds_93 rfl trivial ?_
    exact mz_Go.drop [true, false, true, true, true] (tX12_behindEnds_98 r k2 hk2 x2 x3 s0 (1 : Int32) (D.1 0 212 (x3).toNatClampNeg) x3 D h)
def fX12_behindEnds_78 (k2 : Int32 → mz_D → Option (Int32 × mz_D)) (x2 : Int32) (x3 : Int32) (D : mz_D) : Option (Int32 × mz_D) := (fX12_behindEnds_79 k2 x2 x3 (0 : Int32) D)
set_option maxHeartbeats 4000000 in
theorem tX12_behindEnds_78 (r : (Int32 × mz_D)) (k2 : Int32 → mz_D → Option (Int32 × mz_D)) (hk2 : ∀ (x2 : Int32) (D : mz_D), k2 x2 D = some r → mz_Go IX12_behindEnds (some (.inl r.1), r.2) 0 0 (2, [some (.inr (.inr (some (0, 200)))), none, some (.inl x2), none, none], [], D)) : ∀ (x2 : Int32) (x3 : Int32) (D : mz_D), fX12_behindEnds_78 k2 x2 x3 D = some r → mz_Go IX12_behindEnds (some (.inl r.1), r.2) 0 0 (78, [some (.inr (.inr (some (0, 200)))), none, some (.inl x2), some (.inl x3), none], [], D) := by
  intro x2 x3 D h
  rw [fX12_behindEnds_78] at h
  refine mz_Go.run (gs := []) (st' := (79, [some (.inr (.inr (some (0, 200)))), none, some (.inl x2), some (.inl x3), none], [.inl (0 : Int32)], D)) bX12_behindEnds_78 oX12_behindEnds_78 rfl trivial ?_
  exact mz_Go.drop [true, false, true, true, false] (tX12_behindEnds_79 r k2 hk2 x2 x3 (0 : Int32) D h)
def fX12_behindEnds_2 : Nat → Int32 → mz_D → Option (Int32 × mz_D)
  | 0 => fun _ _ => none
  | n + 1 => fun x2 D => (if (D.1 0 201 ((9 : Int32)).toNatClampNeg) ≤ x2 then (some (x2, D)) else (mz_gd (mz_ix ((130 : Int32) + ((6 : Int32) * x2)) 3000) (if (D.1 0 201 (((130 : Int32) + ((6 : Int32) * x2))).toNatClampNeg) = (26 : Int32) then (mz_gd (mz_ix (((130 : Int32) + ((6 : Int32) * x2)) + (4 : Int32)) 3000) (mz_gd (mz_ix ((130 : Int32) + ((6 : Int32) * (D.1 0 201 ((((130 : Int32) + ((6 : Int32) * x2)) + (4 : Int32))).toNatClampNeg))) 3000) (if (D.1 0 201 (((130 : Int32) + ((6 : Int32) * (D.1 0 201 ((((130 : Int32) + ((6 : Int32) * x2)) + (4 : Int32))).toNatClampNeg)))).toNatClampNeg) = (25 : Int32) then (mz_gd (mz_ix (D.1 0 201 ((((130 : Int32) + ((6 : Int32) * x2)) + (4 : Int32))).toNatClampNeg) 80) (if (D.1 0 212 ((D.1 0 201 ((((130 : Int32) + ((6 : Int32) * x2)) + (4 : Int32))).toNatClampNeg)).toNatClampNeg) ≤ 0 then (fX12_behindEnds_78 (fX12_behindEnds_2 n) x2 (D.1 0 201 ((((130 : Int32) + ((6 : Int32) * x2)) + (4 : Int32))).toNatClampNeg) D) else (fX12_behindEnds_79 (fX12_behindEnds_2 n) x2 (D.1 0 201 ((((130 : Int32) + ((6 : Int32) * x2)) + (4 : Int32))).toNatClampNeg) (1 : Int32) D))) else (fX12_behindEnds_78 (fX12_behindEnds_2 n) x2 (D.1 0 201 ((((130 : Int32) + ((6 : Int32) * x2)) + (4 : Int32))).toNatClampNeg) D)))) else (some (x2, D)))))
set_option maxHeartbeats 4000000 in
theorem tX12_behindEnds_2 (r : (Int32 × mz_D)) : ∀ (n : Nat) (x2 : Int32) (D : mz_D), fX12_behindEnds_2 n x2 D = some r → mz_Go IX12_behindEnds (some (.inl r.1), r.2) 0 0 (2, [some (.inr (.inr (some (0, 200)))), none, some (.inl x2), none, none], [], D) := by
  intro n
  induction n with
  | zero => intro x2 D h; have h : (none : Option (Int32 × mz_D)) = some r := h; cases h
  | succ n ih =>
    intro x2 D h
    rw [fX12_behindEnds_2] at h
    refine mz_Go.run (gs := [mz_kz 0 0 200, mz_kz 0 0 201, mz_ix (9 : Int32) 3000]) (st' := (if (D.1 0 201 ((9 : Int32)).toNatClampNeg) ≤ x2 then (118, [some (.inr (.inr (some (0, 200)))), none, some (.inl x2), none, none], [], D) else (13, [some (.inr (.inr (some (0, 200)))), none, some (.inl x2), none, none], [], D))) bX12_behindEnds_2 oX12_behindEnds_2 rfl ⟨rfl, rfl, (by decide), trivial⟩ ?_
    refine mz_Go.ite (fun hc1 => ?_) (fun hc1 => ?_)
    · have h := mz_ifp hc1 h
      refine mz_Go.run (gs := []) (st' := (119, [some (.inr (.inr (some (0, 200)))), none, some (.inl x2), none, none], [.inl x2], D)) bX12_behindEnds_118 oX12_behindEnds_118 rfl trivial ?_
      cases h
      exact mz_Go.reti (by decide +kernel) rfl ⟨Nat.le_refl _, Nat.le_refl _⟩ rfl
    · have h := mz_ifn hc1 h
      obtain ⟨hb2, h⟩ := mz_gd_some h
      refine mz_Go.run (gs := [mz_kz 0 0 200, mz_kz 0 0 201, mz_ix ((130 : Int32) + ((6 : Int32) * x2)) 3000]) (st' := (if (D.1 0 201 (((130 : Int32) + ((6 : Int32) * x2))).toNatClampNeg) = (26 : Int32) then (31, [some (.inr (.inr (some (0, 200)))), none, some (.inl x2), none, none], [], D) else (118, [some (.inr (.inr (some (0, 200)))), none, some (.inl x2), none, none], [], D))) bX12_behindEnds_13 oX12_behindEnds_13 rfl ⟨rfl, rfl, hb2, trivial⟩ ?_
      refine mz_Go.ite (fun hc3 => ?_) (fun hc3 => ?_)
      · have h := mz_ifp hc3 h
        obtain ⟨hb4, h⟩ := mz_gd_some h
        obtain ⟨hb5, h⟩ := mz_gd_some h
        refine mz_Go.run (gs := [mz_kz 0 0 200, mz_kz 0 0 201, mz_ix (((130 : Int32) + ((6 : Int32) * x2)) + (4 : Int32)) 3000, mz_kz 0 0 200, mz_kz 0 0 201, mz_ix ((130 : Int32) + ((6 : Int32) * (D.1 0 201 ((((130 : Int32) + ((6 : Int32) * x2)) + (4 : Int32))).toNatClampNeg))) 3000]) (st' := (if (D.1 0 201 (((130 : Int32) + ((6 : Int32) * (D.1 0 201 ((((130 : Int32) + ((6 : Int32) * x2)) + (4 : Int32))).toNatClampNeg)))).toNatClampNeg) = (25 : Int32) then (65, [some (.inr (.inr (some (0, 200)))), none, some (.inl x2), some (.inl (D.1 0 201 ((((130 : Int32) + ((6 : Int32) * x2)) + (4 : Int32))).toNatClampNeg)), none], [], D) else (78, [some (.inr (.inr (some (0, 200)))), none, some (.inl x2), some (.inl (D.1 0 201 ((((130 : Int32) + ((6 : Int32) * x2)) + (4 : Int32))).toNatClampNeg)), none], [], D))) bX12_behindEnds_31 oX12_behindEnds_31 rfl ⟨rfl, rfl, hb4, rfl, rfl, hb5, trivial⟩ ?_
        refine mz_Go.ite (fun hc6 => ?_) (fun hc6 => ?_)
        · have h := mz_ifp hc6 h
          obtain ⟨hb7, h⟩ := mz_gd_some h
          refine mz_Go.run (gs := [mz_kz 0 0 200, mz_kz 0 0 212, mz_ix (D.1 0 201 ((((130 : Int32) + ((6 : Int32) * x2)) + (4 : Int32))).toNatClampNeg) 80]) (st' := (if (D.1 0 212 ((D.1 0 201 ((((130 : Int32) + ((6 : Int32) * x2)) + (4 : Int32))).toNatClampNeg)).toNatClampNeg) ≤ 0 then (78, [some (.inr (.inr (some (0, 200)))), none, some (.inl x2), some (.inl (D.1 0 201 ((((130 : Int32) + ((6 : Int32) * x2)) + (4 : Int32))).toNatClampNeg)), none], [], D) else (74, [some (.inr (.inr (some (0, 200)))), none, some (.inl x2), some (.inl (D.1 0 201 ((((130 : Int32) + ((6 : Int32) * x2)) + (4 : Int32))).toNatClampNeg)), none], [], D))) bX12_behindEnds_65 oX12_behindEnds_65 rfl ⟨rfl, rfl, hb7, trivial⟩ ?_
          refine mz_Go.ite (fun hc8 => ?_) (fun hc8 => ?_)
          · have h := mz_ifp hc8 h
            exact mz_Go.drop [true, false, true, true, false] (tX12_behindEnds_78 r (fX12_behindEnds_2 n) ih x2 (D.1 0 201 ((((130 : Int32) + ((6 : Int32) * x2)) + (4 : Int32))).toNatClampNeg) D h)
          · have h := mz_ifn hc8 h
            refine mz_Go.run (gs := []) (st' := (79, [some (.inr (.inr (some (0, 200)))), none, some (.inl x2), some (.inl (D.1 0 201 ((((130 : Int32) + ((6 : Int32) * x2)) + (4 : Int32))).toNatClampNeg)), none], [.inl (1 : Int32)], D)) bX12_behindEnds_74 oX12_behindEnds_74 rfl trivial ?_
            exact mz_Go.drop [true, false, true, true, false] (tX12_behindEnds_79 r (fX12_behindEnds_2 n) ih x2 (D.1 0 201 ((((130 : Int32) + ((6 : Int32) * x2)) + (4 : Int32))).toNatClampNeg) (1 : Int32) D h)
        · have h := mz_ifn hc6 h
          exact mz_Go.drop [true, false, true, true, false] (tX12_behindEnds_78 r (fX12_behindEnds_2 n) ih x2 (D.1 0 201 ((((130 : Int32) + ((6 : Int32) * x2)) + (4 : Int32))).toNatClampNeg) D h)
      · have h := mz_ifn hc3 h
        refine mz_Go.run (gs := []) (st' := (119, [some (.inr (.inr (some (0, 200)))), none, some (.inl x2), none, none], [.inl x2], D)) bX12_behindEnds_118 oX12_behindEnds_118 rfl trivial ?_
        cases h
        exact mz_Go.reti (by decide +kernel) rfl ⟨Nat.le_refl _, Nat.le_refl _⟩ rfl
def fX12_behindEnds (x1 : Int32) (D : mz_D) : Option (Int32 × mz_D) := (fX12_behindEnds_2 mz_N x1 D)
set_option maxHeartbeats 4000000 in
theorem mX12_behindEnds (x1 : Int32) (D : mz_D) (r : (Int32 × mz_D)) (h : fX12_behindEnds x1 D = some r) : mz_Met IX12_behindEnds [.inr (.inr (some (0, 200))), .inl x1] D (some (.inl r.1), r.2) := by
  refine mz_Met.of (by decide +kernel) (Nat.le_of_ble_eq_true rfl) ?_
  show mz_Go IX12_behindEnds (some (.inl r.1), r.2) 0 0 (0, [some (.inr (.inr (some (0, 200)))), some (.inl x1), none, none, none], [], D)
  rw [fX12_behindEnds] at h
  refine mz_Go.run (gs := []) (st' := (2, [some (.inr (.inr (some (0, 200)))), some (.inl x1), some (.inl x1), none, none], [], D)) bX12_behindEnds_0 oX12_behindEnds_0 rfl trivial ?_
  exact mz_Go.drop [true, false, true, false, false] (tX12_behindEnds_2 r mz_N x1 D h)
def bX12_lives_0 : List mz_E := [(0, .aload_n 0, 0, 0, 0, 0, 0), (1, .iload_n 1, 0, 0, 0, 0, 0), (2, .putfield 424, 12, 28, 1604, 0, 0), (5, .aload_n 0, 0, 0, 0, 0, 0), (6, .iconst 0, 0, 0, 0, 0, 0), (7, .putfield 440, 12, 29, 1605, 0, 0), (10, .iconst 0, 0, 0, 0, 0, 0), (11, .istore_n 2, 0, 0, 0, 0, 0)]
theorem oX12_lives_0 : bX12_lives_0.all (mz_ok RX12 cX12_lives 4) = true := by decide +kernel
def bX12_lives_12 : List mz_E := [(12, .iload_n 2, 0, 0, 0, 0, 0), (13, .iconst 5, 0, 0, 0, 5, 0), (14, .if_icmp .ge 16, 0, 30, 0, 0, 0)]
theorem oX12_lives_12 : bX12_lives_12.all (mz_ok RX12 cX12_lives 4) = true := by decide +kernel
def bX12_lives_30 : List mz_E := [(30, .iconst 0, 0, 0, 0, 0, 0), (31, .istore_n 2, 0, 0, 0, 0, 0)]
theorem oX12_lives_30 : bX12_lives_30.all (mz_ok RX12 cX12_lives 4) = true := by decide +kernel
def bX12_lives_32 : List mz_E := [(32, .iload_n 2, 0, 0, 0, 0, 0), (33, .aload_n 0, 0, 0, 0, 0, 0), (34, .getfield 7, 12, 0, 1576, 0, 0), (37, .bipush 9, 0, 0, 0, 9, 0), (39, .iaload, 0, 0, 0, 0, 0), (40, .if_icmp .ge 145, 0, 185, 0, 0, 0)]
theorem oX12_lives_32 : bX12_lives_32.all (mz_ok RX12 cX12_lives 4) = true := by decide +kernel
def bX12_lives_43 : List mz_E := [(43, .aload_n 0, 0, 0, 0, 0, 0), (44, .getfield 440, 12, 29, 1605, 0, 0), (47, .sipush 300, 0, 0, 0, 300, 0), (50, .if_icmp .ne 11, 0, 61, 0, 0, 0)]
theorem oX12_lives_43 : bX12_lives_43.all (mz_ok RX12 cX12_lives 4) = true := by decide +kernel
def bX12_lives_53 : List mz_E := [(53, .aload_n 0, 0, 0, 0, 0, 0), (54, .getfield 59, 12, 31, 1607, 0, 0), (57, .iconst 4, 0, 0, 0, 4, 0), (58, .iconst 1, 0, 0, 0, 1, 0), (59, .iastore, 0, 0, 0, 0, 0)]
theorem oX12_lives_53 : bX12_lives_53.all (mz_ok RX12 cX12_lives 4) = true := by decide +kernel
def bX12_lives_61 : List mz_E := [(61, .sipush 130, 0, 0, 0, 130, 0), (64, .bipush 6, 0, 0, 0, 6, 0), (66, .iload_n 2, 0, 0, 0, 0, 0), (67, .imul, 0, 0, 0, 0, 0), (68, .iadd, 0, 0, 0, 0, 0), (69, .istore_n 3, 0, 0, 0, 0, 0), (70, .aload_n 0, 0, 0, 0, 0, 0), (71, .dup, 0, 0, 0, 0, 0), (72, .getfield 440, 12, 29, 1605, 0, 0), (75, .iconst 1, 0, 0, 0, 1, 0), (76, .iadd, 0, 0, 0, 0, 0), (77, .putfield 440, 12, 29, 1605, 0, 0), (80, .aload_n 0, 0, 0, 0, 0, 0), (81, .getfield 7, 12, 0, 1576, 0, 0), (84, .iload_n 3, 0, 0, 0, 0, 0), (85, .iaload, 0, 0, 0, 0, 0), (86, .bipush 27, 0, 0, 0, 27, 0), (88, .if_icmp .ne 4, 0, 92, 0, 0, 0)]
theorem oX12_lives_61 : bX12_lives_61.all (mz_ok RX12 cX12_lives 4) = true := by decide +kernel
def bX12_lives_92 : List mz_E := [(92, .aload_n 0, 0, 0, 0, 0, 0), (93, .getfield 59, 12, 31, 1607, 0, 0), (96, .iconst 0, 0, 0, 0, 0, 0), (97, .dup2, 0, 0, 0, 0, 0), (98, .iaload, 0, 0, 0, 0, 0), (99, .aload_n 0, 0, 0, 0, 0, 0), (100, .iload_n 3, 0, 0, 0, 0, 0)]
theorem oX12_lives_92 : bX12_lives_92.all (mz_ok RX12 cX12_lives 4) = true := by decide +kernel
def bX12_lives_104 : List mz_E := [(104, .ifCond .eq 7, 0, 111, 0, 0, 0)]
theorem oX12_lives_104 : bX12_lives_104.all (mz_ok RX12 cX12_lives 4) = true := by decide +kernel
def bX12_lives_111 : List mz_E := [(111, .iconst 1, 0, 0, 0, 1, 0)]
theorem oX12_lives_111 : bX12_lives_111.all (mz_ok RX12 cX12_lives 4) = true := by decide +kernel
def bX12_lives_112 : List mz_E := [(112, .iadd, 0, 0, 0, 0, 0), (113, .iastore, 0, 0, 0, 0, 0), (114, .aload_n 0, 0, 0, 0, 0, 0), (115, .getfield 7, 12, 0, 1576, 0, 0), (118, .iload_n 3, 0, 0, 0, 0, 0), (119, .iaload, 0, 0, 0, 0, 0), (120, .bipush 25, 0, 0, 0, 25, 0), (122, .if_icmp .ne 19, 0, 141, 0, 0, 0)]
theorem oX12_lives_112 : bX12_lives_112.all (mz_ok RX12 cX12_lives 4) = true := by decide +kernel
def bX12_lives_125 : List mz_E := [(125, .aload_n 0, 0, 0, 0, 0, 0), (126, .getfield 56, 12, 30, 1606, 0, 0), (129, .iload_n 2, 0, 0, 0, 0, 0), (130, .aload_n 0, 0, 0, 0, 0, 0), (131, .getfield 7, 12, 0, 1576, 0, 0), (134, .iload_n 3, 0, 0, 0, 0, 0), (135, .iconst 1, 0, 0, 0, 1, 0), (136, .iadd, 0, 0, 0, 0, 0), (137, .iaload, 0, 0, 0, 0, 0), (138, .iconst 1, 0, 0, 0, 1, 0), (139, .isub, 0, 0, 0, 0, 0), (140, .iastore, 0, 0, 0, 0, 0)]
theorem oX12_lives_125 : bX12_lives_125.all (mz_ok RX12 cX12_lives 4) = true := by decide +kernel
def bX12_lives_141 : List mz_E := [(141, .aload_n 0, 0, 0, 0, 0, 0), (142, .aload_n 0, 0, 0, 0, 0, 0), (143, .getfield 7, 12, 0, 1576, 0, 0), (146, .iload_n 3, 0, 0, 0, 0, 0), (147, .iaload, 0, 0, 0, 0, 0), (148, .sipush 2400, 0, 0, 0, 2400, 0), (151, .if_icmp .lt 24, 0, 175, 0, 0, 0)]
theorem oX12_lives_141 : bX12_lives_141.all (mz_ok RX12 cX12_lives 4) = true := by decide +kernel
def bX12_lives_175 : List mz_E := [(175, .iload_n 2, 0, 0, 0, 0, 0), (176, .iconst 1, 0, 0, 0, 1, 0), (177, .iadd, 0, 0, 0, 0, 0)]
theorem oX12_lives_175 : bX12_lives_175.all (mz_ok RX12 cX12_lives 4) = true := by decide +kernel
def bX12_lives_181 : List mz_E := [(181, .istore_n 2, 0, 0, 0, 0, 0), (182, .goto (-150), 0, 32, 0, 0, 0)]
theorem oX12_lives_181 : bX12_lives_181.all (mz_ok RX12 cX12_lives 4) = true := by decide +kernel
def bX12_lives_154 : List mz_E := [(154, .aload_n 0, 0, 0, 0, 0, 0), (155, .iload_n 3, 0, 0, 0, 0, 0)]
theorem oX12_lives_154 : bX12_lives_154.all (mz_ok RX12 cX12_lives 4) = true := by decide +kernel
def bX12_lives_159 : List mz_E := [(159, .ifCond .ne 16, 0, 175, 0, 0, 0)]
theorem oX12_lives_159 : bX12_lives_159.all (mz_ok RX12 cX12_lives 4) = true := by decide +kernel
def bX12_lives_162 : List mz_E := [(162, .aload_n 0, 0, 0, 0, 0, 0), (163, .getfield 7, 12, 0, 1576, 0, 0), (166, .iload_n 3, 0, 0, 0, 0, 0), (167, .iconst 4, 0, 0, 0, 4, 0), (168, .iadd, 0, 0, 0, 0, 0), (169, .iaload, 0, 0, 0, 0, 0), (170, .iconst 1, 0, 0, 0, 1, 0), (171, .iadd, 0, 0, 0, 0, 0), (172, .goto 6, 0, 178, 0, 0, 0)]
theorem oX12_lives_162 : bX12_lives_162.all (mz_ok RX12 cX12_lives 4) = true := by decide +kernel
def bX12_lives_107 : List mz_E := [(107, .iconst 0, 0, 0, 0, 0, 0), (108, .goto 4, 0, 112, 0, 0, 0)]
theorem oX12_lives_107 : bX12_lives_107.all (mz_ok RX12 cX12_lives 4) = true := by decide +kernel
def bX12_lives_17 : List mz_E := [(17, .aload_n 0, 0, 0, 0, 0, 0), (18, .getfield 59, 12, 31, 1607, 0, 0), (21, .iload_n 2, 0, 0, 0, 0, 0), (22, .iconst 0, 0, 0, 0, 0, 0), (23, .iastore, 0, 0, 0, 0, 0), (24, .iinc 2 1, 0, 0, 0, 1, 0), (27, .goto (-15), 0, 12, 0, 0, 0)]
theorem oX12_lives_17 : bX12_lives_17.all (mz_ok RX12 cX12_lives 4) = true := by decide +kernel
abbrev IX12_lives : mz_I := (yX12_lives, cX12_lives, 4, none, 0, 8, 0, 0)
theorem kX12_lives : mz_okm IX12_lives 2252 141 2251 1 = true := by decide +kernel
theorem vX12_lives : mz_okV IX12_lives 2251 116 = true := by decide +kernel
def fX12_lives_178 (k32 : Int32 → mz_D → Option mz_D) (s0 : Int32) (D : mz_D) : Option mz_D := (Option.bind (fX12_behindEnds s0 D) fun q1 => (k32 q1.1 q1.2))
set_option maxHeartbeats 4000000 in
theorem tX12_lives_178 (r : mz_D) (k32 : Int32 → mz_D → Option mz_D) (hk32 : ∀ (x2 : Int32) (D : mz_D), k32 x2 D = some r → mz_Go IX12_lives (none, r) 0 0 (32, [some (.inr (.inr (some (0, 200)))), none, some (.inl x2), none], [], D)) : ∀ (s0 : Int32) (D : mz_D), fX12_lives_178 k32 s0 D = some r → mz_Go IX12_lives (none, r) 0 0 (178, [some (.inr (.inr (some (0, 200)))), none, none, none], [.inl s0, .inr (.inr (some (0, 200)))], D) := by
  intro s0 D h
  rw [fX12_lives_178] at h
  obtain ⟨q1, hq1, h⟩ := mz_bd_some h
  refine mz_Go.callV (I := IX12_lives) (J := IX12_behindEnds) (as := [.inl s0]) (ci := 12) (g := 0) (o := 200) (idx := 449) (pl := 2278) (rest := []) (mX12_behindEnds s0 D q1 hq1) kX12_behindEnds vX12_behindEnds (by decide +kernel) (by decide +kernel) (by decide +kernel) rfl rfl ⟨rfl, rfl⟩ rfl rfl rfl rfl ?_
  refine mz_Go.run (gs := []) (st' := (32, [some (.inr (.inr (some (0, 200)))), none, some (.inl q1.1), none], [], q1.2)) bX12_lives_181 oX12_lives_181 rfl trivial ?_
  exact mz_Go.drop [true, false, true, false] (hk32 q1.1 q1.2 h)
def fX12_lives_175 (k32 : Int32 → mz_D → Option mz_D) (x2 : Int32) (D : mz_D) : Option mz_D := (fX12_lives_178 k32 (x2 + (1 : Int32)) D)
set_option maxHeartbeats 4000000 in
theorem tX12_lives_175 (r : mz_D) (k32 : Int32 → mz_D → Option mz_D) (hk32 : ∀ (x2 : Int32) (D : mz_D), k32 x2 D = some r → mz_Go IX12_lives (none, r) 0 0 (32, [some (.inr (.inr (some (0, 200)))), none, some (.inl x2), none], [], D)) : ∀ (x2 : Int32) (D : mz_D), fX12_lives_175 k32 x2 D = some r → mz_Go IX12_lives (none, r) 0 0 (175, [some (.inr (.inr (some (0, 200)))), none, some (.inl x2), none], [.inr (.inr (some (0, 200)))], D) := by
  intro x2 D h
  rw [fX12_lives_175] at h
  refine mz_Go.run (gs := []) (st' := (178, [some (.inr (.inr (some (0, 200)))), none, some (.inl x2), none], [.inl (x2 + (1 : Int32)), .inr (.inr (some (0, 200)))], D)) bX12_lives_175 oX12_lives_175 rfl trivial ?_
  exact mz_Go.drop [true, false, false, false] (tX12_lives_178 r k32 hk32 (x2 + (1 : Int32)) D h)
def fX12_lives_141 (k32 : Int32 → mz_D → Option mz_D) (x2 : Int32) (x3 : Int32) (D : mz_D) : Option mz_D := (mz_gd (mz_ix x3 3000) (if (D.1 0 201 (x3).toNatClampNeg) < (2400 : Int32) then (fX12_lives_175 k32 x2 D) else (Option.bind (fX12_holds x3 D) fun q3 => (if q3 = 0 then (mz_gd (mz_ix (x3 + (4 : Int32)) 3000) (fX12_lives_178 k32 ((D.1 0 201 ((x3 + (4 : Int32))).toNatClampNeg) + (1 : Int32)) D)) else (fX12_lives_175 k32 x2 D)))))
set_option maxHeartbeats 4000000 in
theorem tX12_lives_141 (r : mz_D) (k32 : Int32 → mz_D → Option mz_D) (hk32 : ∀ (x2 : Int32) (D : mz_D), k32 x2 D = some r → mz_Go IX12_lives (none, r) 0 0 (32, [some (.inr (.inr (some (0, 200)))), none, some (.inl x2), none], [], D)) : ∀ (x2 : Int32) (x3 : Int32) (D : mz_D), fX12_lives_141 k32 x2 x3 D = some r → mz_Go IX12_lives (none, r) 0 0 (141, [some (.inr (.inr (some (0, 200)))), none, some (.inl x2), some (.inl x3)], [], D) := by
  intro x2 x3 D h
  rw [fX12_lives_141] at h
  obtain ⟨hb1, h⟩ := mz_gd_some h
  refine mz_Go.run (gs := [mz_kz 0 0 200, mz_kz 0 0 201, mz_ix x3 3000]) (st' := (if (D.1 0 201 (x3).toNatClampNeg) < (2400 : Int32) then (175, [some (.inr (.inr (some (0, 200)))), none, some (.inl x2), some (.inl x3)], [.inr (.inr (some (0, 200)))], D) else (154, [some (.inr (.inr (some (0, 200)))), none, some (.inl x2), some (.inl x3)], [.inr (.inr (some (0, 200)))], D))) bX12_lives_141 oX12_lives_141 rfl ⟨rfl, rfl, hb1, trivial⟩ ?_
  refine mz_Go.ite (fun hc2 => ?_) (fun hc2 => ?_)
  · have h := mz_ifp hc2 h
    exact mz_Go.drop [true, false, true, false] (tX12_lives_175 r k32 hk32 x2 D h)
  · have h := mz_ifn hc2 h
    refine mz_Go.run (gs := []) (st' := (156, [some (.inr (.inr (some (0, 200)))), none, some (.inl x2), some (.inl x3)], [.inl x3, .inr (.inr (some (0, 200))), .inr (.inr (some (0, 200)))], D)) bX12_lives_154 oX12_lives_154 rfl trivial ?_
    obtain ⟨q3, hq3, h⟩ := mz_bd_some h
    refine mz_Go.callV (I := IX12_lives) (J := IX12_holds) (as := [.inl x3]) (ci := 12) (g := 0) (o := 200) (idx := 446) (pl := 2274) (rest := [.inr (.inr (some (0, 200)))]) (mX12_holds x3 D q3 hq3) kX12_holds vX12_holds (by decide +kernel) (by decide +kernel) (by decide +kernel) rfl rfl ⟨rfl, rfl⟩ rfl rfl rfl rfl ?_
    refine mz_Go.run (gs := []) (st' := (if q3 = 0 then (162, [some (.inr (.inr (some (0, 200)))), none, some (.inl x2), some (.inl x3)], [.inr (.inr (some (0, 200)))], D) else (175, [some (.inr (.inr (some (0, 200)))), none, some (.inl x2), some (.inl x3)], [.inr (.inr (some (0, 200)))], D))) bX12_lives_159 oX12_lives_159 rfl trivial ?_
    refine mz_Go.ite (fun hc4 => ?_) (fun hc4 => ?_)
    · have h := mz_ifp hc4 h
      obtain ⟨hb5, h⟩ := mz_gd_some h
      refine mz_Go.run (gs := [mz_kz 0 0 200, mz_kz 0 0 201, mz_ix (x3 + (4 : Int32)) 3000]) (st' := (178, [some (.inr (.inr (some (0, 200)))), none, some (.inl x2), some (.inl x3)], [.inl ((D.1 0 201 ((x3 + (4 : Int32))).toNatClampNeg) + (1 : Int32)), .inr (.inr (some (0, 200)))], D)) bX12_lives_162 oX12_lives_162 rfl ⟨rfl, rfl, hb5, trivial⟩ ?_
      exact mz_Go.drop [true, false, false, false] (tX12_lives_178 r k32 hk32 ((D.1 0 201 ((x3 + (4 : Int32))).toNatClampNeg) + (1 : Int32)) D h)
    · have h := mz_ifn hc4 h
      exact mz_Go.drop [true, false, true, false] (tX12_lives_175 r k32 hk32 x2 D h)
def fX12_lives_112 (k32 : Int32 → mz_D → Option mz_D) (x2 : Int32) (x3 : Int32) (s0 : Int32) (s1 : Int32) (s2 : Int32) (D : mz_D) : Option mz_D := (mz_gd (mz_ix s2 5) (mz_gd (mz_ix x3 3000) (if (D.1 0 201 (x3).toNatClampNeg) = (25 : Int32) then (mz_gd (mz_ix (x3 + (1 : Int32)) 3000) (mz_gd (mz_ix x2 80) (fX12_lives_141 k32 x2 x3 (mz_wi (mz_wi D 0 213 (s2).toNatClampNeg (s1 + s0)) 0 212 (x2).toNatClampNeg ((D.1 0 201 ((x3 + (1 : Int32))).toNatClampNeg) - (1 : Int32)))))) else (fX12_lives_141 k32 x2 x3 (mz_wi D 0 213 (s2).toNatClampNeg (s1 + s0))))))
set_option maxHeartbeats 4000000 in
theorem tX12_lives_112 (r : mz_D) (k32 : Int32 → mz_D → Option mz_D) (hk32 : ∀ (x2 : Int32) (D : mz_D), k32 x2 D = some r → mz_Go IX12_lives (none, r) 0 0 (32, [some (.inr (.inr (some (0, 200)))), none, some (.inl x2), none], [], D)) : ∀ (x2 : Int32) (x3 : Int32) (s0 : Int32) (s1 : Int32) (s2 : Int32) (D : mz_D), fX12_lives_112 k32 x2 x3 s0 s1 s2 D = some r → mz_Go IX12_lives (none, r) 0 0 (112, [some (.inr (.inr (some (0, 200)))), none, some (.inl x2), some (.inl x3)], [.inl s0, .inl s1, .inl s2, .inr (.inr (some (0, 213)))], D) := by
  intro x2 x3 s0 s1 s2 D h
  rw [fX12_lives_112] at h
  obtain ⟨hb1, h⟩ := mz_gd_some h
  obtain ⟨hb2, h⟩ := mz_gd_some h
  refine mz_Go.run (gs := [mz_kz 0 0 213, mz_ix s2 5, mz_kz 0 0 200, mz_kz 0 0 201, mz_ix x3 3000]) (st' := (if (D.1 0 201 (x3).toNatClampNeg) = (25 : Int32) then (125, [some (.inr (.inr (some (0, 200)))), none, some (.inl x2), some (.inl x3)], [], (mz_wi D 0 213 (s2).toNatClampNeg (s1 + s0))) else (141, [some (.inr (.inr (some (0, 200)))), none, some (.inl x2), some (.inl x3)], [], (mz_wi D 0 213 (s2).toNatClampNeg (s1 + s0))))) bX12_lives_112 oX12_lives_112 rfl ⟨rfl, hb1, rfl, rfl, hb2, trivial⟩ ?_
  refine mz_Go.ite (fun hc3 => ?_) (fun hc3 => ?_)
  · have h := mz_ifp hc3 h
    obtain ⟨hb4, h⟩ := mz_gd_some h
    obtain ⟨hb5, h⟩ := mz_gd_some h
    refine mz_Go.run (gs := [mz_kz 0 0 200, mz_kz 0 0 200, mz_kz 0 0 201, mz_ix (x3 + (1 : Int32)) 3000, mz_kz 0 0 212, mz_ix x2 80]) (st' := (141, [some (.inr (.inr (some (0, 200)))), none, some (.inl x2), some (.inl x3)], [], (mz_wi (mz_wi D 0 213 (s2).toNatClampNeg (s1 + s0)) 0 212 (x2).toNatClampNeg ((D.1 0 201 ((x3 + (1 : Int32))).toNatClampNeg) - (1 : Int32))))) bX12_lives_125 oX12_lives_125 rfl ⟨rfl, rfl, rfl, hb4, rfl, hb5, trivial⟩ ?_
    exact mz_Go.drop [true, false, true, true] (tX12_lives_141 r k32 hk32 x2 x3 (mz_wi (mz_wi D 0 213 (s2).toNatClampNeg (s1 + s0)) 0 212 (x2).toNatClampNeg ((D.1 0 201 ((x3 + (1 : Int32))).toNatClampNeg) - (1 : Int32))) h)
  · have h := mz_ifn hc3 h
    exact mz_Go.drop [true, false, true, true] (tX12_lives_141 r k32 hk32 x2 x3 (mz_wi D 0 213 (s2).toNatClampNeg (s1 + s0)) h)
def fX12_lives_32 : Nat → Int32 → mz_D → Option mz_D
  | 0 => fun _ _ => none
  | n + 1 => fun x2 D => (if (D.1 0 201 ((9 : Int32)).toNatClampNeg) ≤ x2 then (some D) else (if (D.1 0 200 29) = (300 : Int32) then (some (mz_wi D 0 213 ((4 : Int32)).toNatClampNeg (1 : Int32))) else (mz_gd (mz_ix ((130 : Int32) + ((6 : Int32) * x2)) 3000) (if (D.1 0 201 (((130 : Int32) + ((6 : Int32) * x2))).toNatClampNeg) = (27 : Int32) then (some (mz_wi D 0 200 29 ((D.1 0 200 29) + (1 : Int32)))) else (Option.bind (fX12_does ((130 : Int32) + ((6 : Int32) * x2)) (mz_wi D 0 200 29 ((D.1 0 200 29) + (1 : Int32)))) fun q5 => (if q5.1 = 0 then (fX12_lives_112 (fX12_lives_32 n) x2 ((130 : Int32) + ((6 : Int32) * x2)) (1 : Int32) (D.1 0 213 ((0 : Int32)).toNatClampNeg) (0 : Int32) q5.2) else (fX12_lives_112 (fX12_lives_32 n) x2 ((130 : Int32) + ((6 : Int32) * x2)) (0 : Int32) (D.1 0 213 ((0 : Int32)).toNatClampNeg) (0 : Int32) q5.2)))))))
set_option maxHeartbeats 4000000 in
theorem tX12_lives_32 (r : mz_D) : ∀ (n : Nat) (x2 : Int32) (D : mz_D), fX12_lives_32 n x2 D = some r → mz_Go IX12_lives (none, r) 0 0 (32, [some (.inr (.inr (some (0, 200)))), none, some (.inl x2), none], [], D) := by
  intro n
  induction n with
  | zero => intro x2 D h; have h : (none : Option mz_D) = some r := h; cases h
  | succ n ih =>
    intro x2 D h
    rw [fX12_lives_32] at h
    refine mz_Go.run (gs := [mz_kz 0 0 200, mz_kz 0 0 201, mz_ix (9 : Int32) 3000]) (st' := (if (D.1 0 201 ((9 : Int32)).toNatClampNeg) ≤ x2 then (185, [some (.inr (.inr (some (0, 200)))), none, some (.inl x2), none], [], D) else (43, [some (.inr (.inr (some (0, 200)))), none, some (.inl x2), none], [], D))) bX12_lives_32 oX12_lives_32 rfl ⟨rfl, rfl, (by decide), trivial⟩ ?_
    refine mz_Go.ite (fun hc1 => ?_) (fun hc1 => ?_)
    · have h := mz_ifp hc1 h
      cases h
      exact mz_Go.retv (by decide +kernel) rfl ⟨Nat.le_refl _, Nat.le_refl _⟩ rfl
    · have h := mz_ifn hc1 h
      refine mz_Go.run (gs := [mz_kz 0 0 200]) (st' := (if (D.1 0 200 29) = (300 : Int32) then (53, [some (.inr (.inr (some (0, 200)))), none, some (.inl x2), none], [], D) else (61, [some (.inr (.inr (some (0, 200)))), none, some (.inl x2), none], [], D))) bX12_lives_43 oX12_lives_43 rfl ⟨rfl, trivial⟩ ?_
      refine mz_Go.ite (fun hc2 => ?_) (fun hc2 => ?_)
      · have h := mz_ifp hc2 h
        refine mz_Go.run (gs := [mz_kz 0 0 200, mz_kz 0 0 213, mz_ix (4 : Int32) 5]) (st' := (60, [some (.inr (.inr (some (0, 200)))), none, some (.inl x2), none], [], (mz_wi D 0 213 ((4 : Int32)).toNatClampNeg (1 : Int32)))) bX12_lives_53 oX12_lives_53 rfl ⟨rfl, rfl, (by decide), trivial⟩ ?_
        cases h
        exact mz_Go.retv (by decide +kernel) rfl ⟨Nat.le_refl _, Nat.le_refl _⟩ rfl
      · have h := mz_ifn hc2 h
        obtain ⟨hb3, h⟩ := mz_gd_some h
        refine mz_Go.run (gs := [mz_kz 0 0 200, mz_kz 0 0 200, mz_kz 0 0 200, mz_kz 0 0 201, mz_ix ((130 : Int32) + ((6 : Int32) * x2)) 3000]) (st' := (if (D.1 0 201 (((130 : Int32) + ((6 : Int32) * x2))).toNatClampNeg) = (27 : Int32) then (91, [some (.inr (.inr (some (0, 200)))), none, some (.inl x2), some (.inl ((130 : Int32) + ((6 : Int32) * x2)))], [], (mz_wi D 0 200 29 ((D.1 0 200 29) + (1 : Int32)))) else (92, [some (.inr (.inr (some (0, 200)))), none, some (.inl x2), some (.inl ((130 : Int32) + ((6 : Int32) * x2)))], [], (mz_wi D 0 200 29 ((D.1 0 200 29) + (1 : Int32)))))) bX12_lives_61 oX12_lives_61 rfl ⟨rfl, rfl, rfl, rfl, hb3, trivial⟩ ?_
        refine mz_Go.ite (fun hc4 => ?_) (fun hc4 => ?_)
        · have h := mz_ifp hc4 h
          cases h
          exact mz_Go.retv (by decide +kernel) rfl ⟨Nat.le_refl _, Nat.le_refl _⟩ rfl
        · have h := mz_ifn hc4 h
          refine mz_Go.run (gs := [mz_kz 0 0 200, mz_kz 0 0 213, mz_ix (0 : Int32) 5]) (st' := (101, [some (.inr (.inr (some (0, 200)))), none, some (.inl x2), some (.inl ((130 : Int32) + ((6 : Int32) * x2)))], [.inl ((130 : Int32) + ((6 : Int32) * x2)), .inr (.inr (some (0, 200))), .inl (D.1 0 213 ((0 : Int32)).toNatClampNeg), .inl (0 : Int32), .inr (.inr (some (0, 213)))], (mz_wi D 0 200 29 ((D.1 0 200 29) + (1 : Int32))))) bX12_lives_92 oX12_lives_92 rfl ⟨rfl, rfl, (by decide), trivial⟩ ?_
          obtain ⟨q5, hq5, h⟩ := mz_bd_some h
          refine mz_Go.callV (I := IX12_lives) (J := IX12_does) (as := [.inl ((130 : Int32) + ((6 : Int32) * x2))]) (ci := 12) (g := 0) (o := 200) (idx := 443) (pl := 2253) (rest := [.inl (D.1 0 213 ((0 : Int32)).toNatClampNeg), .inl (0 : Int32), .inr (.inr (some (0, 213)))]) (mX12_does ((130 : Int32) + ((6 : Int32) * x2)) (mz_wi D 0 200 29 ((D.1 0 200 29) + (1 : Int32))) q5 hq5) kX12_does vX12_does (by decide +kernel) (by decide +kernel) (by decide +kernel) rfl rfl ⟨rfl, rfl⟩ rfl rfl rfl rfl ?_
          refine mz_Go.run (gs := []) (st' := (if q5.1 = 0 then (111, [some (.inr (.inr (some (0, 200)))), none, some (.inl x2), some (.inl ((130 : Int32) + ((6 : Int32) * x2)))], [.inl (D.1 0 213 ((0 : Int32)).toNatClampNeg), .inl (0 : Int32), .inr (.inr (some (0, 213)))], q5.2) else (107, [some (.inr (.inr (some (0, 200)))), none, some (.inl x2), some (.inl ((130 : Int32) + ((6 : Int32) * x2)))], [.inl (D.1 0 213 ((0 : Int32)).toNatClampNeg), .inl (0 : Int32), .inr (.inr (some (0, 213)))], q5.2))) bX12_lives_104 oX12_lives_104 rfl trivial ?_
          refine mz_Go.ite (fun hc6 => ?_) (fun hc6 => ?_)
          · have h := mz_ifp hc6 h
            refine mz_Go.run (gs := []) (st' := (112, [some (.inr (.inr (some (0, 200)))), none, some (.inl x2), some (.inl ((130 : Int32) + ((6 : Int32) * x2)))], [.inl (1 : Int32), .inl (D.1 0 213 ((0 : Int32)).toNatClampNeg), .inl (0 : Int32), .inr (.inr (some (0, 213)))], q5.2)) bX12_lives_111 oX12_lives_111 rfl trivial ?_
            exact mz_Go.drop [true, false, true, true] (tX12_lives_112 r (fX12_lives_32 n) ih x2 ((130 : Int32) + ((6 : Int32) * x2)) (1 : Int32) (D.1 0 213 ((0 : Int32)).toNatClampNeg) (0 : Int32) q5.2 h)
          · have h := mz_ifn hc6 h
            refine mz_Go.run (gs := []) (st' := (112, [some (.inr (.inr (some (0, 200)))), none, some (.inl x2), some (.inl ((130 : Int32) + ((6 : Int32) * x2)))], [.inl (0 : Int32), .inl (D.1 0 213 ((0 : Int32)).toNatClampNeg), .inl (0 : Int32), .inr (.inr (some (0, 213)))], q5.2)) bX12_lives_107 oX12_lives_107 rfl trivial ?_
            exact mz_Go.drop [true, false, true, true] (tX12_lives_112 r (fX12_lives_32 n) ih x2 ((130 : Int32) + ((6 : Int32) * x2)) (0 : Int32) (D.1 0 213 ((0 : Int32)).toNatClampNeg) (0 : Int32) q5.2 h)
def fX12_lives_12 : Nat → Int32 → mz_D → Option mz_D
  | 0 => fun _ _ => none
  | n + 1 => fun x2 D => (if (5 : Int32) ≤ x2 then (fX12_lives_32 mz_N (0 : Int32) D) else (mz_gd (mz_ix x2 5) ((fX12_lives_12 n) (x2 + (1 : Int32)) (mz_wi D 0 213 (x2).toNatClampNeg (0 : Int32)))))
set_option maxHeartbeats 4000000 in
theorem tX12_lives_12 (r : mz_D) : ∀ (n : Nat) (x2 : Int32) (D : mz_D), fX12_lives_12 n x2 D = some r → mz_Go IX12_lives (none, r) 0 0 (12, [some (.inr (.inr (some (0, 200)))), none, some (.inl x2), none], [], D) := by
  intro n
  induction n with
  | zero => intro x2 D h; have h : (none : Option mz_D) = some r := h; cases h
  | succ n ih =>
    intro x2 D h
    rw [fX12_lives_12] at h
    refine mz_Go.run (gs := []) (st' := (if (5 : Int32) ≤ x2 then (30, [some (.inr (.inr (some (0, 200)))), none, some (.inl x2), none], [], D) else (17, [some (.inr (.inr (some (0, 200)))), none, some (.inl x2), none], [], D))) bX12_lives_12 oX12_lives_12 rfl trivial ?_
    refine mz_Go.ite (fun hc1 => ?_) (fun hc1 => ?_)
    · have h := mz_ifp hc1 h
      refine mz_Go.run (gs := []) (st' := (32, [some (.inr (.inr (some (0, 200)))), none, some (.inl (0 : Int32)), none], [], D)) bX12_lives_30 oX12_lives_30 rfl trivial ?_
      exact mz_Go.drop [true, false, true, false] (tX12_lives_32 r mz_N (0 : Int32) D h)
    · have h := mz_ifn hc1 h
      obtain ⟨hb2, h⟩ := mz_gd_some h
      refine mz_Go.run (gs := [mz_kz 0 0 200, mz_kz 0 0 213, mz_ix x2 5]) (st' := (12, [some (.inr (.inr (some (0, 200)))), none, some (.inl (x2 + (1 : Int32))), none], [], (mz_wi D 0 213 (x2).toNatClampNeg (0 : Int32)))) bX12_lives_17 oX12_lives_17 rfl ⟨rfl, rfl, hb2, trivial⟩ ?_
      exact mz_Go.drop [true, false, true, false] (ih (x2 + (1 : Int32)) (mz_wi D 0 213 (x2).toNatClampNeg (0 : Int32)) h)
def fX12_lives (x1 : Int32) (D : mz_D) : Option mz_D := (fX12_lives_12 mz_N (0 : Int32) (mz_wi (mz_wi D 0 200 28 x1) 0 200 29 (0 : Int32)))
set_option maxHeartbeats 4000000 in
theorem mX12_lives (x1 : Int32) (D : mz_D) (r : mz_D) (h : fX12_lives x1 D = some r) : mz_Met IX12_lives [.inr (.inr (some (0, 200))), .inl x1] D (none, r) := by
  refine mz_Met.of (by decide +kernel) (Nat.le_of_ble_eq_true rfl) ?_
  show mz_Go IX12_lives (none, r) 0 0 (0, [some (.inr (.inr (some (0, 200)))), some (.inl x1), none, none], [], D)
  rw [fX12_lives] at h
  refine mz_Go.run (gs := [mz_kz 0 0 200, mz_kz 0 0 200]) (st' := (12, [some (.inr (.inr (some (0, 200)))), some (.inl x1), some (.inl (0 : Int32)), none], [], (mz_wi (mz_wi D 0 200 28 x1) 0 200 29 (0 : Int32)))) bX12_lives_0 oX12_lives_0 rfl ⟨rfl, rfl, trivial⟩ ?_
  exact mz_Go.drop [true, false, true, false] (tX12_lives_12 r mz_N (0 : Int32) (mz_wi (mz_wi D 0 200 28 x1) 0 200 29 (0 : Int32)) h)
def bX12_live_0 : List mz_E := [(0, .iload_n 1, 0, 0, 0, 0, 0), (1, .i2l, 0, 0, 0, 0, 0), (2, .lconst 0, 0, 0, 0, 0, 0), (3, .ldc2_w 308, 0, 0, 1994, 0, 9999)]
theorem oX12_live_0 : bX12_live_0.all (mz_ok RX12 cX12_live 3) = true := by decide +kernel
def bX12_live_9 : List mz_E := [(9, .ifCond .ne 9, 0, 18, 0, 0, 0)]
theorem oX12_live_9 : bX12_live_9.all (mz_ok RX12 cX12_live 3) = true := by decide +kernel
def bX12_live_12 : List mz_E := [(12, .aload_n 0, 0, 0, 0, 0, 0), (13, .iconst 1, 0, 0, 0, 1, 0)]
theorem oX12_live_12 : bX12_live_12.all (mz_ok RX12 cX12_live 3) = true := by decide +kernel
def bX12_live_18 : List mz_E := [(18, .aload_n 0, 0, 0, 0, 0, 0), (19, .getfield 7, 12, 0, 1576, 0, 0), (22, .bipush 9, 0, 0, 0, 9, 0), (24, .iaload, 0, 0, 0, 0, 0), (25, .iconst (-1), 0, 0, 0, -1, 0), (26, .if_icmp .ne 10, 0, 36, 0, 0, 0)]
theorem oX12_live_18 : bX12_live_18.all (mz_ok RX12 cX12_live 3) = true := by decide +kernel
def bX12_live_29 : List mz_E := [(29, .aload_n 0, 0, 0, 0, 0, 0), (30, .bipush 6, 0, 0, 0, 6, 0)]
theorem oX12_live_29 : bX12_live_29.all (mz_ok RX12 cX12_live 3) = true := by decide +kernel
def bX12_live_36 : List mz_E := [(36, .aload_n 0, 0, 0, 0, 0, 0), (37, .iload_n 1, 0, 0, 0, 0, 0)]
theorem oX12_live_36 : bX12_live_36.all (mz_ok RX12 cX12_live 3) = true := by decide +kernel
def bX12_live_41 : List mz_E := [(41, .iconst 0, 0, 0, 0, 0, 0), (42, .istore_n 2, 0, 0, 0, 0, 0)]
theorem oX12_live_41 : bX12_live_41.all (mz_ok RX12 cX12_live 3) = true := by decide +kernel
def bX12_live_43 : List mz_E := [(43, .iload_n 2, 0, 0, 0, 0, 0), (44, .iconst 5, 0, 0, 0, 5, 0), (45, .if_icmp .ge 21, 0, 66, 0, 0, 0)]
theorem oX12_live_43 : bX12_live_43.all (mz_ok RX12 cX12_live 3) = true := by decide +kernel
def bX12_live_66 : List mz_E := [(66, .aload_n 0, 0, 0, 0, 0, 0), (67, .iconst 1, 0, 0, 0, 1, 0), (68, .putfield 455, 12, 33, 1609, 0, 0), (71, .aload_n 0, 0, 0, 0, 0, 0), (72, .aload_n 0, 0, 0, 0, 0, 0), (73, .getfield 440, 12, 29, 1605, 0, 0)]
theorem oX12_live_66 : bX12_live_66.all (mz_ok RX12 cX12_live 3) = true := by decide +kernel
def bX12_live_48 : List mz_E := [(48, .aload_n 0, 0, 0, 0, 0, 0), (49, .getfield 62, 12, 32, 1608, 0, 0), (52, .iload_n 2, 0, 0, 0, 0, 0), (53, .aload_n 0, 0, 0, 0, 0, 0), (54, .getfield 59, 12, 31, 1607, 0, 0), (57, .iload_n 2, 0, 0, 0, 0, 0), (58, .iaload, 0, 0, 0, 0, 0), (59, .iastore, 0, 0, 0, 0, 0), (60, .iinc 2 1, 0, 0, 0, 1, 0), (63, .goto (-20), 0, 43, 0, 0, 0)]
theorem oX12_live_48 : bX12_live_48.all (mz_ok RX12 cX12_live 3) = true := by decide +kernel
abbrev IX12_live : mz_I := (yX12_live, cX12_live, 3, (some .int), 0, 9, 0, 0)
theorem kX12_live : mz_okm IX12_live 2248 141 2246 1 = true := by decide +kernel
theorem vX12_live : mz_okV IX12_live 2246 2247 = true := by decide +kernel
def fX12_live_43 : Nat → Int32 → mz_D → Option (Int32 × mz_D)
  | 0 => fun _ _ => none
  | n + 1 => fun x2 D => (if (5 : Int32) ≤ x2 then (some ((D.1 0 200 29), (mz_wi (mz_wi D 0 200 33 (1 : Int32)) 0 200 2 (0 : Int32)))) else (mz_gd (mz_ix x2 5) ((fX12_live_43 n) (x2 + (1 : Int32)) (mz_wi D 0 214 (x2).toNatClampNeg (D.1 0 213 (x2).toNatClampNeg)))))
set_option maxHeartbeats 4000000 in
theorem tX12_live_43 (r : (Int32 × mz_D)) : ∀ (n : Nat) (x2 : Int32) (D : mz_D), fX12_live_43 n x2 D = some r → mz_Go IX12_live (some (.inl r.1), r.2) 0 0 (43, [some (.inr (.inr (some (0, 200)))), none, some (.inl x2)], [], D) := by
  intro n
  induction n with
  | zero => intro x2 D h; have h : (none : Option (Int32 × mz_D)) = some r := h; cases h
  | succ n ih =>
    intro x2 D h
    rw [fX12_live_43] at h
    refine mz_Go.run (gs := []) (st' := (if (5 : Int32) ≤ x2 then (66, [some (.inr (.inr (some (0, 200)))), none, some (.inl x2)], [], D) else (48, [some (.inr (.inr (some (0, 200)))), none, some (.inl x2)], [], D))) bX12_live_43 oX12_live_43 rfl trivial ?_
    refine mz_Go.ite (fun hc1 => ?_) (fun hc1 => ?_)
    · have h := mz_ifp hc1 h
      refine mz_Go.run (gs := [mz_kz 0 0 200, mz_bo (1 : Int32), mz_kz 0 0 200]) (st' := (76, [some (.inr (.inr (some (0, 200)))), none, some (.inl x2)], [.inl (D.1 0 200 29), .inr (.inr (some (0, 200)))], (mz_wi D 0 200 33 (1 : Int32)))) bX12_live_66 oX12_live_66 rfl ⟨rfl, (by decide), rfl, trivial⟩ ?_
      refine mz_Go.callV (I := IX12_live) (J := IX12_gives) (as := [.inl (D.1 0 200 29)]) (ci := 12) (g := 0) (o := 200) (idx := 79) (pl := 1844) (rest := []) (mX12_gives (D.1 0 200 29) (mz_wi D 0 200 33 (1 : Int32))) kX12_gives vX12_gives (by decide +kernel) (by decide +kernel) (by decide +kernel) rfl rfl ⟨rfl, rfl⟩ rfl rfl rfl rfl ?_
      cases h
      exact mz_Go.reti (by decide +kernel) rfl ⟨Nat.le_refl _, Nat.le_refl _⟩ rfl
    · have h := mz_ifn hc1 h
      obtain ⟨hb2, h⟩ := mz_gd_some h
      refine mz_Go.run (gs := [mz_kz 0 0 200, mz_kz 0 0 200, mz_kz 0 0 213, mz_ix x2 5, mz_kz 0 0 214, mz_ix x2 5]) (st' := (43, [some (.inr (.inr (some (0, 200)))), none, some (.inl (x2 + (1 : Int32)))], [], (mz_wi D 0 214 (x2).toNatClampNeg (D.1 0 213 (x2).toNatClampNeg)))) bX12_live_48 oX12_live_48 rfl ⟨rfl, rfl, rfl, hb2, rfl, hb2, trivial⟩ ?_
      exact mz_Go.drop [true, false, true] (ih (x2 + (1 : Int32)) (mz_wi D 0 214 (x2).toNatClampNeg (D.1 0 213 (x2).toNatClampNeg)) h)
def fX12_live (x1 : Int32) (D : mz_D) : Option (Int32 × mz_D) := (if (fX12_isFrom (x1).toInt64 (0 : Int64) (9999 : Int64)) = 0 then (some ((-1 : Int32), (mz_wi D 0 200 2 (1 : Int32)))) else (if (D.1 0 201 ((9 : Int32)).toNatClampNeg) = (-1 : Int32) then (some ((-1 : Int32), (mz_wi D 0 200 2 (6 : Int32)))) else (Option.bind (fX12_lives x1 D) fun q3 => (fX12_live_43 mz_N (0 : Int32) q3))))
set_option maxHeartbeats 4000000 in
theorem mX12_live (x1 : Int32) (D : mz_D) (r : (Int32 × mz_D)) (h : fX12_live x1 D = some r) : mz_Met IX12_live [.inr (.inr (some (0, 200))), .inl x1] D (some (.inl r.1), r.2) := by
  refine mz_Met.of (by decide +kernel) (Nat.le_of_ble_eq_true rfl) ?_
  show mz_Go IX12_live (some (.inl r.1), r.2) 0 0 (0, [some (.inr (.inr (some (0, 200)))), some (.inl x1), none], [], D)
  rw [fX12_live] at h
  refine mz_Go.run (gs := []) (st' := (6, [some (.inr (.inr (some (0, 200)))), some (.inl x1), none], [.inr (.inl (9999 : Int64)), .inr (.inl (0 : Int64)), .inr (.inl (x1).toInt64)], D)) bX12_live_0 oX12_live_0 rfl trivial ?_
  refine mz_Go.callS (I := IX12_live) (J := IX12_isFrom) (as := [.inr (.inl (x1).toInt64), .inr (.inl (0 : Int64)), .inr (.inl (9999 : Int64))]) (idx := 302) (pl := 1974) (rest := []) (mX12_isFrom (x1).toInt64 (0 : Int64) (9999 : Int64) D _ rfl) kX12_isFrom vX12_isFrom (by decide +kernel) (by decide +kernel) (by decide +kernel) rfl rfl ⟨rfl, rfl⟩ rfl ?_
  refine mz_Go.run (gs := []) (st' := (if (fX12_isFrom (x1).toInt64 (0 : Int64) (9999 : Int64)) = 0 then (12, [some (.inr (.inr (some (0, 200)))), some (.inl x1), none], [], D) else (18, [some (.inr (.inr (some (0, 200)))), some (.inl x1), none], [], D))) bX12_live_9 oX12_live_9 rfl trivial ?_
  refine mz_Go.ite (fun hc1 => ?_) (fun hc1 => ?_)
  · have h := mz_ifp hc1 h
    refine mz_Go.run (gs := []) (st' := (14, [some (.inr (.inr (some (0, 200)))), some (.inl x1), none], [.inl (1 : Int32), .inr (.inr (some (0, 200)))], D)) bX12_live_12 oX12_live_12 rfl trivial ?_
    refine mz_Go.callV (I := IX12_live) (J := IX12_refuse) (as := [.inl (1 : Int32)]) (ci := 12) (g := 0) (o := 200) (idx := 75) (pl := 1761) (rest := []) (mX12_refuse (1 : Int32) D) kX12_refuse vX12_refuse (by decide +kernel) (by decide +kernel) (by decide +kernel) rfl rfl ⟨rfl, rfl⟩ rfl rfl rfl rfl ?_
    cases h
    exact mz_Go.reti (by decide +kernel) rfl ⟨Nat.le_refl _, Nat.le_refl _⟩ rfl
  · have h := mz_ifn hc1 h
    refine mz_Go.run (gs := [mz_kz 0 0 200, mz_kz 0 0 201, mz_ix (9 : Int32) 3000]) (st' := (if (D.1 0 201 ((9 : Int32)).toNatClampNeg) = (-1 : Int32) then (29, [some (.inr (.inr (some (0, 200)))), some (.inl x1), none], [], D) else (36, [some (.inr (.inr (some (0, 200)))), some (.inl x1), none], [], D))) bX12_live_18 oX12_live_18 rfl ⟨rfl, rfl, (by decide), trivial⟩ ?_
    refine mz_Go.ite (fun hc2 => ?_) (fun hc2 => ?_)
    · have h := mz_ifp hc2 h
      refine mz_Go.run (gs := []) (st' := (32, [some (.inr (.inr (some (0, 200)))), some (.inl x1), none], [.inl (6 : Int32), .inr (.inr (some (0, 200)))], D)) bX12_live_29 oX12_live_29 rfl trivial ?_
      refine mz_Go.callV (I := IX12_live) (J := IX12_refuse) (as := [.inl (6 : Int32)]) (ci := 12) (g := 0) (o := 200) (idx := 75) (pl := 1761) (rest := []) (mX12_refuse (6 : Int32) D) kX12_refuse vX12_refuse (by decide +kernel) (by decide +kernel) (by decide +kernel) rfl rfl ⟨rfl, rfl⟩ rfl rfl rfl rfl ?_
      cases h
      exact mz_Go.reti (by decide +kernel) rfl ⟨Nat.le_refl _, Nat.le_refl _⟩ rfl
    · have h := mz_ifn hc2 h
      refine mz_Go.run (gs := []) (st' := (38, [some (.inr (.inr (some (0, 200)))), some (.inl x1), none], [.inl x1, .inr (.inr (some (0, 200)))], D)) bX12_live_36 oX12_live_36 rfl trivial ?_
      obtain ⟨q3, hq3, h⟩ := mz_bd_some h
      refine mz_Go.callV (I := IX12_live) (J := IX12_lives) (as := [.inl x1]) (ci := 12) (g := 0) (o := 200) (idx := 452) (pl := 2249) (rest := []) (mX12_lives x1 D q3 hq3) kX12_lives vX12_lives (by decide +kernel) (by decide +kernel) (by decide +kernel) rfl rfl ⟨rfl, rfl⟩ rfl rfl rfl rfl ?_
      refine mz_Go.run (gs := []) (st' := (43, [some (.inr (.inr (some (0, 200)))), some (.inl x1), some (.inl (0 : Int32))], [], q3)) bX12_live_41 oX12_live_41 rfl trivial ?_
      exact mz_Go.drop [true, false, true] (tX12_live_43 r mz_N (0 : Int32) q3 h)
