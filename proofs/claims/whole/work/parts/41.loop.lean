/-! ===== the law's loop ===== -/
theorem ll_ge {Lx j : Nat} (hL : Lx ≤ 3072) (hj : j ≤ Lx) (h : ¬ (Int32.ofNat Lx - 6) < nI j) : j + 6 ≤ Lx := by
  have e1 : (nI Lx - nI 6).toInt = (Lx : Int) - (6 : Nat) := pk_sub_toInt (by omega) (by omega)
  have e2 : (nI j).toInt = (j : Int) := nI_toInt (by omega)
  have h2 := Int32.not_lt.mp h
  have h3 : (nI j).toInt ≤ (nI Lx - nI 6).toInt := Int32.le_iff_toInt_le.mp h2
  rw [e1, e2] at h3
  omega
set_option maxHeartbeats 8000000 in
theorem law_loop {Inv : Nat → mz_D → Prop} (ho : op_all Inv) (hstay : ∀ n D, Inv n D → Inv (n + 1) D) {Lx : Nat} {xs : Nat → Int32} (hL : Lx ≤ 3072) : ∀ (f n nc ns : Nat) (D : mz_D), Lx + 6 < 6 * n + 6 * f → 6 * n ≤ Lx → nc ≤ 1000 + 2 * n → ns ≤ 20000 + 9 * n → Inv n D → mz_GL Lx xs nc ns (18, [some (.inr (.inr (some (0, 500)))), some (.inr (.inr (some (0, 0)))), some (.inr (.inr (some (0, 200)))), some (.inl (nI (6 * n)))], [], D) := by
  intro f
  induction f with
  | zero => intro n nc ns D hf hn; omega
  | succ f ih =>
    intro n nc ns D hf hn hnc hns hI
    obtain ⟨x3, hx3⟩ : ∃ x3, x3 = nI (6 * n) := ⟨_, rfl⟩
    rw [← hx3]
    refine mz_GL.run (gs := []) (st' := (20, [some (.inr (.inr (some (0, 500)))), some (.inr (.inr (some (0, 0)))), some (.inr (.inr (some (0, 200)))), some (.inl x3)], [.inr (.inr (some (0, 500))), .inl x3], D)) [(18, .iload_n 3, 0, 0, 0, 0, 0), (19, .aload_n 0, 0, 0, 0, 0, 0)] (by decide +kernel) rfl trivial ?_
    refine mz_GL.slen (by decide +kernel) ?_
    refine mz_GL.run (gs := []) (st' := (if (Int32.ofNat Lx - (6 : Int32)) < x3 then (2108, [some (.inr (.inr (some (0, 500)))), some (.inr (.inr (some (0, 0)))), some (.inr (.inr (some (0, 200)))), some (.inl x3)], [], D) else (27, [some (.inr (.inr (some (0, 500)))), some (.inr (.inr (some (0, 0)))), some (.inr (.inr (some (0, 200)))), some (.inl x3)], [], D))) [(21, .bipush 6, 0, 0, 0, 6, 0), (23, .isub, 0, 0, 0, 0, 0), (24, .if_icmp .gt 2084, 0, 2108, 0, 0, 0)] (by decide +kernel) rfl trivial ?_
    refine mz_GL.ite (fun _ => ?_) (fun hc => ?_)
    · refine mz_GL.run (gs := []) (st' := (2109, [some (.inr (.inr (some (0, 500)))), some (.inr (.inr (some (0, 0)))), some (.inr (.inr (some (0, 200)))), some (.inl x3)], [.inl 1], D)) [(2108, .iconst 1, 0, 0, 0, 1, 0)] (by decide +kernel) rfl trivial ?_
      exact mz_GL.ret1 (by omega) (by omega) (by decide +kernel)
    · have hj : 6 * n + 6 ≤ Lx := ll_ge hL hn (by rw [← hx3]; exact hc)
      have hin : ∀ k : Nat, k < 6 → vp_in (x3 + nI k) Lx := fun k hk => by
        rw [hx3, nI_add]
        exact vp_in_nI (by omega) (by omega)
      have hin0 : vp_in x3 Lx := by
        rw [hx3]
        exact vp_in_nI (by omega) (by omega)
      have kk : ∀ (D2 : mz_D) (nc2 ns2 : Nat), Inv (n + 1) D2 → nc2 ≤ nc + 2 → ns2 ≤ ns + 9 → mz_GL Lx xs nc2 ns2 (2102, [some (.inr (.inr (some (0, 500)))), some (.inr (.inr (some (0, 0)))), some (.inr (.inr (some (0, 200)))), some (.inl x3)], [], D2) := by
        intro D2 nc2 ns2 hI2 h1 h2
        refine mz_GL.run (gs := []) (st' := (18, [some (.inr (.inr (some (0, 500)))), some (.inr (.inr (some (0, 0)))), some (.inr (.inr (some (0, 200)))), some (.inl (x3 + (6 : Int32)))], [], D2)) [(2102, .iinc 3 6, 0, 0, 0, 6, 0), (2105, .goto (-2087), 0, 18, 0, 0, 0)] (by decide +kernel) rfl trivial ?_
        have e : x3 + (6 : Int32) = nI (6 * (n + 1)) := by
          rw [hx3, show (6 : Int32) = nI 6 from rfl, nI_add]
          rfl
        rw [e]
        exact ih (n + 1) nc2 ns2 D2 (by omega) (by omega) (by omega) (by omega) hI2
      have hc1 : nc + 2 ≤ 600000 := by omega
      have hc2 : ns + 9 ≤ 7302250 := by omega
      refine mz_GL.run (gs := []) (st' := (29, [some (.inr (.inr (some (0, 500)))), some (.inr (.inr (some (0, 0)))), some (.inr (.inr (some (0, 200)))), some (.inl x3)], [.inl x3, .inr (.inr (some (0, 500)))], D)) [(27, .aload_n 0, 0, 0, 0, 0, 0), (28, .iload_n 3, 0, 0, 0, 0, 0)] (by decide +kernel) rfl trivial ?_
      refine mz_GL.sld hin0 (by decide +kernel) ?_
      refine mz_GL.run (gs := []) (st' := (33, [some (.inr (.inr (some (0, 500)))), some (.inr (.inr (some (0, 0)))), some (.inr (.inr (some (0, 200)))), some (.inl x3)], [.inl ((xs x3.toNatClampNeg) &&& (63 : Int32))], D)) [(30, .bipush 63, 0, 0, 0, 63, 0), (32, .iand, 0, 0, 0, 0, 0)] (by decide +kernel) rfl trivial ?_
      obtain ⟨o0, o1, o2, o3, o4, o5, o6, o7, o8, o9, o10, o11, o12, o13, o14, o15, o16, o17, o18, o19, o20, o21, o22, o23, o24, o25, o26, o27, o28, o29, o30, o31, o32, o33, o34, o35, o36, o37, o38, o39, o40, o41, o42, o43, o44, o45, o46, o47, o48, o49, o50, o51, o52, o53, o54, o55, o56, o57, o58, o59, o60, o61, o62⟩ := ho
      refine mz_GL.tsw [(0, 300), (1, 313), (2, 327), (3, 341), (4, 384), (5, 457), (6, 491), (7, 554), (8, 617), (9, 640), (10, 663), (11, 686), (12, 709), (13, 742), (14, 775), (15, 798), (16, 831), (17, 854), (18, 867), (19, 910), (20, 933), (21, 966), (22, 979), (23, 1002), (24, 1025), (25, 1058), (26, 1081), (27, 1104), (28, 1117), (29, 1140), (30, 1173), (31, 1206), (32, 1259), (33, 1292), (34, 1315), (35, 1338), (36, 1351), (37, 1384), (38, 1427), (39, 1450), (40, 1483), (41, 1496), (42, 1509), (43, 1532), (44, 1545), (45, 1568), (46, 1591), (47, 1624), (48, 1657), (49, 1670), (50, 1683), (51, 1706), (52, 1719), (53, 1762), (54, 1815), (55, 1868), (56, 1911), (57, 1964), (58, 1987), (59, 2010), (60, 2033), (61, 2076), (62, 2089)] 2102 (show decode code 33 = .ok (.tableswitch 2069 0 62 #[267, 280, 294, 308, 351, 424, 458, 521, 584, 607, 630, 653, 676, 709, 742, 765, 798, 821, 834, 877, 900, 933, 946, 969, 992, 1025, 1048, 1071, 1084, 1107, 1140, 1173, 1226, 1259, 1282, 1305, 1318, 1351, 1394, 1417, 1450, 1463, 1476, 1499, 1512, 1535, 1558, 1591, 1624, 1637, 1650, 1673, 1686, 1729, 1782, 1835, 1878, 1931, 1954, 1977, 2000, 2043, 2056], 267) by decide +kernel) (by decide +kernel) ?_
      refine mz_GL.swc (fun _ => lc_0 o0 hin hI hc1 hc2 kk) (fun _ => ?_)
      refine mz_GL.swc (fun _ => lc_1 o1 hin hI hc1 hc2 kk) (fun _ => ?_)
      refine mz_GL.swc (fun _ => lc_2 o2 hin hI hc1 hc2 kk) (fun _ => ?_)
      refine mz_GL.swc (fun _ => lc_3 o3 hin hI hc1 hc2 kk) (fun _ => ?_)
      refine mz_GL.swc (fun _ => lc_4 o4 hin hI hc1 hc2 kk) (fun _ => ?_)
      refine mz_GL.swc (fun _ => lc_5 o5 hin hI hc1 hc2 kk) (fun _ => ?_)
      refine mz_GL.swc (fun _ => lc_6 o6 hin hI hc1 hc2 kk) (fun _ => ?_)
      refine mz_GL.swc (fun _ => lc_7 o7 hin hI hc1 hc2 kk) (fun _ => ?_)
      refine mz_GL.swc (fun _ => lc_8 o8 hin hI hc1 hc2 kk) (fun _ => ?_)
      refine mz_GL.swc (fun _ => lc_9 o9 hin hI hc1 hc2 kk) (fun _ => ?_)
      refine mz_GL.swc (fun _ => lc_10 o10 hin hI hc1 hc2 kk) (fun _ => ?_)
      refine mz_GL.swc (fun _ => lc_11 o11 hin hI hc1 hc2 kk) (fun _ => ?_)
      refine mz_GL.swc (fun _ => lc_12 o12 hin hI hc1 hc2 kk) (fun _ => ?_)
      refine mz_GL.swc (fun _ => lc_13 o13 hin hI hc1 hc2 kk) (fun _ => ?_)
      refine mz_GL.swc (fun _ => lc_14 o14 hin hI hc1 hc2 kk) (fun _ => ?_)
      refine mz_GL.swc (fun _ => lc_15 o15 hin hI hc1 hc2 kk) (fun _ => ?_)
      refine mz_GL.swc (fun _ => lc_16 o16 hin hI hc1 hc2 kk) (fun _ => ?_)
      refine mz_GL.swc (fun _ => lc_17 o17 hin hI hc1 hc2 kk) (fun _ => ?_)
      refine mz_GL.swc (fun _ => lc_18 o18 hin hI hc1 hc2 kk) (fun _ => ?_)
      refine mz_GL.swc (fun _ => lc_19 o19 hin hI hc1 hc2 kk) (fun _ => ?_)
      refine mz_GL.swc (fun _ => lc_20 o20 hin hI hc1 hc2 kk) (fun _ => ?_)
      refine mz_GL.swc (fun _ => lc_21 o21 hin hI hc1 hc2 kk) (fun _ => ?_)
      refine mz_GL.swc (fun _ => lc_22 o22 hin hI hc1 hc2 kk) (fun _ => ?_)
      refine mz_GL.swc (fun _ => lc_23 o23 hin hI hc1 hc2 kk) (fun _ => ?_)
      refine mz_GL.swc (fun _ => lc_24 o24 hin hI hc1 hc2 kk) (fun _ => ?_)
      refine mz_GL.swc (fun _ => lc_25 o25 hin hI hc1 hc2 kk) (fun _ => ?_)
      refine mz_GL.swc (fun _ => lc_26 o26 (by omega) hin hI hc1 hc2 kk) (fun _ => ?_)
      refine mz_GL.swc (fun _ => lc_27 o27 hin hI hc1 hc2 kk) (fun _ => ?_)
      refine mz_GL.swc (fun _ => lc_28 o28 hin hI hc1 hc2 kk) (fun _ => ?_)
      refine mz_GL.swc (fun _ => lc_29 o29 hin hI hc1 hc2 kk) (fun _ => ?_)
      refine mz_GL.swc (fun _ => lc_30 o30 hin hI hc1 hc2 kk) (fun _ => ?_)
      refine mz_GL.swc (fun _ => lc_31 o31 hin hI hc1 hc2 kk) (fun _ => ?_)
      refine mz_GL.swc (fun _ => lc_32 o32 hin hI hc1 hc2 kk) (fun _ => ?_)
      refine mz_GL.swc (fun _ => lc_33 o33 hin hI hc1 hc2 kk) (fun _ => ?_)
      refine mz_GL.swc (fun _ => lc_34 o34 hin hI hc1 hc2 kk) (fun _ => ?_)
      refine mz_GL.swc (fun _ => lc_35 o35 hin hI hc1 hc2 kk) (fun _ => ?_)
      refine mz_GL.swc (fun _ => lc_36 o36 hin hI hc1 hc2 kk) (fun _ => ?_)
      refine mz_GL.swc (fun _ => lc_37 o37 hin hI hc1 hc2 kk) (fun _ => ?_)
      refine mz_GL.swc (fun _ => lc_38 o38 hin hI hc1 hc2 kk) (fun _ => ?_)
      refine mz_GL.swc (fun _ => lc_39 o39 hin hI hc1 hc2 kk) (fun _ => ?_)
      refine mz_GL.swc (fun _ => lc_40 o40 hin hI hc1 hc2 kk) (fun _ => ?_)
      refine mz_GL.swc (fun _ => lc_41 o41 hin hI hc1 hc2 kk) (fun _ => ?_)
      refine mz_GL.swc (fun _ => lc_42 o42 hin hI hc1 hc2 kk) (fun _ => ?_)
      refine mz_GL.swc (fun _ => lc_43 o43 hin hI hc1 hc2 kk) (fun _ => ?_)
      refine mz_GL.swc (fun _ => lc_44 o44 hin hI hc1 hc2 kk) (fun _ => ?_)
      refine mz_GL.swc (fun _ => lc_45 o45 hin hI hc1 hc2 kk) (fun _ => ?_)
      refine mz_GL.swc (fun _ => lc_46 o46 hin hI hc1 hc2 kk) (fun _ => ?_)
      refine mz_GL.swc (fun _ => lc_47 o47 hin hI hc1 hc2 kk) (fun _ => ?_)
      refine mz_GL.swc (fun _ => lc_48 o48 hin hI hc1 hc2 kk) (fun _ => ?_)
      refine mz_GL.swc (fun _ => lc_49 o49 hin hI hc1 hc2 kk) (fun _ => ?_)
      refine mz_GL.swc (fun _ => lc_50 o50 hin hI hc1 hc2 kk) (fun _ => ?_)
      refine mz_GL.swc (fun _ => lc_51 o51 hin hI hc1 hc2 kk) (fun _ => ?_)
      refine mz_GL.swc (fun _ => lc_52 o52 hin hI hc1 hc2 kk) (fun _ => ?_)
      refine mz_GL.swc (fun _ => lc_53 o53 hin hI hc1 hc2 kk) (fun _ => ?_)
      refine mz_GL.swc (fun _ => lc_54 o54 hin hI hc1 hc2 kk) (fun _ => ?_)
      refine mz_GL.swc (fun _ => lc_55 o55 hin hI hc1 hc2 kk) (fun _ => ?_)
      refine mz_GL.swc (fun _ => lc_56 o56 hin hI hc1 hc2 kk) (fun _ => ?_)
      refine mz_GL.swc (fun _ => lc_57 o57 hin hI hc1 hc2 kk) (fun _ => ?_)
      refine mz_GL.swc (fun _ => lc_58 o58 (by omega) hin hI hc1 hc2 kk) (fun _ => ?_)
      refine mz_GL.swc (fun _ => lc_59 o59 hin hI hc1 hc2 kk) (fun _ => ?_)
      refine mz_GL.swc (fun _ => lc_60 o60 (by omega) hin hI hc1 hc2 kk) (fun _ => ?_)
      refine mz_GL.swc (fun _ => lc_61 o61 hin hI hc1 hc2 kk) (fun _ => ?_)
      refine mz_GL.swc (fun _ => lc_62 o62 hin hI hc1 hc2 kk) (fun _ => ?_)
      exact kk D nc ns (hstay n D hI) (by omega) (by omega)
