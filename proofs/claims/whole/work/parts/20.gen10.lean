def bX12_eatenBy_0 : List mz_E := [(0, .aload_n 0, 0, 0, 0, 0, 0)]
theorem oX12_eatenBy_0 : bX12_eatenBy_0.all (mz_ok RX12 cX12_eatenBy 4) = true := by decide +kernel
def bX12_eatenBy_4 : List mz_E := [(4, .aload_n 0, 0, 0, 0, 0, 0)]
theorem oX12_eatenBy_4 : bX12_eatenBy_4.all (mz_ok RX12 cX12_eatenBy 4) = true := by decide +kernel
def bX12_eatenBy_8 : List mz_E := [(8, .iload_n 1, 0, 0, 0, 0, 0)]
theorem oX12_eatenBy_8 : bX12_eatenBy_8.all (mz_ok RX12 cX12_eatenBy 4) = true := by decide +kernel
def bX12_eatenBy_12 : List mz_E := [(12, .istore_n 2, 0, 0, 0, 0, 0), (13, .iconst 0, 0, 0, 0, 0, 0), (14, .istore_n 3, 0, 0, 0, 0, 0)]
theorem oX12_eatenBy_12 : bX12_eatenBy_12.all (mz_ok RX12 cX12_eatenBy 4) = true := by decide +kernel
def bX12_eatenBy_15 : List mz_E := [(15, .iload_n 3, 0, 0, 0, 0, 0), (16, .aload_n 0, 0, 0, 0, 0, 0), (17, .getfield 7, 12, 0, 1576, 0, 0), (20, .iconst 2, 0, 0, 0, 2, 0), (21, .iaload, 0, 0, 0, 0, 0), (22, .if_icmp .ge 44, 0, 66, 0, 0, 0)]
theorem oX12_eatenBy_15 : bX12_eatenBy_15.all (mz_ok RX12 cX12_eatenBy 4) = true := by decide +kernel
def bX12_eatenBy_66 : List mz_E := [(66, .iload_n 2, 0, 0, 0, 0, 0)]
theorem oX12_eatenBy_66 : bX12_eatenBy_66.all (mz_ok RX12 cX12_eatenBy 4) = true := by decide +kernel
def bX12_eatenBy_25 : List mz_E := [(25, .iload_n 2, 0, 0, 0, 0, 0), (26, .aload_n 0, 0, 0, 0, 0, 0), (27, .getfield 7, 12, 0, 1576, 0, 0), (30, .bipush 60, 0, 0, 0, 60, 0), (32, .iconst 2, 0, 0, 0, 2, 0), (33, .iload_n 3, 0, 0, 0, 0, 0), (34, .imul, 0, 0, 0, 0, 0), (35, .iadd, 0, 0, 0, 0, 0), (36, .iconst 1, 0, 0, 0, 1, 0), (37, .iadd, 0, 0, 0, 0, 0), (38, .iaload, 0, 0, 0, 0, 0), (39, .iload_n 1, 0, 0, 0, 0, 0), (40, .if_icmp .ne 17, 0, 57, 0, 0, 0)]
theorem oX12_eatenBy_25 : bX12_eatenBy_25.all (mz_ok RX12 cX12_eatenBy 4) = true := by decide +kernel
def bX12_eatenBy_43 : List mz_E := [(43, .aload_n 0, 0, 0, 0, 0, 0), (44, .getfield 7, 12, 0, 1576, 0, 0), (47, .bipush 60, 0, 0, 0, 60, 0), (49, .iconst 2, 0, 0, 0, 2, 0), (50, .iload_n 3, 0, 0, 0, 0, 0), (51, .imul, 0, 0, 0, 0, 0), (52, .iadd, 0, 0, 0, 0, 0), (53, .iaload, 0, 0, 0, 0, 0), (54, .goto 4, 0, 58, 0, 0, 0)]
theorem oX12_eatenBy_43 : bX12_eatenBy_43.all (mz_ok RX12 cX12_eatenBy 4) = true := by decide +kernel
def bX12_eatenBy_58 : List mz_E := [(58, .iadd, 0, 0, 0, 0, 0), (59, .istore_n 2, 0, 0, 0, 0, 0), (60, .iinc 3 1, 0, 0, 0, 1, 0), (63, .goto (-48), 0, 15, 0, 0, 0)]
theorem oX12_eatenBy_58 : bX12_eatenBy_58.all (mz_ok RX12 cX12_eatenBy 4) = true := by decide +kernel
def bX12_eatenBy_57 : List mz_E := [(57, .iconst 0, 0, 0, 0, 0, 0)]
theorem oX12_eatenBy_57 : bX12_eatenBy_57.all (mz_ok RX12 cX12_eatenBy 4) = true := by decide +kernel
abbrev IX12_eatenBy : mz_I := (yX12_eatenBy, cX12_eatenBy, 4, (some .int), 0, 2, 0, 0)
theorem kX12_eatenBy : mz_okm IX12_eatenBy 1921 141 1920 1 = true := by decide +kernel
theorem vX12_eatenBy : mz_okV IX12_eatenBy 1920 85 = true := by decide +kernel
def fX12_eatenBy_58 (D : mz_D) (k15 : Int32 → Int32 → Int32 → Option Int32) (x1 : Int32) (x3 : Int32) (s0 : Int32) (s1 : Int32) : Option Int32 := (k15 x1 (s1 + s0) (x3 + (1 : Int32)))
set_option maxHeartbeats 4000000 in
theorem tX12_eatenBy_58 (D : mz_D) (r : Int32) (k15 : Int32 → Int32 → Int32 → Option Int32) (hk15 : ∀ (x1 : Int32) (x2 : Int32) (x3 : Int32), k15 x1 x2 x3 = some r → mz_Go IX12_eatenBy (some (.inl r), D) 0 0 (15, [some (.inr (.inr (some (0, 200)))), some (.inl x1), some (.inl x2), some (.inl x3)], [], D)) : ∀ (x1 : Int32) (x3 : Int32) (s0 : Int32) (s1 : Int32), fX12_eatenBy_58 D k15 x1 x3 s0 s1 = some r → mz_Go IX12_eatenBy (some (.inl r), D) 0 0 (58, [some (.inr (.inr (some (0, 200)))), some (.inl x1), none, some (.inl x3)], [.inl s0, .inl s1], D) := by
  intro x1 x3 s0 s1 h
  rw [fX12_eatenBy_58] at h
  refine mz_Go.run (gs := []) (st' := (15, [some (.inr (.inr (some (0, 200)))), some (.inl x1), some (.inl (s1 + s0)), some (.inl (x3 + (1 : Int32)))], [], D)) bX12_eatenBy_58 oX12_eatenBy_58 rfl trivial ?_
  exact mz_Go.drop [true, true, true, true] (hk15 x1 (s1 + s0) (x3 + (1 : Int32)) h)
def fX12_eatenBy_15 (D : mz_D) : Nat → Int32 → Int32 → Int32 → Option Int32
  | 0 => fun _ _ _ => none
  | n + 1 => fun x1 x2 x3 => (if (D.1 0 201 ((2 : Int32)).toNatClampNeg) ≤ x3 then (some x2) else (mz_gd (mz_ix (((60 : Int32) + ((2 : Int32) * x3)) + (1 : Int32)) 3000) (if (D.1 0 201 ((((60 : Int32) + ((2 : Int32) * x3)) + (1 : Int32))).toNatClampNeg) = x1 then (mz_gd (mz_ix ((60 : Int32) + ((2 : Int32) * x3)) 3000) (fX12_eatenBy_58 D (fX12_eatenBy_15 D n) x1 x3 (D.1 0 201 (((60 : Int32) + ((2 : Int32) * x3))).toNatClampNeg) x2)) else (fX12_eatenBy_58 D (fX12_eatenBy_15 D n) x1 x3 (0 : Int32) x2))))
set_option maxHeartbeats 4000000 in
theorem tX12_eatenBy_15 (D : mz_D) (r : Int32) : ∀ (n : Nat) (x1 : Int32) (x2 : Int32) (x3 : Int32), fX12_eatenBy_15 D n x1 x2 x3 = some r → mz_Go IX12_eatenBy (some (.inl r), D) 0 0 (15, [some (.inr (.inr (some (0, 200)))), some (.inl x1), some (.inl x2), some (.inl x3)], [], D) := by
  intro n
  induction n with
  | zero => intro x1 x2 x3 h; have h : (none : Option Int32) = some r := h; cases h
  | succ n ih =>
    intro x1 x2 x3 h
    rw [fX12_eatenBy_15] at h
    refine mz_Go.run (gs := [mz_kz 0 0 200, mz_kz 0 0 201, mz_ix (2 : Int32) 3000]) (st' := (if (D.1 0 201 ((2 : Int32)).toNatClampNeg) ≤ x3 then (66, [some (.inr (.inr (some (0, 200)))), some (.inl x1), some (.inl x2), some (.inl x3)], [], D) else (25, [some (.inr (.inr (some (0, 200)))), some (.inl x1), some (.inl x2), some (.inl x3)], [], D))) bX12_eatenBy_15 oX12_eatenBy_15 rfl ⟨rfl, rfl, (by decide), trivial⟩ ?_
    refine mz_Go.ite (fun hc1 => ?_) (fun hc1 => ?_)
    · have h := mz_ifp hc1 h
      refine mz_Go.run (gs := []) (st' := (67, [some (.inr (.inr (some (0, 200)))), some (.inl x1), some (.inl x2), some (.inl x3)], [.inl x2], D)) bX12_eatenBy_66 oX12_eatenBy_66 rfl trivial ?_
      cases h
      exact mz_Go.reti (by decide +kernel) rfl ⟨Nat.le_refl _, Nat.le_refl _⟩ rfl
    · have h := mz_ifn hc1 h
      obtain ⟨hb2, h⟩ := mz_gd_some h
      refine mz_Go.run (gs := [mz_kz 0 0 200, mz_kz 0 0 201, mz_ix (((60 : Int32) + ((2 : Int32) * x3)) + (1 : Int32)) 3000]) (st' := (if (D.1 0 201 ((((60 : Int32) + ((2 : Int32) * x3)) + (1 : Int32))).toNatClampNeg) = x1 then (43, [some (.inr (.inr (some (0, 200)))), some (.inl x1), some (.inl x2), some (.inl x3)], [.inl x2], D) else (57, [some (.inr (.inr (some (0, 200)))), some (.inl x1), some (.inl x2), some (.inl x3)], [.inl x2], D))) bX12_eatenBy_25 oX12_eatenBy_25 rfl ⟨rfl, rfl, hb2, trivial⟩ ?_
      refine mz_Go.ite (fun hc3 => ?_) (fun hc3 => ?_)
      · have h := mz_ifp hc3 h
        obtain ⟨hb4, h⟩ := mz_gd_some h
        refine mz_Go.run (gs := [mz_kz 0 0 200, mz_kz 0 0 201, mz_ix ((60 : Int32) + ((2 : Int32) * x3)) 3000]) (st' := (58, [some (.inr (.inr (some (0, 200)))), some (.inl x1), some (.inl x2), some (.inl x3)], [.inl (D.1 0 201 (((60 : Int32) + ((2 : Int32) * x3))).toNatClampNeg), .inl x2], D)) bX12_eatenBy_43 oX12_eatenBy_43 rfl ⟨rfl, rfl, hb4, trivial⟩ ?_
        exact mz_Go.drop [true, true, false, true] (tX12_eatenBy_58 D r (fX12_eatenBy_15 D n) ih x1 x3 (D.1 0 201 (((60 : Int32) + ((2 : Int32) * x3))).toNatClampNeg) x2 h)
      · have h := mz_ifn hc3 h
        refine mz_Go.run (gs := []) (st' := (58, [some (.inr (.inr (some (0, 200)))), some (.inl x1), some (.inl x2), some (.inl x3)], [.inl (0 : Int32), .inl x2], D)) bX12_eatenBy_57 oX12_eatenBy_57 rfl trivial ?_
        exact mz_Go.drop [true, true, false, true] (tX12_eatenBy_58 D r (fX12_eatenBy_15 D n) ih x1 x3 (0 : Int32) x2 h)
def fX12_eatenBy (x1 : Int32) (D : mz_D) : Option Int32 := (Option.bind (fX12_commons D) fun q1 => (Option.bind (fX12_partOf q1 (((1 : Int32) <<< ((D.1 0 201 ((0 : Int32)).toNatClampNeg) &&& 31)) - (1 : Int32)) x1) fun q2 => (fX12_eatenBy_15 D mz_N x1 q2 (0 : Int32))))
set_option maxHeartbeats 4000000 in
theorem mX12_eatenBy (x1 : Int32) (D : mz_D) (r : Int32) (h : fX12_eatenBy x1 D = some r) : mz_Met IX12_eatenBy [.inr (.inr (some (0, 200))), .inl x1] D (some (.inl r), D) := by
  refine mz_Met.of (by decide +kernel) (Nat.le_of_ble_eq_true rfl) ?_
  show mz_Go IX12_eatenBy (some (.inl r), D) 0 0 (0, [some (.inr (.inr (some (0, 200)))), some (.inl x1), none, none], [], D)
  rw [fX12_eatenBy] at h
  refine mz_Go.run (gs := []) (st' := (1, [some (.inr (.inr (some (0, 200)))), some (.inl x1), none, none], [.inr (.inr (some (0, 200)))], D)) bX12_eatenBy_0 oX12_eatenBy_0 rfl trivial ?_
  obtain ⟨q1, hq1, h⟩ := mz_bd_some h
  refine mz_Go.callV (I := IX12_eatenBy) (J := IX12_commons) (as := []) (ci := 12) (g := 0) (o := 200) (idx := 257) (pl := 1922) (rest := []) (mX12_commons D q1 hq1) kX12_commons vX12_commons (by decide +kernel) (by decide +kernel) (by decide +kernel) rfl rfl ⟨rfl, rfl⟩ rfl rfl rfl rfl ?_
  refine mz_Go.run (gs := []) (st' := (5, [some (.inr (.inr (some (0, 200)))), some (.inl x1), none, none], [.inr (.inr (some (0, 200))), .inl q1], D)) bX12_eatenBy_4 oX12_eatenBy_4 rfl trivial ?_
  refine mz_Go.callV (I := IX12_eatenBy) (J := IX12_everybody) (as := []) (ci := 12) (g := 0) (o := 200) (idx := 251) (pl := 1884) (rest := [.inl q1]) (mX12_everybody D) kX12_everybody vX12_everybody (by decide +kernel) (by decide +kernel) (by decide +kernel) rfl rfl ⟨rfl, rfl⟩ rfl rfl rfl rfl ?_
  refine mz_Go.run (gs := []) (st' := (9, [some (.inr (.inr (some (0, 200)))), some (.inl x1), none, none], [.inl x1, .inl (((1 : Int32) <<< ((D.1 0 201 ((0 : Int32)).toNatClampNeg) &&& 31)) - (1 : Int32)), .inl q1], D)) bX12_eatenBy_8 oX12_eatenBy_8 rfl trivial ?_
  obtain ⟨q2, hq2, h⟩ := mz_bd_some h
  refine mz_Go.callS (I := IX12_eatenBy) (J := IX12_partOf) (as := [.inl q1, .inl (((1 : Int32) <<< ((D.1 0 201 ((0 : Int32)).toNatClampNeg) &&& 31)) - (1 : Int32)), .inl x1]) (idx := 260) (pl := 1926) (rest := []) (mX12_partOf q1 (((1 : Int32) <<< ((D.1 0 201 ((0 : Int32)).toNatClampNeg) &&& 31)) - (1 : Int32)) x1 D q2 hq2) kX12_partOf vX12_partOf (by decide +kernel) (by decide +kernel) (by decide +kernel) rfl rfl ⟨rfl, rfl⟩ rfl ?_
  refine mz_Go.run (gs := []) (st' := (15, [some (.inr (.inr (some (0, 200)))), some (.inl x1), some (.inl q2), some (.inl (0 : Int32))], [], D)) bX12_eatenBy_12 oX12_eatenBy_12 rfl trivial ?_
  exact mz_Go.drop [true, true, true, true] (tX12_eatenBy_15 D r mz_N x1 q2 (0 : Int32) h)
def bX12_units_0 : List mz_E := [(0, .aload_n 0, 0, 0, 0, 0, 0)]
theorem oX12_units_0 : bX12_units_0.all (mz_ok RX12 cX12_units 4) = true := by decide +kernel
def bX12_units_4 : List mz_E := [(4, .istore_n 1, 0, 0, 0, 0, 0), (5, .iconst 0, 0, 0, 0, 0, 0), (6, .istore_n 2, 0, 0, 0, 0, 0)]
theorem oX12_units_4 : bX12_units_4.all (mz_ok RX12 cX12_units 4) = true := by decide +kernel
def bX12_units_7 : List mz_E := [(7, .iload_n 2, 0, 0, 0, 0, 0), (8, .aload_n 0, 0, 0, 0, 0, 0), (9, .getfield 7, 12, 0, 1576, 0, 0), (12, .iconst 0, 0, 0, 0, 0, 0), (13, .iaload, 0, 0, 0, 0, 0), (14, .if_icmp .ge 63, 0, 77, 0, 0, 0)]
theorem oX12_units_7 : bX12_units_7.all (mz_ok RX12 cX12_units 4) = true := by decide +kernel
def bX12_units_77 : List mz_E := [(77, .iload_n 1, 0, 0, 0, 0, 0)]
theorem oX12_units_77 : bX12_units_77.all (mz_ok RX12 cX12_units 4) = true := by decide +kernel
def bX12_units_17 : List mz_E := [(17, .aload_n 0, 0, 0, 0, 0, 0), (18, .getfield 7, 12, 0, 1576, 0, 0), (21, .iload_n 2, 0, 0, 0, 0, 0)]
theorem oX12_units_17 : bX12_units_17.all (mz_ok RX12 cX12_units 4) = true := by decide +kernel
def bX12_units_25 : List mz_E := [(25, .iconst 4, 0, 0, 0, 4, 0), (26, .iadd, 0, 0, 0, 0, 0), (27, .iaload, 0, 0, 0, 0, 0), (28, .istore_n 3, 0, 0, 0, 0, 0), (29, .iload_n 3, 0, 0, 0, 0, 0), (30, .iconst (-1), 0, 0, 0, -1, 0), (31, .if_icmp .eq 40, 0, 71, 0, 0, 0)]
theorem oX12_units_25 : bX12_units_25.all (mz_ok RX12 cX12_units 4) = true := by decide +kernel
def bX12_units_71 : List mz_E := [(71, .iinc 2 1, 0, 0, 0, 1, 0), (74, .goto (-67), 0, 7, 0, 0, 0)]
theorem oX12_units_71 : bX12_units_71.all (mz_ok RX12 cX12_units 4) = true := by decide +kernel
def bX12_units_34 : List mz_E := [(34, .iload_n 3, 0, 0, 0, 0, 0), (35, .iload_n 2, 0, 0, 0, 0, 0), (36, .if_icmp .ge 35, 0, 71, 0, 0, 0)]
theorem oX12_units_34 : bX12_units_34.all (mz_ok RX12 cX12_units 4) = true := by decide +kernel
def bX12_units_39 : List mz_E := [(39, .aload_n 0, 0, 0, 0, 0, 0), (40, .aload_n 0, 0, 0, 0, 0, 0)]
theorem oX12_units_39 : bX12_units_39.all (mz_ok RX12 cX12_units 4) = true := by decide +kernel
def bX12_units_44 : List mz_E := [(44, .iload_n 2, 0, 0, 0, 0, 0)]
theorem oX12_units_44 : bX12_units_44.all (mz_ok RX12 cX12_units 4) = true := by decide +kernel
def bX12_units_48 : List mz_E := [(48, .ifCond .eq 23, 0, 71, 0, 0, 0)]
theorem oX12_units_48 : bX12_units_48.all (mz_ok RX12 cX12_units 4) = true := by decide +kernel
def bX12_units_51 : List mz_E := [(51, .aload_n 0, 0, 0, 0, 0, 0), (52, .aload_n 0, 0, 0, 0, 0, 0)]
theorem oX12_units_51 : bX12_units_51.all (mz_ok RX12 cX12_units 4) = true := by decide +kernel
def bX12_units_56 : List mz_E := [(56, .iload_n 3, 0, 0, 0, 0, 0)]
theorem oX12_units_56 : bX12_units_56.all (mz_ok RX12 cX12_units 4) = true := by decide +kernel
def bX12_units_60 : List mz_E := [(60, .ifCond .eq 11, 0, 71, 0, 0, 0)]
theorem oX12_units_60 : bX12_units_60.all (mz_ok RX12 cX12_units 4) = true := by decide +kernel
def bX12_units_63 : List mz_E := [(63, .iload_n 1, 0, 0, 0, 0, 0), (64, .iconst 1, 0, 0, 0, 1, 0), (65, .iload_n 2, 0, 0, 0, 0, 0), (66, .ishl, 0, 0, 0, 0, 0), (67, .iconst (-1), 0, 0, 0, -1, 0), (68, .ixor, 0, 0, 0, 0, 0), (69, .iand, 0, 0, 0, 0, 0), (70, .istore_n 1, 0, 0, 0, 0, 0), (71, .iinc 2 1, 0, 0, 0, 1, 0), (74, .goto (-67), 0, 7, 0, 0, 0)]
theorem oX12_units_63 : bX12_units_63.all (mz_ok RX12 cX12_units 4) = true := by decide +kernel
abbrev IX12_units : mz_I := (yX12_units, cX12_units, 4, (some .int), 0, 2, 0, 0)
theorem kX12_units : mz_okm IX12_units 1943 141 1942 0 = true := by decide +kernel
theorem vX12_units : mz_okV IX12_units 1942 88 = true := by decide +kernel
def fX12_units_7 (D : mz_D) : Nat → Int32 → Int32 → Option Int32
  | 0 => fun _ _ => none
  | n + 1 => fun x1 x2 => (if (D.1 0 201 ((0 : Int32)).toNatClampNeg) ≤ x2 then (some x1) else (mz_gd (mz_ix (((12 : Int32) + ((8 : Int32) * x2)) + (4 : Int32)) 3000) (if (D.1 0 201 ((((12 : Int32) + ((8 : Int32) * x2)) + (4 : Int32))).toNatClampNeg) = (-1 : Int32) then ((fX12_units_7 D n) x1 (x2 + (1 : Int32))) else (if x2 ≤ (D.1 0 201 ((((12 : Int32) + ((8 : Int32) * x2)) + (4 : Int32))).toNatClampNeg) then ((fX12_units_7 D n) x1 (x2 + (1 : Int32))) else (if (fX12_isIn (fX12_heads D) x2) = 0 then ((fX12_units_7 D n) x1 (x2 + (1 : Int32))) else (if (fX12_isIn (fX12_heads D) (D.1 0 201 ((((12 : Int32) + ((8 : Int32) * x2)) + (4 : Int32))).toNatClampNeg)) = 0 then ((fX12_units_7 D n) x1 (x2 + (1 : Int32))) else ((fX12_units_7 D n) (x1 &&& (((1 : Int32) <<< (x2 &&& 31)) ^^^ (-1 : Int32))) (x2 + (1 : Int32)))))))))
set_option maxHeartbeats 4000000 in
theorem tX12_units_7 (D : mz_D) (r : Int32) : ∀ (n : Nat) (x1 : Int32) (x2 : Int32), fX12_units_7 D n x1 x2 = some r → mz_Go IX12_units (some (.inl r), D) 0 0 (7, [some (.inr (.inr (some (0, 200)))), some (.inl x1), some (.inl x2), none], [], D) := by
  intro n
  induction n with
  | zero => intro x1 x2 h; have h : (none : Option Int32) = some r := h; cases h
  | succ n ih =>
    intro x1 x2 h
    rw [fX12_units_7] at h
    refine mz_Go.run (gs := [mz_kz 0 0 200, mz_kz 0 0 201, mz_ix (0 : Int32) 3000]) (st' := (if (D.1 0 201 ((0 : Int32)).toNatClampNeg) ≤ x2 then (77, [some (.inr (.inr (some (0, 200)))), some (.inl x1), some (.inl x2), none], [], D) else (17, [some (.inr (.inr (some (0, 200)))), some (.inl x1), some (.inl x2), none], [], D))) bX12_units_7 oX12_units_7 rfl ⟨rfl, rfl, (by decide), trivial⟩ ?_
    refine mz_Go.ite (fun hc1 => ?_) (fun hc1 => ?_)
    · have h := mz_ifp hc1 h
      refine mz_Go.run (gs := []) (st' := (78, [some (.inr (.inr (some (0, 200)))), some (.inl x1), some (.inl x2), none], [.inl x1], D)) bX12_units_77 oX12_units_77 rfl trivial ?_
      cases h
      exact mz_Go.reti (by decide +kernel) rfl ⟨Nat.le_refl _, Nat.le_refl _⟩ rfl
    · have h := mz_ifn hc1 h
      refine mz_Go.run (gs := [mz_kz 0 0 200]) (st' := (22, [some (.inr (.inr (some (0, 200)))), some (.inl x1), some (.inl x2), none], [.inl x2, .inr (.inr (some (0, 201)))], D)) bX12_units_17 oX12_units_17 rfl ⟨rfl, trivial⟩ ?_
      refine mz_Go.callS (I := IX12_units) (J := IX12_personRow) (as := [.inl x2]) (idx := 267) (pl := 1895) (rest := [.inr (.inr (some (0, 201)))]) (mX12_personRow x2 D) kX12_personRow vX12_personRow (by decide +kernel) (by decide +kernel) (by decide +kernel) rfl rfl ⟨rfl, rfl⟩ rfl ?_
      obtain ⟨hb2, h⟩ := mz_gd_some h
      refine mz_Go.run (gs := [mz_kz 0 0 201, mz_ix (((12 : Int32) + ((8 : Int32) * x2)) + (4 : Int32)) 3000]) (st' := (if (D.1 0 201 ((((12 : Int32) + ((8 : Int32) * x2)) + (4 : Int32))).toNatClampNeg) = (-1 : Int32) then (71, [some (.inr (.inr (some (0, 200)))), some (.inl x1), some (.inl x2), some (.inl (D.1 0 201 ((((12 : Int32) + ((8 : Int32) * x2)) + (4 : Int32))).toNatClampNeg))], [], D) else (34, [some (.inr (.inr (some (0, 200)))), some (.inl x1), some (.inl x2), some (.inl (D.1 0 201 ((((12 : Int32) + ((8 : Int32) * x2)) + (4 : Int32))).toNatClampNeg))], [], D))) bX12_units_25 oX12_units_25 rfl ⟨rfl, hb2, trivial⟩ ?_
      refine mz_Go.ite (fun hc3 => ?_) (fun hc3 => ?_)
      · have h := mz_ifp hc3 h
        refine mz_Go.run (gs := []) (st' := (7, [some (.inr (.inr (some (0, 200)))), some (.inl x1), some (.inl (x2 + (1 : Int32))), some (.inl (D.1 0 201 ((((12 : Int32) + ((8 : Int32) * x2)) + (4 : Int32))).toNatClampNeg))], [], D)) bX12_units_71 oX12_units_71 rfl trivial ?_
        exact mz_Go.drop [true, true, true, false] (ih x1 (x2 + (1 : Int32)) h)
      · have h := mz_ifn hc3 h
        refine mz_Go.run (gs := []) (st' := (if x2 ≤ (D.1 0 201 ((((12 : Int32) + ((8 : Int32) * x2)) + (4 : Int32))).toNatClampNeg) then (71, [some (.inr (.inr (some (0, 200)))), some (.inl x1), some (.inl x2), some (.inl (D.1 0 201 ((((12 : Int32) + ((8 : Int32) * x2)) + (4 : Int32))).toNatClampNeg))], [], D) else (39, [some (.inr (.inr (some (0, 200)))), some (.inl x1), some (.inl x2), some (.inl (D.1 0 201 ((((12 : Int32) + ((8 : Int32) * x2)) + (4 : Int32))).toNatClampNeg))], [], D))) bX12_units_34 oX12_units_34 rfl trivial ?_
        refine mz_Go.ite (fun hc4 => ?_) (fun hc4 => ?_)
        · have h := mz_ifp hc4 h
          refine mz_Go.run (gs := []) (st' := (7, [some (.inr (.inr (some (0, 200)))), some (.inl x1), some (.inl (x2 + (1 : Int32))), some (.inl (D.1 0 201 ((((12 : Int32) + ((8 : Int32) * x2)) + (4 : Int32))).toNatClampNeg))], [], D)) bX12_units_71 oX12_units_71 rfl trivial ?_
          exact mz_Go.drop [true, true, true, false] (ih x1 (x2 + (1 : Int32)) h)
        · have h := mz_ifn hc4 h
          refine mz_Go.run (gs := []) (st' := (41, [some (.inr (.inr (some (0, 200)))), some (.inl x1), some (.inl x2), some (.inl (D.1 0 201 ((((12 : Int32) + ((8 : Int32) * x2)) + (4 : Int32))).toNatClampNeg))], [.inr (.inr (some (0, 200))), .inr (.inr (some (0, 200)))], D)) bX12_units_39 oX12_units_39 rfl trivial ?_
          refine mz_Go.callV (I := IX12_units) (J := IX12_heads) (as := []) (ci := 12) (g := 0) (o := 200) (idx := 264) (pl := 1880) (rest := [.inr (.inr (some (0, 200)))]) (mX12_heads D _ rfl) kX12_heads vX12_heads (by decide +kernel) (by decide +kernel) (by decide +kernel) rfl rfl ⟨rfl, rfl⟩ rfl rfl rfl rfl ?_
          refine mz_Go.run (gs := []) (st' := (45, [some (.inr (.inr (some (0, 200)))), some (.inl x1), some (.inl x2), some (.inl (D.1 0 201 ((((12 : Int32) + ((8 : Int32) * x2)) + (4 : Int32))).toNatClampNeg))], [.inl x2, .inl (fX12_heads D), .inr (.inr (some (0, 200)))], D)) bX12_units_44 oX12_units_44 rfl trivial ?_
          refine mz_Go.callV (I := IX12_units) (J := IX12_isIn) (as := [.inl (fX12_heads D), .inl x2]) (ci := 12) (g := 0) (o := 200) (idx := 270) (pl := 1944) (rest := []) (mX12_isIn (fX12_heads D) x2 D _ rfl) kX12_isIn vX12_isIn (by decide +kernel) (by decide +kernel) (by decide +kernel) rfl rfl ⟨rfl, rfl⟩ rfl rfl rfl rfl ?_
          refine mz_Go.run (gs := []) (st' := (if (fX12_isIn (fX12_heads D) x2) = 0 then (71, [some (.inr (.inr (some (0, 200)))), some (.inl x1), some (.inl x2), some (.inl (D.1 0 201 ((((12 : Int32) + ((8 : Int32) * x2)) + (4 : Int32))).toNatClampNeg))], [], D) else (51, [some (.inr (.inr (some (0, 200)))), some (.inl x1), some (.inl x2), some (.inl (D.1 0 201 ((((12 : Int32) + ((8 : Int32) * x2)) + (4 : Int32))).toNatClampNeg))], [], D))) bX12_units_48 oX12_units_48 rfl trivial ?_
          refine mz_Go.ite (fun hc5 => ?_) (fun hc5 => ?_)
          · have h := mz_ifp hc5 h
            refine mz_Go.run (gs := []) (st' := (7, [some (.inr (.inr (some (0, 200)))), some (.inl x1), some (.inl (x2 + (1 : Int32))), some (.inl (D.1 0 201 ((((12 : Int32) + ((8 : Int32) * x2)) + (4 : Int32))).toNatClampNeg))], [], D)) bX12_units_71 oX12_units_71 rfl trivial ?_
            exact mz_Go.drop [true, true, true, false] (ih x1 (x2 + (1 : Int32)) h)
          · have h := mz_ifn hc5 h
            refine mz_Go.run (gs := []) (st' := (53, [some (.inr (.inr (some (0, 200)))), some (.inl x1), some (.inl x2), some (.inl (D.1 0 201 ((((12 : Int32) + ((8 : Int32) * x2)) + (4 : Int32))).toNatClampNeg))], [.inr (.inr (some (0, 200))), .inr (.inr (some (0, 200)))], D)) bX12_units_51 oX12_units_51 rfl trivial ?_
            refine mz_Go.callV (I := IX12_units) (J := IX12_heads) (as := []) (ci := 12) (g := 0) (o := 200) (idx := 264) (pl := 1880) (rest := [.inr (.inr (some (0, 200)))]) (mX12_heads D _ rfl) kX12_heads vX12_heads (by decide +kernel) (by decide +kernel) (by decide +kernel) rfl rfl ⟨rfl, rfl⟩ rfl rfl rfl rfl ?_
            refine mz_Go.run (gs := []) (st' := (57, [some (.inr (.inr (some (0, 200)))), some (.inl x1), some (.inl x2), some (.inl (D.1 0 201 ((((12 : Int32) + ((8 : Int32) * x2)) + (4 : Int32))).toNatClampNeg))], [.inl (D.1 0 201 ((((12 : Int32) + ((8 : Int32) * x2)) + (4 : Int32))).toNatClampNeg), .inl (fX12_heads D), .inr (.inr (some (0, 200)))], D)) bX12_units_56 oX12_units_56 rfl trivial ?_
            refine mz_Go.callV (I := IX12_units) (J := IX12_isIn) (as := [.inl (fX12_heads D), .inl (D.1 0 201 ((((12 : Int32) + ((8 : Int32) * x2)) + (4 : Int32))).toNatClampNeg)]) (ci := 12) (g := 0) (o := 200) (idx := 270) (pl := 1944) (rest := []) (mX12_isIn (fX12_heads D) (D.1 0 201 ((((12 : Int32) + ((8 : Int32) * x2)) + (4 : Int32))).toNatClampNeg) D _ rfl) kX12_isIn vX12_isIn (by decide +kernel) (by decide +kernel) (by decide +kernel) rfl rfl ⟨rfl, rfl⟩ rfl rfl rfl rfl ?_
            refine mz_Go.run (gs := []) (st' := (if (fX12_isIn (fX12_heads D) (D.1 0 201 ((((12 : Int32) + ((8 : Int32) * x2)) + (4 : Int32))).toNatClampNeg)) = 0 then (71, [some (.inr (.inr (some (0, 200)))), some (.inl x1), some (.inl x2), some (.inl (D.1 0 201 ((((12 : Int32) + ((8 : Int32) * x2)) + (4 : Int32))).toNatClampNeg))], [], D) else (63, [some (.inr (.inr (some (0, 200)))), some (.inl x1), some (.inl x2), some (.inl (D.1 0 201 ((((12 : Int32) + ((8 : Int32) * x2)) + (4 : Int32))).toNatClampNeg))], [], D))) bX12_units_60 oX12_units_60 rfl trivial ?_
            refine mz_Go.ite (fun hc6 => ?_) (fun hc6 => ?_)
            · have h := mz_ifp hc6 h
              refine mz_Go.run (gs := []) (st' := (7, [some (.inr (.inr (some (0, 200)))), some (.inl x1), some (.inl (x2 + (1 : Int32))), some (.inl (D.1 0 201 ((((12 : Int32) + ((8 : Int32) * x2)) + (4 : Int32))).toNatClampNeg))], [], D)) bX12_units_71 oX12_units_71 rfl trivial ?_
              exact mz_Go.drop [true, true, true, false] (ih x1 (x2 + (1 : Int32)) h)
            · have h := mz_ifn hc6 h
              refine mz_Go.run (gs := []) (st' := (7, [some (.inr (.inr (some (0, 200)))), some (.inl (x1 &&& (((1 : Int32) <<< (x2 &&& 31)) ^^^ (-1 : Int32)))), some (.inl (x2 + (1 : Int32))), some (.inl (D.1 0 201 ((((12 : Int32) + ((8 : Int32) * x2)) + (4 : Int32))).toNatClampNeg))], [], D)) bX12_units_63 oX12_units_63 rfl trivial ?_
              exact mz_Go.drop [true, true, true, false] (ih (x1 &&& (((1 : Int32) <<< (x2 &&& 31)) ^^^ (-1 : Int32))) (x2 + (1 : Int32)) h)
def fX12_units (D : mz_D) : Option Int32 := (fX12_units_7 D mz_N (fX12_heads D) (0 : Int32))
set_option maxHeartbeats 4000000 in
theorem mX12_units (D : mz_D) (r : Int32) (h : fX12_units D = some r) : mz_Met IX12_units [.inr (.inr (some (0, 200)))] D (some (.inl r), D) := by
  refine mz_Met.of (by decide +kernel) (Nat.le_of_ble_eq_true rfl) ?_
  show mz_Go IX12_units (some (.inl r), D) 0 0 (0, [some (.inr (.inr (some (0, 200)))), none, none, none], [], D)
  rw [fX12_units] at h
  refine mz_Go.run (gs := []) (st' := (1, [some (.inr (.inr (some (0, 200)))), none, none, none], [.inr (.inr (some (0, 200)))], D)) bX12_units_0 oX12_units_0 rfl trivial ?_
  refine mz_Go.callV (I := IX12_units) (J := IX12_heads) (as := []) (ci := 12) (g := 0) (o := 200) (idx := 264) (pl := 1880) (rest := []) (mX12_heads D _ rfl) kX12_heads vX12_heads (by decide +kernel) (by decide +kernel) (by decide +kernel) rfl rfl ⟨rfl, rfl⟩ rfl rfl rfl rfl ?_
  refine mz_Go.run (gs := []) (st' := (7, [some (.inr (.inr (some (0, 200)))), some (.inl (fX12_heads D)), some (.inl (0 : Int32)), none], [], D)) bX12_units_4 oX12_units_4 rfl trivial ?_
  exact mz_Go.drop [true, true, true, false] (tX12_units_7 D r mz_N (fX12_heads D) (0 : Int32) h)
def bX12_dueBy_0 : List mz_E := [(0, .iload_n 2, 0, 0, 0, 0, 0), (1, .ifCond .ne 16, 0, 17, 0, 0, 0)]
theorem oX12_dueBy_0 : bX12_dueBy_0.all (mz_ok RX12 cX12_dueBy 5) = true := by decide +kernel
def bX12_dueBy_4 : List mz_E := [(4, .aload_n 0, 0, 0, 0, 0, 0)]
theorem oX12_dueBy_4 : bX12_dueBy_4.all (mz_ok RX12 cX12_dueBy 5) = true := by decide +kernel
def bX12_dueBy_8 : List mz_E := [(8, .aload_n 0, 0, 0, 0, 0, 0)]
theorem oX12_dueBy_8 : bX12_dueBy_8.all (mz_ok RX12 cX12_dueBy 5) = true := by decide +kernel
def bX12_dueBy_12 : List mz_E := [(12, .iload_n 1, 0, 0, 0, 0, 0)]
theorem oX12_dueBy_12 : bX12_dueBy_12.all (mz_ok RX12 cX12_dueBy 5) = true := by decide +kernel
def bX12_dueBy_17 : List mz_E := [(17, .iload_n 2, 0, 0, 0, 0, 0), (18, .iconst 2, 0, 0, 0, 2, 0), (19, .if_icmp .ne 16, 0, 35, 0, 0, 0)]
theorem oX12_dueBy_17 : bX12_dueBy_17.all (mz_ok RX12 cX12_dueBy 5) = true := by decide +kernel
def bX12_dueBy_22 : List mz_E := [(22, .aload_n 0, 0, 0, 0, 0, 0)]
theorem oX12_dueBy_22 : bX12_dueBy_22.all (mz_ok RX12 cX12_dueBy 5) = true := by decide +kernel
def bX12_dueBy_26 : List mz_E := [(26, .aload_n 0, 0, 0, 0, 0, 0)]
theorem oX12_dueBy_26 : bX12_dueBy_26.all (mz_ok RX12 cX12_dueBy 5) = true := by decide +kernel
def bX12_dueBy_30 : List mz_E := [(30, .iload_n 1, 0, 0, 0, 0, 0)]
theorem oX12_dueBy_30 : bX12_dueBy_30.all (mz_ok RX12 cX12_dueBy 5) = true := by decide +kernel
def bX12_dueBy_35 : List mz_E := [(35, .iconst 0, 0, 0, 0, 0, 0), (36, .istore_n 3, 0, 0, 0, 0, 0), (37, .iconst 0, 0, 0, 0, 0, 0), (38, .istore 4, 0, 0, 0, 0, 0)]
theorem oX12_dueBy_35 : bX12_dueBy_35.all (mz_ok RX12 cX12_dueBy 5) = true := by decide +kernel
def bX12_dueBy_40 : List mz_E := [(40, .iload 4, 0, 0, 0, 0, 0), (42, .aload_n 0, 0, 0, 0, 0, 0), (43, .getfield 7, 12, 0, 1576, 0, 0), (46, .iconst 0, 0, 0, 0, 0, 0), (47, .iaload, 0, 0, 0, 0, 0), (48, .if_icmp .ge 35, 0, 83, 0, 0, 0)]
theorem oX12_dueBy_40 : bX12_dueBy_40.all (mz_ok RX12 cX12_dueBy 5) = true := by decide +kernel
def bX12_dueBy_83 : List mz_E := [(83, .aload_n 0, 0, 0, 0, 0, 0), (84, .aload_n 0, 0, 0, 0, 0, 0)]
theorem oX12_dueBy_83 : bX12_dueBy_83.all (mz_ok RX12 cX12_dueBy 5) = true := by decide +kernel
def bX12_dueBy_88 : List mz_E := [(88, .iload_n 1, 0, 0, 0, 0, 0)]
theorem oX12_dueBy_88 : bX12_dueBy_88.all (mz_ok RX12 cX12_dueBy 5) = true := by decide +kernel
def bX12_dueBy_92 : List mz_E := [(92, .ifCond .eq 21, 0, 113, 0, 0, 0)]
theorem oX12_dueBy_92 : bX12_dueBy_92.all (mz_ok RX12 cX12_dueBy 5) = true := by decide +kernel
def bX12_dueBy_113 : List mz_E := [(113, .iconst 0, 0, 0, 0, 0, 0)]
theorem oX12_dueBy_113 : bX12_dueBy_113.all (mz_ok RX12 cX12_dueBy 5) = true := by decide +kernel
def bX12_dueBy_95 : List mz_E := [(95, .aload_n 0, 0, 0, 0, 0, 0), (96, .iload_n 1, 0, 0, 0, 0, 0)]
theorem oX12_dueBy_95 : bX12_dueBy_95.all (mz_ok RX12 cX12_dueBy 5) = true := by decide +kernel
def bX12_dueBy_100 : List mz_E := [(100, .iload_n 3, 0, 0, 0, 0, 0), (101, .aload_n 0, 0, 0, 0, 0, 0)]
theorem oX12_dueBy_100 : bX12_dueBy_100.all (mz_ok RX12 cX12_dueBy 5) = true := by decide +kernel
def bX12_dueBy_105 : List mz_E := [(105, .iload_n 1, 0, 0, 0, 0, 0)]
theorem oX12_dueBy_105 : bX12_dueBy_105.all (mz_ok RX12 cX12_dueBy 5) = true := by decide +kernel
def bX12_dueBy_109 : List mz_E := [(109, .iadd, 0, 0, 0, 0, 0), (110, .goto 4, 0, 114, 0, 0, 0)]
theorem oX12_dueBy_109 : bX12_dueBy_109.all (mz_ok RX12 cX12_dueBy 5) = true := by decide +kernel
def bX12_dueBy_51 : List mz_E := [(51, .iload_n 3, 0, 0, 0, 0, 0), (52, .aload_n 0, 0, 0, 0, 0, 0), (53, .aload_n 0, 0, 0, 0, 0, 0)]
theorem oX12_dueBy_51 : bX12_dueBy_51.all (mz_ok RX12 cX12_dueBy 5) = true := by decide +kernel
def bX12_dueBy_57 : List mz_E := [(57, .iload 4, 0, 0, 0, 0, 0)]
theorem oX12_dueBy_57 : bX12_dueBy_57.all (mz_ok RX12 cX12_dueBy 5) = true := by decide +kernel
def bX12_dueBy_62 : List mz_E := [(62, .ifCond .eq 7, 0, 69, 0, 0, 0)]
theorem oX12_dueBy_62 : bX12_dueBy_62.all (mz_ok RX12 cX12_dueBy 5) = true := by decide +kernel
def bX12_dueBy_69 : List mz_E := [(69, .aload_n 0, 0, 0, 0, 0, 0), (70, .iload 4, 0, 0, 0, 0, 0)]
theorem oX12_dueBy_69 : bX12_dueBy_69.all (mz_ok RX12 cX12_dueBy 5) = true := by decide +kernel
def bX12_dueBy_75 : List mz_E := [(75, .iadd, 0, 0, 0, 0, 0), (76, .istore_n 3, 0, 0, 0, 0, 0), (77, .iinc 4 1, 0, 0, 0, 1, 0), (80, .goto (-40), 0, 40, 0, 0, 0)]
theorem oX12_dueBy_75 : bX12_dueBy_75.all (mz_ok RX12 cX12_dueBy 5) = true := by decide +kernel
def bX12_dueBy_65 : List mz_E := [(65, .iconst 0, 0, 0, 0, 0, 0), (66, .goto 9, 0, 75, 0, 0, 0)]
theorem oX12_dueBy_65 : bX12_dueBy_65.all (mz_ok RX12 cX12_dueBy 5) = true := by decide +kernel
abbrev IX12_dueBy : mz_I := (yX12_dueBy, cX12_dueBy, 5, (some .int), 0, 3, 0, 0)
theorem kX12_dueBy : mz_okm IX12_dueBy 1939 141 1938 2 = true := by decide +kernel
theorem vX12_dueBy : mz_okV IX12_dueBy 1938 87 = true := by decide +kernel
def fX12_dueBy_75 (D : mz_D) (k40 : Int32 → Int32 → Int32 → Option Int32) (x1 : Int32) (x4 : Int32) (s0 : Int32) (s1 : Int32) : Option Int32 := (k40 x1 (s1 + s0) (x4 + (1 : Int32)))
set_option maxHeartbeats 4000000 in
theorem tX12_dueBy_75 (D : mz_D) (r : Int32) (k40 : Int32 → Int32 → Int32 → Option Int32) (hk40 : ∀ (x1 : Int32) (x3 : Int32) (x4 : Int32), k40 x1 x3 x4 = some r → mz_Go IX12_dueBy (some (.inl r), D) 0 0 (40, [some (.inr (.inr (some (0, 200)))), some (.inl x1), none, some (.inl x3), some (.inl x4)], [], D)) : ∀ (x1 : Int32) (x4 : Int32) (s0 : Int32) (s1 : Int32), fX12_dueBy_75 D k40 x1 x4 s0 s1 = some r → mz_Go IX12_dueBy (some (.inl r), D) 0 0 (75, [some (.inr (.inr (some (0, 200)))), some (.inl x1), none, none, some (.inl x4)], [.inl s0, .inl s1], D) := by
  intro x1 x4 s0 s1 h
  rw [fX12_dueBy_75] at h
  refine mz_Go.run (gs := []) (st' := (40, [some (.inr (.inr (some (0, 200)))), some (.inl x1), none, some (.inl (s1 + s0)), some (.inl (x4 + (1 : Int32)))], [], D)) bX12_dueBy_75 oX12_dueBy_75 rfl trivial ?_
  exact mz_Go.drop [true, true, false, true, true] (hk40 x1 (s1 + s0) (x4 + (1 : Int32)) h)
def fX12_dueBy_40 (D : mz_D) : Nat → Int32 → Int32 → Int32 → Option Int32
  | 0 => fun _ _ _ => none
  | n + 1 => fun x1 x3 x4 => (if (D.1 0 201 ((0 : Int32)).toNatClampNeg) ≤ x4 then (if (fX12_isIn (fX12_heads D) x1) = 0 then (some (0 : Int32)) else (Option.bind (fX12_eatenBy x1 D) fun q3 => (Option.bind (fX12_partOf x3 (fX12_heads D) x1) fun q4 => (some (q3 + q4))))) else (if (fX12_isIn (fX12_heads D) x4) = 0 then (Option.bind (fX12_eatenBy x4 D) fun q6 => (fX12_dueBy_75 D (fX12_dueBy_40 D n) x1 x4 q6 x3)) else (fX12_dueBy_75 D (fX12_dueBy_40 D n) x1 x4 (0 : Int32) x3)))
set_option maxHeartbeats 4000000 in
theorem tX12_dueBy_40 (D : mz_D) (r : Int32) : ∀ (n : Nat) (x1 : Int32) (x3 : Int32) (x4 : Int32), fX12_dueBy_40 D n x1 x3 x4 = some r → mz_Go IX12_dueBy (some (.inl r), D) 0 0 (40, [some (.inr (.inr (some (0, 200)))), some (.inl x1), none, some (.inl x3), some (.inl x4)], [], D) := by
  intro n
  induction n with
  | zero => intro x1 x3 x4 h; have h : (none : Option Int32) = some r := h; cases h
  | succ n ih =>
    intro x1 x3 x4 h
    rw [fX12_dueBy_40] at h
    refine mz_Go.run (gs := [mz_kz 0 0 200, mz_kz 0 0 201, mz_ix (0 : Int32) 3000]) (st' := (if (D.1 0 201 ((0 : Int32)).toNatClampNeg) ≤ x4 then (83, [some (.inr (.inr (some (0, 200)))), some (.inl x1), none, some (.inl x3), some (.inl x4)], [], D) else (51, [some (.inr (.inr (some (0, 200)))), some (.inl x1), none, some (.inl x3), some (.inl x4)], [], D))) bX12_dueBy_40 oX12_dueBy_40 rfl ⟨rfl, rfl, (by decide), trivial⟩ ?_
    refine mz_Go.ite (fun hc1 => ?_) (fun hc1 => ?_)
    · have h := mz_ifp hc1 h
      refine mz_Go.run (gs := []) (st' := (85, [some (.inr (.inr (some (0, 200)))), some (.inl x1), none, some (.inl x3), some (.inl x4)], [.inr (.inr (some (0, 200))), .inr (.inr (some (0, 200)))], D)) bX12_dueBy_83 oX12_dueBy_83 rfl trivial ?_
      refine mz_Go.callV (I := IX12_dueBy) (J := IX12_heads) (as := []) (ci := 12) (g := 0) (o := 200) (idx := 264) (pl := 1880) (rest := [.inr (.inr (some (0, 200)))]) (mX12_heads D _ rfl) kX12_heads vX12_heads (by decide +kernel) (by decide +kernel) (by decide +kernel) rfl rfl ⟨rfl, rfl⟩ rfl rfl rfl rfl ?_
      refine mz_Go.run (gs := []) (st' := (89, [some (.inr (.inr (some (0, 200)))), some (.inl x1), none, some (.inl x3), some (.inl x4)], [.inl x1, .inl (fX12_heads D), .inr (.inr (some (0, 200)))], D)) bX12_dueBy_88 oX12_dueBy_88 rfl trivial ?_
      refine mz_Go.callV (I := IX12_dueBy) (J := IX12_isIn) (as := [.inl (fX12_heads D), .inl x1]) (ci := 12) (g := 0) (o := 200) (idx := 270) (pl := 1944) (rest := []) (mX12_isIn (fX12_heads D) x1 D _ rfl) kX12_isIn vX12_isIn (by decide +kernel) (by decide +kernel) (by decide +kernel) rfl rfl ⟨rfl, rfl⟩ rfl rfl rfl rfl ?_
      refine mz_Go.run (gs := []) (st' := (if (fX12_isIn (fX12_heads D) x1) = 0 then (113, [some (.inr (.inr (some (0, 200)))), some (.inl x1), none, some (.inl x3), some (.inl x4)], [], D) else (95, [some (.inr (.inr (some (0, 200)))), some (.inl x1), none, some (.inl x3), some (.inl x4)], [], D))) bX12_dueBy_92 oX12_dueBy_92 rfl trivial ?_
      refine mz_Go.ite (fun hc2 => ?_) (fun hc2 => ?_)
      · have h := mz_ifp hc2 h
        refine mz_Go.run (gs := []) (st' := (114, [some (.inr (.inr (some (0, 200)))), some (.inl x1), none, some (.inl x3), some (.inl x4)], [.inl (0 : Int32)], D)) bX12_dueBy_113 oX12_dueBy_113 rfl trivial ?_
        cases h
        exact mz_Go.reti (by decide +kernel) rfl ⟨Nat.le_refl _, Nat.le_refl _⟩ rfl
      · have h := mz_ifn hc2 h
        refine mz_Go.run (gs := []) (st' := (97, [some (.inr (.inr (some (0, 200)))), some (.inl x1), none, some (.inl x3), some (.inl x4)], [.inl x1, .inr (.inr (some (0, 200)))], D)) bX12_dueBy_95 oX12_dueBy_95 rfl trivial ?_
        obtain ⟨q3, hq3, h⟩ := mz_bd_some h
        refine mz_Go.callV (I := IX12_dueBy) (J := IX12_eatenBy) (as := [.inl x1]) (ci := 12) (g := 0) (o := 200) (idx := 279) (pl := 1918) (rest := []) (mX12_eatenBy x1 D q3 hq3) kX12_eatenBy vX12_eatenBy (by decide +kernel) (by decide +kernel) (by decide +kernel) rfl rfl ⟨rfl, rfl⟩ rfl rfl rfl rfl ?_
        refine mz_Go.run (gs := []) (st' := (102, [some (.inr (.inr (some (0, 200)))), some (.inl x1), none, some (.inl x3), some (.inl x4)], [.inr (.inr (some (0, 200))), .inl x3, .inl q3], D)) bX12_dueBy_100 oX12_dueBy_100 rfl trivial ?_
        refine mz_Go.callV (I := IX12_dueBy) (J := IX12_heads) (as := []) (ci := 12) (g := 0) (o := 200) (idx := 264) (pl := 1880) (rest := [.inl x3, .inl q3]) (mX12_heads D _ rfl) kX12_heads vX12_heads (by decide +kernel) (by decide +kernel) (by decide +kernel) rfl rfl ⟨rfl, rfl⟩ rfl rfl rfl rfl ?_
        refine mz_Go.run (gs := []) (st' := (106, [some (.inr (.inr (some (0, 200)))), some (.inl x1), none, some (.inl x3), some (.inl x4)], [.inl x1, .inl (fX12_heads D), .inl x3, .inl q3], D)) bX12_dueBy_105 oX12_dueBy_105 rfl trivial ?_
        obtain ⟨q4, hq4, h⟩ := mz_bd_some h
        refine mz_Go.callS (I := IX12_dueBy) (J := IX12_partOf) (as := [.inl x3, .inl (fX12_heads D), .inl x1]) (idx := 260) (pl := 1926) (rest := [.inl q3]) (mX12_partOf x3 (fX12_heads D) x1 D q4 hq4) kX12_partOf vX12_partOf (by decide +kernel) (by decide +kernel) (by decide +kernel) rfl rfl ⟨rfl, rfl⟩ rfl ?_
        refine mz_Go.run (gs := []) (st' := (114, [some (.inr (.inr (some (0, 200)))), some (.inl x1), none, some (.inl x3), some (.inl x4)], [.inl (q3 + q4)], D)) bX12_dueBy_109 oX12_dueBy_109 rfl trivial ?_
        cases h
        exact mz_Go.reti (by decide +kernel) rfl ⟨Nat.le_refl _, Nat.le_refl _⟩ rfl
    · have h := mz_ifn hc1 h
      refine mz_Go.run (gs := []) (st' := (54, [some (.inr (.inr (some (0, 200)))), some (.inl x1), none, some (.inl x3), some (.inl x4)], [.inr (.inr (some (0, 200))), .inr (.inr (some (0, 200))), .inl x3], D)) bX12_dueBy_51 oX12_dueBy_51 rfl trivial ?_
      refine mz_Go.callV (I := IX12_dueBy) (J := IX12_heads) (as := []) (ci := 12) (g := 0) (o := 200) (idx := 264) (pl := 1880) (rest := [.inr (.inr (some (0, 200))), .inl x3]) (mX12_heads D _ rfl) kX12_heads vX12_heads (by decide +kernel) (by decide +kernel) (by decide +kernel) rfl rfl ⟨rfl, rfl⟩ rfl rfl rfl rfl ?_
      refine mz_Go.run (gs := []) (st' := (59, [some (.inr (.inr (some (0, 200)))), some (.inl x1), none, some (.inl x3), some (.inl x4)], [.inl x4, .inl (fX12_heads D), .inr (.inr (some (0, 200))), .inl x3], D)) bX12_dueBy_57 oX12_dueBy_57 rfl trivial ?_
      refine mz_Go.callV (I := IX12_dueBy) (J := IX12_isIn) (as := [.inl (fX12_heads D), .inl x4]) (ci := 12) (g := 0) (o := 200) (idx := 270) (pl := 1944) (rest := [.inl x3]) (mX12_isIn (fX12_heads D) x4 D _ rfl) kX12_isIn vX12_isIn (by decide +kernel) (by decide +kernel) (by decide +kernel) rfl rfl ⟨rfl, rfl⟩ rfl rfl rfl rfl ?_
      refine mz_Go.run (gs := []) (st' := (if (fX12_isIn (fX12_heads D) x4) = 0 then (69, [some (.inr (.inr (some (0, 200)))), some (.inl x1), none, some (.inl x3), some (.inl x4)], [.inl x3], D) else (65, [some (.inr (.inr (some (0, 200)))), some (.inl x1), none, some (.inl x3), some (.inl x4)], [.inl x3], D))) bX12_dueBy_62 oX12_dueBy_62 rfl trivial ?_
      refine mz_Go.ite (fun hc5 => ?_) (fun hc5 => ?_)
      · have h := mz_ifp hc5 h
        refine mz_Go.run (gs := []) (st' := (72, [some (.inr (.inr (some (0, 200)))), some (.inl x1), none, some (.inl x3), some (.inl x4)], [.inl x4, .inr (.inr (some (0, 200))), .inl x3], D)) bX12_dueBy_69 oX12_dueBy_69 rfl trivial ?_
        obtain ⟨q6, hq6, h⟩ := mz_bd_some h
        refine mz_Go.callV (I := IX12_dueBy) (J := IX12_eatenBy) (as := [.inl x4]) (ci := 12) (g := 0) (o := 200) (idx := 279) (pl := 1918) (rest := [.inl x3]) (mX12_eatenBy x4 D q6 hq6) kX12_eatenBy vX12_eatenBy (by decide +kernel) (by decide +kernel) (by decide +kernel) rfl rfl ⟨rfl, rfl⟩ rfl rfl rfl rfl ?_
        exact mz_Go.drop [true, true, false, false, true] (tX12_dueBy_75 D r (fX12_dueBy_40 D n) ih x1 x4 q6 x3 h)
      · have h := mz_ifn hc5 h
        refine mz_Go.run (gs := []) (st' := (75, [some (.inr (.inr (some (0, 200)))), some (.inl x1), none, some (.inl x3), some (.inl x4)], [.inl (0 : Int32), .inl x3], D)) bX12_dueBy_65 oX12_dueBy_65 rfl trivial ?_
        exact mz_Go.drop [true, true, false, false, true] (tX12_dueBy_75 D r (fX12_dueBy_40 D n) ih x1 x4 (0 : Int32) x3 h)
def fX12_dueBy (x1 : Int32) (x2 : Int32) (D : mz_D) : Option Int32 := (if x2 = 0 then (Option.bind (fX12_bill D) fun q2 => (Option.bind (fX12_partOf q2 (fX12_heads D) x1) fun q3 => (some q3))) else (if x2 = (2 : Int32) then (Option.bind (fX12_bill D) fun q5 => (Option.bind (fX12_units D) fun q6 => (Option.bind (fX12_partOf q5 q6 x1) fun q7 => (some q7)))) else (fX12_dueBy_40 D mz_N x1 (0 : Int32) (0 : Int32))))
set_option maxHeartbeats 4000000 in
theorem mX12_dueBy (x1 : Int32) (x2 : Int32) (D : mz_D) (r : Int32) (h : fX12_dueBy x1 x2 D = some r) : mz_Met IX12_dueBy [.inr (.inr (some (0, 200))), .inl x1, .inl x2] D (some (.inl r), D) := by
  refine mz_Met.of (by decide +kernel) (Nat.le_of_ble_eq_true rfl) ?_
  show mz_Go IX12_dueBy (some (.inl r), D) 0 0 (0, [some (.inr (.inr (some (0, 200)))), some (.inl x1), some (.inl x2), none, none], [], D)
  rw [fX12_dueBy] at h
  refine mz_Go.run (gs := []) (st' := (if x2 = 0 then (4, [some (.inr (.inr (some (0, 200)))), some (.inl x1), some (.inl x2), none, none], [], D) else (17, [some (.inr (.inr (some (0, 200)))), some (.inl x1), some (.inl x2), none, none], [], D))) bX12_dueBy_0 oX12_dueBy_0 rfl trivial ?_
  refine mz_Go.ite (fun hc1 => ?_) (fun hc1 => ?_)
  · have h := mz_ifp hc1 h
    refine mz_Go.run (gs := []) (st' := (5, [some (.inr (.inr (some (0, 200)))), some (.inl x1), some (.inl x2), none, none], [.inr (.inr (some (0, 200)))], D)) bX12_dueBy_4 oX12_dueBy_4 rfl trivial ?_
    obtain ⟨q2, hq2, h⟩ := mz_bd_some h
    refine mz_Go.callV (I := IX12_dueBy) (J := IX12_bill) (as := []) (ci := 12) (g := 0) (o := 200) (idx := 273) (pl := 1876) (rest := []) (mX12_bill D q2 hq2) kX12_bill vX12_bill (by decide +kernel) (by decide +kernel) (by decide +kernel) rfl rfl ⟨rfl, rfl⟩ rfl rfl rfl rfl ?_
    refine mz_Go.run (gs := []) (st' := (9, [some (.inr (.inr (some (0, 200)))), some (.inl x1), some (.inl x2), none, none], [.inr (.inr (some (0, 200))), .inl q2], D)) bX12_dueBy_8 oX12_dueBy_8 rfl trivial ?_
    refine mz_Go.callV (I := IX12_dueBy) (J := IX12_heads) (as := []) (ci := 12) (g := 0) (o := 200) (idx := 264) (pl := 1880) (rest := [.inl q2]) (mX12_heads D _ rfl) kX12_heads vX12_heads (by decide +kernel) (by decide +kernel) (by decide +kernel) rfl rfl ⟨rfl, rfl⟩ rfl rfl rfl rfl ?_
    refine mz_Go.run (gs := []) (st' := (13, [some (.inr (.inr (some (0, 200)))), some (.inl x1), some (.inl x2), none, none], [.inl x1, .inl (fX12_heads D), .inl q2], D)) bX12_dueBy_12 oX12_dueBy_12 rfl trivial ?_
    obtain ⟨q3, hq3, h⟩ := mz_bd_some h
    refine mz_Go.callS (I := IX12_dueBy) (J := IX12_partOf) (as := [.inl q2, .inl (fX12_heads D), .inl x1]) (idx := 260) (pl := 1926) (rest := []) (mX12_partOf q2 (fX12_heads D) x1 D q3 hq3) kX12_partOf vX12_partOf (by decide +kernel) (by decide +kernel) (by decide +kernel) rfl rfl ⟨rfl, rfl⟩ rfl ?_
    cases h
    exact mz_Go.reti (by decide +kernel) rfl ⟨Nat.le_refl _, Nat.le_refl _⟩ rfl
  · have h := mz_ifn hc1 h
    refine mz_Go.run (gs := []) (st' := (if x2 = (2 : Int32) then (22, [some (.inr (.inr (some (0, 200)))), some (.inl x1), some (.inl x2), none, none], [], D) else (35, [some (.inr (.inr (some (0, 200)))), some (.inl x1), some (.inl x2), none, none], [], D))) bX12_dueBy_17 oX12_dueBy_17 rfl trivial ?_
    refine mz_Go.ite (fun hc4 => ?_) (fun hc4 => ?_)
    · have h := mz_ifp hc4 h
      refine mz_Go.run (gs := []) (st' := (23, [some (.inr (.inr (some (0, 200)))), some (.inl x1), some (.inl x2), none, none], [.inr (.inr (some (0, 200)))], D)) bX12_dueBy_22 oX12_dueBy_22 rfl trivial ?_
      obtain ⟨q5, hq5, h⟩ := mz_bd_some h
      refine mz_Go.callV (I := IX12_dueBy) (J := IX12_bill) (as := []) (ci := 12) (g := 0) (o := 200) (idx := 273) (pl := 1876) (rest := []) (mX12_bill D q5 hq5) kX12_bill vX12_bill (by decide +kernel) (by decide +kernel) (by decide +kernel) rfl rfl ⟨rfl, rfl⟩ rfl rfl rfl rfl ?_
      refine mz_Go.run (gs := []) (st' := (27, [some (.inr (.inr (some (0, 200)))), some (.inl x1), some (.inl x2), none, none], [.inr (.inr (some (0, 200))), .inl q5], D)) bX12_dueBy_26 oX12_dueBy_26 rfl trivial ?_
      obtain ⟨q6, hq6, h⟩ := mz_bd_some h
      refine mz_Go.callV (I := IX12_dueBy) (J := IX12_units) (as := []) (ci := 12) (g := 0) (o := 200) (idx := 276) (pl := 1940) (rest := [.inl q5]) (mX12_units D q6 hq6) kX12_units vX12_units (by decide +kernel) (by decide +kernel) (by decide +kernel) rfl rfl ⟨rfl, rfl⟩ rfl rfl rfl rfl ?_
      refine mz_Go.run (gs := []) (st' := (31, [some (.inr (.inr (some (0, 200)))), some (.inl x1), some (.inl x2), none, none], [.inl x1, .inl q6, .inl q5], D)) bX12_dueBy_30 oX12_dueBy_30 rfl trivial ?_
      obtain ⟨q7, hq7, h⟩ := mz_bd_some h
      refine mz_Go.callS (I := IX12_dueBy) (J := IX12_partOf) (as := [.inl q5, .inl q6, .inl x1]) (idx := 260) (pl := 1926) (rest := []) (mX12_partOf q5 q6 x1 D q7 hq7) kX12_partOf vX12_partOf (by decide +kernel) (by decide +kernel) (by decide +kernel) rfl rfl ⟨rfl, rfl⟩ rfl ?_
      cases h
      exact mz_Go.reti (by decide +kernel) rfl ⟨Nat.le_refl _, Nat.le_refl _⟩ rfl
    · have h := mz_ifn hc4 h
      refine mz_Go.run (gs := []) (st' := (40, [some (.inr (.inr (some (0, 200)))), some (.inl x1), some (.inl x2), some (.inl (0 : Int32)), some (.inl (0 : Int32))], [], D)) bX12_dueBy_35 oX12_dueBy_35 rfl trivial ?_
      exact mz_Go.drop [true, true, false, true, true] (tX12_dueBy_40 D r mz_N x1 (0 : Int32) (0 : Int32) h)
def bX12_unfairBy_0 : List mz_E := [(0, .iconst 0, 0, 0, 0, 0, 0), (1, .istore_n 2, 0, 0, 0, 0, 0), (2, .iconst 0, 0, 0, 0, 0, 0), (3, .istore_n 3, 0, 0, 0, 0, 0)]
theorem oX12_unfairBy_0 : bX12_unfairBy_0.all (mz_ok RX12 cX12_unfairBy 4) = true := by decide +kernel
def bX12_unfairBy_4 : List mz_E := [(4, .iload_n 3, 0, 0, 0, 0, 0), (5, .aload_n 0, 0, 0, 0, 0, 0), (6, .getfield 7, 12, 0, 1576, 0, 0), (9, .iconst 0, 0, 0, 0, 0, 0), (10, .iaload, 0, 0, 0, 0, 0), (11, .if_icmp .ge 27, 0, 38, 0, 0, 0)]
theorem oX12_unfairBy_4 : bX12_unfairBy_4.all (mz_ok RX12 cX12_unfairBy 4) = true := by decide +kernel
def bX12_unfairBy_38 : List mz_E := [(38, .iload_n 2, 0, 0, 0, 0, 0)]
theorem oX12_unfairBy_38 : bX12_unfairBy_38.all (mz_ok RX12 cX12_unfairBy 4) = true := by decide +kernel
def bX12_unfairBy_14 : List mz_E := [(14, .iload_n 2, 0, 0, 0, 0, 0), (15, .aload_n 0, 0, 0, 0, 0, 0), (16, .iload_n 3, 0, 0, 0, 0, 0), (17, .iload_n 1, 0, 0, 0, 0, 0)]
theorem oX12_unfairBy_14 : bX12_unfairBy_14.all (mz_ok RX12 cX12_unfairBy 4) = true := by decide +kernel
def bX12_unfairBy_21 : List mz_E := [(21, .aload_n 0, 0, 0, 0, 0, 0), (22, .iload_n 3, 0, 0, 0, 0, 0)]
theorem oX12_unfairBy_21 : bX12_unfairBy_21.all (mz_ok RX12 cX12_unfairBy 4) = true := by decide +kernel
def bX12_unfairBy_26 : List mz_E := [(26, .isub, 0, 0, 0, 0, 0)]
theorem oX12_unfairBy_26 : bX12_unfairBy_26.all (mz_ok RX12 cX12_unfairBy 4) = true := by decide +kernel
def bX12_unfairBy_30 : List mz_E := [(30, .iadd, 0, 0, 0, 0, 0), (31, .istore_n 2, 0, 0, 0, 0, 0), (32, .iinc 3 1, 0, 0, 0, 1, 0), (35, .goto (-31), 0, 4, 0, 0, 0)]
theorem oX12_unfairBy_30 : bX12_unfairBy_30.all (mz_ok RX12 cX12_unfairBy 4) = true := by decide +kernel
abbrev IX12_unfairBy : mz_I := (yX12_unfairBy, cX12_unfairBy, 4, (some .int), 0, 4, 0, 0)
theorem kX12_unfairBy : mz_okm IX12_unfairBy 1955 141 1954 1 = true := by decide +kernel
theorem vX12_unfairBy : mz_okV IX12_unfairBy 1954 90 = true := by decide +kernel
def fX12_unfairBy_4 (D : mz_D) : Nat → Int32 → Int32 → Int32 → Option Int32
  | 0 => fun _ _ _ => none
  | n + 1 => fun x1 x2 x3 => (if (D.1 0 201 ((0 : Int32)).toNatClampNeg) ≤ x3 then (some x2) else (Option.bind (fX12_dueBy x3 x1 D) fun q2 => (Option.bind (fX12_eatenBy x3 D) fun q3 => ((fX12_unfairBy_4 D n) x1 (x2 + (fJ9_abs_0f7a4 (q2 - q3))) (x3 + (1 : Int32))))))
set_option maxHeartbeats 4000000 in
theorem tX12_unfairBy_4 (D : mz_D) (r : Int32) : ∀ (n : Nat) (x1 : Int32) (x2 : Int32) (x3 : Int32), fX12_unfairBy_4 D n x1 x2 x3 = some r → mz_Go IX12_unfairBy (some (.inl r), D) 0 0 (4, [some (.inr (.inr (some (0, 200)))), some (.inl x1), some (.inl x2), some (.inl x3)], [], D) := by
  intro n
  induction n with
  | zero => intro x1 x2 x3 h; have h : (none : Option Int32) = some r := h; cases h
  | succ n ih =>
    intro x1 x2 x3 h
    rw [fX12_unfairBy_4] at h
    refine mz_Go.run (gs := [mz_kz 0 0 200, mz_kz 0 0 201, mz_ix (0 : Int32) 3000]) (st' := (if (D.1 0 201 ((0 : Int32)).toNatClampNeg) ≤ x3 then (38, [some (.inr (.inr (some (0, 200)))), some (.inl x1), some (.inl x2), some (.inl x3)], [], D) else (14, [some (.inr (.inr (some (0, 200)))), some (.inl x1), some (.inl x2), some (.inl x3)], [], D))) bX12_unfairBy_4 oX12_unfairBy_4 rfl ⟨rfl, rfl, (by decide), trivial⟩ ?_
    refine mz_Go.ite (fun hc1 => ?_) (fun hc1 => ?_)
    · have h := mz_ifp hc1 h
      refine mz_Go.run (gs := []) (st' := (39, [some (.inr (.inr (some (0, 200)))), some (.inl x1), some (.inl x2), some (.inl x3)], [.inl x2], D)) bX12_unfairBy_38 oX12_unfairBy_38 rfl trivial ?_
      cases h
      exact mz_Go.reti (by decide +kernel) rfl ⟨Nat.le_refl _, Nat.le_refl _⟩ rfl
    · have h := mz_ifn hc1 h
      refine mz_Go.run (gs := []) (st' := (18, [some (.inr (.inr (some (0, 200)))), some (.inl x1), some (.inl x2), some (.inl x3)], [.inl x1, .inl x3, .inr (.inr (some (0, 200))), .inl x2], D)) bX12_unfairBy_14 oX12_unfairBy_14 rfl trivial ?_
      obtain ⟨q2, hq2, h⟩ := mz_bd_some h
      refine mz_Go.callV (I := IX12_unfairBy) (J := IX12_dueBy) (as := [.inl x3, .inl x1]) (ci := 12) (g := 0) (o := 200) (idx := 282) (pl := 1936) (rest := [.inl x2]) (mX12_dueBy x3 x1 D q2 hq2) kX12_dueBy vX12_dueBy (by decide +kernel) (by decide +kernel) (by decide +kernel) rfl rfl ⟨rfl, rfl⟩ rfl rfl rfl rfl ?_
      refine mz_Go.run (gs := []) (st' := (23, [some (.inr (.inr (some (0, 200)))), some (.inl x1), some (.inl x2), some (.inl x3)], [.inl x3, .inr (.inr (some (0, 200))), .inl q2, .inl x2], D)) bX12_unfairBy_21 oX12_unfairBy_21 rfl trivial ?_
      obtain ⟨q3, hq3, h⟩ := mz_bd_some h
      refine mz_Go.callV (I := IX12_unfairBy) (J := IX12_eatenBy) (as := [.inl x3]) (ci := 12) (g := 0) (o := 200) (idx := 279) (pl := 1918) (rest := [.inl q2, .inl x2]) (mX12_eatenBy x3 D q3 hq3) kX12_eatenBy vX12_eatenBy (by decide +kernel) (by decide +kernel) (by decide +kernel) rfl rfl ⟨rfl, rfl⟩ rfl rfl rfl rfl ?_
      refine mz_Go.run (gs := []) (st' := (27, [some (.inr (.inr (some (0, 200)))), some (.inl x1), some (.inl x2), some (.inl x3)], [.inl (q2 - q3), .inl x2], D)) bX12_unfairBy_26 oX12_unfairBy_26 rfl trivial ?_
      refine mz_Go.callS (I := IX12_unfairBy) (J := IJ9_abs_0f7a4) (as := [.inl (q2 - q3)]) (idx := 285) (pl := 1956) (rest := [.inl x2]) (mJ9_abs_0f7a4 (q2 - q3) D _ rfl) kJ9_abs_0f7a4 vJ9_abs_0f7a4 (by decide +kernel) (by decide +kernel) (by decide +kernel) rfl rfl ⟨rfl, rfl⟩ rfl ?_
      refine mz_Go.run (gs := []) (st' := (4, [some (.inr (.inr (some (0, 200)))), some (.inl x1), some (.inl (x2 + (fJ9_abs_0f7a4 (q2 - q3)))), some (.inl (x3 + (1 : Int32)))], [], D)) bX12_unfairBy_30 oX12_unfairBy_30 rfl trivial ?_
      exact mz_Go.drop [true, true, true, true] (ih x1 (x2 + (fJ9_abs_0f7a4 (q2 - q3))) (x3 + (1 : Int32)) h)
def fX12_unfairBy (x1 : Int32) (D : mz_D) : Option Int32 := (fX12_unfairBy_4 D mz_N x1 (0 : Int32) (0 : Int32))
set_option maxHeartbeats 4000000 in
theorem mX12_unfairBy (x1 : Int32) (D : mz_D) (r : Int32) (h : fX12_unfairBy x1 D = some r) : mz_Met IX12_unfairBy [.inr (.inr (some (0, 200))), .inl x1] D (some (.inl r), D) := by
  refine mz_Met.of (by decide +kernel) (Nat.le_of_ble_eq_true rfl) ?_
  show mz_Go IX12_unfairBy (some (.inl r), D) 0 0 (0, [some (.inr (.inr (some (0, 200)))), some (.inl x1), none, none], [], D)
  rw [fX12_unfairBy] at h
  refine mz_Go.run (gs := []) (st' := (4, [some (.inr (.inr (some (0, 200)))), some (.inl x1), some (.inl (0 : Int32)), some (.inl (0 : Int32))], [], D)) bX12_unfairBy_0 oX12_unfairBy_0 rfl trivial ?_
  exact mz_Go.drop [true, true, true, true] (tX12_unfairBy_4 D r mz_N x1 (0 : Int32) (0 : Int32) h)
def bX12_paidByAll_0 : List mz_E := [(0, .iconst 0, 0, 0, 0, 0, 0), (1, .istore_n 1, 0, 0, 0, 0, 0), (2, .iconst 0, 0, 0, 0, 0, 0), (3, .istore_n 2, 0, 0, 0, 0, 0)]
theorem oX12_paidByAll_0 : bX12_paidByAll_0.all (mz_ok RX12 cX12_paidByAll 3) = true := by decide +kernel
def bX12_paidByAll_4 : List mz_E := [(4, .iload_n 2, 0, 0, 0, 0, 0), (5, .aload_n 0, 0, 0, 0, 0, 0), (6, .getfield 7, 12, 0, 1576, 0, 0), (9, .iconst 0, 0, 0, 0, 0, 0), (10, .iaload, 0, 0, 0, 0, 0), (11, .if_icmp .ge 23, 0, 34, 0, 0, 0)]
theorem oX12_paidByAll_4 : bX12_paidByAll_4.all (mz_ok RX12 cX12_paidByAll 3) = true := by decide +kernel
def bX12_paidByAll_34 : List mz_E := [(34, .iload_n 1, 0, 0, 0, 0, 0)]
theorem oX12_paidByAll_34 : bX12_paidByAll_34.all (mz_ok RX12 cX12_paidByAll 3) = true := by decide +kernel
def bX12_paidByAll_14 : List mz_E := [(14, .iload_n 1, 0, 0, 0, 0, 0), (15, .aload_n 0, 0, 0, 0, 0, 0), (16, .getfield 7, 12, 0, 1576, 0, 0), (19, .iload_n 2, 0, 0, 0, 0, 0)]
theorem oX12_paidByAll_14 : bX12_paidByAll_14.all (mz_ok RX12 cX12_paidByAll 3) = true := by decide +kernel
def bX12_paidByAll_23 : List mz_E := [(23, .iconst 5, 0, 0, 0, 5, 0), (24, .iadd, 0, 0, 0, 0, 0), (25, .iaload, 0, 0, 0, 0, 0), (26, .iadd, 0, 0, 0, 0, 0), (27, .istore_n 1, 0, 0, 0, 0, 0), (28, .iinc 2 1, 0, 0, 0, 1, 0), (31, .goto (-27), 0, 4, 0, 0, 0)]
theorem oX12_paidByAll_23 : bX12_paidByAll_23.all (mz_ok RX12 cX12_paidByAll 3) = true := by decide +kernel
abbrev IX12_paidByAll : mz_I := (yX12_paidByAll, cX12_paidByAll, 3, (some .int), 0, 1, 0, 0)
theorem kX12_paidByAll : mz_okm IX12_paidByAll 1894 141 1893 0 = true := by decide +kernel
theorem vX12_paidByAll : mz_okV IX12_paidByAll 1893 82 = true := by decide +kernel
def fX12_paidByAll_4 (D : mz_D) : Nat → Int32 → Int32 → Option Int32
  | 0 => fun _ _ => none
  | n + 1 => fun x1 x2 => (if (D.1 0 201 ((0 : Int32)).toNatClampNeg) ≤ x2 then (some x1) else (mz_gd (mz_ix (((12 : Int32) + ((8 : Int32) * x2)) + (5 : Int32)) 3000) ((fX12_paidByAll_4 D n) (x1 + (D.1 0 201 ((((12 : Int32) + ((8 : Int32) * x2)) + (5 : Int32))).toNatClampNeg)) (x2 + (1 : Int32)))))
set_option maxHeartbeats 4000000 in
theorem tX12_paidByAll_4 (D : mz_D) (r : Int32) : ∀ (n : Nat) (x1 : Int32) (x2 : Int32), fX12_paidByAll_4 D n x1 x2 = some r → mz_Go IX12_paidByAll (some (.inl r), D) 0 0 (4, [some (.inr (.inr (some (0, 200)))), some (.inl x1), some (.inl x2)], [], D) := by
  intro n
  induction n with
  | zero => intro x1 x2 h; have h : (none : Option Int32) = some r := h; cases h
  | succ n ih =>
    intro x1 x2 h
    rw [fX12_paidByAll_4] at h
    refine mz_Go.run (gs := [mz_kz 0 0 200, mz_kz 0 0 201, mz_ix (0 : Int32) 3000]) (st' := (if (D.1 0 201 ((0 : Int32)).toNatClampNeg) ≤ x2 then (34, [some (.inr (.inr (some (0, 200)))), some (.inl x1), some (.inl x2)], [], D) else (14, [some (.inr (.inr (some (0, 200)))), some (.inl x1), some (.inl x2)], [], D))) bX12_paidByAll_4 oX12_paidByAll_4 rfl ⟨rfl, rfl, (by decide), trivial⟩ ?_
    refine mz_Go.ite (fun hc1 => ?_) (fun hc1 => ?_)
    · have h := mz_ifp hc1 h
      refine mz_Go.run (gs := []) (st' := (35, [some (.inr (.inr (some (0, 200)))), some (.inl x1), some (.inl x2)], [.inl x1], D)) bX12_paidByAll_34 oX12_paidByAll_34 rfl trivial ?_
      cases h
      exact mz_Go.reti (by decide +kernel) rfl ⟨Nat.le_refl _, Nat.le_refl _⟩ rfl
    · have h := mz_ifn hc1 h
      refine mz_Go.run (gs := [mz_kz 0 0 200]) (st' := (20, [some (.inr (.inr (some (0, 200)))), some (.inl x1), some (.inl x2)], [.inl x2, .inr (.inr (some (0, 201))), .inl x1], D)) bX12_paidByAll_14 oX12_paidByAll_14 rfl ⟨rfl, trivial⟩ ?_
      refine mz_Go.callS (I := IX12_paidByAll) (J := IX12_personRow) (as := [.inl x2]) (idx := 267) (pl := 1895) (rest := [.inr (.inr (some (0, 201))), .inl x1]) (mX12_personRow x2 D) kX12_personRow vX12_personRow (by decide +kernel) (by decide +kernel) (by decide +kernel) rfl rfl ⟨rfl, rfl⟩ rfl ?_
      obtain ⟨hb2, h⟩ := mz_gd_some h
      refine mz_Go.run (gs := [mz_kz 0 0 201, mz_ix (((12 : Int32) + ((8 : Int32) * x2)) + (5 : Int32)) 3000]) (st' := (4, [some (.inr (.inr (some (0, 200)))), some (.inl (x1 + (D.1 0 201 ((((12 : Int32) + ((8 : Int32) * x2)) + (5 : Int32))).toNatClampNeg))), some (.inl (x2 + (1 : Int32)))], [], D)) bX12_paidByAll_23 oX12_paidByAll_23 rfl ⟨rfl, hb2, trivial⟩ ?_
      exact mz_Go.drop [true, true, true] (ih (x1 + (D.1 0 201 ((((12 : Int32) + ((8 : Int32) * x2)) + (5 : Int32))).toNatClampNeg)) (x2 + (1 : Int32)) h)
def fX12_paidByAll (D : mz_D) : Option Int32 := (fX12_paidByAll_4 D mz_N (0 : Int32) (0 : Int32))
set_option maxHeartbeats 4000000 in
theorem mX12_paidByAll (D : mz_D) (r : Int32) (h : fX12_paidByAll D = some r) : mz_Met IX12_paidByAll [.inr (.inr (some (0, 200)))] D (some (.inl r), D) := by
  refine mz_Met.of (by decide +kernel) (Nat.le_of_ble_eq_true rfl) ?_
  show mz_Go IX12_paidByAll (some (.inl r), D) 0 0 (0, [some (.inr (.inr (some (0, 200)))), none, none], [], D)
  rw [fX12_paidByAll] at h
  refine mz_Go.run (gs := []) (st' := (4, [some (.inr (.inr (some (0, 200)))), some (.inl (0 : Int32)), some (.inl (0 : Int32))], [], D)) bX12_paidByAll_0 oX12_paidByAll_0 rfl trivial ?_
  exact mz_Go.drop [true, true, true] (tX12_paidByAll_4 D r mz_N (0 : Int32) (0 : Int32) h)
def bX12_told_0 : List mz_E := [(0, .iload_n 1, 0, 0, 0, 0, 0), (1, .ifCond .lt 9, 0, 10, 0, 0, 0)]
theorem oX12_told_0 : bX12_told_0.all (mz_ok RX12 cX12_told 2) = true := by decide +kernel
def bX12_told_10 : List mz_E := [(10, .aload_n 0, 0, 0, 0, 0, 0), (11, .iconst 1, 0, 0, 0, 1, 0)]
theorem oX12_told_10 : bX12_told_10.all (mz_ok RX12 cX12_told 2) = true := by decide +kernel
def bX12_told_4 : List mz_E := [(4, .iload_n 1, 0, 0, 0, 0, 0), (5, .bipush 11, 0, 0, 0, 11, 0), (7, .if_icmp .le 9, 0, 16, 0, 0, 0)]
theorem oX12_told_4 : bX12_told_4.all (mz_ok RX12 cX12_told 2) = true := by decide +kernel
def bX12_told_16 : List mz_E := [(16, .iload_n 1, 0, 0, 0, 0, 0)]
theorem oX12_told_16 : bX12_told_16.all (mz_ok RX12 cX12_told 2) = true := by decide +kernel
def bX12_told_60 : List mz_E := [(60, .aload_n 0, 0, 0, 0, 0, 0), (61, .aload_n 0, 0, 0, 0, 0, 0)]
theorem oX12_told_60 : bX12_told_60.all (mz_ok RX12 cX12_told 2) = true := by decide +kernel
def bX12_told_69 : List mz_E := [(69, .aload_n 0, 0, 0, 0, 0, 0), (70, .aload_n 0, 0, 0, 0, 0, 0)]
theorem oX12_told_69 : bX12_told_69.all (mz_ok RX12 cX12_told 2) = true := by decide +kernel
def bX12_told_81 : List mz_E := [(81, .aload_n 0, 0, 0, 0, 0, 0), (82, .aload_n 0, 0, 0, 0, 0, 0)]
theorem oX12_told_81 : bX12_told_81.all (mz_ok RX12 cX12_told 2) = true := by decide +kernel
def bX12_told_90 : List mz_E := [(90, .aload_n 0, 0, 0, 0, 0, 0), (91, .aload_n 0, 0, 0, 0, 0, 0), (92, .getfield 7, 12, 0, 1576, 0, 0), (95, .iload_n 1, 0, 0, 0, 0, 0), (96, .iconst 3, 0, 0, 0, 3, 0), (97, .isub, 0, 0, 0, 0, 0), (98, .iaload, 0, 0, 0, 0, 0)]
theorem oX12_told_90 : bX12_told_90.all (mz_ok RX12 cX12_told 2) = true := by decide +kernel
def bX12_told_103 : List mz_E := [(103, .aload_n 0, 0, 0, 0, 0, 0), (104, .aload_n 0, 0, 0, 0, 0, 0), (105, .getfield 7, 12, 0, 1576, 0, 0), (108, .iload_n 1, 0, 0, 0, 0, 0), (109, .iconst 3, 0, 0, 0, 3, 0), (110, .isub, 0, 0, 0, 0, 0), (111, .iaload, 0, 0, 0, 0, 0)]
theorem oX12_told_103 : bX12_told_103.all (mz_ok RX12 cX12_told 2) = true := by decide +kernel
def bX12_told_116 : List mz_E := [(116, .aload_n 0, 0, 0, 0, 0, 0), (117, .aload_n 0, 0, 0, 0, 0, 0), (118, .getfield 7, 12, 0, 1576, 0, 0), (121, .iload_n 1, 0, 0, 0, 0, 0), (122, .iaload, 0, 0, 0, 0, 0)]
theorem oX12_told_116 : bX12_told_116.all (mz_ok RX12 cX12_told 2) = true := by decide +kernel
abbrev IX12_told : mz_I := (yX12_told, cX12_told, 2, (some .int), 0, 2, 0, 0)
theorem kX12_told : mz_okm IX12_told 1875 141 1873 1 = true := by decide +kernel
theorem vX12_told : mz_okV IX12_told 1873 1874 = true := by decide +kernel
def fX12_told (x1 : Int32) (D : mz_D) : Option (Int32 × mz_D) := (if x1 < 0 then (some ((-1 : Int32), (mz_wi D 0 200 2 (1 : Int32)))) else (if x1 ≤ (11 : Int32) then (if x1 = (5 : Int32) then (Option.bind (fX12_bill D) fun q4 => (some (q4, (mz_wi D 0 200 2 (0 : Int32))))) else (if x1 = (6 : Int32) then (Option.bind (fX12_bits (fX12_heads D)) fun q6 => (some (q6, (mz_wi D 0 200 2 (0 : Int32))))) else (if x1 = (7 : Int32) then (Option.bind (fX12_paidByAll D) fun q8 => (some (q8, (mz_wi D 0 200 2 (0 : Int32))))) else (if x1 = (8 : Int32) then (mz_gd (mz_ix (x1 - (3 : Int32)) 3000) (some ((D.1 0 201 ((x1 - (3 : Int32))).toNatClampNeg), (mz_wi D 0 200 2 (0 : Int32))))) else (if x1 = (9 : Int32) then (mz_gd (mz_ix (x1 - (3 : Int32)) 3000) (some ((D.1 0 201 ((x1 - (3 : Int32))).toNatClampNeg), (mz_wi D 0 200 2 (0 : Int32))))) else (if x1 = (10 : Int32) then (mz_gd (mz_ix (x1 - (3 : Int32)) 3000) (some ((D.1 0 201 ((x1 - (3 : Int32))).toNatClampNeg), (mz_wi D 0 200 2 (0 : Int32))))) else (if x1 = (11 : Int32) then (mz_gd (mz_ix (x1 - (3 : Int32)) 3000) (some ((D.1 0 201 ((x1 - (3 : Int32))).toNatClampNeg), (mz_wi D 0 200 2 (0 : Int32))))) else (mz_gd (mz_ix x1 3000) (some ((D.1 0 201 (x1).toNatClampNeg), (mz_wi D 0 200 2 (0 : Int32)))))))))))) else (some ((-1 : Int32), (mz_wi D 0 200 2 (1 : Int32))))))
set_option maxHeartbeats 4000000 in
theorem mX12_told (x1 : Int32) (D : mz_D) (r : (Int32 × mz_D)) (h : fX12_told x1 D = some r) : mz_Met IX12_told [.inr (.inr (some (0, 200))), .inl x1] D (some (.inl r.1), r.2) := by
  refine mz_Met.of (by decide +kernel) (Nat.le_of_ble_eq_true rfl) ?_
  show mz_Go IX12_told (some (.inl r.1), r.2) 0 0 (0, [some (.inr (.inr (some (0, 200)))), some (.inl x1)], [], D)
  rw [fX12_told] at h
  refine mz_Go.run (gs := []) (st' := (if x1 < 0 then (10, [some (.inr (.inr (some (0, 200)))), some (.inl x1)], [], D) else (4, [some (.inr (.inr (some (0, 200)))), some (.inl x1)], [], D))) bX12_told_0 oX12_told_0 rfl trivial ?_
  refine mz_Go.ite (fun hc1 => ?_) (fun hc1 => ?_)
  · have h := mz_ifp hc1 h
    refine mz_Go.run (gs := []) (st' := (12, [some (.inr (.inr (some (0, 200)))), some (.inl x1)], [.inl (1 : Int32), .inr (.inr (some (0, 200)))], D)) bX12_told_10 oX12_told_10 rfl trivial ?_
    refine mz_Go.callV (I := IX12_told) (J := IX12_refuse) (as := [.inl (1 : Int32)]) (ci := 12) (g := 0) (o := 200) (idx := 75) (pl := 1761) (rest := []) (mX12_refuse (1 : Int32) D) kX12_refuse vX12_refuse (by decide +kernel) (by decide +kernel) (by decide +kernel) rfl rfl ⟨rfl, rfl⟩ rfl rfl rfl rfl ?_
    cases h
    exact mz_Go.reti (by decide +kernel) rfl ⟨Nat.le_refl _, Nat.le_refl _⟩ rfl
  · have h := mz_ifn hc1 h
    refine mz_Go.run (gs := []) (st' := (if x1 ≤ (11 : Int32) then (16, [some (.inr (.inr (some (0, 200)))), some (.inl x1)], [], D) else (10, [some (.inr (.inr (some (0, 200)))), some (.inl x1)], [], D))) bX12_told_4 oX12_told_4 rfl trivial ?_
    refine mz_Go.ite (fun hc2 => ?_) (fun hc2 => ?_)
    · have h := mz_ifp hc2 h
      refine mz_Go.run (gs := []) (st' := (17, [some (.inr (.inr (some (0, 200)))), some (.inl x1)], [.inl x1], D)) bX12_told_16 oX12_told_16 rfl trivial ?_
      refine mz_Go.tsw [(5, 60), (6, 69), (7, 81), (8, 90), (9, 90), (10, 103), (11, 103)] 116 (show decode cX12_told 17 = .ok (.tableswitch 99 5 11 #[43, 52, 64, 73, 73, 86, 86], 43) by decide +kernel) (by decide +kernel) ?_
      refine mz_Go.swc (fun hc3 => ?_) (fun hc3 => ?_)
      · have h := mz_ifp hc3 h
        refine mz_Go.run (gs := []) (st' := (62, [some (.inr (.inr (some (0, 200)))), some (.inl x1)], [.inr (.inr (some (0, 200))), .inr (.inr (some (0, 200)))], D)) bX12_told_60 oX12_told_60 rfl trivial ?_
        obtain ⟨q4, hq4, h⟩ := mz_bd_some h
        refine mz_Go.callV (I := IX12_told) (J := IX12_bill) (as := []) (ci := 12) (g := 0) (o := 200) (idx := 273) (pl := 1876) (rest := [.inr (.inr (some (0, 200)))]) (mX12_bill D q4 hq4) kX12_bill vX12_bill (by decide +kernel) (by decide +kernel) (by decide +kernel) rfl rfl ⟨rfl, rfl⟩ rfl rfl rfl rfl ?_
        refine mz_Go.callV (I := IX12_told) (J := IX12_gives) (as := [.inl q4]) (ci := 12) (g := 0) (o := 200) (idx := 79) (pl := 1844) (rest := []) (mX12_gives q4 D) kX12_gives vX12_gives (by decide +kernel) (by decide +kernel) (by decide +kernel) rfl rfl ⟨rfl, rfl⟩ rfl rfl rfl rfl ?_
        cases h
        exact mz_Go.reti (by decide +kernel) rfl ⟨Nat.le_refl _, Nat.le_refl _⟩ rfl
      · have h := mz_ifn hc3 h
        refine mz_Go.swc (fun hc5 => ?_) (fun hc5 => ?_)
        · have h := mz_ifp hc5 h
          refine mz_Go.run (gs := []) (st' := (71, [some (.inr (.inr (some (0, 200)))), some (.inl x1)], [.inr (.inr (some (0, 200))), .inr (.inr (some (0, 200)))], D)) bX12_told_69 oX12_told_69 rfl trivial ?_
          refine mz_Go.callV (I := IX12_told) (J := IX12_heads) (as := []) (ci := 12) (g := 0) (o := 200) (idx := 264) (pl := 1880) (rest := [.inr (.inr (some (0, 200)))]) (mX12_heads D _ rfl) kX12_heads vX12_heads (by decide +kernel) (by decide +kernel) (by decide +kernel) rfl rfl ⟨rfl, rfl⟩ rfl rfl rfl rfl ?_
          obtain ⟨q6, hq6, h⟩ := mz_bd_some h
          refine mz_Go.callS (I := IX12_told) (J := IX12_bits) (as := [.inl (fX12_heads D)]) (idx := 254) (pl := 1888) (rest := [.inr (.inr (some (0, 200)))]) (mX12_bits (fX12_heads D) D q6 hq6) kX12_bits vX12_bits (by decide +kernel) (by decide +kernel) (by decide +kernel) rfl rfl ⟨rfl, rfl⟩ rfl ?_
          refine mz_Go.callV (I := IX12_told) (J := IX12_gives) (as := [.inl q6]) (ci := 12) (g := 0) (o := 200) (idx := 79) (pl := 1844) (rest := []) (mX12_gives q6 D) kX12_gives vX12_gives (by decide +kernel) (by decide +kernel) (by decide +kernel) rfl rfl ⟨rfl, rfl⟩ rfl rfl rfl rfl ?_
          cases h
          exact mz_Go.reti (by decide +kernel) rfl ⟨Nat.le_refl _, Nat.le_refl _⟩ rfl
        · have h := mz_ifn hc5 h
          refine mz_Go.swc (fun hc7 => ?_) (fun hc7 => ?_)
          · have h := mz_ifp hc7 h
            refine mz_Go.run (gs := []) (st' := (83, [some (.inr (.inr (some (0, 200)))), some (.inl x1)], [.inr (.inr (some (0, 200))), .inr (.inr (some (0, 200)))], D)) bX12_told_81 oX12_told_81 rfl trivial ?_
            obtain ⟨q8, hq8, h⟩ := mz_bd_some h
            refine mz_Go.callV (I := IX12_told) (J := IX12_paidByAll) (as := []) (ci := 12) (g := 0) (o := 200) (idx := 288) (pl := 1891) (rest := [.inr (.inr (some (0, 200)))]) (mX12_paidByAll D q8 hq8) kX12_paidByAll vX12_paidByAll (by decide +kernel) (by decide +kernel) (by decide +kernel) rfl rfl ⟨rfl, rfl⟩ rfl rfl rfl rfl ?_
            refine mz_Go.callV (I := IX12_told) (J := IX12_gives) (as := [.inl q8]) (ci := 12) (g := 0) (o := 200) (idx := 79) (pl := 1844) (rest := []) (mX12_gives q8 D) kX12_gives vX12_gives (by decide +kernel) (by decide +kernel) (by decide +kernel) rfl rfl ⟨rfl, rfl⟩ rfl rfl rfl rfl ?_
            cases h
            exact mz_Go.reti (by decide +kernel) rfl ⟨Nat.le_refl _, Nat.le_refl _⟩ rfl
          · have h := mz_ifn hc7 h
            refine mz_Go.swc (fun hc9 => ?_) (fun hc9 => ?_)
            · have h := mz_ifp hc9 h
              obtain ⟨hb10, h⟩ := mz_gd_some h
              refine mz_Go.run (gs := [mz_kz 0 0 200, mz_kz 0 0 201, mz_ix (x1 - (3 : Int32)) 3000]) (st' := (99, [some (.inr (.inr (some (0, 200)))), some (.inl x1)], [.inl (D.1 0 201 ((x1 - (3 : Int32))).toNatClampNeg), .inr (.inr (some (0, 200)))], D)) bX12_told_90 oX12_told_90 rfl ⟨rfl, rfl, hb10, trivial⟩ ?_
              refine mz_Go.callV (I := IX12_told) (J := IX12_gives) (as := [.inl (D.1 0 201 ((x1 - (3 : Int32))).toNatClampNeg)]) (ci := 12) (g := 0) (o := 200) (idx := 79) (pl := 1844) (rest := []) (mX12_gives (D.1 0 201 ((x1 - (3 : Int32))).toNatClampNeg) D) kX12_gives vX12_gives (by decide +kernel) (by decide +kernel) (by decide +kernel) rfl rfl ⟨rfl, rfl⟩ rfl rfl rfl rfl ?_
              cases h
              exact mz_Go.reti (by decide +kernel) rfl ⟨Nat.le_refl _, Nat.le_refl _⟩ rfl
            · have h := mz_ifn hc9 h
              refine mz_Go.swc (fun hc11 => ?_) (fun hc11 => ?_)
              · have h := mz_ifp hc11 h
                obtain ⟨hb12, h⟩ := mz_gd_some h
                refine mz_Go.run (gs := [mz_kz 0 0 200, mz_kz 0 0 201, mz_ix (x1 - (3 : Int32)) 3000]) (st' := (99, [some (.inr (.inr (some (0, 200)))), some (.inl x1)], [.inl (D.1 0 201 ((x1 - (3 : Int32))).toNatClampNeg), .inr (.inr (some (0, 200)))], D)) bX12_told_90 oX12_told_90 rfl ⟨rfl, rfl, hb12, trivial⟩ ?_
                refine mz_Go.callV (I := IX12_told) (J := IX12_gives) (as := [.inl (D.1 0 201 ((x1 - (3 : Int32))).toNatClampNeg)]) (ci := 12) (g := 0) (o := 200) (idx := 79) (pl := 1844) (rest := []) (mX12_gives (D.1 0 201 ((x1 - (3 : Int32))).toNatClampNeg) D) kX12_gives vX12_gives (by decide +kernel) (by decide +kernel) (by decide +kernel) rfl rfl ⟨rfl, rfl⟩ rfl rfl rfl rfl ?_
                cases h
                exact mz_Go.reti (by decide +kernel) rfl ⟨Nat.le_refl _, Nat.le_refl _⟩ rfl
              · have h := mz_ifn hc11 h
                refine mz_Go.swc (fun hc13 => ?_) (fun hc13 => ?_)
                · have h := mz_ifp hc13 h
                  obtain ⟨hb14, h⟩ := mz_gd_some h
                  refine mz_Go.run (gs := [mz_kz 0 0 200, mz_kz 0 0 201, mz_ix (x1 - (3 : Int32)) 3000]) (st' := (112, [some (.inr (.inr (some (0, 200)))), some (.inl x1)], [.inl (D.1 0 201 ((x1 - (3 : Int32))).toNatClampNeg), .inr (.inr (some (0, 200)))], D)) bX12_told_103 oX12_told_103 rfl ⟨rfl, rfl, hb14, trivial⟩ ?_
                  refine mz_Go.callV (I := IX12_told) (J := IX12_gives) (as := [.inl (D.1 0 201 ((x1 - (3 : Int32))).toNatClampNeg)]) (ci := 12) (g := 0) (o := 200) (idx := 79) (pl := 1844) (rest := []) (mX12_gives (D.1 0 201 ((x1 - (3 : Int32))).toNatClampNeg) D) kX12_gives vX12_gives (by decide +kernel) (by decide +kernel) (by decide +kernel) rfl rfl ⟨rfl, rfl⟩ rfl rfl rfl rfl ?_
                  cases h
                  exact mz_Go.reti (by decide +kernel) rfl ⟨Nat.le_refl _, Nat.le_refl _⟩ rfl
                · have h := mz_ifn hc13 h
                  refine mz_Go.swc (fun hc15 => ?_) (fun hc15 => ?_)
                  · have h := mz_ifp hc15 h
                    obtain ⟨hb16, h⟩ := mz_gd_some h
                    refine mz_Go.run (gs := [mz_kz 0 0 200, mz_kz 0 0 201, mz_ix (x1 - (3 : Int32)) 3000]) (st' := (112, [some (.inr (.inr (some (0, 200)))), some (.inl x1)], [.inl (D.1 0 201 ((x1 - (3 : Int32))).toNatClampNeg), .inr (.inr (some (0, 200)))], D)) bX12_told_103 oX12_told_103 rfl ⟨rfl, rfl, hb16, trivial⟩ ?_
                    refine mz_Go.callV (I := IX12_told) (J := IX12_gives) (as := [.inl (D.1 0 201 ((x1 - (3 : Int32))).toNatClampNeg)]) (ci := 12) (g := 0) (o := 200) (idx := 79) (pl := 1844) (rest := []) (mX12_gives (D.1 0 201 ((x1 - (3 : Int32))).toNatClampNeg) D) kX12_gives vX12_gives (by decide +kernel) (by decide +kernel) (by decide +kernel) rfl rfl ⟨rfl, rfl⟩ rfl rfl rfl rfl ?_
                    cases h
                    exact mz_Go.reti (by decide +kernel) rfl ⟨Nat.le_refl _, Nat.le_refl _⟩ rfl
                  · have h := mz_ifn hc15 h
                    obtain ⟨hb17, h⟩ := mz_gd_some h
                    refine mz_Go.run (gs := [mz_kz 0 0 200, mz_kz 0 0 201, mz_ix x1 3000]) (st' := (123, [some (.inr (.inr (some (0, 200)))), some (.inl x1)], [.inl (D.1 0 201 (x1).toNatClampNeg), .inr (.inr (some (0, 200)))], D)) bX12_told_116 oX12_told_116 rfl ⟨rfl, rfl, hb17, trivial⟩ ?_
                    refine mz_Go.callV (I := IX12_told) (J := IX12_gives) (as := [.inl (D.1 0 201 (x1).toNatClampNeg)]) (ci := 12) (g := 0) (o := 200) (idx := 79) (pl := 1844) (rest := []) (mX12_gives (D.1 0 201 (x1).toNatClampNeg) D) kX12_gives vX12_gives (by decide +kernel) (by decide +kernel) (by decide +kernel) rfl rfl ⟨rfl, rfl⟩ rfl rfl rfl rfl ?_
                    cases h
                    exact mz_Go.reti (by decide +kernel) rfl ⟨Nat.le_refl _, Nat.le_refl _⟩ rfl
    · have h := mz_ifn hc2 h
      refine mz_Go.run (gs := []) (st' := (12, [some (.inr (.inr (some (0, 200)))), some (.inl x1)], [.inl (1 : Int32), .inr (.inr (some (0, 200)))], D)) bX12_told_10 oX12_told_10 rfl trivial ?_
      refine mz_Go.callV (I := IX12_told) (J := IX12_refuse) (as := [.inl (1 : Int32)]) (ci := 12) (g := 0) (o := 200) (idx := 75) (pl := 1761) (rest := []) (mX12_refuse (1 : Int32) D) kX12_refuse vX12_refuse (by decide +kernel) (by decide +kernel) (by decide +kernel) rfl rfl ⟨rfl, rfl⟩ rfl rfl rfl rfl ?_
      cases h
      exact mz_Go.reti (by decide +kernel) rfl ⟨Nat.le_refl _, Nat.le_refl _⟩ rfl
def bX12_person_0 : List mz_E := [(0, .aload_n 0, 0, 0, 0, 0, 0), (1, .iload_n 1, 0, 0, 0, 0, 0)]
theorem oX12_person_0 : bX12_person_0.all (mz_ok RX12 cX12_person 4) = true := by decide +kernel
def bX12_person_5 : List mz_E := [(5, .ifCond .eq 12, 0, 17, 0, 0, 0)]
theorem oX12_person_5 : bX12_person_5.all (mz_ok RX12 cX12_person 4) = true := by decide +kernel
def bX12_person_17 : List mz_E := [(17, .aload_n 0, 0, 0, 0, 0, 0), (18, .iconst 1, 0, 0, 0, 1, 0)]
theorem oX12_person_17 : bX12_person_17.all (mz_ok RX12 cX12_person 4) = true := by decide +kernel
def bX12_person_8 : List mz_E := [(8, .iload_n 2, 0, 0, 0, 0, 0), (9, .ifCond .lt 8, 0, 17, 0, 0, 0)]
theorem oX12_person_8 : bX12_person_8.all (mz_ok RX12 cX12_person 4) = true := by decide +kernel
def bX12_person_12 : List mz_E := [(12, .iload_n 2, 0, 0, 0, 0, 0), (13, .iconst 5, 0, 0, 0, 5, 0), (14, .if_icmp .le 9, 0, 23, 0, 0, 0)]
theorem oX12_person_12 : bX12_person_12.all (mz_ok RX12 cX12_person 4) = true := by decide +kernel
def bX12_person_23 : List mz_E := [(23, .aload_n 0, 0, 0, 0, 0, 0), (24, .getfield 7, 12, 0, 1576, 0, 0), (27, .iload_n 1, 0, 0, 0, 0, 0)]
theorem oX12_person_23 : bX12_person_23.all (mz_ok RX12 cX12_person 4) = true := by decide +kernel
def bX12_person_31 : List mz_E := [(31, .iload_n 2, 0, 0, 0, 0, 0), (32, .iadd, 0, 0, 0, 0, 0), (33, .iaload, 0, 0, 0, 0, 0), (34, .istore_n 3, 0, 0, 0, 0, 0), (35, .iload_n 2, 0, 0, 0, 0, 0), (36, .iconst 4, 0, 0, 0, 4, 0), (37, .if_icmp .ne 11, 0, 48, 0, 0, 0)]
theorem oX12_person_31 : bX12_person_31.all (mz_ok RX12 cX12_person 4) = true := by decide +kernel
def bX12_person_40 : List mz_E := [(40, .aload_n 0, 0, 0, 0, 0, 0), (41, .iload_n 3, 0, 0, 0, 0, 0)]
theorem oX12_person_40 : bX12_person_40.all (mz_ok RX12 cX12_person 4) = true := by decide +kernel
def bX12_person_45 : List mz_E := [(45, .goto 8, 0, 53, 0, 0, 0)]
theorem oX12_person_45 : bX12_person_45.all (mz_ok RX12 cX12_person 4) = true := by decide +kernel
def bX12_person_48 : List mz_E := [(48, .aload_n 0, 0, 0, 0, 0, 0), (49, .iload_n 3, 0, 0, 0, 0, 0)]
theorem oX12_person_48 : bX12_person_48.all (mz_ok RX12 cX12_person 4) = true := by decide +kernel
abbrev IX12_person : mz_I := (yX12_person, cX12_person, 4, (some .int), 0, 2, 0, 0)
theorem kX12_person : mz_okm IX12_person 1901 141 1899 2 = true := by decide +kernel
theorem vX12_person : mz_okV IX12_person 1899 1900 = true := by decide +kernel
def fX12_person (x1 : Int32) (x2 : Int32) (D : mz_D) : Option (Int32 × mz_D) := (if (fX12_isPerson x1 D) = 0 then (some ((-1 : Int32), (mz_wi D 0 200 2 (1 : Int32)))) else (if x2 < 0 then (some ((-1 : Int32), (mz_wi D 0 200 2 (1 : Int32)))) else (if x2 ≤ (5 : Int32) then (mz_gd (mz_ix (((12 : Int32) + ((8 : Int32) * x1)) + x2) 3000) (if x2 = (4 : Int32) then (Option.bind (fX12_orNone (D.1 0 201 ((((12 : Int32) + ((8 : Int32) * x1)) + x2)).toNatClampNeg) D) fun q6 => (some (q6.1, q6.2))) else (some ((D.1 0 201 ((((12 : Int32) + ((8 : Int32) * x1)) + x2)).toNatClampNeg), (mz_wi D 0 200 2 (0 : Int32)))))) else (some ((-1 : Int32), (mz_wi D 0 200 2 (1 : Int32)))))))
set_option maxHeartbeats 4000000 in
theorem mX12_person (x1 : Int32) (x2 : Int32) (D : mz_D) (r : (Int32 × mz_D)) (h : fX12_person x1 x2 D = some r) : mz_Met IX12_person [.inr (.inr (some (0, 200))), .inl x1, .inl x2] D (some (.inl r.1), r.2) := by
  refine mz_Met.of (by decide +kernel) (Nat.le_of_ble_eq_true rfl) ?_
  show mz_Go IX12_person (some (.inl r.1), r.2) 0 0 (0, [some (.inr (.inr (some (0, 200)))), some (.inl x1), some (.inl x2), none], [], D)
  rw [fX12_person] at h
  refine mz_Go.run (gs := []) (st' := (2, [some (.inr (.inr (some (0, 200)))), some (.inl x1), some (.inl x2), none], [.inl x1, .inr (.inr (some (0, 200)))], D)) bX12_person_0 oX12_person_0 rfl trivial ?_
  refine mz_Go.callV (I := IX12_person) (J := IX12_isPerson) (as := [.inl x1]) (ci := 12) (g := 0) (o := 200) (idx := 248) (pl := 1902) (rest := []) (mX12_isPerson x1 D _ rfl) kX12_isPerson vX12_isPerson (by decide +kernel) (by decide +kernel) (by decide +kernel) rfl rfl ⟨rfl, rfl⟩ rfl rfl rfl rfl ?_
  refine mz_Go.run (gs := []) (st' := (if (fX12_isPerson x1 D) = 0 then (17, [some (.inr (.inr (some (0, 200)))), some (.inl x1), some (.inl x2), none], [], D) else (8, [some (.inr (.inr (some (0, 200)))), some (.inl x1), some (.inl x2), none], [], D))) bX12_person_5 oX12_person_5 rfl trivial ?_
  refine mz_Go.ite (fun hc1 => ?_) (fun hc1 => ?_)
  · have h := mz_ifp hc1 h
    refine mz_Go.run (gs := []) (st' := (19, [some (.inr (.inr (some (0, 200)))), some (.inl x1), some (.inl x2), none], [.inl (1 : Int32), .inr (.inr (some (0, 200)))], D)) bX12_person_17 oX12_person_17 rfl trivial ?_
    refine mz_Go.callV (I := IX12_person) (J := IX12_refuse) (as := [.inl (1 : Int32)]) (ci := 12) (g := 0) (o := 200) (idx := 75) (pl := 1761) (rest := []) (mX12_refuse (1 : Int32) D) kX12_refuse vX12_refuse (by decide +kernel) (by decide +kernel) (by decide +kernel) rfl rfl ⟨rfl, rfl⟩ rfl rfl rfl rfl ?_
    cases h
    exact mz_Go.reti (by decide +kernel) rfl ⟨Nat.le_refl _, Nat.le_refl _⟩ rfl
  · have h := mz_ifn hc1 h
    refine mz_Go.run (gs := []) (st' := (if x2 < 0 then (17, [some (.inr (.inr (some (0, 200)))), some (.inl x1), some (.inl x2), none], [], D) else (12, [some (.inr (.inr (some (0, 200)))), some (.inl x1), some (.inl x2), none], [], D))) bX12_person_8 oX12_person_8 rfl trivial ?_
    refine mz_Go.ite (fun hc2 => ?_) (fun hc2 => ?_)
    · have h := mz_ifp hc2 h
      refine mz_Go.run (gs := []) (st' := (19, [some (.inr (.inr (some (0, 200)))), some (.inl x1), some (.inl x2), none], [.inl (1 : Int32), .inr (.inr (some (0, 200)))], D)) bX12_person_17 oX12_person_17 rfl trivial ?_
      refine mz_Go.callV (I := IX12_person) (J := IX12_refuse) (as := [.inl (1 : Int32)]) (ci := 12) (g := 0) (o := 200) (idx := 75) (pl := 1761) (rest := []) (mX12_refuse (1 : Int32) D) kX12_refuse vX12_refuse (by decide +kernel) (by decide +kernel) (by decide +kernel) rfl rfl ⟨rfl, rfl⟩ rfl rfl rfl rfl ?_
      cases h
      exact mz_Go.reti (by decide +kernel) rfl ⟨Nat.le_refl _, Nat.le_refl _⟩ rfl
    · have h := mz_ifn hc2 h
      refine mz_Go.run (gs := []) (st' := (if x2 ≤ (5 : Int32) then (23, [some (.inr (.inr (some (0, 200)))), some (.inl x1), some (.inl x2), none], [], D) else (17, [some (.inr (.inr (some (0, 200)))), some (.inl x1), some (.inl x2), none], [], D))) bX12_person_12 oX12_person_12 rfl trivial ?_
      refine mz_Go.ite (fun hc3 => ?_) (fun hc3 => ?_)
      · have h := mz_ifp hc3 h
        refine mz_Go.run (gs := [mz_kz 0 0 200]) (st' := (28, [some (.inr (.inr (some (0, 200)))), some (.inl x1), some (.inl x2), none], [.inl x1, .inr (.inr (some (0, 201)))], D)) bX12_person_23 oX12_person_23 rfl ⟨rfl, trivial⟩ ?_
        refine mz_Go.callS (I := IX12_person) (J := IX12_personRow) (as := [.inl x1]) (idx := 267) (pl := 1895) (rest := [.inr (.inr (some (0, 201)))]) (mX12_personRow x1 D) kX12_personRow vX12_personRow (by decide +kernel) (by decide +kernel) (by decide +kernel) rfl rfl ⟨rfl, rfl⟩ rfl ?_
        obtain ⟨hb4, h⟩ := mz_gd_some h
        refine mz_Go.run (gs := [mz_kz 0 0 201, mz_ix (((12 : Int32) + ((8 : Int32) * x1)) + x2) 3000]) (st' := (if x2 = (4 : Int32) then (40, [some (.inr (.inr (some (0, 200)))), some (.inl x1), some (.inl x2), some (.inl (D.1 0 201 ((((12 : Int32) + ((8 : Int32) * x1)) + x2)).toNatClampNeg))], [], D) else (48, [some (.inr (.inr (some (0, 200)))), some (.inl x1), some (.inl x2), some (.inl (D.1 0 201 ((((12 : Int32) + ((8 : Int32) * x1)) + x2)).toNatClampNeg))], [], D))) bX12_person_31 oX12_person_31 rfl ⟨rfl, hb4, trivial⟩ ?_
        refine mz_Go.ite (fun hc5 => ?_) (fun hc5 => ?_)
        · have h := mz_ifp hc5 h
          refine mz_Go.run (gs := []) (st' := (42, [some (.inr (.inr (some (0, 200)))), some (.inl x1), some (.inl x2), some (.inl (D.1 0 201 ((((12 : Int32) + ((8 : Int32) * x1)) + x2)).toNatClampNeg))], [.inl (D.1 0 201 ((((12 : Int32) + ((8 : Int32) * x1)) + x2)).toNatClampNeg), .inr (.inr (some (0, 200)))], D)) bX12_person_40 oX12_person_40 rfl trivial ?_
          obtain ⟨q6, hq6, h⟩ := mz_bd_some h
          refine mz_Go.callV (I := IX12_person) (J := IX12_orNone) (as := [.inl (D.1 0 201 ((((12 : Int32) + ((8 : Int32) * x1)) + x2)).toNatClampNeg)]) (ci := 12) (g := 0) (o := 200) (idx := 291) (pl := 1906) (rest := []) (mX12_orNone (D.1 0 201 ((((12 : Int32) + ((8 : Int32) * x1)) + x2)).toNatClampNeg) D q6 hq6) kX12_orNone vX12_orNone (by decide +kernel) (by decide +kernel) (by decide +kernel) rfl rfl ⟨rfl, rfl⟩ rfl rfl rfl rfl ?_
          refine mz_Go.run (gs := []) (st' := (53, [some (.inr (.inr (some (0, 200)))), some (.inl x1), some (.inl x2), some (.inl (D.1 0 201 ((((12 : Int32) + ((8 : Int32) * x1)) + x2)).toNatClampNeg))], [.inl q6.1], q6.2)) bX12_person_45 oX12_person_45 rfl trivial ?_
          cases h
          exact mz_Go.reti (by decide +kernel) rfl ⟨Nat.le_refl _, Nat.le_refl _⟩ rfl
        · have h := mz_ifn hc5 h
          refine mz_Go.run (gs := []) (st' := (50, [some (.inr (.inr (some (0, 200)))), some (.inl x1), some (.inl x2), some (.inl (D.1 0 201 ((((12 : Int32) + ((8 : Int32) * x1)) + x2)).toNatClampNeg))], [.inl (D.1 0 201 ((((12 : Int32) + ((8 : Int32) * x1)) + x2)).toNatClampNeg), .inr (.inr (some (0, 200)))], D)) bX12_person_48 oX12_person_48 rfl trivial ?_
          refine mz_Go.callV (I := IX12_person) (J := IX12_gives) (as := [.inl (D.1 0 201 ((((12 : Int32) + ((8 : Int32) * x1)) + x2)).toNatClampNeg)]) (ci := 12) (g := 0) (o := 200) (idx := 79) (pl := 1844) (rest := []) (mX12_gives (D.1 0 201 ((((12 : Int32) + ((8 : Int32) * x1)) + x2)).toNatClampNeg) D) kX12_gives vX12_gives (by decide +kernel) (by decide +kernel) (by decide +kernel) rfl rfl ⟨rfl, rfl⟩ rfl rfl rfl rfl ?_
          cases h
          exact mz_Go.reti (by decide +kernel) rfl ⟨Nat.le_refl _, Nat.le_refl _⟩ rfl
      · have h := mz_ifn hc3 h
        refine mz_Go.run (gs := []) (st' := (19, [some (.inr (.inr (some (0, 200)))), some (.inl x1), some (.inl x2), none], [.inl (1 : Int32), .inr (.inr (some (0, 200)))], D)) bX12_person_17 oX12_person_17 rfl trivial ?_
        refine mz_Go.callV (I := IX12_person) (J := IX12_refuse) (as := [.inl (1 : Int32)]) (ci := 12) (g := 0) (o := 200) (idx := 75) (pl := 1761) (rest := []) (mX12_refuse (1 : Int32) D) kX12_refuse vX12_refuse (by decide +kernel) (by decide +kernel) (by decide +kernel) rfl rfl ⟨rfl, rfl⟩ rfl rfl rfl rfl ?_
        cases h
        exact mz_Go.reti (by decide +kernel) rfl ⟨Nat.le_refl _, Nat.le_refl _⟩ rfl
def bX12_dish_0 : List mz_E := [(0, .iload_n 1, 0, 0, 0, 0, 0), (1, .ifCond .lt 22, 0, 23, 0, 0, 0)]
theorem oX12_dish_0 : bX12_dish_0.all (mz_ok RX12 cX12_dish 3) = true := by decide +kernel
def bX12_dish_23 : List mz_E := [(23, .aload_n 0, 0, 0, 0, 0, 0), (24, .iconst 1, 0, 0, 0, 1, 0)]
theorem oX12_dish_23 : bX12_dish_23.all (mz_ok RX12 cX12_dish 3) = true := by decide +kernel
def bX12_dish_4 : List mz_E := [(4, .iload_n 1, 0, 0, 0, 0, 0), (5, .aload_n 0, 0, 0, 0, 0, 0), (6, .getfield 7, 12, 0, 1576, 0, 0), (9, .iconst 2, 0, 0, 0, 2, 0), (10, .iaload, 0, 0, 0, 0, 0), (11, .if_icmp .ge 12, 0, 23, 0, 0, 0)]
theorem oX12_dish_4 : bX12_dish_4.all (mz_ok RX12 cX12_dish 3) = true := by decide +kernel
def bX12_dish_14 : List mz_E := [(14, .iload_n 2, 0, 0, 0, 0, 0), (15, .ifCond .lt 8, 0, 23, 0, 0, 0)]
theorem oX12_dish_14 : bX12_dish_14.all (mz_ok RX12 cX12_dish 3) = true := by decide +kernel
def bX12_dish_18 : List mz_E := [(18, .iload_n 2, 0, 0, 0, 0, 0), (19, .iconst 1, 0, 0, 0, 1, 0), (20, .if_icmp .le 9, 0, 29, 0, 0, 0)]
theorem oX12_dish_18 : bX12_dish_18.all (mz_ok RX12 cX12_dish 3) = true := by decide +kernel
def bX12_dish_29 : List mz_E := [(29, .aload_n 0, 0, 0, 0, 0, 0), (30, .aload_n 0, 0, 0, 0, 0, 0), (31, .getfield 7, 12, 0, 1576, 0, 0), (34, .bipush 60, 0, 0, 0, 60, 0), (36, .iconst 2, 0, 0, 0, 2, 0), (37, .iload_n 1, 0, 0, 0, 0, 0), (38, .imul, 0, 0, 0, 0, 0), (39, .iadd, 0, 0, 0, 0, 0), (40, .iload_n 2, 0, 0, 0, 0, 0), (41, .iadd, 0, 0, 0, 0, 0), (42, .iaload, 0, 0, 0, 0, 0)]
theorem oX12_dish_29 : bX12_dish_29.all (mz_ok RX12 cX12_dish 3) = true := by decide +kernel
abbrev IX12_dish : mz_I := (yX12_dish, cX12_dish, 3, (some .int), 0, 2, 0, 0)
theorem kX12_dish : mz_okm IX12_dish 1913 141 1911 2 = true := by decide +kernel
theorem vX12_dish : mz_okV IX12_dish 1911 1912 = true := by decide +kernel
def fX12_dish (x1 : Int32) (x2 : Int32) (D : mz_D) : Option (Int32 × mz_D) := (if x1 < 0 then (some ((-1 : Int32), (mz_wi D 0 200 2 (1 : Int32)))) else (if (D.1 0 201 ((2 : Int32)).toNatClampNeg) ≤ x1 then (some ((-1 : Int32), (mz_wi D 0 200 2 (1 : Int32)))) else (if x2 < 0 then (some ((-1 : Int32), (mz_wi D 0 200 2 (1 : Int32)))) else (if x2 ≤ (1 : Int32) then (mz_gd (mz_ix (((60 : Int32) + ((2 : Int32) * x1)) + x2) 3000) (Option.bind (fX12_orNone (D.1 0 201 ((((60 : Int32) + ((2 : Int32) * x1)) + x2)).toNatClampNeg) D) fun q6 => (some (q6.1, q6.2)))) else (some ((-1 : Int32), (mz_wi D 0 200 2 (1 : Int32))))))))
set_option maxHeartbeats 4000000 in
theorem mX12_dish (x1 : Int32) (x2 : Int32) (D : mz_D) (r : (Int32 × mz_D)) (h : fX12_dish x1 x2 D = some r) : mz_Met IX12_dish [.inr (.inr (some (0, 200))), .inl x1, .inl x2] D (some (.inl r.1), r.2) := by
  refine mz_Met.of (by decide +kernel) (Nat.le_of_ble_eq_true rfl) ?_
  show mz_Go IX12_dish (some (.inl r.1), r.2) 0 0 (0, [some (.inr (.inr (some (0, 200)))), some (.inl x1), some (.inl x2)], [], D)
  rw [fX12_dish] at h
  refine mz_Go.run (gs := []) (st' := (if x1 < 0 then (23, [some (.inr (.inr (some (0, 200)))), some (.inl x1), some (.inl x2)], [], D) else (4, [some (.inr (.inr (some (0, 200)))), some (.inl x1), some (.inl x2)], [], D))) bX12_dish_0 oX12_dish_0 rfl trivial ?_
  refine mz_Go.ite (fun hc1 => ?_) (fun hc1 => ?_)
  · have h := mz_ifp hc1 h
    refine mz_Go.run (gs := []) (st' := (25, [some (.inr (.inr (some (0, 200)))), some (.inl x1), some (.inl x2)], [.inl (1 : Int32), .inr (.inr (some (0, 200)))], D)) bX12_dish_23 oX12_dish_23 rfl trivial ?_
    refine mz_Go.callV (I := IX12_dish) (J := IX12_refuse) (as := [.inl (1 : Int32)]) (ci := 12) (g := 0) (o := 200) (idx := 75) (pl := 1761) (rest := []) (mX12_refuse (1 : Int32) D) kX12_refuse vX12_refuse (by decide +kernel) (by decide +kernel) (by decide +kernel) rfl rfl ⟨rfl, rfl⟩ rfl rfl rfl rfl ?_
    cases h
    exact mz_Go.reti (by decide +kernel) rfl ⟨Nat.le_refl _, Nat.le_refl _⟩ rfl
  · have h := mz_ifn hc1 h
    refine mz_Go.run (gs := [mz_kz 0 0 200, mz_kz 0 0 201, mz_ix (2 : Int32) 3000]) (st' := (if (D.1 0 201 ((2 : Int32)).toNatClampNeg) ≤ x1 then (23, [some (.inr (.inr (some (0, 200)))), some (.inl x1), some (.inl x2)], [], D) else (14, [some (.inr (.inr (some (0, 200)))), some (.inl x1), some (.inl x2)], [], D))) bX12_dish_4 oX12_dish_4 rfl ⟨rfl, rfl, (by decide), trivial⟩ ?_
    refine mz_Go.ite (fun hc2 => ?_) (fun hc2 => ?_)
    · have h := mz_ifp hc2 h
      refine mz_Go.run (gs := []) (st' := (25, [some (.inr (.inr (some (0, 200)))), some (.inl x1), some (.inl x2)], [.inl (1 : Int32), .inr (.inr (some (0, 200)))], D)) bX12_dish_23 oX12_dish_23 rfl trivial ?_
      refine mz_Go.callV (I := IX12_dish) (J := IX12_refuse) (as := [.inl (1 : Int32)]) (ci := 12) (g := 0) (o := 200) (idx := 75) (pl := 1761) (rest := []) (mX12_refuse (1 : Int32) D) kX12_refuse vX12_refuse (by decide +kernel) (by decide +kernel) (by decide +kernel) rfl rfl ⟨rfl, rfl⟩ rfl rfl rfl rfl ?_
      cases h
      exact mz_Go.reti (by decide +kernel) rfl ⟨Nat.le_refl _, Nat.le_refl _⟩ rfl
    · have h := mz_ifn hc2 h
      refine mz_Go.run (gs := []) (st' := (if x2 < 0 then (23, [some (.inr (.inr (some (0, 200)))), some (.inl x1), some (.inl x2)], [], D) else (18, [some (.inr (.inr (some (0, 200)))), some (.inl x1), some (.inl x2)], [], D))) bX12_dish_14 oX12_dish_14 rfl trivial ?_
      refine mz_Go.ite (fun hc3 => ?_) (fun hc3 => ?_)
      · have h := mz_ifp hc3 h
        refine mz_Go.run (gs := []) (st' := (25, [some (.inr (.inr (some (0, 200)))), some (.inl x1), some (.inl x2)], [.inl (1 : Int32), .inr (.inr (some (0, 200)))], D)) bX12_dish_23 oX12_dish_23 rfl trivial ?_
        refine mz_Go.callV (I := IX12_dish) (J := IX12_refuse) (as := [.inl (1 : Int32)]) (ci := 12) (g := 0) (o := 200) (idx := 75) (pl := 1761) (rest := []) (mX12_refuse (1 : Int32) D) kX12_refuse vX12_refuse (by decide +kernel) (by decide +kernel) (by decide +kernel) rfl rfl ⟨rfl, rfl⟩ rfl rfl rfl rfl ?_
        cases h
        exact mz_Go.reti (by decide +kernel) rfl ⟨Nat.le_refl _, Nat.le_refl _⟩ rfl
      · have h := mz_ifn hc3 h
        refine mz_Go.run (gs := []) (st' := (if x2 ≤ (1 : Int32) then (29, [some (.inr (.inr (some (0, 200)))), some (.inl x1), some (.inl x2)], [], D) else (23, [some (.inr (.inr (some (0, 200)))), some (.inl x1), some (.inl x2)], [], D))) bX12_dish_18 oX12_dish_18 rfl trivial ?_
        refine mz_Go.ite (fun hc4 => ?_) (fun hc4 => ?_)
        · have h := mz_ifp hc4 h
          obtain ⟨hb5, h⟩ := mz_gd_some h
          refine mz_Go.run (gs := [mz_kz 0 0 200, mz_kz 0 0 201, mz_ix (((60 : Int32) + ((2 : Int32) * x1)) + x2) 3000]) (st' := (43, [some (.inr (.inr (some (0, 200)))), some (.inl x1), some (.inl x2)], [.inl (D.1 0 201 ((((60 : Int32) + ((2 : Int32) * x1)) + x2)).toNatClampNeg), .inr (.inr (some (0, 200)))], D)) bX12_dish_29 oX12_dish_29 rfl ⟨rfl, rfl, hb5, trivial⟩ ?_
          obtain ⟨q6, hq6, h⟩ := mz_bd_some h
          refine mz_Go.callV (I := IX12_dish) (J := IX12_orNone) (as := [.inl (D.1 0 201 ((((60 : Int32) + ((2 : Int32) * x1)) + x2)).toNatClampNeg)]) (ci := 12) (g := 0) (o := 200) (idx := 291) (pl := 1906) (rest := []) (mX12_orNone (D.1 0 201 ((((60 : Int32) + ((2 : Int32) * x1)) + x2)).toNatClampNeg) D q6 hq6) kX12_orNone vX12_orNone (by decide +kernel) (by decide +kernel) (by decide +kernel) rfl rfl ⟨rfl, rfl⟩ rfl rfl rfl rfl ?_
          cases h
          exact mz_Go.reti (by decide +kernel) rfl ⟨Nat.le_refl _, Nat.le_refl _⟩ rfl
        · have h := mz_ifn hc4 h
          refine mz_Go.run (gs := []) (st' := (25, [some (.inr (.inr (some (0, 200)))), some (.inl x1), some (.inl x2)], [.inl (1 : Int32), .inr (.inr (some (0, 200)))], D)) bX12_dish_23 oX12_dish_23 rfl trivial ?_
          refine mz_Go.callV (I := IX12_dish) (J := IX12_refuse) (as := [.inl (1 : Int32)]) (ci := 12) (g := 0) (o := 200) (idx := 75) (pl := 1761) (rest := []) (mX12_refuse (1 : Int32) D) kX12_refuse vX12_refuse (by decide +kernel) (by decide +kernel) (by decide +kernel) rfl rfl ⟨rfl, rfl⟩ rfl rfl rfl rfl ?_
          cases h
          exact mz_Go.reti (by decide +kernel) rfl ⟨Nat.le_refl _, Nat.le_refl _⟩ rfl
def bX12_eaten_0 : List mz_E := [(0, .aload_n 0, 0, 0, 0, 0, 0), (1, .iload_n 1, 0, 0, 0, 0, 0)]
theorem oX12_eaten_0 : bX12_eaten_0.all (mz_ok RX12 cX12_eaten 2) = true := by decide +kernel
def bX12_eaten_5 : List mz_E := [(5, .ifCond .eq 15, 0, 20, 0, 0, 0)]
theorem oX12_eaten_5 : bX12_eaten_5.all (mz_ok RX12 cX12_eaten 2) = true := by decide +kernel
def bX12_eaten_20 : List mz_E := [(20, .aload_n 0, 0, 0, 0, 0, 0), (21, .iconst 1, 0, 0, 0, 1, 0)]
theorem oX12_eaten_20 : bX12_eaten_20.all (mz_ok RX12 cX12_eaten 2) = true := by decide +kernel
def bX12_eaten_8 : List mz_E := [(8, .aload_n 0, 0, 0, 0, 0, 0), (9, .aload_n 0, 0, 0, 0, 0, 0), (10, .iload_n 1, 0, 0, 0, 0, 0)]
theorem oX12_eaten_8 : bX12_eaten_8.all (mz_ok RX12 cX12_eaten 2) = true := by decide +kernel
def bX12_eaten_17 : List mz_E := [(17, .goto 8, 0, 25, 0, 0, 0)]
theorem oX12_eaten_17 : bX12_eaten_17.all (mz_ok RX12 cX12_eaten 2) = true := by decide +kernel
abbrev IX12_eaten : mz_I := (yX12_eaten, cX12_eaten, 2, (some .int), 0, 3, 0, 0)
theorem kX12_eaten : mz_okm IX12_eaten 1917 141 1915 1 = true := by decide +kernel
theorem vX12_eaten : mz_okV IX12_eaten 1915 1916 = true := by decide +kernel
def fX12_eaten (x1 : Int32) (D : mz_D) : Option (Int32 × mz_D) := (if (fX12_isPerson x1 D) = 0 then (some ((-1 : Int32), (mz_wi D 0 200 2 (1 : Int32)))) else (Option.bind (fX12_eatenBy x1 D) fun q2 => (some (q2, (mz_wi D 0 200 2 (0 : Int32))))))
set_option maxHeartbeats 4000000 in
theorem mX12_eaten (x1 : Int32) (D : mz_D) (r : (Int32 × mz_D)) (h : fX12_eaten x1 D = some r) : mz_Met IX12_eaten [.inr (.inr (some (0, 200))), .inl x1] D (some (.inl r.1), r.2) := by
  refine mz_Met.of (by decide +kernel) (Nat.le_of_ble_eq_true rfl) ?_
  show mz_Go IX12_eaten (some (.inl r.1), r.2) 0 0 (0, [some (.inr (.inr (some (0, 200)))), some (.inl x1)], [], D)
  rw [fX12_eaten] at h
  refine mz_Go.run (gs := []) (st' := (2, [some (.inr (.inr (some (0, 200)))), some (.inl x1)], [.inl x1, .inr (.inr (some (0, 200)))], D)) bX12_eaten_0 oX12_eaten_0 rfl trivial ?_
  refine mz_Go.callV (I := IX12_eaten) (J := IX12_isPerson) (as := [.inl x1]) (ci := 12) (g := 0) (o := 200) (idx := 248) (pl := 1902) (rest := []) (mX12_isPerson x1 D _ rfl) kX12_isPerson vX12_isPerson (by decide +kernel) (by decide +kernel) (by decide +kernel) rfl rfl ⟨rfl, rfl⟩ rfl rfl rfl rfl ?_
  refine mz_Go.run (gs := []) (st' := (if (fX12_isPerson x1 D) = 0 then (20, [some (.inr (.inr (some (0, 200)))), some (.inl x1)], [], D) else (8, [some (.inr (.inr (some (0, 200)))), some (.inl x1)], [], D))) bX12_eaten_5 oX12_eaten_5 rfl trivial ?_
  refine mz_Go.ite (fun hc1 => ?_) (fun hc1 => ?_)
  · have h := mz_ifp hc1 h
    refine mz_Go.run (gs := []) (st' := (22, [some (.inr (.inr (some (0, 200)))), some (.inl x1)], [.inl (1 : Int32), .inr (.inr (some (0, 200)))], D)) bX12_eaten_20 oX12_eaten_20 rfl trivial ?_
    refine mz_Go.callV (I := IX12_eaten) (J := IX12_refuse) (as := [.inl (1 : Int32)]) (ci := 12) (g := 0) (o := 200) (idx := 75) (pl := 1761) (rest := []) (mX12_refuse (1 : Int32) D) kX12_refuse vX12_refuse (by decide +kernel) (by decide +kernel) (by decide +kernel) rfl rfl ⟨rfl, rfl⟩ rfl rfl rfl rfl ?_
    cases h
    exact mz_Go.reti (by decide +kernel) rfl ⟨Nat.le_refl _, Nat.le_refl _⟩ rfl
  · have h := mz_ifn hc1 h
    refine mz_Go.run (gs := []) (st' := (11, [some (.inr (.inr (some (0, 200)))), some (.inl x1)], [.inl x1, .inr (.inr (some (0, 200))), .inr (.inr (some (0, 200)))], D)) bX12_eaten_8 oX12_eaten_8 rfl trivial ?_
    obtain ⟨q2, hq2, h⟩ := mz_bd_some h
    refine mz_Go.callV (I := IX12_eaten) (J := IX12_eatenBy) (as := [.inl x1]) (ci := 12) (g := 0) (o := 200) (idx := 279) (pl := 1918) (rest := [.inr (.inr (some (0, 200)))]) (mX12_eatenBy x1 D q2 hq2) kX12_eatenBy vX12_eatenBy (by decide +kernel) (by decide +kernel) (by decide +kernel) rfl rfl ⟨rfl, rfl⟩ rfl rfl rfl rfl ?_
    refine mz_Go.callV (I := IX12_eaten) (J := IX12_gives) (as := [.inl q2]) (ci := 12) (g := 0) (o := 200) (idx := 79) (pl := 1844) (rest := []) (mX12_gives q2 D) kX12_gives vX12_gives (by decide +kernel) (by decide +kernel) (by decide +kernel) rfl rfl ⟨rfl, rfl⟩ rfl rfl rfl rfl ?_
    refine mz_Go.run (gs := []) (st' := (25, [some (.inr (.inr (some (0, 200)))), some (.inl x1)], [.inl q2], (mz_wi D 0 200 2 (0 : Int32)))) bX12_eaten_17 oX12_eaten_17 rfl trivial ?_
    cases h
    exact mz_Go.reti (by decide +kernel) rfl ⟨Nat.le_refl _, Nat.le_refl _⟩ rfl
def bX12_isSplit_0 : List mz_E := [(0, .iload_n 0, 0, 0, 0, 0, 0), (1, .ifCond .lt 12, 0, 13, 0, 0, 0)]
theorem oX12_isSplit_0 : bX12_isSplit_0.all (mz_ok RX12 cX12_isSplit 1) = true := by decide +kernel
def bX12_isSplit_13 : List mz_E := [(13, .iconst 0, 0, 0, 0, 0, 0)]
theorem oX12_isSplit_13 : bX12_isSplit_13.all (mz_ok RX12 cX12_isSplit 1) = true := by decide +kernel
def bX12_isSplit_4 : List mz_E := [(4, .iload_n 0, 0, 0, 0, 0, 0), (5, .iconst 2, 0, 0, 0, 2, 0), (6, .if_icmp .gt 7, 0, 13, 0, 0, 0)]
theorem oX12_isSplit_4 : bX12_isSplit_4.all (mz_ok RX12 cX12_isSplit 1) = true := by decide +kernel
def bX12_isSplit_9 : List mz_E := [(9, .iconst 1, 0, 0, 0, 1, 0), (10, .goto 4, 0, 14, 0, 0, 0)]
theorem oX12_isSplit_9 : bX12_isSplit_9.all (mz_ok RX12 cX12_isSplit 1) = true := by decide +kernel
abbrev IX12_isSplit : mz_I := (yX12_isSplit, cX12_isSplit, 1, (some .boolean), 9, 0, 0, 0)
theorem kX12_isSplit : mz_okm IX12_isSplit 1935 141 1934 1 = true := by decide +kernel
theorem vX12_isSplit : mz_okS IX12_isSplit 1934 = true := by decide +kernel
def fX12_isSplit (x0 : Int32) : Int32 := (if x0 < 0 then (0 : Int32) else (if (2 : Int32) < x0 then (0 : Int32) else (1 : Int32)))
set_option maxHeartbeats 4000000 in
theorem mX12_isSplit (x0 : Int32) (D : mz_D) (r : Int32) (h : fX12_isSplit x0 = r) : mz_Met IX12_isSplit [.inl x0] D (some (.inl r), D) := by
  refine mz_Met.of (by decide +kernel) (Nat.le_of_ble_eq_true rfl) ?_
  show mz_Go IX12_isSplit (some (.inl r), D) 0 0 (0, [some (.inl x0)], [], D)
  rw [fX12_isSplit] at h
  refine mz_Go.run (gs := []) (st' := (if x0 < 0 then (13, [some (.inl x0)], [], D) else (4, [some (.inl x0)], [], D))) bX12_isSplit_0 oX12_isSplit_0 rfl trivial ?_
  refine mz_Go.ite (fun hc1 => ?_) (fun hc1 => ?_)
  · have h := mz_ifp hc1 h
    refine mz_Go.run (gs := []) (st' := (14, [some (.inl x0)], [.inl (0 : Int32)], D)) bX12_isSplit_13 oX12_isSplit_13 rfl trivial ?_
    subst h
    exact mz_Go.retz (by decide +kernel) rfl ⟨Nat.le_refl _, Nat.le_refl _⟩ (by decide) rfl
  · have h := mz_ifn hc1 h
    refine mz_Go.run (gs := []) (st' := (if (2 : Int32) < x0 then (13, [some (.inl x0)], [], D) else (9, [some (.inl x0)], [], D))) bX12_isSplit_4 oX12_isSplit_4 rfl trivial ?_
    refine mz_Go.ite (fun hc2 => ?_) (fun hc2 => ?_)
    · have h := mz_ifp hc2 h
      refine mz_Go.run (gs := []) (st' := (14, [some (.inl x0)], [.inl (0 : Int32)], D)) bX12_isSplit_13 oX12_isSplit_13 rfl trivial ?_
      subst h
      exact mz_Go.retz (by decide +kernel) rfl ⟨Nat.le_refl _, Nat.le_refl _⟩ (by decide) rfl
    · have h := mz_ifn hc2 h
      refine mz_Go.run (gs := []) (st' := (14, [some (.inl x0)], [.inl (1 : Int32)], D)) bX12_isSplit_9 oX12_isSplit_9 rfl trivial ?_
      subst h
      exact mz_Go.retz (by decide +kernel) rfl ⟨Nat.le_refl _, Nat.le_refl _⟩ (by decide) rfl
def bX12_due_0 : List mz_E := [(0, .aload_n 0, 0, 0, 0, 0, 0), (1, .iload_n 1, 0, 0, 0, 0, 0)]
theorem oX12_due_0 : bX12_due_0.all (mz_ok RX12 cX12_due 3) = true := by decide +kernel
def bX12_due_5 : List mz_E := [(5, .ifCond .eq 23, 0, 28, 0, 0, 0)]
theorem oX12_due_5 : bX12_due_5.all (mz_ok RX12 cX12_due 3) = true := by decide +kernel
def bX12_due_28 : List mz_E := [(28, .aload_n 0, 0, 0, 0, 0, 0), (29, .iconst 1, 0, 0, 0, 1, 0)]
theorem oX12_due_28 : bX12_due_28.all (mz_ok RX12 cX12_due 3) = true := by decide +kernel
def bX12_due_8 : List mz_E := [(8, .iload_n 2, 0, 0, 0, 0, 0)]
theorem oX12_due_8 : bX12_due_8.all (mz_ok RX12 cX12_due 3) = true := by decide +kernel
def bX12_due_12 : List mz_E := [(12, .ifCond .eq 16, 0, 28, 0, 0, 0)]
theorem oX12_due_12 : bX12_due_12.all (mz_ok RX12 cX12_due 3) = true := by decide +kernel
def bX12_due_15 : List mz_E := [(15, .aload_n 0, 0, 0, 0, 0, 0), (16, .aload_n 0, 0, 0, 0, 0, 0), (17, .iload_n 1, 0, 0, 0, 0, 0), (18, .iload_n 2, 0, 0, 0, 0, 0)]
theorem oX12_due_15 : bX12_due_15.all (mz_ok RX12 cX12_due 3) = true := by decide +kernel
def bX12_due_25 : List mz_E := [(25, .goto 8, 0, 33, 0, 0, 0)]
theorem oX12_due_25 : bX12_due_25.all (mz_ok RX12 cX12_due 3) = true := by decide +kernel
abbrev IX12_due : mz_I := (yX12_due, cX12_due, 3, (some .int), 0, 4, 0, 0)
theorem kX12_due : mz_okm IX12_due 1932 141 1930 2 = true := by decide +kernel
theorem vX12_due : mz_okV IX12_due 1930 1931 = true := by decide +kernel
def fX12_due (x1 : Int32) (x2 : Int32) (D : mz_D) : Option (Int32 × mz_D) := (if (fX12_isPerson x1 D) = 0 then (some ((-1 : Int32), (mz_wi D 0 200 2 (1 : Int32)))) else (if (fX12_isSplit x2) = 0 then (some ((-1 : Int32), (mz_wi D 0 200 2 (1 : Int32)))) else (Option.bind (fX12_dueBy x1 x2 D) fun q3 => (some (q3, (mz_wi D 0 200 2 (0 : Int32)))))))
set_option maxHeartbeats 4000000 in
theorem mX12_due (x1 : Int32) (x2 : Int32) (D : mz_D) (r : (Int32 × mz_D)) (h : fX12_due x1 x2 D = some r) : mz_Met IX12_due [.inr (.inr (some (0, 200))), .inl x1, .inl x2] D (some (.inl r.1), r.2) := by
  refine mz_Met.of (by decide +kernel) (Nat.le_of_ble_eq_true rfl) ?_
  show mz_Go IX12_due (some (.inl r.1), r.2) 0 0 (0, [some (.inr (.inr (some (0, 200)))), some (.inl x1), some (.inl x2)], [], D)
  rw [fX12_due] at h
  refine mz_Go.run (gs := []) (st' := (2, [some (.inr (.inr (some (0, 200)))), some (.inl x1), some (.inl x2)], [.inl x1, .inr (.inr (some (0, 200)))], D)) bX12_due_0 oX12_due_0 rfl trivial ?_
  refine mz_Go.callV (I := IX12_due) (J := IX12_isPerson) (as := [.inl x1]) (ci := 12) (g := 0) (o := 200) (idx := 248) (pl := 1902) (rest := []) (mX12_isPerson x1 D _ rfl) kX12_isPerson vX12_isPerson (by decide +kernel) (by decide +kernel) (by decide +kernel) rfl rfl ⟨rfl, rfl⟩ rfl rfl rfl rfl ?_
  refine mz_Go.run (gs := []) (st' := (if (fX12_isPerson x1 D) = 0 then (28, [some (.inr (.inr (some (0, 200)))), some (.inl x1), some (.inl x2)], [], D) else (8, [some (.inr (.inr (some (0, 200)))), some (.inl x1), some (.inl x2)], [], D))) bX12_due_5 oX12_due_5 rfl trivial ?_
  refine mz_Go.ite (fun hc1 => ?_) (fun hc1 => ?_)
  · have h := mz_ifp hc1 h
    refine mz_Go.run (gs := []) (st' := (30, [some (.inr (.inr (some (0, 200)))), some (.inl x1), some (.inl x2)], [.inl (1 : Int32), .inr (.inr (some (0, 200)))], D)) bX12_due_28 oX12_due_28 rfl trivial ?_
    refine mz_Go.callV (I := IX12_due) (J := IX12_refuse) (as := [.inl (1 : Int32)]) (ci := 12) (g := 0) (o := 200) (idx := 75) (pl := 1761) (rest := []) (mX12_refuse (1 : Int32) D) kX12_refuse vX12_refuse (by decide +kernel) (by decide +kernel) (by decide +kernel) rfl rfl ⟨rfl, rfl⟩ rfl rfl rfl rfl ?_
    cases h
    exact mz_Go.reti (by decide +kernel) rfl ⟨Nat.le_refl _, Nat.le_refl _⟩ rfl
  · have h := mz_ifn hc1 h
    refine mz_Go.run (gs := []) (st' := (9, [some (.inr (.inr (some (0, 200)))), some (.inl x1), some (.inl x2)], [.inl x2], D)) bX12_due_8 oX12_due_8 rfl trivial ?_
    refine mz_Go.callS (I := IX12_due) (J := IX12_isSplit) (as := [.inl x2]) (idx := 294) (pl := 1933) (rest := []) (mX12_isSplit x2 D _ rfl) kX12_isSplit vX12_isSplit (by decide +kernel) (by decide +kernel) (by decide +kernel) rfl rfl ⟨rfl, rfl⟩ rfl ?_
    refine mz_Go.run (gs := []) (st' := (if (fX12_isSplit x2) = 0 then (28, [some (.inr (.inr (some (0, 200)))), some (.inl x1), some (.inl x2)], [], D) else (15, [some (.inr (.inr (some (0, 200)))), some (.inl x1), some (.inl x2)], [], D))) bX12_due_12 oX12_due_12 rfl trivial ?_
    refine mz_Go.ite (fun hc2 => ?_) (fun hc2 => ?_)
    · have h := mz_ifp hc2 h
      refine mz_Go.run (gs := []) (st' := (30, [some (.inr (.inr (some (0, 200)))), some (.inl x1), some (.inl x2)], [.inl (1 : Int32), .inr (.inr (some (0, 200)))], D)) bX12_due_28 oX12_due_28 rfl trivial ?_
      refine mz_Go.callV (I := IX12_due) (J := IX12_refuse) (as := [.inl (1 : Int32)]) (ci := 12) (g := 0) (o := 200) (idx := 75) (pl := 1761) (rest := []) (mX12_refuse (1 : Int32) D) kX12_refuse vX12_refuse (by decide +kernel) (by decide +kernel) (by decide +kernel) rfl rfl ⟨rfl, rfl⟩ rfl rfl rfl rfl ?_
      cases h
      exact mz_Go.reti (by decide +kernel) rfl ⟨Nat.le_refl _, Nat.le_refl _⟩ rfl
    · have h := mz_ifn hc2 h
      refine mz_Go.run (gs := []) (st' := (19, [some (.inr (.inr (some (0, 200)))), some (.inl x1), some (.inl x2)], [.inl x2, .inl x1, .inr (.inr (some (0, 200))), .inr (.inr (some (0, 200)))], D)) bX12_due_15 oX12_due_15 rfl trivial ?_
      obtain ⟨q3, hq3, h⟩ := mz_bd_some h
      refine mz_Go.callV (I := IX12_due) (J := IX12_dueBy) (as := [.inl x1, .inl x2]) (ci := 12) (g := 0) (o := 200) (idx := 282) (pl := 1936) (rest := [.inr (.inr (some (0, 200)))]) (mX12_dueBy x1 x2 D q3 hq3) kX12_dueBy vX12_dueBy (by decide +kernel) (by decide +kernel) (by decide +kernel) rfl rfl ⟨rfl, rfl⟩ rfl rfl rfl rfl ?_
      refine mz_Go.callV (I := IX12_due) (J := IX12_gives) (as := [.inl q3]) (ci := 12) (g := 0) (o := 200) (idx := 79) (pl := 1844) (rest := []) (mX12_gives q3 D) kX12_gives vX12_gives (by decide +kernel) (by decide +kernel) (by decide +kernel) rfl rfl ⟨rfl, rfl⟩ rfl rfl rfl rfl ?_
      refine mz_Go.run (gs := []) (st' := (33, [some (.inr (.inr (some (0, 200)))), some (.inl x1), some (.inl x2)], [.inl q3], (mz_wi D 0 200 2 (0 : Int32)))) bX12_due_25 oX12_due_25 rfl trivial ?_
      cases h
      exact mz_Go.reti (by decide +kernel) rfl ⟨Nat.le_refl _, Nat.le_refl _⟩ rfl
def bX12_unfair_0 : List mz_E := [(0, .iload_n 1, 0, 0, 0, 0, 0)]
theorem oX12_unfair_0 : bX12_unfair_0.all (mz_ok RX12 cX12_unfair 2) = true := by decide +kernel
def bX12_unfair_4 : List mz_E := [(4, .ifCond .eq 15, 0, 19, 0, 0, 0)]
theorem oX12_unfair_4 : bX12_unfair_4.all (mz_ok RX12 cX12_unfair 2) = true := by decide +kernel
def bX12_unfair_19 : List mz_E := [(19, .aload_n 0, 0, 0, 0, 0, 0), (20, .iconst 1, 0, 0, 0, 1, 0)]
theorem oX12_unfair_19 : bX12_unfair_19.all (mz_ok RX12 cX12_unfair 2) = true := by decide +kernel
def bX12_unfair_7 : List mz_E := [(7, .aload_n 0, 0, 0, 0, 0, 0), (8, .aload_n 0, 0, 0, 0, 0, 0), (9, .iload_n 1, 0, 0, 0, 0, 0)]
theorem oX12_unfair_7 : bX12_unfair_7.all (mz_ok RX12 cX12_unfair 2) = true := by decide +kernel
def bX12_unfair_16 : List mz_E := [(16, .goto 8, 0, 24, 0, 0, 0)]
theorem oX12_unfair_16 : bX12_unfair_16.all (mz_ok RX12 cX12_unfair 2) = true := by decide +kernel
abbrev IX12_unfair : mz_I := (yX12_unfair, cX12_unfair, 2, (some .int), 0, 5, 0, 0)
theorem kX12_unfair : mz_okm IX12_unfair 1951 141 1949 1 = true := by decide +kernel
theorem vX12_unfair : mz_okV IX12_unfair 1949 1950 = true := by decide +kernel
def fX12_unfair (x1 : Int32) (D : mz_D) : Option (Int32 × mz_D) := (if (fX12_isSplit x1) = 0 then (some ((-1 : Int32), (mz_wi D 0 200 2 (1 : Int32)))) else (Option.bind (fX12_unfairBy x1 D) fun q2 => (some (q2, (mz_wi D 0 200 2 (0 : Int32))))))
set_option maxHeartbeats 4000000 in
theorem mX12_unfair (x1 : Int32) (D : mz_D) (r : (Int32 × mz_D)) (h : fX12_unfair x1 D = some r) : mz_Met IX12_unfair [.inr (.inr (some (0, 200))), .inl x1] D (some (.inl r.1), r.2) := by
  refine mz_Met.of (by decide +kernel) (Nat.le_of_ble_eq_true rfl) ?_
  show mz_Go IX12_unfair (some (.inl r.1), r.2) 0 0 (0, [some (.inr (.inr (some (0, 200)))), some (.inl x1)], [], D)
  rw [fX12_unfair] at h
  refine mz_Go.run (gs := []) (st' := (1, [some (.inr (.inr (some (0, 200)))), some (.inl x1)], [.inl x1], D)) bX12_unfair_0 oX12_unfair_0 rfl trivial ?_
  refine mz_Go.callS (I := IX12_unfair) (J := IX12_isSplit) (as := [.inl x1]) (idx := 294) (pl := 1933) (rest := []) (mX12_isSplit x1 D _ rfl) kX12_isSplit vX12_isSplit (by decide +kernel) (by decide +kernel) (by decide +kernel) rfl rfl ⟨rfl, rfl⟩ rfl ?_
  refine mz_Go.run (gs := []) (st' := (if (fX12_isSplit x1) = 0 then (19, [some (.inr (.inr (some (0, 200)))), some (.inl x1)], [], D) else (7, [some (.inr (.inr (some (0, 200)))), some (.inl x1)], [], D))) bX12_unfair_4 oX12_unfair_4 rfl trivial ?_
  refine mz_Go.ite (fun hc1 => ?_) (fun hc1 => ?_)
  · have h := mz_ifp hc1 h
    refine mz_Go.run (gs := []) (st' := (21, [some (.inr (.inr (some (0, 200)))), some (.inl x1)], [.inl (1 : Int32), .inr (.inr (some (0, 200)))], D)) bX12_unfair_19 oX12_unfair_19 rfl trivial ?_
    refine mz_Go.callV (I := IX12_unfair) (J := IX12_refuse) (as := [.inl (1 : Int32)]) (ci := 12) (g := 0) (o := 200) (idx := 75) (pl := 1761) (rest := []) (mX12_refuse (1 : Int32) D) kX12_refuse vX12_refuse (by decide +kernel) (by decide +kernel) (by decide +kernel) rfl rfl ⟨rfl, rfl⟩ rfl rfl rfl rfl ?_
    cases h
    exact mz_Go.reti (by decide +kernel) rfl ⟨Nat.le_refl _, Nat.le_refl _⟩ rfl
  · have h := mz_ifn hc1 h
    refine mz_Go.run (gs := []) (st' := (10, [some (.inr (.inr (some (0, 200)))), some (.inl x1)], [.inl x1, .inr (.inr (some (0, 200))), .inr (.inr (some (0, 200)))], D)) bX12_unfair_7 oX12_unfair_7 rfl trivial ?_
    obtain ⟨q2, hq2, h⟩ := mz_bd_some h
    refine mz_Go.callV (I := IX12_unfair) (J := IX12_unfairBy) (as := [.inl x1]) (ci := 12) (g := 0) (o := 200) (idx := 297) (pl := 1952) (rest := [.inr (.inr (some (0, 200)))]) (mX12_unfairBy x1 D q2 hq2) kX12_unfairBy vX12_unfairBy (by decide +kernel) (by decide +kernel) (by decide +kernel) rfl rfl ⟨rfl, rfl⟩ rfl rfl rfl rfl ?_
    refine mz_Go.callV (I := IX12_unfair) (J := IX12_gives) (as := [.inl q2]) (ci := 12) (g := 0) (o := 200) (idx := 79) (pl := 1844) (rest := []) (mX12_gives q2 D) kX12_gives vX12_gives (by decide +kernel) (by decide +kernel) (by decide +kernel) rfl rfl ⟨rfl, rfl⟩ rfl rfl rfl rfl ?_
    refine mz_Go.run (gs := []) (st' := (24, [some (.inr (.inr (some (0, 200)))), some (.inl x1)], [.inl q2], (mz_wi D 0 200 2 (0 : Int32)))) bX12_unfair_16 oX12_unfair_16 rfl trivial ?_
    cases h
    exact mz_Go.reti (by decide +kernel) rfl ⟨Nat.le_refl _, Nat.le_refl _⟩ rfl
def bX12_fairest_0 : List mz_E := [(0, .iconst 0, 0, 0, 0, 0, 0), (1, .istore_n 1, 0, 0, 0, 0, 0), (2, .iconst 1, 0, 0, 0, 1, 0), (3, .istore_n 2, 0, 0, 0, 0, 0)]
theorem oX12_fairest_0 : bX12_fairest_0.all (mz_ok RX12 cX12_fairest 3) = true := by decide +kernel
def bX12_fairest_4 : List mz_E := [(4, .iload_n 2, 0, 0, 0, 0, 0), (5, .iconst 3, 0, 0, 0, 3, 0), (6, .if_icmp .ge 24, 0, 30, 0, 0, 0)]
theorem oX12_fairest_4 : bX12_fairest_4.all (mz_ok RX12 cX12_fairest 3) = true := by decide +kernel
def bX12_fairest_30 : List mz_E := [(30, .aload_n 0, 0, 0, 0, 0, 0), (31, .iload_n 1, 0, 0, 0, 0, 0)]
theorem oX12_fairest_30 : bX12_fairest_30.all (mz_ok RX12 cX12_fairest 3) = true := by decide +kernel
def bX12_fairest_9 : List mz_E := [(9, .aload_n 0, 0, 0, 0, 0, 0), (10, .iload_n 2, 0, 0, 0, 0, 0)]
theorem oX12_fairest_9 : bX12_fairest_9.all (mz_ok RX12 cX12_fairest 3) = true := by decide +kernel
def bX12_fairest_14 : List mz_E := [(14, .aload_n 0, 0, 0, 0, 0, 0), (15, .iload_n 1, 0, 0, 0, 0, 0)]
theorem oX12_fairest_14 : bX12_fairest_14.all (mz_ok RX12 cX12_fairest 3) = true := by decide +kernel
def bX12_fairest_19 : List mz_E := [(19, .if_icmp .ge 5, 0, 24, 0, 0, 0)]
theorem oX12_fairest_19 : bX12_fairest_19.all (mz_ok RX12 cX12_fairest 3) = true := by decide +kernel
def bX12_fairest_24 : List mz_E := [(24, .iinc 2 1, 0, 0, 0, 1, 0), (27, .goto (-23), 0, 4, 0, 0, 0)]
theorem oX12_fairest_24 : bX12_fairest_24.all (mz_ok RX12 cX12_fairest 3) = true := by decide +kernel
def bX12_fairest_22 : List mz_E := [(22, .iload_n 2, 0, 0, 0, 0, 0), (23, .istore_n 1, 0, 0, 0, 0, 0), (24, .iinc 2 1, 0, 0, 0, 1, 0), (27, .goto (-23), 0, 4, 0, 0, 0)]
theorem oX12_fairest_22 : bX12_fairest_22.all (mz_ok RX12 cX12_fairest 3) = true := by decide +kernel
abbrev IX12_fairest : mz_I := (yX12_fairest, cX12_fairest, 3, (some .int), 0, 5, 0, 0)
theorem kX12_fairest : mz_okm IX12_fairest 1960 141 1958 0 = true := by decide +kernel
theorem vX12_fairest : mz_okV IX12_fairest 1958 1959 = true := by decide +kernel
def fX12_fairest_4 : Nat → Int32 → Int32 → mz_D → Option (Int32 × mz_D)
  | 0 => fun _ _ _ => none
  | n + 1 => fun x1 x2 D => (if (3 : Int32) ≤ x2 then (some (x1, (mz_wi D 0 200 2 (0 : Int32)))) else (Option.bind (fX12_unfairBy x2 D) fun q2 => (Option.bind (fX12_unfairBy x1 D) fun q3 => (if q3 ≤ q2 then ((fX12_fairest_4 n) x1 (x2 + (1 : Int32)) D) else ((fX12_fairest_4 n) x2 (x2 + (1 : Int32)) D)))))
set_option maxHeartbeats 4000000 in
theorem tX12_fairest_4 (r : (Int32 × mz_D)) : ∀ (n : Nat) (x1 : Int32) (x2 : Int32) (D : mz_D), fX12_fairest_4 n x1 x2 D = some r → mz_Go IX12_fairest (some (.inl r.1), r.2) 0 0 (4, [some (.inr (.inr (some (0, 200)))), some (.inl x1), some (.inl x2)], [], D) := by
  intro n
  induction n with
  | zero => intro x1 x2 D h; have h : (none : Option (Int32 × mz_D)) = some r := h; cases h
  | succ n ih =>
    intro x1 x2 D h
    rw [fX12_fairest_4] at h
    refine mz_Go.run (gs := []) (st' := (if (3 : Int32) ≤ x2 then (30, [some (.inr (.inr (some (0, 200)))), some (.inl x1), some (.inl x2)], [], D) else (9, [some (.inr (.inr (some (0, 200)))), some (.inl x1), some (.inl x2)], [], D))) bX12_fairest_4 oX12_fairest_4 rfl trivial ?_
    refine mz_Go.ite (fun hc1 => ?_) (fun hc1 => ?_)
    · have h := mz_ifp hc1 h
      refine mz_Go.run (gs := []) (st' := (32, [some (.inr (.inr (some (0, 200)))), some (.inl x1), some (.inl x2)], [.inl x1, .inr (.inr (some (0, 200)))], D)) bX12_fairest_30 oX12_fairest_30 rfl trivial ?_
      refine mz_Go.callV (I := IX12_fairest) (J := IX12_gives) (as := [.inl x1]) (ci := 12) (g := 0) (o := 200) (idx := 79) (pl := 1844) (rest := []) (mX12_gives x1 D) kX12_gives vX12_gives (by decide +kernel) (by decide +kernel) (by decide +kernel) rfl rfl ⟨rfl, rfl⟩ rfl rfl rfl rfl ?_
      cases h
      exact mz_Go.reti (by decide +kernel) rfl ⟨Nat.le_refl _, Nat.le_refl _⟩ rfl
    · have h := mz_ifn hc1 h
      refine mz_Go.run (gs := []) (st' := (11, [some (.inr (.inr (some (0, 200)))), some (.inl x1), some (.inl x2)], [.inl x2, .inr (.inr (some (0, 200)))], D)) bX12_fairest_9 oX12_fairest_9 rfl trivial ?_
      obtain ⟨q2, hq2, h⟩ := mz_bd_some h
      refine mz_Go.callV (I := IX12_fairest) (J := IX12_unfairBy) (as := [.inl x2]) (ci := 12) (g := 0) (o := 200) (idx := 297) (pl := 1952) (rest := []) (mX12_unfairBy x2 D q2 hq2) kX12_unfairBy vX12_unfairBy (by decide +kernel) (by decide +kernel) (by decide +kernel) rfl rfl ⟨rfl, rfl⟩ rfl rfl rfl rfl ?_
      refine mz_Go.run (gs := []) (st' := (16, [some (.inr (.inr (some (0, 200)))), some (.inl x1), some (.inl x2)], [.inl x1, .inr (.inr (some (0, 200))), .inl q2], D)) bX12_fairest_14 oX12_fairest_14 rfl trivial ?_
      obtain ⟨q3, hq3, h⟩ := mz_bd_some h
      refine mz_Go.callV (I := IX12_fairest) (J := IX12_unfairBy) (as := [.inl x1]) (ci := 12) (g := 0) (o := 200) (idx := 297) (pl := 1952) (rest := [.inl q2]) (mX12_unfairBy x1 D q3 hq3) kX12_unfairBy vX12_unfairBy (by decide +kernel) (by decide +kernel) (by decide +kernel) rfl rfl ⟨rfl, rfl⟩ rfl rfl rfl rfl ?_
      refine mz_Go.run (gs := []) (st' := (if q3 ≤ q2 then (24, [some (.inr (.inr (some (0, 200)))), some (.inl x1), some (.inl x2)], [], D) else (22, [some (.inr (.inr (some (0, 200)))), some (.inl x1), some (.inl x2)], [], D))) bX12_fairest_19 oX12_fairest_19 rfl trivial ?_
      refine mz_Go.ite (fun hc4 => ?_) (fun hc4 => ?_)
      · have h := mz_ifp hc4 h
        refine mz_Go.run (gs := []) (st' := (4, [some (.inr (.inr (some (0, 200)))), some (.inl x1), some (.inl (x2 + (1 : Int32)))], [], D)) bX12_fairest_24 oX12_fairest_24 rfl trivial ?_
        exact mz_Go.drop [true, true, true] (ih x1 (x2 + (1 : Int32)) D h)
      · have h := mz_ifn hc4 h
        refine mz_Go.run (gs := []) (st' := (4, [some (.inr (.inr (some (0, 200)))), some (.inl x2), some (.inl (x2 + (1 : Int32)))], [], D)) bX12_fairest_22 oX12_fairest_22 rfl trivial ?_
        exact mz_Go.drop [true, true, true] (ih x2 (x2 + (1 : Int32)) D h)
def fX12_fairest (D : mz_D) : Option (Int32 × mz_D) := (fX12_fairest_4 mz_N (0 : Int32) (1 : Int32) D)
set_option maxHeartbeats 4000000 in
theorem mX12_fairest (D : mz_D) (r : (Int32 × mz_D)) (h : fX12_fairest D = some r) : mz_Met IX12_fairest [.inr (.inr (some (0, 200)))] D (some (.inl r.1), r.2) := by
  refine mz_Met.of (by decide +kernel) (Nat.le_of_ble_eq_true rfl) ?_
  show mz_Go IX12_fairest (some (.inl r.1), r.2) 0 0 (0, [some (.inr (.inr (some (0, 200)))), none, none], [], D)
  rw [fX12_fairest] at h
  refine mz_Go.run (gs := []) (st' := (4, [some (.inr (.inr (some (0, 200)))), some (.inl (0 : Int32)), some (.inl (1 : Int32))], [], D)) bX12_fairest_0 oX12_fairest_0 rfl trivial ?_
  exact mz_Go.drop [true, true, true] (tX12_fairest_4 r mz_N (0 : Int32) (1 : Int32) D h)
def bX12_dearer_0 : List mz_E := [(0, .aload_n 0, 0, 0, 0, 0, 0), (1, .iload_n 1, 0, 0, 0, 0, 0)]
theorem oX12_dearer_0 : bX12_dearer_0.all (mz_ok RX12 cX12_dearer 4) = true := by decide +kernel
def bX12_dearer_5 : List mz_E := [(5, .ifCond .eq 37, 0, 42, 0, 0, 0)]
theorem oX12_dearer_5 : bX12_dearer_5.all (mz_ok RX12 cX12_dearer 4) = true := by decide +kernel
def bX12_dearer_42 : List mz_E := [(42, .aload_n 0, 0, 0, 0, 0, 0), (43, .iconst 1, 0, 0, 0, 1, 0)]
theorem oX12_dearer_42 : bX12_dearer_42.all (mz_ok RX12 cX12_dearer 4) = true := by decide +kernel
def bX12_dearer_8 : List mz_E := [(8, .iload_n 2, 0, 0, 0, 0, 0)]
theorem oX12_dearer_8 : bX12_dearer_8.all (mz_ok RX12 cX12_dearer 4) = true := by decide +kernel
def bX12_dearer_12 : List mz_E := [(12, .ifCond .eq 30, 0, 42, 0, 0, 0)]
theorem oX12_dearer_12 : bX12_dearer_12.all (mz_ok RX12 cX12_dearer 4) = true := by decide +kernel
def bX12_dearer_15 : List mz_E := [(15, .iload_n 3, 0, 0, 0, 0, 0)]
theorem oX12_dearer_15 : bX12_dearer_15.all (mz_ok RX12 cX12_dearer 4) = true := by decide +kernel
def bX12_dearer_19 : List mz_E := [(19, .ifCond .eq 23, 0, 42, 0, 0, 0)]
theorem oX12_dearer_19 : bX12_dearer_19.all (mz_ok RX12 cX12_dearer 4) = true := by decide +kernel
def bX12_dearer_22 : List mz_E := [(22, .aload_n 0, 0, 0, 0, 0, 0), (23, .aload_n 0, 0, 0, 0, 0, 0), (24, .iload_n 1, 0, 0, 0, 0, 0), (25, .iload_n 2, 0, 0, 0, 0, 0)]
theorem oX12_dearer_22 : bX12_dearer_22.all (mz_ok RX12 cX12_dearer 4) = true := by decide +kernel
def bX12_dearer_29 : List mz_E := [(29, .aload_n 0, 0, 0, 0, 0, 0), (30, .iload_n 1, 0, 0, 0, 0, 0), (31, .iload_n 3, 0, 0, 0, 0, 0)]
theorem oX12_dearer_29 : bX12_dearer_29.all (mz_ok RX12 cX12_dearer 4) = true := by decide +kernel
def bX12_dearer_35 : List mz_E := [(35, .isub, 0, 0, 0, 0, 0)]
theorem oX12_dearer_35 : bX12_dearer_35.all (mz_ok RX12 cX12_dearer 4) = true := by decide +kernel
def bX12_dearer_39 : List mz_E := [(39, .goto 8, 0, 47, 0, 0, 0)]
theorem oX12_dearer_39 : bX12_dearer_39.all (mz_ok RX12 cX12_dearer 4) = true := by decide +kernel
abbrev IX12_dearer : mz_I := (yX12_dearer, cX12_dearer, 4, (some .int), 0, 4, 0, 0)
theorem kX12_dearer : mz_okm IX12_dearer 1964 141 1962 3 = true := by decide +kernel
theorem vX12_dearer : mz_okV IX12_dearer 1962 1963 = true := by decide +kernel
def fX12_dearer (x1 : Int32) (x2 : Int32) (x3 : Int32) (D : mz_D) : Option (Int32 × mz_D) := (if (fX12_isPerson x1 D) = 0 then (some ((-1 : Int32), (mz_wi D 0 200 2 (1 : Int32)))) else (if (fX12_isSplit x2) = 0 then (some ((-1 : Int32), (mz_wi D 0 200 2 (1 : Int32)))) else (if (fX12_isSplit x3) = 0 then (some ((-1 : Int32), (mz_wi D 0 200 2 (1 : Int32)))) else (Option.bind (fX12_dueBy x1 x2 D) fun q4 => (Option.bind (fX12_dueBy x1 x3 D) fun q5 => (some ((q4 - q5), (mz_wi D 0 200 2 (0 : Int32)))))))))
set_option maxHeartbeats 4000000 in
theorem mX12_dearer (x1 : Int32) (x2 : Int32) (x3 : Int32) (D : mz_D) (r : (Int32 × mz_D)) (h : fX12_dearer x1 x2 x3 D = some r) : mz_Met IX12_dearer [.inr (.inr (some (0, 200))), .inl x1, .inl x2, .inl x3] D (some (.inl r.1), r.2) := by
  refine mz_Met.of (by decide +kernel) (Nat.le_of_ble_eq_true rfl) ?_
  show mz_Go IX12_dearer (some (.inl r.1), r.2) 0 0 (0, [some (.inr (.inr (some (0, 200)))), some (.inl x1), some (.inl x2), some (.inl x3)], [], D)
  rw [fX12_dearer] at h
  refine mz_Go.run (gs := []) (st' := (2, [some (.inr (.inr (some (0, 200)))), some (.inl x1), some (.inl x2), some (.inl x3)], [.inl x1, .inr (.inr (some (0, 200)))], D)) bX12_dearer_0 oX12_dearer_0 rfl trivial ?_
  refine mz_Go.callV (I := IX12_dearer) (J := IX12_isPerson) (as := [.inl x1]) (ci := 12) (g := 0) (o := 200) (idx := 248) (pl := 1902) (rest := []) (mX12_isPerson x1 D _ rfl) kX12_isPerson vX12_isPerson (by decide +kernel) (by decide +kernel) (by decide +kernel) rfl rfl ⟨rfl, rfl⟩ rfl rfl rfl rfl ?_
  refine mz_Go.run (gs := []) (st' := (if (fX12_isPerson x1 D) = 0 then (42, [some (.inr (.inr (some (0, 200)))), some (.inl x1), some (.inl x2), some (.inl x3)], [], D) else (8, [some (.inr (.inr (some (0, 200)))), some (.inl x1), some (.inl x2), some (.inl x3)], [], D))) bX12_dearer_5 oX12_dearer_5 rfl trivial ?_
  refine mz_Go.ite (fun hc1 => ?_) (fun hc1 => ?_)
  · have h := mz_ifp hc1 h
    refine mz_Go.run (gs := []) (st' := (44, [some (.inr (.inr (some (0, 200)))), some (.inl x1), some (.inl x2), some (.inl x3)], [.inl (1 : Int32), .inr (.inr (some (0, 200)))], D)) bX12_dearer_42 oX12_dearer_42 rfl trivial ?_
    refine mz_Go.callV (I := IX12_dearer) (J := IX12_refuse) (as := [.inl (1 : Int32)]) (ci := 12) (g := 0) (o := 200) (idx := 75) (pl := 1761) (rest := []) (mX12_refuse (1 : Int32) D) kX12_refuse vX12_refuse (by decide +kernel) (by decide +kernel) (by decide +kernel) rfl rfl ⟨rfl, rfl⟩ rfl rfl rfl rfl ?_
    cases h
    exact mz_Go.reti (by decide +kernel) rfl ⟨Nat.le_refl _, Nat.le_refl _⟩ rfl
  · have h := mz_ifn hc1 h
    refine mz_Go.run (gs := []) (st' := (9, [some (.inr (.inr (some (0, 200)))), some (.inl x1), some (.inl x2), some (.inl x3)], [.inl x2], D)) bX12_dearer_8 oX12_dearer_8 rfl trivial ?_
    refine mz_Go.callS (I := IX12_dearer) (J := IX12_isSplit) (as := [.inl x2]) (idx := 294) (pl := 1933) (rest := []) (mX12_isSplit x2 D _ rfl) kX12_isSplit vX12_isSplit (by decide +kernel) (by decide +kernel) (by decide +kernel) rfl rfl ⟨rfl, rfl⟩ rfl ?_
    refine mz_Go.run (gs := []) (st' := (if (fX12_isSplit x2) = 0 then (42, [some (.inr (.inr (some (0, 200)))), some (.inl x1), some (.inl x2), some (.inl x3)], [], D) else (15, [some (.inr (.inr (some (0, 200)))), some (.inl x1), some (.inl x2), some (.inl x3)], [], D))) bX12_dearer_12 oX12_dearer_12 rfl trivial ?_
    refine mz_Go.ite (fun hc2 => ?_) (fun hc2 => ?_)
    · have h := mz_ifp hc2 h
      refine mz_Go.run (gs := []) (st' := (44, [some (.inr (.inr (some (0, 200)))), some (.inl x1), some (.inl x2), some (.inl x3)], [.inl (1 : Int32), .inr (.inr (some (0, 200)))], D)) bX12_dearer_42 oX12_dearer_42 rfl trivial ?_
      refine mz_Go.callV (I := IX12_dearer) (J := IX12_refuse) (as := [.inl (1 : Int32)]) (ci := 12) (g := 0) (o := 200) (idx := 75) (pl := 1761) (rest := []) (mX12_refuse (1 : Int32) D) kX12_refuse vX12_refuse (by decide +kernel) (by decide +kernel) (by decide +kernel) rfl rfl ⟨rfl, rfl⟩ rfl rfl rfl rfl ?_
      cases h
      exact mz_Go.reti (by decide +kernel) rfl ⟨Nat.le_refl _, Nat.le_refl _⟩ rfl
    · have h := mz_ifn hc2 h
      refine mz_Go.run (gs := []) (st' := (16, [some (.inr (.inr (some (0, 200)))), some (.inl x1), some (.inl x2), some (.inl x3)], [.inl x3], D)) bX12_dearer_15 oX12_dearer_15 rfl trivial ?_
      refine mz_Go.callS (I := IX12_dearer) (J := IX12_isSplit) (as := [.inl x3]) (idx := 294) (pl := 1933) (rest := []) (mX12_isSplit x3 D _ rfl) kX12_isSplit vX12_isSplit (by decide +kernel) (by decide +kernel) (by decide +kernel) rfl rfl ⟨rfl, rfl⟩ rfl ?_
      refine mz_Go.run (gs := []) (st' := (if (fX12_isSplit x3) = 0 then (42, [some (.inr (.inr (some (0, 200)))), some (.inl x1), some (.inl x2), some (.inl x3)], [], D) else (22, [some (.inr (.inr (some (0, 200)))), some (.inl x1), some (.inl x2), some (.inl x3)], [], D))) bX12_dearer_19 oX12_dearer_19 rfl trivial ?_
      refine mz_Go.ite (fun hc3 => ?_) (fun hc3 => ?_)
      · have h := mz_ifp hc3 h
        refine mz_Go.run (gs := []) (st' := (44, [some (.inr (.inr (some (0, 200)))), some (.inl x1), some (.inl x2), some (.inl x3)], [.inl (1 : Int32), .inr (.inr (some (0, 200)))], D)) bX12_dearer_42 oX12_dearer_42 rfl trivial ?_
        refine mz_Go.callV (I := IX12_dearer) (J := IX12_refuse) (as := [.inl (1 : Int32)]) (ci := 12) (g := 0) (o := 200) (idx := 75) (pl := 1761) (rest := []) (mX12_refuse (1 : Int32) D) kX12_refuse vX12_refuse (by decide +kernel) (by decide +kernel) (by decide +kernel) rfl rfl ⟨rfl, rfl⟩ rfl rfl rfl rfl ?_
        cases h
        exact mz_Go.reti (by decide +kernel) rfl ⟨Nat.le_refl _, Nat.le_refl _⟩ rfl
      · have h := mz_ifn hc3 h
        refine mz_Go.run (gs := []) (st' := (26, [some (.inr (.inr (some (0, 200)))), some (.inl x1), some (.inl x2), some (.inl x3)], [.inl x2, .inl x1, .inr (.inr (some (0, 200))), .inr (.inr (some (0, 200)))], D)) bX12_dearer_22 oX12_dearer_22 rfl trivial ?_
        obtain ⟨q4, hq4, h⟩ := mz_bd_some h
        refine mz_Go.callV (I := IX12_dearer) (J := IX12_dueBy) (as := [.inl x1, .inl x2]) (ci := 12) (g := 0) (o := 200) (idx := 282) (pl := 1936) (rest := [.inr (.inr (some (0, 200)))]) (mX12_dueBy x1 x2 D q4 hq4) kX12_dueBy vX12_dueBy (by decide +kernel) (by decide +kernel) (by decide +kernel) rfl rfl ⟨rfl, rfl⟩ rfl rfl rfl rfl ?_
        refine mz_Go.run (gs := []) (st' := (32, [some (.inr (.inr (some (0, 200)))), some (.inl x1), some (.inl x2), some (.inl x3)], [.inl x3, .inl x1, .inr (.inr (some (0, 200))), .inl q4, .inr (.inr (some (0, 200)))], D)) bX12_dearer_29 oX12_dearer_29 rfl trivial ?_
        obtain ⟨q5, hq5, h⟩ := mz_bd_some h
        refine mz_Go.callV (I := IX12_dearer) (J := IX12_dueBy) (as := [.inl x1, .inl x3]) (ci := 12) (g := 0) (o := 200) (idx := 282) (pl := 1936) (rest := [.inl q4, .inr (.inr (some (0, 200)))]) (mX12_dueBy x1 x3 D q5 hq5) kX12_dueBy vX12_dueBy (by decide +kernel) (by decide +kernel) (by decide +kernel) rfl rfl ⟨rfl, rfl⟩ rfl rfl rfl rfl ?_
        refine mz_Go.run (gs := []) (st' := (36, [some (.inr (.inr (some (0, 200)))), some (.inl x1), some (.inl x2), some (.inl x3)], [.inl (q4 - q5), .inr (.inr (some (0, 200)))], D)) bX12_dearer_35 oX12_dearer_35 rfl trivial ?_
        refine mz_Go.callV (I := IX12_dearer) (J := IX12_gives) (as := [.inl (q4 - q5)]) (ci := 12) (g := 0) (o := 200) (idx := 79) (pl := 1844) (rest := []) (mX12_gives (q4 - q5) D) kX12_gives vX12_gives (by decide +kernel) (by decide +kernel) (by decide +kernel) rfl rfl ⟨rfl, rfl⟩ rfl rfl rfl rfl ?_
        refine mz_Go.run (gs := []) (st' := (47, [some (.inr (.inr (some (0, 200)))), some (.inl x1), some (.inl x2), some (.inl x3)], [.inl (q4 - q5)], (mz_wi D 0 200 2 (0 : Int32)))) bX12_dearer_39 oX12_dearer_39 rfl trivial ?_
        cases h
        exact mz_Go.reti (by decide +kernel) rfl ⟨Nat.le_refl _, Nat.le_refl _⟩ rfl
def bX12_hardest_0 : List mz_E := [(0, .iload_n 1, 0, 0, 0, 0, 0)]
theorem oX12_hardest_0 : bX12_hardest_0.all (mz_ok RX12 cX12_hardest 4) = true := by decide +kernel
def bX12_hardest_4 : List mz_E := [(4, .ifCond .ne 9, 0, 13, 0, 0, 0)]
theorem oX12_hardest_4 : bX12_hardest_4.all (mz_ok RX12 cX12_hardest 4) = true := by decide +kernel
def bX12_hardest_7 : List mz_E := [(7, .aload_n 0, 0, 0, 0, 0, 0), (8, .iconst 1, 0, 0, 0, 1, 0)]
theorem oX12_hardest_7 : bX12_hardest_7.all (mz_ok RX12 cX12_hardest 4) = true := by decide +kernel
def bX12_hardest_13 : List mz_E := [(13, .iconst (-1), 0, 0, 0, -1, 0), (14, .istore_n 2, 0, 0, 0, 0, 0), (15, .iconst 0, 0, 0, 0, 0, 0), (16, .istore_n 3, 0, 0, 0, 0, 0)]
theorem oX12_hardest_13 : bX12_hardest_13.all (mz_ok RX12 cX12_hardest 4) = true := by decide +kernel
def bX12_hardest_17 : List mz_E := [(17, .iload_n 3, 0, 0, 0, 0, 0), (18, .aload_n 0, 0, 0, 0, 0, 0), (19, .getfield 7, 12, 0, 1576, 0, 0), (22, .iconst 0, 0, 0, 0, 0, 0), (23, .iaload, 0, 0, 0, 0, 0), (24, .if_icmp .ge 31, 0, 55, 0, 0, 0)]
theorem oX12_hardest_17 : bX12_hardest_17.all (mz_ok RX12 cX12_hardest 4) = true := by decide +kernel
def bX12_hardest_55 : List mz_E := [(55, .aload_n 0, 0, 0, 0, 0, 0), (56, .iload_n 2, 0, 0, 0, 0, 0)]
theorem oX12_hardest_55 : bX12_hardest_55.all (mz_ok RX12 cX12_hardest 4) = true := by decide +kernel
def bX12_hardest_27 : List mz_E := [(27, .iload_n 2, 0, 0, 0, 0, 0), (28, .iconst (-1), 0, 0, 0, -1, 0), (29, .if_icmp .eq 18, 0, 47, 0, 0, 0)]
theorem oX12_hardest_27 : bX12_hardest_27.all (mz_ok RX12 cX12_hardest 4) = true := by decide +kernel
def bX12_hardest_47 : List mz_E := [(47, .iload_n 3, 0, 0, 0, 0, 0), (48, .istore_n 2, 0, 0, 0, 0, 0), (49, .iinc 3 1, 0, 0, 0, 1, 0), (52, .goto (-35), 0, 17, 0, 0, 0)]
theorem oX12_hardest_47 : bX12_hardest_47.all (mz_ok RX12 cX12_hardest 4) = true := by decide +kernel
def bX12_hardest_32 : List mz_E := [(32, .aload_n 0, 0, 0, 0, 0, 0), (33, .iload_n 3, 0, 0, 0, 0, 0), (34, .iload_n 1, 0, 0, 0, 0, 0)]
theorem oX12_hardest_32 : bX12_hardest_32.all (mz_ok RX12 cX12_hardest 4) = true := by decide +kernel
def bX12_hardest_38 : List mz_E := [(38, .aload_n 0, 0, 0, 0, 0, 0), (39, .iload_n 2, 0, 0, 0, 0, 0), (40, .iload_n 1, 0, 0, 0, 0, 0)]
theorem oX12_hardest_38 : bX12_hardest_38.all (mz_ok RX12 cX12_hardest 4) = true := by decide +kernel
def bX12_hardest_44 : List mz_E := [(44, .if_icmp .le 5, 0, 49, 0, 0, 0)]
theorem oX12_hardest_44 : bX12_hardest_44.all (mz_ok RX12 cX12_hardest 4) = true := by decide +kernel
def bX12_hardest_49 : List mz_E := [(49, .iinc 3 1, 0, 0, 0, 1, 0), (52, .goto (-35), 0, 17, 0, 0, 0)]
theorem oX12_hardest_49 : bX12_hardest_49.all (mz_ok RX12 cX12_hardest 4) = true := by decide +kernel
abbrev IX12_hardest : mz_I := (yX12_hardest, cX12_hardest, 4, (some .int), 0, 4, 0, 0)
theorem kX12_hardest : mz_okm IX12_hardest 1968 141 1966 1 = true := by decide +kernel
theorem vX12_hardest : mz_okV IX12_hardest 1966 1967 = true := by decide +kernel
def fX12_hardest_47 (k17 : Int32 → Int32 → Int32 → mz_D → Option (Int32 × mz_D)) (x1 : Int32) (x3 : Int32) (D : mz_D) : Option (Int32 × mz_D) := (k17 x1 x3 (x3 + (1 : Int32)) D)
set_option maxHeartbeats 4000000 in
theorem tX12_hardest_47 (r : (Int32 × mz_D)) (k17 : Int32 → Int32 → Int32 → mz_D → Option (Int32 × mz_D)) (hk17 : ∀ (x1 : Int32) (x2 : Int32) (x3 : Int32) (D : mz_D), k17 x1 x2 x3 D = some r → mz_Go IX12_hardest (some (.inl r.1), r.2) 0 0 (17, [some (.inr (.inr (some (0, 200)))), some (.inl x1), some (.inl x2), some (.inl x3)], [], D)) : ∀ (x1 : Int32) (x3 : Int32) (D : mz_D), fX12_hardest_47 k17 x1 x3 D = some r → mz_Go IX12_hardest (some (.inl r.1), r.2) 0 0 (47, [some (.inr (.inr (some (0, 200)))), some (.inl x1), none, some (.inl x3)], [], D) := by
  intro x1 x3 D h
  rw [fX12_hardest_47] at h
  refine mz_Go.run (gs := []) (st' := (17, [some (.inr (.inr (some (0, 200)))), some (.inl x1), some (.inl x3), some (.inl (x3 + (1 : Int32)))], [], D)) bX12_hardest_47 oX12_hardest_47 rfl trivial ?_
  exact mz_Go.drop [true, true, true, true] (hk17 x1 x3 (x3 + (1 : Int32)) D h)
def fX12_hardest_17 : Nat → Int32 → Int32 → Int32 → mz_D → Option (Int32 × mz_D)
  | 0 => fun _ _ _ _ => none
  | n + 1 => fun x1 x2 x3 D => (if (D.1 0 201 ((0 : Int32)).toNatClampNeg) ≤ x3 then (Option.bind (fX12_orNone x2 D) fun q2 => (some (q2.1, q2.2))) else (if x2 = (-1 : Int32) then (fX12_hardest_47 (fX12_hardest_17 n) x1 x3 D) else (Option.bind (fX12_dueBy x3 x1 D) fun q4 => (Option.bind (fX12_dueBy x2 x1 D) fun q5 => (if q4 ≤ q5 then ((fX12_hardest_17 n) x1 x2 (x3 + (1 : Int32)) D) else (fX12_hardest_47 (fX12_hardest_17 n) x1 x3 D))))))
set_option maxHeartbeats 4000000 in
theorem tX12_hardest_17 (r : (Int32 × mz_D)) : ∀ (n : Nat) (x1 : Int32) (x2 : Int32) (x3 : Int32) (D : mz_D), fX12_hardest_17 n x1 x2 x3 D = some r → mz_Go IX12_hardest (some (.inl r.1), r.2) 0 0 (17, [some (.inr (.inr (some (0, 200)))), some (.inl x1), some (.inl x2), some (.inl x3)], [], D) := by
  intro n
  induction n with
  | zero => intro x1 x2 x3 D h; have h : (none : Option (Int32 × mz_D)) = some r := h; cases h
  | succ n ih =>
    intro x1 x2 x3 D h
    rw [fX12_hardest_17] at h
    refine mz_Go.run (gs := [mz_kz 0 0 200, mz_kz 0 0 201, mz_ix (0 : Int32) 3000]) (st' := (if (D.1 0 201 ((0 : Int32)).toNatClampNeg) ≤ x3 then (55, [some (.inr (.inr (some (0, 200)))), some (.inl x1), some (.inl x2), some (.inl x3)], [], D) else (27, [some (.inr (.inr (some (0, 200)))), some (.inl x1), some (.inl x2), some (.inl x3)], [], D))) bX12_hardest_17 oX12_hardest_17 rfl ⟨rfl, rfl, (by decide), trivial⟩ ?_
    refine mz_Go.ite (fun hc1 => ?_) (fun hc1 => ?_)
    · have h := mz_ifp hc1 h
      refine mz_Go.run (gs := []) (st' := (57, [some (.inr (.inr (some (0, 200)))), some (.inl x1), some (.inl x2), some (.inl x3)], [.inl x2, .inr (.inr (some (0, 200)))], D)) bX12_hardest_55 oX12_hardest_55 rfl trivial ?_
      obtain ⟨q2, hq2, h⟩ := mz_bd_some h
      refine mz_Go.callV (I := IX12_hardest) (J := IX12_orNone) (as := [.inl x2]) (ci := 12) (g := 0) (o := 200) (idx := 291) (pl := 1906) (rest := []) (mX12_orNone x2 D q2 hq2) kX12_orNone vX12_orNone (by decide +kernel) (by decide +kernel) (by decide +kernel) rfl rfl ⟨rfl, rfl⟩ rfl rfl rfl rfl ?_
      cases h
      exact mz_Go.reti (by decide +kernel) rfl ⟨Nat.le_refl _, Nat.le_refl _⟩ rfl
    · have h := mz_ifn hc1 h
      refine mz_Go.run (gs := []) (st' := (if x2 = (-1 : Int32) then (47, [some (.inr (.inr (some (0, 200)))), some (.inl x1), some (.inl x2), some (.inl x3)], [], D) else (32, [some (.inr (.inr (some (0, 200)))), some (.inl x1), some (.inl x2), some (.inl x3)], [], D))) bX12_hardest_27 oX12_hardest_27 rfl trivial ?_
      refine mz_Go.ite (fun hc3 => ?_) (fun hc3 => ?_)
      · have h := mz_ifp hc3 h
        exact mz_Go.drop [true, true, false, true] (tX12_hardest_47 r (fX12_hardest_17 n) ih x1 x3 D h)
      · have h := mz_ifn hc3 h
        refine mz_Go.run (gs := []) (st' := (35, [some (.inr (.inr (some (0, 200)))), some (.inl x1), some (.inl x2), some (.inl x3)], [.inl x1, .inl x3, .inr (.inr (some (0, 200)))], D)) bX12_hardest_32 oX12_hardest_32 rfl trivial ?_
        obtain ⟨q4, hq4, h⟩ := mz_bd_some h
        refine mz_Go.callV (I := IX12_hardest) (J := IX12_dueBy) (as := [.inl x3, .inl x1]) (ci := 12) (g := 0) (o := 200) (idx := 282) (pl := 1936) (rest := []) (mX12_dueBy x3 x1 D q4 hq4) kX12_dueBy vX12_dueBy (by decide +kernel) (by decide +kernel) (by decide +kernel) rfl rfl ⟨rfl, rfl⟩ rfl rfl rfl rfl ?_
        refine mz_Go.run (gs := []) (st' := (41, [some (.inr (.inr (some (0, 200)))), some (.inl x1), some (.inl x2), some (.inl x3)], [.inl x1, .inl x2, .inr (.inr (some (0, 200))), .inl q4], D)) bX12_hardest_38 oX12_hardest_38 rfl trivial ?_
        obtain ⟨q5, hq5, h⟩ := mz_bd_some h
        refine mz_Go.callV (I := IX12_hardest) (J := IX12_dueBy) (as := [.inl x2, .inl x1]) (ci := 12) (g := 0) (o := 200) (idx := 282) (pl := 1936) (rest := [.inl q4]) (mX12_dueBy x2 x1 D q5 hq5) kX12_dueBy vX12_dueBy (by decide +kernel) (by decide +kernel) (by decide +kernel) rfl rfl ⟨rfl, rfl⟩ rfl rfl rfl rfl ?_
        refine mz_Go.run (gs := []) (st' := (if q4 ≤ q5 then (49, [some (.inr (.inr (some (0, 200)))), some (.inl x1), some (.inl x2), some (.inl x3)], [], D) else (47, [some (.inr (.inr (some (0, 200)))), some (.inl x1), some (.inl x2), some (.inl x3)], [], D))) bX12_hardest_44 oX12_hardest_44 rfl trivial ?_
        refine mz_Go.ite (fun hc6 => ?_) (fun hc6 => ?_)
        · have h := mz_ifp hc6 h
          refine mz_Go.run (gs := []) (st' := (17, [some (.inr (.inr (some (0, 200)))), some (.inl x1), some (.inl x2), some (.inl (x3 + (1 : Int32)))], [], D)) bX12_hardest_49 oX12_hardest_49 rfl trivial ?_
          exact mz_Go.drop [true, true, true, true] (ih x1 x2 (x3 + (1 : Int32)) D h)
        · have h := mz_ifn hc6 h
          exact mz_Go.drop [true, true, false, true] (tX12_hardest_47 r (fX12_hardest_17 n) ih x1 x3 D h)
def fX12_hardest (x1 : Int32) (D : mz_D) : Option (Int32 × mz_D) := (if (fX12_isSplit x1) = 0 then (some ((-1 : Int32), (mz_wi D 0 200 2 (1 : Int32)))) else (fX12_hardest_17 mz_N x1 (-1 : Int32) (0 : Int32) D))
set_option maxHeartbeats 4000000 in
theorem mX12_hardest (x1 : Int32) (D : mz_D) (r : (Int32 × mz_D)) (h : fX12_hardest x1 D = some r) : mz_Met IX12_hardest [.inr (.inr (some (0, 200))), .inl x1] D (some (.inl r.1), r.2) := by
  refine mz_Met.of (by decide +kernel) (Nat.le_of_ble_eq_true rfl) ?_
  show mz_Go IX12_hardest (some (.inl r.1), r.2) 0 0 (0, [some (.inr (.inr (some (0, 200)))), some (.inl x1), none, none], [], D)
  rw [fX12_hardest] at h
  refine mz_Go.run (gs := []) (st' := (1, [some (.inr (.inr (some (0, 200)))), some (.inl x1), none, none], [.inl x1], D)) bX12_hardest_0 oX12_hardest_0 rfl trivial ?_
  refine mz_Go.callS (I := IX12_hardest) (J := IX12_isSplit) (as := [.inl x1]) (idx := 294) (pl := 1933) (rest := []) (mX12_isSplit x1 D _ rfl) kX12_isSplit vX12_isSplit (by decide +kernel) (by decide +kernel) (by decide +kernel) rfl rfl ⟨rfl, rfl⟩ rfl ?_
  refine mz_Go.run (gs := []) (st' := (if (fX12_isSplit x1) = 0 then (7, [some (.inr (.inr (some (0, 200)))), some (.inl x1), none, none], [], D) else (13, [some (.inr (.inr (some (0, 200)))), some (.inl x1), none, none], [], D))) bX12_hardest_4 oX12_hardest_4 rfl trivial ?_
  refine mz_Go.ite (fun hc1 => ?_) (fun hc1 => ?_)
  · have h := mz_ifp hc1 h
    refine mz_Go.run (gs := []) (st' := (9, [some (.inr (.inr (some (0, 200)))), some (.inl x1), none, none], [.inl (1 : Int32), .inr (.inr (some (0, 200)))], D)) bX12_hardest_7 oX12_hardest_7 rfl trivial ?_
    refine mz_Go.callV (I := IX12_hardest) (J := IX12_refuse) (as := [.inl (1 : Int32)]) (ci := 12) (g := 0) (o := 200) (idx := 75) (pl := 1761) (rest := []) (mX12_refuse (1 : Int32) D) kX12_refuse vX12_refuse (by decide +kernel) (by decide +kernel) (by decide +kernel) rfl rfl ⟨rfl, rfl⟩ rfl rfl rfl rfl ?_
    cases h
    exact mz_Go.reti (by decide +kernel) rfl ⟨Nat.le_refl _, Nat.le_refl _⟩ rfl
  · have h := mz_ifn hc1 h
    refine mz_Go.run (gs := []) (st' := (17, [some (.inr (.inr (some (0, 200)))), some (.inl x1), some (.inl (-1 : Int32)), some (.inl (0 : Int32))], [], D)) bX12_hardest_13 oX12_hardest_13 rfl trivial ?_
    exact mz_Go.drop [true, true, true, true] (tX12_hardest_17 r mz_N x1 (-1 : Int32) (0 : Int32) D h)
def bX12_order_0 : List mz_E := [(0, .iload_n 1, 0, 0, 0, 0, 0), (1, .i2l, 0, 0, 0, 0, 0), (2, .lconst 1, 0, 0, 0, 0, 1), (3, .ldc2_w 300, 0, 0, 1973, 0, 999)]
theorem oX12_order_0 : bX12_order_0.all (mz_ok RX12 cX12_order 4) = true := by decide +kernel
def bX12_order_9 : List mz_E := [(9, .ifCond .eq 16, 0, 25, 0, 0, 0)]
theorem oX12_order_9 : bX12_order_9.all (mz_ok RX12 cX12_order 4) = true := by decide +kernel
def bX12_order_25 : List mz_E := [(25, .aload_n 0, 0, 0, 0, 0, 0), (26, .iconst 1, 0, 0, 0, 1, 0)]
theorem oX12_order_25 : bX12_order_25.all (mz_ok RX12 cX12_order 4) = true := by decide +kernel
def bX12_order_12 : List mz_E := [(12, .iload_n 2, 0, 0, 0, 0, 0), (13, .iconst (-1), 0, 0, 0, -1, 0), (14, .if_icmp .eq 17, 0, 31, 0, 0, 0)]
theorem oX12_order_12 : bX12_order_12.all (mz_ok RX12 cX12_order 4) = true := by decide +kernel
def bX12_order_31 : List mz_E := [(31, .aload_n 0, 0, 0, 0, 0, 0), (32, .getfield 7, 12, 0, 1576, 0, 0), (35, .iconst 2, 0, 0, 0, 2, 0), (36, .iaload, 0, 0, 0, 0, 0), (37, .bipush 16, 0, 0, 0, 16, 0), (39, .if_icmp .ne 9, 0, 48, 0, 0, 0)]
theorem oX12_order_31 : bX12_order_31.all (mz_ok RX12 cX12_order 4) = true := by decide +kernel
def bX12_order_42 : List mz_E := [(42, .aload_n 0, 0, 0, 0, 0, 0), (43, .iconst 4, 0, 0, 0, 4, 0)]
theorem oX12_order_42 : bX12_order_42.all (mz_ok RX12 cX12_order 4) = true := by decide +kernel
def bX12_order_48 : List mz_E := [(48, .bipush 60, 0, 0, 0, 60, 0), (50, .iconst 2, 0, 0, 0, 2, 0), (51, .aload_n 0, 0, 0, 0, 0, 0), (52, .getfield 7, 12, 0, 1576, 0, 0), (55, .iconst 2, 0, 0, 0, 2, 0), (56, .iaload, 0, 0, 0, 0, 0), (57, .imul, 0, 0, 0, 0, 0), (58, .iadd, 0, 0, 0, 0, 0), (59, .istore_n 3, 0, 0, 0, 0, 0), (60, .aload_n 0, 0, 0, 0, 0, 0), (61, .getfield 7, 12, 0, 1576, 0, 0), (64, .iload_n 3, 0, 0, 0, 0, 0), (65, .iload_n 1, 0, 0, 0, 0, 0), (66, .iastore, 0, 0, 0, 0, 0), (67, .aload_n 0, 0, 0, 0, 0, 0), (68, .getfield 7, 12, 0, 1576, 0, 0), (71, .iload_n 3, 0, 0, 0, 0, 0), (72, .iconst 1, 0, 0, 0, 1, 0), (73, .iadd, 0, 0, 0, 0, 0), (74, .iload_n 2, 0, 0, 0, 0, 0), (75, .iastore, 0, 0, 0, 0, 0), (76, .aload_n 0, 0, 0, 0, 0, 0), (77, .getfield 7, 12, 0, 1576, 0, 0), (80, .iconst 2, 0, 0, 0, 2, 0), (81, .dup2, 0, 0, 0, 0, 0), (82, .iaload, 0, 0, 0, 0, 0), (83, .iconst 1, 0, 0, 0, 1, 0), (84, .iadd, 0, 0, 0, 0, 0), (85, .iastore, 0, 0, 0, 0, 0), (86, .aload_n 0, 0, 0, 0, 0, 0), (87, .aload_n 0, 0, 0, 0, 0, 0), (88, .getfield 7, 12, 0, 1576, 0, 0), (91, .iconst 2, 0, 0, 0, 2, 0), (92, .iaload, 0, 0, 0, 0, 0)]
theorem oX12_order_48 : bX12_order_48.all (mz_ok RX12 cX12_order 4) = true := by decide +kernel
def bX12_order_17 : List mz_E := [(17, .aload_n 0, 0, 0, 0, 0, 0), (18, .iload_n 2, 0, 0, 0, 0, 0)]
theorem oX12_order_17 : bX12_order_17.all (mz_ok RX12 cX12_order 4) = true := by decide +kernel
def bX12_order_22 : List mz_E := [(22, .ifCond .ne 9, 0, 31, 0, 0, 0)]
theorem oX12_order_22 : bX12_order_22.all (mz_ok RX12 cX12_order 4) = true := by decide +kernel
abbrev IX12_order : mz_I := (yX12_order, cX12_order, 4, (some .int), 0, 1, 0, 0)
theorem kX12_order : mz_okm IX12_order 1972 141 1970 2 = true := by decide +kernel
theorem vX12_order : mz_okV IX12_order 1970 1971 = true := by decide +kernel
def fX12_order_31 (x1 : Int32) (x2 : Int32) (D : mz_D) : Option (Int32 × mz_D) := (if (D.1 0 201 ((2 : Int32)).toNatClampNeg) = (16 : Int32) then (some ((-1 : Int32), (mz_wi D 0 200 2 (4 : Int32)))) else (mz_gd (mz_ix ((60 : Int32) + ((2 : Int32) * (D.1 0 201 ((2 : Int32)).toNatClampNeg))) 3000) (mz_gd (mz_ix (((60 : Int32) + ((2 : Int32) * (D.1 0 201 ((2 : Int32)).toNatClampNeg))) + (1 : Int32)) 3000) (some (((mz_wi (mz_wi (mz_wi D 0 201 (((60 : Int32) + ((2 : Int32) * (D.1 0 201 ((2 : Int32)).toNatClampNeg)))).toNatClampNeg x1) 0 201 ((((60 : Int32) + ((2 : Int32) * (D.1 0 201 ((2 : Int32)).toNatClampNeg))) + (1 : Int32))).toNatClampNeg x2) 0 201 ((2 : Int32)).toNatClampNeg (((mz_wi (mz_wi D 0 201 (((60 : Int32) + ((2 : Int32) * (D.1 0 201 ((2 : Int32)).toNatClampNeg)))).toNatClampNeg x1) 0 201 ((((60 : Int32) + ((2 : Int32) * (D.1 0 201 ((2 : Int32)).toNatClampNeg))) + (1 : Int32))).toNatClampNeg x2).1 0 201 ((2 : Int32)).toNatClampNeg) + (1 : Int32))).1 0 201 ((2 : Int32)).toNatClampNeg), (mz_wi (mz_wi (mz_wi (mz_wi D 0 201 (((60 : Int32) + ((2 : Int32) * (D.1 0 201 ((2 : Int32)).toNatClampNeg)))).toNatClampNeg x1) 0 201 ((((60 : Int32) + ((2 : Int32) * (D.1 0 201 ((2 : Int32)).toNatClampNeg))) + (1 : Int32))).toNatClampNeg x2) 0 201 ((2 : Int32)).toNatClampNeg (((mz_wi (mz_wi D 0 201 (((60 : Int32) + ((2 : Int32) * (D.1 0 201 ((2 : Int32)).toNatClampNeg)))).toNatClampNeg x1) 0 201 ((((60 : Int32) + ((2 : Int32) * (D.1 0 201 ((2 : Int32)).toNatClampNeg))) + (1 : Int32))).toNatClampNeg x2).1 0 201 ((2 : Int32)).toNatClampNeg) + (1 : Int32))) 0 200 2 (0 : Int32)))))))
set_option maxHeartbeats 4000000 in
theorem tX12_order_31 (r : (Int32 × mz_D)) : ∀ (x1 : Int32) (x2 : Int32) (D : mz_D), fX12_order_31 x1 x2 D = some r → mz_Go IX12_order (some (.inl r.1), r.2) 0 0 (31, [some (.inr (.inr (some (0, 200)))), some (.inl x1), some (.inl x2), none], [], D) := by
  intro x1 x2 D h
  rw [fX12_order_31] at h
  refine mz_Go.run (gs := [mz_kz 0 0 200, mz_kz 0 0 201, mz_ix (2 : Int32) 3000]) (st' := (if (D.1 0 201 ((2 : Int32)).toNatClampNeg) = (16 : Int32) then (42, [some (.inr (.inr (some (0, 200)))), some (.inl x1), some (.inl x2), none], [], D) else (48, [some (.inr (.inr (some (0, 200)))), some (.inl x1), some (.inl x2), none], [], D))) bX12_order_31 oX12_order_31 rfl ⟨rfl, rfl, (by decide), trivial⟩ ?_
  refine mz_Go.ite (fun hc1 => ?_) (fun hc1 => ?_)
  · have h := mz_ifp hc1 h
    refine mz_Go.run (gs := []) (st' := (44, [some (.inr (.inr (some (0, 200)))), some (.inl x1), some (.inl x2), none], [.inl (4 : Int32), .inr (.inr (some (0, 200)))], D)) bX12_order_42 oX12_order_42 rfl trivial ?_
    refine mz_Go.callV (I := IX12_order) (J := IX12_refuse) (as := [.inl (4 : Int32)]) (ci := 12) (g := 0) (o := 200) (idx := 75) (pl := 1761) (rest := []) (mX12_refuse (4 : Int32) D) kX12_refuse vX12_refuse (by decide +kernel) (by decide +kernel) (by decide +kernel) rfl rfl ⟨rfl, rfl⟩ rfl rfl rfl rfl ?_
    cases h
    exact mz_Go.reti (by decide +kernel) rfl ⟨Nat.le_refl _, Nat.le_refl _⟩ rfl
  · have h := mz_ifn hc1 h
    obtain ⟨hb2, h⟩ := mz_gd_some h
    obtain ⟨hb3, h⟩ := mz_gd_some h
    refine mz_Go.run (gs := [mz_kz 0 0 200, mz_kz 0 0 201, mz_ix (2 : Int32) 3000, mz_kz 0 0 200, mz_kz 0 0 201, mz_ix ((60 : Int32) + ((2 : Int32) * (D.1 0 201 ((2 : Int32)).toNatClampNeg))) 3000, mz_kz 0 0 200, mz_kz 0 0 201, mz_ix (((60 : Int32) + ((2 : Int32) * (D.1 0 201 ((2 : Int32)).toNatClampNeg))) + (1 : Int32)) 3000, mz_kz 0 0 200, mz_kz 0 0 201, mz_ix (2 : Int32) 3000, mz_kz 0 0 201, mz_ix (2 : Int32) 3000, mz_kz 0 0 200, mz_kz 0 0 201, mz_ix (2 : Int32) 3000]) (st' := (93, [some (.inr (.inr (some (0, 200)))), some (.inl x1), some (.inl x2), some (.inl ((60 : Int32) + ((2 : Int32) * (D.1 0 201 ((2 : Int32)).toNatClampNeg))))], [.inl ((mz_wi (mz_wi (mz_wi D 0 201 (((60 : Int32) + ((2 : Int32) * (D.1 0 201 ((2 : Int32)).toNatClampNeg)))).toNatClampNeg x1) 0 201 ((((60 : Int32) + ((2 : Int32) * (D.1 0 201 ((2 : Int32)).toNatClampNeg))) + (1 : Int32))).toNatClampNeg x2) 0 201 ((2 : Int32)).toNatClampNeg (((mz_wi (mz_wi D 0 201 (((60 : Int32) + ((2 : Int32) * (D.1 0 201 ((2 : Int32)).toNatClampNeg)))).toNatClampNeg x1) 0 201 ((((60 : Int32) + ((2 : Int32) * (D.1 0 201 ((2 : Int32)).toNatClampNeg))) + (1 : Int32))).toNatClampNeg x2).1 0 201 ((2 : Int32)).toNatClampNeg) + (1 : Int32))).1 0 201 ((2 : Int32)).toNatClampNeg), .inr (.inr (some (0, 200)))], (mz_wi (mz_wi (mz_wi D 0 201 (((60 : Int32) + ((2 : Int32) * (D.1 0 201 ((2 : Int32)).toNatClampNeg)))).toNatClampNeg x1) 0 201 ((((60 : Int32) + ((2 : Int32) * (D.1 0 201 ((2 : Int32)).toNatClampNeg))) + (1 : Int32))).toNatClampNeg x2) 0 201 ((2 : Int32)).toNatClampNeg (((mz_wi (mz_wi D 0 201 (((60 : Int32) + ((2 : Int32) * (D.1 0 201 ((2 : Int32)).toNatClampNeg)))).toNatClampNeg x1) 0 201 ((((60 : Int32) + ((2 : Int32) * (D.1 0 201 ((2 : Int32)).toNatClampNeg))) + (1 : Int32))).toNatClampNeg x2).1 0 201 ((2 : Int32)).toNatClampNeg) + (1 : Int32))))) bX12_order_48 oX12_order_48 rfl ⟨rfl, rfl, (by decide), rfl, rfl, hb2, rfl, rfl, hb3, rfl, rfl, (by decide), rfl, (by decide), rfl, rfl, (by decide), trivial⟩ ?_
    refine mz_Go.callV (I := IX12_order) (J := IX12_gives) (as := [.inl ((mz_wi (mz_wi (mz_wi D 0 201 (((60 : Int32) + ((2 : Int32) * (D.1 0 201 ((2 : Int32)).toNatClampNeg)))).toNatClampNeg x1) 0 201 ((((60 : Int32) + ((2 : Int32) * (D.1 0 201 ((2 : Int32)).toNatClampNeg))) + (1 : Int32))).toNatClampNeg x2) 0 201 ((2 : Int32)).toNatClampNeg (((mz_wi (mz_wi D 0 201 (((60 : Int32) + ((2 : Int32) * (D.1 0 201 ((2 : Int32)).toNatClampNeg)))).toNatClampNeg x1) 0 201 ((((60 : Int32) + ((2 : Int32) * (D.1 0 201 ((2 : Int32)).toNatClampNeg))) + (1 : Int32))).toNatClampNeg x2).1 0 201 ((2 : Int32)).toNatClampNeg) + (1 : Int32))).1 0 201 ((2 : Int32)).toNatClampNeg)]) (ci := 12) (g := 0) (o := 200) (idx := 79) (pl := 1844) (rest := []) (mX12_gives ((mz_wi (mz_wi (mz_wi D 0 201 (((60 : Int32) + ((2 : Int32) * (D.1 0 201 ((2 : Int32)).toNatClampNeg)))).toNatClampNeg x1) 0 201 ((((60 : Int32) + ((2 : Int32) * (D.1 0 201 ((2 : Int32)).toNatClampNeg))) + (1 : Int32))).toNatClampNeg x2) 0 201 ((2 : Int32)).toNatClampNeg (((mz_wi (mz_wi D 0 201 (((60 : Int32) + ((2 : Int32) * (D.1 0 201 ((2 : Int32)).toNatClampNeg)))).toNatClampNeg x1) 0 201 ((((60 : Int32) + ((2 : Int32) * (D.1 0 201 ((2 : Int32)).toNatClampNeg))) + (1 : Int32))).toNatClampNeg x2).1 0 201 ((2 : Int32)).toNatClampNeg) + (1 : Int32))).1 0 201 ((2 : Int32)).toNatClampNeg) (mz_wi (mz_wi (mz_wi D 0 201 (((60 : Int32) + ((2 : Int32) * (D.1 0 201 ((2 : Int32)).toNatClampNeg)))).toNatClampNeg x1) 0 201 ((((60 : Int32) + ((2 : Int32) * (D.1 0 201 ((2 : Int32)).toNatClampNeg))) + (1 : Int32))).toNatClampNeg x2) 0 201 ((2 : Int32)).toNatClampNeg (((mz_wi (mz_wi D 0 201 (((60 : Int32) + ((2 : Int32) * (D.1 0 201 ((2 : Int32)).toNatClampNeg)))).toNatClampNeg x1) 0 201 ((((60 : Int32) + ((2 : Int32) * (D.1 0 201 ((2 : Int32)).toNatClampNeg))) + (1 : Int32))).toNatClampNeg x2).1 0 201 ((2 : Int32)).toNatClampNeg) + (1 : Int32)))) kX12_gives vX12_gives (by decide +kernel) (by decide +kernel) (by decide +kernel) rfl rfl ⟨rfl, rfl⟩ rfl rfl rfl rfl ?_
    cases h
    exact mz_Go.reti (by decide +kernel) rfl ⟨Nat.le_refl _, Nat.le_refl _⟩ rfl
def fX12_order (x1 : Int32) (x2 : Int32) (D : mz_D) : Option (Int32 × mz_D) := (if (fX12_isFrom (x1).toInt64 (1 : Int64) (999 : Int64)) = 0 then (some ((-1 : Int32), (mz_wi D 0 200 2 (1 : Int32)))) else (if x2 = (-1 : Int32) then (fX12_order_31 x1 x2 D) else (if (fX12_isPerson x2 D) = 0 then (some ((-1 : Int32), (mz_wi D 0 200 2 (1 : Int32)))) else (fX12_order_31 x1 x2 D))))
set_option maxHeartbeats 4000000 in
theorem mX12_order (x1 : Int32) (x2 : Int32) (D : mz_D) (r : (Int32 × mz_D)) (h : fX12_order x1 x2 D = some r) : mz_Met IX12_order [.inr (.inr (some (0, 200))), .inl x1, .inl x2] D (some (.inl r.1), r.2) := by
  refine mz_Met.of (by decide +kernel) (Nat.le_of_ble_eq_true rfl) ?_
  show mz_Go IX12_order (some (.inl r.1), r.2) 0 0 (0, [some (.inr (.inr (some (0, 200)))), some (.inl x1), some (.inl x2), none], [], D)
  rw [fX12_order] at h
  refine mz_Go.run (gs := []) (st' := (6, [some (.inr (.inr (some (0, 200)))), some (.inl x1), some (.inl x2), none], [.inr (.inl (999 : Int64)), .inr (.inl (1 : Int64)), .inr (.inl (x1).toInt64)], D)) bX12_order_0 oX12_order_0 rfl trivial ?_
  refine mz_Go.callS (I := IX12_order) (J := IX12_isFrom) (as := [.inr (.inl (x1).toInt64), .inr (.inl (1 : Int64)), .inr (.inl (999 : Int64))]) (idx := 302) (pl := 1974) (rest := []) (mX12_isFrom (x1).toInt64 (1 : Int64) (999 : Int64) D _ rfl) kX12_isFrom vX12_isFrom (by decide +kernel) (by decide +kernel) (by decide +kernel) rfl rfl ⟨rfl, rfl⟩ rfl ?_
  refine mz_Go.run (gs := []) (st' := (if (fX12_isFrom (x1).toInt64 (1 : Int64) (999 : Int64)) = 0 then (25, [some (.inr (.inr (some (0, 200)))), some (.inl x1), some (.inl x2), none], [], D) else (12, [some (.inr (.inr (some (0, 200)))), some (.inl x1), some (.inl x2), none], [], D))) bX12_order_9 oX12_order_9 rfl trivial ?_
  refine mz_Go.ite (fun hc1 => ?_) (fun hc1 => ?_)
  · have h := mz_ifp hc1 h
    refine mz_Go.run (gs := []) (st' := (27, [some (.inr (.inr (some (0, 200)))), some (.inl x1), some (.inl x2), none], [.inl (1 : Int32), .inr (.inr (some (0, 200)))], D)) bX12_order_25 oX12_order_25 rfl trivial ?_
    refine mz_Go.callV (I := IX12_order) (J := IX12_refuse) (as := [.inl (1 : Int32)]) (ci := 12) (g := 0) (o := 200) (idx := 75) (pl := 1761) (rest := []) (mX12_refuse (1 : Int32) D) kX12_refuse vX12_refuse (by decide +kernel) (by decide +kernel) (by decide +kernel) rfl rfl ⟨rfl, rfl⟩ rfl rfl rfl rfl ?_
    cases h
    exact mz_Go.reti (by decide +kernel) rfl ⟨Nat.le_refl _, Nat.le_refl _⟩ rfl
  · have h := mz_ifn hc1 h
    refine mz_Go.run (gs := []) (st' := (if x2 = (-1 : Int32) then (31, [some (.inr (.inr (some (0, 200)))), some (.inl x1), some (.inl x2), none], [], D) else (17, [some (.inr (.inr (some (0, 200)))), some (.inl x1), some (.inl x2), none], [], D))) bX12_order_12 oX12_order_12 rfl trivial ?_
    refine mz_Go.ite (fun hc2 => ?_) (fun hc2 => ?_)
    · have h := mz_ifp hc2 h
      exact mz_Go.drop [true, true, true, false] (tX12_order_31 r x1 x2 D h)
    · have h := mz_ifn hc2 h
      refine mz_Go.run (gs := []) (st' := (19, [some (.inr (.inr (some (0, 200)))), some (.inl x1), some (.inl x2), none], [.inl x2, .inr (.inr (some (0, 200)))], D)) bX12_order_17 oX12_order_17 rfl trivial ?_
      refine mz_Go.callV (I := IX12_order) (J := IX12_isPerson) (as := [.inl x2]) (ci := 12) (g := 0) (o := 200) (idx := 248) (pl := 1902) (rest := []) (mX12_isPerson x2 D _ rfl) kX12_isPerson vX12_isPerson (by decide +kernel) (by decide +kernel) (by decide +kernel) rfl rfl ⟨rfl, rfl⟩ rfl rfl rfl rfl ?_
      refine mz_Go.run (gs := []) (st' := (if (fX12_isPerson x2 D) = 0 then (25, [some (.inr (.inr (some (0, 200)))), some (.inl x1), some (.inl x2), none], [], D) else (31, [some (.inr (.inr (some (0, 200)))), some (.inl x1), some (.inl x2), none], [], D))) bX12_order_22 oX12_order_22 rfl trivial ?_
      refine mz_Go.ite (fun hc3 => ?_) (fun hc3 => ?_)
      · have h := mz_ifp hc3 h
        refine mz_Go.run (gs := []) (st' := (27, [some (.inr (.inr (some (0, 200)))), some (.inl x1), some (.inl x2), none], [.inl (1 : Int32), .inr (.inr (some (0, 200)))], D)) bX12_order_25 oX12_order_25 rfl trivial ?_
        refine mz_Go.callV (I := IX12_order) (J := IX12_refuse) (as := [.inl (1 : Int32)]) (ci := 12) (g := 0) (o := 200) (idx := 75) (pl := 1761) (rest := []) (mX12_refuse (1 : Int32) D) kX12_refuse vX12_refuse (by decide +kernel) (by decide +kernel) (by decide +kernel) rfl rfl ⟨rfl, rfl⟩ rfl rfl rfl rfl ?_
        cases h
        exact mz_Go.reti (by decide +kernel) rfl ⟨Nat.le_refl _, Nat.le_refl _⟩ rfl
      · have h := mz_ifn hc3 h
        exact mz_Go.drop [true, true, true, false] (tX12_order_31 r x1 x2 D h)
def bX12_strike_0 : List mz_E := [(0, .aload_n 0, 0, 0, 0, 0, 0), (1, .getfield 7, 12, 0, 1576, 0, 0), (4, .iconst 2, 0, 0, 0, 2, 0), (5, .iaload, 0, 0, 0, 0, 0), (6, .ifCond .ne 10, 0, 16, 0, 0, 0)]
theorem oX12_strike_0 : bX12_strike_0.all (mz_ok RX12 cX12_strike 1) = true := by decide +kernel
def bX12_strike_9 : List mz_E := [(9, .aload_n 0, 0, 0, 0, 0, 0), (10, .bipush 6, 0, 0, 0, 6, 0)]
theorem oX12_strike_9 : bX12_strike_9.all (mz_ok RX12 cX12_strike 1) = true := by decide +kernel
def bX12_strike_16 : List mz_E := [(16, .aload_n 0, 0, 0, 0, 0, 0), (17, .getfield 7, 12, 0, 1576, 0, 0), (20, .iconst 2, 0, 0, 0, 2, 0), (21, .dup2, 0, 0, 0, 0, 0), (22, .iaload, 0, 0, 0, 0, 0), (23, .iconst 1, 0, 0, 0, 1, 0), (24, .isub, 0, 0, 0, 0, 0), (25, .iastore, 0, 0, 0, 0, 0), (26, .aload_n 0, 0, 0, 0, 0, 0), (27, .aload_n 0, 0, 0, 0, 0, 0), (28, .getfield 7, 12, 0, 1576, 0, 0), (31, .bipush 60, 0, 0, 0, 60, 0), (33, .iconst 2, 0, 0, 0, 2, 0), (34, .aload_n 0, 0, 0, 0, 0, 0), (35, .getfield 7, 12, 0, 1576, 0, 0), (38, .iconst 2, 0, 0, 0, 2, 0), (39, .iaload, 0, 0, 0, 0, 0), (40, .imul, 0, 0, 0, 0, 0), (41, .iadd, 0, 0, 0, 0, 0), (42, .iaload, 0, 0, 0, 0, 0)]
theorem oX12_strike_16 : bX12_strike_16.all (mz_ok RX12 cX12_strike 1) = true := by decide +kernel
abbrev IX12_strike : mz_I := (yX12_strike, cX12_strike, 1, (some .int), 0, 1, 0, 0)
theorem kX12_strike : mz_okm IX12_strike 1980 141 1978 0 = true := by decide +kernel
theorem vX12_strike : mz_okV IX12_strike 1978 1979 = true := by decide +kernel
def fX12_strike (D : mz_D) : Option (Int32 × mz_D) := (if (D.1 0 201 ((2 : Int32)).toNatClampNeg) = 0 then (some ((-1 : Int32), (mz_wi D 0 200 2 (6 : Int32)))) else (mz_gd (mz_ix ((60 : Int32) + ((2 : Int32) * ((mz_wi D 0 201 ((2 : Int32)).toNatClampNeg ((D.1 0 201 ((2 : Int32)).toNatClampNeg) - (1 : Int32))).1 0 201 ((2 : Int32)).toNatClampNeg))) 3000) (some (((mz_wi D 0 201 ((2 : Int32)).toNatClampNeg ((D.1 0 201 ((2 : Int32)).toNatClampNeg) - (1 : Int32))).1 0 201 (((60 : Int32) + ((2 : Int32) * ((mz_wi D 0 201 ((2 : Int32)).toNatClampNeg ((D.1 0 201 ((2 : Int32)).toNatClampNeg) - (1 : Int32))).1 0 201 ((2 : Int32)).toNatClampNeg)))).toNatClampNeg), (mz_wi (mz_wi D 0 201 ((2 : Int32)).toNatClampNeg ((D.1 0 201 ((2 : Int32)).toNatClampNeg) - (1 : Int32))) 0 200 2 (0 : Int32))))))
set_option maxHeartbeats 4000000 in
theorem mX12_strike (D : mz_D) (r : (Int32 × mz_D)) (h : fX12_strike D = some r) : mz_Met IX12_strike [.inr (.inr (some (0, 200)))] D (some (.inl r.1), r.2) := by
  refine mz_Met.of (by decide +kernel) (Nat.le_of_ble_eq_true rfl) ?_
  show mz_Go IX12_strike (some (.inl r.1), r.2) 0 0 (0, [some (.inr (.inr (some (0, 200))))], [], D)
  rw [fX12_strike] at h
  refine mz_Go.run (gs := [mz_kz 0 0 200, mz_kz 0 0 201, mz_ix (2 : Int32) 3000]) (st' := (if (D.1 0 201 ((2 : Int32)).toNatClampNeg) = 0 then (9, [some (.inr (.inr (some (0, 200))))], [], D) else (16, [some (.inr (.inr (some (0, 200))))], [], D))) bX12_strike_0 oX12_strike_0 rfl ⟨rfl, rfl, (by decide), trivial⟩ ?_
  refine mz_Go.ite (fun hc1 => ?_) (fun hc1 => ?_)
  · have h := mz_ifp hc1 h
    refine mz_Go.run (gs := []) (st' := (12, [some (.inr (.inr (some (0, 200))))], [.inl (6 : Int32), .inr (.inr (some (0, 200)))], D)) bX12_strike_9 oX12_strike_9 rfl trivial ?_
    refine mz_Go.callV (I := IX12_strike) (J := IX12_refuse) (as := [.inl (6 : Int32)]) (ci := 12) (g := 0) (o := 200) (idx := 75) (pl := 1761) (rest := []) (mX12_refuse (6 : Int32) D) kX12_refuse vX12_refuse (by decide +kernel) (by decide +kernel) (by decide +kernel) rfl rfl ⟨rfl, rfl⟩ rfl rfl rfl rfl ?_
    cases h
    exact mz_Go.reti (by decide +kernel) rfl ⟨Nat.le_refl _, Nat.le_refl _⟩ rfl
  · have h := mz_ifn hc1 h
    obtain ⟨hb2, h⟩ := mz_gd_some h
    refine mz_Go.run (gs := [mz_kz 0 0 200, mz_kz 0 0 201, mz_ix (2 : Int32) 3000, mz_kz 0 0 201, mz_ix (2 : Int32) 3000, mz_kz 0 0 200, mz_kz 0 0 200, mz_kz 0 0 201, mz_ix (2 : Int32) 3000, mz_kz 0 0 201, mz_ix ((60 : Int32) + ((2 : Int32) * ((mz_wi D 0 201 ((2 : Int32)).toNatClampNeg ((D.1 0 201 ((2 : Int32)).toNatClampNeg) - (1 : Int32))).1 0 201 ((2 : Int32)).toNatClampNeg))) 3000]) (st' := (43, [some (.inr (.inr (some (0, 200))))], [.inl ((mz_wi D 0 201 ((2 : Int32)).toNatClampNeg ((D.1 0 201 ((2 : Int32)).toNatClampNeg) - (1 : Int32))).1 0 201 (((60 : Int32) + ((2 : Int32) * ((mz_wi D 0 201 ((2 : Int32)).toNatClampNeg ((D.1 0 201 ((2 : Int32)).toNatClampNeg) - (1 : Int32))).1 0 201 ((2 : Int32)).toNatClampNeg)))).toNatClampNeg), .inr (.inr (some (0, 200)))], (mz_wi D 0 201 ((2 : Int32)).toNatClampNeg ((D.1 0 201 ((2 : Int32)).toNatClampNeg) - (1 : Int32))))) bX12_strike_16 oX12_strike_16 rfl ⟨rfl, rfl, (by decide), rfl, (by decide), rfl, rfl, rfl, (by decide), rfl, hb2, trivial⟩ ?_
    refine mz_Go.callV (I := IX12_strike) (J := IX12_gives) (as := [.inl ((mz_wi D 0 201 ((2 : Int32)).toNatClampNeg ((D.1 0 201 ((2 : Int32)).toNatClampNeg) - (1 : Int32))).1 0 201 (((60 : Int32) + ((2 : Int32) * ((mz_wi D 0 201 ((2 : Int32)).toNatClampNeg ((D.1 0 201 ((2 : Int32)).toNatClampNeg) - (1 : Int32))).1 0 201 ((2 : Int32)).toNatClampNeg)))).toNatClampNeg)]) (ci := 12) (g := 0) (o := 200) (idx := 79) (pl := 1844) (rest := []) (mX12_gives ((mz_wi D 0 201 ((2 : Int32)).toNatClampNeg ((D.1 0 201 ((2 : Int32)).toNatClampNeg) - (1 : Int32))).1 0 201 (((60 : Int32) + ((2 : Int32) * ((mz_wi D 0 201 ((2 : Int32)).toNatClampNeg ((D.1 0 201 ((2 : Int32)).toNatClampNeg) - (1 : Int32))).1 0 201 ((2 : Int32)).toNatClampNeg)))).toNatClampNeg) (mz_wi D 0 201 ((2 : Int32)).toNatClampNeg ((D.1 0 201 ((2 : Int32)).toNatClampNeg) - (1 : Int32)))) kX12_gives vX12_gives (by decide +kernel) (by decide +kernel) (by decide +kernel) rfl rfl ⟨rfl, rfl⟩ rfl rfl rfl rfl ?_
    cases h
    exact mz_Go.reti (by decide +kernel) rfl ⟨Nat.le_refl _, Nat.le_refl _⟩ rfl
def bX12_split_0 : List mz_E := [(0, .iload_n 1, 0, 0, 0, 0, 0)]
theorem oX12_split_0 : bX12_split_0.all (mz_ok RX12 cX12_split 2) = true := by decide +kernel
def bX12_split_4 : List mz_E := [(4, .ifCond .ne 9, 0, 13, 0, 0, 0)]
theorem oX12_split_4 : bX12_split_4.all (mz_ok RX12 cX12_split 2) = true := by decide +kernel
def bX12_split_7 : List mz_E := [(7, .aload_n 0, 0, 0, 0, 0, 0), (8, .iconst 1, 0, 0, 0, 1, 0)]
theorem oX12_split_7 : bX12_split_7.all (mz_ok RX12 cX12_split 2) = true := by decide +kernel
def bX12_split_13 : List mz_E := [(13, .aload_n 0, 0, 0, 0, 0, 0), (14, .getfield 7, 12, 0, 1576, 0, 0), (17, .iconst 3, 0, 0, 0, 3, 0), (18, .iload_n 1, 0, 0, 0, 0, 0), (19, .iastore, 0, 0, 0, 0, 0), (20, .aload_n 0, 0, 0, 0, 0, 0), (21, .iconst 0, 0, 0, 0, 0, 0)]
theorem oX12_split_13 : bX12_split_13.all (mz_ok RX12 cX12_split 2) = true := by decide +kernel
abbrev IX12_split : mz_I := (yX12_split, cX12_split, 2, (some .boolean), 0, 1, 0, 0)
theorem kX12_split : mz_okm IX12_split 1984 141 1982 1 = true := by decide +kernel
theorem vX12_split : mz_okV IX12_split 1982 1983 = true := by decide +kernel
def fX12_split (x1 : Int32) (D : mz_D) : Option (Int32 × mz_D) := (if (fX12_isSplit x1) = 0 then (Option.bind (fX12_is (1 : Int32) D) fun q2 => (mz_gd (mz_bo q2.1) (some (q2.1, q2.2)))) else (Option.bind (fX12_is (0 : Int32) (mz_wi D 0 201 ((3 : Int32)).toNatClampNeg x1)) fun q4 => (mz_gd (mz_bo q4.1) (some (q4.1, q4.2)))))
set_option maxHeartbeats 4000000 in
theorem mX12_split (x1 : Int32) (D : mz_D) (r : (Int32 × mz_D)) (h : fX12_split x1 D = some r) : mz_Met IX12_split [.inr (.inr (some (0, 200))), .inl x1] D (some (.inl r.1), r.2) := by
  refine mz_Met.of (by decide +kernel) (Nat.le_of_ble_eq_true rfl) ?_
  show mz_Go IX12_split (some (.inl r.1), r.2) 0 0 (0, [some (.inr (.inr (some (0, 200)))), some (.inl x1)], [], D)
  rw [fX12_split] at h
  refine mz_Go.run (gs := []) (st' := (1, [some (.inr (.inr (some (0, 200)))), some (.inl x1)], [.inl x1], D)) bX12_split_0 oX12_split_0 rfl trivial ?_
  refine mz_Go.callS (I := IX12_split) (J := IX12_isSplit) (as := [.inl x1]) (idx := 294) (pl := 1933) (rest := []) (mX12_isSplit x1 D _ rfl) kX12_isSplit vX12_isSplit (by decide +kernel) (by decide +kernel) (by decide +kernel) rfl rfl ⟨rfl, rfl⟩ rfl ?_
  refine mz_Go.run (gs := []) (st' := (if (fX12_isSplit x1) = 0 then (7, [some (.inr (.inr (some (0, 200)))), some (.inl x1)], [], D) else (13, [some (.inr (.inr (some (0, 200)))), some (.inl x1)], [], D))) bX12_split_4 oX12_split_4 rfl trivial ?_
  refine mz_Go.ite (fun hc1 => ?_) (fun hc1 => ?_)
  · have h := mz_ifp hc1 h
    refine mz_Go.run (gs := []) (st' := (9, [some (.inr (.inr (some (0, 200)))), some (.inl x1)], [.inl (1 : Int32), .inr (.inr (some (0, 200)))], D)) bX12_split_7 oX12_split_7 rfl trivial ?_
    obtain ⟨q2, hq2, h⟩ := mz_bd_some h
    refine mz_Go.callV (I := IX12_split) (J := IX12_is) (as := [.inl (1 : Int32)]) (ci := 12) (g := 0) (o := 200) (idx := 82) (pl := 1701) (rest := []) (mX12_is (1 : Int32) D q2 hq2) kX12_is vX12_is (by decide +kernel) (by decide +kernel) (by decide +kernel) rfl rfl ⟨rfl, rfl⟩ rfl rfl rfl rfl ?_
    obtain ⟨hb3, h⟩ := mz_gd_some h
    cases h
    exact mz_Go.retz (by decide +kernel) rfl ⟨Nat.le_refl _, Nat.le_refl _⟩ hb3 rfl
  · have h := mz_ifn hc1 h
    refine mz_Go.run (gs := [mz_kz 0 0 200, mz_kz 0 0 201, mz_ix (3 : Int32) 3000]) (st' := (22, [some (.inr (.inr (some (0, 200)))), some (.inl x1)], [.inl (0 : Int32), .inr (.inr (some (0, 200)))], (mz_wi D 0 201 ((3 : Int32)).toNatClampNeg x1))) bX12_split_13 oX12_split_13 rfl ⟨rfl, rfl, (by decide), trivial⟩ ?_
    obtain ⟨q4, hq4, h⟩ := mz_bd_some h
    refine mz_Go.callV (I := IX12_split) (J := IX12_is) (as := [.inl (0 : Int32)]) (ci := 12) (g := 0) (o := 200) (idx := 82) (pl := 1701) (rest := []) (mX12_is (0 : Int32) (mz_wi D 0 201 ((3 : Int32)).toNatClampNeg x1) q4 hq4) kX12_is vX12_is (by decide +kernel) (by decide +kernel) (by decide +kernel) rfl rfl ⟨rfl, rfl⟩ rfl rfl rfl rfl ?_
    obtain ⟨hb5, h⟩ := mz_gd_some h
    cases h
    exact mz_Go.retz (by decide +kernel) rfl ⟨Nat.le_refl _, Nat.le_refl _⟩ hb5 rfl
def bX12_law_0 : List mz_E := [(0, .iload_n 1, 0, 0, 0, 0, 0), (1, .i2l, 0, 0, 0, 0, 0), (2, .lconst 0, 0, 0, 0, 0, 0), (3, .ldc2_w 306, 0, 0, 1989, 0, 3)]
theorem oX12_law_0 : bX12_law_0.all (mz_ok RX12 cX12_law 2) = true := by decide +kernel
def bX12_law_9 : List mz_E := [(9, .ifCond .ne 9, 0, 18, 0, 0, 0)]
theorem oX12_law_9 : bX12_law_9.all (mz_ok RX12 cX12_law 2) = true := by decide +kernel
def bX12_law_12 : List mz_E := [(12, .aload_n 0, 0, 0, 0, 0, 0), (13, .iconst 1, 0, 0, 0, 1, 0)]
theorem oX12_law_12 : bX12_law_12.all (mz_ok RX12 cX12_law 2) = true := by decide +kernel
def bX12_law_18 : List mz_E := [(18, .aload_n 0, 0, 0, 0, 0, 0), (19, .getfield 7, 12, 0, 1576, 0, 0), (22, .iconst 4, 0, 0, 0, 4, 0), (23, .iload_n 1, 0, 0, 0, 0, 0), (24, .iastore, 0, 0, 0, 0, 0), (25, .aload_n 0, 0, 0, 0, 0, 0), (26, .iconst 0, 0, 0, 0, 0, 0)]
theorem oX12_law_18 : bX12_law_18.all (mz_ok RX12 cX12_law 2) = true := by decide +kernel
abbrev IX12_law : mz_I := (yX12_law, cX12_law, 2, (some .boolean), 0, 1, 0, 0)
theorem kX12_law : mz_okm IX12_law 1988 141 1986 1 = true := by decide +kernel
theorem vX12_law : mz_okV IX12_law 1986 1987 = true := by decide +kernel
def fX12_law (x1 : Int32) (D : mz_D) : Option (Int32 × mz_D) := (if (fX12_isFrom (x1).toInt64 (0 : Int64) (3 : Int64)) = 0 then (Option.bind (fX12_is (1 : Int32) D) fun q2 => (mz_gd (mz_bo q2.1) (some (q2.1, q2.2)))) else (Option.bind (fX12_is (0 : Int32) (mz_wi D 0 201 ((4 : Int32)).toNatClampNeg x1)) fun q4 => (mz_gd (mz_bo q4.1) (some (q4.1, q4.2)))))
set_option maxHeartbeats 4000000 in
theorem mX12_law (x1 : Int32) (D : mz_D) (r : (Int32 × mz_D)) (h : fX12_law x1 D = some r) : mz_Met IX12_law [.inr (.inr (some (0, 200))), .inl x1] D (some (.inl r.1), r.2) := by
  refine mz_Met.of (by decide +kernel) (Nat.le_of_ble_eq_true rfl) ?_
  show mz_Go IX12_law (some (.inl r.1), r.2) 0 0 (0, [some (.inr (.inr (some (0, 200)))), some (.inl x1)], [], D)
  rw [fX12_law] at h
  refine mz_Go.run (gs := []) (st' := (6, [some (.inr (.inr (some (0, 200)))), some (.inl x1)], [.inr (.inl (3 : Int64)), .inr (.inl (0 : Int64)), .inr (.inl (x1).toInt64)], D)) bX12_law_0 oX12_law_0 rfl trivial ?_
  refine mz_Go.callS (I := IX12_law) (J := IX12_isFrom) (as := [.inr (.inl (x1).toInt64), .inr (.inl (0 : Int64)), .inr (.inl (3 : Int64))]) (idx := 302) (pl := 1974) (rest := []) (mX12_isFrom (x1).toInt64 (0 : Int64) (3 : Int64) D _ rfl) kX12_isFrom vX12_isFrom (by decide +kernel) (by decide +kernel) (by decide +kernel) rfl rfl ⟨rfl, rfl⟩ rfl ?_
  refine mz_Go.run (gs := []) (st' := (if (fX12_isFrom (x1).toInt64 (0 : Int64) (3 : Int64)) = 0 then (12, [some (.inr (.inr (some (0, 200)))), some (.inl x1)], [], D) else (18, [some (.inr (.inr (some (0, 200)))), some (.inl x1)], [], D))) bX12_law_9 oX12_law_9 rfl trivial ?_
  refine mz_Go.ite (fun hc1 => ?_) (fun hc1 => ?_)
  · have h := mz_ifp hc1 h
    refine mz_Go.run (gs := []) (st' := (14, [some (.inr (.inr (some (0, 200)))), some (.inl x1)], [.inl (1 : Int32), .inr (.inr (some (0, 200)))], D)) bX12_law_12 oX12_law_12 rfl trivial ?_
    obtain ⟨q2, hq2, h⟩ := mz_bd_some h
    refine mz_Go.callV (I := IX12_law) (J := IX12_is) (as := [.inl (1 : Int32)]) (ci := 12) (g := 0) (o := 200) (idx := 82) (pl := 1701) (rest := []) (mX12_is (1 : Int32) D q2 hq2) kX12_is vX12_is (by decide +kernel) (by decide +kernel) (by decide +kernel) rfl rfl ⟨rfl, rfl⟩ rfl rfl rfl rfl ?_
    obtain ⟨hb3, h⟩ := mz_gd_some h
    cases h
    exact mz_Go.retz (by decide +kernel) rfl ⟨Nat.le_refl _, Nat.le_refl _⟩ hb3 rfl
  · have h := mz_ifn hc1 h
    refine mz_Go.run (gs := [mz_kz 0 0 200, mz_kz 0 0 201, mz_ix (4 : Int32) 3000]) (st' := (27, [some (.inr (.inr (some (0, 200)))), some (.inl x1)], [.inl (0 : Int32), .inr (.inr (some (0, 200)))], (mz_wi D 0 201 ((4 : Int32)).toNatClampNeg x1))) bX12_law_18 oX12_law_18 rfl ⟨rfl, rfl, (by decide), trivial⟩ ?_
    obtain ⟨q4, hq4, h⟩ := mz_bd_some h
    refine mz_Go.callV (I := IX12_law) (J := IX12_is) (as := [.inl (0 : Int32)]) (ci := 12) (g := 0) (o := 200) (idx := 82) (pl := 1701) (rest := []) (mX12_is (0 : Int32) (mz_wi D 0 201 ((4 : Int32)).toNatClampNeg x1) q4 hq4) kX12_is vX12_is (by decide +kernel) (by decide +kernel) (by decide +kernel) rfl rfl ⟨rfl, rfl⟩ rfl rfl rfl rfl ?_
    obtain ⟨hb5, h⟩ := mz_gd_some h
    cases h
    exact mz_Go.retz (by decide +kernel) rfl ⟨Nat.le_refl _, Nat.le_refl _⟩ hb5 rfl
def bX12_second_0 : List mz_E := [(0, .iload_n 1, 0, 0, 0, 0, 0), (1, .i2l, 0, 0, 0, 0, 0), (2, .lconst 1, 0, 0, 0, 0, 1), (3, .ldc2_w 308, 0, 0, 1994, 0, 9999)]
theorem oX12_second_0 : bX12_second_0.all (mz_ok RX12 cX12_second 8) = true := by decide +kernel
def bX12_second_9 : List mz_E := [(9, .ifCond .eq 12, 0, 21, 0, 0, 0)]
theorem oX12_second_9 : bX12_second_9.all (mz_ok RX12 cX12_second 8) = true := by decide +kernel
def bX12_second_21 : List mz_E := [(21, .aload_n 0, 0, 0, 0, 0, 0), (22, .iconst 1, 0, 0, 0, 1, 0)]
theorem oX12_second_21 : bX12_second_21.all (mz_ok RX12 cX12_second 8) = true := by decide +kernel
def bX12_second_12 : List mz_E := [(12, .iload_n 2, 0, 0, 0, 0, 0), (13, .ifCond .lt 8, 0, 21, 0, 0, 0)]
theorem oX12_second_12 : bX12_second_12.all (mz_ok RX12 cX12_second 8) = true := by decide +kernel
def bX12_second_16 : List mz_E := [(16, .iload_n 2, 0, 0, 0, 0, 0), (17, .iconst 2, 0, 0, 0, 2, 0), (18, .if_icmp .le 9, 0, 27, 0, 0, 0)]
theorem oX12_second_16 : bX12_second_16.all (mz_ok RX12 cX12_second 8) = true := by decide +kernel
def bX12_second_27 : List mz_E := [(27, .iconst 0, 0, 0, 0, 0, 0), (28, .istore_n 3, 0, 0, 0, 0, 0), (29, .iconst (-1), 0, 0, 0, -1, 0), (30, .istore 4, 0, 0, 0, 0, 0), (32, .iconst 1, 0, 0, 0, 1, 0), (33, .istore 5, 0, 0, 0, 0, 0)]
theorem oX12_second_27 : bX12_second_27.all (mz_ok RX12 cX12_second 8) = true := by decide +kernel
def bX12_second_35 : List mz_E := [(35, .iload 5, 0, 0, 0, 0, 0), (37, .iconst 1, 0, 0, 0, 1, 0), (38, .aload_n 0, 0, 0, 0, 0, 0), (39, .getfield 7, 12, 0, 1576, 0, 0), (42, .iconst 2, 0, 0, 0, 2, 0), (43, .iaload, 0, 0, 0, 0, 0), (44, .ishl, 0, 0, 0, 0, 0), (45, .if_icmp .ge 99, 0, 144, 0, 0, 0)]
theorem oX12_second_35 : bX12_second_35.all (mz_ok RX12 cX12_second 8) = true := by decide +kernel
def bX12_second_144 : List mz_E := [(144, .iload 4, 0, 0, 0, 0, 0), (146, .iconst (-1), 0, 0, 0, -1, 0), (147, .if_icmp .ne 12, 0, 159, 0, 0, 0)]
theorem oX12_second_144 : bX12_second_144.all (mz_ok RX12 cX12_second 8) = true := by decide +kernel
def bX12_second_150 : List mz_E := [(150, .aload_n 0, 0, 0, 0, 0, 0), (151, .bipush 6, 0, 0, 0, 6, 0)]
theorem oX12_second_150 : bX12_second_150.all (mz_ok RX12 cX12_second 8) = true := by decide +kernel
def bX12_second_156 : List mz_E := [(156, .goto 30, 0, 186, 0, 0, 0)]
theorem oX12_second_156 : bX12_second_156.all (mz_ok RX12 cX12_second 8) = true := by decide +kernel
def bX12_second_159 : List mz_E := [(159, .aload_n 0, 0, 0, 0, 0, 0), (160, .iload_n 2, 0, 0, 0, 0, 0), (161, .ifCond .ne 11, 0, 172, 0, 0, 0)]
theorem oX12_second_159 : bX12_second_159.all (mz_ok RX12 cX12_second 8) = true := by decide +kernel
def bX12_second_164 : List mz_E := [(164, .iload 4, 0, 0, 0, 0, 0)]
theorem oX12_second_164 : bX12_second_164.all (mz_ok RX12 cX12_second 8) = true := by decide +kernel
def bX12_second_169 : List mz_E := [(169, .goto 14, 0, 183, 0, 0, 0)]
theorem oX12_second_169 : bX12_second_169.all (mz_ok RX12 cX12_second 8) = true := by decide +kernel
def bX12_second_172 : List mz_E := [(172, .iload_n 2, 0, 0, 0, 0, 0), (173, .iconst 1, 0, 0, 0, 1, 0), (174, .if_icmp .ne 7, 0, 181, 0, 0, 0)]
theorem oX12_second_172 : bX12_second_172.all (mz_ok RX12 cX12_second 8) = true := by decide +kernel
def bX12_second_177 : List mz_E := [(177, .iload_n 3, 0, 0, 0, 0, 0), (178, .goto 5, 0, 183, 0, 0, 0)]
theorem oX12_second_177 : bX12_second_177.all (mz_ok RX12 cX12_second 8) = true := by decide +kernel
def bX12_second_181 : List mz_E := [(181, .iload 4, 0, 0, 0, 0, 0)]
theorem oX12_second_181 : bX12_second_181.all (mz_ok RX12 cX12_second 8) = true := by decide +kernel
def bX12_second_48 : List mz_E := [(48, .iconst 0, 0, 0, 0, 0, 0), (49, .istore 6, 0, 0, 0, 0, 0), (51, .iconst 0, 0, 0, 0, 0, 0), (52, .istore 7, 0, 0, 0, 0, 0)]
theorem oX12_second_48 : bX12_second_48.all (mz_ok RX12 cX12_second 8) = true := by decide +kernel
def bX12_second_54 : List mz_E := [(54, .iload 7, 0, 0, 0, 0, 0), (56, .aload_n 0, 0, 0, 0, 0, 0), (57, .getfield 7, 12, 0, 1576, 0, 0), (60, .iconst 2, 0, 0, 0, 2, 0), (61, .iaload, 0, 0, 0, 0, 0), (62, .if_icmp .ge 41, 0, 103, 0, 0, 0)]
theorem oX12_second_54 : bX12_second_54.all (mz_ok RX12 cX12_second 8) = true := by decide +kernel
def bX12_second_103 : List mz_E := [(103, .iload 6, 0, 0, 0, 0, 0), (105, .iload_n 1, 0, 0, 0, 0, 0), (106, .if_icmp .eq 6, 0, 112, 0, 0, 0)]
theorem oX12_second_103 : bX12_second_103.all (mz_ok RX12 cX12_second 8) = true := by decide +kernel
def bX12_second_112 : List mz_E := [(112, .iinc 3 1, 0, 0, 0, 1, 0), (115, .iload 4, 0, 0, 0, 0, 0), (117, .iconst (-1), 0, 0, 0, -1, 0), (118, .if_icmp .eq 16, 0, 134, 0, 0, 0)]
theorem oX12_second_112 : bX12_second_112.all (mz_ok RX12 cX12_second 8) = true := by decide +kernel
def bX12_second_134 : List mz_E := [(134, .iload 5, 0, 0, 0, 0, 0), (136, .istore 4, 0, 0, 0, 0, 0), (138, .iinc 5 1, 0, 0, 0, 1, 0), (141, .goto (-106), 0, 35, 0, 0, 0)]
theorem oX12_second_134 : bX12_second_134.all (mz_ok RX12 cX12_second 8) = true := by decide +kernel
def bX12_second_121 : List mz_E := [(121, .iload 5, 0, 0, 0, 0, 0)]
theorem oX12_second_121 : bX12_second_121.all (mz_ok RX12 cX12_second 8) = true := by decide +kernel
def bX12_second_126 : List mz_E := [(126, .iload 4, 0, 0, 0, 0, 0)]
theorem oX12_second_126 : bX12_second_126.all (mz_ok RX12 cX12_second 8) = true := by decide +kernel
def bX12_second_131 : List mz_E := [(131, .if_icmp .ge 7, 0, 138, 0, 0, 0)]
theorem oX12_second_131 : bX12_second_131.all (mz_ok RX12 cX12_second 8) = true := by decide +kernel
def bX12_second_138 : List mz_E := [(138, .iinc 5 1, 0, 0, 0, 1, 0), (141, .goto (-106), 0, 35, 0, 0, 0)]
theorem oX12_second_138 : bX12_second_138.all (mz_ok RX12 cX12_second 8) = true := by decide +kernel
def bX12_second_109 : List mz_E := [(109, .goto 29, 0, 138, 0, 0, 0), (138, .iinc 5 1, 0, 0, 0, 1, 0), (141, .goto (-106), 0, 35, 0, 0, 0)]
theorem oX12_second_109 : bX12_second_109.all (mz_ok RX12 cX12_second 8) = true := by decide +kernel
def bX12_second_65 : List mz_E := [(65, .iload 6, 0, 0, 0, 0, 0), (67, .aload_n 0, 0, 0, 0, 0, 0), (68, .iload 5, 0, 0, 0, 0, 0), (70, .iload 7, 0, 0, 0, 0, 0)]
theorem oX12_second_65 : bX12_second_65.all (mz_ok RX12 cX12_second 8) = true := by decide +kernel
def bX12_second_75 : List mz_E := [(75, .ifCond .eq 18, 0, 93, 0, 0, 0)]
theorem oX12_second_75 : bX12_second_75.all (mz_ok RX12 cX12_second 8) = true := by decide +kernel
def bX12_second_93 : List mz_E := [(93, .iconst 0, 0, 0, 0, 0, 0)]
theorem oX12_second_93 : bX12_second_93.all (mz_ok RX12 cX12_second 8) = true := by decide +kernel
def bX12_second_94 : List mz_E := [(94, .iadd, 0, 0, 0, 0, 0), (95, .istore 6, 0, 0, 0, 0, 0), (97, .iinc 7 1, 0, 0, 0, 1, 0), (100, .goto (-46), 0, 54, 0, 0, 0)]
theorem oX12_second_94 : bX12_second_94.all (mz_ok RX12 cX12_second 8) = true := by decide +kernel
def bX12_second_78 : List mz_E := [(78, .aload_n 0, 0, 0, 0, 0, 0), (79, .getfield 7, 12, 0, 1576, 0, 0), (82, .bipush 60, 0, 0, 0, 60, 0), (84, .iconst 2, 0, 0, 0, 2, 0), (85, .iload 7, 0, 0, 0, 0, 0), (87, .imul, 0, 0, 0, 0, 0), (88, .iadd, 0, 0, 0, 0, 0), (89, .iaload, 0, 0, 0, 0, 0), (90, .goto 4, 0, 94, 0, 0, 0)]
theorem oX12_second_78 : bX12_second_78.all (mz_ok RX12 cX12_second 8) = true := by decide +kernel
abbrev IX12_second : mz_I := (yX12_second, cX12_second, 8, (some .int), 0, 1, 0, 0)
theorem kX12_second : mz_okm IX12_second 1993 141 1991 2 = true := by decide +kernel
theorem vX12_second : mz_okV IX12_second 1991 1992 = true := by decide +kernel
def fX12_second_134 (k35 : Int32 → Int32 → Int32 → Int32 → Int32 → mz_D → Option (Int32 × mz_D)) (x1 : Int32) (x2 : Int32) (x3 : Int32) (x5 : Int32) (D : mz_D) : Option (Int32 × mz_D) := (k35 x1 x2 x3 x5 (x5 + (1 : Int32)) D)
set_option maxHeartbeats 4000000 in
theorem tX12_second_134 (r : (Int32 × mz_D)) (k35 : Int32 → Int32 → Int32 → Int32 → Int32 → mz_D → Option (Int32 × mz_D)) (hk35 : ∀ (x1 : Int32) (x2 : Int32) (x3 : Int32) (x4 : Int32) (x5 : Int32) (D : mz_D), k35 x1 x2 x3 x4 x5 D = some r → mz_Go IX12_second (some (.inl r.1), r.2) 0 0 (35, [some (.inr (.inr (some (0, 200)))), some (.inl x1), some (.inl x2), some (.inl x3), some (.inl x4), some (.inl x5), none, none], [], D)) : ∀ (x1 : Int32) (x2 : Int32) (x3 : Int32) (x5 : Int32) (D : mz_D), fX12_second_134 k35 x1 x2 x3 x5 D = some r → mz_Go IX12_second (some (.inl r.1), r.2) 0 0 (134, [some (.inr (.inr (some (0, 200)))), some (.inl x1), some (.inl x2), some (.inl x3), none, some (.inl x5), none, none], [], D) := by
  intro x1 x2 x3 x5 D h
  rw [fX12_second_134] at h
  refine mz_Go.run (gs := []) (st' := (35, [some (.inr (.inr (some (0, 200)))), some (.inl x1), some (.inl x2), some (.inl x3), some (.inl x5), some (.inl (x5 + (1 : Int32))), none, none], [], D)) bX12_second_134 oX12_second_134 rfl trivial ?_
  exact mz_Go.drop [true, true, true, true, true, true, false, false] (hk35 x1 x2 x3 x5 (x5 + (1 : Int32)) D h)
def fX12_second_94 (k35 : Int32 → Int32 → Int32 → Int32 → Int32 → mz_D → Option (Int32 × mz_D)) (k54 : Int32 → Int32 → Int32 → Int32 → Int32 → Int32 → Int32 → mz_D → Option (Int32 × mz_D)) (x1 : Int32) (x2 : Int32) (x3 : Int32) (x4 : Int32) (x5 : Int32) (x7 : Int32) (s0 : Int32) (s1 : Int32) (D : mz_D) : Option (Int32 × mz_D) := (k54 x1 x2 x3 x4 x5 (s1 + s0) (x7 + (1 : Int32)) D)
set_option maxHeartbeats 4000000 in
theorem tX12_second_94 (r : (Int32 × mz_D)) (k35 : Int32 → Int32 → Int32 → Int32 → Int32 → mz_D → Option (Int32 × mz_D)) (hk35 : ∀ (x1 : Int32) (x2 : Int32) (x3 : Int32) (x4 : Int32) (x5 : Int32) (D : mz_D), k35 x1 x2 x3 x4 x5 D = some r → mz_Go IX12_second (some (.inl r.1), r.2) 0 0 (35, [some (.inr (.inr (some (0, 200)))), some (.inl x1), some (.inl x2), some (.inl x3), some (.inl x4), some (.inl x5), none, none], [], D)) (k54 : Int32 → Int32 → Int32 → Int32 → Int32 → Int32 → Int32 → mz_D → Option (Int32 × mz_D)) (hk54 : ∀ (x1 : Int32) (x2 : Int32) (x3 : Int32) (x4 : Int32) (x5 : Int32) (x6 : Int32) (x7 : Int32) (D : mz_D), k54 x1 x2 x3 x4 x5 x6 x7 D = some r → mz_Go IX12_second (some (.inl r.1), r.2) 0 0 (54, [some (.inr (.inr (some (0, 200)))), some (.inl x1), some (.inl x2), some (.inl x3), some (.inl x4), some (.inl x5), some (.inl x6), some (.inl x7)], [], D)) : ∀ (x1 : Int32) (x2 : Int32) (x3 : Int32) (x4 : Int32) (x5 : Int32) (x7 : Int32) (s0 : Int32) (s1 : Int32) (D : mz_D), fX12_second_94 k35 k54 x1 x2 x3 x4 x5 x7 s0 s1 D = some r → mz_Go IX12_second (some (.inl r.1), r.2) 0 0 (94, [some (.inr (.inr (some (0, 200)))), some (.inl x1), some (.inl x2), some (.inl x3), some (.inl x4), some (.inl x5), none, some (.inl x7)], [.inl s0, .inl s1], D) := by
  intro x1 x2 x3 x4 x5 x7 s0 s1 D h
  rw [fX12_second_94] at h
  refine mz_Go.run (gs := []) (st' := (54, [some (.inr (.inr (some (0, 200)))), some (.inl x1), some (.inl x2), some (.inl x3), some (.inl x4), some (.inl x5), some (.inl (s1 + s0)), some (.inl (x7 + (1 : Int32)))], [], D)) bX12_second_94 oX12_second_94 rfl trivial ?_
  exact mz_Go.drop [true, true, true, true, true, true, true, true] (hk54 x1 x2 x3 x4 x5 (s1 + s0) (x7 + (1 : Int32)) D h)
def fX12_second_54 (k35 : Int32 → Int32 → Int32 → Int32 → Int32 → mz_D → Option (Int32 × mz_D)) : Nat → Int32 → Int32 → Int32 → Int32 → Int32 → Int32 → Int32 → mz_D → Option (Int32 × mz_D)
  | 0 => fun _ _ _ _ _ _ _ _ => none
  | n + 1 => fun x1 x2 x3 x4 x5 x6 x7 D => (if (D.1 0 201 ((2 : Int32)).toNatClampNeg) ≤ x7 then (if x6 = x1 then (if x4 = (-1 : Int32) then (fX12_second_134 k35 x1 x2 (x3 + (1 : Int32)) x5 D) else (Option.bind (fX12_bits x5) fun q4 => (Option.bind (fX12_bits x4) fun q5 => (if q5 ≤ q4 then (k35 x1 x2 (x3 + (1 : Int32)) x4 (x5 + (1 : Int32)) D) else (fX12_second_134 k35 x1 x2 (x3 + (1 : Int32)) x5 D))))) else (k35 x1 x2 x3 x4 (x5 + (1 : Int32)) D)) else (if (fX12_isIn x5 x7) = 0 then (fX12_second_94 k35 (fX12_second_54 k35 n) x1 x2 x3 x4 x5 x7 (0 : Int32) x6 D) else (mz_gd (mz_ix ((60 : Int32) + ((2 : Int32) * x7)) 3000) (fX12_second_94 k35 (fX12_second_54 k35 n) x1 x2 x3 x4 x5 x7 (D.1 0 201 (((60 : Int32) + ((2 : Int32) * x7))).toNatClampNeg) x6 D))))
set_option maxHeartbeats 4000000 in
theorem tX12_second_54 (r : (Int32 × mz_D)) (k35 : Int32 → Int32 → Int32 → Int32 → Int32 → mz_D → Option (Int32 × mz_D)) (hk35 : ∀ (x1 : Int32) (x2 : Int32) (x3 : Int32) (x4 : Int32) (x5 : Int32) (D : mz_D), k35 x1 x2 x3 x4 x5 D = some r → mz_Go IX12_second (some (.inl r.1), r.2) 0 0 (35, [some (.inr (.inr (some (0, 200)))), some (.inl x1), some (.inl x2), some (.inl x3), some (.inl x4), some (.inl x5), none, none], [], D)) : ∀ (n : Nat) (x1 : Int32) (x2 : Int32) (x3 : Int32) (x4 : Int32) (x5 : Int32) (x6 : Int32) (x7 : Int32) (D : mz_D), fX12_second_54 k35 n x1 x2 x3 x4 x5 x6 x7 D = some r → mz_Go IX12_second (some (.inl r.1), r.2) 0 0 (54, [some (.inr (.inr (some (0, 200)))), some (.inl x1), some (.inl x2), some (.inl x3), some (.inl x4), some (.inl x5), some (.inl x6), some (.inl x7)], [], D) := by
  intro n
  induction n with
  | zero => intro x1 x2 x3 x4 x5 x6 x7 D h; have h : (none : Option (Int32 × mz_D)) = some r := h; cases h
  | succ n ih =>
    intro x1 x2 x3 x4 x5 x6 x7 D h
    rw [fX12_second_54] at h
    refine mz_Go.run (gs := [mz_kz 0 0 200, mz_kz 0 0 201, mz_ix (2 : Int32) 3000]) (st' := (if (D.1 0 201 ((2 : Int32)).toNatClampNeg) ≤ x7 then (103, [some (.inr (.inr (some (0, 200)))), some (.inl x1), some (.inl x2), some (.inl x3), some (.inl x4), some (.inl x5), some (.inl x6), some (.inl x7)], [], D) else (65, [some (.inr (.inr (some (0, 200)))), some (.inl x1), some (.inl x2), some (.inl x3), some (.inl x4), some (.inl x5), some (.inl x6), some (.inl x7)], [], D))) bX12_second_54 oX12_second_54 rfl ⟨rfl, rfl, (by decide), trivial⟩ ?_
    refine mz_Go.ite (fun hc1 => ?_) (fun hc1 => ?_)
    · have h := mz_ifp hc1 h
      refine mz_Go.run (gs := []) (st' := (if x6 = x1 then (112, [some (.inr (.inr (some (0, 200)))), some (.inl x1), some (.inl x2), some (.inl x3), some (.inl x4), some (.inl x5), some (.inl x6), some (.inl x7)], [], D) else (109, [some (.inr (.inr (some (0, 200)))), some (.inl x1), some (.inl x2), some (.inl x3), some (.inl x4), some (.inl x5), some (.inl x6), some (.inl x7)], [], D))) bX12_second_103 oX12_second_103 rfl trivial ?_
      refine mz_Go.ite (fun hc2 => ?_) (fun hc2 => ?_)
      · have h := mz_ifp hc2 h
        refine mz_Go.run (gs := []) (st' := (if x4 = (-1 : Int32) then (134, [some (.inr (.inr (some (0, 200)))), some (.inl x1), some (.inl x2), some (.inl (x3 + (1 : Int32))), some (.inl x4), some (.inl x5), some (.inl x6), some (.inl x7)], [], D) else (121, [some (.inr (.inr (some (0, 200)))), some (.inl x1), some (.inl x2), some (.inl (x3 + (1 : Int32))), some (.inl x4), some (.inl x5), some (.inl x6), some (.inl x7)], [], D))) bX12_second_112 oX12_second_112 rfl trivial ?_
        refine mz_Go.ite (fun hc3 => ?_) (fun hc3 => ?_)
        · have h := mz_ifp hc3 h
          exact mz_Go.drop [true, true, true, true, false, true, false, false] (tX12_second_134 r k35 hk35 x1 x2 (x3 + (1 : Int32)) x5 D h)
        · have h := mz_ifn hc3 h
          refine mz_Go.run (gs := []) (st' := (123, [some (.inr (.inr (some (0, 200)))), some (.inl x1), some (.inl x2), some (.inl (x3 + (1 : Int32))), some (.inl x4), some (.inl x5), some (.inl x6), some (.inl x7)], [.inl x5], D)) bX12_second_121 oX12_second_121 rfl trivial ?_
          obtain ⟨q4, hq4, h⟩ := mz_bd_some h
          refine mz_Go.callS (I := IX12_second) (J := IX12_bits) (as := [.inl x5]) (idx := 254) (pl := 1888) (rest := []) (mX12_bits x5 D q4 hq4) kX12_bits vX12_bits (by decide +kernel) (by decide +kernel) (by decide +kernel) rfl rfl ⟨rfl, rfl⟩ rfl ?_
          refine mz_Go.run (gs := []) (st' := (128, [some (.inr (.inr (some (0, 200)))), some (.inl x1), some (.inl x2), some (.inl (x3 + (1 : Int32))), some (.inl x4), some (.inl x5), some (.inl x6), some (.inl x7)], [.inl x4, .inl q4], D)) bX12_second_126 oX12_second_126 rfl trivial ?_
          obtain ⟨q5, hq5, h⟩ := mz_bd_some h
          refine mz_Go.callS (I := IX12_second) (J := IX12_bits) (as := [.inl x4]) (idx := 254) (pl := 1888) (rest := [.inl q4]) (mX12_bits x4 D q5 hq5) kX12_bits vX12_bits (by decide +kernel) (by decide +kernel) (by decide +kernel) rfl rfl ⟨rfl, rfl⟩ rfl ?_
          refine mz_Go.run (gs := []) (st' := (if q5 ≤ q4 then (138, [some (.inr (.inr (some (0, 200)))), some (.inl x1), some (.inl x2), some (.inl (x3 + (1 : Int32))), some (.inl x4), some (.inl x5), some (.inl x6), some (.inl x7)], [], D) else (134, [some (.inr (.inr (some (0, 200)))), some (.inl x1), some (.inl x2), some (.inl (x3 + (1 : Int32))), some (.inl x4), some (.inl x5), some (.inl x6), some (.inl x7)], [], D))) bX12_second_131 oX12_second_131 rfl trivial ?_
          refine mz_Go.ite (fun hc6 => ?_) (fun hc6 => ?_)
          · have h := mz_ifp hc6 h
            refine mz_Go.run (gs := []) (st' := (35, [some (.inr (.inr (some (0, 200)))), some (.inl x1), some (.inl x2), some (.inl (x3 + (1 : Int32))), some (.inl x4), some (.inl (x5 + (1 : Int32))), some (.inl x6), some (.inl x7)], [], D)) bX12_second_138 oX12_second_138 rfl trivial ?_
            exact mz_Go.drop [true, true, true, true, true, true, false, false] (hk35 x1 x2 (x3 + (1 : Int32)) x4 (x5 + (1 : Int32)) D h)
          · have h := mz_ifn hc6 h
            exact mz_Go.drop [true, true, true, true, false, true, false, false] (tX12_second_134 r k35 hk35 x1 x2 (x3 + (1 : Int32)) x5 D h)
      · have h := mz_ifn hc2 h
        refine mz_Go.run (gs := []) (st' := (35, [some (.inr (.inr (some (0, 200)))), some (.inl x1), some (.inl x2), some (.inl x3), some (.inl x4), some (.inl (x5 + (1 : Int32))), some (.inl x6), some (.inl x7)], [], D)) bX12_second_109 oX12_second_109 rfl trivial ?_
        exact mz_Go.drop [true, true, true, true, true, true, false, false] (hk35 x1 x2 x3 x4 (x5 + (1 : Int32)) D h)
    · have h := mz_ifn hc1 h
      refine mz_Go.run (gs := []) (st' := (72, [some (.inr (.inr (some (0, 200)))), some (.inl x1), some (.inl x2), some (.inl x3), some (.inl x4), some (.inl x5), some (.inl x6), some (.inl x7)], [.inl x7, .inl x5, .inr (.inr (some (0, 200))), .inl x6], D)) bX12_second_65 oX12_second_65 rfl trivial ?_
      refine mz_Go.callV (I := IX12_second) (J := IX12_isIn) (as := [.inl x5, .inl x7]) (ci := 12) (g := 0) (o := 200) (idx := 270) (pl := 1944) (rest := [.inl x6]) (mX12_isIn x5 x7 D _ rfl) kX12_isIn vX12_isIn (by decide +kernel) (by decide +kernel) (by decide +kernel) rfl rfl ⟨rfl, rfl⟩ rfl rfl rfl rfl ?_
      refine mz_Go.run (gs := []) (st' := (if (fX12_isIn x5 x7) = 0 then (93, [some (.inr (.inr (some (0, 200)))), some (.inl x1), some (.inl x2), some (.inl x3), some (.inl x4), some (.inl x5), some (.inl x6), some (.inl x7)], [.inl x6], D) else (78, [some (.inr (.inr (some (0, 200)))), some (.inl x1), some (.inl x2), some (.inl x3), some (.inl x4), some (.inl x5), some (.inl x6), some (.inl x7)], [.inl x6], D))) bX12_second_75 oX12_second_75 rfl trivial ?_
      refine mz_Go.ite (fun hc7 => ?_) (fun hc7 => ?_)
      · have h := mz_ifp hc7 h
        refine mz_Go.run (gs := []) (st' := (94, [some (.inr (.inr (some (0, 200)))), some (.inl x1), some (.inl x2), some (.inl x3), some (.inl x4), some (.inl x5), some (.inl x6), some (.inl x7)], [.inl (0 : Int32), .inl x6], D)) bX12_second_93 oX12_second_93 rfl trivial ?_
        exact mz_Go.drop [true, true, true, true, true, true, false, true] (tX12_second_94 r k35 hk35 (fX12_second_54 k35 n) ih x1 x2 x3 x4 x5 x7 (0 : Int32) x6 D h)
      · have h := mz_ifn hc7 h
        obtain ⟨hb8, h⟩ := mz_gd_some h
        refine mz_Go.run (gs := [mz_kz 0 0 200, mz_kz 0 0 201, mz_ix ((60 : Int32) + ((2 : Int32) * x7)) 3000]) (st' := (94, [some (.inr (.inr (some (0, 200)))), some (.inl x1), some (.inl x2), some (.inl x3), some (.inl x4), some (.inl x5), some (.inl x6), some (.inl x7)], [.inl (D.1 0 201 (((60 : Int32) + ((2 : Int32) * x7))).toNatClampNeg), .inl x6], D)) bX12_second_78 oX12_second_78 rfl ⟨rfl, rfl, hb8, trivial⟩ ?_
        exact mz_Go.drop [true, true, true, true, true, true, false, true] (tX12_second_94 r k35 hk35 (fX12_second_54 k35 n) ih x1 x2 x3 x4 x5 x7 (D.1 0 201 (((60 : Int32) + ((2 : Int32) * x7))).toNatClampNeg) x6 D h)
def fX12_second_35 : Nat → Int32 → Int32 → Int32 → Int32 → Int32 → mz_D → Option (Int32 × mz_D)
  | 0 => fun _ _ _ _ _ _ => none
  | n + 1 => fun x1 x2 x3 x4 x5 D => (if ((1 : Int32) <<< ((D.1 0 201 ((2 : Int32)).toNatClampNeg) &&& 31)) ≤ x5 then (if x4 = (-1 : Int32) then (some ((-1 : Int32), (mz_wi D 0 200 2 (6 : Int32)))) else (if x2 = 0 then (Option.bind (fX12_bits x4) fun q4 => (some (q4, (mz_wi D 0 200 2 (0 : Int32))))) else (if x2 = (1 : Int32) then (some (x3, (mz_wi D 0 200 2 (0 : Int32)))) else (some (x4, (mz_wi D 0 200 2 (0 : Int32))))))) else (fX12_second_54 (fX12_second_35 n) mz_N x1 x2 x3 x4 x5 (0 : Int32) (0 : Int32) D))
set_option maxHeartbeats 4000000 in
theorem tX12_second_35 (r : (Int32 × mz_D)) : ∀ (n : Nat) (x1 : Int32) (x2 : Int32) (x3 : Int32) (x4 : Int32) (x5 : Int32) (D : mz_D), fX12_second_35 n x1 x2 x3 x4 x5 D = some r → mz_Go IX12_second (some (.inl r.1), r.2) 0 0 (35, [some (.inr (.inr (some (0, 200)))), some (.inl x1), some (.inl x2), some (.inl x3), some (.inl x4), some (.inl x5), none, none], [], D) := by
  intro n
  induction n with
  | zero => intro x1 x2 x3 x4 x5 D h; have h : (none : Option (Int32 × mz_D)) = some r := h; cases h
  | succ n ih =>
    intro x1 x2 x3 x4 x5 D h
    rw [fX12_second_35] at h
    refine mz_Go.run (gs := [mz_kz 0 0 200, mz_kz 0 0 201, mz_ix (2 : Int32) 3000]) (st' := (if ((1 : Int32) <<< ((D.1 0 201 ((2 : Int32)).toNatClampNeg) &&& 31)) ≤ x5 then (144, [some (.inr (.inr (some (0, 200)))), some (.inl x1), some (.inl x2), some (.inl x3), some (.inl x4), some (.inl x5), none, none], [], D) else (48, [some (.inr (.inr (some (0, 200)))), some (.inl x1), some (.inl x2), some (.inl x3), some (.inl x4), some (.inl x5), none, none], [], D))) bX12_second_35 oX12_second_35 rfl ⟨rfl, rfl, (by decide), trivial⟩ ?_
    refine mz_Go.ite (fun hc1 => ?_) (fun hc1 => ?_)
    · have h := mz_ifp hc1 h
      refine mz_Go.run (gs := []) (st' := (if x4 = (-1 : Int32) then (150, [some (.inr (.inr (some (0, 200)))), some (.inl x1), some (.inl x2), some (.inl x3), some (.inl x4), some (.inl x5), none, none], [], D) else (159, [some (.inr (.inr (some (0, 200)))), some (.inl x1), some (.inl x2), some (.inl x3), some (.inl x4), some (.inl x5), none, none], [], D))) bX12_second_144 oX12_second_144 rfl trivial ?_
      refine mz_Go.ite (fun hc2 => ?_) (fun hc2 => ?_)
      · have h := mz_ifp hc2 h
        refine mz_Go.run (gs := []) (st' := (153, [some (.inr (.inr (some (0, 200)))), some (.inl x1), some (.inl x2), some (.inl x3), some (.inl x4), some (.inl x5), none, none], [.inl (6 : Int32), .inr (.inr (some (0, 200)))], D)) bX12_second_150 oX12_second_150 rfl trivial ?_
        refine mz_Go.callV (I := IX12_second) (J := IX12_refuse) (as := [.inl (6 : Int32)]) (ci := 12) (g := 0) (o := 200) (idx := 75) (pl := 1761) (rest := []) (mX12_refuse (6 : Int32) D) kX12_refuse vX12_refuse (by decide +kernel) (by decide +kernel) (by decide +kernel) rfl rfl ⟨rfl, rfl⟩ rfl rfl rfl rfl ?_
        refine mz_Go.run (gs := []) (st' := (186, [some (.inr (.inr (some (0, 200)))), some (.inl x1), some (.inl x2), some (.inl x3), some (.inl x4), some (.inl x5), none, none], [.inl (-1 : Int32)], (mz_wi D 0 200 2 (6 : Int32)))) bX12_second_156 oX12_second_156 rfl trivial ?_
        cases h
        exact mz_Go.reti (by decide +kernel) rfl ⟨Nat.le_refl _, Nat.le_refl _⟩ rfl
      · have h := mz_ifn hc2 h
        refine mz_Go.run (gs := []) (st' := (if x2 = 0 then (164, [some (.inr (.inr (some (0, 200)))), some (.inl x1), some (.inl x2), some (.inl x3), some (.inl x4), some (.inl x5), none, none], [.inr (.inr (some (0, 200)))], D) else (172, [some (.inr (.inr (some (0, 200)))), some (.inl x1), some (.inl x2), some (.inl x3), some (.inl x4), some (.inl x5), none, none], [.inr (.inr (some (0, 200)))], D))) bX12_second_159 oX12_second_159 rfl trivial ?_
        refine mz_Go.ite (fun hc3 => ?_) (fun hc3 => ?_)
        · have h := mz_ifp hc3 h
          refine mz_Go.run (gs := []) (st' := (166, [some (.inr (.inr (some (0, 200)))), some (.inl x1), some (.inl x2), some (.inl x3), some (.inl x4), some (.inl x5), none, none], [.inl x4, .inr (.inr (some (0, 200)))], D)) bX12_second_164 oX12_second_164 rfl trivial ?_
          obtain ⟨q4, hq4, h⟩ := mz_bd_some h
          refine mz_Go.callS (I := IX12_second) (J := IX12_bits) (as := [.inl x4]) (idx := 254) (pl := 1888) (rest := [.inr (.inr (some (0, 200)))]) (mX12_bits x4 D q4 hq4) kX12_bits vX12_bits (by decide +kernel) (by decide +kernel) (by decide +kernel) rfl rfl ⟨rfl, rfl⟩ rfl ?_
          refine mz_Go.run (gs := []) (st' := (183, [some (.inr (.inr (some (0, 200)))), some (.inl x1), some (.inl x2), some (.inl x3), some (.inl x4), some (.inl x5), none, none], [.inl q4, .inr (.inr (some (0, 200)))], D)) bX12_second_169 oX12_second_169 rfl trivial ?_
          refine mz_Go.callV (I := IX12_second) (J := IX12_gives) (as := [.inl q4]) (ci := 12) (g := 0) (o := 200) (idx := 79) (pl := 1844) (rest := []) (mX12_gives q4 D) kX12_gives vX12_gives (by decide +kernel) (by decide +kernel) (by decide +kernel) rfl rfl ⟨rfl, rfl⟩ rfl rfl rfl rfl ?_
          cases h
          exact mz_Go.reti (by decide +kernel) rfl ⟨Nat.le_refl _, Nat.le_refl _⟩ rfl
        · have h := mz_ifn hc3 h
          refine mz_Go.run (gs := []) (st' := (if x2 = (1 : Int32) then (177, [some (.inr (.inr (some (0, 200)))), some (.inl x1), some (.inl x2), some (.inl x3), some (.inl x4), some (.inl x5), none, none], [.inr (.inr (some (0, 200)))], D) else (181, [some (.inr (.inr (some (0, 200)))), some (.inl x1), some (.inl x2), some (.inl x3), some (.inl x4), some (.inl x5), none, none], [.inr (.inr (some (0, 200)))], D))) bX12_second_172 oX12_second_172 rfl trivial ?_
          refine mz_Go.ite (fun hc5 => ?_) (fun hc5 => ?_)
          · have h := mz_ifp hc5 h
            refine mz_Go.run (gs := []) (st' := (183, [some (.inr (.inr (some (0, 200)))), some (.inl x1), some (.inl x2), some (.inl x3), some (.inl x4), some (.inl x5), none, none], [.inl x3, .inr (.inr (some (0, 200)))], D)) bX12_second_177 oX12_second_177 rfl trivial ?_
            refine mz_Go.callV (I := IX12_second) (J := IX12_gives) (as := [.inl x3]) (ci := 12) (g := 0) (o := 200) (idx := 79) (pl := 1844) (rest := []) (mX12_gives x3 D) kX12_gives vX12_gives (by decide +kernel) (by decide +kernel) (by decide +kernel) rfl rfl ⟨rfl, rfl⟩ rfl rfl rfl rfl ?_
            cases h
            exact mz_Go.reti (by decide +kernel) rfl ⟨Nat.le_refl _, Nat.le_refl _⟩ rfl
          · have h := mz_ifn hc5 h
            refine mz_Go.run (gs := []) (st' := (183, [some (.inr (.inr (some (0, 200)))), some (.inl x1), some (.inl x2), some (.inl x3), some (.inl x4), some (.inl x5), none, none], [.inl x4, .inr (.inr (some (0, 200)))], D)) bX12_second_181 oX12_second_181 rfl trivial ?_
            refine mz_Go.callV (I := IX12_second) (J := IX12_gives) (as := [.inl x4]) (ci := 12) (g := 0) (o := 200) (idx := 79) (pl := 1844) (rest := []) (mX12_gives x4 D) kX12_gives vX12_gives (by decide +kernel) (by decide +kernel) (by decide +kernel) rfl rfl ⟨rfl, rfl⟩ rfl rfl rfl rfl ?_
            cases h
            exact mz_Go.reti (by decide +kernel) rfl ⟨Nat.le_refl _, Nat.le_refl _⟩ rfl
    · have h := mz_ifn hc1 h
      refine mz_Go.run (gs := []) (st' := (54, [some (.inr (.inr (some (0, 200)))), some (.inl x1), some (.inl x2), some (.inl x3), some (.inl x4), some (.inl x5), some (.inl (0 : Int32)), some (.inl (0 : Int32))], [], D)) bX12_second_48 oX12_second_48 rfl trivial ?_
      exact mz_Go.drop [true, true, true, true, true, true, true, true] (tX12_second_54 r (fX12_second_35 n) ih mz_N x1 x2 x3 x4 x5 (0 : Int32) (0 : Int32) D h)
def fX12_second (x1 : Int32) (x2 : Int32) (D : mz_D) : Option (Int32 × mz_D) := (if (fX12_isFrom (x1).toInt64 (1 : Int64) (9999 : Int64)) = 0 then (some ((-1 : Int32), (mz_wi D 0 200 2 (1 : Int32)))) else (if x2 < 0 then (some ((-1 : Int32), (mz_wi D 0 200 2 (1 : Int32)))) else (if x2 ≤ (2 : Int32) then (fX12_second_35 mz_N x1 x2 (0 : Int32) (-1 : Int32) (1 : Int32) D) else (some ((-1 : Int32), (mz_wi D 0 200 2 (1 : Int32)))))))
set_option maxHeartbeats 4000000 in
theorem mX12_second (x1 : Int32) (x2 : Int32) (D : mz_D) (r : (Int32 × mz_D)) (h : fX12_second x1 x2 D = some r) : mz_Met IX12_second [.inr (.inr (some (0, 200))), .inl x1, .inl x2] D (some (.inl r.1), r.2) := by
  refine mz_Met.of (by decide +kernel) (Nat.le_of_ble_eq_true rfl) ?_
  show mz_Go IX12_second (some (.inl r.1), r.2) 0 0 (0, [some (.inr (.inr (some (0, 200)))), some (.inl x1), some (.inl x2), none, none, none, none, none], [], D)
  rw [fX12_second] at h
  refine mz_Go.run (gs := []) (st' := (6, [some (.inr (.inr (some (0, 200)))), some (.inl x1), some (.inl x2), none, none, none, none, none], [.inr (.inl (9999 : Int64)), .inr (.inl (1 : Int64)), .inr (.inl (x1).toInt64)], D)) bX12_second_0 oX12_second_0 rfl trivial ?_
  refine mz_Go.callS (I := IX12_second) (J := IX12_isFrom) (as := [.inr (.inl (x1).toInt64), .inr (.inl (1 : Int64)), .inr (.inl (9999 : Int64))]) (idx := 302) (pl := 1974) (rest := []) (mX12_isFrom (x1).toInt64 (1 : Int64) (9999 : Int64) D _ rfl) kX12_isFrom vX12_isFrom (by decide +kernel) (by decide +kernel) (by decide +kernel) rfl rfl ⟨rfl, rfl⟩ rfl ?_
  refine mz_Go.run (gs := []) (st' := (if (fX12_isFrom (x1).toInt64 (1 : Int64) (9999 : Int64)) = 0 then (21, [some (.inr (.inr (some (0, 200)))), some (.inl x1), some (.inl x2), none, none, none, none, none], [], D) else (12, [some (.inr (.inr (some (0, 200)))), some (.inl x1), some (.inl x2), none, none, none, none, none], [], D))) bX12_second_9 oX12_second_9 rfl trivial ?_
  refine mz_Go.ite (fun hc1 => ?_) (fun hc1 => ?_)
  · have h := mz_ifp hc1 h
    refine mz_Go.run (gs := []) (st' := (23, [some (.inr (.inr (some (0, 200)))), some (.inl x1), some (.inl x2), none, none, none, none, none], [.inl (1 : Int32), .inr (.inr (some (0, 200)))], D)) bX12_second_21 oX12_second_21 rfl trivial ?_
    refine mz_Go.callV (I := IX12_second) (J := IX12_refuse) (as := [.inl (1 : Int32)]) (ci := 12) (g := 0) (o := 200) (idx := 75) (pl := 1761) (rest := []) (mX12_refuse (1 : Int32) D) kX12_refuse vX12_refuse (by decide +kernel) (by decide +kernel) (by decide +kernel) rfl rfl ⟨rfl, rfl⟩ rfl rfl rfl rfl ?_
    cases h
    exact mz_Go.reti (by decide +kernel) rfl ⟨Nat.le_refl _, Nat.le_refl _⟩ rfl
  · have h := mz_ifn hc1 h
    refine mz_Go.run (gs := []) (st' := (if x2 < 0 then (21, [some (.inr (.inr (some (0, 200)))), some (.inl x1), some (.inl x2), none, none, none, none, none], [], D) else (16, [some (.inr (.inr (some (0, 200)))), some (.inl x1), some (.inl x2), none, none, none, none, none], [], D))) bX12_second_12 oX12_second_12 rfl trivial ?_
    refine mz_Go.ite (fun hc2 => ?_) (fun hc2 => ?_)
    · have h := mz_ifp hc2 h
      refine mz_Go.run (gs := []) (st' := (23, [some (.inr (.inr (some (0, 200)))), some (.inl x1), some (.inl x2), none, none, none, none, none], [.inl (1 : Int32), .inr (.inr (some (0, 200)))], D)) bX12_second_21 oX12_second_21 rfl trivial ?_
      refine mz_Go.callV (I := IX12_second) (J := IX12_refuse) (as := [.inl (1 : Int32)]) (ci := 12) (g := 0) (o := 200) (idx := 75) (pl := 1761) (rest := []) (mX12_refuse (1 : Int32) D) kX12_refuse vX12_refuse (by decide +kernel) (by decide +kernel) (by decide +kernel) rfl rfl ⟨rfl, rfl⟩ rfl rfl rfl rfl ?_
      cases h
      exact mz_Go.reti (by decide +kernel) rfl ⟨Nat.le_refl _, Nat.le_refl _⟩ rfl
    · have h := mz_ifn hc2 h
      refine mz_Go.run (gs := []) (st' := (if x2 ≤ (2 : Int32) then (27, [some (.inr (.inr (some (0, 200)))), some (.inl x1), some (.inl x2), none, none, none, none, none], [], D) else (21, [some (.inr (.inr (some (0, 200)))), some (.inl x1), some (.inl x2), none, none, none, none, none], [], D))) bX12_second_16 oX12_second_16 rfl trivial ?_
      refine mz_Go.ite (fun hc3 => ?_) (fun hc3 => ?_)
      · have h := mz_ifp hc3 h
        refine mz_Go.run (gs := []) (st' := (35, [some (.inr (.inr (some (0, 200)))), some (.inl x1), some (.inl x2), some (.inl (0 : Int32)), some (.inl (-1 : Int32)), some (.inl (1 : Int32)), none, none], [], D)) bX12_second_27 oX12_second_27 rfl trivial ?_
        exact mz_Go.drop [true, true, true, true, true, true, false, false] (tX12_second_35 r mz_N x1 x2 (0 : Int32) (-1 : Int32) (1 : Int32) D h)
      · have h := mz_ifn hc3 h
        refine mz_Go.run (gs := []) (st' := (23, [some (.inr (.inr (some (0, 200)))), some (.inl x1), some (.inl x2), none, none, none, none, none], [.inl (1 : Int32), .inr (.inr (some (0, 200)))], D)) bX12_second_21 oX12_second_21 rfl trivial ?_
        refine mz_Go.callV (I := IX12_second) (J := IX12_refuse) (as := [.inl (1 : Int32)]) (ci := 12) (g := 0) (o := 200) (idx := 75) (pl := 1761) (rest := []) (mX12_refuse (1 : Int32) D) kX12_refuse vX12_refuse (by decide +kernel) (by decide +kernel) (by decide +kernel) rfl rfl ⟨rfl, rfl⟩ rfl rfl rfl rfl ?_
        cases h
        exact mz_Go.reti (by decide +kernel) rfl ⟨Nat.le_refl _, Nat.le_refl _⟩ rfl
