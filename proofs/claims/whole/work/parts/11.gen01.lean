def bX4_heads_0 : List mz_E := [(0, .aload_n 0, 0, 0, 0, 0, 0)]
theorem oX4_heads_0 : bX4_heads_0.all (mz_ok RX4 cX4_heads 2) = true := by decide +kernel
def bX4_heads_4 : List mz_E := [(4, .aload_n 0, 0, 0, 0, 0, 0), (5, .getfield 41, 4, 2, 295, 0, 0), (8, .iconst (-1), 0, 0, 0, -1, 0), (9, .ixor, 0, 0, 0, 0, 0), (10, .iand, 0, 0, 0, 0, 0), (11, .istore_n 1, 0, 0, 0, 0, 0), (12, .iload_n 1, 0, 0, 0, 0, 0), (13, .ifCond .ne 10, 0, 23, 0, 0, 0)]
theorem oX4_heads_4 : bX4_heads_4.all (mz_ok RX4 cX4_heads 2) = true := by decide +kernel
def bX4_heads_16 : List mz_E := [(16, .aload_n 0, 0, 0, 0, 0, 0)]
theorem oX4_heads_16 : bX4_heads_16.all (mz_ok RX4 cX4_heads 2) = true := by decide +kernel
def bX4_heads_20 : List mz_E := [(20, .goto 4, 0, 24, 0, 0, 0)]
theorem oX4_heads_20 : bX4_heads_20.all (mz_ok RX4 cX4_heads 2) = true := by decide +kernel
def bX4_heads_23 : List mz_E := [(23, .iload_n 1, 0, 0, 0, 0, 0)]
theorem oX4_heads_23 : bX4_heads_23.all (mz_ok RX4 cX4_heads 2) = true := by decide +kernel
abbrev IX4_heads : mz_I := (yX4_heads, cX4_heads, 2, (some .int), 0, 1, 0, 0)
theorem kX4_heads : mz_okm IX4_heads 1026 135 1024 0 = true := by decide +kernel
theorem vX4_heads : mz_okV IX4_heads 1024 1025 = true := by decide +kernel
def fX4_heads (g0 : Nat) (D : mz_D) : Int32 := (if ((((1 : Int32) <<< ((D.1 g0 101 0) &&& 31)) - (1 : Int32)) &&& ((D.1 g0 101 2) ^^^ (-1 : Int32))) = 0 then (((1 : Int32) <<< ((D.1 g0 101 0) &&& 31)) - (1 : Int32)) else ((((1 : Int32) <<< ((D.1 g0 101 0) &&& 31)) - (1 : Int32)) &&& ((D.1 g0 101 2) ^^^ (-1 : Int32))))
set_option maxHeartbeats 4000000 in
theorem mX4_heads (g0 : Nat) (D : mz_D) (hg0 : mz_tb g0 = true) (r : Int32) (h : fX4_heads g0 D = r) : mz_Met IX4_heads [.inr (.inr (some (g0, 101)))] D (some (.inl r), D) := by
  refine mz_Met.of (by decide +kernel) (Nat.le_of_ble_eq_true rfl) ?_
  show mz_Go IX4_heads (some (.inl r), D) 0 0 (0, [some (.inr (.inr (some (g0, 101)))), none], [], D)
  rw [fX4_heads] at h
  refine mz_Go.run (gs := []) (st' := (1, [some (.inr (.inr (some (g0, 101)))), none], [.inr (.inr (some (g0, 101)))], D)) bX4_heads_0 oX4_heads_0 rfl trivial ?_
  refine mz_Go.callV (I := IX4_heads) (J := IX4_everyone) (as := []) (ci := 4) (g := g0) (o := 101) (idx := 54) (pl := 1027) (rest := []) (mX4_everyone g0 D hg0) kX4_everyone vX4_everyone (by decide +kernel) (by decide +kernel) (by decide +kernel) rfl rfl ⟨rfl, rfl⟩ rfl rfl hg0 rfl ?_
  refine mz_Go.run (gs := [mz_kz 0 g0 101]) (st' := (if ((((1 : Int32) <<< ((D.1 g0 101 0) &&& 31)) - (1 : Int32)) &&& ((D.1 g0 101 2) ^^^ (-1 : Int32))) = 0 then (16, [some (.inr (.inr (some (g0, 101)))), some (.inl ((((1 : Int32) <<< ((D.1 g0 101 0) &&& 31)) - (1 : Int32)) &&& ((D.1 g0 101 2) ^^^ (-1 : Int32))))], [], D) else (23, [some (.inr (.inr (some (g0, 101)))), some (.inl ((((1 : Int32) <<< ((D.1 g0 101 0) &&& 31)) - (1 : Int32)) &&& ((D.1 g0 101 2) ^^^ (-1 : Int32))))], [], D))) bX4_heads_4 oX4_heads_4 rfl ⟨hg0, trivial⟩ ?_
  refine mz_Go.ite (fun hc1 => ?_) (fun hc1 => ?_)
  · have h := mz_ifp hc1 h
    refine mz_Go.run (gs := []) (st' := (17, [some (.inr (.inr (some (g0, 101)))), some (.inl ((((1 : Int32) <<< ((D.1 g0 101 0) &&& 31)) - (1 : Int32)) &&& ((D.1 g0 101 2) ^^^ (-1 : Int32))))], [.inr (.inr (some (g0, 101)))], D)) bX4_heads_16 oX4_heads_16 rfl trivial ?_
    refine mz_Go.callV (I := IX4_heads) (J := IX4_everyone) (as := []) (ci := 4) (g := g0) (o := 101) (idx := 54) (pl := 1027) (rest := []) (mX4_everyone g0 D hg0) kX4_everyone vX4_everyone (by decide +kernel) (by decide +kernel) (by decide +kernel) rfl rfl ⟨rfl, rfl⟩ rfl rfl hg0 rfl ?_
    refine mz_Go.run (gs := []) (st' := (24, [some (.inr (.inr (some (g0, 101)))), some (.inl ((((1 : Int32) <<< ((D.1 g0 101 0) &&& 31)) - (1 : Int32)) &&& ((D.1 g0 101 2) ^^^ (-1 : Int32))))], [.inl (((1 : Int32) <<< ((D.1 g0 101 0) &&& 31)) - (1 : Int32))], D)) bX4_heads_20 oX4_heads_20 rfl trivial ?_
    subst h
    exact mz_Go.reti (by decide +kernel) rfl ⟨Nat.le_refl _, Nat.le_refl _⟩ rfl
  · have h := mz_ifn hc1 h
    refine mz_Go.run (gs := []) (st' := (24, [some (.inr (.inr (some (g0, 101)))), some (.inl ((((1 : Int32) <<< ((D.1 g0 101 0) &&& 31)) - (1 : Int32)) &&& ((D.1 g0 101 2) ^^^ (-1 : Int32))))], [.inl ((((1 : Int32) <<< ((D.1 g0 101 0) &&& 31)) - (1 : Int32)) &&& ((D.1 g0 101 2) ^^^ (-1 : Int32)))], D)) bX4_heads_23 oX4_heads_23 rfl trivial ?_
    subst h
    exact mz_Go.reti (by decide +kernel) rfl ⟨Nat.le_refl _, Nat.le_refl _⟩ rfl
def bX1_takeFromGuests_0 : List mz_E := [(0, .aload_n 0, 0, 0, 0, 0, 0)]
theorem oX1_takeFromGuests_0 : bX1_takeFromGuests_0.all (mz_ok RX1 cX1_takeFromGuests 5) = true := by decide +kernel
def bX1_takeFromGuests_4 : List mz_E := [(4, .istore_n 2, 0, 0, 0, 0, 0), (5, .iconst 0, 0, 0, 0, 0, 0), (6, .istore_n 3, 0, 0, 0, 0, 0), (7, .iconst 0, 0, 0, 0, 0, 0), (8, .istore 4, 0, 0, 0, 0, 0)]
theorem oX1_takeFromGuests_4 : bX1_takeFromGuests_4.all (mz_ok RX1 cX1_takeFromGuests 5) = true := by decide +kernel
def bX1_takeFromGuests_10 : List mz_E := [(10, .iload 4, 0, 0, 0, 0, 0), (12, .aload_n 0, 0, 0, 0, 0, 0), (13, .getfield 69, 4, 0, 289, 0, 0), (16, .if_icmp .ge 30, 0, 46, 0, 0, 0)]
theorem oX1_takeFromGuests_10 : bX1_takeFromGuests_10.all (mz_ok RX1 cX1_takeFromGuests 5) = true := by decide +kernel
def bX1_takeFromGuests_46 : List mz_E := [(46, .iload_n 3, 0, 0, 0, 0, 0)]
theorem oX1_takeFromGuests_46 : bX1_takeFromGuests_46.all (mz_ok RX1 cX1_takeFromGuests 5) = true := by decide +kernel
def bX1_takeFromGuests_19 : List mz_E := [(19, .iload_n 2, 0, 0, 0, 0, 0), (20, .iload 4, 0, 0, 0, 0, 0)]
theorem oX1_takeFromGuests_19 : bX1_takeFromGuests_19.all (mz_ok RX1 cX1_takeFromGuests 5) = true := by decide +kernel
def bX1_takeFromGuests_25 : List mz_E := [(25, .ifCond .ne 15, 0, 40, 0, 0, 0)]
theorem oX1_takeFromGuests_25 : bX1_takeFromGuests_25.all (mz_ok RX1 cX1_takeFromGuests 5) = true := by decide +kernel
def bX1_takeFromGuests_28 : List mz_E := [(28, .iload_n 3, 0, 0, 0, 0, 0), (29, .aload_n 1, 0, 0, 0, 0, 0), (30, .iload 4, 0, 0, 0, 0, 0), (32, .iaload, 0, 0, 0, 0, 0), (33, .iadd, 0, 0, 0, 0, 0), (34, .istore_n 3, 0, 0, 0, 0, 0), (35, .aload_n 1, 0, 0, 0, 0, 0), (36, .iload 4, 0, 0, 0, 0, 0), (38, .iconst 0, 0, 0, 0, 0, 0), (39, .iastore, 0, 0, 0, 0, 0), (40, .iinc 4 1, 0, 0, 0, 1, 0), (43, .goto (-33), 0, 10, 0, 0, 0)]
theorem oX1_takeFromGuests_28 : bX1_takeFromGuests_28.all (mz_ok RX1 cX1_takeFromGuests 5) = true := by decide +kernel
def bX1_takeFromGuests_40 : List mz_E := [(40, .iinc 4 1, 0, 0, 0, 1, 0), (43, .goto (-33), 0, 10, 0, 0, 0)]
theorem oX1_takeFromGuests_40 : bX1_takeFromGuests_40.all (mz_ok RX1 cX1_takeFromGuests 5) = true := by decide +kernel
abbrev IX1_takeFromGuests_14 : mz_I := (yX1_takeFromGuests, cX1_takeFromGuests, 5, (some .int), 0, 2, 0, 0)
theorem kX1_takeFromGuests_14 : mz_okm IX1_takeFromGuests_14 1086 136 1085 2 = true := by decide +kernel
theorem vX1_takeFromGuests_14 : mz_okS IX1_takeFromGuests_14 1085 = true := by decide +kernel
def fX1_takeFromGuests_14_10 (g0 : Nat) : Nat → Int32 → Int32 → Int32 → mz_D → Option (Int32 × mz_D)
  | 0 => fun _ _ _ _ => none
  | n + 1 => fun x2 x3 x4 D => (if (D.1 g0 101 0) ≤ x4 then (some (x3, D)) else (if (fX11_isIn x2 x4) = 0 then (mz_gd (mz_ix x4 6) ((fX1_takeFromGuests_14_10 g0 n) x2 (x3 + (D.1 0 14 (x4).toNatClampNeg)) (x4 + (1 : Int32)) (mz_wi D 0 14 (x4).toNatClampNeg (0 : Int32)))) else ((fX1_takeFromGuests_14_10 g0 n) x2 x3 (x4 + (1 : Int32)) D)))
set_option maxHeartbeats 4000000 in
theorem tX1_takeFromGuests_14_10 (g0 : Nat) (hg0 : mz_tb g0 = true) (r : (Int32 × mz_D)) : ∀ (n : Nat) (x2 : Int32) (x3 : Int32) (x4 : Int32) (D : mz_D), fX1_takeFromGuests_14_10 g0 n x2 x3 x4 D = some r → mz_Go IX1_takeFromGuests_14 (some (.inl r.1), r.2) 0 0 (10, [some (.inr (.inr (some (g0, 101)))), some (.inr (.inr (some (0, 14)))), some (.inl x2), some (.inl x3), some (.inl x4)], [], D) := by
  intro n
  induction n with
  | zero => intro x2 x3 x4 D h; have h : (none : Option (Int32 × mz_D)) = some r := h; cases h
  | succ n ih =>
    intro x2 x3 x4 D h
    rw [fX1_takeFromGuests_14_10] at h
    refine mz_Go.run (gs := [mz_kz 0 g0 101]) (st' := (if (D.1 g0 101 0) ≤ x4 then (46, [some (.inr (.inr (some (g0, 101)))), some (.inr (.inr (some (0, 14)))), some (.inl x2), some (.inl x3), some (.inl x4)], [], D) else (19, [some (.inr (.inr (some (g0, 101)))), some (.inr (.inr (some (0, 14)))), some (.inl x2), some (.inl x3), some (.inl x4)], [], D))) bX1_takeFromGuests_10 oX1_takeFromGuests_10 rfl ⟨hg0, trivial⟩ ?_
    refine mz_Go.ite (fun hc1 => ?_) (fun hc1 => ?_)
    · have h := mz_ifp hc1 h
      refine mz_Go.run (gs := []) (st' := (47, [some (.inr (.inr (some (g0, 101)))), some (.inr (.inr (some (0, 14)))), some (.inl x2), some (.inl x3), some (.inl x4)], [.inl x3], D)) bX1_takeFromGuests_46 oX1_takeFromGuests_46 rfl trivial ?_
      cases h
      exact mz_Go.reti (by decide +kernel) rfl ⟨Nat.le_refl _, Nat.le_refl _⟩ rfl
    · have h := mz_ifn hc1 h
      refine mz_Go.run (gs := []) (st' := (22, [some (.inr (.inr (some (g0, 101)))), some (.inr (.inr (some (0, 14)))), some (.inl x2), some (.inl x3), some (.inl x4)], [.inl x4, .inl x2], D)) bX1_takeFromGuests_19 oX1_takeFromGuests_19 rfl trivial ?_
      refine mz_Go.callSN (I := IX1_takeFromGuests_14) (J := IX11_isIn) (as := [.inl x2, .inl x4]) (idx := 70) (pl := 1069) (rest := []) (mX11_isIn x2 x4 D _ rfl) kX11_isIn vX11_isIn (by decide +kernel) (by decide +kernel) (by decide +kernel) rfl rfl ⟨rfl, rfl⟩ rfl ?_
      refine mz_Go.run (gs := []) (st' := (if (fX11_isIn x2 x4) = 0 then (28, [some (.inr (.inr (some (g0, 101)))), some (.inr (.inr (some (0, 14)))), some (.inl x2), some (.inl x3), some (.inl x4)], [], D) else (40, [some (.inr (.inr (some (g0, 101)))), some (.inr (.inr (some (0, 14)))), some (.inl x2), some (.inl x3), some (.inl x4)], [], D))) bX1_takeFromGuests_25 oX1_takeFromGuests_25 rfl trivial ?_
      refine mz_Go.ite (fun hc2 => ?_) (fun hc2 => ?_)
      · have h := mz_ifp hc2 h
        obtain ⟨hb3, h⟩ := mz_gd_some h
        refine mz_Go.run (gs := [mz_kz 0 0 14, mz_ix x4 6, mz_kz 0 0 14, mz_ix x4 6]) (st' := (10, [some (.inr (.inr (some (g0, 101)))), some (.inr (.inr (some (0, 14)))), some (.inl x2), some (.inl (x3 + (D.1 0 14 (x4).toNatClampNeg))), some (.inl (x4 + (1 : Int32)))], [], (mz_wi D 0 14 (x4).toNatClampNeg (0 : Int32)))) bX1_takeFromGuests_28 oX1_takeFromGuests_28 rfl ⟨rfl, hb3, rfl, hb3, trivial⟩ ?_
        exact mz_Go.drop [true, true, true, true, true] (ih x2 (x3 + (D.1 0 14 (x4).toNatClampNeg)) (x4 + (1 : Int32)) (mz_wi D 0 14 (x4).toNatClampNeg (0 : Int32)) h)
      · have h := mz_ifn hc2 h
        refine mz_Go.run (gs := []) (st' := (10, [some (.inr (.inr (some (g0, 101)))), some (.inr (.inr (some (0, 14)))), some (.inl x2), some (.inl x3), some (.inl (x4 + (1 : Int32)))], [], D)) bX1_takeFromGuests_40 oX1_takeFromGuests_40 rfl trivial ?_
        exact mz_Go.drop [true, true, true, true, true] (ih x2 x3 (x4 + (1 : Int32)) D h)
def fX1_takeFromGuests_14 (g0 : Nat) (D : mz_D) : Option (Int32 × mz_D) := (fX1_takeFromGuests_14_10 g0 mz_N (fX4_heads g0 D) (0 : Int32) (0 : Int32) D)
set_option maxHeartbeats 4000000 in
theorem mX1_takeFromGuests_14 (g0 : Nat) (D : mz_D) (hg0 : mz_tb g0 = true) (r : (Int32 × mz_D)) (h : fX1_takeFromGuests_14 g0 D = some r) : mz_Met IX1_takeFromGuests_14 [.inr (.inr (some (g0, 101))), .inr (.inr (some (0, 14)))] D (some (.inl r.1), r.2) := by
  refine mz_Met.of (by decide +kernel) (Nat.le_of_ble_eq_true rfl) ?_
  show mz_Go IX1_takeFromGuests_14 (some (.inl r.1), r.2) 0 0 (0, [some (.inr (.inr (some (g0, 101)))), some (.inr (.inr (some (0, 14)))), none, none, none], [], D)
  rw [fX1_takeFromGuests_14] at h
  refine mz_Go.run (gs := []) (st' := (1, [some (.inr (.inr (some (g0, 101)))), some (.inr (.inr (some (0, 14)))), none, none, none], [.inr (.inr (some (g0, 101)))], D)) bX1_takeFromGuests_0 oX1_takeFromGuests_0 rfl trivial ?_
  refine mz_Go.callV (I := IX1_takeFromGuests_14) (J := IX4_heads) (as := []) (ci := 4) (g := g0) (o := 101) (idx := 60) (pl := 1087) (rest := []) (mX4_heads g0 D hg0 _ rfl) kX4_heads vX4_heads (by decide +kernel) (by decide +kernel) (by decide +kernel) rfl rfl ⟨rfl, rfl⟩ rfl rfl hg0 rfl ?_
  refine mz_Go.run (gs := []) (st' := (10, [some (.inr (.inr (some (g0, 101)))), some (.inr (.inr (some (0, 14)))), some (.inl (fX4_heads g0 D)), some (.inl (0 : Int32)), some (.inl (0 : Int32))], [], D)) bX1_takeFromGuests_4 oX1_takeFromGuests_4 rfl trivial ?_
  exact mz_Go.drop [true, true, true, true, true] (tX1_takeFromGuests_14_10 g0 hg0 r mz_N (fX4_heads g0 D) (0 : Int32) (0 : Int32) D h)
def bX4_unitPayers_0 : List mz_E := [(0, .aload_n 0, 0, 0, 0, 0, 0)]
theorem oX4_unitPayers_0 : bX4_unitPayers_0.all (mz_ok RX4 cX4_unitPayers 5) = true := by decide +kernel
def bX4_unitPayers_4 : List mz_E := [(4, .istore_n 1, 0, 0, 0, 0, 0), (5, .iload_n 1, 0, 0, 0, 0, 0), (6, .istore_n 2, 0, 0, 0, 0, 0), (7, .iconst 0, 0, 0, 0, 0, 0), (8, .istore_n 3, 0, 0, 0, 0, 0)]
theorem oX4_unitPayers_4 : bX4_unitPayers_4.all (mz_ok RX4 cX4_unitPayers 5) = true := by decide +kernel
def bX4_unitPayers_9 : List mz_E := [(9, .iload_n 3, 0, 0, 0, 0, 0), (10, .aload_n 0, 0, 0, 0, 0, 0), (11, .getfield 34, 4, 0, 286, 0, 0), (14, .if_icmp .ge 53, 0, 67, 0, 0, 0)]
theorem oX4_unitPayers_9 : bX4_unitPayers_9.all (mz_ok RX4 cX4_unitPayers 5) = true := by decide +kernel
def bX4_unitPayers_67 : List mz_E := [(67, .iload_n 2, 0, 0, 0, 0, 0)]
theorem oX4_unitPayers_67 : bX4_unitPayers_67.all (mz_ok RX4 cX4_unitPayers 5) = true := by decide +kernel
def bX4_unitPayers_17 : List mz_E := [(17, .aload_n 0, 0, 0, 0, 0, 0), (18, .getfield 28, 4, 8, 316, 0, 0), (21, .iload_n 3, 0, 0, 0, 0, 0), (22, .iaload, 0, 0, 0, 0, 0), (23, .istore 4, 0, 0, 0, 0, 0), (25, .iload 4, 0, 0, 0, 0, 0), (27, .ifCond .lt 34, 0, 61, 0, 0, 0)]
theorem oX4_unitPayers_17 : bX4_unitPayers_17.all (mz_ok RX4 cX4_unitPayers 5) = true := by decide +kernel
def bX4_unitPayers_61 : List mz_E := [(61, .iinc 3 1, 0, 0, 0, 1, 0), (64, .goto (-55), 0, 9, 0, 0, 0)]
theorem oX4_unitPayers_61 : bX4_unitPayers_61.all (mz_ok RX4 cX4_unitPayers 5) = true := by decide +kernel
def bX4_unitPayers_30 : List mz_E := [(30, .iload 4, 0, 0, 0, 0, 0), (32, .iload_n 3, 0, 0, 0, 0, 0), (33, .if_icmp .ge 28, 0, 61, 0, 0, 0)]
theorem oX4_unitPayers_30 : bX4_unitPayers_30.all (mz_ok RX4 cX4_unitPayers 5) = true := by decide +kernel
def bX4_unitPayers_36 : List mz_E := [(36, .iload_n 1, 0, 0, 0, 0, 0), (37, .iload_n 3, 0, 0, 0, 0, 0)]
theorem oX4_unitPayers_36 : bX4_unitPayers_36.all (mz_ok RX4 cX4_unitPayers 5) = true := by decide +kernel
def bX4_unitPayers_41 : List mz_E := [(41, .ifCond .eq 20, 0, 61, 0, 0, 0)]
theorem oX4_unitPayers_41 : bX4_unitPayers_41.all (mz_ok RX4 cX4_unitPayers 5) = true := by decide +kernel
def bX4_unitPayers_44 : List mz_E := [(44, .iload_n 1, 0, 0, 0, 0, 0), (45, .iload 4, 0, 0, 0, 0, 0)]
theorem oX4_unitPayers_44 : bX4_unitPayers_44.all (mz_ok RX4 cX4_unitPayers 5) = true := by decide +kernel
def bX4_unitPayers_50 : List mz_E := [(50, .ifCond .eq 11, 0, 61, 0, 0, 0)]
theorem oX4_unitPayers_50 : bX4_unitPayers_50.all (mz_ok RX4 cX4_unitPayers 5) = true := by decide +kernel
def bX4_unitPayers_53 : List mz_E := [(53, .iload_n 2, 0, 0, 0, 0, 0), (54, .iconst 1, 0, 0, 0, 1, 0), (55, .iload_n 3, 0, 0, 0, 0, 0), (56, .ishl, 0, 0, 0, 0, 0), (57, .iconst (-1), 0, 0, 0, -1, 0), (58, .ixor, 0, 0, 0, 0, 0), (59, .iand, 0, 0, 0, 0, 0), (60, .istore_n 2, 0, 0, 0, 0, 0), (61, .iinc 3 1, 0, 0, 0, 1, 0), (64, .goto (-55), 0, 9, 0, 0, 0)]
theorem oX4_unitPayers_53 : bX4_unitPayers_53.all (mz_ok RX4 cX4_unitPayers 5) = true := by decide +kernel
abbrev IX4_unitPayers : mz_I := (yX4_unitPayers, cX4_unitPayers, 5, (some .int), 0, 2, 0, 0)
theorem kX4_unitPayers : mz_okm IX4_unitPayers 1092 135 1090 0 = true := by decide +kernel
theorem vX4_unitPayers : mz_okV IX4_unitPayers 1090 1091 = true := by decide +kernel
def fX4_unitPayers_9 (g0 : Nat) (D : mz_D) : Nat → Int32 → Int32 → Int32 → Option Int32
  | 0 => fun _ _ _ => none
  | n + 1 => fun x1 x2 x3 => (if (D.1 g0 101 0) ≤ x3 then (some x2) else (mz_gd (mz_ix x3 6) (if (D.1 g0 107 (x3).toNatClampNeg) < 0 then ((fX4_unitPayers_9 g0 D n) x1 x2 (x3 + (1 : Int32))) else (if x3 ≤ (D.1 g0 107 (x3).toNatClampNeg) then ((fX4_unitPayers_9 g0 D n) x1 x2 (x3 + (1 : Int32))) else (if (fX11_isIn x1 x3) = 0 then ((fX4_unitPayers_9 g0 D n) x1 x2 (x3 + (1 : Int32))) else (if (fX11_isIn x1 (D.1 g0 107 (x3).toNatClampNeg)) = 0 then ((fX4_unitPayers_9 g0 D n) x1 x2 (x3 + (1 : Int32))) else ((fX4_unitPayers_9 g0 D n) x1 (x2 &&& (((1 : Int32) <<< (x3 &&& 31)) ^^^ (-1 : Int32))) (x3 + (1 : Int32)))))))))
set_option maxHeartbeats 4000000 in
theorem tX4_unitPayers_9 (g0 : Nat) (D : mz_D) (hg0 : mz_tb g0 = true) (r : Int32) : ∀ (n : Nat) (x1 : Int32) (x2 : Int32) (x3 : Int32), fX4_unitPayers_9 g0 D n x1 x2 x3 = some r → mz_Go IX4_unitPayers (some (.inl r), D) 0 0 (9, [some (.inr (.inr (some (g0, 101)))), some (.inl x1), some (.inl x2), some (.inl x3), none], [], D) := by
  intro n
  induction n with
  | zero => intro x1 x2 x3 h; have h : (none : Option Int32) = some r := h; cases h
  | succ n ih =>
    intro x1 x2 x3 h
    rw [fX4_unitPayers_9] at h
    refine mz_Go.run (gs := [mz_kz 0 g0 101]) (st' := (if (D.1 g0 101 0) ≤ x3 then (67, [some (.inr (.inr (some (g0, 101)))), some (.inl x1), some (.inl x2), some (.inl x3), none], [], D) else (17, [some (.inr (.inr (some (g0, 101)))), some (.inl x1), some (.inl x2), some (.inl x3), none], [], D))) bX4_unitPayers_9 oX4_unitPayers_9 rfl ⟨hg0, trivial⟩ ?_
    refine mz_Go.ite (fun hc1 => ?_) (fun hc1 => ?_)
    · have h := mz_ifp hc1 h
      refine mz_Go.run (gs := []) (st' := (68, [some (.inr (.inr (some (g0, 101)))), some (.inl x1), some (.inl x2), some (.inl x3), none], [.inl x2], D)) bX4_unitPayers_67 oX4_unitPayers_67 rfl trivial ?_
      cases h
      exact mz_Go.reti (by decide +kernel) rfl ⟨Nat.le_refl _, Nat.le_refl _⟩ rfl
    · have h := mz_ifn hc1 h
      obtain ⟨hb2, h⟩ := mz_gd_some h
      refine mz_Go.run (gs := [mz_kz 0 g0 101, mz_kz 0 g0 107, mz_ix x3 6]) (st' := (if (D.1 g0 107 (x3).toNatClampNeg) < 0 then (61, [some (.inr (.inr (some (g0, 101)))), some (.inl x1), some (.inl x2), some (.inl x3), some (.inl (D.1 g0 107 (x3).toNatClampNeg))], [], D) else (30, [some (.inr (.inr (some (g0, 101)))), some (.inl x1), some (.inl x2), some (.inl x3), some (.inl (D.1 g0 107 (x3).toNatClampNeg))], [], D))) bX4_unitPayers_17 oX4_unitPayers_17 rfl ⟨hg0, hg0, hb2, trivial⟩ ?_
      refine mz_Go.ite (fun hc3 => ?_) (fun hc3 => ?_)
      · have h := mz_ifp hc3 h
        refine mz_Go.run (gs := []) (st' := (9, [some (.inr (.inr (some (g0, 101)))), some (.inl x1), some (.inl x2), some (.inl (x3 + (1 : Int32))), some (.inl (D.1 g0 107 (x3).toNatClampNeg))], [], D)) bX4_unitPayers_61 oX4_unitPayers_61 rfl trivial ?_
        exact mz_Go.drop [true, true, true, true, false] (ih x1 x2 (x3 + (1 : Int32)) h)
      · have h := mz_ifn hc3 h
        refine mz_Go.run (gs := []) (st' := (if x3 ≤ (D.1 g0 107 (x3).toNatClampNeg) then (61, [some (.inr (.inr (some (g0, 101)))), some (.inl x1), some (.inl x2), some (.inl x3), some (.inl (D.1 g0 107 (x3).toNatClampNeg))], [], D) else (36, [some (.inr (.inr (some (g0, 101)))), some (.inl x1), some (.inl x2), some (.inl x3), some (.inl (D.1 g0 107 (x3).toNatClampNeg))], [], D))) bX4_unitPayers_30 oX4_unitPayers_30 rfl trivial ?_
        refine mz_Go.ite (fun hc4 => ?_) (fun hc4 => ?_)
        · have h := mz_ifp hc4 h
          refine mz_Go.run (gs := []) (st' := (9, [some (.inr (.inr (some (g0, 101)))), some (.inl x1), some (.inl x2), some (.inl (x3 + (1 : Int32))), some (.inl (D.1 g0 107 (x3).toNatClampNeg))], [], D)) bX4_unitPayers_61 oX4_unitPayers_61 rfl trivial ?_
          exact mz_Go.drop [true, true, true, true, false] (ih x1 x2 (x3 + (1 : Int32)) h)
        · have h := mz_ifn hc4 h
          refine mz_Go.run (gs := []) (st' := (38, [some (.inr (.inr (some (g0, 101)))), some (.inl x1), some (.inl x2), some (.inl x3), some (.inl (D.1 g0 107 (x3).toNatClampNeg))], [.inl x3, .inl x1], D)) bX4_unitPayers_36 oX4_unitPayers_36 rfl trivial ?_
          refine mz_Go.callSN (I := IX4_unitPayers) (J := IX11_isIn) (as := [.inl x1, .inl x3]) (idx := 61) (pl := 1094) (rest := []) (mX11_isIn x1 x3 D _ rfl) kX11_isIn vX11_isIn (by decide +kernel) (by decide +kernel) (by decide +kernel) rfl rfl ⟨rfl, rfl⟩ rfl ?_
          refine mz_Go.run (gs := []) (st' := (if (fX11_isIn x1 x3) = 0 then (61, [some (.inr (.inr (some (g0, 101)))), some (.inl x1), some (.inl x2), some (.inl x3), some (.inl (D.1 g0 107 (x3).toNatClampNeg))], [], D) else (44, [some (.inr (.inr (some (g0, 101)))), some (.inl x1), some (.inl x2), some (.inl x3), some (.inl (D.1 g0 107 (x3).toNatClampNeg))], [], D))) bX4_unitPayers_41 oX4_unitPayers_41 rfl trivial ?_
          refine mz_Go.ite (fun hc5 => ?_) (fun hc5 => ?_)
          · have h := mz_ifp hc5 h
            refine mz_Go.run (gs := []) (st' := (9, [some (.inr (.inr (some (g0, 101)))), some (.inl x1), some (.inl x2), some (.inl (x3 + (1 : Int32))), some (.inl (D.1 g0 107 (x3).toNatClampNeg))], [], D)) bX4_unitPayers_61 oX4_unitPayers_61 rfl trivial ?_
            exact mz_Go.drop [true, true, true, true, false] (ih x1 x2 (x3 + (1 : Int32)) h)
          · have h := mz_ifn hc5 h
            refine mz_Go.run (gs := []) (st' := (47, [some (.inr (.inr (some (g0, 101)))), some (.inl x1), some (.inl x2), some (.inl x3), some (.inl (D.1 g0 107 (x3).toNatClampNeg))], [.inl (D.1 g0 107 (x3).toNatClampNeg), .inl x1], D)) bX4_unitPayers_44 oX4_unitPayers_44 rfl trivial ?_
            refine mz_Go.callSN (I := IX4_unitPayers) (J := IX11_isIn) (as := [.inl x1, .inl (D.1 g0 107 (x3).toNatClampNeg)]) (idx := 61) (pl := 1094) (rest := []) (mX11_isIn x1 (D.1 g0 107 (x3).toNatClampNeg) D _ rfl) kX11_isIn vX11_isIn (by decide +kernel) (by decide +kernel) (by decide +kernel) rfl rfl ⟨rfl, rfl⟩ rfl ?_
            refine mz_Go.run (gs := []) (st' := (if (fX11_isIn x1 (D.1 g0 107 (x3).toNatClampNeg)) = 0 then (61, [some (.inr (.inr (some (g0, 101)))), some (.inl x1), some (.inl x2), some (.inl x3), some (.inl (D.1 g0 107 (x3).toNatClampNeg))], [], D) else (53, [some (.inr (.inr (some (g0, 101)))), some (.inl x1), some (.inl x2), some (.inl x3), some (.inl (D.1 g0 107 (x3).toNatClampNeg))], [], D))) bX4_unitPayers_50 oX4_unitPayers_50 rfl trivial ?_
            refine mz_Go.ite (fun hc6 => ?_) (fun hc6 => ?_)
            · have h := mz_ifp hc6 h
              refine mz_Go.run (gs := []) (st' := (9, [some (.inr (.inr (some (g0, 101)))), some (.inl x1), some (.inl x2), some (.inl (x3 + (1 : Int32))), some (.inl (D.1 g0 107 (x3).toNatClampNeg))], [], D)) bX4_unitPayers_61 oX4_unitPayers_61 rfl trivial ?_
              exact mz_Go.drop [true, true, true, true, false] (ih x1 x2 (x3 + (1 : Int32)) h)
            · have h := mz_ifn hc6 h
              refine mz_Go.run (gs := []) (st' := (9, [some (.inr (.inr (some (g0, 101)))), some (.inl x1), some (.inl (x2 &&& (((1 : Int32) <<< (x3 &&& 31)) ^^^ (-1 : Int32)))), some (.inl (x3 + (1 : Int32))), some (.inl (D.1 g0 107 (x3).toNatClampNeg))], [], D)) bX4_unitPayers_53 oX4_unitPayers_53 rfl trivial ?_
              exact mz_Go.drop [true, true, true, true, false] (ih x1 (x2 &&& (((1 : Int32) <<< (x3 &&& 31)) ^^^ (-1 : Int32))) (x3 + (1 : Int32)) h)
def fX4_unitPayers (g0 : Nat) (D : mz_D) : Option Int32 := (fX4_unitPayers_9 g0 D mz_N (fX4_heads g0 D) (fX4_heads g0 D) (0 : Int32))
set_option maxHeartbeats 4000000 in
theorem mX4_unitPayers (g0 : Nat) (D : mz_D) (hg0 : mz_tb g0 = true) (r : Int32) (h : fX4_unitPayers g0 D = some r) : mz_Met IX4_unitPayers [.inr (.inr (some (g0, 101)))] D (some (.inl r), D) := by
  refine mz_Met.of (by decide +kernel) (Nat.le_of_ble_eq_true rfl) ?_
  show mz_Go IX4_unitPayers (some (.inl r), D) 0 0 (0, [some (.inr (.inr (some (g0, 101)))), none, none, none, none], [], D)
  rw [fX4_unitPayers] at h
  refine mz_Go.run (gs := []) (st' := (1, [some (.inr (.inr (some (g0, 101)))), none, none, none, none], [.inr (.inr (some (g0, 101)))], D)) bX4_unitPayers_0 oX4_unitPayers_0 rfl trivial ?_
  refine mz_Go.callV (I := IX4_unitPayers) (J := IX4_heads) (as := []) (ci := 4) (g := g0) (o := 101) (idx := 58) (pl := 1093) (rest := []) (mX4_heads g0 D hg0 _ rfl) kX4_heads vX4_heads (by decide +kernel) (by decide +kernel) (by decide +kernel) rfl rfl ⟨rfl, rfl⟩ rfl rfl hg0 rfl ?_
  refine mz_Go.run (gs := []) (st' := (9, [some (.inr (.inr (some (g0, 101)))), some (.inl (fX4_heads g0 D)), some (.inl (fX4_heads g0 D)), some (.inl (0 : Int32)), none], [], D)) bX4_unitPayers_4 oX4_unitPayers_4 rfl trivial ?_
  exact mz_Go.drop [true, true, true, true, false] (tX4_unitPayers_9 g0 D hg0 r mz_N (fX4_heads g0 D) (fX4_heads g0 D) (0 : Int32) h)
def bX1_fillDues_0 : List mz_E := [(0, .iload_n 2, 0, 0, 0, 0, 0), (1, .iconst 1, 0, 0, 0, 1, 0), (2, .if_icmp .ne 25, 0, 27, 0, 0, 0)]
theorem oX1_fillDues_0 : bX1_fillDues_0.all (mz_ok RX1 cX1_fillDues 4) = true := by decide +kernel
def bX1_fillDues_5 : List mz_E := [(5, .aload_n 0, 0, 0, 0, 0, 0), (6, .aload_n 1, 0, 0, 0, 0, 0), (7, .aload_n 3, 0, 0, 0, 0, 0)]
theorem oX1_fillDues_5 : bX1_fillDues_5.all (mz_ok RX1 cX1_fillDues 4) = true := by decide +kernel
def bX1_fillDues_11 : List mz_E := [(11, .aload_n 1, 0, 0, 0, 0, 0), (12, .aload_n 3, 0, 0, 0, 0, 0)]
theorem oX1_fillDues_11 : bX1_fillDues_11.all (mz_ok RX1 cX1_fillDues 4) = true := by decide +kernel
def bX1_fillDues_16 : List mz_E := [(16, .aload_n 1, 0, 0, 0, 0, 0)]
theorem oX1_fillDues_16 : bX1_fillDues_16.all (mz_ok RX1 cX1_fillDues 4) = true := by decide +kernel
def bX1_fillDues_20 : List mz_E := [(20, .aload_n 3, 0, 0, 0, 0, 0)]
theorem oX1_fillDues_20 : bX1_fillDues_20.all (mz_ok RX1 cX1_fillDues 4) = true := by decide +kernel
def bX1_fillDues_24 : List mz_E := [(24, .goto 32, 0, 56, 0, 0, 0)]
theorem oX1_fillDues_24 : bX1_fillDues_24.all (mz_ok RX1 cX1_fillDues 4) = true := by decide +kernel
def bX1_fillDues_27 : List mz_E := [(27, .aload_n 3, 0, 0, 0, 0, 0), (28, .iconst 0, 0, 0, 0, 0, 0)]
theorem oX1_fillDues_27 : bX1_fillDues_27.all (mz_ok RX1 cX1_fillDues 4) = true := by decide +kernel
def bX1_fillDues_32 : List mz_E := [(32, .aload_n 0, 0, 0, 0, 0, 0)]
theorem oX1_fillDues_32 : bX1_fillDues_32.all (mz_ok RX1 cX1_fillDues 4) = true := by decide +kernel
def bX1_fillDues_36 : List mz_E := [(36, .iload_n 2, 0, 0, 0, 0, 0), (37, .iconst 2, 0, 0, 0, 2, 0), (38, .if_icmp .ne 10, 0, 48, 0, 0, 0)]
theorem oX1_fillDues_36 : bX1_fillDues_36.all (mz_ok RX1 cX1_fillDues 4) = true := by decide +kernel
def bX1_fillDues_41 : List mz_E := [(41, .aload_n 1, 0, 0, 0, 0, 0)]
theorem oX1_fillDues_41 : bX1_fillDues_41.all (mz_ok RX1 cX1_fillDues 4) = true := by decide +kernel
def bX1_fillDues_45 : List mz_E := [(45, .goto 7, 0, 52, 0, 0, 0)]
theorem oX1_fillDues_45 : bX1_fillDues_45.all (mz_ok RX1 cX1_fillDues 4) = true := by decide +kernel
def bX1_fillDues_52 : List mz_E := [(52, .aload_n 3, 0, 0, 0, 0, 0)]
theorem oX1_fillDues_52 : bX1_fillDues_52.all (mz_ok RX1 cX1_fillDues 4) = true := by decide +kernel
def bX1_fillDues_48 : List mz_E := [(48, .aload_n 1, 0, 0, 0, 0, 0)]
theorem oX1_fillDues_48 : bX1_fillDues_48.all (mz_ok RX1 cX1_fillDues 4) = true := by decide +kernel
abbrev IX1_fillDues_14 : mz_I := (yX1_fillDues, cX1_fillDues, 4, none, 0, 3, 0, 0)
theorem kX1_fillDues_14 : mz_okm IX1_fillDues_14 1082 136 1080 3 = true := by decide +kernel
theorem vX1_fillDues_14 : mz_okV IX1_fillDues_14 1080 1081 = true := by decide +kernel
def fX1_fillDues_14_52 (g0 : Nat) (g1 : Nat) (s0 : Int32) (s1 : Int32) (D : mz_D) : Option mz_D := (Option.bind (fX1_spread_14 s1 s0 D) fun q1 => (some q1))
set_option maxHeartbeats 4000000 in
theorem tX1_fillDues_14_52 (g0 : Nat) (g1 : Nat) (hg0 : mz_tb g0 = true) (hg1 : mz_tb g1 = true) (r : mz_D) : ∀ (s0 : Int32) (s1 : Int32) (D : mz_D), fX1_fillDues_14_52 g0 g1 s0 s1 D = some r → mz_Go IX1_fillDues_14 (none, r) 0 0 (52, [none, none, none, some (.inr (.inr (some (0, 14))))], [.inl s0, .inl s1], D) := by
  intro s0 s1 D h
  rw [fX1_fillDues_14_52] at h
  refine mz_Go.run (gs := []) (st' := (53, [none, none, none, some (.inr (.inr (some (0, 14))))], [.inr (.inr (some (0, 14))), .inl s0, .inl s1], D)) bX1_fillDues_52 oX1_fillDues_52 rfl trivial ?_
  obtain ⟨q1, hq1, h⟩ := mz_bd_some h
  refine mz_Go.callS (I := IX1_fillDues_14) (J := IX1_spread_14) (as := [.inl s1, .inl s0, .inr (.inr (some (0, 14)))]) (idx := 48) (pl := 1065) (rest := []) (mX1_spread_14 s1 s0 D q1 hq1) kX1_spread_14 vX1_spread_14 (by decide +kernel) (by decide +kernel) (by decide +kernel) rfl rfl ⟨rfl, rfl⟩ rfl ?_
  cases h
  exact mz_Go.retv (by decide +kernel) rfl ⟨Nat.le_refl _, Nat.le_refl _⟩ rfl
def fX1_fillDues_14 (g0 : Nat) (g1 : Nat) (x2 : Int32) (D : mz_D) : Option mz_D := (if x2 = (1 : Int32) then (Option.bind (fX1_fillEaten_14 g0 g1 D) fun q2 => (Option.bind (fX1_takeFromGuests_14 g1 q2) fun q3 => (Option.bind (fX1_spread_14 q3.1 (fX4_heads g1 q3.2) q3.2) fun q4 => (some q4)))) else (Option.bind (fJ7_fill_53178_14 (0 : Int32) D) fun q5 => (Option.bind (fX1_total g0 q5) fun q6 => (if x2 = (2 : Int32) then (Option.bind (fX4_unitPayers g1 q5) fun q8 => (fX1_fillDues_14_52 g0 g1 q8 q6 q5)) else (fX1_fillDues_14_52 g0 g1 (fX4_heads g1 q5) q6 q5)))))
set_option maxHeartbeats 4000000 in
theorem mX1_fillDues_14 (g0 : Nat) (g1 : Nat) (x2 : Int32) (D : mz_D) (hg0 : mz_tb g0 = true) (hg1 : mz_tb g1 = true) (r : mz_D) (h : fX1_fillDues_14 g0 g1 x2 D = some r) : mz_Met IX1_fillDues_14 [.inr (.inr (some (g0, 109))), .inr (.inr (some (g1, 101))), .inl x2, .inr (.inr (some (0, 14)))] D (none, r) := by
  refine mz_Met.of (by decide +kernel) (Nat.le_of_ble_eq_true rfl) ?_
  show mz_Go IX1_fillDues_14 (none, r) 0 0 (0, [some (.inr (.inr (some (g0, 109)))), some (.inr (.inr (some (g1, 101)))), some (.inl x2), some (.inr (.inr (some (0, 14))))], [], D)
  rw [fX1_fillDues_14] at h
  refine mz_Go.run (gs := []) (st' := (if x2 = (1 : Int32) then (5, [some (.inr (.inr (some (g0, 109)))), some (.inr (.inr (some (g1, 101)))), some (.inl x2), some (.inr (.inr (some (0, 14))))], [], D) else (27, [some (.inr (.inr (some (g0, 109)))), some (.inr (.inr (some (g1, 101)))), some (.inl x2), some (.inr (.inr (some (0, 14))))], [], D))) bX1_fillDues_0 oX1_fillDues_0 rfl trivial ?_
  refine mz_Go.ite (fun hc1 => ?_) (fun hc1 => ?_)
  · have h := mz_ifp hc1 h
    refine mz_Go.run (gs := []) (st' := (8, [some (.inr (.inr (some (g0, 109)))), some (.inr (.inr (some (g1, 101)))), some (.inl x2), some (.inr (.inr (some (0, 14))))], [.inr (.inr (some (0, 14))), .inr (.inr (some (g1, 101))), .inr (.inr (some (g0, 109)))], D)) bX1_fillDues_5 oX1_fillDues_5 rfl trivial ?_
    obtain ⟨q2, hq2, h⟩ := mz_bd_some h
    refine mz_Go.callV (I := IX1_fillDues_14) (J := IX1_fillEaten_14) (as := [.inr (.inr (some (g1, 101))), .inr (.inr (some (0, 14)))]) (ci := 1) (g := g0) (o := 109) (idx := 52) (pl := 1083) (rest := []) (mX1_fillEaten_14 g0 g1 D hg0 hg1 q2 hq2) kX1_fillEaten_14 vX1_fillEaten_14 (by decide +kernel) (by decide +kernel) (by decide +kernel) rfl rfl ⟨rfl, rfl⟩ rfl rfl hg0 rfl ?_
    refine mz_Go.run (gs := []) (st' := (13, [some (.inr (.inr (some (g0, 109)))), some (.inr (.inr (some (g1, 101)))), some (.inl x2), some (.inr (.inr (some (0, 14))))], [.inr (.inr (some (0, 14))), .inr (.inr (some (g1, 101)))], q2)) bX1_fillDues_11 oX1_fillDues_11 rfl trivial ?_
    obtain ⟨q3, hq3, h⟩ := mz_bd_some h
    refine mz_Go.callS (I := IX1_fillDues_14) (J := IX1_takeFromGuests_14) (as := [.inr (.inr (some (g1, 101))), .inr (.inr (some (0, 14)))]) (idx := 56) (pl := 1084) (rest := []) (mX1_takeFromGuests_14 g1 q2 hg1 q3 hq3) kX1_takeFromGuests_14 vX1_takeFromGuests_14 (by decide +kernel) (by decide +kernel) (by decide +kernel) rfl rfl ⟨rfl, rfl⟩ rfl ?_
    refine mz_Go.run (gs := []) (st' := (17, [some (.inr (.inr (some (g0, 109)))), some (.inr (.inr (some (g1, 101)))), some (.inl x2), some (.inr (.inr (some (0, 14))))], [.inr (.inr (some (g1, 101))), .inl q3.1], q3.2)) bX1_fillDues_16 oX1_fillDues_16 rfl trivial ?_
    refine mz_Go.callV (I := IX1_fillDues_14) (J := IX4_heads) (as := []) (ci := 4) (g := g1) (o := 101) (idx := 60) (pl := 1087) (rest := [.inl q3.1]) (mX4_heads g1 q3.2 hg1 _ rfl) kX4_heads vX4_heads (by decide +kernel) (by decide +kernel) (by decide +kernel) rfl rfl ⟨rfl, rfl⟩ rfl rfl hg1 rfl ?_
    refine mz_Go.run (gs := []) (st' := (21, [some (.inr (.inr (some (g0, 109)))), some (.inr (.inr (some (g1, 101)))), some (.inl x2), some (.inr (.inr (some (0, 14))))], [.inr (.inr (some (0, 14))), .inl (fX4_heads g1 q3.2), .inl q3.1], q3.2)) bX1_fillDues_20 oX1_fillDues_20 rfl trivial ?_
    obtain ⟨q4, hq4, h⟩ := mz_bd_some h
    refine mz_Go.callS (I := IX1_fillDues_14) (J := IX1_spread_14) (as := [.inl q3.1, .inl (fX4_heads g1 q3.2), .inr (.inr (some (0, 14)))]) (idx := 48) (pl := 1065) (rest := []) (mX1_spread_14 q3.1 (fX4_heads g1 q3.2) q3.2 q4 hq4) kX1_spread_14 vX1_spread_14 (by decide +kernel) (by decide +kernel) (by decide +kernel) rfl rfl ⟨rfl, rfl⟩ rfl ?_
    refine mz_Go.run (gs := []) (st' := (56, [some (.inr (.inr (some (g0, 109)))), some (.inr (.inr (some (g1, 101)))), some (.inl x2), some (.inr (.inr (some (0, 14))))], [], q4)) bX1_fillDues_24 oX1_fillDues_24 rfl trivial ?_
    cases h
    exact mz_Go.retv (by decide +kernel) rfl ⟨Nat.le_refl _, Nat.le_refl _⟩ rfl
  · have h := mz_ifn hc1 h
    refine mz_Go.run (gs := []) (st' := (29, [some (.inr (.inr (some (g0, 109)))), some (.inr (.inr (some (g1, 101)))), some (.inl x2), some (.inr (.inr (some (0, 14))))], [.inl (0 : Int32), .inr (.inr (some (0, 14)))], D)) bX1_fillDues_27 oX1_fillDues_27 rfl trivial ?_
    obtain ⟨q5, hq5, h⟩ := mz_bd_some h
    refine mz_Go.callS (I := IX1_fillDues_14) (J := IJ7_fill_53178_14) (as := [.inr (.inr (some (0, 14))), .inl (0 : Int32)]) (idx := 32) (pl := 1062) (rest := []) (mJ7_fill_53178_14 (0 : Int32) D q5 hq5) kJ7_fill_53178_14 vJ7_fill_53178_14 (by decide +kernel) (by decide +kernel) (by decide +kernel) rfl rfl ⟨rfl, rfl⟩ rfl ?_
    refine mz_Go.run (gs := []) (st' := (33, [some (.inr (.inr (some (g0, 109)))), some (.inr (.inr (some (g1, 101)))), some (.inl x2), some (.inr (.inr (some (0, 14))))], [.inr (.inr (some (g0, 109)))], q5)) bX1_fillDues_32 oX1_fillDues_32 rfl trivial ?_
    obtain ⟨q6, hq6, h⟩ := mz_bd_some h
    refine mz_Go.callV (I := IX1_fillDues_14) (J := IX1_total) (as := []) (ci := 1) (g := g0) (o := 109) (idx := 63) (pl := 1088) (rest := []) (mX1_total g0 q5 hg0 q6 hq6) kX1_total vX1_total (by decide +kernel) (by decide +kernel) (by decide +kernel) rfl rfl ⟨rfl, rfl⟩ rfl rfl hg0 rfl ?_
    refine mz_Go.run (gs := []) (st' := (if x2 = (2 : Int32) then (41, [some (.inr (.inr (some (g0, 109)))), some (.inr (.inr (some (g1, 101)))), some (.inl x2), some (.inr (.inr (some (0, 14))))], [.inl q6], q5) else (48, [some (.inr (.inr (some (g0, 109)))), some (.inr (.inr (some (g1, 101)))), some (.inl x2), some (.inr (.inr (some (0, 14))))], [.inl q6], q5))) bX1_fillDues_36 oX1_fillDues_36 rfl trivial ?_
    refine mz_Go.ite (fun hc7 => ?_) (fun hc7 => ?_)
    · have h := mz_ifp hc7 h
      refine mz_Go.run (gs := []) (st' := (42, [some (.inr (.inr (some (g0, 109)))), some (.inr (.inr (some (g1, 101)))), some (.inl x2), some (.inr (.inr (some (0, 14))))], [.inr (.inr (some (g1, 101))), .inl q6], q5)) bX1_fillDues_41 oX1_fillDues_41 rfl trivial ?_
      obtain ⟨q8, hq8, h⟩ := mz_bd_some h
      refine mz_Go.callV (I := IX1_fillDues_14) (J := IX4_unitPayers) (as := []) (ci := 4) (g := g1) (o := 101) (idx := 66) (pl := 1089) (rest := [.inl q6]) (mX4_unitPayers g1 q5 hg1 q8 hq8) kX4_unitPayers vX4_unitPayers (by decide +kernel) (by decide +kernel) (by decide +kernel) rfl rfl ⟨rfl, rfl⟩ rfl rfl hg1 rfl ?_
      refine mz_Go.run (gs := []) (st' := (52, [some (.inr (.inr (some (g0, 109)))), some (.inr (.inr (some (g1, 101)))), some (.inl x2), some (.inr (.inr (some (0, 14))))], [.inl q8, .inl q6], q5)) bX1_fillDues_45 oX1_fillDues_45 rfl trivial ?_
      exact mz_Go.drop [false, false, false, true] (tX1_fillDues_14_52 g0 g1 hg0 hg1 r q8 q6 q5 h)
    · have h := mz_ifn hc7 h
      refine mz_Go.run (gs := []) (st' := (49, [some (.inr (.inr (some (g0, 109)))), some (.inr (.inr (some (g1, 101)))), some (.inl x2), some (.inr (.inr (some (0, 14))))], [.inr (.inr (some (g1, 101))), .inl q6], q5)) bX1_fillDues_48 oX1_fillDues_48 rfl trivial ?_
      refine mz_Go.callV (I := IX1_fillDues_14) (J := IX4_heads) (as := []) (ci := 4) (g := g1) (o := 101) (idx := 60) (pl := 1087) (rest := [.inl q6]) (mX4_heads g1 q5 hg1 _ rfl) kX4_heads vX4_heads (by decide +kernel) (by decide +kernel) (by decide +kernel) rfl rfl ⟨rfl, rfl⟩ rfl rfl hg1 rfl ?_
      exact mz_Go.drop [false, false, false, true] (tX1_fillDues_14_52 g0 g1 hg0 hg1 r (fX4_heads g1 q5) q6 q5 h)
def bX3_leaveOrRepeat_0 : List mz_E := [(0, .aload_n 0, 0, 0, 0, 0, 0), (1, .getfield 69, 3, 8, 530, 0, 0), (4, .iconst 1, 0, 0, 0, 1, 0), (5, .isub, 0, 0, 0, 0, 0), (6, .istore_n 2, 0, 0, 0, 0, 0), (7, .aload_n 0, 0, 0, 0, 0, 0), (8, .getfield 15, 3, 10, 532, 0, 0), (11, .iload_n 2, 0, 0, 0, 0, 0), (12, .iaload, 0, 0, 0, 0, 0), (13, .ifCond .le 22, 0, 35, 0, 0, 0)]
theorem oX3_leaveOrRepeat_0 : bX3_leaveOrRepeat_0.all (mz_ok RX3 cX3_leaveOrRepeat 3) = true := by decide +kernel
def bX3_leaveOrRepeat_35 : List mz_E := [(35, .aload_n 0, 0, 0, 0, 0, 0), (36, .dup, 0, 0, 0, 0, 0), (37, .getfield 69, 3, 8, 530, 0, 0), (40, .iconst 1, 0, 0, 0, 1, 0), (41, .isub, 0, 0, 0, 0, 0), (42, .putfield 69, 3, 8, 530, 0, 0), (45, .iload_n 1, 0, 0, 0, 0, 0)]
theorem oX3_leaveOrRepeat_35 : bX3_leaveOrRepeat_35.all (mz_ok RX3 cX3_leaveOrRepeat 3) = true := by decide +kernel
def bX3_leaveOrRepeat_16 : List mz_E := [(16, .aload_n 0, 0, 0, 0, 0, 0), (17, .getfield 15, 3, 10, 532, 0, 0), (20, .iload_n 2, 0, 0, 0, 0, 0), (21, .dup2, 0, 0, 0, 0, 0), (22, .iaload, 0, 0, 0, 0, 0), (23, .iconst 1, 0, 0, 0, 1, 0), (24, .isub, 0, 0, 0, 0, 0), (25, .iastore, 0, 0, 0, 0, 0), (26, .aload_n 0, 0, 0, 0, 0, 0), (27, .getfield 9, 3, 9, 531, 0, 0), (30, .iload_n 2, 0, 0, 0, 0, 0), (31, .iaload, 0, 0, 0, 0, 0), (32, .iconst 1, 0, 0, 0, 1, 0), (33, .iadd, 0, 0, 0, 0, 0)]
theorem oX3_leaveOrRepeat_16 : bX3_leaveOrRepeat_16.all (mz_ok RX3 cX3_leaveOrRepeat 3) = true := by decide +kernel
abbrev IX3_leaveOrRepeat : mz_I := (yX3_leaveOrRepeat, cX3_leaveOrRepeat, 3, (some .int), 0, 0, 0, 0)
theorem kX3_leaveOrRepeat : mz_okm IX3_leaveOrRepeat 1500 140 1499 1 = true := by decide +kernel
theorem vX3_leaveOrRepeat : mz_okV IX3_leaveOrRepeat 1499 36 = true := by decide +kernel
def fX3_leaveOrRepeat (x1 : Int32) (D : mz_D) : Option (Int32 × mz_D) := (mz_gd (mz_ix ((D.1 0 9 8) - (1 : Int32)) 3) (if (D.1 0 11 (((D.1 0 9 8) - (1 : Int32))).toNatClampNeg) ≤ 0 then (some (x1, (mz_wi D 0 9 8 ((D.1 0 9 8) - (1 : Int32))))) else (some (((D.1 0 10 (((D.1 0 9 8) - (1 : Int32))).toNatClampNeg) + (1 : Int32)), (mz_wi D 0 11 (((D.1 0 9 8) - (1 : Int32))).toNatClampNeg ((D.1 0 11 (((D.1 0 9 8) - (1 : Int32))).toNatClampNeg) - (1 : Int32)))))))
set_option maxHeartbeats 4000000 in
theorem mX3_leaveOrRepeat (x1 : Int32) (D : mz_D) (r : (Int32 × mz_D)) (h : fX3_leaveOrRepeat x1 D = some r) : mz_Met IX3_leaveOrRepeat [.inr (.inr (some (0, 9))), .inl x1] D (some (.inl r.1), r.2) := by
  refine mz_Met.of (by decide +kernel) (Nat.le_of_ble_eq_true rfl) ?_
  show mz_Go IX3_leaveOrRepeat (some (.inl r.1), r.2) 0 0 (0, [some (.inr (.inr (some (0, 9)))), some (.inl x1), none], [], D)
  rw [fX3_leaveOrRepeat] at h
  obtain ⟨hb1, h⟩ := mz_gd_some h
  refine mz_Go.run (gs := [mz_kz 0 0 9, mz_kz 0 0 9, mz_kz 0 0 11, mz_ix ((D.1 0 9 8) - (1 : Int32)) 3]) (st' := (if (D.1 0 11 (((D.1 0 9 8) - (1 : Int32))).toNatClampNeg) ≤ 0 then (35, [some (.inr (.inr (some (0, 9)))), some (.inl x1), some (.inl ((D.1 0 9 8) - (1 : Int32)))], [], D) else (16, [some (.inr (.inr (some (0, 9)))), some (.inl x1), some (.inl ((D.1 0 9 8) - (1 : Int32)))], [], D))) bX3_leaveOrRepeat_0 oX3_leaveOrRepeat_0 rfl ⟨rfl, rfl, rfl, hb1, trivial⟩ ?_
  refine mz_Go.ite (fun hc2 => ?_) (fun hc2 => ?_)
  · have h := mz_ifp hc2 h
    refine mz_Go.run (gs := [mz_kz 0 0 9, mz_kz 0 0 9]) (st' := (46, [some (.inr (.inr (some (0, 9)))), some (.inl x1), some (.inl ((D.1 0 9 8) - (1 : Int32)))], [.inl x1], (mz_wi D 0 9 8 ((D.1 0 9 8) - (1 : Int32))))) bX3_leaveOrRepeat_35 oX3_leaveOrRepeat_35 rfl ⟨rfl, rfl, trivial⟩ ?_
    cases h
    exact mz_Go.reti (by decide +kernel) rfl ⟨Nat.le_refl _, Nat.le_refl _⟩ rfl
  · have h := mz_ifn hc2 h
    refine mz_Go.run (gs := [mz_kz 0 0 9, mz_kz 0 0 11, mz_ix ((D.1 0 9 8) - (1 : Int32)) 3, mz_kz 0 0 11, mz_ix ((D.1 0 9 8) - (1 : Int32)) 3, mz_kz 0 0 9, mz_kz 0 0 10, mz_ix ((D.1 0 9 8) - (1 : Int32)) 3]) (st' := (34, [some (.inr (.inr (some (0, 9)))), some (.inl x1), some (.inl ((D.1 0 9 8) - (1 : Int32)))], [.inl ((D.1 0 10 (((D.1 0 9 8) - (1 : Int32))).toNatClampNeg) + (1 : Int32))], (mz_wi D 0 11 (((D.1 0 9 8) - (1 : Int32))).toNatClampNeg ((D.1 0 11 (((D.1 0 9 8) - (1 : Int32))).toNatClampNeg) - (1 : Int32))))) bX3_leaveOrRepeat_16 oX3_leaveOrRepeat_16 rfl ⟨rfl, rfl, hb1, rfl, hb1, rfl, rfl, hb1, trivial⟩ ?_
    cases h
    exact mz_Go.reti (by decide +kernel) rfl ⟨Nat.le_refl _, Nat.le_refl _⟩ rfl
def bX4_quickOf_0 : List mz_E := [(0, .iconst 0, 0, 0, 0, 0, 0), (1, .istore_n 2, 0, 0, 0, 0, 0), (2, .iconst 0, 0, 0, 0, 0, 0), (3, .istore_n 3, 0, 0, 0, 0, 0)]
theorem oX4_quickOf_0 : bX4_quickOf_0.all (mz_ok RX4 cX4_quickOf 4) = true := by decide +kernel
def bX4_quickOf_4 : List mz_E := [(4, .iload_n 3, 0, 0, 0, 0, 0), (5, .aload_n 0, 0, 0, 0, 0, 0), (6, .getfield 34, 4, 0, 286, 0, 0), (9, .if_icmp .ge 26, 0, 35, 0, 0, 0)]
theorem oX4_quickOf_4 : bX4_quickOf_4.all (mz_ok RX4 cX4_quickOf 4) = true := by decide +kernel
def bX4_quickOf_35 : List mz_E := [(35, .iload_n 2, 0, 0, 0, 0, 0)]
theorem oX4_quickOf_35 : bX4_quickOf_35.all (mz_ok RX4 cX4_quickOf 4) = true := by decide +kernel
def bX4_quickOf_12 : List mz_E := [(12, .iload_n 1, 0, 0, 0, 0, 0), (13, .iload_n 3, 0, 0, 0, 0, 0)]
theorem oX4_quickOf_12 : bX4_quickOf_12.all (mz_ok RX4 cX4_quickOf 4) = true := by decide +kernel
def bX4_quickOf_17 : List mz_E := [(17, .ifCond .eq 12, 0, 29, 0, 0, 0)]
theorem oX4_quickOf_17 : bX4_quickOf_17.all (mz_ok RX4 cX4_quickOf 4) = true := by decide +kernel
def bX4_quickOf_29 : List mz_E := [(29, .iinc 3 1, 0, 0, 0, 1, 0), (32, .goto (-28), 0, 4, 0, 0, 0)]
theorem oX4_quickOf_29 : bX4_quickOf_29.all (mz_ok RX4 cX4_quickOf 4) = true := by decide +kernel
def bX4_quickOf_20 : List mz_E := [(20, .iload_n 2, 0, 0, 0, 0, 0), (21, .aload_n 0, 0, 0, 0, 0, 0), (22, .getfield 19, 4, 5, 304, 0, 0), (25, .iload_n 3, 0, 0, 0, 0, 0), (26, .iaload, 0, 0, 0, 0, 0), (27, .iadd, 0, 0, 0, 0, 0), (28, .istore_n 2, 0, 0, 0, 0, 0), (29, .iinc 3 1, 0, 0, 0, 1, 0), (32, .goto (-28), 0, 4, 0, 0, 0)]
theorem oX4_quickOf_20 : bX4_quickOf_20.all (mz_ok RX4 cX4_quickOf 4) = true := by decide +kernel
abbrev IX4_quickOf : mz_I := (yX4_quickOf, cX4_quickOf, 4, (some .int), 0, 1, 0, 0)
theorem kX4_quickOf : mz_okm IX4_quickOf 1270 135 1268 1 = true := by decide +kernel
theorem vX4_quickOf : mz_okV IX4_quickOf 1268 1269 = true := by decide +kernel
def fX4_quickOf_4 (g0 : Nat) (D : mz_D) : Nat → Int32 → Int32 → Int32 → Option Int32
  | 0 => fun _ _ _ => none
  | n + 1 => fun x1 x2 x3 => (if (D.1 g0 101 0) ≤ x3 then (some x2) else (if (fX11_isIn x1 x3) = 0 then ((fX4_quickOf_4 g0 D n) x1 x2 (x3 + (1 : Int32))) else (mz_gd (mz_ix x3 6) ((fX4_quickOf_4 g0 D n) x1 (x2 + (D.1 g0 104 (x3).toNatClampNeg)) (x3 + (1 : Int32))))))
set_option maxHeartbeats 4000000 in
theorem tX4_quickOf_4 (g0 : Nat) (D : mz_D) (hg0 : mz_tb g0 = true) (r : Int32) : ∀ (n : Nat) (x1 : Int32) (x2 : Int32) (x3 : Int32), fX4_quickOf_4 g0 D n x1 x2 x3 = some r → mz_Go IX4_quickOf (some (.inl r), D) 0 0 (4, [some (.inr (.inr (some (g0, 101)))), some (.inl x1), some (.inl x2), some (.inl x3)], [], D) := by
  intro n
  induction n with
  | zero => intro x1 x2 x3 h; have h : (none : Option Int32) = some r := h; cases h
  | succ n ih =>
    intro x1 x2 x3 h
    rw [fX4_quickOf_4] at h
    refine mz_Go.run (gs := [mz_kz 0 g0 101]) (st' := (if (D.1 g0 101 0) ≤ x3 then (35, [some (.inr (.inr (some (g0, 101)))), some (.inl x1), some (.inl x2), some (.inl x3)], [], D) else (12, [some (.inr (.inr (some (g0, 101)))), some (.inl x1), some (.inl x2), some (.inl x3)], [], D))) bX4_quickOf_4 oX4_quickOf_4 rfl ⟨hg0, trivial⟩ ?_
    refine mz_Go.ite (fun hc1 => ?_) (fun hc1 => ?_)
    · have h := mz_ifp hc1 h
      refine mz_Go.run (gs := []) (st' := (36, [some (.inr (.inr (some (g0, 101)))), some (.inl x1), some (.inl x2), some (.inl x3)], [.inl x2], D)) bX4_quickOf_35 oX4_quickOf_35 rfl trivial ?_
      cases h
      exact mz_Go.reti (by decide +kernel) rfl ⟨Nat.le_refl _, Nat.le_refl _⟩ rfl
    · have h := mz_ifn hc1 h
      refine mz_Go.run (gs := []) (st' := (14, [some (.inr (.inr (some (g0, 101)))), some (.inl x1), some (.inl x2), some (.inl x3)], [.inl x3, .inl x1], D)) bX4_quickOf_12 oX4_quickOf_12 rfl trivial ?_
      refine mz_Go.callSN (I := IX4_quickOf) (J := IX11_isIn) (as := [.inl x1, .inl x3]) (idx := 61) (pl := 1094) (rest := []) (mX11_isIn x1 x3 D _ rfl) kX11_isIn vX11_isIn (by decide +kernel) (by decide +kernel) (by decide +kernel) rfl rfl ⟨rfl, rfl⟩ rfl ?_
      refine mz_Go.run (gs := []) (st' := (if (fX11_isIn x1 x3) = 0 then (29, [some (.inr (.inr (some (g0, 101)))), some (.inl x1), some (.inl x2), some (.inl x3)], [], D) else (20, [some (.inr (.inr (some (g0, 101)))), some (.inl x1), some (.inl x2), some (.inl x3)], [], D))) bX4_quickOf_17 oX4_quickOf_17 rfl trivial ?_
      refine mz_Go.ite (fun hc2 => ?_) (fun hc2 => ?_)
      · have h := mz_ifp hc2 h
        refine mz_Go.run (gs := []) (st' := (4, [some (.inr (.inr (some (g0, 101)))), some (.inl x1), some (.inl x2), some (.inl (x3 + (1 : Int32)))], [], D)) bX4_quickOf_29 oX4_quickOf_29 rfl trivial ?_
        exact mz_Go.drop [true, true, true, true] (ih x1 x2 (x3 + (1 : Int32)) h)
      · have h := mz_ifn hc2 h
        obtain ⟨hb3, h⟩ := mz_gd_some h
        refine mz_Go.run (gs := [mz_kz 0 g0 101, mz_kz 0 g0 104, mz_ix x3 6]) (st' := (4, [some (.inr (.inr (some (g0, 101)))), some (.inl x1), some (.inl (x2 + (D.1 g0 104 (x3).toNatClampNeg))), some (.inl (x3 + (1 : Int32)))], [], D)) bX4_quickOf_20 oX4_quickOf_20 rfl ⟨hg0, hg0, hb3, trivial⟩ ?_
        exact mz_Go.drop [true, true, true, true] (ih x1 (x2 + (D.1 g0 104 (x3).toNatClampNeg)) (x3 + (1 : Int32)) h)
def fX4_quickOf (g0 : Nat) (x1 : Int32) (D : mz_D) : Option Int32 := (fX4_quickOf_4 g0 D mz_N x1 (0 : Int32) (0 : Int32))
set_option maxHeartbeats 4000000 in
theorem mX4_quickOf (g0 : Nat) (x1 : Int32) (D : mz_D) (hg0 : mz_tb g0 = true) (r : Int32) (h : fX4_quickOf g0 x1 D = some r) : mz_Met IX4_quickOf [.inr (.inr (some (g0, 101))), .inl x1] D (some (.inl r), D) := by
  refine mz_Met.of (by decide +kernel) (Nat.le_of_ble_eq_true rfl) ?_
  show mz_Go IX4_quickOf (some (.inl r), D) 0 0 (0, [some (.inr (.inr (some (g0, 101)))), some (.inl x1), none, none], [], D)
  rw [fX4_quickOf] at h
  refine mz_Go.run (gs := []) (st' := (4, [some (.inr (.inr (some (g0, 101)))), some (.inl x1), some (.inl (0 : Int32)), some (.inl (0 : Int32))], [], D)) bX4_quickOf_0 oX4_quickOf_0 rfl trivial ?_
  exact mz_Go.drop [true, true, true, true] (tX4_quickOf_4 g0 D hg0 r mz_N x1 (0 : Int32) (0 : Int32) h)
def bX3_draw_0 : List mz_E := [(0, .aload_n 0, 0, 0, 0, 0, 0), (1, .aload_n 0, 0, 0, 0, 0, 0), (2, .getfield 91, 3, 7, 529, 0, 0), (5, .sipush 2917, 0, 0, 0, 2917, 0), (8, .imul, 0, 0, 0, 0, 0), (9, .sipush 11119, 0, 0, 0, 11119, 0), (12, .iadd, 0, 0, 0, 0, 0), (13, .ldc 162, 0, 0, 1515, 65536, 0), (15, .irem, 0, 0, 0, 0, 0), (16, .putfield 91, 3, 7, 529, 0, 0), (19, .iload_n 1, 0, 0, 0, 0, 0), (20, .ifCond .le 15, 0, 35, 0, 0, 0)]
theorem oX3_draw_0 : bX3_draw_0.all (mz_ok RX3 cX3_draw 2) = true := by decide +kernel
def bX3_draw_35 : List mz_E := [(35, .iconst 0, 0, 0, 0, 0, 0)]
theorem oX3_draw_35 : bX3_draw_35.all (mz_ok RX3 cX3_draw 2) = true := by decide +kernel
def bX3_draw_23 : List mz_E := [(23, .aload_n 0, 0, 0, 0, 0, 0), (24, .getfield 91, 3, 7, 529, 0, 0), (27, .bipush 8, 0, 0, 0, 8, 0), (29, .idiv, 0, 0, 0, 0, 0), (30, .iload_n 1, 0, 0, 0, 0, 0), (31, .irem, 0, 0, 0, 0, 0), (32, .goto 4, 0, 36, 0, 0, 0)]
theorem oX3_draw_23 : bX3_draw_23.all (mz_ok RX3 cX3_draw 2) = true := by decide +kernel
abbrev IX3_draw : mz_I := (yX3_draw, cX3_draw, 2, (some .int), 0, 0, 0, 0)
theorem kX3_draw : mz_okm IX3_draw 1514 140 1513 1 = true := by decide +kernel
theorem vX3_draw : mz_okV IX3_draw 1513 39 = true := by decide +kernel
def fX3_draw (x1 : Int32) (D : mz_D) : Option (Int32 × mz_D) := (if x1 ≤ 0 then (some ((0 : Int32), (mz_wi D 0 9 7 ((((D.1 0 9 7) * (2917 : Int32)) + (11119 : Int32)) - (((D.1 0 9 7) * (2917 : Int32)) + (11119 : Int32)) / (65536 : Int32) * (65536 : Int32))))) else (mz_gd (mz_nz x1) (some (((((((D.1 0 9 7) * (2917 : Int32)) + (11119 : Int32)) - (((D.1 0 9 7) * (2917 : Int32)) + (11119 : Int32)) / (65536 : Int32) * (65536 : Int32)) / (8 : Int32)) - (((((D.1 0 9 7) * (2917 : Int32)) + (11119 : Int32)) - (((D.1 0 9 7) * (2917 : Int32)) + (11119 : Int32)) / (65536 : Int32) * (65536 : Int32)) / (8 : Int32)) / x1 * x1), (mz_wi D 0 9 7 ((((D.1 0 9 7) * (2917 : Int32)) + (11119 : Int32)) - (((D.1 0 9 7) * (2917 : Int32)) + (11119 : Int32)) / (65536 : Int32) * (65536 : Int32)))))))
set_option maxHeartbeats 4000000 in
theorem mX3_draw (x1 : Int32) (D : mz_D) (r : (Int32 × mz_D)) (h : fX3_draw x1 D = some r) : mz_Met IX3_draw [.inr (.inr (some (0, 9))), .inl x1] D (some (.inl r.1), r.2) := by
  refine mz_Met.of (by decide +kernel) (Nat.le_of_ble_eq_true rfl) ?_
  show mz_Go IX3_draw (some (.inl r.1), r.2) 0 0 (0, [some (.inr (.inr (some (0, 9)))), some (.inl x1)], [], D)
  rw [fX3_draw] at h
  refine mz_Go.run (gs := [mz_kz 0 0 9, mz_nz (65536 : Int32), mz_kz 0 0 9]) (st' := (if x1 ≤ 0 then (35, [some (.inr (.inr (some (0, 9)))), some (.inl x1)], [], (mz_wi D 0 9 7 ((((D.1 0 9 7) * (2917 : Int32)) + (11119 : Int32)) - (((D.1 0 9 7) * (2917 : Int32)) + (11119 : Int32)) / (65536 : Int32) * (65536 : Int32)))) else (23, [some (.inr (.inr (some (0, 9)))), some (.inl x1)], [], (mz_wi D 0 9 7 ((((D.1 0 9 7) * (2917 : Int32)) + (11119 : Int32)) - (((D.1 0 9 7) * (2917 : Int32)) + (11119 : Int32)) / (65536 : Int32) * (65536 : Int32)))))) bX3_draw_0 oX3_draw_0 rfl ⟨rfl, (by decide), rfl, trivial⟩ ?_
  refine mz_Go.ite (fun hc1 => ?_) (fun hc1 => ?_)
  · have h := mz_ifp hc1 h
    refine mz_Go.run (gs := []) (st' := (36, [some (.inr (.inr (some (0, 9)))), some (.inl x1)], [.inl (0 : Int32)], (mz_wi D 0 9 7 ((((D.1 0 9 7) * (2917 : Int32)) + (11119 : Int32)) - (((D.1 0 9 7) * (2917 : Int32)) + (11119 : Int32)) / (65536 : Int32) * (65536 : Int32))))) bX3_draw_35 oX3_draw_35 rfl trivial ?_
    cases h
    exact mz_Go.reti (by decide +kernel) rfl ⟨Nat.le_refl _, Nat.le_refl _⟩ rfl
  · have h := mz_ifn hc1 h
    obtain ⟨hb2, h⟩ := mz_gd_some h
    refine mz_Go.run (gs := [mz_kz 0 0 9, mz_nz (8 : Int32), mz_nz x1]) (st' := (36, [some (.inr (.inr (some (0, 9)))), some (.inl x1)], [.inl ((((((D.1 0 9 7) * (2917 : Int32)) + (11119 : Int32)) - (((D.1 0 9 7) * (2917 : Int32)) + (11119 : Int32)) / (65536 : Int32) * (65536 : Int32)) / (8 : Int32)) - (((((D.1 0 9 7) * (2917 : Int32)) + (11119 : Int32)) - (((D.1 0 9 7) * (2917 : Int32)) + (11119 : Int32)) / (65536 : Int32) * (65536 : Int32)) / (8 : Int32)) / x1 * x1)], (mz_wi D 0 9 7 ((((D.1 0 9 7) * (2917 : Int32)) + (11119 : Int32)) - (((D.1 0 9 7) * (2917 : Int32)) + (11119 : Int32)) / (65536 : Int32) * (65536 : Int32))))) bX3_draw_23 oX3_draw_23 rfl ⟨rfl, (by decide), hb2, trivial⟩ ?_
    cases h
    exact mz_Go.reti (by decide +kernel) rfl ⟨Nat.le_refl _, Nat.le_refl _⟩ rfl
def bX3_quickest_0 : List mz_E := [(0, .aload_n 1, 0, 0, 0, 0, 0), (1, .aload_n 1, 0, 0, 0, 0, 0)]
theorem oX3_quickest_0 : bX3_quickest_0.all (mz_ok RX3 cX3_quickest 5) = true := by decide +kernel
def bX3_quickest_8 : List mz_E := [(8, .istore_n 2, 0, 0, 0, 0, 0), (9, .iload_n 2, 0, 0, 0, 0, 0), (10, .ifCond .ne 5, 0, 15, 0, 0, 0)]
theorem oX3_quickest_8 : bX3_quickest_8.all (mz_ok RX3 cX3_quickest 5) = true := by decide +kernel
def bX3_quickest_13 : List mz_E := [(13, .iconst (-1), 0, 0, 0, -1, 0)]
theorem oX3_quickest_13 : bX3_quickest_13.all (mz_ok RX3 cX3_quickest 5) = true := by decide +kernel
def bX3_quickest_15 : List mz_E := [(15, .aload_n 0, 0, 0, 0, 0, 0), (16, .iload_n 2, 0, 0, 0, 0, 0)]
theorem oX3_quickest_15 : bX3_quickest_15.all (mz_ok RX3 cX3_quickest 5) = true := by decide +kernel
def bX3_quickest_20 : List mz_E := [(20, .istore_n 3, 0, 0, 0, 0, 0), (21, .iconst 0, 0, 0, 0, 0, 0), (22, .istore 4, 0, 0, 0, 0, 0)]
theorem oX3_quickest_20 : bX3_quickest_20.all (mz_ok RX3 cX3_quickest 5) = true := by decide +kernel
def bX3_quickest_24 : List mz_E := [(24, .iload 4, 0, 0, 0, 0, 0), (26, .aload_n 1, 0, 0, 0, 0, 0), (27, .getfield 174, 4, 0, 291, 0, 0), (30, .if_icmp .ge 26, 0, 56, 0, 0, 0)]
theorem oX3_quickest_24 : bX3_quickest_24.all (mz_ok RX3 cX3_quickest 5) = true := by decide +kernel
def bX3_quickest_56 : List mz_E := [(56, .iconst (-1), 0, 0, 0, -1, 0)]
theorem oX3_quickest_56 : bX3_quickest_56.all (mz_ok RX3 cX3_quickest 5) = true := by decide +kernel
def bX3_quickest_33 : List mz_E := [(33, .iload_n 3, 0, 0, 0, 0, 0), (34, .aload_n 1, 0, 0, 0, 0, 0), (35, .getfield 175, 4, 5, 307, 0, 0), (38, .iload 4, 0, 0, 0, 0, 0), (40, .iaload, 0, 0, 0, 0, 0), (41, .isub, 0, 0, 0, 0, 0), (42, .istore_n 3, 0, 0, 0, 0, 0), (43, .iload_n 3, 0, 0, 0, 0, 0), (44, .ifCond .ge 6, 0, 50, 0, 0, 0)]
theorem oX3_quickest_33 : bX3_quickest_33.all (mz_ok RX3 cX3_quickest 5) = true := by decide +kernel
def bX3_quickest_50 : List mz_E := [(50, .iinc 4 1, 0, 0, 0, 1, 0), (53, .goto (-29), 0, 24, 0, 0, 0)]
theorem oX3_quickest_50 : bX3_quickest_50.all (mz_ok RX3 cX3_quickest 5) = true := by decide +kernel
def bX3_quickest_47 : List mz_E := [(47, .iload 4, 0, 0, 0, 0, 0)]
theorem oX3_quickest_47 : bX3_quickest_47.all (mz_ok RX3 cX3_quickest 5) = true := by decide +kernel
abbrev IX3_quickest : mz_I := (yX3_quickest, cX3_quickest, 5, (some .int), 0, 2, 0, 0)
theorem kX3_quickest : mz_okm IX3_quickest 1508 140 1507 1 = true := by decide +kernel
theorem vX3_quickest : mz_okV IX3_quickest 1507 38 = true := by decide +kernel
def fX3_quickest_24 (g1 : Nat) : Nat → Int32 → Int32 → mz_D → Option (Int32 × mz_D)
  | 0 => fun _ _ _ => none
  | n + 1 => fun x3 x4 D => (if (D.1 g1 101 0) ≤ x4 then (some ((-1 : Int32), D)) else (mz_gd (mz_ix x4 6) (if 0 ≤ (x3 - (D.1 g1 104 (x4).toNatClampNeg)) then ((fX3_quickest_24 g1 n) (x3 - (D.1 g1 104 (x4).toNatClampNeg)) (x4 + (1 : Int32)) D) else (some (x4, D)))))
set_option maxHeartbeats 4000000 in
theorem tX3_quickest_24 (g1 : Nat) (hg1 : mz_tb g1 = true) (r : (Int32 × mz_D)) : ∀ (n : Nat) (x3 : Int32) (x4 : Int32) (D : mz_D), fX3_quickest_24 g1 n x3 x4 D = some r → mz_Go IX3_quickest (some (.inl r.1), r.2) 0 0 (24, [none, some (.inr (.inr (some (g1, 101)))), none, some (.inl x3), some (.inl x4)], [], D) := by
  intro n
  induction n with
  | zero => intro x3 x4 D h; have h : (none : Option (Int32 × mz_D)) = some r := h; cases h
  | succ n ih =>
    intro x3 x4 D h
    rw [fX3_quickest_24] at h
    refine mz_Go.run (gs := [mz_kz 0 g1 101]) (st' := (if (D.1 g1 101 0) ≤ x4 then (56, [none, some (.inr (.inr (some (g1, 101)))), none, some (.inl x3), some (.inl x4)], [], D) else (33, [none, some (.inr (.inr (some (g1, 101)))), none, some (.inl x3), some (.inl x4)], [], D))) bX3_quickest_24 oX3_quickest_24 rfl ⟨hg1, trivial⟩ ?_
    refine mz_Go.ite (fun hc1 => ?_) (fun hc1 => ?_)
    · have h := mz_ifp hc1 h
      refine mz_Go.run (gs := []) (st' := (57, [none, some (.inr (.inr (some (g1, 101)))), none, some (.inl x3), some (.inl x4)], [.inl (-1 : Int32)], D)) bX3_quickest_56 oX3_quickest_56 rfl trivial ?_
      cases h
      exact mz_Go.reti (by decide +kernel) rfl ⟨Nat.le_refl _, Nat.le_refl _⟩ rfl
    · have h := mz_ifn hc1 h
      obtain ⟨hb2, h⟩ := mz_gd_some h
      refine mz_Go.run (gs := [mz_kz 0 g1 101, mz_kz 0 g1 104, mz_ix x4 6]) (st' := (if 0 ≤ (x3 - (D.1 g1 104 (x4).toNatClampNeg)) then (50, [none, some (.inr (.inr (some (g1, 101)))), none, some (.inl (x3 - (D.1 g1 104 (x4).toNatClampNeg))), some (.inl x4)], [], D) else (47, [none, some (.inr (.inr (some (g1, 101)))), none, some (.inl (x3 - (D.1 g1 104 (x4).toNatClampNeg))), some (.inl x4)], [], D))) bX3_quickest_33 oX3_quickest_33 rfl ⟨hg1, hg1, hb2, trivial⟩ ?_
      refine mz_Go.ite (fun hc3 => ?_) (fun hc3 => ?_)
      · have h := mz_ifp hc3 h
        refine mz_Go.run (gs := []) (st' := (24, [none, some (.inr (.inr (some (g1, 101)))), none, some (.inl (x3 - (D.1 g1 104 (x4).toNatClampNeg))), some (.inl (x4 + (1 : Int32)))], [], D)) bX3_quickest_50 oX3_quickest_50 rfl trivial ?_
        exact mz_Go.drop [false, true, false, true, true] (ih (x3 - (D.1 g1 104 (x4).toNatClampNeg)) (x4 + (1 : Int32)) D h)
      · have h := mz_ifn hc3 h
        refine mz_Go.run (gs := []) (st' := (49, [none, some (.inr (.inr (some (g1, 101)))), none, some (.inl (x3 - (D.1 g1 104 (x4).toNatClampNeg))), some (.inl x4)], [.inl x4], D)) bX3_quickest_47 oX3_quickest_47 rfl trivial ?_
        cases h
        exact mz_Go.reti (by decide +kernel) rfl ⟨Nat.le_refl _, Nat.le_refl _⟩ rfl
def fX3_quickest (g1 : Nat) (D : mz_D) : Option (Int32 × mz_D) := (Option.bind (fX4_quickOf g1 (((1 : Int32) <<< ((D.1 g1 101 0) &&& 31)) - (1 : Int32)) D) fun q1 => (if q1 = 0 then (some ((-1 : Int32), D)) else (Option.bind (fX3_draw q1 D) fun q3 => (fX3_quickest_24 g1 mz_N q3.1 (0 : Int32) q3.2))))
set_option maxHeartbeats 4000000 in
theorem mX3_quickest (g1 : Nat) (D : mz_D) (hg1 : mz_tb g1 = true) (r : (Int32 × mz_D)) (h : fX3_quickest g1 D = some r) : mz_Met IX3_quickest [.inr (.inr (some (0, 9))), .inr (.inr (some (g1, 101)))] D (some (.inl r.1), r.2) := by
  refine mz_Met.of (by decide +kernel) (Nat.le_of_ble_eq_true rfl) ?_
  show mz_Go IX3_quickest (some (.inl r.1), r.2) 0 0 (0, [some (.inr (.inr (some (0, 9)))), some (.inr (.inr (some (g1, 101)))), none, none, none], [], D)
  rw [fX3_quickest] at h
  refine mz_Go.run (gs := []) (st' := (2, [some (.inr (.inr (some (0, 9)))), some (.inr (.inr (some (g1, 101)))), none, none, none], [.inr (.inr (some (g1, 101))), .inr (.inr (some (g1, 101)))], D)) bX3_quickest_0 oX3_quickest_0 rfl trivial ?_
  refine mz_Go.callV (I := IX3_quickest) (J := IX4_everyone) (as := []) (ci := 4) (g := g1) (o := 101) (idx := 163) (pl := 1509) (rest := [.inr (.inr (some (g1, 101)))]) (mX4_everyone g1 D hg1) kX4_everyone vX4_everyone (by decide +kernel) (by decide +kernel) (by decide +kernel) rfl rfl ⟨rfl, rfl⟩ rfl rfl hg1 rfl ?_
  obtain ⟨q1, hq1, h⟩ := mz_bd_some h
  refine mz_Go.callV (I := IX3_quickest) (J := IX4_quickOf) (as := [.inl (((1 : Int32) <<< ((D.1 g1 101 0) &&& 31)) - (1 : Int32))]) (ci := 4) (g := g1) (o := 101) (idx := 168) (pl := 1510) (rest := []) (mX4_quickOf g1 (((1 : Int32) <<< ((D.1 g1 101 0) &&& 31)) - (1 : Int32)) D hg1 q1 hq1) kX4_quickOf vX4_quickOf (by decide +kernel) (by decide +kernel) (by decide +kernel) rfl rfl ⟨rfl, rfl⟩ rfl rfl hg1 rfl ?_
  refine mz_Go.run (gs := []) (st' := (if q1 = 0 then (13, [some (.inr (.inr (some (0, 9)))), some (.inr (.inr (some (g1, 101)))), some (.inl q1), none, none], [], D) else (15, [some (.inr (.inr (some (0, 9)))), some (.inr (.inr (some (g1, 101)))), some (.inl q1), none, none], [], D))) bX3_quickest_8 oX3_quickest_8 rfl trivial ?_
  refine mz_Go.ite (fun hc2 => ?_) (fun hc2 => ?_)
  · have h := mz_ifp hc2 h
    refine mz_Go.run (gs := []) (st' := (14, [some (.inr (.inr (some (0, 9)))), some (.inr (.inr (some (g1, 101)))), some (.inl q1), none, none], [.inl (-1 : Int32)], D)) bX3_quickest_13 oX3_quickest_13 rfl trivial ?_
    cases h
    exact mz_Go.reti (by decide +kernel) rfl ⟨Nat.le_refl _, Nat.le_refl _⟩ rfl
  · have h := mz_ifn hc2 h
    refine mz_Go.run (gs := []) (st' := (17, [some (.inr (.inr (some (0, 9)))), some (.inr (.inr (some (g1, 101)))), some (.inl q1), none, none], [.inl q1, .inr (.inr (some (0, 9)))], D)) bX3_quickest_15 oX3_quickest_15 rfl trivial ?_
    obtain ⟨q3, hq3, h⟩ := mz_bd_some h
    refine mz_Go.callV (I := IX3_quickest) (J := IX3_draw) (as := [.inl q1]) (ci := 3) (g := 0) (o := 9) (idx := 171) (pl := 1511) (rest := []) (mX3_draw q1 D q3 hq3) kX3_draw vX3_draw (by decide +kernel) (by decide +kernel) (by decide +kernel) rfl rfl ⟨rfl, rfl⟩ rfl rfl rfl rfl ?_
    refine mz_Go.run (gs := []) (st' := (24, [some (.inr (.inr (some (0, 9)))), some (.inr (.inr (some (g1, 101)))), some (.inl q1), some (.inl q3.1), some (.inl (0 : Int32))], [], q3.2)) bX3_quickest_20 oX3_quickest_20 rfl trivial ?_
    exact mz_Go.drop [false, true, false, true, true] (tX3_quickest_24 g1 hg1 r mz_N q3.1 (0 : Int32) q3.2 h)
def bX6_charge_0 : List mz_E := [(0, .iconst 0, 0, 0, 0, 0, 0), (1, .istore_n 3, 0, 0, 0, 0, 0)]
theorem oX6_charge_0 : bX6_charge_0.all (mz_ok RX6 cX6_charge 4) = true := by decide +kernel
def bX6_charge_2 : List mz_E := [(2, .iload_n 3, 0, 0, 0, 0, 0), (3, .aload_n 0, 0, 0, 0, 0, 0), (4, .getfield 12, 6, 0, 474, 0, 0), (7, .getfield 76, 4, 0, 288, 0, 0), (10, .if_icmp .ge 31, 0, 41, 0, 0, 0)]
theorem oX6_charge_2 : bX6_charge_2.all (mz_ok RX6 cX6_charge 4) = true := by decide +kernel
def bX6_charge_41 : List mz_E := [(41, .iconst 0, 0, 0, 0, 0, 0), (42, .istore_n 3, 0, 0, 0, 0, 0)]
theorem oX6_charge_41 : bX6_charge_41.all (mz_ok RX6 cX6_charge 4) = true := by decide +kernel
def bX6_charge_43 : List mz_E := [(43, .iload_n 3, 0, 0, 0, 0, 0), (44, .aload_n 0, 0, 0, 0, 0, 0), (45, .getfield 12, 6, 0, 474, 0, 0), (48, .getfield 76, 4, 0, 288, 0, 0), (51, .if_icmp .ge 27, 0, 78, 0, 0, 0)]
theorem oX6_charge_43 : bX6_charge_43.all (mz_ok RX6 cX6_charge 4) = true := by decide +kernel
def bX6_charge_78 : List mz_E := [(78, .aload_n 0, 0, 0, 0, 0, 0), (79, .getfield 12, 6, 0, 474, 0, 0), (82, .getfield 86, 4, 9, 320, 0, 0), (85, .iload_n 1, 0, 0, 0, 0, 0), (86, .dup2, 0, 0, 0, 0, 0), (87, .iaload, 0, 0, 0, 0, 0), (88, .iconst 1, 0, 0, 0, 1, 0), (89, .iadd, 0, 0, 0, 0, 0), (90, .iastore, 0, 0, 0, 0, 0), (91, .iconst 1, 0, 0, 0, 1, 0)]
theorem oX6_charge_78 : bX6_charge_78.all (mz_ok RX6 cX6_charge 4) = true := by decide +kernel
def bX6_charge_54 : List mz_E := [(54, .iload_n 3, 0, 0, 0, 0, 0), (55, .iload_n 1, 0, 0, 0, 0, 0), (56, .if_icmp .eq 16, 0, 72, 0, 0, 0)]
theorem oX6_charge_54 : bX6_charge_54.all (mz_ok RX6 cX6_charge 4) = true := by decide +kernel
def bX6_charge_72 : List mz_E := [(72, .iinc 3 1, 0, 0, 0, 1, 0), (75, .goto (-32), 0, 43, 0, 0, 0)]
theorem oX6_charge_72 : bX6_charge_72.all (mz_ok RX6 cX6_charge 4) = true := by decide +kernel
def bX6_charge_59 : List mz_E := [(59, .aload_n 0, 0, 0, 0, 0, 0), (60, .getfield 28, 6, 2, 482, 0, 0), (63, .iload_n 3, 0, 0, 0, 0, 0), (64, .iload_n 1, 0, 0, 0, 0, 0), (65, .aload_n 2, 0, 0, 0, 0, 0), (66, .iload_n 3, 0, 0, 0, 0, 0), (67, .iaload, 0, 0, 0, 0, 0)]
theorem oX6_charge_59 : bX6_charge_59.all (mz_ok RX6 cX6_charge 4) = true := by decide +kernel
def bX6_charge_71 : List mz_E := [(71, .pop, 0, 0, 0, 0, 0), (72, .iinc 3 1, 0, 0, 0, 1, 0), (75, .goto (-32), 0, 43, 0, 0, 0)]
theorem oX6_charge_71 : bX6_charge_71.all (mz_ok RX6 cX6_charge 4) = true := by decide +kernel
def bX6_charge_13 : List mz_E := [(13, .iload_n 3, 0, 0, 0, 0, 0), (14, .iload_n 1, 0, 0, 0, 0, 0), (15, .if_icmp .eq 20, 0, 35, 0, 0, 0)]
theorem oX6_charge_13 : bX6_charge_13.all (mz_ok RX6 cX6_charge 4) = true := by decide +kernel
def bX6_charge_35 : List mz_E := [(35, .iinc 3 1, 0, 0, 0, 1, 0), (38, .goto (-36), 0, 2, 0, 0, 0)]
theorem oX6_charge_35 : bX6_charge_35.all (mz_ok RX6 cX6_charge 4) = true := by decide +kernel
def bX6_charge_18 : List mz_E := [(18, .aload_n 0, 0, 0, 0, 0, 0), (19, .getfield 28, 6, 2, 482, 0, 0), (22, .iload_n 3, 0, 0, 0, 0, 0), (23, .iload_n 1, 0, 0, 0, 0, 0), (24, .aload_n 2, 0, 0, 0, 0, 0), (25, .iload_n 3, 0, 0, 0, 0, 0), (26, .iaload, 0, 0, 0, 0, 0)]
theorem oX6_charge_18 : bX6_charge_18.all (mz_ok RX6 cX6_charge 4) = true := by decide +kernel
def bX6_charge_30 : List mz_E := [(30, .ifCond .ne 5, 0, 35, 0, 0, 0)]
theorem oX6_charge_30 : bX6_charge_30.all (mz_ok RX6 cX6_charge 4) = true := by decide +kernel
def bX6_charge_33 : List mz_E := [(33, .iconst 0, 0, 0, 0, 0, 0)]
theorem oX6_charge_33 : bX6_charge_33.all (mz_ok RX6 cX6_charge 4) = true := by decide +kernel
abbrev IX6_charge_14 : mz_I := (yX6_charge, cX6_charge, 4, (some .boolean), 0, 2, 0, 0)
theorem kX6_charge_14 : mz_okm IX6_charge_14 1172 134 1170 2 = true := by decide +kernel
theorem vX6_charge_14 : mz_okV IX6_charge_14 1170 1171 = true := by decide +kernel
def fX6_charge_14_43 (g0 : Nat) : Nat → Int32 → Int32 → mz_D → Option (Int32 × mz_D)
  | 0 => fun _ _ _ => none
  | n + 1 => fun x1 x3 D => (if (D.1 g0 101 0) ≤ x3 then (mz_gd (mz_ix x1 6) (some ((1 : Int32), (mz_wi D g0 108 (x1).toNatClampNeg ((D.1 g0 108 (x1).toNatClampNeg) + (1 : Int32)))))) else (if x3 = x1 then ((fX6_charge_14_43 g0 n) x1 (x3 + (1 : Int32)) D) else (mz_gd (mz_ix x3 6) (Option.bind (fX2_add g0 x3 x1 (D.1 0 14 (x3).toNatClampNeg) D) fun q5 => ((fX6_charge_14_43 g0 n) x1 (x3 + (1 : Int32)) q5.2)))))
set_option maxHeartbeats 4000000 in
theorem tX6_charge_14_43 (g0 : Nat) (hg0 : mz_tb g0 = true) (r : (Int32 × mz_D)) : ∀ (n : Nat) (x1 : Int32) (x3 : Int32) (D : mz_D), fX6_charge_14_43 g0 n x1 x3 D = some r → mz_Go IX6_charge_14 (some (.inl r.1), r.2) 0 0 (43, [some (.inr (.inr (some (g0, 100)))), some (.inl x1), some (.inr (.inr (some (0, 14)))), some (.inl x3)], [], D) := by
  intro n
  induction n with
  | zero => intro x1 x3 D h; have h : (none : Option (Int32 × mz_D)) = some r := h; cases h
  | succ n ih =>
    intro x1 x3 D h
    rw [fX6_charge_14_43] at h
    refine mz_Go.run (gs := [mz_kz 0 g0 100, mz_kz 0 g0 101]) (st' := (if (D.1 g0 101 0) ≤ x3 then (78, [some (.inr (.inr (some (g0, 100)))), some (.inl x1), some (.inr (.inr (some (0, 14)))), some (.inl x3)], [], D) else (54, [some (.inr (.inr (some (g0, 100)))), some (.inl x1), some (.inr (.inr (some (0, 14)))), some (.inl x3)], [], D))) bX6_charge_43 oX6_charge_43 rfl ⟨hg0, hg0, trivial⟩ ?_
    refine mz_Go.ite (fun hc1 => ?_) (fun hc1 => ?_)
    · have h := mz_ifp hc1 h
      obtain ⟨hb2, h⟩ := mz_gd_some h
      refine mz_Go.run (gs := [mz_kz 0 g0 100, mz_kz 0 g0 101, mz_kz 0 g0 108, mz_ix x1 6, mz_kz 0 g0 108, mz_ix x1 6]) (st' := (92, [some (.inr (.inr (some (g0, 100)))), some (.inl x1), some (.inr (.inr (some (0, 14)))), some (.inl x3)], [.inl (1 : Int32)], (mz_wi D g0 108 (x1).toNatClampNeg ((D.1 g0 108 (x1).toNatClampNeg) + (1 : Int32))))) bX6_charge_78 oX6_charge_78 rfl ⟨hg0, hg0, hg0, hb2, hg0, hb2, trivial⟩ ?_
      cases h
      exact mz_Go.retz (by decide +kernel) rfl ⟨Nat.le_refl _, Nat.le_refl _⟩ (by decide) rfl
    · have h := mz_ifn hc1 h
      refine mz_Go.run (gs := []) (st' := (if x3 = x1 then (72, [some (.inr (.inr (some (g0, 100)))), some (.inl x1), some (.inr (.inr (some (0, 14)))), some (.inl x3)], [], D) else (59, [some (.inr (.inr (some (g0, 100)))), some (.inl x1), some (.inr (.inr (some (0, 14)))), some (.inl x3)], [], D))) bX6_charge_54 oX6_charge_54 rfl trivial ?_
      refine mz_Go.ite (fun hc3 => ?_) (fun hc3 => ?_)
      · have h := mz_ifp hc3 h
        refine mz_Go.run (gs := []) (st' := (43, [some (.inr (.inr (some (g0, 100)))), some (.inl x1), some (.inr (.inr (some (0, 14)))), some (.inl (x3 + (1 : Int32)))], [], D)) bX6_charge_72 oX6_charge_72 rfl trivial ?_
        exact mz_Go.drop [true, true, true, true] (ih x1 (x3 + (1 : Int32)) D h)
      · have h := mz_ifn hc3 h
        obtain ⟨hb4, h⟩ := mz_gd_some h
        refine mz_Go.run (gs := [mz_kz 0 g0 100, mz_kz 0 0 14, mz_ix x3 6]) (st' := (68, [some (.inr (.inr (some (g0, 100)))), some (.inl x1), some (.inr (.inr (some (0, 14)))), some (.inl x3)], [.inl (D.1 0 14 (x3).toNatClampNeg), .inl x1, .inl x3, .inr (.inr (some (g0, 113)))], D)) bX6_charge_59 oX6_charge_59 rfl ⟨hg0, rfl, hb4, trivial⟩ ?_
        obtain ⟨q5, hq5, h⟩ := mz_bd_some h
        refine mz_Go.callV (I := IX6_charge_14) (J := IX2_add) (as := [.inl x3, .inl x1, .inl (D.1 0 14 (x3).toNatClampNeg)]) (ci := 2) (g := g0) (o := 113) (idx := 83) (pl := 1178) (rest := []) (mX2_add g0 x3 x1 (D.1 0 14 (x3).toNatClampNeg) D hg0 q5 hq5) kX2_add vX2_add (by decide +kernel) (by decide +kernel) (by decide +kernel) rfl rfl ⟨rfl, rfl⟩ rfl rfl hg0 rfl ?_
        refine mz_Go.run (gs := []) (st' := (43, [some (.inr (.inr (some (g0, 100)))), some (.inl x1), some (.inr (.inr (some (0, 14)))), some (.inl (x3 + (1 : Int32)))], [], q5.2)) bX6_charge_71 oX6_charge_71 rfl trivial ?_
        exact mz_Go.drop [true, true, true, true] (ih x1 (x3 + (1 : Int32)) q5.2 h)
def fX6_charge_14_2 (g0 : Nat) : Nat → Int32 → Int32 → mz_D → Option (Int32 × mz_D)
  | 0 => fun _ _ _ => none
  | n + 1 => fun x1 x3 D => (if (D.1 g0 101 0) ≤ x3 then (fX6_charge_14_43 g0 mz_N x1 (0 : Int32) D) else (if x3 = x1 then ((fX6_charge_14_2 g0 n) x1 (x3 + (1 : Int32)) D) else (mz_gd (mz_ix x3 6) (Option.bind (fX2_canAdd g0 x3 x1 (D.1 0 14 (x3).toNatClampNeg) D) fun q4 => (if q4 = 0 then (some ((0 : Int32), D)) else ((fX6_charge_14_2 g0 n) x1 (x3 + (1 : Int32)) D))))))
set_option maxHeartbeats 4000000 in
theorem tX6_charge_14_2 (g0 : Nat) (hg0 : mz_tb g0 = true) (r : (Int32 × mz_D)) : ∀ (n : Nat) (x1 : Int32) (x3 : Int32) (D : mz_D), fX6_charge_14_2 g0 n x1 x3 D = some r → mz_Go IX6_charge_14 (some (.inl r.1), r.2) 0 0 (2, [some (.inr (.inr (some (g0, 100)))), some (.inl x1), some (.inr (.inr (some (0, 14)))), some (.inl x3)], [], D) := by
  intro n
  induction n with
  | zero => intro x1 x3 D h; have h : (none : Option (Int32 × mz_D)) = some r := h; cases h
  | succ n ih =>
    intro x1 x3 D h
    rw [fX6_charge_14_2] at h
    refine mz_Go.run (gs := [mz_kz 0 g0 100, mz_kz 0 g0 101]) (st' := (if (D.1 g0 101 0) ≤ x3 then (41, [some (.inr (.inr (some (g0, 100)))), some (.inl x1), some (.inr (.inr (some (0, 14)))), some (.inl x3)], [], D) else (13, [some (.inr (.inr (some (g0, 100)))), some (.inl x1), some (.inr (.inr (some (0, 14)))), some (.inl x3)], [], D))) bX6_charge_2 oX6_charge_2 rfl ⟨hg0, hg0, trivial⟩ ?_
    refine mz_Go.ite (fun hc1 => ?_) (fun hc1 => ?_)
    · have h := mz_ifp hc1 h
      refine mz_Go.run (gs := []) (st' := (43, [some (.inr (.inr (some (g0, 100)))), some (.inl x1), some (.inr (.inr (some (0, 14)))), some (.inl (0 : Int32))], [], D)) bX6_charge_41 oX6_charge_41 rfl trivial ?_
      exact mz_Go.drop [true, true, true, true] (tX6_charge_14_43 g0 hg0 r mz_N x1 (0 : Int32) D h)
    · have h := mz_ifn hc1 h
      refine mz_Go.run (gs := []) (st' := (if x3 = x1 then (35, [some (.inr (.inr (some (g0, 100)))), some (.inl x1), some (.inr (.inr (some (0, 14)))), some (.inl x3)], [], D) else (18, [some (.inr (.inr (some (g0, 100)))), some (.inl x1), some (.inr (.inr (some (0, 14)))), some (.inl x3)], [], D))) bX6_charge_13 oX6_charge_13 rfl trivial ?_
      refine mz_Go.ite (fun hc2 => ?_) (fun hc2 => ?_)
      · have h := mz_ifp hc2 h
        refine mz_Go.run (gs := []) (st' := (2, [some (.inr (.inr (some (g0, 100)))), some (.inl x1), some (.inr (.inr (some (0, 14)))), some (.inl (x3 + (1 : Int32)))], [], D)) bX6_charge_35 oX6_charge_35 rfl trivial ?_
        exact mz_Go.drop [true, true, true, true] (ih x1 (x3 + (1 : Int32)) D h)
      · have h := mz_ifn hc2 h
        obtain ⟨hb3, h⟩ := mz_gd_some h
        refine mz_Go.run (gs := [mz_kz 0 g0 100, mz_kz 0 0 14, mz_ix x3 6]) (st' := (27, [some (.inr (.inr (some (g0, 100)))), some (.inl x1), some (.inr (.inr (some (0, 14)))), some (.inl x3)], [.inl (D.1 0 14 (x3).toNatClampNeg), .inl x1, .inl x3, .inr (.inr (some (g0, 113)))], D)) bX6_charge_18 oX6_charge_18 rfl ⟨hg0, rfl, hb3, trivial⟩ ?_
        obtain ⟨q4, hq4, h⟩ := mz_bd_some h
        refine mz_Go.callV (I := IX6_charge_14) (J := IX2_canAdd) (as := [.inl x3, .inl x1, .inl (D.1 0 14 (x3).toNatClampNeg)]) (ci := 2) (g := g0) (o := 113) (idx := 79) (pl := 1173) (rest := []) (mX2_canAdd g0 x3 x1 (D.1 0 14 (x3).toNatClampNeg) D hg0 q4 hq4) kX2_canAdd vX2_canAdd (by decide +kernel) (by decide +kernel) (by decide +kernel) rfl rfl ⟨rfl, rfl⟩ rfl rfl hg0 rfl ?_
        refine mz_Go.run (gs := []) (st' := (if q4 = 0 then (33, [some (.inr (.inr (some (g0, 100)))), some (.inl x1), some (.inr (.inr (some (0, 14)))), some (.inl x3)], [], D) else (35, [some (.inr (.inr (some (g0, 100)))), some (.inl x1), some (.inr (.inr (some (0, 14)))), some (.inl x3)], [], D))) bX6_charge_30 oX6_charge_30 rfl trivial ?_
        refine mz_Go.ite (fun hc5 => ?_) (fun hc5 => ?_)
        · have h := mz_ifp hc5 h
          refine mz_Go.run (gs := []) (st' := (34, [some (.inr (.inr (some (g0, 100)))), some (.inl x1), some (.inr (.inr (some (0, 14)))), some (.inl x3)], [.inl (0 : Int32)], D)) bX6_charge_33 oX6_charge_33 rfl trivial ?_
          cases h
          exact mz_Go.retz (by decide +kernel) rfl ⟨Nat.le_refl _, Nat.le_refl _⟩ (by decide) rfl
        · have h := mz_ifn hc5 h
          refine mz_Go.run (gs := []) (st' := (2, [some (.inr (.inr (some (g0, 100)))), some (.inl x1), some (.inr (.inr (some (0, 14)))), some (.inl (x3 + (1 : Int32)))], [], D)) bX6_charge_35 oX6_charge_35 rfl trivial ?_
          exact mz_Go.drop [true, true, true, true] (ih x1 (x3 + (1 : Int32)) D h)
def fX6_charge_14 (g0 : Nat) (x1 : Int32) (D : mz_D) : Option (Int32 × mz_D) := (fX6_charge_14_2 g0 mz_N x1 (0 : Int32) D)
set_option maxHeartbeats 4000000 in
theorem mX6_charge_14 (g0 : Nat) (x1 : Int32) (D : mz_D) (hg0 : mz_tb g0 = true) (r : (Int32 × mz_D)) (h : fX6_charge_14 g0 x1 D = some r) : mz_Met IX6_charge_14 [.inr (.inr (some (g0, 100))), .inl x1, .inr (.inr (some (0, 14)))] D (some (.inl r.1), r.2) := by
  refine mz_Met.of (by decide +kernel) (Nat.le_of_ble_eq_true rfl) ?_
  show mz_Go IX6_charge_14 (some (.inl r.1), r.2) 0 0 (0, [some (.inr (.inr (some (g0, 100)))), some (.inl x1), some (.inr (.inr (some (0, 14)))), none], [], D)
  rw [fX6_charge_14] at h
  refine mz_Go.run (gs := []) (st' := (2, [some (.inr (.inr (some (g0, 100)))), some (.inl x1), some (.inr (.inr (some (0, 14)))), some (.inl (0 : Int32))], [], D)) bX6_charge_0 oX6_charge_0 rfl trivial ?_
  exact mz_Go.drop [true, true, true, true] (tX6_charge_14_2 g0 hg0 r mz_N x1 (0 : Int32) D h)
def bX3_missUnless_0 : List mz_E := [(0, .iload_n 1, 0, 0, 0, 0, 0), (1, .ifCond .ne 13, 0, 14, 0, 0, 0)]
theorem oX3_missUnless_0 : bX3_missUnless_0.all (mz_ok RX3 cX3_missUnless 2) = true := by decide +kernel
def bX3_missUnless_4 : List mz_E := [(4, .aload_n 0, 0, 0, 0, 0, 0), (5, .dup, 0, 0, 0, 0, 0), (6, .getfield 21, 3, 1, 523, 0, 0), (9, .iconst 1, 0, 0, 0, 1, 0), (10, .iadd, 0, 0, 0, 0, 0), (11, .putfield 21, 3, 1, 523, 0, 0)]
theorem oX3_missUnless_4 : bX3_missUnless_4.all (mz_ok RX3 cX3_missUnless 2) = true := by decide +kernel
abbrev IX3_missUnless : mz_I := (yX3_missUnless, cX3_missUnless, 2, none, 0, 0, 0, 0)
theorem kX3_missUnless : mz_okm IX3_missUnless 1524 140 1523 1 = true := by decide +kernel
theorem vX3_missUnless : mz_okV IX3_missUnless 1523 41 = true := by decide +kernel
def fX3_missUnless (x1 : Int32) (D : mz_D) : Option mz_D := (if x1 = 0 then (some (mz_wi D 0 9 1 ((D.1 0 9 1) + (1 : Int32)))) else (some D))
set_option maxHeartbeats 4000000 in
theorem mX3_missUnless (x1 : Int32) (D : mz_D) (r : mz_D) (h : fX3_missUnless x1 D = some r) : mz_Met IX3_missUnless [.inr (.inr (some (0, 9))), .inl x1] D (none, r) := by
  refine mz_Met.of (by decide +kernel) (Nat.le_of_ble_eq_true rfl) ?_
  show mz_Go IX3_missUnless (none, r) 0 0 (0, [some (.inr (.inr (some (0, 9)))), some (.inl x1)], [], D)
  rw [fX3_missUnless] at h
  refine mz_Go.run (gs := []) (st' := (if x1 = 0 then (4, [some (.inr (.inr (some (0, 9)))), some (.inl x1)], [], D) else (14, [some (.inr (.inr (some (0, 9)))), some (.inl x1)], [], D))) bX3_missUnless_0 oX3_missUnless_0 rfl trivial ?_
  refine mz_Go.ite (fun hc1 => ?_) (fun hc1 => ?_)
  · have h := mz_ifp hc1 h
    refine mz_Go.run (gs := [mz_kz 0 0 9, mz_kz 0 0 9]) (st' := (14, [some (.inr (.inr (some (0, 9)))), some (.inl x1)], [], (mz_wi D 0 9 1 ((D.1 0 9 1) + (1 : Int32))))) bX3_missUnless_4 oX3_missUnless_4 rfl ⟨rfl, rfl, trivial⟩ ?_
    cases h
    exact mz_Go.retv (by decide +kernel) rfl ⟨Nat.le_refl _, Nat.le_refl _⟩ rfl
  · have h := mz_ifn hc1 h
    cases h
    exact mz_Go.retv (by decide +kernel) rfl ⟨Nat.le_refl _, Nat.le_refl _⟩ rfl
abbrev IX6_charge_12 : mz_I := (yX6_charge, cX6_charge, 4, (some .boolean), 0, 2, 0, 0)
theorem kX6_charge_12 : mz_okm IX6_charge_12 1172 134 1170 2 = true := by decide +kernel
theorem vX6_charge_12 : mz_okV IX6_charge_12 1170 1171 = true := by decide +kernel
def fX6_charge_12_43 (g0 : Nat) : Nat → Int32 → Int32 → mz_D → Option (Int32 × mz_D)
  | 0 => fun _ _ _ => none
  | n + 1 => fun x1 x3 D => (if (D.1 g0 101 0) ≤ x3 then (mz_gd (mz_ix x1 6) (some ((1 : Int32), (mz_wi D g0 108 (x1).toNatClampNeg ((D.1 g0 108 (x1).toNatClampNeg) + (1 : Int32)))))) else (if x3 = x1 then ((fX6_charge_12_43 g0 n) x1 (x3 + (1 : Int32)) D) else (mz_gd (mz_ix x3 6) (Option.bind (fX2_add g0 x3 x1 (D.1 0 12 (x3).toNatClampNeg) D) fun q5 => ((fX6_charge_12_43 g0 n) x1 (x3 + (1 : Int32)) q5.2)))))
set_option maxHeartbeats 4000000 in
theorem tX6_charge_12_43 (g0 : Nat) (hg0 : mz_tb g0 = true) (r : (Int32 × mz_D)) : ∀ (n : Nat) (x1 : Int32) (x3 : Int32) (D : mz_D), fX6_charge_12_43 g0 n x1 x3 D = some r → mz_Go IX6_charge_12 (some (.inl r.1), r.2) 0 0 (43, [some (.inr (.inr (some (g0, 100)))), some (.inl x1), some (.inr (.inr (some (0, 12)))), some (.inl x3)], [], D) := by
  intro n
  induction n with
  | zero => intro x1 x3 D h; have h : (none : Option (Int32 × mz_D)) = some r := h; cases h
  | succ n ih =>
    intro x1 x3 D h
    rw [fX6_charge_12_43] at h
    refine mz_Go.run (gs := [mz_kz 0 g0 100, mz_kz 0 g0 101]) (st' := (if (D.1 g0 101 0) ≤ x3 then (78, [some (.inr (.inr (some (g0, 100)))), some (.inl x1), some (.inr (.inr (some (0, 12)))), some (.inl x3)], [], D) else (54, [some (.inr (.inr (some (g0, 100)))), some (.inl x1), some (.inr (.inr (some (0, 12)))), some (.inl x3)], [], D))) bX6_charge_43 oX6_charge_43 rfl ⟨hg0, hg0, trivial⟩ ?_
    refine mz_Go.ite (fun hc1 => ?_) (fun hc1 => ?_)
    · have h := mz_ifp hc1 h
      obtain ⟨hb2, h⟩ := mz_gd_some h
      refine mz_Go.run (gs := [mz_kz 0 g0 100, mz_kz 0 g0 101, mz_kz 0 g0 108, mz_ix x1 6, mz_kz 0 g0 108, mz_ix x1 6]) (st' := (92, [some (.inr (.inr (some (g0, 100)))), some (.inl x1), some (.inr (.inr (some (0, 12)))), some (.inl x3)], [.inl (1 : Int32)], (mz_wi D g0 108 (x1).toNatClampNeg ((D.1 g0 108 (x1).toNatClampNeg) + (1 : Int32))))) bX6_charge_78 oX6_charge_78 rfl ⟨hg0, hg0, hg0, hb2, hg0, hb2, trivial⟩ ?_
      cases h
      exact mz_Go.retz (by decide +kernel) rfl ⟨Nat.le_refl _, Nat.le_refl _⟩ (by decide) rfl
    · have h := mz_ifn hc1 h
      refine mz_Go.run (gs := []) (st' := (if x3 = x1 then (72, [some (.inr (.inr (some (g0, 100)))), some (.inl x1), some (.inr (.inr (some (0, 12)))), some (.inl x3)], [], D) else (59, [some (.inr (.inr (some (g0, 100)))), some (.inl x1), some (.inr (.inr (some (0, 12)))), some (.inl x3)], [], D))) bX6_charge_54 oX6_charge_54 rfl trivial ?_
      refine mz_Go.ite (fun hc3 => ?_) (fun hc3 => ?_)
      · have h := mz_ifp hc3 h
        refine mz_Go.run (gs := []) (st' := (43, [some (.inr (.inr (some (g0, 100)))), some (.inl x1), some (.inr (.inr (some (0, 12)))), some (.inl (x3 + (1 : Int32)))], [], D)) bX6_charge_72 oX6_charge_72 rfl trivial ?_
        exact mz_Go.drop [true, true, true, true] (ih x1 (x3 + (1 : Int32)) D h)
      · have h := mz_ifn hc3 h
        obtain ⟨hb4, h⟩ := mz_gd_some h
        refine mz_Go.run (gs := [mz_kz 0 g0 100, mz_kz 0 0 12, mz_ix x3 6]) (st' := (68, [some (.inr (.inr (some (g0, 100)))), some (.inl x1), some (.inr (.inr (some (0, 12)))), some (.inl x3)], [.inl (D.1 0 12 (x3).toNatClampNeg), .inl x1, .inl x3, .inr (.inr (some (g0, 113)))], D)) bX6_charge_59 oX6_charge_59 rfl ⟨hg0, rfl, hb4, trivial⟩ ?_
        obtain ⟨q5, hq5, h⟩ := mz_bd_some h
        refine mz_Go.callV (I := IX6_charge_12) (J := IX2_add) (as := [.inl x3, .inl x1, .inl (D.1 0 12 (x3).toNatClampNeg)]) (ci := 2) (g := g0) (o := 113) (idx := 83) (pl := 1178) (rest := []) (mX2_add g0 x3 x1 (D.1 0 12 (x3).toNatClampNeg) D hg0 q5 hq5) kX2_add vX2_add (by decide +kernel) (by decide +kernel) (by decide +kernel) rfl rfl ⟨rfl, rfl⟩ rfl rfl hg0 rfl ?_
        refine mz_Go.run (gs := []) (st' := (43, [some (.inr (.inr (some (g0, 100)))), some (.inl x1), some (.inr (.inr (some (0, 12)))), some (.inl (x3 + (1 : Int32)))], [], q5.2)) bX6_charge_71 oX6_charge_71 rfl trivial ?_
        exact mz_Go.drop [true, true, true, true] (ih x1 (x3 + (1 : Int32)) q5.2 h)
def fX6_charge_12_2 (g0 : Nat) : Nat → Int32 → Int32 → mz_D → Option (Int32 × mz_D)
  | 0 => fun _ _ _ => none
  | n + 1 => fun x1 x3 D => (if (D.1 g0 101 0) ≤ x3 then (fX6_charge_12_43 g0 mz_N x1 (0 : Int32) D) else (if x3 = x1 then ((fX6_charge_12_2 g0 n) x1 (x3 + (1 : Int32)) D) else (mz_gd (mz_ix x3 6) (Option.bind (fX2_canAdd g0 x3 x1 (D.1 0 12 (x3).toNatClampNeg) D) fun q4 => (if q4 = 0 then (some ((0 : Int32), D)) else ((fX6_charge_12_2 g0 n) x1 (x3 + (1 : Int32)) D))))))
set_option maxHeartbeats 4000000 in
theorem tX6_charge_12_2 (g0 : Nat) (hg0 : mz_tb g0 = true) (r : (Int32 × mz_D)) : ∀ (n : Nat) (x1 : Int32) (x3 : Int32) (D : mz_D), fX6_charge_12_2 g0 n x1 x3 D = some r → mz_Go IX6_charge_12 (some (.inl r.1), r.2) 0 0 (2, [some (.inr (.inr (some (g0, 100)))), some (.inl x1), some (.inr (.inr (some (0, 12)))), some (.inl x3)], [], D) := by
  intro n
  induction n with
  | zero => intro x1 x3 D h; have h : (none : Option (Int32 × mz_D)) = some r := h; cases h
  | succ n ih =>
    intro x1 x3 D h
    rw [fX6_charge_12_2] at h
    refine mz_Go.run (gs := [mz_kz 0 g0 100, mz_kz 0 g0 101]) (st' := (if (D.1 g0 101 0) ≤ x3 then (41, [some (.inr (.inr (some (g0, 100)))), some (.inl x1), some (.inr (.inr (some (0, 12)))), some (.inl x3)], [], D) else (13, [some (.inr (.inr (some (g0, 100)))), some (.inl x1), some (.inr (.inr (some (0, 12)))), some (.inl x3)], [], D))) bX6_charge_2 oX6_charge_2 rfl ⟨hg0, hg0, trivial⟩ ?_
    refine mz_Go.ite (fun hc1 => ?_) (fun hc1 => ?_)
    · have h := mz_ifp hc1 h
      refine mz_Go.run (gs := []) (st' := (43, [some (.inr (.inr (some (g0, 100)))), some (.inl x1), some (.inr (.inr (some (0, 12)))), some (.inl (0 : Int32))], [], D)) bX6_charge_41 oX6_charge_41 rfl trivial ?_
      exact mz_Go.drop [true, true, true, true] (tX6_charge_12_43 g0 hg0 r mz_N x1 (0 : Int32) D h)
    · have h := mz_ifn hc1 h
      refine mz_Go.run (gs := []) (st' := (if x3 = x1 then (35, [some (.inr (.inr (some (g0, 100)))), some (.inl x1), some (.inr (.inr (some (0, 12)))), some (.inl x3)], [], D) else (18, [some (.inr (.inr (some (g0, 100)))), some (.inl x1), some (.inr (.inr (some (0, 12)))), some (.inl x3)], [], D))) bX6_charge_13 oX6_charge_13 rfl trivial ?_
      refine mz_Go.ite (fun hc2 => ?_) (fun hc2 => ?_)
      · have h := mz_ifp hc2 h
        refine mz_Go.run (gs := []) (st' := (2, [some (.inr (.inr (some (g0, 100)))), some (.inl x1), some (.inr (.inr (some (0, 12)))), some (.inl (x3 + (1 : Int32)))], [], D)) bX6_charge_35 oX6_charge_35 rfl trivial ?_
        exact mz_Go.drop [true, true, true, true] (ih x1 (x3 + (1 : Int32)) D h)
      · have h := mz_ifn hc2 h
        obtain ⟨hb3, h⟩ := mz_gd_some h
        refine mz_Go.run (gs := [mz_kz 0 g0 100, mz_kz 0 0 12, mz_ix x3 6]) (st' := (27, [some (.inr (.inr (some (g0, 100)))), some (.inl x1), some (.inr (.inr (some (0, 12)))), some (.inl x3)], [.inl (D.1 0 12 (x3).toNatClampNeg), .inl x1, .inl x3, .inr (.inr (some (g0, 113)))], D)) bX6_charge_18 oX6_charge_18 rfl ⟨hg0, rfl, hb3, trivial⟩ ?_
        obtain ⟨q4, hq4, h⟩ := mz_bd_some h
        refine mz_Go.callV (I := IX6_charge_12) (J := IX2_canAdd) (as := [.inl x3, .inl x1, .inl (D.1 0 12 (x3).toNatClampNeg)]) (ci := 2) (g := g0) (o := 113) (idx := 79) (pl := 1173) (rest := []) (mX2_canAdd g0 x3 x1 (D.1 0 12 (x3).toNatClampNeg) D hg0 q4 hq4) kX2_canAdd vX2_canAdd (by decide +kernel) (by decide +kernel) (by decide +kernel) rfl rfl ⟨rfl, rfl⟩ rfl rfl hg0 rfl ?_
        refine mz_Go.run (gs := []) (st' := (if q4 = 0 then (33, [some (.inr (.inr (some (g0, 100)))), some (.inl x1), some (.inr (.inr (some (0, 12)))), some (.inl x3)], [], D) else (35, [some (.inr (.inr (some (g0, 100)))), some (.inl x1), some (.inr (.inr (some (0, 12)))), some (.inl x3)], [], D))) bX6_charge_30 oX6_charge_30 rfl trivial ?_
        refine mz_Go.ite (fun hc5 => ?_) (fun hc5 => ?_)
        · have h := mz_ifp hc5 h
          refine mz_Go.run (gs := []) (st' := (34, [some (.inr (.inr (some (g0, 100)))), some (.inl x1), some (.inr (.inr (some (0, 12)))), some (.inl x3)], [.inl (0 : Int32)], D)) bX6_charge_33 oX6_charge_33 rfl trivial ?_
          cases h
          exact mz_Go.retz (by decide +kernel) rfl ⟨Nat.le_refl _, Nat.le_refl _⟩ (by decide) rfl
        · have h := mz_ifn hc5 h
          refine mz_Go.run (gs := []) (st' := (2, [some (.inr (.inr (some (g0, 100)))), some (.inl x1), some (.inr (.inr (some (0, 12)))), some (.inl (x3 + (1 : Int32)))], [], D)) bX6_charge_35 oX6_charge_35 rfl trivial ?_
          exact mz_Go.drop [true, true, true, true] (ih x1 (x3 + (1 : Int32)) D h)
def fX6_charge_12 (g0 : Nat) (x1 : Int32) (D : mz_D) : Option (Int32 × mz_D) := (fX6_charge_12_2 g0 mz_N x1 (0 : Int32) D)
set_option maxHeartbeats 4000000 in
theorem mX6_charge_12 (g0 : Nat) (x1 : Int32) (D : mz_D) (hg0 : mz_tb g0 = true) (r : (Int32 × mz_D)) (h : fX6_charge_12 g0 x1 D = some r) : mz_Met IX6_charge_12 [.inr (.inr (some (g0, 100))), .inl x1, .inr (.inr (some (0, 12)))] D (some (.inl r.1), r.2) := by
  refine mz_Met.of (by decide +kernel) (Nat.le_of_ble_eq_true rfl) ?_
  show mz_Go IX6_charge_12 (some (.inl r.1), r.2) 0 0 (0, [some (.inr (.inr (some (g0, 100)))), some (.inl x1), some (.inr (.inr (some (0, 12)))), none], [], D)
  rw [fX6_charge_12] at h
  refine mz_Go.run (gs := []) (st' := (2, [some (.inr (.inr (some (g0, 100)))), some (.inl x1), some (.inr (.inr (some (0, 12)))), some (.inl (0 : Int32))], [], D)) bX6_charge_0 oX6_charge_0 rfl trivial ?_
  exact mz_Go.drop [true, true, true, true] (tX6_charge_12_2 g0 hg0 r mz_N x1 (0 : Int32) D h)
def bX3_dine_0 : List mz_E := [(0, .iload_n 2, 0, 0, 0, 0, 0), (1, .iconst (-1), 0, 0, 0, -1, 0), (2, .if_icmp .eq 19, 0, 21, 0, 0, 0)]
theorem oX3_dine_0 : bX3_dine_0.all (mz_ok RX3 cX3_dine 4) = true := by decide +kernel
def bX3_dine_21 : List mz_E := [(21, .iconst 0, 0, 0, 0, 0, 0)]
theorem oX3_dine_21 : bX3_dine_21.all (mz_ok RX3 cX3_dine 4) = true := by decide +kernel
def bX3_dine_22 : List mz_E := [(22, .istore_n 3, 0, 0, 0, 0, 0), (23, .aload_n 0, 0, 0, 0, 0, 0), (24, .iload_n 3, 0, 0, 0, 0, 0)]
theorem oX3_dine_22 : bX3_dine_22.all (mz_ok RX3 cX3_dine 4) = true := by decide +kernel
def bX3_dine_28 : List mz_E := [(28, .iload_n 3, 0, 0, 0, 0, 0), (29, .ifCond .eq 13, 0, 42, 0, 0, 0)]
theorem oX3_dine_28 : bX3_dine_28.all (mz_ok RX3 cX3_dine 4) = true := by decide +kernel
def bX3_dine_32 : List mz_E := [(32, .aload_n 0, 0, 0, 0, 0, 0), (33, .dup, 0, 0, 0, 0, 0), (34, .getfield 25, 3, 2, 524, 0, 0), (37, .iconst 1, 0, 0, 0, 1, 0), (38, .iadd, 0, 0, 0, 0, 0), (39, .putfield 25, 3, 2, 524, 0, 0)]
theorem oX3_dine_32 : bX3_dine_32.all (mz_ok RX3 cX3_dine 4) = true := by decide +kernel
def bX3_dine_5 : List mz_E := [(5, .aload_n 1, 0, 0, 0, 0, 0), (6, .iload_n 2, 0, 0, 0, 0, 0), (7, .aload_n 0, 0, 0, 0, 0, 0), (8, .getfield 18, 3, 11, 533, 0, 0)]
theorem oX3_dine_5 : bX3_dine_5.all (mz_ok RX3 cX3_dine 4) = true := by decide +kernel
def bX3_dine_14 : List mz_E := [(14, .ifCond .eq 7, 0, 21, 0, 0, 0)]
theorem oX3_dine_14 : bX3_dine_14.all (mz_ok RX3 cX3_dine 4) = true := by decide +kernel
def bX3_dine_17 : List mz_E := [(17, .iconst 1, 0, 0, 0, 1, 0), (18, .goto 4, 0, 22, 0, 0, 0)]
theorem oX3_dine_17 : bX3_dine_17.all (mz_ok RX3 cX3_dine 4) = true := by decide +kernel
abbrev IX3_dine : mz_I := (yX3_dine, cX3_dine, 4, none, 0, 3, 0, 0)
theorem kX3_dine : mz_okm IX3_dine 1519 140 1518 2 = true := by decide +kernel
theorem vX3_dine : mz_okV IX3_dine 1518 40 = true := by decide +kernel
def fX3_dine_22 (g1 : Nat) (s0 : Int32) (D : mz_D) : Option mz_D := (Option.bind (fX3_missUnless s0 D) fun q1 => (if s0 = 0 then (some q1) else (some (mz_wi q1 0 9 2 ((q1.1 0 9 2) + (1 : Int32))))))
set_option maxHeartbeats 4000000 in
theorem tX3_dine_22 (g1 : Nat) (hg1 : mz_tb g1 = true) (r : mz_D) : ∀ (s0 : Int32) (D : mz_D), fX3_dine_22 g1 s0 D = some r → mz_Go IX3_dine (none, r) 0 0 (22, [some (.inr (.inr (some (0, 9)))), none, none, none], [.inl s0], D) := by
  intro s0 D h
  rw [fX3_dine_22] at h
  refine mz_Go.run (gs := []) (st' := (25, [some (.inr (.inr (some (0, 9)))), none, none, some (.inl s0)], [.inl s0, .inr (.inr (some (0, 9)))], D)) bX3_dine_22 oX3_dine_22 rfl trivial ?_
  obtain ⟨q1, hq1, h⟩ := mz_bd_some h
  refine mz_Go.callV (I := IX3_dine) (J := IX3_missUnless) (as := [.inl s0]) (ci := 3) (g := 0) (o := 9) (idx := 128) (pl := 1521) (rest := []) (mX3_missUnless s0 D q1 hq1) kX3_missUnless vX3_missUnless (by decide +kernel) (by decide +kernel) (by decide +kernel) rfl rfl ⟨rfl, rfl⟩ rfl rfl rfl rfl ?_
  refine mz_Go.run (gs := []) (st' := (if s0 = 0 then (42, [some (.inr (.inr (some (0, 9)))), none, none, some (.inl s0)], [], q1) else (32, [some (.inr (.inr (some (0, 9)))), none, none, some (.inl s0)], [], q1))) bX3_dine_28 oX3_dine_28 rfl trivial ?_
  refine mz_Go.ite (fun hc2 => ?_) (fun hc2 => ?_)
  · have h := mz_ifp hc2 h
    cases h
    exact mz_Go.retv (by decide +kernel) rfl ⟨Nat.le_refl _, Nat.le_refl _⟩ rfl
  · have h := mz_ifn hc2 h
    refine mz_Go.run (gs := [mz_kz 0 0 9, mz_kz 0 0 9]) (st' := (42, [some (.inr (.inr (some (0, 9)))), none, none, some (.inl s0)], [], (mz_wi q1 0 9 2 ((q1.1 0 9 2) + (1 : Int32))))) bX3_dine_32 oX3_dine_32 rfl ⟨rfl, rfl, trivial⟩ ?_
    cases h
    exact mz_Go.retv (by decide +kernel) rfl ⟨Nat.le_refl _, Nat.le_refl _⟩ rfl
def fX3_dine_21 (g1 : Nat) (D : mz_D) : Option mz_D := (fX3_dine_22 g1 (0 : Int32) D)
set_option maxHeartbeats 4000000 in
theorem tX3_dine_21 (g1 : Nat) (hg1 : mz_tb g1 = true) (r : mz_D) : ∀ (D : mz_D), fX3_dine_21 g1 D = some r → mz_Go IX3_dine (none, r) 0 0 (21, [some (.inr (.inr (some (0, 9)))), none, none, none], [], D) := by
  intro D h
  rw [fX3_dine_21] at h
  refine mz_Go.run (gs := []) (st' := (22, [some (.inr (.inr (some (0, 9)))), none, none, none], [.inl (0 : Int32)], D)) bX3_dine_21 oX3_dine_21 rfl trivial ?_
  exact mz_Go.drop [true, false, false, false] (tX3_dine_22 g1 hg1 r (0 : Int32) D h)
def fX3_dine (g1 : Nat) (x2 : Int32) (D : mz_D) : Option mz_D := (if x2 = (-1 : Int32) then (fX3_dine_21 g1 D) else (Option.bind (fX6_charge_12 g1 x2 D) fun q2 => (if q2.1 = 0 then (fX3_dine_21 g1 q2.2) else (fX3_dine_22 g1 (1 : Int32) q2.2))))
set_option maxHeartbeats 4000000 in
theorem mX3_dine (g1 : Nat) (x2 : Int32) (D : mz_D) (hg1 : mz_tb g1 = true) (r : mz_D) (h : fX3_dine g1 x2 D = some r) : mz_Met IX3_dine [.inr (.inr (some (0, 9))), .inr (.inr (some (g1, 100))), .inl x2] D (none, r) := by
  refine mz_Met.of (by decide +kernel) (Nat.le_of_ble_eq_true rfl) ?_
  show mz_Go IX3_dine (none, r) 0 0 (0, [some (.inr (.inr (some (0, 9)))), some (.inr (.inr (some (g1, 100)))), some (.inl x2), none], [], D)
  rw [fX3_dine] at h
  refine mz_Go.run (gs := []) (st' := (if x2 = (-1 : Int32) then (21, [some (.inr (.inr (some (0, 9)))), some (.inr (.inr (some (g1, 100)))), some (.inl x2), none], [], D) else (5, [some (.inr (.inr (some (0, 9)))), some (.inr (.inr (some (g1, 100)))), some (.inl x2), none], [], D))) bX3_dine_0 oX3_dine_0 rfl trivial ?_
  refine mz_Go.ite (fun hc1 => ?_) (fun hc1 => ?_)
  · have h := mz_ifp hc1 h
    exact mz_Go.drop [true, false, false, false] (tX3_dine_21 g1 hg1 r D h)
  · have h := mz_ifn hc1 h
    refine mz_Go.run (gs := [mz_kz 0 0 9]) (st' := (11, [some (.inr (.inr (some (0, 9)))), some (.inr (.inr (some (g1, 100)))), some (.inl x2), none], [.inr (.inr (some (0, 12))), .inl x2, .inr (.inr (some (g1, 100)))], D)) bX3_dine_5 oX3_dine_5 rfl ⟨rfl, trivial⟩ ?_
    obtain ⟨q2, hq2, h⟩ := mz_bd_some h
    refine mz_Go.callV (I := IX3_dine) (J := IX6_charge_12) (as := [.inl x2, .inr (.inr (some (0, 12)))]) (ci := 6) (g := g1) (o := 100) (idx := 152) (pl := 1520) (rest := []) (mX6_charge_12 g1 x2 D hg1 q2 hq2) kX6_charge_12 vX6_charge_12 (by decide +kernel) (by decide +kernel) (by decide +kernel) rfl rfl ⟨rfl, rfl⟩ rfl rfl hg1 rfl ?_
    refine mz_Go.run (gs := []) (st' := (if q2.1 = 0 then (21, [some (.inr (.inr (some (0, 9)))), some (.inr (.inr (some (g1, 100)))), some (.inl x2), none], [], q2.2) else (17, [some (.inr (.inr (some (0, 9)))), some (.inr (.inr (some (g1, 100)))), some (.inl x2), none], [], q2.2))) bX3_dine_14 oX3_dine_14 rfl trivial ?_
    refine mz_Go.ite (fun hc3 => ?_) (fun hc3 => ?_)
    · have h := mz_ifp hc3 h
      exact mz_Go.drop [true, false, false, false] (tX3_dine_21 g1 hg1 r q2.2 h)
    · have h := mz_ifn hc3 h
      refine mz_Go.run (gs := []) (st' := (22, [some (.inr (.inr (some (0, 9)))), some (.inr (.inr (some (g1, 100)))), some (.inl x2), none], [.inl (1 : Int32)], q2.2)) bX3_dine_17 oX3_dine_17 rfl trivial ?_
      exact mz_Go.drop [true, false, false, false] (tX3_dine_22 g1 hg1 r (1 : Int32) q2.2 h)
def bX3_winner_0 : List mz_E := [(0, .iload_n 2, 0, 0, 0, 0, 0), (1, .istore 4, 0, 0, 0, 0, 0), (3, .iload_n 3, 0, 0, 0, 0, 0), (4, .istore 5, 0, 0, 0, 0, 0), (6, .iconst 0, 0, 0, 0, 0, 0), (7, .istore 6, 0, 0, 0, 0, 0)]
theorem oX3_winner_0 : bX3_winner_0.all (mz_ok RX3 cX3_winner 8) = true := by decide +kernel
def bX3_winner_9 : List mz_E := [(9, .iload 6, 0, 0, 0, 0, 0), (11, .bipush 20, 0, 0, 0, 20, 0), (13, .if_icmp .ge 50, 0, 63, 0, 0, 0)]
theorem oX3_winner_9 : bX3_winner_9.all (mz_ok RX3 cX3_winner 8) = true := by decide +kernel
def bX3_winner_63 : List mz_E := [(63, .iload 5, 0, 0, 0, 0, 0)]
theorem oX3_winner_63 : bX3_winner_63.all (mz_ok RX3 cX3_winner 8) = true := by decide +kernel
def bX3_winner_16 : List mz_E := [(16, .aload_n 0, 0, 0, 0, 0, 0), (17, .dup, 0, 0, 0, 0, 0), (18, .getfield 28, 3, 3, 525, 0, 0), (21, .iconst 1, 0, 0, 0, 1, 0), (22, .iadd, 0, 0, 0, 0, 0), (23, .putfield 28, 3, 3, 525, 0, 0), (26, .aload_n 0, 0, 0, 0, 0, 0), (27, .bipush 16, 0, 0, 0, 16, 0)]
theorem oX3_winner_16 : bX3_winner_16.all (mz_ok RX3 cX3_winner 8) = true := by decide +kernel
def bX3_winner_32 : List mz_E := [(32, .aload_n 1, 0, 0, 0, 0, 0), (33, .getfield 178, 4, 4, 302, 0, 0), (36, .iload 4, 0, 0, 0, 0, 0), (38, .iaload, 0, 0, 0, 0, 0), (39, .if_icmp .lt 6, 0, 45, 0, 0, 0)]
theorem oX3_winner_32 : bX3_winner_32.all (mz_ok RX3 cX3_winner 8) = true := by decide +kernel
def bX3_winner_45 : List mz_E := [(45, .iload 4, 0, 0, 0, 0, 0), (47, .istore 7, 0, 0, 0, 0, 0), (49, .iload 5, 0, 0, 0, 0, 0), (51, .istore 4, 0, 0, 0, 0, 0), (53, .iload 7, 0, 0, 0, 0, 0), (55, .istore 5, 0, 0, 0, 0, 0), (57, .iinc 6 1, 0, 0, 0, 1, 0), (60, .goto (-51), 0, 9, 0, 0, 0)]
theorem oX3_winner_45 : bX3_winner_45.all (mz_ok RX3 cX3_winner 8) = true := by decide +kernel
def bX3_winner_42 : List mz_E := [(42, .iload 5, 0, 0, 0, 0, 0)]
theorem oX3_winner_42 : bX3_winner_42.all (mz_ok RX3 cX3_winner 8) = true := by decide +kernel
abbrev IX3_winner : mz_I := (yX3_winner, cX3_winner, 8, (some .int), 0, 1, 0, 0)
theorem kX3_winner : mz_okm IX3_winner 1528 140 1527 3 = true := by decide +kernel
theorem vX3_winner : mz_okV IX3_winner 1527 42 = true := by decide +kernel
def fX3_winner_9 (g1 : Nat) : Nat → Int32 → Int32 → Int32 → mz_D → Option (Int32 × mz_D)
  | 0 => fun _ _ _ _ => none
  | n + 1 => fun x4 x5 x6 D => (if (20 : Int32) ≤ x6 then (some (x5, D)) else (Option.bind (fX3_draw (16 : Int32) (mz_wi D 0 9 3 ((D.1 0 9 3) + (1 : Int32)))) fun q2 => (mz_gd (mz_ix x4 6) (if q2.1 < (q2.2.1 g1 103 (x4).toNatClampNeg) then ((fX3_winner_9 g1 n) x5 x4 (x6 + (1 : Int32)) q2.2) else (some (x5, q2.2))))))
set_option maxHeartbeats 4000000 in
theorem tX3_winner_9 (g1 : Nat) (hg1 : mz_tb g1 = true) (r : (Int32 × mz_D)) : ∀ (n : Nat) (x4 : Int32) (x5 : Int32) (x6 : Int32) (D : mz_D), fX3_winner_9 g1 n x4 x5 x6 D = some r → mz_Go IX3_winner (some (.inl r.1), r.2) 0 0 (9, [some (.inr (.inr (some (0, 9)))), some (.inr (.inr (some (g1, 101)))), none, none, some (.inl x4), some (.inl x5), some (.inl x6), none], [], D) := by
  intro n
  induction n with
  | zero => intro x4 x5 x6 D h; have h : (none : Option (Int32 × mz_D)) = some r := h; cases h
  | succ n ih =>
    intro x4 x5 x6 D h
    rw [fX3_winner_9] at h
    refine mz_Go.run (gs := []) (st' := (if (20 : Int32) ≤ x6 then (63, [some (.inr (.inr (some (0, 9)))), some (.inr (.inr (some (g1, 101)))), none, none, some (.inl x4), some (.inl x5), some (.inl x6), none], [], D) else (16, [some (.inr (.inr (some (0, 9)))), some (.inr (.inr (some (g1, 101)))), none, none, some (.inl x4), some (.inl x5), some (.inl x6), none], [], D))) bX3_winner_9 oX3_winner_9 rfl trivial ?_
    refine mz_Go.ite (fun hc1 => ?_) (fun hc1 => ?_)
    · have h := mz_ifp hc1 h
      refine mz_Go.run (gs := []) (st' := (65, [some (.inr (.inr (some (0, 9)))), some (.inr (.inr (some (g1, 101)))), none, none, some (.inl x4), some (.inl x5), some (.inl x6), none], [.inl x5], D)) bX3_winner_63 oX3_winner_63 rfl trivial ?_
      cases h
      exact mz_Go.reti (by decide +kernel) rfl ⟨Nat.le_refl _, Nat.le_refl _⟩ rfl
    · have h := mz_ifn hc1 h
      refine mz_Go.run (gs := [mz_kz 0 0 9, mz_kz 0 0 9]) (st' := (29, [some (.inr (.inr (some (0, 9)))), some (.inr (.inr (some (g1, 101)))), none, none, some (.inl x4), some (.inl x5), some (.inl x6), none], [.inl (16 : Int32), .inr (.inr (some (0, 9)))], (mz_wi D 0 9 3 ((D.1 0 9 3) + (1 : Int32))))) bX3_winner_16 oX3_winner_16 rfl ⟨rfl, rfl, trivial⟩ ?_
      obtain ⟨q2, hq2, h⟩ := mz_bd_some h
      refine mz_Go.callV (I := IX3_winner) (J := IX3_draw) (as := [.inl (16 : Int32)]) (ci := 3) (g := 0) (o := 9) (idx := 171) (pl := 1511) (rest := []) (mX3_draw (16 : Int32) (mz_wi D 0 9 3 ((D.1 0 9 3) + (1 : Int32))) q2 hq2) kX3_draw vX3_draw (by decide +kernel) (by decide +kernel) (by decide +kernel) rfl rfl ⟨rfl, rfl⟩ rfl rfl rfl rfl ?_
      obtain ⟨hb3, h⟩ := mz_gd_some h
      refine mz_Go.run (gs := [mz_kz 0 g1 101, mz_kz 0 g1 103, mz_ix x4 6]) (st' := (if q2.1 < (q2.2.1 g1 103 (x4).toNatClampNeg) then (45, [some (.inr (.inr (some (0, 9)))), some (.inr (.inr (some (g1, 101)))), none, none, some (.inl x4), some (.inl x5), some (.inl x6), none], [], q2.2) else (42, [some (.inr (.inr (some (0, 9)))), some (.inr (.inr (some (g1, 101)))), none, none, some (.inl x4), some (.inl x5), some (.inl x6), none], [], q2.2))) bX3_winner_32 oX3_winner_32 rfl ⟨hg1, hg1, hb3, trivial⟩ ?_
      refine mz_Go.ite (fun hc4 => ?_) (fun hc4 => ?_)
      · have h := mz_ifp hc4 h
        refine mz_Go.run (gs := []) (st' := (9, [some (.inr (.inr (some (0, 9)))), some (.inr (.inr (some (g1, 101)))), none, none, some (.inl x5), some (.inl x4), some (.inl (x6 + (1 : Int32))), some (.inl x4)], [], q2.2)) bX3_winner_45 oX3_winner_45 rfl trivial ?_
        exact mz_Go.drop [true, true, false, false, true, true, true, false] (ih x5 x4 (x6 + (1 : Int32)) q2.2 h)
      · have h := mz_ifn hc4 h
        refine mz_Go.run (gs := []) (st' := (44, [some (.inr (.inr (some (0, 9)))), some (.inr (.inr (some (g1, 101)))), none, none, some (.inl x4), some (.inl x5), some (.inl x6), none], [.inl x5], q2.2)) bX3_winner_42 oX3_winner_42 rfl trivial ?_
        cases h
        exact mz_Go.reti (by decide +kernel) rfl ⟨Nat.le_refl _, Nat.le_refl _⟩ rfl
def fX3_winner (g1 : Nat) (x2 : Int32) (x3 : Int32) (D : mz_D) : Option (Int32 × mz_D) := (fX3_winner_9 g1 mz_N x2 x3 (0 : Int32) D)
set_option maxHeartbeats 4000000 in
theorem mX3_winner (g1 : Nat) (x2 : Int32) (x3 : Int32) (D : mz_D) (hg1 : mz_tb g1 = true) (r : (Int32 × mz_D)) (h : fX3_winner g1 x2 x3 D = some r) : mz_Met IX3_winner [.inr (.inr (some (0, 9))), .inr (.inr (some (g1, 101))), .inl x2, .inl x3] D (some (.inl r.1), r.2) := by
  refine mz_Met.of (by decide +kernel) (Nat.le_of_ble_eq_true rfl) ?_
  show mz_Go IX3_winner (some (.inl r.1), r.2) 0 0 (0, [some (.inr (.inr (some (0, 9)))), some (.inr (.inr (some (g1, 101)))), some (.inl x2), some (.inl x3), none, none, none, none], [], D)
  rw [fX3_winner] at h
  refine mz_Go.run (gs := []) (st' := (9, [some (.inr (.inr (some (0, 9)))), some (.inr (.inr (some (g1, 101)))), some (.inl x2), some (.inl x3), some (.inl x2), some (.inl x3), some (.inl (0 : Int32)), none], [], D)) bX3_winner_0 oX3_winner_0 rfl trivial ?_
  exact mz_Go.drop [true, true, false, false, true, true, true, false] (tX3_winner_9 g1 hg1 r mz_N x2 x3 (0 : Int32) D h)
def bX6_give_0 : List mz_E := [(0, .aload_n 0, 0, 0, 0, 0, 0), (1, .getfield 28, 6, 2, 482, 0, 0), (4, .iload_n 2, 0, 0, 0, 0, 0), (5, .iload_n 1, 0, 0, 0, 0, 0), (6, .iload_n 3, 0, 0, 0, 0, 0)]
theorem oX6_give_0 : bX6_give_0.all (mz_ok RX6 cX6_give 4) = true := by decide +kernel
def bX6_give_10 : List mz_E := [(10, .aload_n 0, 0, 0, 0, 0, 0), (11, .dup, 0, 0, 0, 0, 0), (12, .getfield 57, 6, 6, 497, 0, 0), (15, .iconst 1, 0, 0, 0, 1, 0), (16, .iadd, 0, 0, 0, 0, 0), (17, .putfield 57, 6, 6, 497, 0, 0)]
theorem oX6_give_10 : bX6_give_10.all (mz_ok RX6 cX6_give 4) = true := by decide +kernel
abbrev IX6_give : mz_I := (yX6_give, cX6_give, 4, none, 0, 2, 0, 0)
theorem kX6_give : mz_okm IX6_give 1458 134 1456 3 = true := by decide +kernel
theorem vX6_give : mz_okV IX6_give 1456 1457 = true := by decide +kernel
def fX6_give (g0 : Nat) (x1 : Int32) (x2 : Int32) (x3 : Int32) (D : mz_D) : Option mz_D := (Option.bind (fX2_lower g0 x2 x1 x3 D) fun q1 => (some (mz_wi q1 g0 100 6 ((q1.1 g0 100 6) + (1 : Int32)))))
set_option maxHeartbeats 4000000 in
theorem mX6_give (g0 : Nat) (x1 : Int32) (x2 : Int32) (x3 : Int32) (D : mz_D) (hg0 : mz_tb g0 = true) (r : mz_D) (h : fX6_give g0 x1 x2 x3 D = some r) : mz_Met IX6_give [.inr (.inr (some (g0, 100))), .inl x1, .inl x2, .inl x3] D (none, r) := by
  refine mz_Met.of (by decide +kernel) (Nat.le_of_ble_eq_true rfl) ?_
  show mz_Go IX6_give (none, r) 0 0 (0, [some (.inr (.inr (some (g0, 100)))), some (.inl x1), some (.inl x2), some (.inl x3)], [], D)
  rw [fX6_give] at h
  refine mz_Go.run (gs := [mz_kz 0 g0 100]) (st' := (7, [some (.inr (.inr (some (g0, 100)))), some (.inl x1), some (.inl x2), some (.inl x3)], [.inl x3, .inl x1, .inl x2, .inr (.inr (some (g0, 113)))], D)) bX6_give_0 oX6_give_0 rfl ⟨hg0, trivial⟩ ?_
  obtain ⟨q1, hq1, h⟩ := mz_bd_some h
  refine mz_Go.callV (I := IX6_give) (J := IX2_lower) (as := [.inl x2, .inl x1, .inl x3]) (ci := 2) (g := g0) (o := 113) (idx := 90) (pl := 1459) (rest := []) (mX2_lower g0 x2 x1 x3 D hg0 q1 hq1) kX2_lower vX2_lower (by decide +kernel) (by decide +kernel) (by decide +kernel) rfl rfl ⟨rfl, rfl⟩ rfl rfl hg0 rfl ?_
  refine mz_Go.run (gs := [mz_kz 0 g0 100, mz_kz 0 g0 100]) (st' := (20, [some (.inr (.inr (some (g0, 100)))), some (.inl x1), some (.inl x2), some (.inl x3)], [], (mz_wi q1 g0 100 6 ((q1.1 g0 100 6) + (1 : Int32))))) bX6_give_10 oX6_give_10 rfl ⟨hg0, hg0, trivial⟩ ?_
  cases h
  exact mz_Go.retv (by decide +kernel) rfl ⟨Nat.le_refl _, Nat.le_refl _⟩ rfl
def bX3_drink_0 : List mz_E := [(0, .aload_n 1, 0, 0, 0, 0, 0)]
theorem oX3_drink_0 : bX3_drink_0.all (mz_ok RX3 cX3_drink 3) = true := by decide +kernel
def bX3_drink_4 : List mz_E := [(4, .iconst (-1), 0, 0, 0, -1, 0), (5, .if_icmp .eq 7, 0, 12, 0, 0, 0)]
theorem oX3_drink_4 : bX3_drink_4.all (mz_ok RX3 cX3_drink 3) = true := by decide +kernel
def bX3_drink_12 : List mz_E := [(12, .iconst 0, 0, 0, 0, 0, 0)]
theorem oX3_drink_12 : bX3_drink_12.all (mz_ok RX3 cX3_drink 3) = true := by decide +kernel
def bX3_drink_13 : List mz_E := [(13, .istore_n 2, 0, 0, 0, 0, 0), (14, .aload_n 0, 0, 0, 0, 0, 0), (15, .iload_n 2, 0, 0, 0, 0, 0)]
theorem oX3_drink_13 : bX3_drink_13.all (mz_ok RX3 cX3_drink 3) = true := by decide +kernel
def bX3_drink_19 : List mz_E := [(19, .iload_n 2, 0, 0, 0, 0, 0), (20, .ifCond .eq 13, 0, 33, 0, 0, 0)]
theorem oX3_drink_19 : bX3_drink_19.all (mz_ok RX3 cX3_drink 3) = true := by decide +kernel
def bX3_drink_23 : List mz_E := [(23, .aload_n 0, 0, 0, 0, 0, 0), (24, .dup, 0, 0, 0, 0, 0), (25, .getfield 31, 3, 4, 526, 0, 0), (28, .iconst 1, 0, 0, 0, 1, 0), (29, .iadd, 0, 0, 0, 0, 0), (30, .putfield 31, 3, 4, 526, 0, 0)]
theorem oX3_drink_23 : bX3_drink_23.all (mz_ok RX3 cX3_drink 3) = true := by decide +kernel
def bX3_drink_8 : List mz_E := [(8, .iconst 1, 0, 0, 0, 1, 0), (9, .goto 4, 0, 13, 0, 0, 0)]
theorem oX3_drink_8 : bX3_drink_8.all (mz_ok RX3 cX3_drink 3) = true := by decide +kernel
abbrev IX3_drink : mz_I := (yX3_drink, cX3_drink, 3, none, 0, 3, 0, 0)
theorem kX3_drink : mz_okm IX3_drink 1534 140 1533 1 = true := by decide +kernel
theorem vX3_drink : mz_okV IX3_drink 1533 43 = true := by decide +kernel
def fX3_drink_13 (g1 : Nat) (s0 : Int32) (D : mz_D) : Option mz_D := (Option.bind (fX3_missUnless s0 D) fun q1 => (if s0 = 0 then (some q1) else (some (mz_wi q1 0 9 4 ((q1.1 0 9 4) + (1 : Int32))))))
set_option maxHeartbeats 4000000 in
theorem tX3_drink_13 (g1 : Nat) (hg1 : mz_tb g1 = true) (r : mz_D) : ∀ (s0 : Int32) (D : mz_D), fX3_drink_13 g1 s0 D = some r → mz_Go IX3_drink (none, r) 0 0 (13, [some (.inr (.inr (some (0, 9)))), none, none], [.inl s0], D) := by
  intro s0 D h
  rw [fX3_drink_13] at h
  refine mz_Go.run (gs := []) (st' := (16, [some (.inr (.inr (some (0, 9)))), none, some (.inl s0)], [.inl s0, .inr (.inr (some (0, 9)))], D)) bX3_drink_13 oX3_drink_13 rfl trivial ?_
  obtain ⟨q1, hq1, h⟩ := mz_bd_some h
  refine mz_Go.callV (I := IX3_drink) (J := IX3_missUnless) (as := [.inl s0]) (ci := 3) (g := 0) (o := 9) (idx := 128) (pl := 1521) (rest := []) (mX3_missUnless s0 D q1 hq1) kX3_missUnless vX3_missUnless (by decide +kernel) (by decide +kernel) (by decide +kernel) rfl rfl ⟨rfl, rfl⟩ rfl rfl rfl rfl ?_
  refine mz_Go.run (gs := []) (st' := (if s0 = 0 then (33, [some (.inr (.inr (some (0, 9)))), none, some (.inl s0)], [], q1) else (23, [some (.inr (.inr (some (0, 9)))), none, some (.inl s0)], [], q1))) bX3_drink_19 oX3_drink_19 rfl trivial ?_
  refine mz_Go.ite (fun hc2 => ?_) (fun hc2 => ?_)
  · have h := mz_ifp hc2 h
    cases h
    exact mz_Go.retv (by decide +kernel) rfl ⟨Nat.le_refl _, Nat.le_refl _⟩ rfl
  · have h := mz_ifn hc2 h
    refine mz_Go.run (gs := [mz_kz 0 0 9, mz_kz 0 0 9]) (st' := (33, [some (.inr (.inr (some (0, 9)))), none, some (.inl s0)], [], (mz_wi q1 0 9 4 ((q1.1 0 9 4) + (1 : Int32))))) bX3_drink_23 oX3_drink_23 rfl ⟨rfl, rfl, trivial⟩ ?_
    cases h
    exact mz_Go.retv (by decide +kernel) rfl ⟨Nat.le_refl _, Nat.le_refl _⟩ rfl
def fX3_drink (g1 : Nat) (D : mz_D) : Option mz_D := (Option.bind (fX0_serve g1 D) fun q1 => (if q1.1 = (-1 : Int32) then (fX3_drink_13 g1 (0 : Int32) q1.2) else (fX3_drink_13 g1 (1 : Int32) q1.2)))
set_option maxHeartbeats 4000000 in
theorem mX3_drink (g1 : Nat) (D : mz_D) (hg1 : mz_tb g1 = true) (r : mz_D) (h : fX3_drink g1 D = some r) : mz_Met IX3_drink [.inr (.inr (some (0, 9))), .inr (.inr (some (g1, 117)))] D (none, r) := by
  refine mz_Met.of (by decide +kernel) (Nat.le_of_ble_eq_true rfl) ?_
  show mz_Go IX3_drink (none, r) 0 0 (0, [some (.inr (.inr (some (0, 9)))), some (.inr (.inr (some (g1, 117)))), none], [], D)
  rw [fX3_drink] at h
  refine mz_Go.run (gs := []) (st' := (1, [some (.inr (.inr (some (0, 9)))), some (.inr (.inr (some (g1, 117)))), none], [.inr (.inr (some (g1, 117)))], D)) bX3_drink_0 oX3_drink_0 rfl trivial ?_
  obtain ⟨q1, hq1, h⟩ := mz_bd_some h
  refine mz_Go.callV (I := IX3_drink) (J := IX0_serve) (as := []) (ci := 0) (g := g1) (o := 117) (idx := 156) (pl := 1535) (rest := []) (mX0_serve g1 D hg1 q1 hq1) kX0_serve vX0_serve (by decide +kernel) (by decide +kernel) (by decide +kernel) rfl rfl ⟨rfl, rfl⟩ rfl rfl hg1 rfl ?_
  refine mz_Go.run (gs := []) (st' := (if q1.1 = (-1 : Int32) then (12, [some (.inr (.inr (some (0, 9)))), some (.inr (.inr (some (g1, 117)))), none], [], q1.2) else (8, [some (.inr (.inr (some (0, 9)))), some (.inr (.inr (some (g1, 117)))), none], [], q1.2))) bX3_drink_4 oX3_drink_4 rfl trivial ?_
  refine mz_Go.ite (fun hc2 => ?_) (fun hc2 => ?_)
  · have h := mz_ifp hc2 h
    refine mz_Go.run (gs := []) (st' := (13, [some (.inr (.inr (some (0, 9)))), some (.inr (.inr (some (g1, 117)))), none], [.inl (0 : Int32)], q1.2)) bX3_drink_12 oX3_drink_12 rfl trivial ?_
    exact mz_Go.drop [true, false, false] (tX3_drink_13 g1 hg1 r (0 : Int32) q1.2 h)
  · have h := mz_ifn hc2 h
    refine mz_Go.run (gs := []) (st' := (13, [some (.inr (.inr (some (0, 9)))), some (.inr (.inr (some (g1, 117)))), none], [.inl (1 : Int32)], q1.2)) bX3_drink_8 oX3_drink_8 rfl trivial ?_
    exact mz_Go.drop [true, false, false] (tX3_drink_13 g1 hg1 r (1 : Int32) q1.2 h)
def bX6_claimOf_0 : List mz_E := [(0, .iload_n 2, 0, 0, 0, 0, 0)]
theorem oX6_claimOf_0 : bX6_claimOf_0.all (mz_ok RX6 cX6_claimOf 3) = true := by decide +kernel
def bX6_claimOf_28 : List mz_E := [(28, .aload_n 0, 0, 0, 0, 0, 0), (29, .getfield 28, 6, 2, 482, 0, 0), (32, .iload_n 1, 0, 0, 0, 0, 0)]
theorem oX6_claimOf_28 : bX6_claimOf_28.all (mz_ok RX6 cX6_claimOf 3) = true := by decide +kernel
def bX6_claimOf_36 : List mz_E := [(36, .ineg, 0, 0, 0, 0, 0)]
theorem oX6_claimOf_36 : bX6_claimOf_36.all (mz_ok RX6 cX6_claimOf 3) = true := by decide +kernel
def bX6_claimOf_38 : List mz_E := [(38, .aload_n 0, 0, 0, 0, 0, 0), (39, .getfield 12, 6, 0, 474, 0, 0), (42, .getfield 110, 4, 5, 306, 0, 0), (45, .iload_n 1, 0, 0, 0, 0, 0), (46, .iaload, 0, 0, 0, 0, 0)]
theorem oX6_claimOf_38 : bX6_claimOf_38.all (mz_ok RX6 cX6_claimOf 3) = true := by decide +kernel
def bX6_claimOf_48 : List mz_E := [(48, .aload_n 0, 0, 0, 0, 0, 0), (49, .getfield 12, 6, 0, 474, 0, 0), (52, .getfield 113, 4, 4, 301, 0, 0), (55, .iload_n 1, 0, 0, 0, 0, 0), (56, .iaload, 0, 0, 0, 0, 0)]
theorem oX6_claimOf_48 : bX6_claimOf_48.all (mz_ok RX6 cX6_claimOf 3) = true := by decide +kernel
def bX6_claimOf_58 : List mz_E := [(58, .aload_n 0, 0, 0, 0, 0, 0), (59, .getfield 12, 6, 0, 474, 0, 0), (62, .getfield 86, 4, 9, 320, 0, 0), (65, .iload_n 1, 0, 0, 0, 0, 0), (66, .iaload, 0, 0, 0, 0, 0), (67, .ineg, 0, 0, 0, 0, 0)]
theorem oX6_claimOf_58 : bX6_claimOf_58.all (mz_ok RX6 cX6_claimOf 3) = true := by decide +kernel
abbrev IX6_claimOf : mz_I := (yX6_claimOf, cX6_claimOf, 3, (some .int), 0, 1, 0, 0)
theorem kX6_claimOf : mz_okm IX6_claimOf 1201 134 1200 2 = true := by decide +kernel
theorem vX6_claimOf : mz_okV IX6_claimOf 1200 28 = true := by decide +kernel
def fX6_claimOf (g0 : Nat) (x1 : Int32) (x2 : Int32) (D : mz_D) : Option Int32 := (if x2 = (1 : Int32) then (Option.bind (fX2_balanceOf g0 x1 D) fun q2 => (some (-q2))) else (if x2 = (2 : Int32) then (mz_gd (mz_ix x1 6) (some (D.1 g0 104 (x1).toNatClampNeg))) else (if x2 = (3 : Int32) then (mz_gd (mz_ix x1 6) (some (D.1 g0 103 (x1).toNatClampNeg))) else (mz_gd (mz_ix x1 6) (some (-(D.1 g0 108 (x1).toNatClampNeg)))))))
set_option maxHeartbeats 4000000 in
theorem mX6_claimOf (g0 : Nat) (x1 : Int32) (x2 : Int32) (D : mz_D) (hg0 : mz_tb g0 = true) (r : Int32) (h : fX6_claimOf g0 x1 x2 D = some r) : mz_Met IX6_claimOf [.inr (.inr (some (g0, 100))), .inl x1, .inl x2] D (some (.inl r), D) := by
  refine mz_Met.of (by decide +kernel) (Nat.le_of_ble_eq_true rfl) ?_
  show mz_Go IX6_claimOf (some (.inl r), D) 0 0 (0, [some (.inr (.inr (some (g0, 100)))), some (.inl x1), some (.inl x2)], [], D)
  rw [fX6_claimOf] at h
  refine mz_Go.run (gs := []) (st' := (1, [some (.inr (.inr (some (g0, 100)))), some (.inl x1), some (.inl x2)], [.inl x2], D)) bX6_claimOf_0 oX6_claimOf_0 rfl trivial ?_
  refine mz_Go.tsw [(1, 28), (2, 38), (3, 48)] 58 (show decode cX6_claimOf 1 = .ok (.tableswitch 57 1 3 #[27, 37, 47], 27) by decide +kernel) (by decide +kernel) ?_
  refine mz_Go.swc (fun hc1 => ?_) (fun hc1 => ?_)
  · have h := mz_ifp hc1 h
    refine mz_Go.run (gs := [mz_kz 0 g0 100]) (st' := (33, [some (.inr (.inr (some (g0, 100)))), some (.inl x1), some (.inl x2)], [.inl x1, .inr (.inr (some (g0, 113)))], D)) bX6_claimOf_28 oX6_claimOf_28 rfl ⟨hg0, trivial⟩ ?_
    obtain ⟨q2, hq2, h⟩ := mz_bd_some h
    refine mz_Go.callV (I := IX6_claimOf) (J := IX2_balanceOf) (as := [.inl x1]) (ci := 2) (g := g0) (o := 113) (idx := 106) (pl := 1202) (rest := []) (mX2_balanceOf g0 x1 D hg0 q2 hq2) kX2_balanceOf vX2_balanceOf (by decide +kernel) (by decide +kernel) (by decide +kernel) rfl rfl ⟨rfl, rfl⟩ rfl rfl hg0 rfl ?_
    refine mz_Go.run (gs := []) (st' := (37, [some (.inr (.inr (some (g0, 100)))), some (.inl x1), some (.inl x2)], [.inl (-q2)], D)) bX6_claimOf_36 oX6_claimOf_36 rfl trivial ?_
    cases h
    exact mz_Go.reti (by decide +kernel) rfl ⟨Nat.le_refl _, Nat.le_refl _⟩ rfl
  · have h := mz_ifn hc1 h
    refine mz_Go.swc (fun hc3 => ?_) (fun hc3 => ?_)
    · have h := mz_ifp hc3 h
      obtain ⟨hb4, h⟩ := mz_gd_some h
      refine mz_Go.run (gs := [mz_kz 0 g0 100, mz_kz 0 g0 101, mz_kz 0 g0 104, mz_ix x1 6]) (st' := (47, [some (.inr (.inr (some (g0, 100)))), some (.inl x1), some (.inl x2)], [.inl (D.1 g0 104 (x1).toNatClampNeg)], D)) bX6_claimOf_38 oX6_claimOf_38 rfl ⟨hg0, hg0, hg0, hb4, trivial⟩ ?_
      cases h
      exact mz_Go.reti (by decide +kernel) rfl ⟨Nat.le_refl _, Nat.le_refl _⟩ rfl
    · have h := mz_ifn hc3 h
      refine mz_Go.swc (fun hc5 => ?_) (fun hc5 => ?_)
      · have h := mz_ifp hc5 h
        obtain ⟨hb6, h⟩ := mz_gd_some h
        refine mz_Go.run (gs := [mz_kz 0 g0 100, mz_kz 0 g0 101, mz_kz 0 g0 103, mz_ix x1 6]) (st' := (57, [some (.inr (.inr (some (g0, 100)))), some (.inl x1), some (.inl x2)], [.inl (D.1 g0 103 (x1).toNatClampNeg)], D)) bX6_claimOf_48 oX6_claimOf_48 rfl ⟨hg0, hg0, hg0, hb6, trivial⟩ ?_
        cases h
        exact mz_Go.reti (by decide +kernel) rfl ⟨Nat.le_refl _, Nat.le_refl _⟩ rfl
      · have h := mz_ifn hc5 h
        obtain ⟨hb7, h⟩ := mz_gd_some h
        refine mz_Go.run (gs := [mz_kz 0 g0 100, mz_kz 0 g0 101, mz_kz 0 g0 108, mz_ix x1 6]) (st' := (68, [some (.inr (.inr (some (g0, 100)))), some (.inl x1), some (.inl x2)], [.inl (-(D.1 g0 108 (x1).toNatClampNeg))], D)) bX6_claimOf_58 oX6_claimOf_58 rfl ⟨hg0, hg0, hg0, hb7, trivial⟩ ?_
        cases h
        exact mz_Go.reti (by decide +kernel) rfl ⟨Nat.le_refl _, Nat.le_refl _⟩ rfl
def bX6_nextPayer_0 : List mz_E := [(0, .aload_n 0, 0, 0, 0, 0, 0), (1, .getfield 12, 6, 0, 474, 0, 0)]
theorem oX6_nextPayer_0 : bX6_nextPayer_0.all (mz_ok RX6 cX6_nextPayer 7) = true := by decide +kernel
def bX6_nextPayer_7 : List mz_E := [(7, .istore_n 2, 0, 0, 0, 0, 0), (8, .iconst (-1), 0, 0, 0, -1, 0), (9, .istore_n 3, 0, 0, 0, 0, 0), (10, .iconst 0, 0, 0, 0, 0, 0), (11, .istore 4, 0, 0, 0, 0, 0), (13, .iconst 0, 0, 0, 0, 0, 0), (14, .istore 5, 0, 0, 0, 0, 0)]
theorem oX6_nextPayer_7 : bX6_nextPayer_7.all (mz_ok RX6 cX6_nextPayer 7) = true := by decide +kernel
def bX6_nextPayer_16 : List mz_E := [(16, .iload 5, 0, 0, 0, 0, 0), (18, .aload_n 0, 0, 0, 0, 0, 0), (19, .getfield 12, 6, 0, 474, 0, 0), (22, .getfield 76, 4, 0, 288, 0, 0), (25, .if_icmp .ge 46, 0, 71, 0, 0, 0)]
theorem oX6_nextPayer_16 : bX6_nextPayer_16.all (mz_ok RX6 cX6_nextPayer 7) = true := by decide +kernel
def bX6_nextPayer_71 : List mz_E := [(71, .iload_n 3, 0, 0, 0, 0, 0)]
theorem oX6_nextPayer_71 : bX6_nextPayer_71.all (mz_ok RX6 cX6_nextPayer 7) = true := by decide +kernel
def bX6_nextPayer_28 : List mz_E := [(28, .iload_n 2, 0, 0, 0, 0, 0), (29, .iload 5, 0, 0, 0, 0, 0)]
theorem oX6_nextPayer_28 : bX6_nextPayer_28.all (mz_ok RX6 cX6_nextPayer 7) = true := by decide +kernel
def bX6_nextPayer_34 : List mz_E := [(34, .ifCond .eq 31, 0, 65, 0, 0, 0)]
theorem oX6_nextPayer_34 : bX6_nextPayer_34.all (mz_ok RX6 cX6_nextPayer 7) = true := by decide +kernel
def bX6_nextPayer_65 : List mz_E := [(65, .iinc 5 1, 0, 0, 0, 1, 0), (68, .goto (-52), 0, 16, 0, 0, 0)]
theorem oX6_nextPayer_65 : bX6_nextPayer_65.all (mz_ok RX6 cX6_nextPayer 7) = true := by decide +kernel
def bX6_nextPayer_37 : List mz_E := [(37, .aload_n 0, 0, 0, 0, 0, 0), (38, .iload 5, 0, 0, 0, 0, 0), (40, .iload_n 1, 0, 0, 0, 0, 0)]
theorem oX6_nextPayer_37 : bX6_nextPayer_37.all (mz_ok RX6 cX6_nextPayer 7) = true := by decide +kernel
def bX6_nextPayer_44 : List mz_E := [(44, .istore 6, 0, 0, 0, 0, 0), (46, .iload_n 3, 0, 0, 0, 0, 0), (47, .iconst (-1), 0, 0, 0, -1, 0), (48, .if_icmp .eq 10, 0, 58, 0, 0, 0)]
theorem oX6_nextPayer_44 : bX6_nextPayer_44.all (mz_ok RX6 cX6_nextPayer 7) = true := by decide +kernel
def bX6_nextPayer_58 : List mz_E := [(58, .iload 5, 0, 0, 0, 0, 0), (60, .istore_n 3, 0, 0, 0, 0, 0), (61, .iload 6, 0, 0, 0, 0, 0), (63, .istore 4, 0, 0, 0, 0, 0), (65, .iinc 5 1, 0, 0, 0, 1, 0), (68, .goto (-52), 0, 16, 0, 0, 0)]
theorem oX6_nextPayer_58 : bX6_nextPayer_58.all (mz_ok RX6 cX6_nextPayer 7) = true := by decide +kernel
def bX6_nextPayer_51 : List mz_E := [(51, .iload 6, 0, 0, 0, 0, 0), (53, .iload 4, 0, 0, 0, 0, 0), (55, .if_icmp .le 10, 0, 65, 0, 0, 0)]
theorem oX6_nextPayer_51 : bX6_nextPayer_51.all (mz_ok RX6 cX6_nextPayer 7) = true := by decide +kernel
abbrev IX6_nextPayer : mz_I := (yX6_nextPayer, cX6_nextPayer, 7, (some .int), 0, 2, 0, 0)
theorem kX6_nextPayer : mz_okm IX6_nextPayer 1195 134 1193 1 = true := by decide +kernel
theorem vX6_nextPayer : mz_okV IX6_nextPayer 1193 1194 = true := by decide +kernel
def fX6_nextPayer_58 (g0 : Nat) (D : mz_D) (k16 : Int32 → Int32 → Int32 → Int32 → Int32 → Option Int32) (x1 : Int32) (x2 : Int32) (x5 : Int32) (x6 : Int32) : Option Int32 := (k16 x1 x2 x5 x6 (x5 + (1 : Int32)))
set_option maxHeartbeats 4000000 in
theorem tX6_nextPayer_58 (g0 : Nat) (D : mz_D) (hg0 : mz_tb g0 = true) (r : Int32) (k16 : Int32 → Int32 → Int32 → Int32 → Int32 → Option Int32) (hk16 : ∀ (x1 : Int32) (x2 : Int32) (x3 : Int32) (x4 : Int32) (x5 : Int32), k16 x1 x2 x3 x4 x5 = some r → mz_Go IX6_nextPayer (some (.inl r), D) 0 0 (16, [some (.inr (.inr (some (g0, 100)))), some (.inl x1), some (.inl x2), some (.inl x3), some (.inl x4), some (.inl x5), none], [], D)) : ∀ (x1 : Int32) (x2 : Int32) (x5 : Int32) (x6 : Int32), fX6_nextPayer_58 g0 D k16 x1 x2 x5 x6 = some r → mz_Go IX6_nextPayer (some (.inl r), D) 0 0 (58, [some (.inr (.inr (some (g0, 100)))), some (.inl x1), some (.inl x2), none, none, some (.inl x5), some (.inl x6)], [], D) := by
  intro x1 x2 x5 x6 h
  rw [fX6_nextPayer_58] at h
  refine mz_Go.run (gs := []) (st' := (16, [some (.inr (.inr (some (g0, 100)))), some (.inl x1), some (.inl x2), some (.inl x5), some (.inl x6), some (.inl (x5 + (1 : Int32))), some (.inl x6)], [], D)) bX6_nextPayer_58 oX6_nextPayer_58 rfl trivial ?_
  exact mz_Go.drop [true, true, true, true, true, true, false] (hk16 x1 x2 x5 x6 (x5 + (1 : Int32)) h)
def fX6_nextPayer_16 (g0 : Nat) (D : mz_D) : Nat → Int32 → Int32 → Int32 → Int32 → Int32 → Option Int32
  | 0 => fun _ _ _ _ _ => none
  | n + 1 => fun x1 x2 x3 x4 x5 => (if (D.1 g0 101 0) ≤ x5 then (some x3) else (if (fX11_isIn x2 x5) = 0 then ((fX6_nextPayer_16 g0 D n) x1 x2 x3 x4 (x5 + (1 : Int32))) else (Option.bind (fX6_claimOf g0 x5 x1 D) fun q3 => (if x3 = (-1 : Int32) then (fX6_nextPayer_58 g0 D (fX6_nextPayer_16 g0 D n) x1 x2 x5 q3) else (if q3 ≤ x4 then ((fX6_nextPayer_16 g0 D n) x1 x2 x3 x4 (x5 + (1 : Int32))) else (fX6_nextPayer_58 g0 D (fX6_nextPayer_16 g0 D n) x1 x2 x5 q3))))))
set_option maxHeartbeats 4000000 in
theorem tX6_nextPayer_16 (g0 : Nat) (D : mz_D) (hg0 : mz_tb g0 = true) (r : Int32) : ∀ (n : Nat) (x1 : Int32) (x2 : Int32) (x3 : Int32) (x4 : Int32) (x5 : Int32), fX6_nextPayer_16 g0 D n x1 x2 x3 x4 x5 = some r → mz_Go IX6_nextPayer (some (.inl r), D) 0 0 (16, [some (.inr (.inr (some (g0, 100)))), some (.inl x1), some (.inl x2), some (.inl x3), some (.inl x4), some (.inl x5), none], [], D) := by
  intro n
  induction n with
  | zero => intro x1 x2 x3 x4 x5 h; have h : (none : Option Int32) = some r := h; cases h
  | succ n ih =>
    intro x1 x2 x3 x4 x5 h
    rw [fX6_nextPayer_16] at h
    refine mz_Go.run (gs := [mz_kz 0 g0 100, mz_kz 0 g0 101]) (st' := (if (D.1 g0 101 0) ≤ x5 then (71, [some (.inr (.inr (some (g0, 100)))), some (.inl x1), some (.inl x2), some (.inl x3), some (.inl x4), some (.inl x5), none], [], D) else (28, [some (.inr (.inr (some (g0, 100)))), some (.inl x1), some (.inl x2), some (.inl x3), some (.inl x4), some (.inl x5), none], [], D))) bX6_nextPayer_16 oX6_nextPayer_16 rfl ⟨hg0, hg0, trivial⟩ ?_
    refine mz_Go.ite (fun hc1 => ?_) (fun hc1 => ?_)
    · have h := mz_ifp hc1 h
      refine mz_Go.run (gs := []) (st' := (72, [some (.inr (.inr (some (g0, 100)))), some (.inl x1), some (.inl x2), some (.inl x3), some (.inl x4), some (.inl x5), none], [.inl x3], D)) bX6_nextPayer_71 oX6_nextPayer_71 rfl trivial ?_
      cases h
      exact mz_Go.reti (by decide +kernel) rfl ⟨Nat.le_refl _, Nat.le_refl _⟩ rfl
    · have h := mz_ifn hc1 h
      refine mz_Go.run (gs := []) (st' := (31, [some (.inr (.inr (some (g0, 100)))), some (.inl x1), some (.inl x2), some (.inl x3), some (.inl x4), some (.inl x5), none], [.inl x5, .inl x2], D)) bX6_nextPayer_28 oX6_nextPayer_28 rfl trivial ?_
      refine mz_Go.callSN (I := IX6_nextPayer) (J := IX11_isIn) (as := [.inl x2, .inl x5]) (idx := 98) (pl := 1197) (rest := []) (mX11_isIn x2 x5 D _ rfl) kX11_isIn vX11_isIn (by decide +kernel) (by decide +kernel) (by decide +kernel) rfl rfl ⟨rfl, rfl⟩ rfl ?_
      refine mz_Go.run (gs := []) (st' := (if (fX11_isIn x2 x5) = 0 then (65, [some (.inr (.inr (some (g0, 100)))), some (.inl x1), some (.inl x2), some (.inl x3), some (.inl x4), some (.inl x5), none], [], D) else (37, [some (.inr (.inr (some (g0, 100)))), some (.inl x1), some (.inl x2), some (.inl x3), some (.inl x4), some (.inl x5), none], [], D))) bX6_nextPayer_34 oX6_nextPayer_34 rfl trivial ?_
      refine mz_Go.ite (fun hc2 => ?_) (fun hc2 => ?_)
      · have h := mz_ifp hc2 h
        refine mz_Go.run (gs := []) (st' := (16, [some (.inr (.inr (some (g0, 100)))), some (.inl x1), some (.inl x2), some (.inl x3), some (.inl x4), some (.inl (x5 + (1 : Int32))), none], [], D)) bX6_nextPayer_65 oX6_nextPayer_65 rfl trivial ?_
        exact mz_Go.drop [true, true, true, true, true, true, false] (ih x1 x2 x3 x4 (x5 + (1 : Int32)) h)
      · have h := mz_ifn hc2 h
        refine mz_Go.run (gs := []) (st' := (41, [some (.inr (.inr (some (g0, 100)))), some (.inl x1), some (.inl x2), some (.inl x3), some (.inl x4), some (.inl x5), none], [.inl x1, .inl x5, .inr (.inr (some (g0, 100)))], D)) bX6_nextPayer_37 oX6_nextPayer_37 rfl trivial ?_
        obtain ⟨q3, hq3, h⟩ := mz_bd_some h
        refine mz_Go.callV (I := IX6_nextPayer) (J := IX6_claimOf) (as := [.inl x5, .inl x1]) (ci := 6) (g := g0) (o := 100) (idx := 102) (pl := 1198) (rest := []) (mX6_claimOf g0 x5 x1 D hg0 q3 hq3) kX6_claimOf vX6_claimOf (by decide +kernel) (by decide +kernel) (by decide +kernel) rfl rfl ⟨rfl, rfl⟩ rfl rfl hg0 rfl ?_
        refine mz_Go.run (gs := []) (st' := (if x3 = (-1 : Int32) then (58, [some (.inr (.inr (some (g0, 100)))), some (.inl x1), some (.inl x2), some (.inl x3), some (.inl x4), some (.inl x5), some (.inl q3)], [], D) else (51, [some (.inr (.inr (some (g0, 100)))), some (.inl x1), some (.inl x2), some (.inl x3), some (.inl x4), some (.inl x5), some (.inl q3)], [], D))) bX6_nextPayer_44 oX6_nextPayer_44 rfl trivial ?_
        refine mz_Go.ite (fun hc4 => ?_) (fun hc4 => ?_)
        · have h := mz_ifp hc4 h
          exact mz_Go.drop [true, true, true, false, false, true, true] (tX6_nextPayer_58 g0 D hg0 r (fX6_nextPayer_16 g0 D n) ih x1 x2 x5 q3 h)
        · have h := mz_ifn hc4 h
          refine mz_Go.run (gs := []) (st' := (if q3 ≤ x4 then (65, [some (.inr (.inr (some (g0, 100)))), some (.inl x1), some (.inl x2), some (.inl x3), some (.inl x4), some (.inl x5), some (.inl q3)], [], D) else (58, [some (.inr (.inr (some (g0, 100)))), some (.inl x1), some (.inl x2), some (.inl x3), some (.inl x4), some (.inl x5), some (.inl q3)], [], D))) bX6_nextPayer_51 oX6_nextPayer_51 rfl trivial ?_
          refine mz_Go.ite (fun hc5 => ?_) (fun hc5 => ?_)
          · have h := mz_ifp hc5 h
            refine mz_Go.run (gs := []) (st' := (16, [some (.inr (.inr (some (g0, 100)))), some (.inl x1), some (.inl x2), some (.inl x3), some (.inl x4), some (.inl (x5 + (1 : Int32))), some (.inl q3)], [], D)) bX6_nextPayer_65 oX6_nextPayer_65 rfl trivial ?_
            exact mz_Go.drop [true, true, true, true, true, true, false] (ih x1 x2 x3 x4 (x5 + (1 : Int32)) h)
          · have h := mz_ifn hc5 h
            exact mz_Go.drop [true, true, true, false, false, true, true] (tX6_nextPayer_58 g0 D hg0 r (fX6_nextPayer_16 g0 D n) ih x1 x2 x5 q3 h)
def fX6_nextPayer (g0 : Nat) (x1 : Int32) (D : mz_D) : Option Int32 := (fX6_nextPayer_16 g0 D mz_N x1 (fX4_heads g0 D) (-1 : Int32) (0 : Int32) (0 : Int32))
set_option maxHeartbeats 4000000 in
theorem mX6_nextPayer (g0 : Nat) (x1 : Int32) (D : mz_D) (hg0 : mz_tb g0 = true) (r : Int32) (h : fX6_nextPayer g0 x1 D = some r) : mz_Met IX6_nextPayer [.inr (.inr (some (g0, 100))), .inl x1] D (some (.inl r), D) := by
  refine mz_Met.of (by decide +kernel) (Nat.le_of_ble_eq_true rfl) ?_
  show mz_Go IX6_nextPayer (some (.inl r), D) 0 0 (0, [some (.inr (.inr (some (g0, 100)))), some (.inl x1), none, none, none, none, none], [], D)
  rw [fX6_nextPayer] at h
  refine mz_Go.run (gs := [mz_kz 0 g0 100]) (st' := (4, [some (.inr (.inr (some (g0, 100)))), some (.inl x1), none, none, none, none, none], [.inr (.inr (some (g0, 101)))], D)) bX6_nextPayer_0 oX6_nextPayer_0 rfl ⟨hg0, trivial⟩ ?_
  refine mz_Go.callV (I := IX6_nextPayer) (J := IX4_heads) (as := []) (ci := 4) (g := g0) (o := 101) (idx := 94) (pl := 1196) (rest := []) (mX4_heads g0 D hg0 _ rfl) kX4_heads vX4_heads (by decide +kernel) (by decide +kernel) (by decide +kernel) rfl rfl ⟨rfl, rfl⟩ rfl rfl hg0 rfl ?_
  refine mz_Go.run (gs := []) (st' := (16, [some (.inr (.inr (some (g0, 100)))), some (.inl x1), some (.inl (fX4_heads g0 D)), some (.inl (-1 : Int32)), some (.inl (0 : Int32)), some (.inl (0 : Int32)), none], [], D)) bX6_nextPayer_7 oX6_nextPayer_7 rfl trivial ?_
  exact mz_Go.drop [true, true, true, true, true, true, false] (tX6_nextPayer_16 g0 D hg0 r mz_N x1 (fX4_heads g0 D) (-1 : Int32) (0 : Int32) (0 : Int32) h)
def bX3_holds_0 : List mz_E := [(0, .aload_n 1, 0, 0, 0, 0, 0), (1, .getfield 61, 6, 4, 491, 0, 0), (4, .astore_n 3, 0, 0, 0, 0, 0), (5, .aload_n 3, 0, 0, 0, 0, 0), (6, .getfield 94, 9, 4, 441, 0, 0), (9, .iload_n 2, 0, 0, 0, 0, 0), (10, .iaload, 0, 0, 0, 0, 0), (11, .istore 4, 0, 0, 0, 0, 0), (13, .aload_n 3, 0, 0, 0, 0, 0), (14, .getfield 181, 9, 3, 439, 0, 0), (17, .iload_n 2, 0, 0, 0, 0, 0), (18, .iaload, 0, 0, 0, 0, 0), (19, .bipush 15, 0, 0, 0, 15, 0), (21, .if_icmp .ne 22, 0, 43, 0, 0, 0)]
theorem oX3_holds_0 : bX3_holds_0.all (mz_ok RX3 cX3_holds 7) = true := by decide +kernel
def bX3_holds_24 : List mz_E := [(24, .aload_n 1, 0, 0, 0, 0, 0), (25, .aload_n 1, 0, 0, 0, 0, 0), (26, .getfield 186, 6, 5, 496, 0, 0)]
theorem oX3_holds_24 : bX3_holds_24.all (mz_ok RX3 cX3_holds 7) = true := by decide +kernel
def bX3_holds_32 : List mz_E := [(32, .iload 4, 0, 0, 0, 0, 0), (34, .if_icmp .ne 7, 0, 41, 0, 0, 0)]
theorem oX3_holds_32 : bX3_holds_32.all (mz_ok RX3 cX3_holds 7) = true := by decide +kernel
def bX3_holds_37 : List mz_E := [(37, .iconst 1, 0, 0, 0, 1, 0), (38, .goto 4, 0, 42, 0, 0, 0)]
theorem oX3_holds_37 : bX3_holds_37.all (mz_ok RX3 cX3_holds 7) = true := by decide +kernel
def bX3_holds_41 : List mz_E := [(41, .iconst 0, 0, 0, 0, 0, 0)]
theorem oX3_holds_41 : bX3_holds_41.all (mz_ok RX3 cX3_holds 7) = true := by decide +kernel
def bX3_holds_43 : List mz_E := [(43, .aload_n 3, 0, 0, 0, 0, 0), (44, .getfield 181, 9, 3, 439, 0, 0), (47, .iload_n 2, 0, 0, 0, 0, 0), (48, .iaload, 0, 0, 0, 0, 0), (49, .bipush 25, 0, 0, 0, 25, 0), (51, .if_icmp .ne 7, 0, 58, 0, 0, 0)]
theorem oX3_holds_43 : bX3_holds_43.all (mz_ok RX3 cX3_holds 7) = true := by decide +kernel
def bX3_holds_54 : List mz_E := [(54, .iconst 1, 0, 0, 0, 1, 0), (55, .goto 4, 0, 59, 0, 0, 0)]
theorem oX3_holds_54 : bX3_holds_54.all (mz_ok RX3 cX3_holds 7) = true := by decide +kernel
def bX3_holds_59 : List mz_E := [(59, .istore 5, 0, 0, 0, 0, 0), (61, .iload 5, 0, 0, 0, 0, 0), (63, .ifCond .eq 16, 0, 79, 0, 0, 0)]
theorem oX3_holds_59 : bX3_holds_59.all (mz_ok RX3 cX3_holds 7) = true := by decide +kernel
def bX3_holds_79 : List mz_E := [(79, .aload_n 1, 0, 0, 0, 0, 0), (80, .getfield 115, 6, 2, 483, 0, 0), (83, .iload 4, 0, 0, 0, 0, 0), (85, .aload_n 3, 0, 0, 0, 0, 0), (86, .getfield 97, 9, 5, 444, 0, 0), (89, .iload_n 2, 0, 0, 0, 0, 0), (90, .iaload, 0, 0, 0, 0, 0)]
theorem oX3_holds_79 : bX3_holds_79.all (mz_ok RX3 cX3_holds 7) = true := by decide +kernel
def bX3_holds_94 : List mz_E := [(94, .istore 6, 0, 0, 0, 0, 0), (96, .aload_n 3, 0, 0, 0, 0, 0), (97, .getfield 199, 9, 6, 448, 0, 0), (100, .iload_n 2, 0, 0, 0, 0, 0), (101, .iaload, 0, 0, 0, 0, 0)]
theorem oX3_holds_94 : bX3_holds_94.all (mz_ok RX3 cX3_holds 7) = true := by decide +kernel
def bX3_holds_128 : List mz_E := [(128, .iload 6, 0, 0, 0, 0, 0), (130, .aload_n 3, 0, 0, 0, 0, 0), (131, .getfield 119, 9, 7, 450, 0, 0), (134, .iload_n 2, 0, 0, 0, 0, 0), (135, .iaload, 0, 0, 0, 0, 0), (136, .if_icmp .ge 7, 0, 143, 0, 0, 0)]
theorem oX3_holds_128 : bX3_holds_128.all (mz_ok RX3 cX3_holds 7) = true := by decide +kernel
def bX3_holds_143 : List mz_E := [(143, .iconst 0, 0, 0, 0, 0, 0)]
theorem oX3_holds_143 : bX3_holds_143.all (mz_ok RX3 cX3_holds 7) = true := by decide +kernel
def bX3_holds_139 : List mz_E := [(139, .iconst 1, 0, 0, 0, 1, 0), (140, .goto 4, 0, 144, 0, 0, 0)]
theorem oX3_holds_139 : bX3_holds_139.all (mz_ok RX3 cX3_holds 7) = true := by decide +kernel
def bX3_holds_145 : List mz_E := [(145, .iload 6, 0, 0, 0, 0, 0), (147, .aload_n 3, 0, 0, 0, 0, 0), (148, .getfield 119, 9, 7, 450, 0, 0), (151, .iload_n 2, 0, 0, 0, 0, 0), (152, .iaload, 0, 0, 0, 0, 0), (153, .if_icmp .le 7, 0, 160, 0, 0, 0)]
theorem oX3_holds_145 : bX3_holds_145.all (mz_ok RX3 cX3_holds 7) = true := by decide +kernel
def bX3_holds_160 : List mz_E := [(160, .iconst 0, 0, 0, 0, 0, 0)]
theorem oX3_holds_160 : bX3_holds_160.all (mz_ok RX3 cX3_holds 7) = true := by decide +kernel
def bX3_holds_156 : List mz_E := [(156, .iconst 1, 0, 0, 0, 1, 0), (157, .goto 4, 0, 161, 0, 0, 0)]
theorem oX3_holds_156 : bX3_holds_156.all (mz_ok RX3 cX3_holds 7) = true := by decide +kernel
def bX3_holds_162 : List mz_E := [(162, .iload 6, 0, 0, 0, 0, 0), (164, .aload_n 3, 0, 0, 0, 0, 0), (165, .getfield 119, 9, 7, 450, 0, 0), (168, .iload_n 2, 0, 0, 0, 0, 0), (169, .iaload, 0, 0, 0, 0, 0), (170, .if_icmp .ne 7, 0, 177, 0, 0, 0)]
theorem oX3_holds_162 : bX3_holds_162.all (mz_ok RX3 cX3_holds 7) = true := by decide +kernel
def bX3_holds_173 : List mz_E := [(173, .iconst 1, 0, 0, 0, 1, 0), (174, .goto 4, 0, 178, 0, 0, 0)]
theorem oX3_holds_173 : bX3_holds_173.all (mz_ok RX3 cX3_holds 7) = true := by decide +kernel
def bX3_holds_177 : List mz_E := [(177, .iconst 0, 0, 0, 0, 0, 0)]
theorem oX3_holds_177 : bX3_holds_177.all (mz_ok RX3 cX3_holds 7) = true := by decide +kernel
def bX3_holds_66 : List mz_E := [(66, .aload_n 1, 0, 0, 0, 0, 0), (67, .getfield 48, 6, 0, 476, 0, 0), (70, .getfield 192, 4, 9, 321, 0, 0), (73, .iload 4, 0, 0, 0, 0, 0), (75, .iaload, 0, 0, 0, 0, 0), (76, .goto 18, 0, 94, 0, 0, 0)]
theorem oX3_holds_66 : bX3_holds_66.all (mz_ok RX3 cX3_holds 7) = true := by decide +kernel
def bX3_holds_58 : List mz_E := [(58, .iconst 0, 0, 0, 0, 0, 0)]
theorem oX3_holds_58 : bX3_holds_58.all (mz_ok RX3 cX3_holds 7) = true := by decide +kernel
abbrev IX3_holds : mz_I := (yX3_holds, cX3_holds, 7, (some .boolean), 0, 3, 0, 0)
theorem kX3_holds : mz_okm IX3_holds 1539 140 1538 2 = true := by decide +kernel
theorem vX3_holds : mz_okV IX3_holds 1538 44 = true := by decide +kernel
def fX3_holds_94 (g1 : Nat) (D : mz_D) (x2 : Int32) (s0 : Int32) : Option Int32 := (mz_gd (mz_ix x2 30) (if (D.1 g1 124 (x2).toNatClampNeg) = (60 : Int32) then (if (D.1 g1 125 (x2).toNatClampNeg) ≤ s0 then (some (0 : Int32)) else (some (1 : Int32))) else (if (D.1 g1 124 (x2).toNatClampNeg) = (62 : Int32) then (if s0 ≤ (D.1 g1 125 (x2).toNatClampNeg) then (some (0 : Int32)) else (some (1 : Int32))) else (if s0 = (D.1 g1 125 (x2).toNatClampNeg) then (some (1 : Int32)) else (some (0 : Int32))))))
set_option maxHeartbeats 4000000 in
theorem tX3_holds_94 (g1 : Nat) (D : mz_D) (hg1 : mz_tb g1 = true) (r : Int32) : ∀ (x2 : Int32) (s0 : Int32), fX3_holds_94 g1 D x2 s0 = some r → mz_Go IX3_holds (some (.inl r), D) 0 0 (94, [none, none, some (.inl x2), some (.inr (.inr (some (g1, 119)))), none, none, none], [.inl s0], D) := by
  intro x2 s0 h
  rw [fX3_holds_94] at h
  obtain ⟨hb1, h⟩ := mz_gd_some h
  refine mz_Go.run (gs := [mz_kz 0 g1 119, mz_kz 0 g1 124, mz_ix x2 30]) (st' := (102, [none, none, some (.inl x2), some (.inr (.inr (some (g1, 119)))), none, none, some (.inl s0)], [.inl (D.1 g1 124 (x2).toNatClampNeg)], D)) bX3_holds_94 oX3_holds_94 rfl ⟨hg1, hg1, hb1, trivial⟩ ?_
  refine mz_Go.lsw [(60, 128), (62, 145)] 162 (show decode cX3_holds 102 = .ok (.lookupswitch 60 #[(60, 26), (62, 43)], 26) by decide +kernel) (by decide +kernel) ?_
  refine mz_Go.swc (fun hc2 => ?_) (fun hc2 => ?_)
  · have h := mz_ifp hc2 h
    refine mz_Go.run (gs := [mz_kz 0 g1 119, mz_kz 0 g1 125, mz_ix x2 30]) (st' := (if (D.1 g1 125 (x2).toNatClampNeg) ≤ s0 then (143, [none, none, some (.inl x2), some (.inr (.inr (some (g1, 119)))), none, none, some (.inl s0)], [], D) else (139, [none, none, some (.inl x2), some (.inr (.inr (some (g1, 119)))), none, none, some (.inl s0)], [], D))) bX3_holds_128 oX3_holds_128 rfl ⟨hg1, hg1, hb1, trivial⟩ ?_
    refine mz_Go.ite (fun hc3 => ?_) (fun hc3 => ?_)
    · have h := mz_ifp hc3 h
      refine mz_Go.run (gs := []) (st' := (144, [none, none, some (.inl x2), some (.inr (.inr (some (g1, 119)))), none, none, some (.inl s0)], [.inl (0 : Int32)], D)) bX3_holds_143 oX3_holds_143 rfl trivial ?_
      cases h
      exact mz_Go.retz (by decide +kernel) rfl ⟨Nat.le_refl _, Nat.le_refl _⟩ (by decide) rfl
    · have h := mz_ifn hc3 h
      refine mz_Go.run (gs := []) (st' := (144, [none, none, some (.inl x2), some (.inr (.inr (some (g1, 119)))), none, none, some (.inl s0)], [.inl (1 : Int32)], D)) bX3_holds_139 oX3_holds_139 rfl trivial ?_
      cases h
      exact mz_Go.retz (by decide +kernel) rfl ⟨Nat.le_refl _, Nat.le_refl _⟩ (by decide) rfl
  · have h := mz_ifn hc2 h
    refine mz_Go.swc (fun hc4 => ?_) (fun hc4 => ?_)
    · have h := mz_ifp hc4 h
      refine mz_Go.run (gs := [mz_kz 0 g1 119, mz_kz 0 g1 125, mz_ix x2 30]) (st' := (if s0 ≤ (D.1 g1 125 (x2).toNatClampNeg) then (160, [none, none, some (.inl x2), some (.inr (.inr (some (g1, 119)))), none, none, some (.inl s0)], [], D) else (156, [none, none, some (.inl x2), some (.inr (.inr (some (g1, 119)))), none, none, some (.inl s0)], [], D))) bX3_holds_145 oX3_holds_145 rfl ⟨hg1, hg1, hb1, trivial⟩ ?_
      refine mz_Go.ite (fun hc5 => ?_) (fun hc5 => ?_)
      · have h := mz_ifp hc5 h
        refine mz_Go.run (gs := []) (st' := (161, [none, none, some (.inl x2), some (.inr (.inr (some (g1, 119)))), none, none, some (.inl s0)], [.inl (0 : Int32)], D)) bX3_holds_160 oX3_holds_160 rfl trivial ?_
        cases h
        exact mz_Go.retz (by decide +kernel) rfl ⟨Nat.le_refl _, Nat.le_refl _⟩ (by decide) rfl
      · have h := mz_ifn hc5 h
        refine mz_Go.run (gs := []) (st' := (161, [none, none, some (.inl x2), some (.inr (.inr (some (g1, 119)))), none, none, some (.inl s0)], [.inl (1 : Int32)], D)) bX3_holds_156 oX3_holds_156 rfl trivial ?_
        cases h
        exact mz_Go.retz (by decide +kernel) rfl ⟨Nat.le_refl _, Nat.le_refl _⟩ (by decide) rfl
    · have h := mz_ifn hc4 h
      refine mz_Go.run (gs := [mz_kz 0 g1 119, mz_kz 0 g1 125, mz_ix x2 30]) (st' := (if s0 = (D.1 g1 125 (x2).toNatClampNeg) then (173, [none, none, some (.inl x2), some (.inr (.inr (some (g1, 119)))), none, none, some (.inl s0)], [], D) else (177, [none, none, some (.inl x2), some (.inr (.inr (some (g1, 119)))), none, none, some (.inl s0)], [], D))) bX3_holds_162 oX3_holds_162 rfl ⟨hg1, hg1, hb1, trivial⟩ ?_
      refine mz_Go.ite (fun hc6 => ?_) (fun hc6 => ?_)
      · have h := mz_ifp hc6 h
        refine mz_Go.run (gs := []) (st' := (178, [none, none, some (.inl x2), some (.inr (.inr (some (g1, 119)))), none, none, some (.inl s0)], [.inl (1 : Int32)], D)) bX3_holds_173 oX3_holds_173 rfl trivial ?_
        cases h
        exact mz_Go.retz (by decide +kernel) rfl ⟨Nat.le_refl _, Nat.le_refl _⟩ (by decide) rfl
      · have h := mz_ifn hc6 h
        refine mz_Go.run (gs := []) (st' := (178, [none, none, some (.inl x2), some (.inr (.inr (some (g1, 119)))), none, none, some (.inl s0)], [.inl (0 : Int32)], D)) bX3_holds_177 oX3_holds_177 rfl trivial ?_
        cases h
        exact mz_Go.retz (by decide +kernel) rfl ⟨Nat.le_refl _, Nat.le_refl _⟩ (by decide) rfl
def fX3_holds_59 (g1 : Nat) (D : mz_D) (x2 : Int32) (x4 : Int32) (s0 : Int32) : Option Int32 := (if s0 = 0 then (mz_gd (mz_ix x2 30) (Option.bind (fX2_get g1 x4 (D.1 g1 123 (x2).toNatClampNeg) D) fun q3 => (fX3_holds_94 g1 D x2 q3))) else (mz_gd (mz_ix x4 6) (fX3_holds_94 g1 D x2 (D.1 g1 108 (x4).toNatClampNeg))))
set_option maxHeartbeats 4000000 in
theorem tX3_holds_59 (g1 : Nat) (D : mz_D) (hg1 : mz_tb g1 = true) (r : Int32) : ∀ (x2 : Int32) (x4 : Int32) (s0 : Int32), fX3_holds_59 g1 D x2 x4 s0 = some r → mz_Go IX3_holds (some (.inl r), D) 0 0 (59, [none, some (.inr (.inr (some (g1, 100)))), some (.inl x2), some (.inr (.inr (some (g1, 119)))), some (.inl x4), none, none], [.inl s0], D) := by
  intro x2 x4 s0 h
  rw [fX3_holds_59] at h
  refine mz_Go.run (gs := []) (st' := (if s0 = 0 then (79, [none, some (.inr (.inr (some (g1, 100)))), some (.inl x2), some (.inr (.inr (some (g1, 119)))), some (.inl x4), some (.inl s0), none], [], D) else (66, [none, some (.inr (.inr (some (g1, 100)))), some (.inl x2), some (.inr (.inr (some (g1, 119)))), some (.inl x4), some (.inl s0), none], [], D))) bX3_holds_59 oX3_holds_59 rfl trivial ?_
  refine mz_Go.ite (fun hc1 => ?_) (fun hc1 => ?_)
  · have h := mz_ifp hc1 h
    obtain ⟨hb2, h⟩ := mz_gd_some h
    refine mz_Go.run (gs := [mz_kz 0 g1 100, mz_kz 0 g1 119, mz_kz 0 g1 123, mz_ix x2 30]) (st' := (91, [none, some (.inr (.inr (some (g1, 100)))), some (.inl x2), some (.inr (.inr (some (g1, 119)))), some (.inl x4), some (.inl s0), none], [.inl (D.1 g1 123 (x2).toNatClampNeg), .inl x4, .inr (.inr (some (g1, 113)))], D)) bX3_holds_79 oX3_holds_79 rfl ⟨hg1, hg1, hg1, hb2, trivial⟩ ?_
    obtain ⟨q3, hq3, h⟩ := mz_bd_some h
    refine mz_Go.callV (I := IX3_holds) (J := IX2_get) (as := [.inl x4, .inl (D.1 g1 123 (x2).toNatClampNeg)]) (ci := 2) (g := g1) (o := 113) (idx := 195) (pl := 1541) (rest := []) (mX2_get g1 x4 (D.1 g1 123 (x2).toNatClampNeg) D hg1 q3 hq3) kX2_get vX2_get (by decide +kernel) (by decide +kernel) (by decide +kernel) rfl rfl ⟨rfl, rfl⟩ rfl rfl hg1 rfl ?_
    exact mz_Go.drop [false, false, true, true, false, false, false] (tX3_holds_94 g1 D hg1 r x2 q3 h)
  · have h := mz_ifn hc1 h
    obtain ⟨hb4, h⟩ := mz_gd_some h
    refine mz_Go.run (gs := [mz_kz 0 g1 100, mz_kz 0 g1 101, mz_kz 0 g1 108, mz_ix x4 6]) (st' := (94, [none, some (.inr (.inr (some (g1, 100)))), some (.inl x2), some (.inr (.inr (some (g1, 119)))), some (.inl x4), some (.inl s0), none], [.inl (D.1 g1 108 (x4).toNatClampNeg)], D)) bX3_holds_66 oX3_holds_66 rfl ⟨hg1, hg1, hg1, hb4, trivial⟩ ?_
    exact mz_Go.drop [false, false, true, true, false, false, false] (tX3_holds_94 g1 D hg1 r x2 (D.1 g1 108 (x4).toNatClampNeg) h)
def fX3_holds (g1 : Nat) (x2 : Int32) (D : mz_D) : Option Int32 := (mz_gd (mz_ix x2 30) (if (D.1 g1 121 (x2).toNatClampNeg) = (15 : Int32) then (Option.bind (fX6_nextPayer g1 (D.1 g1 100 5) D) fun q3 => (if q3 = (D.1 g1 122 (x2).toNatClampNeg) then (some (1 : Int32)) else (some (0 : Int32)))) else (if (D.1 g1 121 (x2).toNatClampNeg) = (25 : Int32) then (fX3_holds_59 g1 D x2 (D.1 g1 122 (x2).toNatClampNeg) (1 : Int32)) else (fX3_holds_59 g1 D x2 (D.1 g1 122 (x2).toNatClampNeg) (0 : Int32)))))
set_option maxHeartbeats 4000000 in
theorem mX3_holds (g1 : Nat) (x2 : Int32) (D : mz_D) (hg1 : mz_tb g1 = true) (r : Int32) (h : fX3_holds g1 x2 D = some r) : mz_Met IX3_holds [.inr (.inr (some (0, 9))), .inr (.inr (some (g1, 100))), .inl x2] D (some (.inl r), D) := by
  refine mz_Met.of (by decide +kernel) (Nat.le_of_ble_eq_true rfl) ?_
  show mz_Go IX3_holds (some (.inl r), D) 0 0 (0, [some (.inr (.inr (some (0, 9)))), some (.inr (.inr (some (g1, 100)))), some (.inl x2), none, none, none, none], [], D)
  rw [fX3_holds] at h
  obtain ⟨hb1, h⟩ := mz_gd_some h
  refine mz_Go.run (gs := [mz_kz 0 g1 100, mz_kz 0 g1 119, mz_kz 0 g1 122, mz_ix x2 30, mz_kz 0 g1 119, mz_kz 0 g1 121, mz_ix x2 30]) (st' := (if (D.1 g1 121 (x2).toNatClampNeg) = (15 : Int32) then (24, [some (.inr (.inr (some (0, 9)))), some (.inr (.inr (some (g1, 100)))), some (.inl x2), some (.inr (.inr (some (g1, 119)))), some (.inl (D.1 g1 122 (x2).toNatClampNeg)), none, none], [], D) else (43, [some (.inr (.inr (some (0, 9)))), some (.inr (.inr (some (g1, 100)))), some (.inl x2), some (.inr (.inr (some (g1, 119)))), some (.inl (D.1 g1 122 (x2).toNatClampNeg)), none, none], [], D))) bX3_holds_0 oX3_holds_0 rfl ⟨hg1, hg1, hg1, hb1, hg1, hg1, hb1, trivial⟩ ?_
  refine mz_Go.ite (fun hc2 => ?_) (fun hc2 => ?_)
  · have h := mz_ifp hc2 h
    refine mz_Go.run (gs := [mz_kz 0 g1 100]) (st' := (29, [some (.inr (.inr (some (0, 9)))), some (.inr (.inr (some (g1, 100)))), some (.inl x2), some (.inr (.inr (some (g1, 119)))), some (.inl (D.1 g1 122 (x2).toNatClampNeg)), none, none], [.inl (D.1 g1 100 5), .inr (.inr (some (g1, 100)))], D)) bX3_holds_24 oX3_holds_24 rfl ⟨hg1, trivial⟩ ?_
    obtain ⟨q3, hq3, h⟩ := mz_bd_some h
    refine mz_Go.callV (I := IX3_holds) (J := IX6_nextPayer) (as := [.inl (D.1 g1 100 5)]) (ci := 6) (g := g1) (o := 100) (idx := 189) (pl := 1540) (rest := []) (mX6_nextPayer g1 (D.1 g1 100 5) D hg1 q3 hq3) kX6_nextPayer vX6_nextPayer (by decide +kernel) (by decide +kernel) (by decide +kernel) rfl rfl ⟨rfl, rfl⟩ rfl rfl hg1 rfl ?_
    refine mz_Go.run (gs := []) (st' := (if q3 = (D.1 g1 122 (x2).toNatClampNeg) then (37, [some (.inr (.inr (some (0, 9)))), some (.inr (.inr (some (g1, 100)))), some (.inl x2), some (.inr (.inr (some (g1, 119)))), some (.inl (D.1 g1 122 (x2).toNatClampNeg)), none, none], [], D) else (41, [some (.inr (.inr (some (0, 9)))), some (.inr (.inr (some (g1, 100)))), some (.inl x2), some (.inr (.inr (some (g1, 119)))), some (.inl (D.1 g1 122 (x2).toNatClampNeg)), none, none], [], D))) bX3_holds_32 oX3_holds_32 rfl trivial ?_
    refine mz_Go.ite (fun hc4 => ?_) (fun hc4 => ?_)
    · have h := mz_ifp hc4 h
      refine mz_Go.run (gs := []) (st' := (42, [some (.inr (.inr (some (0, 9)))), some (.inr (.inr (some (g1, 100)))), some (.inl x2), some (.inr (.inr (some (g1, 119)))), some (.inl (D.1 g1 122 (x2).toNatClampNeg)), none, none], [.inl (1 : Int32)], D)) bX3_holds_37 oX3_holds_37 rfl trivial ?_
      cases h
      exact mz_Go.retz (by decide +kernel) rfl ⟨Nat.le_refl _, Nat.le_refl _⟩ (by decide) rfl
    · have h := mz_ifn hc4 h
      refine mz_Go.run (gs := []) (st' := (42, [some (.inr (.inr (some (0, 9)))), some (.inr (.inr (some (g1, 100)))), some (.inl x2), some (.inr (.inr (some (g1, 119)))), some (.inl (D.1 g1 122 (x2).toNatClampNeg)), none, none], [.inl (0 : Int32)], D)) bX3_holds_41 oX3_holds_41 rfl trivial ?_
      cases h
      exact mz_Go.retz (by decide +kernel) rfl ⟨Nat.le_refl _, Nat.le_refl _⟩ (by decide) rfl
  · have h := mz_ifn hc2 h
    refine mz_Go.run (gs := [mz_kz 0 g1 119, mz_kz 0 g1 121, mz_ix x2 30]) (st' := (if (D.1 g1 121 (x2).toNatClampNeg) = (25 : Int32) then (54, [some (.inr (.inr (some (0, 9)))), some (.inr (.inr (some (g1, 100)))), some (.inl x2), some (.inr (.inr (some (g1, 119)))), some (.inl (D.1 g1 122 (x2).toNatClampNeg)), none, none], [], D) else (58, [some (.inr (.inr (some (0, 9)))), some (.inr (.inr (some (g1, 100)))), some (.inl x2), some (.inr (.inr (some (g1, 119)))), some (.inl (D.1 g1 122 (x2).toNatClampNeg)), none, none], [], D))) bX3_holds_43 oX3_holds_43 rfl ⟨hg1, hg1, hb1, trivial⟩ ?_
    refine mz_Go.ite (fun hc5 => ?_) (fun hc5 => ?_)
    · have h := mz_ifp hc5 h
      refine mz_Go.run (gs := []) (st' := (59, [some (.inr (.inr (some (0, 9)))), some (.inr (.inr (some (g1, 100)))), some (.inl x2), some (.inr (.inr (some (g1, 119)))), some (.inl (D.1 g1 122 (x2).toNatClampNeg)), none, none], [.inl (1 : Int32)], D)) bX3_holds_54 oX3_holds_54 rfl trivial ?_
      exact mz_Go.drop [false, true, true, true, true, false, false] (tX3_holds_59 g1 D hg1 r x2 (D.1 g1 122 (x2).toNatClampNeg) (1 : Int32) h)
    · have h := mz_ifn hc5 h
      refine mz_Go.run (gs := []) (st' := (59, [some (.inr (.inr (some (0, 9)))), some (.inr (.inr (some (g1, 100)))), some (.inl x2), some (.inr (.inr (some (g1, 119)))), some (.inl (D.1 g1 122 (x2).toNatClampNeg)), none, none], [.inl (0 : Int32)], D)) bX3_holds_58 oX3_holds_58 rfl trivial ?_
      exact mz_Go.drop [false, true, true, true, true, false, false] (tX3_holds_59 g1 D hg1 r x2 (D.1 g1 122 (x2).toNatClampNeg) (0 : Int32) h)
def bX3_enter_0 : List mz_E := [(0, .aload_n 0, 0, 0, 0, 0, 0), (1, .getfield 69, 3, 8, 530, 0, 0), (4, .iconst 3, 0, 0, 0, 3, 0), (5, .if_icmp .ge 35, 0, 40, 0, 0, 0)]
theorem oX3_enter_0 : bX3_enter_0.all (mz_ok RX3 cX3_enter 3) = true := by decide +kernel
def bX3_enter_8 : List mz_E := [(8, .aload_n 0, 0, 0, 0, 0, 0), (9, .getfield 9, 3, 9, 531, 0, 0), (12, .aload_n 0, 0, 0, 0, 0, 0), (13, .getfield 69, 3, 8, 530, 0, 0), (16, .iload_n 1, 0, 0, 0, 0, 0), (17, .iastore, 0, 0, 0, 0, 0), (18, .aload_n 0, 0, 0, 0, 0, 0), (19, .getfield 15, 3, 10, 532, 0, 0), (22, .aload_n 0, 0, 0, 0, 0, 0), (23, .getfield 69, 3, 8, 530, 0, 0), (26, .iload_n 2, 0, 0, 0, 0, 0), (27, .iconst 1, 0, 0, 0, 1, 0), (28, .isub, 0, 0, 0, 0, 0), (29, .iastore, 0, 0, 0, 0, 0), (30, .aload_n 0, 0, 0, 0, 0, 0), (31, .dup, 0, 0, 0, 0, 0), (32, .getfield 69, 3, 8, 530, 0, 0), (35, .iconst 1, 0, 0, 0, 1, 0), (36, .iadd, 0, 0, 0, 0, 0), (37, .putfield 69, 3, 8, 530, 0, 0)]
theorem oX3_enter_8 : bX3_enter_8.all (mz_ok RX3 cX3_enter 3) = true := by decide +kernel
abbrev IX3_enter : mz_I := (yX3_enter, cX3_enter, 3, none, 0, 0, 0, 0)
theorem kX3_enter : mz_okm IX3_enter 1545 140 1544 2 = true := by decide +kernel
theorem vX3_enter : mz_okV IX3_enter 1544 45 = true := by decide +kernel
def fX3_enter (x1 : Int32) (x2 : Int32) (D : mz_D) : Option mz_D := (if (3 : Int32) ≤ (D.1 0 9 8) then (some D) else (mz_gd (mz_ix (D.1 0 9 8) 3) (some (mz_wi (mz_wi (mz_wi D 0 10 ((D.1 0 9 8)).toNatClampNeg x1) 0 11 ((D.1 0 9 8)).toNatClampNeg (x2 - (1 : Int32))) 0 9 8 ((D.1 0 9 8) + (1 : Int32))))))
set_option maxHeartbeats 4000000 in
theorem mX3_enter (x1 : Int32) (x2 : Int32) (D : mz_D) (r : mz_D) (h : fX3_enter x1 x2 D = some r) : mz_Met IX3_enter [.inr (.inr (some (0, 9))), .inl x1, .inl x2] D (none, r) := by
  refine mz_Met.of (by decide +kernel) (Nat.le_of_ble_eq_true rfl) ?_
  show mz_Go IX3_enter (none, r) 0 0 (0, [some (.inr (.inr (some (0, 9)))), some (.inl x1), some (.inl x2)], [], D)
  rw [fX3_enter] at h
  refine mz_Go.run (gs := [mz_kz 0 0 9]) (st' := (if (3 : Int32) ≤ (D.1 0 9 8) then (40, [some (.inr (.inr (some (0, 9)))), some (.inl x1), some (.inl x2)], [], D) else (8, [some (.inr (.inr (some (0, 9)))), some (.inl x1), some (.inl x2)], [], D))) bX3_enter_0 oX3_enter_0 rfl ⟨rfl, trivial⟩ ?_
  refine mz_Go.ite (fun hc1 => ?_) (fun hc1 => ?_)
  · have h := mz_ifp hc1 h
    cases h
    exact mz_Go.retv (by decide +kernel) rfl ⟨Nat.le_refl _, Nat.le_refl _⟩ rfl
  · have h := mz_ifn hc1 h
    obtain ⟨hb2, h⟩ := mz_gd_some h
    refine mz_Go.run (gs := [mz_kz 0 0 9, mz_kz 0 0 9, mz_kz 0 0 10, mz_ix (D.1 0 9 8) 3, mz_kz 0 0 9, mz_kz 0 0 9, mz_kz 0 0 11, mz_ix (D.1 0 9 8) 3, mz_kz 0 0 9, mz_kz 0 0 9]) (st' := (40, [some (.inr (.inr (some (0, 9)))), some (.inl x1), some (.inl x2)], [], (mz_wi (mz_wi (mz_wi D 0 10 ((D.1 0 9 8)).toNatClampNeg x1) 0 11 ((D.1 0 9 8)).toNatClampNeg (x2 - (1 : Int32))) 0 9 8 ((D.1 0 9 8) + (1 : Int32))))) bX3_enter_8 oX3_enter_8 rfl ⟨rfl, rfl, rfl, hb2, rfl, rfl, rfl, hb2, rfl, rfl, trivial⟩ ?_
    cases h
    exact mz_Go.retv (by decide +kernel) rfl ⟨Nat.le_refl _, Nat.le_refl _⟩ rfl
def bX3_comeTo_0 : List mz_E := [(0, .aload_n 1, 0, 0, 0, 0, 0), (1, .getfield 61, 6, 4, 491, 0, 0), (4, .astore_n 3, 0, 0, 0, 0, 0), (5, .aload_n 3, 0, 0, 0, 0, 0), (6, .getfield 94, 9, 4, 441, 0, 0), (9, .iload_n 2, 0, 0, 0, 0, 0), (10, .iaload, 0, 0, 0, 0, 0), (11, .istore 4, 0, 0, 0, 0, 0), (13, .aload_n 3, 0, 0, 0, 0, 0), (14, .getfield 97, 9, 5, 444, 0, 0), (17, .iload_n 2, 0, 0, 0, 0, 0), (18, .iaload, 0, 0, 0, 0, 0), (19, .istore 5, 0, 0, 0, 0, 0), (21, .aload_n 3, 0, 0, 0, 0, 0), (22, .getfield 100, 9, 2, 436, 0, 0), (25, .iload_n 2, 0, 0, 0, 0, 0), (26, .iaload, 0, 0, 0, 0, 0)]
theorem oX3_comeTo_0 : bX3_comeTo_0.all (mz_ok RX3 cX3_comeTo 6) = true := by decide +kernel
def bX3_comeTo_80 : List mz_E := [(80, .aload_n 0, 0, 0, 0, 0, 0), (81, .aload_n 1, 0, 0, 0, 0, 0), (82, .iload 4, 0, 0, 0, 0, 0), (84, .iconst (-1), 0, 0, 0, -1, 0), (85, .if_icmp .ne 14, 0, 99, 0, 0, 0)]
theorem oX3_comeTo_80 : bX3_comeTo_80.all (mz_ok RX3 cX3_comeTo 6) = true := by decide +kernel
def bX3_comeTo_88 : List mz_E := [(88, .aload_n 0, 0, 0, 0, 0, 0), (89, .aload_n 1, 0, 0, 0, 0, 0), (90, .getfield 48, 6, 0, 476, 0, 0)]
theorem oX3_comeTo_88 : bX3_comeTo_88.all (mz_ok RX3 cX3_comeTo 6) = true := by decide +kernel
def bX3_comeTo_96 : List mz_E := [(96, .goto 5, 0, 101, 0, 0, 0)]
theorem oX3_comeTo_96 : bX3_comeTo_96.all (mz_ok RX3 cX3_comeTo 6) = true := by decide +kernel
def bX3_comeTo_104 : List mz_E := [(104, .goto 116, 0, 220, 0, 0, 0), (220, .iload_n 2, 0, 0, 0, 0, 0), (221, .iconst 1, 0, 0, 0, 1, 0), (222, .iadd, 0, 0, 0, 0, 0)]
theorem oX3_comeTo_104 : bX3_comeTo_104.all (mz_ok RX3 cX3_comeTo 6) = true := by decide +kernel
def bX3_comeTo_99 : List mz_E := [(99, .iload 4, 0, 0, 0, 0, 0)]
theorem oX3_comeTo_99 : bX3_comeTo_99.all (mz_ok RX3 cX3_comeTo 6) = true := by decide +kernel
def bX3_comeTo_107 : List mz_E := [(107, .aload_n 0, 0, 0, 0, 0, 0), (108, .aload_n 1, 0, 0, 0, 0, 0), (109, .aload_n 0, 0, 0, 0, 0, 0), (110, .aload_n 1, 0, 0, 0, 0, 0), (111, .getfield 48, 6, 0, 476, 0, 0), (114, .iload 4, 0, 0, 0, 0, 0), (116, .iload 5, 0, 0, 0, 0, 0)]
theorem oX3_comeTo_107 : bX3_comeTo_107.all (mz_ok RX3 cX3_comeTo 6) = true := by decide +kernel
def bX3_comeTo_124 : List mz_E := [(124, .goto 96, 0, 220, 0, 0, 0), (220, .iload_n 2, 0, 0, 0, 0, 0), (221, .iconst 1, 0, 0, 0, 1, 0), (222, .iadd, 0, 0, 0, 0, 0)]
theorem oX3_comeTo_124 : bX3_comeTo_124.all (mz_ok RX3 cX3_comeTo 6) = true := by decide +kernel
def bX3_comeTo_127 : List mz_E := [(127, .aload_n 0, 0, 0, 0, 0, 0), (128, .aload_n 1, 0, 0, 0, 0, 0), (129, .getfield 115, 6, 2, 483, 0, 0), (132, .iload 5, 0, 0, 0, 0, 0), (134, .iload 4, 0, 0, 0, 0, 0), (136, .aload_n 3, 0, 0, 0, 0, 0), (137, .getfield 119, 9, 7, 450, 0, 0), (140, .iload_n 2, 0, 0, 0, 0, 0), (141, .iaload, 0, 0, 0, 0, 0)]
theorem oX3_comeTo_127 : bX3_comeTo_127.all (mz_ok RX3 cX3_comeTo 6) = true := by decide +kernel
def bX3_comeTo_148 : List mz_E := [(148, .goto 72, 0, 220, 0, 0, 0), (220, .iload_n 2, 0, 0, 0, 0, 0), (221, .iconst 1, 0, 0, 0, 1, 0), (222, .iadd, 0, 0, 0, 0, 0)]
theorem oX3_comeTo_148 : bX3_comeTo_148.all (mz_ok RX3 cX3_comeTo 6) = true := by decide +kernel
def bX3_comeTo_151 : List mz_E := [(151, .aload_n 1, 0, 0, 0, 0, 0), (152, .iload 4, 0, 0, 0, 0, 0), (154, .iload 5, 0, 0, 0, 0, 0), (156, .aload_n 3, 0, 0, 0, 0, 0), (157, .getfield 119, 9, 7, 450, 0, 0), (160, .iload_n 2, 0, 0, 0, 0, 0), (161, .iaload, 0, 0, 0, 0, 0)]
theorem oX3_comeTo_151 : bX3_comeTo_151.all (mz_ok RX3 cX3_comeTo 6) = true := by decide +kernel
def bX3_comeTo_165 : List mz_E := [(165, .goto 55, 0, 220, 0, 0, 0), (220, .iload_n 2, 0, 0, 0, 0, 0), (221, .iconst 1, 0, 0, 0, 1, 0), (222, .iadd, 0, 0, 0, 0, 0)]
theorem oX3_comeTo_165 : bX3_comeTo_165.all (mz_ok RX3 cX3_comeTo 6) = true := by decide +kernel
def bX3_comeTo_168 : List mz_E := [(168, .aload_n 0, 0, 0, 0, 0, 0), (169, .aload_n 1, 0, 0, 0, 0, 0), (170, .getfield 136, 6, 3, 488, 0, 0)]
theorem oX3_comeTo_168 : bX3_comeTo_168.all (mz_ok RX3 cX3_comeTo 6) = true := by decide +kernel
def bX3_comeTo_176 : List mz_E := [(176, .goto 44, 0, 220, 0, 0, 0), (220, .iload_n 2, 0, 0, 0, 0, 0), (221, .iconst 1, 0, 0, 0, 1, 0), (222, .iadd, 0, 0, 0, 0, 0)]
theorem oX3_comeTo_176 : bX3_comeTo_176.all (mz_ok RX3 cX3_comeTo 6) = true := by decide +kernel
def bX3_comeTo_215 : List mz_E := [(215, .aload_n 0, 0, 0, 0, 0, 0), (216, .iconst 1, 0, 0, 0, 1, 0), (217, .putfield 66, 3, 6, 528, 0, 0), (220, .iload_n 2, 0, 0, 0, 0, 0), (221, .iconst 1, 0, 0, 0, 1, 0), (222, .iadd, 0, 0, 0, 0, 0)]
theorem oX3_comeTo_215 : bX3_comeTo_215.all (mz_ok RX3 cX3_comeTo 6) = true := by decide +kernel
def bX3_comeTo_179 : List mz_E := [(179, .aload_n 0, 0, 0, 0, 0, 0), (180, .aload_n 1, 0, 0, 0, 0, 0), (181, .iload_n 2, 0, 0, 0, 0, 0)]
theorem oX3_comeTo_179 : bX3_comeTo_179.all (mz_ok RX3 cX3_comeTo 6) = true := by decide +kernel
def bX3_comeTo_185 : List mz_E := [(185, .ifCond .eq 9, 0, 194, 0, 0, 0)]
theorem oX3_comeTo_185 : bX3_comeTo_185.all (mz_ok RX3 cX3_comeTo 6) = true := by decide +kernel
def bX3_comeTo_194 : List mz_E := [(194, .aload_n 3, 0, 0, 0, 0, 0), (195, .getfield 72, 9, 8, 454, 0, 0), (198, .iload_n 2, 0, 0, 0, 0, 0), (199, .iaload, 0, 0, 0, 0, 0)]
theorem oX3_comeTo_194 : bX3_comeTo_194.all (mz_ok RX3 cX3_comeTo 6) = true := by decide +kernel
def bX3_comeTo_188 : List mz_E := [(188, .iload_n 2, 0, 0, 0, 0, 0), (189, .iconst 1, 0, 0, 0, 1, 0), (190, .iadd, 0, 0, 0, 0, 0), (191, .goto 9, 0, 200, 0, 0, 0)]
theorem oX3_comeTo_188 : bX3_comeTo_188.all (mz_ok RX3 cX3_comeTo 6) = true := by decide +kernel
def bX3_comeTo_201 : List mz_E := [(201, .aload_n 0, 0, 0, 0, 0, 0), (202, .iload_n 2, 0, 0, 0, 0, 0), (203, .aload_n 3, 0, 0, 0, 0, 0), (204, .getfield 119, 9, 7, 450, 0, 0), (207, .iload_n 2, 0, 0, 0, 0, 0), (208, .iaload, 0, 0, 0, 0, 0)]
theorem oX3_comeTo_201 : bX3_comeTo_201.all (mz_ok RX3 cX3_comeTo 6) = true := by decide +kernel
def bX3_comeTo_212 : List mz_E := [(212, .goto 8, 0, 220, 0, 0, 0), (220, .iload_n 2, 0, 0, 0, 0, 0), (221, .iconst 1, 0, 0, 0, 1, 0), (222, .iadd, 0, 0, 0, 0, 0)]
theorem oX3_comeTo_212 : bX3_comeTo_212.all (mz_ok RX3 cX3_comeTo 6) = true := by decide +kernel
abbrev IX3_comeTo : mz_I := (yX3_comeTo, cX3_comeTo, 6, (some .int), 0, 4, 0, 0)
theorem kX3_comeTo : mz_okm IX3_comeTo 1504 140 1503 2 = true := by decide +kernel
theorem vX3_comeTo : mz_okV IX3_comeTo 1503 37 = true := by decide +kernel
def fX3_comeTo_101 (g1 : Nat) (x2 : Int32) (s0 : Int32) (D : mz_D) : Option (Int32 × mz_D) := (Option.bind (fX3_dine g1 s0 D) fun q1 => (some ((x2 + (1 : Int32)), q1)))
set_option maxHeartbeats 4000000 in
theorem tX3_comeTo_101 (g1 : Nat) (hg1 : mz_tb g1 = true) (r : (Int32 × mz_D)) : ∀ (x2 : Int32) (s0 : Int32) (D : mz_D), fX3_comeTo_101 g1 x2 s0 D = some r → mz_Go IX3_comeTo (some (.inl r.1), r.2) 0 0 (101, [none, none, some (.inl x2), none, none, none], [.inl s0, .inr (.inr (some (g1, 100))), .inr (.inr (some (0, 9)))], D) := by
  intro x2 s0 D h
  rw [fX3_comeTo_101] at h
  obtain ⟨q1, hq1, h⟩ := mz_bd_some h
  refine mz_Go.callV (I := IX3_comeTo) (J := IX3_dine) (as := [.inr (.inr (some (g1, 100))), .inl s0]) (ci := 3) (g := 0) (o := 9) (idx := 107) (pl := 1516) (rest := []) (mX3_dine g1 s0 D hg1 q1 hq1) kX3_dine vX3_dine (by decide +kernel) (by decide +kernel) (by decide +kernel) rfl rfl ⟨rfl, rfl⟩ rfl rfl rfl rfl ?_
  refine mz_Go.run (gs := []) (st' := (223, [none, none, some (.inl x2), none, none, none], [.inl (x2 + (1 : Int32))], q1)) bX3_comeTo_104 oX3_comeTo_104 rfl trivial ?_
  cases h
  exact mz_Go.reti (by decide +kernel) rfl ⟨Nat.le_refl _, Nat.le_refl _⟩ rfl
def fX3_comeTo (g1 : Nat) (x2 : Int32) (D : mz_D) : Option (Int32 × mz_D) := (mz_gd (mz_ix x2 30) (if (D.1 g1 120 (x2).toNatClampNeg) = (17 : Int32) then (if (D.1 g1 122 (x2).toNatClampNeg) = (-1 : Int32) then (Option.bind (fX3_quickest g1 D) fun q4 => (fX3_comeTo_101 g1 x2 q4.1 q4.2)) else (fX3_comeTo_101 g1 x2 (D.1 g1 122 (x2).toNatClampNeg) D)) else (if (D.1 g1 120 (x2).toNatClampNeg) = (18 : Int32) then (Option.bind (fX3_winner g1 (D.1 g1 122 (x2).toNatClampNeg) (D.1 g1 123 (x2).toNatClampNeg) D) fun q6 => (Option.bind (fX3_dine g1 q6.1 q6.2) fun q7 => (some ((x2 + (1 : Int32)), q7)))) else (if (D.1 g1 120 (x2).toNatClampNeg) = (19 : Int32) then (Option.bind (fX2_add g1 (D.1 g1 123 (x2).toNatClampNeg) (D.1 g1 122 (x2).toNatClampNeg) (D.1 g1 125 (x2).toNatClampNeg) D) fun q9 => (Option.bind (fX3_missUnless q9.1 q9.2) fun q10 => (some ((x2 + (1 : Int32)), q10)))) else (if (D.1 g1 120 (x2).toNatClampNeg) = (20 : Int32) then (Option.bind (fX6_give g1 (D.1 g1 122 (x2).toNatClampNeg) (D.1 g1 123 (x2).toNatClampNeg) (D.1 g1 125 (x2).toNatClampNeg) D) fun q12 => (some ((x2 + (1 : Int32)), q12))) else (if (D.1 g1 120 (x2).toNatClampNeg) = (21 : Int32) then (Option.bind (fX3_drink g1 D) fun q14 => (some ((x2 + (1 : Int32)), q14))) else (if (D.1 g1 120 (x2).toNatClampNeg) = (22 : Int32) then (some ((x2 + (1 : Int32)), (mz_wi D 0 9 6 (1 : Int32)))) else (if (D.1 g1 120 (x2).toNatClampNeg) = (23 : Int32) then (some ((x2 + (1 : Int32)), (mz_wi D 0 9 6 (1 : Int32)))) else (if (D.1 g1 120 (x2).toNatClampNeg) = (24 : Int32) then (Option.bind (fX3_holds g1 x2 D) fun q18 => (if q18 = 0 then (some ((D.1 g1 126 (x2).toNatClampNeg), D)) else (some ((x2 + (1 : Int32)), D)))) else (if (D.1 g1 120 (x2).toNatClampNeg) = (25 : Int32) then (some ((x2 + (1 : Int32)), (mz_wi D 0 9 6 (1 : Int32)))) else (if (D.1 g1 120 (x2).toNatClampNeg) = (26 : Int32) then (Option.bind (fX3_enter x2 (D.1 g1 125 (x2).toNatClampNeg) D) fun q22 => (some ((x2 + (1 : Int32)), q22))) else (some ((x2 + (1 : Int32)), (mz_wi D 0 9 6 (1 : Int32)))))))))))))))
set_option maxHeartbeats 4000000 in
theorem mX3_comeTo (g1 : Nat) (x2 : Int32) (D : mz_D) (hg1 : mz_tb g1 = true) (r : (Int32 × mz_D)) (h : fX3_comeTo g1 x2 D = some r) : mz_Met IX3_comeTo [.inr (.inr (some (0, 9))), .inr (.inr (some (g1, 100))), .inl x2] D (some (.inl r.1), r.2) := by
  refine mz_Met.of (by decide +kernel) (Nat.le_of_ble_eq_true rfl) ?_
  show mz_Go IX3_comeTo (some (.inl r.1), r.2) 0 0 (0, [some (.inr (.inr (some (0, 9)))), some (.inr (.inr (some (g1, 100)))), some (.inl x2), none, none, none], [], D)
  rw [fX3_comeTo] at h
  obtain ⟨hb1, h⟩ := mz_gd_some h
  refine mz_Go.run (gs := [mz_kz 0 g1 100, mz_kz 0 g1 119, mz_kz 0 g1 122, mz_ix x2 30, mz_kz 0 g1 119, mz_kz 0 g1 123, mz_ix x2 30, mz_kz 0 g1 119, mz_kz 0 g1 120, mz_ix x2 30]) (st' := (27, [some (.inr (.inr (some (0, 9)))), some (.inr (.inr (some (g1, 100)))), some (.inl x2), some (.inr (.inr (some (g1, 119)))), some (.inl (D.1 g1 122 (x2).toNatClampNeg)), some (.inl (D.1 g1 123 (x2).toNatClampNeg))], [.inl (D.1 g1 120 (x2).toNatClampNeg)], D)) bX3_comeTo_0 oX3_comeTo_0 rfl ⟨hg1, hg1, hg1, hb1, hg1, hg1, hb1, hg1, hg1, hb1, trivial⟩ ?_
  refine mz_Go.tsw [(17, 80), (18, 107), (19, 127), (20, 151), (21, 168), (22, 215), (23, 215), (24, 179), (25, 215), (26, 201)] 215 (show decode cX3_comeTo 27 = .ok (.tableswitch 188 17 26 #[53, 80, 100, 124, 141, 188, 188, 152, 188, 174], 53) by decide +kernel) (by decide +kernel) ?_
  refine mz_Go.swc (fun hc2 => ?_) (fun hc2 => ?_)
  · have h := mz_ifp hc2 h
    refine mz_Go.run (gs := []) (st' := (if (D.1 g1 122 (x2).toNatClampNeg) = (-1 : Int32) then (88, [some (.inr (.inr (some (0, 9)))), some (.inr (.inr (some (g1, 100)))), some (.inl x2), some (.inr (.inr (some (g1, 119)))), some (.inl (D.1 g1 122 (x2).toNatClampNeg)), some (.inl (D.1 g1 123 (x2).toNatClampNeg))], [.inr (.inr (some (g1, 100))), .inr (.inr (some (0, 9)))], D) else (99, [some (.inr (.inr (some (0, 9)))), some (.inr (.inr (some (g1, 100)))), some (.inl x2), some (.inr (.inr (some (g1, 119)))), some (.inl (D.1 g1 122 (x2).toNatClampNeg)), some (.inl (D.1 g1 123 (x2).toNatClampNeg))], [.inr (.inr (some (g1, 100))), .inr (.inr (some (0, 9)))], D))) bX3_comeTo_80 oX3_comeTo_80 rfl trivial ?_
    refine mz_Go.ite (fun hc3 => ?_) (fun hc3 => ?_)
    · have h := mz_ifp hc3 h
      refine mz_Go.run (gs := [mz_kz 0 g1 100]) (st' := (93, [some (.inr (.inr (some (0, 9)))), some (.inr (.inr (some (g1, 100)))), some (.inl x2), some (.inr (.inr (some (g1, 119)))), some (.inl (D.1 g1 122 (x2).toNatClampNeg)), some (.inl (D.1 g1 123 (x2).toNatClampNeg))], [.inr (.inr (some (g1, 101))), .inr (.inr (some (0, 9))), .inr (.inr (some (g1, 100))), .inr (.inr (some (0, 9)))], D)) bX3_comeTo_88 oX3_comeTo_88 rfl ⟨hg1, trivial⟩ ?_
      obtain ⟨q4, hq4, h⟩ := mz_bd_some h
      refine mz_Go.callV (I := IX3_comeTo) (J := IX3_quickest) (as := [.inr (.inr (some (g1, 101)))]) (ci := 3) (g := 0) (o := 9) (idx := 103) (pl := 1505) (rest := [.inr (.inr (some (g1, 100))), .inr (.inr (some (0, 9)))]) (mX3_quickest g1 D hg1 q4 hq4) kX3_quickest vX3_quickest (by decide +kernel) (by decide +kernel) (by decide +kernel) rfl rfl ⟨rfl, rfl⟩ rfl rfl rfl rfl ?_
      refine mz_Go.run (gs := []) (st' := (101, [some (.inr (.inr (some (0, 9)))), some (.inr (.inr (some (g1, 100)))), some (.inl x2), some (.inr (.inr (some (g1, 119)))), some (.inl (D.1 g1 122 (x2).toNatClampNeg)), some (.inl (D.1 g1 123 (x2).toNatClampNeg))], [.inl q4.1, .inr (.inr (some (g1, 100))), .inr (.inr (some (0, 9)))], q4.2)) bX3_comeTo_96 oX3_comeTo_96 rfl trivial ?_
      exact mz_Go.drop [false, false, true, false, false, false] (tX3_comeTo_101 g1 hg1 r x2 q4.1 q4.2 h)
    · have h := mz_ifn hc3 h
      refine mz_Go.run (gs := []) (st' := (101, [some (.inr (.inr (some (0, 9)))), some (.inr (.inr (some (g1, 100)))), some (.inl x2), some (.inr (.inr (some (g1, 119)))), some (.inl (D.1 g1 122 (x2).toNatClampNeg)), some (.inl (D.1 g1 123 (x2).toNatClampNeg))], [.inl (D.1 g1 122 (x2).toNatClampNeg), .inr (.inr (some (g1, 100))), .inr (.inr (some (0, 9)))], D)) bX3_comeTo_99 oX3_comeTo_99 rfl trivial ?_
      exact mz_Go.drop [false, false, true, false, false, false] (tX3_comeTo_101 g1 hg1 r x2 (D.1 g1 122 (x2).toNatClampNeg) D h)
  · have h := mz_ifn hc2 h
    refine mz_Go.swc (fun hc5 => ?_) (fun hc5 => ?_)
    · have h := mz_ifp hc5 h
      refine mz_Go.run (gs := [mz_kz 0 g1 100]) (st' := (118, [some (.inr (.inr (some (0, 9)))), some (.inr (.inr (some (g1, 100)))), some (.inl x2), some (.inr (.inr (some (g1, 119)))), some (.inl (D.1 g1 122 (x2).toNatClampNeg)), some (.inl (D.1 g1 123 (x2).toNatClampNeg))], [.inl (D.1 g1 123 (x2).toNatClampNeg), .inl (D.1 g1 122 (x2).toNatClampNeg), .inr (.inr (some (g1, 101))), .inr (.inr (some (0, 9))), .inr (.inr (some (g1, 100))), .inr (.inr (some (0, 9)))], D)) bX3_comeTo_107 oX3_comeTo_107 rfl ⟨hg1, trivial⟩ ?_
      obtain ⟨q6, hq6, h⟩ := mz_bd_some h
      refine mz_Go.callV (I := IX3_comeTo) (J := IX3_winner) (as := [.inr (.inr (some (g1, 101))), .inl (D.1 g1 122 (x2).toNatClampNeg), .inl (D.1 g1 123 (x2).toNatClampNeg)]) (ci := 3) (g := 0) (o := 9) (idx := 111) (pl := 1525) (rest := [.inr (.inr (some (g1, 100))), .inr (.inr (some (0, 9)))]) (mX3_winner g1 (D.1 g1 122 (x2).toNatClampNeg) (D.1 g1 123 (x2).toNatClampNeg) D hg1 q6 hq6) kX3_winner vX3_winner (by decide +kernel) (by decide +kernel) (by decide +kernel) rfl rfl ⟨rfl, rfl⟩ rfl rfl rfl rfl ?_
      obtain ⟨q7, hq7, h⟩ := mz_bd_some h
      refine mz_Go.callV (I := IX3_comeTo) (J := IX3_dine) (as := [.inr (.inr (some (g1, 100))), .inl q6.1]) (ci := 3) (g := 0) (o := 9) (idx := 107) (pl := 1516) (rest := []) (mX3_dine g1 q6.1 q6.2 hg1 q7 hq7) kX3_dine vX3_dine (by decide +kernel) (by decide +kernel) (by decide +kernel) rfl rfl ⟨rfl, rfl⟩ rfl rfl rfl rfl ?_
      refine mz_Go.run (gs := []) (st' := (223, [some (.inr (.inr (some (0, 9)))), some (.inr (.inr (some (g1, 100)))), some (.inl x2), some (.inr (.inr (some (g1, 119)))), some (.inl (D.1 g1 122 (x2).toNatClampNeg)), some (.inl (D.1 g1 123 (x2).toNatClampNeg))], [.inl (x2 + (1 : Int32))], q7)) bX3_comeTo_124 oX3_comeTo_124 rfl trivial ?_
      cases h
      exact mz_Go.reti (by decide +kernel) rfl ⟨Nat.le_refl _, Nat.le_refl _⟩ rfl
    · have h := mz_ifn hc5 h
      refine mz_Go.swc (fun hc8 => ?_) (fun hc8 => ?_)
      · have h := mz_ifp hc8 h
        refine mz_Go.run (gs := [mz_kz 0 g1 100, mz_kz 0 g1 119, mz_kz 0 g1 125, mz_ix x2 30]) (st' := (142, [some (.inr (.inr (some (0, 9)))), some (.inr (.inr (some (g1, 100)))), some (.inl x2), some (.inr (.inr (some (g1, 119)))), some (.inl (D.1 g1 122 (x2).toNatClampNeg)), some (.inl (D.1 g1 123 (x2).toNatClampNeg))], [.inl (D.1 g1 125 (x2).toNatClampNeg), .inl (D.1 g1 122 (x2).toNatClampNeg), .inl (D.1 g1 123 (x2).toNatClampNeg), .inr (.inr (some (g1, 113))), .inr (.inr (some (0, 9)))], D)) bX3_comeTo_127 oX3_comeTo_127 rfl ⟨hg1, hg1, hg1, hb1, trivial⟩ ?_
        obtain ⟨q9, hq9, h⟩ := mz_bd_some h
        refine mz_Go.callV (I := IX3_comeTo) (J := IX2_add) (as := [.inl (D.1 g1 123 (x2).toNatClampNeg), .inl (D.1 g1 122 (x2).toNatClampNeg), .inl (D.1 g1 125 (x2).toNatClampNeg)]) (ci := 2) (g := g1) (o := 113) (idx := 122) (pl := 1529) (rest := [.inr (.inr (some (0, 9)))]) (mX2_add g1 (D.1 g1 123 (x2).toNatClampNeg) (D.1 g1 122 (x2).toNatClampNeg) (D.1 g1 125 (x2).toNatClampNeg) D hg1 q9 hq9) kX2_add vX2_add (by decide +kernel) (by decide +kernel) (by decide +kernel) rfl rfl ⟨rfl, rfl⟩ rfl rfl hg1 rfl ?_
        obtain ⟨q10, hq10, h⟩ := mz_bd_some h
        refine mz_Go.callV (I := IX3_comeTo) (J := IX3_missUnless) (as := [.inl q9.1]) (ci := 3) (g := 0) (o := 9) (idx := 128) (pl := 1521) (rest := []) (mX3_missUnless q9.1 q9.2 q10 hq10) kX3_missUnless vX3_missUnless (by decide +kernel) (by decide +kernel) (by decide +kernel) rfl rfl ⟨rfl, rfl⟩ rfl rfl rfl rfl ?_
        refine mz_Go.run (gs := []) (st' := (223, [some (.inr (.inr (some (0, 9)))), some (.inr (.inr (some (g1, 100)))), some (.inl x2), some (.inr (.inr (some (g1, 119)))), some (.inl (D.1 g1 122 (x2).toNatClampNeg)), some (.inl (D.1 g1 123 (x2).toNatClampNeg))], [.inl (x2 + (1 : Int32))], q10)) bX3_comeTo_148 oX3_comeTo_148 rfl trivial ?_
        cases h
        exact mz_Go.reti (by decide +kernel) rfl ⟨Nat.le_refl _, Nat.le_refl _⟩ rfl
      · have h := mz_ifn hc8 h
        refine mz_Go.swc (fun hc11 => ?_) (fun hc11 => ?_)
        · have h := mz_ifp hc11 h
          refine mz_Go.run (gs := [mz_kz 0 g1 119, mz_kz 0 g1 125, mz_ix x2 30]) (st' := (162, [some (.inr (.inr (some (0, 9)))), some (.inr (.inr (some (g1, 100)))), some (.inl x2), some (.inr (.inr (some (g1, 119)))), some (.inl (D.1 g1 122 (x2).toNatClampNeg)), some (.inl (D.1 g1 123 (x2).toNatClampNeg))], [.inl (D.1 g1 125 (x2).toNatClampNeg), .inl (D.1 g1 123 (x2).toNatClampNeg), .inl (D.1 g1 122 (x2).toNatClampNeg), .inr (.inr (some (g1, 100)))], D)) bX3_comeTo_151 oX3_comeTo_151 rfl ⟨hg1, hg1, hb1, trivial⟩ ?_
          obtain ⟨q12, hq12, h⟩ := mz_bd_some h
          refine mz_Go.callV (I := IX3_comeTo) (J := IX6_give) (as := [.inl (D.1 g1 122 (x2).toNatClampNeg), .inl (D.1 g1 123 (x2).toNatClampNeg), .inl (D.1 g1 125 (x2).toNatClampNeg)]) (ci := 6) (g := g1) (o := 100) (idx := 132) (pl := 1530) (rest := []) (mX6_give g1 (D.1 g1 122 (x2).toNatClampNeg) (D.1 g1 123 (x2).toNatClampNeg) (D.1 g1 125 (x2).toNatClampNeg) D hg1 q12 hq12) kX6_give vX6_give (by decide +kernel) (by decide +kernel) (by decide +kernel) rfl rfl ⟨rfl, rfl⟩ rfl rfl hg1 rfl ?_
          refine mz_Go.run (gs := []) (st' := (223, [some (.inr (.inr (some (0, 9)))), some (.inr (.inr (some (g1, 100)))), some (.inl x2), some (.inr (.inr (some (g1, 119)))), some (.inl (D.1 g1 122 (x2).toNatClampNeg)), some (.inl (D.1 g1 123 (x2).toNatClampNeg))], [.inl (x2 + (1 : Int32))], q12)) bX3_comeTo_165 oX3_comeTo_165 rfl trivial ?_
          cases h
          exact mz_Go.reti (by decide +kernel) rfl ⟨Nat.le_refl _, Nat.le_refl _⟩ rfl
        · have h := mz_ifn hc11 h
          refine mz_Go.swc (fun hc13 => ?_) (fun hc13 => ?_)
          · have h := mz_ifp hc13 h
            refine mz_Go.run (gs := [mz_kz 0 g1 100]) (st' := (173, [some (.inr (.inr (some (0, 9)))), some (.inr (.inr (some (g1, 100)))), some (.inl x2), some (.inr (.inr (some (g1, 119)))), some (.inl (D.1 g1 122 (x2).toNatClampNeg)), some (.inl (D.1 g1 123 (x2).toNatClampNeg))], [.inr (.inr (some (g1, 117))), .inr (.inr (some (0, 9)))], D)) bX3_comeTo_168 oX3_comeTo_168 rfl ⟨hg1, trivial⟩ ?_
            obtain ⟨q14, hq14, h⟩ := mz_bd_some h
            refine mz_Go.callV (I := IX3_comeTo) (J := IX3_drink) (as := [.inr (.inr (some (g1, 117)))]) (ci := 3) (g := 0) (o := 9) (idx := 140) (pl := 1531) (rest := []) (mX3_drink g1 D hg1 q14 hq14) kX3_drink vX3_drink (by decide +kernel) (by decide +kernel) (by decide +kernel) rfl rfl ⟨rfl, rfl⟩ rfl rfl rfl rfl ?_
            refine mz_Go.run (gs := []) (st' := (223, [some (.inr (.inr (some (0, 9)))), some (.inr (.inr (some (g1, 100)))), some (.inl x2), some (.inr (.inr (some (g1, 119)))), some (.inl (D.1 g1 122 (x2).toNatClampNeg)), some (.inl (D.1 g1 123 (x2).toNatClampNeg))], [.inl (x2 + (1 : Int32))], q14)) bX3_comeTo_176 oX3_comeTo_176 rfl trivial ?_
            cases h
            exact mz_Go.reti (by decide +kernel) rfl ⟨Nat.le_refl _, Nat.le_refl _⟩ rfl
          · have h := mz_ifn hc13 h
            refine mz_Go.swc (fun hc15 => ?_) (fun hc15 => ?_)
            · have h := mz_ifp hc15 h
              refine mz_Go.run (gs := [mz_kz 0 0 9, mz_bo (1 : Int32)]) (st' := (223, [some (.inr (.inr (some (0, 9)))), some (.inr (.inr (some (g1, 100)))), some (.inl x2), some (.inr (.inr (some (g1, 119)))), some (.inl (D.1 g1 122 (x2).toNatClampNeg)), some (.inl (D.1 g1 123 (x2).toNatClampNeg))], [.inl (x2 + (1 : Int32))], (mz_wi D 0 9 6 (1 : Int32)))) bX3_comeTo_215 oX3_comeTo_215 rfl ⟨rfl, (by decide), trivial⟩ ?_
              cases h
              exact mz_Go.reti (by decide +kernel) rfl ⟨Nat.le_refl _, Nat.le_refl _⟩ rfl
            · have h := mz_ifn hc15 h
              refine mz_Go.swc (fun hc16 => ?_) (fun hc16 => ?_)
              · have h := mz_ifp hc16 h
                refine mz_Go.run (gs := [mz_kz 0 0 9, mz_bo (1 : Int32)]) (st' := (223, [some (.inr (.inr (some (0, 9)))), some (.inr (.inr (some (g1, 100)))), some (.inl x2), some (.inr (.inr (some (g1, 119)))), some (.inl (D.1 g1 122 (x2).toNatClampNeg)), some (.inl (D.1 g1 123 (x2).toNatClampNeg))], [.inl (x2 + (1 : Int32))], (mz_wi D 0 9 6 (1 : Int32)))) bX3_comeTo_215 oX3_comeTo_215 rfl ⟨rfl, (by decide), trivial⟩ ?_
                cases h
                exact mz_Go.reti (by decide +kernel) rfl ⟨Nat.le_refl _, Nat.le_refl _⟩ rfl
              · have h := mz_ifn hc16 h
                refine mz_Go.swc (fun hc17 => ?_) (fun hc17 => ?_)
                · have h := mz_ifp hc17 h
                  refine mz_Go.run (gs := []) (st' := (182, [some (.inr (.inr (some (0, 9)))), some (.inr (.inr (some (g1, 100)))), some (.inl x2), some (.inr (.inr (some (g1, 119)))), some (.inl (D.1 g1 122 (x2).toNatClampNeg)), some (.inl (D.1 g1 123 (x2).toNatClampNeg))], [.inl x2, .inr (.inr (some (g1, 100))), .inr (.inr (some (0, 9)))], D)) bX3_comeTo_179 oX3_comeTo_179 rfl trivial ?_
                  obtain ⟨q18, hq18, h⟩ := mz_bd_some h
                  refine mz_Go.callV (I := IX3_comeTo) (J := IX3_holds) (as := [.inr (.inr (some (g1, 100))), .inl x2]) (ci := 3) (g := 0) (o := 9) (idx := 144) (pl := 1536) (rest := []) (mX3_holds g1 x2 D hg1 q18 hq18) kX3_holds vX3_holds (by decide +kernel) (by decide +kernel) (by decide +kernel) rfl rfl ⟨rfl, rfl⟩ rfl rfl rfl rfl ?_
                  refine mz_Go.run (gs := []) (st' := (if q18 = 0 then (194, [some (.inr (.inr (some (0, 9)))), some (.inr (.inr (some (g1, 100)))), some (.inl x2), some (.inr (.inr (some (g1, 119)))), some (.inl (D.1 g1 122 (x2).toNatClampNeg)), some (.inl (D.1 g1 123 (x2).toNatClampNeg))], [], D) else (188, [some (.inr (.inr (some (0, 9)))), some (.inr (.inr (some (g1, 100)))), some (.inl x2), some (.inr (.inr (some (g1, 119)))), some (.inl (D.1 g1 122 (x2).toNatClampNeg)), some (.inl (D.1 g1 123 (x2).toNatClampNeg))], [], D))) bX3_comeTo_185 oX3_comeTo_185 rfl trivial ?_
                  refine mz_Go.ite (fun hc19 => ?_) (fun hc19 => ?_)
                  · have h := mz_ifp hc19 h
                    refine mz_Go.run (gs := [mz_kz 0 g1 119, mz_kz 0 g1 126, mz_ix x2 30]) (st' := (200, [some (.inr (.inr (some (0, 9)))), some (.inr (.inr (some (g1, 100)))), some (.inl x2), some (.inr (.inr (some (g1, 119)))), some (.inl (D.1 g1 122 (x2).toNatClampNeg)), some (.inl (D.1 g1 123 (x2).toNatClampNeg))], [.inl (D.1 g1 126 (x2).toNatClampNeg)], D)) bX3_comeTo_194 oX3_comeTo_194 rfl ⟨hg1, hg1, hb1, trivial⟩ ?_
                    cases h
                    exact mz_Go.reti (by decide +kernel) rfl ⟨Nat.le_refl _, Nat.le_refl _⟩ rfl
                  · have h := mz_ifn hc19 h
                    refine mz_Go.run (gs := []) (st' := (200, [some (.inr (.inr (some (0, 9)))), some (.inr (.inr (some (g1, 100)))), some (.inl x2), some (.inr (.inr (some (g1, 119)))), some (.inl (D.1 g1 122 (x2).toNatClampNeg)), some (.inl (D.1 g1 123 (x2).toNatClampNeg))], [.inl (x2 + (1 : Int32))], D)) bX3_comeTo_188 oX3_comeTo_188 rfl trivial ?_
                    cases h
                    exact mz_Go.reti (by decide +kernel) rfl ⟨Nat.le_refl _, Nat.le_refl _⟩ rfl
                · have h := mz_ifn hc17 h
                  refine mz_Go.swc (fun hc20 => ?_) (fun hc20 => ?_)
                  · have h := mz_ifp hc20 h
                    refine mz_Go.run (gs := [mz_kz 0 0 9, mz_bo (1 : Int32)]) (st' := (223, [some (.inr (.inr (some (0, 9)))), some (.inr (.inr (some (g1, 100)))), some (.inl x2), some (.inr (.inr (some (g1, 119)))), some (.inl (D.1 g1 122 (x2).toNatClampNeg)), some (.inl (D.1 g1 123 (x2).toNatClampNeg))], [.inl (x2 + (1 : Int32))], (mz_wi D 0 9 6 (1 : Int32)))) bX3_comeTo_215 oX3_comeTo_215 rfl ⟨rfl, (by decide), trivial⟩ ?_
                    cases h
                    exact mz_Go.reti (by decide +kernel) rfl ⟨Nat.le_refl _, Nat.le_refl _⟩ rfl
                  · have h := mz_ifn hc20 h
                    refine mz_Go.swc (fun hc21 => ?_) (fun hc21 => ?_)
                    · have h := mz_ifp hc21 h
                      refine mz_Go.run (gs := [mz_kz 0 g1 119, mz_kz 0 g1 125, mz_ix x2 30]) (st' := (209, [some (.inr (.inr (some (0, 9)))), some (.inr (.inr (some (g1, 100)))), some (.inl x2), some (.inr (.inr (some (g1, 119)))), some (.inl (D.1 g1 122 (x2).toNatClampNeg)), some (.inl (D.1 g1 123 (x2).toNatClampNeg))], [.inl (D.1 g1 125 (x2).toNatClampNeg), .inl x2, .inr (.inr (some (0, 9)))], D)) bX3_comeTo_201 oX3_comeTo_201 rfl ⟨hg1, hg1, hb1, trivial⟩ ?_
                      obtain ⟨q22, hq22, h⟩ := mz_bd_some h
                      refine mz_Go.callV (I := IX3_comeTo) (J := IX3_enter) (as := [.inl x2, .inl (D.1 g1 125 (x2).toNatClampNeg)]) (ci := 3) (g := 0) (o := 9) (idx := 148) (pl := 1542) (rest := []) (mX3_enter x2 (D.1 g1 125 (x2).toNatClampNeg) D q22 hq22) kX3_enter vX3_enter (by decide +kernel) (by decide +kernel) (by decide +kernel) rfl rfl ⟨rfl, rfl⟩ rfl rfl rfl rfl ?_
                      refine mz_Go.run (gs := []) (st' := (223, [some (.inr (.inr (some (0, 9)))), some (.inr (.inr (some (g1, 100)))), some (.inl x2), some (.inr (.inr (some (g1, 119)))), some (.inl (D.1 g1 122 (x2).toNatClampNeg)), some (.inl (D.1 g1 123 (x2).toNatClampNeg))], [.inl (x2 + (1 : Int32))], q22)) bX3_comeTo_212 oX3_comeTo_212 rfl trivial ?_
                      cases h
                      exact mz_Go.reti (by decide +kernel) rfl ⟨Nat.le_refl _, Nat.le_refl _⟩ rfl
                    · have h := mz_ifn hc21 h
                      refine mz_Go.run (gs := [mz_kz 0 0 9, mz_bo (1 : Int32)]) (st' := (223, [some (.inr (.inr (some (0, 9)))), some (.inr (.inr (some (g1, 100)))), some (.inl x2), some (.inr (.inr (some (g1, 119)))), some (.inl (D.1 g1 122 (x2).toNatClampNeg)), some (.inl (D.1 g1 123 (x2).toNatClampNeg))], [.inl (x2 + (1 : Int32))], (mz_wi D 0 9 6 (1 : Int32)))) bX3_comeTo_215 oX3_comeTo_215 rfl ⟨rfl, (by decide), trivial⟩ ?_
                      cases h
                      exact mz_Go.reti (by decide +kernel) rfl ⟨Nat.le_refl _, Nat.le_refl _⟩ rfl
abbrev IJ7_fill_53178_12 : mz_I := (yJ7_fill_53178, cJ7_fill_53178, 4, none, 0, 0, 0, 0)
theorem kJ7_fill_53178_12 : mz_okm IJ7_fill_53178_12 262 133 261 2 = true := by decide +kernel
theorem vJ7_fill_53178_12 : mz_okS IJ7_fill_53178_12 261 = true := by decide +kernel
def fJ7_fill_53178_12_5 : Nat → Int32 → Int32 → Int32 → mz_D → Option mz_D
  | 0 => fun _ _ _ _ => none
  | n + 1 => fun x1 x2 x3 D => (if x3 ≤ x2 then (some D) else (mz_gd (mz_ix x2 6) ((fJ7_fill_53178_12_5 n) x1 (x2 + (1 : Int32)) x3 (mz_wi D 0 12 (x2).toNatClampNeg x1))))
set_option maxHeartbeats 4000000 in
theorem tJ7_fill_53178_12_5 (r : mz_D) : ∀ (n : Nat) (x1 : Int32) (x2 : Int32) (x3 : Int32) (D : mz_D), fJ7_fill_53178_12_5 n x1 x2 x3 D = some r → mz_Go IJ7_fill_53178_12 (none, r) 0 0 (5, [some (.inr (.inr (some (0, 12)))), some (.inl x1), some (.inl x2), some (.inl x3)], [], D) := by
  intro n
  induction n with
  | zero => intro x1 x2 x3 D h; have h : (none : Option mz_D) = some r := h; cases h
  | succ n ih =>
    intro x1 x2 x3 D h
    rw [fJ7_fill_53178_12_5] at h
    refine mz_Go.run (gs := []) (st' := (if x3 ≤ x2 then (20, [some (.inr (.inr (some (0, 12)))), some (.inl x1), some (.inl x2), some (.inl x3)], [], D) else (10, [some (.inr (.inr (some (0, 12)))), some (.inl x1), some (.inl x2), some (.inl x3)], [], D))) bJ7_fill_53178_5 oJ7_fill_53178_5 rfl trivial ?_
    refine mz_Go.ite (fun hc1 => ?_) (fun hc1 => ?_)
    · have h := mz_ifp hc1 h
      cases h
      exact mz_Go.retv (by decide +kernel) rfl ⟨Nat.le_refl _, Nat.le_refl _⟩ rfl
    · have h := mz_ifn hc1 h
      obtain ⟨hb2, h⟩ := mz_gd_some h
      refine mz_Go.run (gs := [mz_kz 0 0 12, mz_ix x2 6]) (st' := (5, [some (.inr (.inr (some (0, 12)))), some (.inl x1), some (.inl (x2 + (1 : Int32))), some (.inl x3)], [], (mz_wi D 0 12 (x2).toNatClampNeg x1))) bJ7_fill_53178_10 oJ7_fill_53178_10 rfl ⟨rfl, hb2, trivial⟩ ?_
      exact mz_Go.drop [true, true, true, true] (ih x1 (x2 + (1 : Int32)) x3 (mz_wi D 0 12 (x2).toNatClampNeg x1) h)
def fJ7_fill_53178_12 (x1 : Int32) (D : mz_D) : Option mz_D := (fJ7_fill_53178_12_5 mz_N x1 (0 : Int32) (Int32.ofNat 6) D)
set_option maxHeartbeats 4000000 in
theorem mJ7_fill_53178_12 (x1 : Int32) (D : mz_D) (r : mz_D) (h : fJ7_fill_53178_12 x1 D = some r) : mz_Met IJ7_fill_53178_12 [.inr (.inr (some (0, 12))), .inl x1] D (none, r) := by
  refine mz_Met.of (by decide +kernel) (Nat.le_of_ble_eq_true rfl) ?_
  show mz_Go IJ7_fill_53178_12 (none, r) 0 0 (0, [some (.inr (.inr (some (0, 12)))), some (.inl x1), none, none], [], D)
  rw [fJ7_fill_53178_12] at h
  refine mz_Go.run (gs := [mz_kz 0 0 12]) (st' := (5, [some (.inr (.inr (some (0, 12)))), some (.inl x1), some (.inl (0 : Int32)), some (.inl (Int32.ofNat 6))], [], D)) bJ7_fill_53178_0 oJ7_fill_53178_0 rfl ⟨rfl, trivial⟩ ?_
  exact mz_Go.drop [true, true, true, true] (tJ7_fill_53178_12_5 r mz_N x1 (0 : Int32) (Int32.ofNat 6) D h)
abbrev IX1_spread_12 : mz_I := (yX1_spread, cX1_spread, 7, none, 0, 1, 0, 0)
theorem kX1_spread_12 : mz_okm IX1_spread_12 1067 136 1066 3 = true := by decide +kernel
theorem vX1_spread_12 : mz_okS IX1_spread_12 1066 = true := by decide +kernel
def fX1_spread_12_58 (k23 : Int32 → Int32 → Int32 → Int32 → mz_D → Option mz_D) (x1 : Int32) (x4 : Int32) (x5 : Int32) (x6 : Int32) (s0 : Int32) (s1 : Int32) (s2 : Int32) (D : mz_D) : Option mz_D := (mz_gd (mz_ix s2 6) (k23 x1 x4 (x5 + (-1 : Int32)) (x6 + (1 : Int32)) (mz_wi D 0 12 (s2).toNatClampNeg (s1 + s0))))
set_option maxHeartbeats 4000000 in
theorem tX1_spread_12_58 (r : mz_D) (k23 : Int32 → Int32 → Int32 → Int32 → mz_D → Option mz_D) (hk23 : ∀ (x1 : Int32) (x4 : Int32) (x5 : Int32) (x6 : Int32) (D : mz_D), k23 x1 x4 x5 x6 D = some r → mz_Go IX1_spread_12 (none, r) 0 0 (23, [none, some (.inl x1), some (.inr (.inr (some (0, 12)))), none, some (.inl x4), some (.inl x5), some (.inl x6)], [], D)) : ∀ (x1 : Int32) (x4 : Int32) (x5 : Int32) (x6 : Int32) (s0 : Int32) (s1 : Int32) (s2 : Int32) (D : mz_D), fX1_spread_12_58 k23 x1 x4 x5 x6 s0 s1 s2 D = some r → mz_Go IX1_spread_12 (none, r) 0 0 (58, [none, some (.inl x1), some (.inr (.inr (some (0, 12)))), none, some (.inl x4), some (.inl x5), some (.inl x6)], [.inl s0, .inl s1, .inl s2, .inr (.inr (some (0, 12)))], D) := by
  intro x1 x4 x5 x6 s0 s1 s2 D h
  rw [fX1_spread_12_58] at h
  obtain ⟨hb1, h⟩ := mz_gd_some h
  refine mz_Go.run (gs := [mz_kz 0 0 12, mz_ix s2 6]) (st' := (23, [none, some (.inl x1), some (.inr (.inr (some (0, 12)))), none, some (.inl x4), some (.inl (x5 + (-1 : Int32))), some (.inl (x6 + (1 : Int32)))], [], (mz_wi D 0 12 (s2).toNatClampNeg (s1 + s0)))) bX1_spread_58 oX1_spread_58 rfl ⟨rfl, hb1, trivial⟩ ?_
  exact mz_Go.drop [false, true, true, false, true, true, true] (hk23 x1 x4 (x5 + (-1 : Int32)) (x6 + (1 : Int32)) (mz_wi D 0 12 (s2).toNatClampNeg (s1 + s0)) h)
def fX1_spread_12_23 : Nat → Int32 → Int32 → Int32 → Int32 → mz_D → Option mz_D
  | 0 => fun _ _ _ _ _ => none
  | n + 1 => fun x1 x4 x5 x6 D => (if (Int32.ofNat 6) ≤ x6 then (some D) else (if (fX11_isIn x1 x6) = 0 then ((fX1_spread_12_23 n) x1 x4 x5 (x6 + (1 : Int32)) D) else (mz_gd (mz_ix x6 6) (if x5 ≤ 0 then (fX1_spread_12_58 (fX1_spread_12_23 n) x1 x4 x5 x6 x4 (D.1 0 12 (x6).toNatClampNeg) x6 D) else (fX1_spread_12_58 (fX1_spread_12_23 n) x1 x4 x5 x6 (x4 + (1 : Int32)) (D.1 0 12 (x6).toNatClampNeg) x6 D)))))
set_option maxHeartbeats 4000000 in
theorem tX1_spread_12_23 (r : mz_D) : ∀ (n : Nat) (x1 : Int32) (x4 : Int32) (x5 : Int32) (x6 : Int32) (D : mz_D), fX1_spread_12_23 n x1 x4 x5 x6 D = some r → mz_Go IX1_spread_12 (none, r) 0 0 (23, [none, some (.inl x1), some (.inr (.inr (some (0, 12)))), none, some (.inl x4), some (.inl x5), some (.inl x6)], [], D) := by
  intro n
  induction n with
  | zero => intro x1 x4 x5 x6 D h; have h : (none : Option mz_D) = some r := h; cases h
  | succ n ih =>
    intro x1 x4 x5 x6 D h
    rw [fX1_spread_12_23] at h
    refine mz_Go.run (gs := [mz_kz 0 0 12]) (st' := (if (Int32.ofNat 6) ≤ x6 then (69, [none, some (.inl x1), some (.inr (.inr (some (0, 12)))), none, some (.inl x4), some (.inl x5), some (.inl x6)], [], D) else (30, [none, some (.inl x1), some (.inr (.inr (some (0, 12)))), none, some (.inl x4), some (.inl x5), some (.inl x6)], [], D))) bX1_spread_23 oX1_spread_23 rfl ⟨rfl, trivial⟩ ?_
    refine mz_Go.ite (fun hc1 => ?_) (fun hc1 => ?_)
    · have h := mz_ifp hc1 h
      cases h
      exact mz_Go.retv (by decide +kernel) rfl ⟨Nat.le_refl _, Nat.le_refl _⟩ rfl
    · have h := mz_ifn hc1 h
      refine mz_Go.run (gs := []) (st' := (33, [none, some (.inl x1), some (.inr (.inr (some (0, 12)))), none, some (.inl x4), some (.inl x5), some (.inl x6)], [.inl x6, .inl x1], D)) bX1_spread_30 oX1_spread_30 rfl trivial ?_
      refine mz_Go.callSN (I := IX1_spread_12) (J := IX11_isIn) (as := [.inl x1, .inl x6]) (idx := 70) (pl := 1069) (rest := []) (mX11_isIn x1 x6 D _ rfl) kX11_isIn vX11_isIn (by decide +kernel) (by decide +kernel) (by decide +kernel) rfl rfl ⟨rfl, rfl⟩ rfl ?_
      refine mz_Go.run (gs := []) (st' := (if (fX11_isIn x1 x6) = 0 then (63, [none, some (.inl x1), some (.inr (.inr (some (0, 12)))), none, some (.inl x4), some (.inl x5), some (.inl x6)], [], D) else (39, [none, some (.inl x1), some (.inr (.inr (some (0, 12)))), none, some (.inl x4), some (.inl x5), some (.inl x6)], [], D))) bX1_spread_36 oX1_spread_36 rfl trivial ?_
      refine mz_Go.ite (fun hc2 => ?_) (fun hc2 => ?_)
      · have h := mz_ifp hc2 h
        refine mz_Go.run (gs := []) (st' := (23, [none, some (.inl x1), some (.inr (.inr (some (0, 12)))), none, some (.inl x4), some (.inl x5), some (.inl (x6 + (1 : Int32)))], [], D)) bX1_spread_63 oX1_spread_63 rfl trivial ?_
        exact mz_Go.drop [false, true, true, false, true, true, true] (ih x1 x4 x5 (x6 + (1 : Int32)) D h)
      · have h := mz_ifn hc2 h
        obtain ⟨hb3, h⟩ := mz_gd_some h
        refine mz_Go.run (gs := [mz_kz 0 0 12, mz_ix x6 6]) (st' := (if x5 ≤ 0 then (56, [none, some (.inl x1), some (.inr (.inr (some (0, 12)))), none, some (.inl x4), some (.inl x5), some (.inl x6)], [.inl (D.1 0 12 (x6).toNatClampNeg), .inl x6, .inr (.inr (some (0, 12)))], D) else (49, [none, some (.inl x1), some (.inr (.inr (some (0, 12)))), none, some (.inl x4), some (.inl x5), some (.inl x6)], [.inl (D.1 0 12 (x6).toNatClampNeg), .inl x6, .inr (.inr (some (0, 12)))], D))) bX1_spread_39 oX1_spread_39 rfl ⟨rfl, hb3, trivial⟩ ?_
        refine mz_Go.ite (fun hc4 => ?_) (fun hc4 => ?_)
        · have h := mz_ifp hc4 h
          refine mz_Go.run (gs := []) (st' := (58, [none, some (.inl x1), some (.inr (.inr (some (0, 12)))), none, some (.inl x4), some (.inl x5), some (.inl x6)], [.inl x4, .inl (D.1 0 12 (x6).toNatClampNeg), .inl x6, .inr (.inr (some (0, 12)))], D)) bX1_spread_56 oX1_spread_56 rfl trivial ?_
          exact mz_Go.drop [false, true, true, false, true, true, true] (tX1_spread_12_58 r (fX1_spread_12_23 n) ih x1 x4 x5 x6 x4 (D.1 0 12 (x6).toNatClampNeg) x6 D h)
        · have h := mz_ifn hc4 h
          refine mz_Go.run (gs := []) (st' := (58, [none, some (.inl x1), some (.inr (.inr (some (0, 12)))), none, some (.inl x4), some (.inl x5), some (.inl x6)], [.inl (x4 + (1 : Int32)), .inl (D.1 0 12 (x6).toNatClampNeg), .inl x6, .inr (.inr (some (0, 12)))], D)) bX1_spread_49 oX1_spread_49 rfl trivial ?_
          exact mz_Go.drop [false, true, true, false, true, true, true] (tX1_spread_12_58 r (fX1_spread_12_23 n) ih x1 x4 x5 x6 (x4 + (1 : Int32)) (D.1 0 12 (x6).toNatClampNeg) x6 D h)
def fX1_spread_12 (x0 : Int32) (x1 : Int32) (D : mz_D) : Option mz_D := (if (fJ6_bitCount_0f7a4 x1) = 0 then (some D) else (mz_gd (mz_nz (fJ6_bitCount_0f7a4 x1)) (fX1_spread_12_23 mz_N x1 (x0 / (fJ6_bitCount_0f7a4 x1)) (x0 - x0 / (fJ6_bitCount_0f7a4 x1) * (fJ6_bitCount_0f7a4 x1)) (0 : Int32) D)))
set_option maxHeartbeats 4000000 in
theorem mX1_spread_12 (x0 : Int32) (x1 : Int32) (D : mz_D) (r : mz_D) (h : fX1_spread_12 x0 x1 D = some r) : mz_Met IX1_spread_12 [.inl x0, .inl x1, .inr (.inr (some (0, 12)))] D (none, r) := by
  refine mz_Met.of (by decide +kernel) (Nat.le_of_ble_eq_true rfl) ?_
  show mz_Go IX1_spread_12 (none, r) 0 0 (0, [some (.inl x0), some (.inl x1), some (.inr (.inr (some (0, 12)))), none, none, none, none], [], D)
  rw [fX1_spread_12] at h
  refine mz_Go.run (gs := []) (st' := (1, [some (.inl x0), some (.inl x1), some (.inr (.inr (some (0, 12)))), none, none, none, none], [.inl x1], D)) bX1_spread_0 oX1_spread_0 rfl trivial ?_
  refine mz_Go.callS (I := IX1_spread_12) (J := IJ6_bitCount_0f7a4) (as := [.inl x1]) (idx := 91) (pl := 1068) (rest := []) (mJ6_bitCount_0f7a4 x1 D _ rfl) kJ6_bitCount_0f7a4 vJ6_bitCount_0f7a4 (by decide +kernel) (by decide +kernel) (by decide +kernel) rfl rfl ⟨rfl, rfl⟩ rfl ?_
  refine mz_Go.run (gs := []) (st' := (if (fJ6_bitCount_0f7a4 x1) = 0 then (9, [some (.inl x0), some (.inl x1), some (.inr (.inr (some (0, 12)))), some (.inl (fJ6_bitCount_0f7a4 x1)), none, none, none], [], D) else (10, [some (.inl x0), some (.inl x1), some (.inr (.inr (some (0, 12)))), some (.inl (fJ6_bitCount_0f7a4 x1)), none, none, none], [], D))) bX1_spread_4 oX1_spread_4 rfl trivial ?_
  refine mz_Go.ite (fun hc1 => ?_) (fun hc1 => ?_)
  · have h := mz_ifp hc1 h
    cases h
    exact mz_Go.retv (by decide +kernel) rfl ⟨Nat.le_refl _, Nat.le_refl _⟩ rfl
  · have h := mz_ifn hc1 h
    obtain ⟨hb2, h⟩ := mz_gd_some h
    refine mz_Go.run (gs := [mz_nz (fJ6_bitCount_0f7a4 x1), mz_nz (fJ6_bitCount_0f7a4 x1)]) (st' := (23, [some (.inl x0), some (.inl x1), some (.inr (.inr (some (0, 12)))), some (.inl (fJ6_bitCount_0f7a4 x1)), some (.inl (x0 / (fJ6_bitCount_0f7a4 x1))), some (.inl (x0 - x0 / (fJ6_bitCount_0f7a4 x1) * (fJ6_bitCount_0f7a4 x1))), some (.inl (0 : Int32))], [], D)) bX1_spread_10 oX1_spread_10 rfl ⟨hb2, hb2, trivial⟩ ?_
    exact mz_Go.drop [false, true, true, false, true, true, true] (tX1_spread_12_23 r mz_N x1 (x0 / (fJ6_bitCount_0f7a4 x1)) (x0 - x0 / (fJ6_bitCount_0f7a4 x1) * (fJ6_bitCount_0f7a4 x1)) (0 : Int32) D h)
