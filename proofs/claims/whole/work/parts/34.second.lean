def bX1_lookForSets_0 : List mz_E := [(0, .aload_n 0, 0, 0, 0, 0, 0), (1, .iconst 0, 0, 0, 0, 0, 0), (2, .putfield 74, 1, 4, 361, 0, 0), (5, .aload_n 0, 0, 0, 0, 0, 0), (6, .iconst 0, 0, 0, 0, 0, 0), (7, .putfield 77, 1, 5, 363, 0, 0), (10, .aload_n 0, 0, 0, 0, 0, 0), (11, .iconst 0, 0, 0, 0, 0, 0), (12, .putfield 80, 1, 6, 365, 0, 0), (15, .aload_n 0, 0, 0, 0, 0, 0), (16, .getfield 18, 1, 7, 367, 0, 0), (19, .aload_n 0, 0, 0, 0, 0, 0), (20, .getfield 21, 1, 0, 350, 0, 0), (23, .iconst 0, 0, 0, 0, 0, 0), (24, .iastore, 0, 0, 0, 0, 0), (25, .aload_n 0, 0, 0, 0, 0, 0), (26, .getfield 21, 1, 0, 350, 0, 0), (29, .iconst 1, 0, 0, 0, 1, 0), (30, .isub, 0, 0, 0, 0, 0), (31, .istore_n 2, 0, 0, 0, 0, 0)]
theorem oX1_lookForSets_0 : bX1_lookForSets_0.all (mz_ok RX1 cX1_lookForSets 3) = true := by decide +kernel
def bX1_lookForSets_32 : List mz_E := [(32, .iload_n 2, 0, 0, 0, 0, 0), (33, .ifCond .lt 30, 0, 63, 0, 0, 0)]
theorem oX1_lookForSets_32 : bX1_lookForSets_32.all (mz_ok RX1 cX1_lookForSets 3) = true := by decide +kernel
def bX1_lookForSets_63 : List mz_E := [(63, .aload_n 0, 0, 0, 0, 0, 0), (64, .iconst 0, 0, 0, 0, 0, 0), (65, .iload_n 1, 0, 0, 0, 0, 0), (66, .iconst 0, 0, 0, 0, 0, 0)]
theorem oX1_lookForSets_63 : bX1_lookForSets_63.all (mz_ok RX1 cX1_lookForSets 3) = true := by decide +kernel
def bX1_lookForSets_36 : List mz_E := [(36, .aload_n 0, 0, 0, 0, 0, 0), (37, .getfield 18, 1, 7, 367, 0, 0), (40, .iload_n 2, 0, 0, 0, 0, 0), (41, .aload_n 0, 0, 0, 0, 0, 0), (42, .getfield 18, 1, 7, 367, 0, 0), (45, .iload_n 2, 0, 0, 0, 0, 0), (46, .iconst 1, 0, 0, 0, 1, 0), (47, .iadd, 0, 0, 0, 0, 0), (48, .iaload, 0, 0, 0, 0, 0), (49, .aload_n 0, 0, 0, 0, 0, 0), (50, .getfield 9, 1, 2, 357, 0, 0), (53, .iload_n 2, 0, 0, 0, 0, 0), (54, .iaload, 0, 0, 0, 0, 0), (55, .iadd, 0, 0, 0, 0, 0), (56, .iastore, 0, 0, 0, 0, 0), (57, .iinc 2 (-1), 0, 0, 0, -1, 0), (60, .goto (-28), 0, 32, 0, 0, 0)]
theorem oX1_lookForSets_36 : bX1_lookForSets_36.all (mz_ok RX1 cX1_lookForSets 3) = true := by decide +kernel
abbrev IX1_lookForSets : mz_I := (yX1_lookForSets, cX1_lookForSets, 3, none, 0, 21, 0, 0)
theorem kX1_lookForSets : mz_okm IX1_lookForSets 1152 136 1150 1 = true := by decide +kernel
theorem vX1_lookForSets : mz_okV IX1_lookForSets 1150 1151 = true := by decide +kernel
def fX1_lookForSets_32 (g0 : Nat) : Nat → Int32 → Int32 → mz_D → Option mz_D
  | 0 => fun _ _ _ => none
  | n + 1 => fun x1 x2 D => (if x2 < 0 then (Option.bind (fX1_search g0 (0 : Int32) x1 (0 : Int32) D) fun q2 => (some q2)) else (mz_gd (mz_ix (x2 + (1 : Int32)) 17) (mz_gd (mz_ix x2 16) (mz_gd (mz_ix x2 17) ((fX1_lookForSets_32 g0 n) x1 (x2 + (-1 : Int32)) (mz_wi D g0 112 (x2).toNatClampNeg ((D.1 g0 112 ((x2 + (1 : Int32))).toNatClampNeg) + (D.1 g0 110 (x2).toNatClampNeg))))))))
set_option maxHeartbeats 4000000 in
theorem tX1_lookForSets_32 (g0 : Nat) (hg0 : mz_tb g0 = true) (r : mz_D) : ∀ (n : Nat) (x1 : Int32) (x2 : Int32) (D : mz_D), fX1_lookForSets_32 g0 n x1 x2 D = some r → mz_Go IX1_lookForSets (none, r) 0 0 (32, [some (.inr (.inr (some (g0, 109)))), some (.inl x1), some (.inl x2)], [], D) := by
  intro n
  induction n with
  | zero => intro x1 x2 D h; have h : (none : Option mz_D) = some r := h; cases h
  | succ n ih =>
    intro x1 x2 D h
    rw [fX1_lookForSets_32] at h
    refine mz_Go.run (gs := []) (st' := (if x2 < 0 then (63, [some (.inr (.inr (some (g0, 109)))), some (.inl x1), some (.inl x2)], [], D) else (36, [some (.inr (.inr (some (g0, 109)))), some (.inl x1), some (.inl x2)], [], D))) bX1_lookForSets_32 oX1_lookForSets_32 rfl trivial ?_
    refine mz_Go.ite (fun hc1 => ?_) (fun hc1 => ?_)
    · have h := mz_ifp hc1 h
      refine mz_Go.run (gs := []) (st' := (67, [some (.inr (.inr (some (g0, 109)))), some (.inl x1), some (.inl x2)], [.inl (0 : Int32), .inl x1, .inl (0 : Int32), .inr (.inr (some (g0, 109)))], D)) bX1_lookForSets_63 oX1_lookForSets_63 rfl trivial ?_
      obtain ⟨q2, hq2, h⟩ := mz_bd_some h
      refine mz_Go.callS (I := IX1_lookForSets) (J := IX1_search) (as := [.inr (.inr (some (g0, 109))), .inl (0 : Int32), .inl x1, .inl (0 : Int32)]) (idx := 83) (pl := 1153) (rest := []) (mX1_search g0 (0 : Int32) x1 (0 : Int32) D hg0 q2 hq2) kX1_search vX1_search (by decide +kernel) (by decide +kernel) (by decide +kernel) rfl rfl ⟨rfl, rfl⟩ rfl ?_
      cases h
      exact mz_Go.retv (by decide +kernel) rfl ⟨Nat.le_refl _, Nat.le_refl _⟩ rfl
    · have h := mz_ifn hc1 h
      obtain ⟨hb3, h⟩ := mz_gd_some h
      obtain ⟨hb4, h⟩ := mz_gd_some h
      obtain ⟨hb5, h⟩ := mz_gd_some h
      refine mz_Go.run (gs := [mz_kz 0 g0 109, mz_kz 0 g0 109, mz_kz 0 g0 112, mz_ix (x2 + (1 : Int32)) 17, mz_kz 0 g0 109, mz_kz 0 g0 110, mz_ix x2 16, mz_kz 0 g0 112, mz_ix x2 17]) (st' := (32, [some (.inr (.inr (some (g0, 109)))), some (.inl x1), some (.inl (x2 + (-1 : Int32)))], [], (mz_wi D g0 112 (x2).toNatClampNeg ((D.1 g0 112 ((x2 + (1 : Int32))).toNatClampNeg) + (D.1 g0 110 (x2).toNatClampNeg))))) bX1_lookForSets_36 oX1_lookForSets_36 rfl ⟨hg0, hg0, hg0, hb3, hg0, hg0, hb4, hg0, hb5, trivial⟩ ?_
      exact mz_Go.drop [true, true, true] (ih x1 (x2 + (-1 : Int32)) (mz_wi D g0 112 (x2).toNatClampNeg ((D.1 g0 112 ((x2 + (1 : Int32))).toNatClampNeg) + (D.1 g0 110 (x2).toNatClampNeg))) h)
def fX1_lookForSets (g0 : Nat) (x1 : Int32) (D : mz_D) : Option mz_D := (mz_gd (mz_ix ((mz_wi (mz_wi (mz_wi D g0 109 4 (0 : Int32)) g0 109 5 (0 : Int32)) g0 109 6 (0 : Int32)).1 g0 109 0) 17) (fX1_lookForSets_32 g0 mz_N x1 (((mz_wi (mz_wi (mz_wi D g0 109 4 (0 : Int32)) g0 109 5 (0 : Int32)) g0 109 6 (0 : Int32)).1 g0 109 0) - (1 : Int32)) (mz_wi (mz_wi (mz_wi (mz_wi D g0 109 4 (0 : Int32)) g0 109 5 (0 : Int32)) g0 109 6 (0 : Int32)) g0 112 (((mz_wi (mz_wi (mz_wi D g0 109 4 (0 : Int32)) g0 109 5 (0 : Int32)) g0 109 6 (0 : Int32)).1 g0 109 0)).toNatClampNeg (0 : Int32))))
set_option maxHeartbeats 4000000 in
theorem mX1_lookForSets (g0 : Nat) (x1 : Int32) (D : mz_D) (hg0 : mz_tb g0 = true) (r : mz_D) (h : fX1_lookForSets g0 x1 D = some r) : mz_Met IX1_lookForSets [.inr (.inr (some (g0, 109))), .inl x1] D (none, r) := by
  refine mz_Met.of (by decide +kernel) (Nat.le_of_ble_eq_true rfl) ?_
  show mz_Go IX1_lookForSets (none, r) 0 0 (0, [some (.inr (.inr (some (g0, 109)))), some (.inl x1), none], [], D)
  rw [fX1_lookForSets] at h
  obtain ⟨hb1, h⟩ := mz_gd_some h
  refine mz_Go.run (gs := [mz_kz 0 g0 109, mz_kz 0 g0 109, mz_kz 0 g0 109, mz_kz 0 g0 109, mz_kz 0 g0 109, mz_kz 0 g0 112, mz_ix ((mz_wi (mz_wi (mz_wi D g0 109 4 (0 : Int32)) g0 109 5 (0 : Int32)) g0 109 6 (0 : Int32)).1 g0 109 0) 17, mz_kz 0 g0 109]) (st' := (32, [some (.inr (.inr (some (g0, 109)))), some (.inl x1), some (.inl (((mz_wi (mz_wi (mz_wi D g0 109 4 (0 : Int32)) g0 109 5 (0 : Int32)) g0 109 6 (0 : Int32)).1 g0 109 0) - (1 : Int32)))], [], (mz_wi (mz_wi (mz_wi (mz_wi D g0 109 4 (0 : Int32)) g0 109 5 (0 : Int32)) g0 109 6 (0 : Int32)) g0 112 (((mz_wi (mz_wi (mz_wi D g0 109 4 (0 : Int32)) g0 109 5 (0 : Int32)) g0 109 6 (0 : Int32)).1 g0 109 0)).toNatClampNeg (0 : Int32)))) bX1_lookForSets_0 oX1_lookForSets_0 rfl ⟨hg0, hg0, hg0, hg0, hg0, hg0, hb1, hg0, trivial⟩ ?_
  exact mz_Go.drop [true, true, true] (tX1_lookForSets_32 g0 hg0 r mz_N x1 (((mz_wi (mz_wi (mz_wi D g0 109 4 (0 : Int32)) g0 109 5 (0 : Int32)) g0 109 6 (0 : Int32)).1 g0 109 0) - (1 : Int32)) (mz_wi (mz_wi (mz_wi (mz_wi D g0 109 4 (0 : Int32)) g0 109 5 (0 : Int32)) g0 109 6 (0 : Int32)) g0 112 (((mz_wi (mz_wi (mz_wi D g0 109 4 (0 : Int32)) g0 109 5 (0 : Int32)) g0 109 6 (0 : Int32)).1 g0 109 0)).toNatClampNeg (0 : Int32)) h)
def bX11_second_0 : List mz_E := [(0, .iload_n 1, 0, 0, 0, 0, 0), (1, .iconst 1, 0, 0, 0, 1, 0), (2, .if_icmp .lt 19, 0, 21, 0, 0, 0)]
theorem oX11_second_0 : bX11_second_0.all (mz_ok RX11 cX11_second 4) = true := by decide +kernel
def bX11_second_21 : List mz_E := [(21, .aload_n 0, 0, 0, 0, 0, 0), (22, .iconst 1, 0, 0, 0, 1, 0)]
theorem oX11_second_21 : bX11_second_21.all (mz_ok RX11 cX11_second 4) = true := by decide +kernel
def bX11_second_5 : List mz_E := [(5, .iload_n 1, 0, 0, 0, 0, 0), (6, .sipush 9999, 0, 0, 0, 9999, 0), (9, .if_icmp .gt 12, 0, 21, 0, 0, 0)]
theorem oX11_second_5 : bX11_second_5.all (mz_ok RX11 cX11_second 4) = true := by decide +kernel
def bX11_second_12 : List mz_E := [(12, .iload_n 2, 0, 0, 0, 0, 0), (13, .ifCond .lt 8, 0, 21, 0, 0, 0)]
theorem oX11_second_12 : bX11_second_12.all (mz_ok RX11 cX11_second 4) = true := by decide +kernel
def bX11_second_16 : List mz_E := [(16, .iload_n 2, 0, 0, 0, 0, 0), (17, .iconst 2, 0, 0, 0, 2, 0), (18, .if_icmp .le 9, 0, 27, 0, 0, 0)]
theorem oX11_second_16 : bX11_second_16.all (mz_ok RX11 cX11_second 4) = true := by decide +kernel
def bX11_second_27 : List mz_E := [(27, .aload_n 0, 0, 0, 0, 0, 0), (28, .getfield 32, 11, 4, 563, 0, 0), (31, .getfield 183, 6, 1, 481, 0, 0), (34, .astore_n 3, 0, 0, 0, 0, 0), (35, .aload_n 3, 0, 0, 0, 0, 0), (36, .iload_n 1, 0, 0, 0, 0, 0)]
theorem oX11_second_27 : bX11_second_27.all (mz_ok RX11 cX11_second 4) = true := by decide +kernel
def bX11_second_40 : List mz_E := [(40, .aload_n 3, 0, 0, 0, 0, 0), (41, .getfield 288, 1, 4, 362, 0, 0), (44, .ifCond .ne 10, 0, 54, 0, 0, 0)]
theorem oX11_second_40 : bX11_second_40.all (mz_ok RX11 cX11_second 4) = true := by decide +kernel
def bX11_second_47 : List mz_E := [(47, .aload_n 0, 0, 0, 0, 0, 0), (48, .bipush 6, 0, 0, 0, 6, 0)]
theorem oX11_second_47 : bX11_second_47.all (mz_ok RX11 cX11_second 4) = true := by decide +kernel
def bX11_second_54 : List mz_E := [(54, .iload_n 2, 0, 0, 0, 0, 0), (55, .ifCond .ne 12, 0, 67, 0, 0, 0)]
theorem oX11_second_54 : bX11_second_54.all (mz_ok RX11 cX11_second 4) = true := by decide +kernel
def bX11_second_58 : List mz_E := [(58, .aload_n 0, 0, 0, 0, 0, 0), (59, .aload_n 3, 0, 0, 0, 0, 0), (60, .getfield 291, 1, 5, 364, 0, 0)]
theorem oX11_second_58 : bX11_second_58.all (mz_ok RX11 cX11_second 4) = true := by decide +kernel
def bX11_second_67 : List mz_E := [(67, .aload_n 0, 0, 0, 0, 0, 0), (68, .iload_n 2, 0, 0, 0, 0, 0), (69, .iconst 1, 0, 0, 0, 1, 0), (70, .if_icmp .ne 10, 0, 80, 0, 0, 0)]
theorem oX11_second_67 : bX11_second_67.all (mz_ok RX11 cX11_second 4) = true := by decide +kernel
def bX11_second_73 : List mz_E := [(73, .aload_n 3, 0, 0, 0, 0, 0), (74, .getfield 288, 1, 4, 362, 0, 0), (77, .goto 7, 0, 84, 0, 0, 0)]
theorem oX11_second_73 : bX11_second_73.all (mz_ok RX11 cX11_second 4) = true := by decide +kernel
def bX11_second_80 : List mz_E := [(80, .aload_n 3, 0, 0, 0, 0, 0), (81, .getfield 294, 1, 6, 366, 0, 0)]
theorem oX11_second_80 : bX11_second_80.all (mz_ok RX11 cX11_second 4) = true := by decide +kernel
abbrev IX11_second : mz_I := (yX11_second, cX11_second, 4, (some .int), 0, 22, 0, 0)
theorem kX11_second : mz_okm IX11_second 1148 126 1146 2 = true := by decide +kernel
theorem vX11_second : mz_okV IX11_second 1146 1147 = true := by decide +kernel
def fX11_second (x1 : Int32) (x2 : Int32) (D : mz_D) : Option (Int32 × mz_D) := (if x1 < (1 : Int32) then (some ((-1 : Int32), (mz_wi D 0 0 13 (1 : Int32)))) else (if (9999 : Int32) < x1 then (some ((-1 : Int32), (mz_wi D 0 0 13 (1 : Int32)))) else (if x2 < 0 then (some ((-1 : Int32), (mz_wi D 0 0 13 (1 : Int32)))) else (if x2 ≤ (2 : Int32) then (Option.bind (fX1_lookForSets 1 x1 D) fun q5 => (if (q5.1 1 109 4) = 0 then (some ((-1 : Int32), (mz_wi q5 0 0 13 (6 : Int32)))) else (if x2 = 0 then (some ((q5.1 1 109 5), (mz_wi q5 0 0 13 (0 : Int32)))) else (if x2 = (1 : Int32) then (some ((q5.1 1 109 4), (mz_wi q5 0 0 13 (0 : Int32)))) else (some ((q5.1 1 109 6), (mz_wi q5 0 0 13 (0 : Int32)))))))) else (some ((-1 : Int32), (mz_wi D 0 0 13 (1 : Int32))))))))
set_option maxHeartbeats 4000000 in
theorem mX11_second (x1 : Int32) (x2 : Int32) (D : mz_D) (r : (Int32 × mz_D)) (h : fX11_second x1 x2 D = some r) : mz_Met IX11_second [.inr (.inr (some (0, 0))), .inl x1, .inl x2] D (some (.inl r.1), r.2) := by
  refine mz_Met.of (by decide +kernel) (Nat.le_of_ble_eq_true rfl) ?_
  show mz_Go IX11_second (some (.inl r.1), r.2) 0 0 (0, [some (.inr (.inr (some (0, 0)))), some (.inl x1), some (.inl x2), none], [], D)
  rw [fX11_second] at h
  refine mz_Go.run (gs := []) (st' := (if x1 < (1 : Int32) then (21, [some (.inr (.inr (some (0, 0)))), some (.inl x1), some (.inl x2), none], [], D) else (5, [some (.inr (.inr (some (0, 0)))), some (.inl x1), some (.inl x2), none], [], D))) bX11_second_0 oX11_second_0 rfl trivial ?_
  refine mz_Go.ite (fun hc1 => ?_) (fun hc1 => ?_)
  · have h := mz_ifp hc1 h
    refine mz_Go.run (gs := []) (st' := (23, [some (.inr (.inr (some (0, 0)))), some (.inl x1), some (.inl x2), none], [.inl (1 : Int32), .inr (.inr (some (0, 0)))], D)) bX11_second_21 oX11_second_21 rfl trivial ?_
    refine mz_Go.callV (I := IX11_second) (J := IX11_refuse) (as := [.inl (1 : Int32)]) (ci := 11) (g := 0) (o := 0) (idx := 100) (pl := 673) (rest := []) (mX11_refuse (1 : Int32) D) kX11_refuse vX11_refuse (by decide +kernel) (by decide +kernel) (by decide +kernel) rfl rfl ⟨rfl, rfl⟩ rfl rfl rfl rfl ?_
    cases h
    exact mz_Go.reti (by decide +kernel) rfl ⟨Nat.le_refl _, Nat.le_refl _⟩ rfl
  · have h := mz_ifn hc1 h
    refine mz_Go.run (gs := []) (st' := (if (9999 : Int32) < x1 then (21, [some (.inr (.inr (some (0, 0)))), some (.inl x1), some (.inl x2), none], [], D) else (12, [some (.inr (.inr (some (0, 0)))), some (.inl x1), some (.inl x2), none], [], D))) bX11_second_5 oX11_second_5 rfl trivial ?_
    refine mz_Go.ite (fun hc2 => ?_) (fun hc2 => ?_)
    · have h := mz_ifp hc2 h
      refine mz_Go.run (gs := []) (st' := (23, [some (.inr (.inr (some (0, 0)))), some (.inl x1), some (.inl x2), none], [.inl (1 : Int32), .inr (.inr (some (0, 0)))], D)) bX11_second_21 oX11_second_21 rfl trivial ?_
      refine mz_Go.callV (I := IX11_second) (J := IX11_refuse) (as := [.inl (1 : Int32)]) (ci := 11) (g := 0) (o := 0) (idx := 100) (pl := 673) (rest := []) (mX11_refuse (1 : Int32) D) kX11_refuse vX11_refuse (by decide +kernel) (by decide +kernel) (by decide +kernel) rfl rfl ⟨rfl, rfl⟩ rfl rfl rfl rfl ?_
      cases h
      exact mz_Go.reti (by decide +kernel) rfl ⟨Nat.le_refl _, Nat.le_refl _⟩ rfl
    · have h := mz_ifn hc2 h
      refine mz_Go.run (gs := []) (st' := (if x2 < 0 then (21, [some (.inr (.inr (some (0, 0)))), some (.inl x1), some (.inl x2), none], [], D) else (16, [some (.inr (.inr (some (0, 0)))), some (.inl x1), some (.inl x2), none], [], D))) bX11_second_12 oX11_second_12 rfl trivial ?_
      refine mz_Go.ite (fun hc3 => ?_) (fun hc3 => ?_)
      · have h := mz_ifp hc3 h
        refine mz_Go.run (gs := []) (st' := (23, [some (.inr (.inr (some (0, 0)))), some (.inl x1), some (.inl x2), none], [.inl (1 : Int32), .inr (.inr (some (0, 0)))], D)) bX11_second_21 oX11_second_21 rfl trivial ?_
        refine mz_Go.callV (I := IX11_second) (J := IX11_refuse) (as := [.inl (1 : Int32)]) (ci := 11) (g := 0) (o := 0) (idx := 100) (pl := 673) (rest := []) (mX11_refuse (1 : Int32) D) kX11_refuse vX11_refuse (by decide +kernel) (by decide +kernel) (by decide +kernel) rfl rfl ⟨rfl, rfl⟩ rfl rfl rfl rfl ?_
        cases h
        exact mz_Go.reti (by decide +kernel) rfl ⟨Nat.le_refl _, Nat.le_refl _⟩ rfl
      · have h := mz_ifn hc3 h
        refine mz_Go.run (gs := []) (st' := (if x2 ≤ (2 : Int32) then (27, [some (.inr (.inr (some (0, 0)))), some (.inl x1), some (.inl x2), none], [], D) else (21, [some (.inr (.inr (some (0, 0)))), some (.inl x1), some (.inl x2), none], [], D))) bX11_second_16 oX11_second_16 rfl trivial ?_
        refine mz_Go.ite (fun hc4 => ?_) (fun hc4 => ?_)
        · have h := mz_ifp hc4 h
          refine mz_Go.run (gs := [mz_kz 0 0 0, mz_kz 0 1 100]) (st' := (37, [some (.inr (.inr (some (0, 0)))), some (.inl x1), some (.inl x2), some (.inr (.inr (some (1, 109))))], [.inl x1, .inr (.inr (some (1, 109)))], D)) bX11_second_27 oX11_second_27 rfl ⟨rfl, rfl, trivial⟩ ?_
          obtain ⟨q5, hq5, h⟩ := mz_bd_some h
          refine mz_Go.callV (I := IX11_second) (J := IX1_lookForSets) (as := [.inl x1]) (ci := 1) (g := 1) (o := 109) (idx := 285) (pl := 1149) (rest := []) (mX1_lookForSets 1 x1 D rfl q5 hq5) kX1_lookForSets vX1_lookForSets (by decide +kernel) (by decide +kernel) (by decide +kernel) rfl rfl ⟨rfl, rfl⟩ rfl rfl rfl rfl ?_
          refine mz_Go.run (gs := [mz_kz 0 1 109]) (st' := (if (q5.1 1 109 4) = 0 then (47, [some (.inr (.inr (some (0, 0)))), some (.inl x1), some (.inl x2), some (.inr (.inr (some (1, 109))))], [], q5) else (54, [some (.inr (.inr (some (0, 0)))), some (.inl x1), some (.inl x2), some (.inr (.inr (some (1, 109))))], [], q5))) bX11_second_40 oX11_second_40 rfl ⟨rfl, trivial⟩ ?_
          refine mz_Go.ite (fun hc6 => ?_) (fun hc6 => ?_)
          · have h := mz_ifp hc6 h
            refine mz_Go.run (gs := []) (st' := (50, [some (.inr (.inr (some (0, 0)))), some (.inl x1), some (.inl x2), some (.inr (.inr (some (1, 109))))], [.inl (6 : Int32), .inr (.inr (some (0, 0)))], q5)) bX11_second_47 oX11_second_47 rfl trivial ?_
            refine mz_Go.callV (I := IX11_second) (J := IX11_refuse) (as := [.inl (6 : Int32)]) (ci := 11) (g := 0) (o := 0) (idx := 100) (pl := 673) (rest := []) (mX11_refuse (6 : Int32) q5) kX11_refuse vX11_refuse (by decide +kernel) (by decide +kernel) (by decide +kernel) rfl rfl ⟨rfl, rfl⟩ rfl rfl rfl rfl ?_
            cases h
            exact mz_Go.reti (by decide +kernel) rfl ⟨Nat.le_refl _, Nat.le_refl _⟩ rfl
          · have h := mz_ifn hc6 h
            refine mz_Go.run (gs := []) (st' := (if x2 = 0 then (58, [some (.inr (.inr (some (0, 0)))), some (.inl x1), some (.inl x2), some (.inr (.inr (some (1, 109))))], [], q5) else (67, [some (.inr (.inr (some (0, 0)))), some (.inl x1), some (.inl x2), some (.inr (.inr (some (1, 109))))], [], q5))) bX11_second_54 oX11_second_54 rfl trivial ?_
            refine mz_Go.ite (fun hc7 => ?_) (fun hc7 => ?_)
            · have h := mz_ifp hc7 h
              refine mz_Go.run (gs := [mz_kz 0 1 109]) (st' := (63, [some (.inr (.inr (some (0, 0)))), some (.inl x1), some (.inl x2), some (.inr (.inr (some (1, 109))))], [.inl (q5.1 1 109 5), .inr (.inr (some (0, 0)))], q5)) bX11_second_58 oX11_second_58 rfl ⟨rfl, trivial⟩ ?_
              refine mz_Go.callV (I := IX11_second) (J := IX11_answer) (as := [.inl (q5.1 1 109 5)]) (ci := 11) (g := 0) (o := 0) (idx := 160) (pl := 914) (rest := []) (mX11_answer (q5.1 1 109 5) q5) kX11_answer vX11_answer (by decide +kernel) (by decide +kernel) (by decide +kernel) rfl rfl ⟨rfl, rfl⟩ rfl rfl rfl rfl ?_
              cases h
              exact mz_Go.reti (by decide +kernel) rfl ⟨Nat.le_refl _, Nat.le_refl _⟩ rfl
            · have h := mz_ifn hc7 h
              refine mz_Go.run (gs := []) (st' := (if x2 = (1 : Int32) then (73, [some (.inr (.inr (some (0, 0)))), some (.inl x1), some (.inl x2), some (.inr (.inr (some (1, 109))))], [.inr (.inr (some (0, 0)))], q5) else (80, [some (.inr (.inr (some (0, 0)))), some (.inl x1), some (.inl x2), some (.inr (.inr (some (1, 109))))], [.inr (.inr (some (0, 0)))], q5))) bX11_second_67 oX11_second_67 rfl trivial ?_
              refine mz_Go.ite (fun hc8 => ?_) (fun hc8 => ?_)
              · have h := mz_ifp hc8 h
                refine mz_Go.run (gs := [mz_kz 0 1 109]) (st' := (84, [some (.inr (.inr (some (0, 0)))), some (.inl x1), some (.inl x2), some (.inr (.inr (some (1, 109))))], [.inl (q5.1 1 109 4), .inr (.inr (some (0, 0)))], q5)) bX11_second_73 oX11_second_73 rfl ⟨rfl, trivial⟩ ?_
                refine mz_Go.callV (I := IX11_second) (J := IX11_answer) (as := [.inl (q5.1 1 109 4)]) (ci := 11) (g := 0) (o := 0) (idx := 160) (pl := 914) (rest := []) (mX11_answer (q5.1 1 109 4) q5) kX11_answer vX11_answer (by decide +kernel) (by decide +kernel) (by decide +kernel) rfl rfl ⟨rfl, rfl⟩ rfl rfl rfl rfl ?_
                cases h
                exact mz_Go.reti (by decide +kernel) rfl ⟨Nat.le_refl _, Nat.le_refl _⟩ rfl
              · have h := mz_ifn hc8 h
                refine mz_Go.run (gs := [mz_kz 0 1 109]) (st' := (84, [some (.inr (.inr (some (0, 0)))), some (.inl x1), some (.inl x2), some (.inr (.inr (some (1, 109))))], [.inl (q5.1 1 109 6), .inr (.inr (some (0, 0)))], q5)) bX11_second_80 oX11_second_80 rfl ⟨rfl, trivial⟩ ?_
                refine mz_Go.callV (I := IX11_second) (J := IX11_answer) (as := [.inl (q5.1 1 109 6)]) (ci := 11) (g := 0) (o := 0) (idx := 160) (pl := 914) (rest := []) (mX11_answer (q5.1 1 109 6) q5) kX11_answer vX11_answer (by decide +kernel) (by decide +kernel) (by decide +kernel) rfl rfl ⟨rfl, rfl⟩ rfl rfl rfl rfl ?_
                cases h
                exact mz_Go.reti (by decide +kernel) rfl ⟨Nat.le_refl _, Nat.le_refl _⟩ rfl
        · have h := mz_ifn hc4 h
          refine mz_Go.run (gs := []) (st' := (23, [some (.inr (.inr (some (0, 0)))), some (.inl x1), some (.inl x2), none], [.inl (1 : Int32), .inr (.inr (some (0, 0)))], D)) bX11_second_21 oX11_second_21 rfl trivial ?_
          refine mz_Go.callV (I := IX11_second) (J := IX11_refuse) (as := [.inl (1 : Int32)]) (ci := 11) (g := 0) (o := 0) (idx := 100) (pl := 673) (rest := []) (mX11_refuse (1 : Int32) D) kX11_refuse vX11_refuse (by decide +kernel) (by decide +kernel) (by decide +kernel) rfl rfl ⟨rfl, rfl⟩ rfl rfl rfl rfl ?_
          cases h
          exact mz_Go.reti (by decide +kernel) rfl ⟨Nat.le_refl _, Nat.le_refl _⟩ rfl
