def bX7_takesCouple_0 : List mz_E := [(0, .aload_n 0, 0, 0, 0, 0, 0), (1, .getfield 15, 7, 1, 760, 0, 0), (4, .getfield 60, 6, 0, 476, 0, 0), (7, .astore_n 1, 0, 0, 0, 0, 0), (8, .aload_n 1, 0, 0, 0, 0, 0), (9, .getfield 122, 4, 1, 294, 0, 0), (12, .iconst 3, 0, 0, 0, 3, 0), (13, .if_icmp .lt 13, 0, 26, 0, 0, 0)]
theorem oX7_takesCouple_0 : bX7_takesCouple_0.all (mz_ok RX7 cX7_takesCouple 4) = true := by decide +kernel
def bX7_takesCouple_26 : List mz_E := [(26, .aload_n 0, 0, 0, 0, 0, 0), (27, .getfield 9, 7, 0, 759, 0, 0)]
theorem oX7_takesCouple_26 : bX7_takesCouple_26.all (mz_ok RX7 cX7_takesCouple 4) = true := by decide +kernel
def bX7_takesCouple_33 : List mz_E := [(33, .aload_n 0, 0, 0, 0, 0, 0), (34, .getfield 9, 7, 0, 759, 0, 0), (37, .aload_n 1, 0, 0, 0, 0, 0)]
theorem oX7_takesCouple_33 : bX7_takesCouple_33.all (mz_ok RX7 cX7_takesCouple 4) = true := by decide +kernel
def bX7_takesCouple_41 : List mz_E := [(41, .istore_n 2, 0, 0, 0, 0, 0), (42, .iload_n 2, 0, 0, 0, 0, 0), (43, .iconst (-1), 0, 0, 0, -1, 0), (44, .if_icmp .ne 5, 0, 49, 0, 0, 0)]
theorem oX7_takesCouple_41 : bX7_takesCouple_41.all (mz_ok RX7 cX7_takesCouple 4) = true := by decide +kernel
def bX7_takesCouple_47 : List mz_E := [(47, .iconst 0, 0, 0, 0, 0, 0)]
theorem oX7_takesCouple_47 : bX7_takesCouple_47.all (mz_ok RX7 cX7_takesCouple 4) = true := by decide +kernel
def bX7_takesCouple_49 : List mz_E := [(49, .aload_n 1, 0, 0, 0, 0, 0), (50, .getfield 129, 4, 8, 318, 0, 0), (53, .iload_n 2, 0, 0, 0, 0, 0), (54, .iaload, 0, 0, 0, 0, 0), (55, .iconst (-1), 0, 0, 0, -1, 0), (56, .if_icmp .eq 12, 0, 68, 0, 0, 0)]
theorem oX7_takesCouple_49 : bX7_takesCouple_49.all (mz_ok RX7 cX7_takesCouple 4) = true := by decide +kernel
def bX7_takesCouple_68 : List mz_E := [(68, .aload_n 0, 0, 0, 0, 0, 0), (69, .getfield 9, 7, 0, 759, 0, 0)]
theorem oX7_takesCouple_68 : bX7_takesCouple_68.all (mz_ok RX7 cX7_takesCouple 4) = true := by decide +kernel
def bX7_takesCouple_75 : List mz_E := [(75, .aload_n 0, 0, 0, 0, 0, 0), (76, .getfield 9, 7, 0, 759, 0, 0), (79, .aload_n 1, 0, 0, 0, 0, 0)]
theorem oX7_takesCouple_75 : bX7_takesCouple_75.all (mz_ok RX7 cX7_takesCouple 4) = true := by decide +kernel
def bX7_takesCouple_83 : List mz_E := [(83, .istore_n 3, 0, 0, 0, 0, 0), (84, .iload_n 3, 0, 0, 0, 0, 0), (85, .iconst (-1), 0, 0, 0, -1, 0), (86, .if_icmp .ne 5, 0, 91, 0, 0, 0)]
theorem oX7_takesCouple_83 : bX7_takesCouple_83.all (mz_ok RX7 cX7_takesCouple 4) = true := by decide +kernel
def bX7_takesCouple_89 : List mz_E := [(89, .iconst 0, 0, 0, 0, 0, 0)]
theorem oX7_takesCouple_89 : bX7_takesCouple_89.all (mz_ok RX7 cX7_takesCouple 4) = true := by decide +kernel
def bX7_takesCouple_91 : List mz_E := [(91, .iload_n 3, 0, 0, 0, 0, 0), (92, .iload_n 2, 0, 0, 0, 0, 0), (93, .if_icmp .eq 13, 0, 106, 0, 0, 0)]
theorem oX7_takesCouple_91 : bX7_takesCouple_91.all (mz_ok RX7 cX7_takesCouple 4) = true := by decide +kernel
def bX7_takesCouple_106 : List mz_E := [(106, .aload_n 0, 0, 0, 0, 0, 0), (107, .getfield 9, 7, 0, 759, 0, 0), (110, .iconst 5, 0, 0, 0, 5, 0)]
theorem oX7_takesCouple_106 : bX7_takesCouple_106.all (mz_ok RX7 cX7_takesCouple 4) = true := by decide +kernel
def bX7_takesCouple_96 : List mz_E := [(96, .aload_n 1, 0, 0, 0, 0, 0), (97, .getfield 129, 4, 8, 318, 0, 0), (100, .iload_n 3, 0, 0, 0, 0, 0), (101, .iaload, 0, 0, 0, 0, 0), (102, .iconst (-1), 0, 0, 0, -1, 0), (103, .if_icmp .eq 12, 0, 115, 0, 0, 0)]
theorem oX7_takesCouple_96 : bX7_takesCouple_96.all (mz_ok RX7 cX7_takesCouple 4) = true := by decide +kernel
def bX7_takesCouple_115 : List mz_E := [(115, .aload_n 0, 0, 0, 0, 0, 0), (116, .getfield 9, 7, 0, 759, 0, 0)]
theorem oX7_takesCouple_115 : bX7_takesCouple_115.all (mz_ok RX7 cX7_takesCouple 4) = true := by decide +kernel
def bX7_takesCouple_122 : List mz_E := [(122, .aload_n 1, 0, 0, 0, 0, 0), (123, .iload_n 2, 0, 0, 0, 0, 0), (124, .iload_n 3, 0, 0, 0, 0, 0)]
theorem oX7_takesCouple_122 : bX7_takesCouple_122.all (mz_ok RX7 cX7_takesCouple 4) = true := by decide +kernel
def bX7_takesCouple_128 : List mz_E := [(128, .iconst 1, 0, 0, 0, 1, 0)]
theorem oX7_takesCouple_128 : bX7_takesCouple_128.all (mz_ok RX7 cX7_takesCouple 4) = true := by decide +kernel
def bX7_takesCouple_59 : List mz_E := [(59, .aload_n 0, 0, 0, 0, 0, 0), (60, .getfield 9, 7, 0, 759, 0, 0), (63, .iconst 5, 0, 0, 0, 5, 0)]
theorem oX7_takesCouple_59 : bX7_takesCouple_59.all (mz_ok RX7 cX7_takesCouple 4) = true := by decide +kernel
def bX7_takesCouple_16 : List mz_E := [(16, .aload_n 0, 0, 0, 0, 0, 0), (17, .getfield 9, 7, 0, 759, 0, 0), (20, .bipush 6, 0, 0, 0, 6, 0)]
theorem oX7_takesCouple_16 : bX7_takesCouple_16.all (mz_ok RX7 cX7_takesCouple 4) = true := by decide +kernel
abbrev IX7_takesCouple : mz_I := (yX7_takesCouple, cX7_takesCouple, 4, (some .boolean), 1, 2, 0, 0)
theorem kX7_takesCouple : mz_okm IX7_takesCouple 821 145 820 0 = true := by decide +kernel
theorem vX7_takesCouple : mz_okV IX7_takesCouple 820 9 = true := by decide +kernel
def fX7_takesCouple_106 (D : mz_D) : Option (Int32 × mz_D) := (Option.bind (fX5_fail (5 : Int32) D) fun q1 => (mz_gd (mz_bo q1.1) (some (q1.1, q1.2))))
set_option maxHeartbeats 4000000 in
theorem tX7_takesCouple_106 (r : (Int32 × mz_D)) : ∀ (D : mz_D), fX7_takesCouple_106 D = some r → mz_Go IX7_takesCouple (some (.inl r.1), r.2) 0 0 (106, [some (.inr (.inr (some (0, 300)))), none, none, none], [], D) := by
  intro D h
  rw [fX7_takesCouple_106] at h
  refine mz_Go.run (gs := [mz_kz 1 0 300]) (st' := (111, [some (.inr (.inr (some (0, 300)))), none, none, none], [.inl (5 : Int32), .inr (.inr (some (0, 2)))], D)) bX7_takesCouple_106 oX7_takesCouple_106 rfl ⟨rfl, trivial⟩ ?_
  obtain ⟨q1, hq1, h⟩ := mz_bd_some h
  refine mz_Go.callV (J := IX5_fail) (as := [.inl (5 : Int32)]) (ci := 5) (g := 0) (o := 2) (idx := 47) (pl := 784) (rest := []) (mX5_fail (5 : Int32) D q1 hq1) kX5_fail vX5_fail (by decide +kernel) (by decide +kernel) (by decide +kernel) rfl rfl ⟨rfl, rfl⟩ rfl rfl rfl rfl ?_
  obtain ⟨hb2, h⟩ := mz_gd_some h
  cases h
  exact mz_Go.retz (by decide +kernel) rfl ⟨Nat.le_refl _, Nat.le_refl _⟩ hb2 rfl
def fX7_takesCouple (D : mz_D) : Option (Int32 × mz_D) := (if (D.1 2 101 1) < (3 : Int32) then (Option.bind (fX5_advance D) fun q2 => (Option.bind (fX5_personHere 2 q2) fun q3 => (if q3.1 = (-1 : Int32) then (some ((0 : Int32), q3.2)) else (mz_gd (mz_ix q3.1 6) (if (q3.2.1 2 107 (q3.1).toNatClampNeg) = (-1 : Int32) then (Option.bind (fX5_advance q3.2) fun q7 => (Option.bind (fX5_personHere 2 q7) fun q8 => (if q8.1 = (-1 : Int32) then (some ((0 : Int32), q8.2)) else (if q8.1 = q3.1 then (fX7_takesCouple_106 q8.2) else (mz_gd (mz_ix q8.1 6) (if (q8.2.1 2 107 (q8.1).toNatClampNeg) = (-1 : Int32) then (Option.bind (fX5_advance q8.2) fun q13 => (Option.bind (fX4_join 2 q3.1 q8.1 q13) fun q14 => (some ((1 : Int32), q14)))) else (fX7_takesCouple_106 q8.2))))))) else (Option.bind (fX5_fail (5 : Int32) q3.2) fun q15 => (mz_gd (mz_bo q15.1) (some (q15.1, q15.2))))))))) else (Option.bind (fX5_fail (6 : Int32) D) fun q17 => (mz_gd (mz_bo q17.1) (some (q17.1, q17.2)))))
set_option maxHeartbeats 4000000 in
theorem mX7_takesCouple (D : mz_D) (r : (Int32 × mz_D)) (h : fX7_takesCouple D = some r) : mz_Met IX7_takesCouple [.inr (.inr (some (0, 300)))] D (some (.inl r.1), r.2) := by
  refine mz_Met.of (by decide +kernel) (Nat.le_of_ble_eq_true rfl) ?_
  show mz_Go IX7_takesCouple (some (.inl r.1), r.2) 0 0 (0, [some (.inr (.inr (some (0, 300)))), none, none, none], [], D)
  rw [fX7_takesCouple] at h
  refine mz_Go.run (gs := [mz_kz 1 0 300, mz_kz 1 2 100, mz_kz 1 2 101]) (st' := (if (D.1 2 101 1) < (3 : Int32) then (26, [some (.inr (.inr (some (0, 300)))), some (.inr (.inr (some (2, 101)))), none, none], [], D) else (16, [some (.inr (.inr (some (0, 300)))), some (.inr (.inr (some (2, 101)))), none, none], [], D))) bX7_takesCouple_0 oX7_takesCouple_0 rfl ⟨rfl, rfl, rfl, trivial⟩ ?_
  refine mz_Go.ite (fun hc1 => ?_) (fun hc1 => ?_)
  · have h := mz_ifp hc1 h
    refine mz_Go.run (gs := [mz_kz 1 0 300]) (st' := (30, [some (.inr (.inr (some (0, 300)))), some (.inr (.inr (some (2, 101)))), none, none], [.inr (.inr (some (0, 2)))], D)) bX7_takesCouple_26 oX7_takesCouple_26 rfl ⟨rfl, trivial⟩ ?_
    obtain ⟨q2, hq2, h⟩ := mz_bd_some h
    refine mz_Go.callV (J := IX5_advance) (as := []) (ci := 5) (g := 0) (o := 2) (idx := 78) (pl := 788) (rest := []) (mX5_advance D q2 hq2) kX5_advance vX5_advance (by decide +kernel) (by decide +kernel) (by decide +kernel) rfl rfl ⟨rfl, rfl⟩ rfl rfl rfl rfl ?_
    refine mz_Go.run (gs := [mz_kz 1 0 300]) (st' := (38, [some (.inr (.inr (some (0, 300)))), some (.inr (.inr (some (2, 101)))), none, none], [.inr (.inr (some (2, 101))), .inr (.inr (some (0, 2)))], q2)) bX7_takesCouple_33 oX7_takesCouple_33 rfl ⟨rfl, trivial⟩ ?_
    obtain ⟨q3, hq3, h⟩ := mz_bd_some h
    refine mz_Go.callV (J := IX5_personHere) (as := [.inr (.inr (some (2, 101)))]) (ci := 5) (g := 0) (o := 2) (idx := 125) (pl := 822) (rest := []) (mX5_personHere 2 q2 rfl q3 hq3) kX5_personHere vX5_personHere (by decide +kernel) (by decide +kernel) (by decide +kernel) rfl rfl ⟨rfl, rfl⟩ rfl rfl rfl rfl ?_
    refine mz_Go.run (gs := []) (st' := (if q3.1 = (-1 : Int32) then (47, [some (.inr (.inr (some (0, 300)))), some (.inr (.inr (some (2, 101)))), some (.inl q3.1), none], [], q3.2) else (49, [some (.inr (.inr (some (0, 300)))), some (.inr (.inr (some (2, 101)))), some (.inl q3.1), none], [], q3.2))) bX7_takesCouple_41 oX7_takesCouple_41 rfl trivial ?_
    refine mz_Go.ite (fun hc4 => ?_) (fun hc4 => ?_)
    · have h := mz_ifp hc4 h
      refine mz_Go.run (gs := []) (st' := (48, [some (.inr (.inr (some (0, 300)))), some (.inr (.inr (some (2, 101)))), some (.inl q3.1), none], [.inl (0 : Int32)], q3.2)) bX7_takesCouple_47 oX7_takesCouple_47 rfl trivial ?_
      cases h
      exact mz_Go.retz (by decide +kernel) rfl ⟨Nat.le_refl _, Nat.le_refl _⟩ (by decide) rfl
    · have h := mz_ifn hc4 h
      obtain ⟨hb5, h⟩ := mz_gd_some h
      refine mz_Go.run (gs := [mz_kz 1 2 101, mz_kz 1 2 107, mz_ix q3.1 6]) (st' := (if (q3.2.1 2 107 (q3.1).toNatClampNeg) = (-1 : Int32) then (68, [some (.inr (.inr (some (0, 300)))), some (.inr (.inr (some (2, 101)))), some (.inl q3.1), none], [], q3.2) else (59, [some (.inr (.inr (some (0, 300)))), some (.inr (.inr (some (2, 101)))), some (.inl q3.1), none], [], q3.2))) bX7_takesCouple_49 oX7_takesCouple_49 rfl ⟨rfl, rfl, hb5, trivial⟩ ?_
      refine mz_Go.ite (fun hc6 => ?_) (fun hc6 => ?_)
      · have h := mz_ifp hc6 h
        refine mz_Go.run (gs := [mz_kz 1 0 300]) (st' := (72, [some (.inr (.inr (some (0, 300)))), some (.inr (.inr (some (2, 101)))), some (.inl q3.1), none], [.inr (.inr (some (0, 2)))], q3.2)) bX7_takesCouple_68 oX7_takesCouple_68 rfl ⟨rfl, trivial⟩ ?_
        obtain ⟨q7, hq7, h⟩ := mz_bd_some h
        refine mz_Go.callV (J := IX5_advance) (as := []) (ci := 5) (g := 0) (o := 2) (idx := 78) (pl := 788) (rest := []) (mX5_advance q3.2 q7 hq7) kX5_advance vX5_advance (by decide +kernel) (by decide +kernel) (by decide +kernel) rfl rfl ⟨rfl, rfl⟩ rfl rfl rfl rfl ?_
        refine mz_Go.run (gs := [mz_kz 1 0 300]) (st' := (80, [some (.inr (.inr (some (0, 300)))), some (.inr (.inr (some (2, 101)))), some (.inl q3.1), none], [.inr (.inr (some (2, 101))), .inr (.inr (some (0, 2)))], q7)) bX7_takesCouple_75 oX7_takesCouple_75 rfl ⟨rfl, trivial⟩ ?_
        obtain ⟨q8, hq8, h⟩ := mz_bd_some h
        refine mz_Go.callV (J := IX5_personHere) (as := [.inr (.inr (some (2, 101)))]) (ci := 5) (g := 0) (o := 2) (idx := 125) (pl := 822) (rest := []) (mX5_personHere 2 q7 rfl q8 hq8) kX5_personHere vX5_personHere (by decide +kernel) (by decide +kernel) (by decide +kernel) rfl rfl ⟨rfl, rfl⟩ rfl rfl rfl rfl ?_
        refine mz_Go.run (gs := []) (st' := (if q8.1 = (-1 : Int32) then (89, [some (.inr (.inr (some (0, 300)))), some (.inr (.inr (some (2, 101)))), some (.inl q3.1), some (.inl q8.1)], [], q8.2) else (91, [some (.inr (.inr (some (0, 300)))), some (.inr (.inr (some (2, 101)))), some (.inl q3.1), some (.inl q8.1)], [], q8.2))) bX7_takesCouple_83 oX7_takesCouple_83 rfl trivial ?_
        refine mz_Go.ite (fun hc9 => ?_) (fun hc9 => ?_)
        · have h := mz_ifp hc9 h
          refine mz_Go.run (gs := []) (st' := (90, [some (.inr (.inr (some (0, 300)))), some (.inr (.inr (some (2, 101)))), some (.inl q3.1), some (.inl q8.1)], [.inl (0 : Int32)], q8.2)) bX7_takesCouple_89 oX7_takesCouple_89 rfl trivial ?_
          cases h
          exact mz_Go.retz (by decide +kernel) rfl ⟨Nat.le_refl _, Nat.le_refl _⟩ (by decide) rfl
        · have h := mz_ifn hc9 h
          refine mz_Go.run (gs := []) (st' := (if q8.1 = q3.1 then (106, [some (.inr (.inr (some (0, 300)))), some (.inr (.inr (some (2, 101)))), some (.inl q3.1), some (.inl q8.1)], [], q8.2) else (96, [some (.inr (.inr (some (0, 300)))), some (.inr (.inr (some (2, 101)))), some (.inl q3.1), some (.inl q8.1)], [], q8.2))) bX7_takesCouple_91 oX7_takesCouple_91 rfl trivial ?_
          refine mz_Go.ite (fun hc10 => ?_) (fun hc10 => ?_)
          · have h := mz_ifp hc10 h
            exact mz_Go.drop [true, false, false, false] (tX7_takesCouple_106 r q8.2 h)
          · have h := mz_ifn hc10 h
            obtain ⟨hb11, h⟩ := mz_gd_some h
            refine mz_Go.run (gs := [mz_kz 1 2 101, mz_kz 1 2 107, mz_ix q8.1 6]) (st' := (if (q8.2.1 2 107 (q8.1).toNatClampNeg) = (-1 : Int32) then (115, [some (.inr (.inr (some (0, 300)))), some (.inr (.inr (some (2, 101)))), some (.inl q3.1), some (.inl q8.1)], [], q8.2) else (106, [some (.inr (.inr (some (0, 300)))), some (.inr (.inr (some (2, 101)))), some (.inl q3.1), some (.inl q8.1)], [], q8.2))) bX7_takesCouple_96 oX7_takesCouple_96 rfl ⟨rfl, rfl, hb11, trivial⟩ ?_
            refine mz_Go.ite (fun hc12 => ?_) (fun hc12 => ?_)
            · have h := mz_ifp hc12 h
              refine mz_Go.run (gs := [mz_kz 1 0 300]) (st' := (119, [some (.inr (.inr (some (0, 300)))), some (.inr (.inr (some (2, 101)))), some (.inl q3.1), some (.inl q8.1)], [.inr (.inr (some (0, 2)))], q8.2)) bX7_takesCouple_115 oX7_takesCouple_115 rfl ⟨rfl, trivial⟩ ?_
              obtain ⟨q13, hq13, h⟩ := mz_bd_some h
              refine mz_Go.callV (J := IX5_advance) (as := []) (ci := 5) (g := 0) (o := 2) (idx := 78) (pl := 788) (rest := []) (mX5_advance q8.2 q13 hq13) kX5_advance vX5_advance (by decide +kernel) (by decide +kernel) (by decide +kernel) rfl rfl ⟨rfl, rfl⟩ rfl rfl rfl rfl ?_
              refine mz_Go.run (gs := []) (st' := (125, [some (.inr (.inr (some (0, 300)))), some (.inr (.inr (some (2, 101)))), some (.inl q3.1), some (.inl q8.1)], [.inl q8.1, .inl q3.1, .inr (.inr (some (2, 101)))], q13)) bX7_takesCouple_122 oX7_takesCouple_122 rfl trivial ?_
              obtain ⟨q14, hq14, h⟩ := mz_bd_some h
              refine mz_Go.callV (J := IX4_join) (as := [.inl q3.1, .inl q8.1]) (ci := 4) (g := 2) (o := 101) (idx := 132) (pl := 828) (rest := []) (mX4_join 2 q3.1 q8.1 q13 rfl q14 hq14) kX4_join vX4_join (by decide +kernel) (by decide +kernel) (by decide +kernel) rfl rfl ⟨rfl, rfl⟩ rfl rfl rfl rfl ?_
              refine mz_Go.run (gs := []) (st' := (129, [some (.inr (.inr (some (0, 300)))), some (.inr (.inr (some (2, 101)))), some (.inl q3.1), some (.inl q8.1)], [.inl (1 : Int32)], q14)) bX7_takesCouple_128 oX7_takesCouple_128 rfl trivial ?_
              cases h
              exact mz_Go.retz (by decide +kernel) rfl ⟨Nat.le_refl _, Nat.le_refl _⟩ (by decide) rfl
            · have h := mz_ifn hc12 h
              exact mz_Go.drop [true, false, false, false] (tX7_takesCouple_106 r q8.2 h)
      · have h := mz_ifn hc6 h
        refine mz_Go.run (gs := [mz_kz 1 0 300]) (st' := (64, [some (.inr (.inr (some (0, 300)))), some (.inr (.inr (some (2, 101)))), some (.inl q3.1), none], [.inl (5 : Int32), .inr (.inr (some (0, 2)))], q3.2)) bX7_takesCouple_59 oX7_takesCouple_59 rfl ⟨rfl, trivial⟩ ?_
        obtain ⟨q15, hq15, h⟩ := mz_bd_some h
        refine mz_Go.callV (J := IX5_fail) (as := [.inl (5 : Int32)]) (ci := 5) (g := 0) (o := 2) (idx := 47) (pl := 784) (rest := []) (mX5_fail (5 : Int32) q3.2 q15 hq15) kX5_fail vX5_fail (by decide +kernel) (by decide +kernel) (by decide +kernel) rfl rfl ⟨rfl, rfl⟩ rfl rfl rfl rfl ?_
        obtain ⟨hb16, h⟩ := mz_gd_some h
        cases h
        exact mz_Go.retz (by decide +kernel) rfl ⟨Nat.le_refl _, Nat.le_refl _⟩ hb16 rfl
  · have h := mz_ifn hc1 h
    refine mz_Go.run (gs := [mz_kz 1 0 300]) (st' := (22, [some (.inr (.inr (some (0, 300)))), some (.inr (.inr (some (2, 101)))), none, none], [.inl (6 : Int32), .inr (.inr (some (0, 2)))], D)) bX7_takesCouple_16 oX7_takesCouple_16 rfl ⟨rfl, trivial⟩ ?_
    obtain ⟨q17, hq17, h⟩ := mz_bd_some h
    refine mz_Go.callV (J := IX5_fail) (as := [.inl (6 : Int32)]) (ci := 5) (g := 0) (o := 2) (idx := 47) (pl := 784) (rest := []) (mX5_fail (6 : Int32) D q17 hq17) kX5_fail vX5_fail (by decide +kernel) (by decide +kernel) (by decide +kernel) rfl rfl ⟨rfl, rfl⟩ rfl rfl rfl rfl ?_
    obtain ⟨hb18, h⟩ := mz_gd_some h
    cases h
    exact mz_Go.retz (by decide +kernel) rfl ⟨Nat.le_refl _, Nat.le_refl _⟩ hb18 rfl
def bX7_takesDish_0 : List mz_E := [(0, .aload_n 0, 0, 0, 0, 0, 0), (1, .getfield 15, 7, 1, 760, 0, 0), (4, .getfield 136, 6, 1, 481, 0, 0), (7, .getfield 140, 1, 0, 352, 0, 0), (10, .bipush 16, 0, 0, 0, 16, 0), (12, .if_icmp .lt 13, 0, 25, 0, 0, 0)]
theorem oX7_takesDish_0 : bX7_takesDish_0.all (mz_ok RX7 cX7_takesDish 3) = true := by decide +kernel
def bX7_takesDish_25 : List mz_E := [(25, .aload_n 0, 0, 0, 0, 0, 0), (26, .getfield 9, 7, 0, 759, 0, 0)]
theorem oX7_takesDish_25 : bX7_takesDish_25.all (mz_ok RX7 cX7_takesDish 3) = true := by decide +kernel
def bX7_takesDish_32 : List mz_E := [(32, .aload_n 0, 0, 0, 0, 0, 0), (33, .getfield 9, 7, 0, 759, 0, 0), (36, .iconst 1, 0, 0, 0, 1, 0), (37, .sipush 999, 0, 0, 0, 999, 0)]
theorem oX7_takesDish_32 : bX7_takesDish_32.all (mz_ok RX7 cX7_takesDish 3) = true := by decide +kernel
def bX7_takesDish_43 : List mz_E := [(43, .istore_n 1, 0, 0, 0, 0, 0), (44, .iload_n 1, 0, 0, 0, 0, 0), (45, .iconst (-1), 0, 0, 0, -1, 0), (46, .if_icmp .ne 5, 0, 51, 0, 0, 0)]
theorem oX7_takesDish_43 : bX7_takesDish_43.all (mz_ok RX7 cX7_takesDish 3) = true := by decide +kernel
def bX7_takesDish_49 : List mz_E := [(49, .iconst 0, 0, 0, 0, 0, 0)]
theorem oX7_takesDish_49 : bX7_takesDish_49.all (mz_ok RX7 cX7_takesDish 3) = true := by decide +kernel
def bX7_takesDish_51 : List mz_E := [(51, .iconst (-1), 0, 0, 0, -1, 0), (52, .istore_n 2, 0, 0, 0, 0, 0), (53, .aload_n 0, 0, 0, 0, 0, 0), (54, .getfield 9, 7, 0, 759, 0, 0), (57, .getfield 25, 5, 2, 219, 0, 0), (60, .bipush 8, 0, 0, 0, 8, 0), (62, .if_icmp .ne 32, 0, 94, 0, 0, 0)]
theorem oX7_takesDish_51 : bX7_takesDish_51.all (mz_ok RX7 cX7_takesDish 3) = true := by decide +kernel
def bX7_takesDish_65 : List mz_E := [(65, .aload_n 0, 0, 0, 0, 0, 0), (66, .getfield 9, 7, 0, 759, 0, 0)]
theorem oX7_takesDish_65 : bX7_takesDish_65.all (mz_ok RX7 cX7_takesDish 3) = true := by decide +kernel
def bX7_takesDish_72 : List mz_E := [(72, .aload_n 0, 0, 0, 0, 0, 0), (73, .getfield 9, 7, 0, 759, 0, 0), (76, .aload_n 0, 0, 0, 0, 0, 0), (77, .getfield 15, 7, 1, 760, 0, 0), (80, .getfield 60, 6, 0, 476, 0, 0)]
theorem oX7_takesDish_72 : bX7_takesDish_72.all (mz_ok RX7 cX7_takesDish 3) = true := by decide +kernel
def bX7_takesDish_86 : List mz_E := [(86, .istore_n 2, 0, 0, 0, 0, 0), (87, .iload_n 2, 0, 0, 0, 0, 0), (88, .iconst (-1), 0, 0, 0, -1, 0), (89, .if_icmp .ne 5, 0, 94, 0, 0, 0)]
theorem oX7_takesDish_86 : bX7_takesDish_86.all (mz_ok RX7 cX7_takesDish 3) = true := by decide +kernel
def bX7_takesDish_92 : List mz_E := [(92, .iconst 0, 0, 0, 0, 0, 0)]
theorem oX7_takesDish_92 : bX7_takesDish_92.all (mz_ok RX7 cX7_takesDish 3) = true := by decide +kernel
def bX7_takesDish_94 : List mz_E := [(94, .aload_n 0, 0, 0, 0, 0, 0), (95, .getfield 15, 7, 1, 760, 0, 0), (98, .getfield 136, 6, 1, 481, 0, 0), (101, .iload_n 1, 0, 0, 0, 0, 0), (102, .iload_n 2, 0, 0, 0, 0, 0)]
theorem oX7_takesDish_94 : bX7_takesDish_94.all (mz_ok RX7 cX7_takesDish 3) = true := by decide +kernel
def bX7_takesDish_106 : List mz_E := [(106, .iconst 1, 0, 0, 0, 1, 0)]
theorem oX7_takesDish_106 : bX7_takesDish_106.all (mz_ok RX7 cX7_takesDish 3) = true := by decide +kernel
def bX7_takesDish_15 : List mz_E := [(15, .aload_n 0, 0, 0, 0, 0, 0), (16, .getfield 9, 7, 0, 759, 0, 0), (19, .bipush 6, 0, 0, 0, 6, 0)]
theorem oX7_takesDish_15 : bX7_takesDish_15.all (mz_ok RX7 cX7_takesDish 3) = true := by decide +kernel
abbrev IX7_takesDish : mz_I := (yX7_takesDish, cX7_takesDish, 3, (some .boolean), 1, 3, 0, 0)
theorem kX7_takesDish : mz_okm IX7_takesDish 835 145 834 0 = true := by decide +kernel
theorem vX7_takesDish : mz_okV IX7_takesDish 834 10 = true := by decide +kernel
def fX7_takesDish_94 (x1 : Int32) (x2 : Int32) (D : mz_D) : Option (Int32 × mz_D) := (Option.bind (fX1_add 2 x1 x2 D) fun q1 => (some ((1 : Int32), q1)))
set_option maxHeartbeats 4000000 in
theorem tX7_takesDish_94 (r : (Int32 × mz_D)) : ∀ (x1 : Int32) (x2 : Int32) (D : mz_D), fX7_takesDish_94 x1 x2 D = some r → mz_Go IX7_takesDish (some (.inl r.1), r.2) 0 0 (94, [some (.inr (.inr (some (0, 300)))), some (.inl x1), some (.inl x2)], [], D) := by
  intro x1 x2 D h
  rw [fX7_takesDish_94] at h
  refine mz_Go.run (gs := [mz_kz 1 0 300, mz_kz 1 2 100]) (st' := (103, [some (.inr (.inr (some (0, 300)))), some (.inl x1), some (.inl x2)], [.inl x2, .inl x1, .inr (.inr (some (2, 109)))], D)) bX7_takesDish_94 oX7_takesDish_94 rfl ⟨rfl, rfl, trivial⟩ ?_
  obtain ⟨q1, hq1, h⟩ := mz_bd_some h
  refine mz_Go.callV (J := IX1_add) (as := [.inl x1, .inl x2]) (ci := 1) (g := 2) (o := 109) (idx := 146) (pl := 841) (rest := []) (mX1_add 2 x1 x2 D rfl q1 hq1) kX1_add vX1_add (by decide +kernel) (by decide +kernel) (by decide +kernel) rfl rfl ⟨rfl, rfl⟩ rfl rfl rfl rfl ?_
  refine mz_Go.run (gs := []) (st' := (107, [some (.inr (.inr (some (0, 300)))), some (.inl x1), some (.inl x2)], [.inl (1 : Int32)], q1)) bX7_takesDish_106 oX7_takesDish_106 rfl trivial ?_
  cases h
  exact mz_Go.retz (by decide +kernel) rfl ⟨Nat.le_refl _, Nat.le_refl _⟩ (by decide) rfl
def fX7_takesDish (D : mz_D) : Option (Int32 × mz_D) := (if (D.1 2 109 0) < (16 : Int32) then (Option.bind (fX5_advance D) fun q2 => (Option.bind (fX5_takeNumber (1 : Int32) (999 : Int32) q2) fun q3 => (if q3.1 = (-1 : Int32) then (some ((0 : Int32), q3.2)) else (if (q3.2.1 0 2 2) = (8 : Int32) then (Option.bind (fX5_advance q3.2) fun q6 => (Option.bind (fX5_takePerson 2 q6) fun q7 => (if q7.1 = (-1 : Int32) then (some ((0 : Int32), q7.2)) else (fX7_takesDish_94 q3.1 q7.1 q7.2)))) else (fX7_takesDish_94 q3.1 (-1 : Int32) q3.2))))) else (Option.bind (fX5_fail (6 : Int32) D) fun q9 => (mz_gd (mz_bo q9.1) (some (q9.1, q9.2)))))
set_option maxHeartbeats 4000000 in
theorem mX7_takesDish (D : mz_D) (r : (Int32 × mz_D)) (h : fX7_takesDish D = some r) : mz_Met IX7_takesDish [.inr (.inr (some (0, 300)))] D (some (.inl r.1), r.2) := by
  refine mz_Met.of (by decide +kernel) (Nat.le_of_ble_eq_true rfl) ?_
  show mz_Go IX7_takesDish (some (.inl r.1), r.2) 0 0 (0, [some (.inr (.inr (some (0, 300)))), none, none], [], D)
  rw [fX7_takesDish] at h
  refine mz_Go.run (gs := [mz_kz 1 0 300, mz_kz 1 2 100, mz_kz 1 2 109]) (st' := (if (D.1 2 109 0) < (16 : Int32) then (25, [some (.inr (.inr (some (0, 300)))), none, none], [], D) else (15, [some (.inr (.inr (some (0, 300)))), none, none], [], D))) bX7_takesDish_0 oX7_takesDish_0 rfl ⟨rfl, rfl, rfl, trivial⟩ ?_
  refine mz_Go.ite (fun hc1 => ?_) (fun hc1 => ?_)
  · have h := mz_ifp hc1 h
    refine mz_Go.run (gs := [mz_kz 1 0 300]) (st' := (29, [some (.inr (.inr (some (0, 300)))), none, none], [.inr (.inr (some (0, 2)))], D)) bX7_takesDish_25 oX7_takesDish_25 rfl ⟨rfl, trivial⟩ ?_
    obtain ⟨q2, hq2, h⟩ := mz_bd_some h
    refine mz_Go.callV (J := IX5_advance) (as := []) (ci := 5) (g := 0) (o := 2) (idx := 78) (pl := 788) (rest := []) (mX5_advance D q2 hq2) kX5_advance vX5_advance (by decide +kernel) (by decide +kernel) (by decide +kernel) rfl rfl ⟨rfl, rfl⟩ rfl rfl rfl rfl ?_
    refine mz_Go.run (gs := [mz_kz 1 0 300]) (st' := (40, [some (.inr (.inr (some (0, 300)))), none, none], [.inl (999 : Int32), .inl (1 : Int32), .inr (.inr (some (0, 2)))], q2)) bX7_takesDish_32 oX7_takesDish_32 rfl ⟨rfl, trivial⟩ ?_
    obtain ⟨q3, hq3, h⟩ := mz_bd_some h
    refine mz_Go.callV (J := IX5_takeNumber) (as := [.inl (1 : Int32), .inl (999 : Int32)]) (ci := 5) (g := 0) (o := 2) (idx := 115) (pl := 809) (rest := []) (mX5_takeNumber (1 : Int32) (999 : Int32) q2 q3 hq3) kX5_takeNumber vX5_takeNumber (by decide +kernel) (by decide +kernel) (by decide +kernel) rfl rfl ⟨rfl, rfl⟩ rfl rfl rfl rfl ?_
    refine mz_Go.run (gs := []) (st' := (if q3.1 = (-1 : Int32) then (49, [some (.inr (.inr (some (0, 300)))), some (.inl q3.1), none], [], q3.2) else (51, [some (.inr (.inr (some (0, 300)))), some (.inl q3.1), none], [], q3.2))) bX7_takesDish_43 oX7_takesDish_43 rfl trivial ?_
    refine mz_Go.ite (fun hc4 => ?_) (fun hc4 => ?_)
    · have h := mz_ifp hc4 h
      refine mz_Go.run (gs := []) (st' := (50, [some (.inr (.inr (some (0, 300)))), some (.inl q3.1), none], [.inl (0 : Int32)], q3.2)) bX7_takesDish_49 oX7_takesDish_49 rfl trivial ?_
      cases h
      exact mz_Go.retz (by decide +kernel) rfl ⟨Nat.le_refl _, Nat.le_refl _⟩ (by decide) rfl
    · have h := mz_ifn hc4 h
      refine mz_Go.run (gs := [mz_kz 1 0 300, mz_kz 1 0 2]) (st' := (if (q3.2.1 0 2 2) = (8 : Int32) then (65, [some (.inr (.inr (some (0, 300)))), some (.inl q3.1), some (.inl (-1 : Int32))], [], q3.2) else (94, [some (.inr (.inr (some (0, 300)))), some (.inl q3.1), some (.inl (-1 : Int32))], [], q3.2))) bX7_takesDish_51 oX7_takesDish_51 rfl ⟨rfl, rfl, trivial⟩ ?_
      refine mz_Go.ite (fun hc5 => ?_) (fun hc5 => ?_)
      · have h := mz_ifp hc5 h
        refine mz_Go.run (gs := [mz_kz 1 0 300]) (st' := (69, [some (.inr (.inr (some (0, 300)))), some (.inl q3.1), some (.inl (-1 : Int32))], [.inr (.inr (some (0, 2)))], q3.2)) bX7_takesDish_65 oX7_takesDish_65 rfl ⟨rfl, trivial⟩ ?_
        obtain ⟨q6, hq6, h⟩ := mz_bd_some h
        refine mz_Go.callV (J := IX5_advance) (as := []) (ci := 5) (g := 0) (o := 2) (idx := 78) (pl := 788) (rest := []) (mX5_advance q3.2 q6 hq6) kX5_advance vX5_advance (by decide +kernel) (by decide +kernel) (by decide +kernel) rfl rfl ⟨rfl, rfl⟩ rfl rfl rfl rfl ?_
        refine mz_Go.run (gs := [mz_kz 1 0 300, mz_kz 1 0 300, mz_kz 1 2 100]) (st' := (83, [some (.inr (.inr (some (0, 300)))), some (.inl q3.1), some (.inl (-1 : Int32))], [.inr (.inr (some (2, 101))), .inr (.inr (some (0, 2)))], q6)) bX7_takesDish_72 oX7_takesDish_72 rfl ⟨rfl, rfl, rfl, trivial⟩ ?_
        obtain ⟨q7, hq7, h⟩ := mz_bd_some h
        refine mz_Go.callV (J := IX5_takePerson) (as := [.inr (.inr (some (2, 101)))]) (ci := 5) (g := 0) (o := 2) (idx := 143) (pl := 836) (rest := []) (mX5_takePerson 2 q6 rfl q7 hq7) kX5_takePerson vX5_takePerson (by decide +kernel) (by decide +kernel) (by decide +kernel) rfl rfl ⟨rfl, rfl⟩ rfl rfl rfl rfl ?_
        refine mz_Go.run (gs := []) (st' := (if q7.1 = (-1 : Int32) then (92, [some (.inr (.inr (some (0, 300)))), some (.inl q3.1), some (.inl q7.1)], [], q7.2) else (94, [some (.inr (.inr (some (0, 300)))), some (.inl q3.1), some (.inl q7.1)], [], q7.2))) bX7_takesDish_86 oX7_takesDish_86 rfl trivial ?_
        refine mz_Go.ite (fun hc8 => ?_) (fun hc8 => ?_)
        · have h := mz_ifp hc8 h
          refine mz_Go.run (gs := []) (st' := (93, [some (.inr (.inr (some (0, 300)))), some (.inl q3.1), some (.inl q7.1)], [.inl (0 : Int32)], q7.2)) bX7_takesDish_92 oX7_takesDish_92 rfl trivial ?_
          cases h
          exact mz_Go.retz (by decide +kernel) rfl ⟨Nat.le_refl _, Nat.le_refl _⟩ (by decide) rfl
        · have h := mz_ifn hc8 h
          exact mz_Go.drop [true, true, true] (tX7_takesDish_94 r q3.1 q7.1 q7.2 h)
      · have h := mz_ifn hc5 h
        exact mz_Go.drop [true, true, true] (tX7_takesDish_94 r q3.1 (-1 : Int32) q3.2 h)
  · have h := mz_ifn hc1 h
    refine mz_Go.run (gs := [mz_kz 1 0 300]) (st' := (21, [some (.inr (.inr (some (0, 300)))), none, none], [.inl (6 : Int32), .inr (.inr (some (0, 2)))], D)) bX7_takesDish_15 oX7_takesDish_15 rfl ⟨rfl, trivial⟩ ?_
    obtain ⟨q9, hq9, h⟩ := mz_bd_some h
    refine mz_Go.callV (J := IX5_fail) (as := [.inl (6 : Int32)]) (ci := 5) (g := 0) (o := 2) (idx := 47) (pl := 784) (rest := []) (mX5_fail (6 : Int32) D q9 hq9) kX5_fail vX5_fail (by decide +kernel) (by decide +kernel) (by decide +kernel) rfl rfl ⟨rfl, rfl⟩ rfl rfl rfl rfl ?_
    obtain ⟨hb10, h⟩ := mz_gd_some h
    cases h
    exact mz_Go.retz (by decide +kernel) rfl ⟨Nat.le_refl _, Nat.le_refl _⟩ hb10 rfl
def bX7_takesDebt_0 : List mz_E := [(0, .aload_n 0, 0, 0, 0, 0, 0), (1, .getfield 9, 7, 0, 759, 0, 0)]
theorem oX7_takesDebt_0 : bX7_takesDebt_0.all (mz_ok RX7 cX7_takesDebt 4) = true := by decide +kernel
def bX7_takesDebt_7 : List mz_E := [(7, .aload_n 0, 0, 0, 0, 0, 0), (8, .getfield 9, 7, 0, 759, 0, 0), (11, .aload_n 0, 0, 0, 0, 0, 0), (12, .getfield 15, 7, 1, 760, 0, 0), (15, .getfield 60, 6, 0, 476, 0, 0)]
theorem oX7_takesDebt_7 : bX7_takesDebt_7.all (mz_ok RX7 cX7_takesDebt 4) = true := by decide +kernel
def bX7_takesDebt_21 : List mz_E := [(21, .istore_n 1, 0, 0, 0, 0, 0), (22, .iload_n 1, 0, 0, 0, 0, 0), (23, .iconst (-1), 0, 0, 0, -1, 0), (24, .if_icmp .ne 5, 0, 29, 0, 0, 0)]
theorem oX7_takesDebt_21 : bX7_takesDebt_21.all (mz_ok RX7 cX7_takesDebt 4) = true := by decide +kernel
def bX7_takesDebt_27 : List mz_E := [(27, .iconst 0, 0, 0, 0, 0, 0)]
theorem oX7_takesDebt_27 : bX7_takesDebt_27.all (mz_ok RX7 cX7_takesDebt 4) = true := by decide +kernel
def bX7_takesDebt_29 : List mz_E := [(29, .aload_n 0, 0, 0, 0, 0, 0), (30, .getfield 9, 7, 0, 759, 0, 0), (33, .aload_n 0, 0, 0, 0, 0, 0), (34, .getfield 15, 7, 1, 760, 0, 0), (37, .getfield 60, 6, 0, 476, 0, 0), (40, .iload_n 1, 0, 0, 0, 0, 0)]
theorem oX7_takesDebt_29 : bX7_takesDebt_29.all (mz_ok RX7 cX7_takesDebt 4) = true := by decide +kernel
def bX7_takesDebt_44 : List mz_E := [(44, .istore_n 2, 0, 0, 0, 0, 0), (45, .iload_n 2, 0, 0, 0, 0, 0), (46, .iconst (-1), 0, 0, 0, -1, 0), (47, .if_icmp .ne 5, 0, 52, 0, 0, 0)]
theorem oX7_takesDebt_44 : bX7_takesDebt_44.all (mz_ok RX7 cX7_takesDebt 4) = true := by decide +kernel
def bX7_takesDebt_50 : List mz_E := [(50, .iconst 0, 0, 0, 0, 0, 0)]
theorem oX7_takesDebt_50 : bX7_takesDebt_50.all (mz_ok RX7 cX7_takesDebt 4) = true := by decide +kernel
def bX7_takesDebt_52 : List mz_E := [(52, .aload_n 0, 0, 0, 0, 0, 0), (53, .getfield 9, 7, 0, 759, 0, 0), (56, .iconst 0, 0, 0, 0, 0, 0), (57, .sipush 9999, 0, 0, 0, 9999, 0)]
theorem oX7_takesDebt_52 : bX7_takesDebt_52.all (mz_ok RX7 cX7_takesDebt 4) = true := by decide +kernel
def bX7_takesDebt_63 : List mz_E := [(63, .istore_n 3, 0, 0, 0, 0, 0), (64, .iload_n 3, 0, 0, 0, 0, 0), (65, .iconst (-1), 0, 0, 0, -1, 0), (66, .if_icmp .ne 5, 0, 71, 0, 0, 0)]
theorem oX7_takesDebt_63 : bX7_takesDebt_63.all (mz_ok RX7 cX7_takesDebt 4) = true := by decide +kernel
def bX7_takesDebt_69 : List mz_E := [(69, .iconst 0, 0, 0, 0, 0, 0)]
theorem oX7_takesDebt_69 : bX7_takesDebt_69.all (mz_ok RX7 cX7_takesDebt 4) = true := by decide +kernel
def bX7_takesDebt_71 : List mz_E := [(71, .aload_n 0, 0, 0, 0, 0, 0), (72, .getfield 15, 7, 1, 760, 0, 0), (75, .getfield 152, 6, 2, 485, 0, 0), (78, .iload_n 1, 0, 0, 0, 0, 0), (79, .iload_n 2, 0, 0, 0, 0, 0), (80, .iload_n 3, 0, 0, 0, 0, 0)]
theorem oX7_takesDebt_71 : bX7_takesDebt_71.all (mz_ok RX7 cX7_takesDebt 4) = true := by decide +kernel
def bX7_takesDebt_84 : List mz_E := [(84, .iconst 1, 0, 0, 0, 1, 0)]
theorem oX7_takesDebt_84 : bX7_takesDebt_84.all (mz_ok RX7 cX7_takesDebt 4) = true := by decide +kernel
abbrev IX7_takesDebt : mz_I := (yX7_takesDebt, cX7_takesDebt, 4, (some .boolean), 1, 3, 0, 0)
theorem kX7_takesDebt : mz_okm IX7_takesDebt 848 145 847 0 = true := by decide +kernel
theorem vX7_takesDebt : mz_okV IX7_takesDebt 847 11 = true := by decide +kernel
def fX7_takesDebt (D : mz_D) : Option (Int32 × mz_D) := (Option.bind (fX5_advance D) fun q1 => (Option.bind (fX5_takePerson 2 q1) fun q2 => (if q2.1 = (-1 : Int32) then (some ((0 : Int32), q2.2)) else (Option.bind (fX5_takeOther 2 q2.1 q2.2) fun q4 => (if q4.1 = (-1 : Int32) then (some ((0 : Int32), q4.2)) else (Option.bind (fX5_takeNumber (0 : Int32) (9999 : Int32) q4.2) fun q6 => (if q6.1 = (-1 : Int32) then (some ((0 : Int32), q6.2)) else (Option.bind (fX2_put 2 q2.1 q4.1 q6.1 q6.2) fun q8 => (some ((1 : Int32), q8))))))))))
set_option maxHeartbeats 4000000 in
theorem mX7_takesDebt (D : mz_D) (r : (Int32 × mz_D)) (h : fX7_takesDebt D = some r) : mz_Met IX7_takesDebt [.inr (.inr (some (0, 300)))] D (some (.inl r.1), r.2) := by
  refine mz_Met.of (by decide +kernel) (Nat.le_of_ble_eq_true rfl) ?_
  show mz_Go IX7_takesDebt (some (.inl r.1), r.2) 0 0 (0, [some (.inr (.inr (some (0, 300)))), none, none, none], [], D)
  rw [fX7_takesDebt] at h
  refine mz_Go.run (gs := [mz_kz 1 0 300]) (st' := (4, [some (.inr (.inr (some (0, 300)))), none, none, none], [.inr (.inr (some (0, 2)))], D)) bX7_takesDebt_0 oX7_takesDebt_0 rfl ⟨rfl, trivial⟩ ?_
  obtain ⟨q1, hq1, h⟩ := mz_bd_some h
  refine mz_Go.callV (J := IX5_advance) (as := []) (ci := 5) (g := 0) (o := 2) (idx := 78) (pl := 788) (rest := []) (mX5_advance D q1 hq1) kX5_advance vX5_advance (by decide +kernel) (by decide +kernel) (by decide +kernel) rfl rfl ⟨rfl, rfl⟩ rfl rfl rfl rfl ?_
  refine mz_Go.run (gs := [mz_kz 1 0 300, mz_kz 1 0 300, mz_kz 1 2 100]) (st' := (18, [some (.inr (.inr (some (0, 300)))), none, none, none], [.inr (.inr (some (2, 101))), .inr (.inr (some (0, 2)))], q1)) bX7_takesDebt_7 oX7_takesDebt_7 rfl ⟨rfl, rfl, rfl, trivial⟩ ?_
  obtain ⟨q2, hq2, h⟩ := mz_bd_some h
  refine mz_Go.callV (J := IX5_takePerson) (as := [.inr (.inr (some (2, 101)))]) (ci := 5) (g := 0) (o := 2) (idx := 143) (pl := 836) (rest := []) (mX5_takePerson 2 q1 rfl q2 hq2) kX5_takePerson vX5_takePerson (by decide +kernel) (by decide +kernel) (by decide +kernel) rfl rfl ⟨rfl, rfl⟩ rfl rfl rfl rfl ?_
  refine mz_Go.run (gs := []) (st' := (if q2.1 = (-1 : Int32) then (27, [some (.inr (.inr (some (0, 300)))), some (.inl q2.1), none, none], [], q2.2) else (29, [some (.inr (.inr (some (0, 300)))), some (.inl q2.1), none, none], [], q2.2))) bX7_takesDebt_21 oX7_takesDebt_21 rfl trivial ?_
  refine mz_Go.ite (fun hc3 => ?_) (fun hc3 => ?_)
  · have h := mz_ifp hc3 h
    refine mz_Go.run (gs := []) (st' := (28, [some (.inr (.inr (some (0, 300)))), some (.inl q2.1), none, none], [.inl (0 : Int32)], q2.2)) bX7_takesDebt_27 oX7_takesDebt_27 rfl trivial ?_
    cases h
    exact mz_Go.retz (by decide +kernel) rfl ⟨Nat.le_refl _, Nat.le_refl _⟩ (by decide) rfl
  · have h := mz_ifn hc3 h
    refine mz_Go.run (gs := [mz_kz 1 0 300, mz_kz 1 0 300, mz_kz 1 2 100]) (st' := (41, [some (.inr (.inr (some (0, 300)))), some (.inl q2.1), none, none], [.inl q2.1, .inr (.inr (some (2, 101))), .inr (.inr (some (0, 2)))], q2.2)) bX7_takesDebt_29 oX7_takesDebt_29 rfl ⟨rfl, rfl, rfl, trivial⟩ ?_
    obtain ⟨q4, hq4, h⟩ := mz_bd_some h
    refine mz_Go.callV (J := IX5_takeOther) (as := [.inr (.inr (some (2, 101))), .inl q2.1]) (ci := 5) (g := 0) (o := 2) (idx := 148) (pl := 849) (rest := []) (mX5_takeOther 2 q2.1 q2.2 rfl q4 hq4) kX5_takeOther vX5_takeOther (by decide +kernel) (by decide +kernel) (by decide +kernel) rfl rfl ⟨rfl, rfl⟩ rfl rfl rfl rfl ?_
    refine mz_Go.run (gs := []) (st' := (if q4.1 = (-1 : Int32) then (50, [some (.inr (.inr (some (0, 300)))), some (.inl q2.1), some (.inl q4.1), none], [], q4.2) else (52, [some (.inr (.inr (some (0, 300)))), some (.inl q2.1), some (.inl q4.1), none], [], q4.2))) bX7_takesDebt_44 oX7_takesDebt_44 rfl trivial ?_
    refine mz_Go.ite (fun hc5 => ?_) (fun hc5 => ?_)
    · have h := mz_ifp hc5 h
      refine mz_Go.run (gs := []) (st' := (51, [some (.inr (.inr (some (0, 300)))), some (.inl q2.1), some (.inl q4.1), none], [.inl (0 : Int32)], q4.2)) bX7_takesDebt_50 oX7_takesDebt_50 rfl trivial ?_
      cases h
      exact mz_Go.retz (by decide +kernel) rfl ⟨Nat.le_refl _, Nat.le_refl _⟩ (by decide) rfl
    · have h := mz_ifn hc5 h
      refine mz_Go.run (gs := [mz_kz 1 0 300]) (st' := (60, [some (.inr (.inr (some (0, 300)))), some (.inl q2.1), some (.inl q4.1), none], [.inl (9999 : Int32), .inl (0 : Int32), .inr (.inr (some (0, 2)))], q4.2)) bX7_takesDebt_52 oX7_takesDebt_52 rfl ⟨rfl, trivial⟩ ?_
      obtain ⟨q6, hq6, h⟩ := mz_bd_some h
      refine mz_Go.callV (J := IX5_takeNumber) (as := [.inl (0 : Int32), .inl (9999 : Int32)]) (ci := 5) (g := 0) (o := 2) (idx := 115) (pl := 809) (rest := []) (mX5_takeNumber (0 : Int32) (9999 : Int32) q4.2 q6 hq6) kX5_takeNumber vX5_takeNumber (by decide +kernel) (by decide +kernel) (by decide +kernel) rfl rfl ⟨rfl, rfl⟩ rfl rfl rfl rfl ?_
      refine mz_Go.run (gs := []) (st' := (if q6.1 = (-1 : Int32) then (69, [some (.inr (.inr (some (0, 300)))), some (.inl q2.1), some (.inl q4.1), some (.inl q6.1)], [], q6.2) else (71, [some (.inr (.inr (some (0, 300)))), some (.inl q2.1), some (.inl q4.1), some (.inl q6.1)], [], q6.2))) bX7_takesDebt_63 oX7_takesDebt_63 rfl trivial ?_
      refine mz_Go.ite (fun hc7 => ?_) (fun hc7 => ?_)
      · have h := mz_ifp hc7 h
        refine mz_Go.run (gs := []) (st' := (70, [some (.inr (.inr (some (0, 300)))), some (.inl q2.1), some (.inl q4.1), some (.inl q6.1)], [.inl (0 : Int32)], q6.2)) bX7_takesDebt_69 oX7_takesDebt_69 rfl trivial ?_
        cases h
        exact mz_Go.retz (by decide +kernel) rfl ⟨Nat.le_refl _, Nat.le_refl _⟩ (by decide) rfl
      · have h := mz_ifn hc7 h
        refine mz_Go.run (gs := [mz_kz 1 0 300, mz_kz 1 2 100]) (st' := (81, [some (.inr (.inr (some (0, 300)))), some (.inl q2.1), some (.inl q4.1), some (.inl q6.1)], [.inl q6.1, .inl q4.1, .inl q2.1, .inr (.inr (some (2, 113)))], q6.2)) bX7_takesDebt_71 oX7_takesDebt_71 rfl ⟨rfl, rfl, trivial⟩ ?_
        obtain ⟨q8, hq8, h⟩ := mz_bd_some h
        refine mz_Go.callV (J := IX2_put) (as := [.inl q2.1, .inl q4.1, .inl q6.1]) (ci := 2) (g := 2) (o := 113) (idx := 156) (pl := 853) (rest := []) (mX2_put 2 q2.1 q4.1 q6.1 q6.2 rfl q8 hq8) kX2_put vX2_put (by decide +kernel) (by decide +kernel) (by decide +kernel) rfl rfl ⟨rfl, rfl⟩ rfl rfl rfl rfl ?_
        refine mz_Go.run (gs := []) (st' := (85, [some (.inr (.inr (some (0, 300)))), some (.inl q2.1), some (.inl q4.1), some (.inl q6.1)], [.inl (1 : Int32)], q8)) bX7_takesDebt_84 oX7_takesDebt_84 rfl trivial ?_
        cases h
        exact mz_Go.retz (by decide +kernel) rfl ⟨Nat.le_refl _, Nat.le_refl _⟩ (by decide) rfl
def bX7_takesSplit_0 : List mz_E := [(0, .aload_n 0, 0, 0, 0, 0, 0), (1, .getfield 162, 7, 2, 761, 0, 0), (4, .ifCond .eq 12, 0, 16, 0, 0, 0)]
theorem oX7_takesSplit_0 : bX7_takesSplit_0.all (mz_ok RX7 cX7_takesSplit 1) = true := by decide +kernel
def bX7_takesSplit_16 : List mz_E := [(16, .aload_n 0, 0, 0, 0, 0, 0), (17, .iconst 1, 0, 0, 0, 1, 0), (18, .putfield 162, 7, 2, 761, 0, 0), (21, .aload_n 0, 0, 0, 0, 0, 0), (22, .getfield 9, 7, 0, 759, 0, 0)]
theorem oX7_takesSplit_16 : bX7_takesSplit_16.all (mz_ok RX7 cX7_takesSplit 1) = true := by decide +kernel
def bX7_takesSplit_28 : List mz_E := [(28, .aload_n 0, 0, 0, 0, 0, 0), (29, .getfield 9, 7, 0, 759, 0, 0), (32, .getfield 25, 5, 2, 219, 0, 0)]
theorem oX7_takesSplit_28 : bX7_takesSplit_28.all (mz_ok RX7 cX7_takesSplit 1) = true := by decide +kernel
def bX7_takesSplit_60 : List mz_E := [(60, .aload_n 0, 0, 0, 0, 0, 0), (61, .getfield 15, 7, 1, 760, 0, 0), (64, .getfield 136, 6, 1, 481, 0, 0), (67, .iconst 0, 0, 0, 0, 0, 0), (68, .putfield 166, 1, 1, 356, 0, 0), (71, .goto 40, 0, 111, 0, 0, 0)]
theorem oX7_takesSplit_60 : bX7_takesSplit_60.all (mz_ok RX7 cX7_takesSplit 1) = true := by decide +kernel
def bX7_takesSplit_111 : List mz_E := [(111, .aload_n 0, 0, 0, 0, 0, 0), (112, .getfield 9, 7, 0, 759, 0, 0)]
theorem oX7_takesSplit_111 : bX7_takesSplit_111.all (mz_ok RX7 cX7_takesSplit 1) = true := by decide +kernel
def bX7_takesSplit_118 : List mz_E := [(118, .iconst 1, 0, 0, 0, 1, 0)]
theorem oX7_takesSplit_118 : bX7_takesSplit_118.all (mz_ok RX7 cX7_takesSplit 1) = true := by decide +kernel
def bX7_takesSplit_74 : List mz_E := [(74, .aload_n 0, 0, 0, 0, 0, 0), (75, .getfield 15, 7, 1, 760, 0, 0), (78, .getfield 136, 6, 1, 481, 0, 0), (81, .iconst 1, 0, 0, 0, 1, 0), (82, .putfield 166, 1, 1, 356, 0, 0), (85, .goto 26, 0, 111, 0, 0, 0)]
theorem oX7_takesSplit_74 : bX7_takesSplit_74.all (mz_ok RX7 cX7_takesSplit 1) = true := by decide +kernel
def bX7_takesSplit_88 : List mz_E := [(88, .aload_n 0, 0, 0, 0, 0, 0), (89, .getfield 15, 7, 1, 760, 0, 0), (92, .getfield 136, 6, 1, 481, 0, 0), (95, .iconst 2, 0, 0, 0, 2, 0), (96, .putfield 166, 1, 1, 356, 0, 0), (99, .goto 12, 0, 111, 0, 0, 0)]
theorem oX7_takesSplit_88 : bX7_takesSplit_88.all (mz_ok RX7 cX7_takesSplit 1) = true := by decide +kernel
def bX7_takesSplit_102 : List mz_E := [(102, .aload_n 0, 0, 0, 0, 0, 0), (103, .getfield 9, 7, 0, 759, 0, 0), (106, .iconst 2, 0, 0, 0, 2, 0)]
theorem oX7_takesSplit_102 : bX7_takesSplit_102.all (mz_ok RX7 cX7_takesSplit 1) = true := by decide +kernel
def bX7_takesSplit_7 : List mz_E := [(7, .aload_n 0, 0, 0, 0, 0, 0), (8, .getfield 9, 7, 0, 759, 0, 0), (11, .iconst 5, 0, 0, 0, 5, 0)]
theorem oX7_takesSplit_7 : bX7_takesSplit_7.all (mz_ok RX7 cX7_takesSplit 1) = true := by decide +kernel
abbrev IX7_takesSplit : mz_I := (yX7_takesSplit, cX7_takesSplit, 1, (some .boolean), 1, 2, 0, 0)
theorem kX7_takesSplit : mz_okm IX7_takesSplit 860 145 859 0 = true := by decide +kernel
theorem vX7_takesSplit : mz_okV IX7_takesSplit 859 12 = true := by decide +kernel
def fX7_takesSplit_111 (D : mz_D) : Option (Int32 × mz_D) := (Option.bind (fX5_advance D) fun q1 => (some ((1 : Int32), q1)))
set_option maxHeartbeats 4000000 in
theorem tX7_takesSplit_111 (r : (Int32 × mz_D)) : ∀ (D : mz_D), fX7_takesSplit_111 D = some r → mz_Go IX7_takesSplit (some (.inl r.1), r.2) 0 0 (111, [some (.inr (.inr (some (0, 300))))], [], D) := by
  intro D h
  rw [fX7_takesSplit_111] at h
  refine mz_Go.run (gs := [mz_kz 1 0 300]) (st' := (115, [some (.inr (.inr (some (0, 300))))], [.inr (.inr (some (0, 2)))], D)) bX7_takesSplit_111 oX7_takesSplit_111 rfl ⟨rfl, trivial⟩ ?_
  obtain ⟨q1, hq1, h⟩ := mz_bd_some h
  refine mz_Go.callV (J := IX5_advance) (as := []) (ci := 5) (g := 0) (o := 2) (idx := 78) (pl := 788) (rest := []) (mX5_advance D q1 hq1) kX5_advance vX5_advance (by decide +kernel) (by decide +kernel) (by decide +kernel) rfl rfl ⟨rfl, rfl⟩ rfl rfl rfl rfl ?_
  refine mz_Go.run (gs := []) (st' := (119, [some (.inr (.inr (some (0, 300))))], [.inl (1 : Int32)], q1)) bX7_takesSplit_118 oX7_takesSplit_118 rfl trivial ?_
  cases h
  exact mz_Go.retz (by decide +kernel) rfl ⟨Nat.le_refl _, Nat.le_refl _⟩ (by decide) rfl
def fX7_takesSplit (D : mz_D) : Option (Int32 × mz_D) := (if (D.1 0 300 2) = 0 then (Option.bind (fX5_advance (mz_wi D 0 300 2 (1 : Int32))) fun q2 => (if (q2.1 0 2 2) = (11 : Int32) then (fX7_takesSplit_111 (mz_wi q2 2 109 1 (0 : Int32))) else (if (q2.1 0 2 2) = (12 : Int32) then (fX7_takesSplit_111 (mz_wi q2 2 109 1 (1 : Int32))) else (if (q2.1 0 2 2) = (13 : Int32) then (fX7_takesSplit_111 (mz_wi q2 2 109 1 (2 : Int32))) else (Option.bind (fX5_fail (2 : Int32) q2) fun q6 => (mz_gd (mz_bo q6.1) (some (q6.1, q6.2)))))))) else (Option.bind (fX5_fail (5 : Int32) D) fun q8 => (mz_gd (mz_bo q8.1) (some (q8.1, q8.2)))))
set_option maxHeartbeats 4000000 in
theorem mX7_takesSplit (D : mz_D) (r : (Int32 × mz_D)) (h : fX7_takesSplit D = some r) : mz_Met IX7_takesSplit [.inr (.inr (some (0, 300)))] D (some (.inl r.1), r.2) := by
  refine mz_Met.of (by decide +kernel) (Nat.le_of_ble_eq_true rfl) ?_
  show mz_Go IX7_takesSplit (some (.inl r.1), r.2) 0 0 (0, [some (.inr (.inr (some (0, 300))))], [], D)
  rw [fX7_takesSplit] at h
  refine mz_Go.run (gs := [mz_kz 1 0 300]) (st' := (if (D.1 0 300 2) = 0 then (16, [some (.inr (.inr (some (0, 300))))], [], D) else (7, [some (.inr (.inr (some (0, 300))))], [], D))) bX7_takesSplit_0 oX7_takesSplit_0 rfl ⟨rfl, trivial⟩ ?_
  refine mz_Go.ite (fun hc1 => ?_) (fun hc1 => ?_)
  · have h := mz_ifp hc1 h
    refine mz_Go.run (gs := [mz_kz 1 0 300, mz_bo (1 : Int32), mz_kz 1 0 300]) (st' := (25, [some (.inr (.inr (some (0, 300))))], [.inr (.inr (some (0, 2)))], (mz_wi D 0 300 2 (1 : Int32)))) bX7_takesSplit_16 oX7_takesSplit_16 rfl ⟨rfl, (by decide), rfl, trivial⟩ ?_
    obtain ⟨q2, hq2, h⟩ := mz_bd_some h
    refine mz_Go.callV (J := IX5_advance) (as := []) (ci := 5) (g := 0) (o := 2) (idx := 78) (pl := 788) (rest := []) (mX5_advance (mz_wi D 0 300 2 (1 : Int32)) q2 hq2) kX5_advance vX5_advance (by decide +kernel) (by decide +kernel) (by decide +kernel) rfl rfl ⟨rfl, rfl⟩ rfl rfl rfl rfl ?_
    refine mz_Go.run (gs := [mz_kz 1 0 300, mz_kz 1 0 2]) (st' := (35, [some (.inr (.inr (some (0, 300))))], [.inl (q2.1 0 2 2)], q2)) bX7_takesSplit_28 oX7_takesSplit_28 rfl ⟨rfl, rfl, trivial⟩ ?_
    refine mz_Go.tsw [(11, 60), (12, 74), (13, 88)] 102 (show decode cX7_takesSplit 35 = .ok (.tableswitch 67 11 13 #[25, 39, 53], 25) by decide +kernel) (by decide +kernel) ?_
    refine mz_Go.swc (fun hc3 => ?_) (fun hc3 => ?_)
    · have h := mz_ifp hc3 h
      refine mz_Go.run (gs := [mz_kz 1 0 300, mz_kz 1 2 100, mz_kz 1 2 109]) (st' := (111, [some (.inr (.inr (some (0, 300))))], [], (mz_wi q2 2 109 1 (0 : Int32)))) bX7_takesSplit_60 oX7_takesSplit_60 rfl ⟨rfl, rfl, rfl, trivial⟩ ?_
      exact mz_Go.drop [true] (tX7_takesSplit_111 r (mz_wi q2 2 109 1 (0 : Int32)) h)
    · have h := mz_ifn hc3 h
      refine mz_Go.swc (fun hc4 => ?_) (fun hc4 => ?_)
      · have h := mz_ifp hc4 h
        refine mz_Go.run (gs := [mz_kz 1 0 300, mz_kz 1 2 100, mz_kz 1 2 109]) (st' := (111, [some (.inr (.inr (some (0, 300))))], [], (mz_wi q2 2 109 1 (1 : Int32)))) bX7_takesSplit_74 oX7_takesSplit_74 rfl ⟨rfl, rfl, rfl, trivial⟩ ?_
        exact mz_Go.drop [true] (tX7_takesSplit_111 r (mz_wi q2 2 109 1 (1 : Int32)) h)
      · have h := mz_ifn hc4 h
        refine mz_Go.swc (fun hc5 => ?_) (fun hc5 => ?_)
        · have h := mz_ifp hc5 h
          refine mz_Go.run (gs := [mz_kz 1 0 300, mz_kz 1 2 100, mz_kz 1 2 109]) (st' := (111, [some (.inr (.inr (some (0, 300))))], [], (mz_wi q2 2 109 1 (2 : Int32)))) bX7_takesSplit_88 oX7_takesSplit_88 rfl ⟨rfl, rfl, rfl, trivial⟩ ?_
          exact mz_Go.drop [true] (tX7_takesSplit_111 r (mz_wi q2 2 109 1 (2 : Int32)) h)
        · have h := mz_ifn hc5 h
          refine mz_Go.run (gs := [mz_kz 1 0 300]) (st' := (107, [some (.inr (.inr (some (0, 300))))], [.inl (2 : Int32), .inr (.inr (some (0, 2)))], q2)) bX7_takesSplit_102 oX7_takesSplit_102 rfl ⟨rfl, trivial⟩ ?_
          obtain ⟨q6, hq6, h⟩ := mz_bd_some h
          refine mz_Go.callV (J := IX5_fail) (as := [.inl (2 : Int32)]) (ci := 5) (g := 0) (o := 2) (idx := 47) (pl := 784) (rest := []) (mX5_fail (2 : Int32) q2 q6 hq6) kX5_fail vX5_fail (by decide +kernel) (by decide +kernel) (by decide +kernel) rfl rfl ⟨rfl, rfl⟩ rfl rfl rfl rfl ?_
          obtain ⟨hb7, h⟩ := mz_gd_some h
          cases h
          exact mz_Go.retz (by decide +kernel) rfl ⟨Nat.le_refl _, Nat.le_refl _⟩ hb7 rfl
  · have h := mz_ifn hc1 h
    refine mz_Go.run (gs := [mz_kz 1 0 300]) (st' := (12, [some (.inr (.inr (some (0, 300))))], [.inl (5 : Int32), .inr (.inr (some (0, 2)))], D)) bX7_takesSplit_7 oX7_takesSplit_7 rfl ⟨rfl, trivial⟩ ?_
    obtain ⟨q8, hq8, h⟩ := mz_bd_some h
    refine mz_Go.callV (J := IX5_fail) (as := [.inl (5 : Int32)]) (ci := 5) (g := 0) (o := 2) (idx := 47) (pl := 784) (rest := []) (mX5_fail (5 : Int32) D q8 hq8) kX5_fail vX5_fail (by decide +kernel) (by decide +kernel) (by decide +kernel) rfl rfl ⟨rfl, rfl⟩ rfl rfl rfl rfl ?_
    obtain ⟨hb9, h⟩ := mz_gd_some h
    cases h
    exact mz_Go.retz (by decide +kernel) rfl ⟨Nat.le_refl _, Nat.le_refl _⟩ hb9 rfl
def bX7_takesLaw_0 : List mz_E := [(0, .aload_n 0, 0, 0, 0, 0, 0), (1, .getfield 169, 7, 3, 762, 0, 0), (4, .ifCond .eq 12, 0, 16, 0, 0, 0)]
theorem oX7_takesLaw_0 : bX7_takesLaw_0.all (mz_ok RX7 cX7_takesLaw 1) = true := by decide +kernel
def bX7_takesLaw_16 : List mz_E := [(16, .aload_n 0, 0, 0, 0, 0, 0), (17, .iconst 1, 0, 0, 0, 1, 0), (18, .putfield 169, 7, 3, 762, 0, 0), (21, .aload_n 0, 0, 0, 0, 0, 0), (22, .getfield 9, 7, 0, 759, 0, 0)]
theorem oX7_takesLaw_16 : bX7_takesLaw_16.all (mz_ok RX7 cX7_takesLaw 1) = true := by decide +kernel
def bX7_takesLaw_28 : List mz_E := [(28, .aload_n 0, 0, 0, 0, 0, 0), (29, .getfield 9, 7, 0, 759, 0, 0), (32, .getfield 25, 5, 2, 219, 0, 0)]
theorem oX7_takesLaw_28 : bX7_takesLaw_28.all (mz_ok RX7 cX7_takesLaw 1) = true := by decide +kernel
def bX7_takesLaw_109 : List mz_E := [(109, .aload_n 0, 0, 0, 0, 0, 0), (110, .getfield 15, 7, 1, 760, 0, 0), (113, .iconst 3, 0, 0, 0, 3, 0), (114, .putfield 172, 6, 5, 495, 0, 0), (117, .goto 12, 0, 129, 0, 0, 0)]
theorem oX7_takesLaw_109 : bX7_takesLaw_109.all (mz_ok RX7 cX7_takesLaw 1) = true := by decide +kernel
def bX7_takesLaw_129 : List mz_E := [(129, .aload_n 0, 0, 0, 0, 0, 0), (130, .getfield 9, 7, 0, 759, 0, 0)]
theorem oX7_takesLaw_129 : bX7_takesLaw_129.all (mz_ok RX7 cX7_takesLaw 1) = true := by decide +kernel
def bX7_takesLaw_136 : List mz_E := [(136, .iconst 1, 0, 0, 0, 1, 0)]
theorem oX7_takesLaw_136 : bX7_takesLaw_136.all (mz_ok RX7 cX7_takesLaw 1) = true := by decide +kernel
def bX7_takesLaw_98 : List mz_E := [(98, .aload_n 0, 0, 0, 0, 0, 0), (99, .getfield 15, 7, 1, 760, 0, 0), (102, .iconst 2, 0, 0, 0, 2, 0), (103, .putfield 172, 6, 5, 495, 0, 0), (106, .goto 23, 0, 129, 0, 0, 0)]
theorem oX7_takesLaw_98 : bX7_takesLaw_98.all (mz_ok RX7 cX7_takesLaw 1) = true := by decide +kernel
def bX7_takesLaw_76 : List mz_E := [(76, .aload_n 0, 0, 0, 0, 0, 0), (77, .getfield 15, 7, 1, 760, 0, 0), (80, .iconst 0, 0, 0, 0, 0, 0), (81, .putfield 172, 6, 5, 495, 0, 0), (84, .goto 45, 0, 129, 0, 0, 0)]
theorem oX7_takesLaw_76 : bX7_takesLaw_76.all (mz_ok RX7 cX7_takesLaw 1) = true := by decide +kernel
def bX7_takesLaw_87 : List mz_E := [(87, .aload_n 0, 0, 0, 0, 0, 0), (88, .getfield 15, 7, 1, 760, 0, 0), (91, .iconst 1, 0, 0, 0, 1, 0), (92, .putfield 172, 6, 5, 495, 0, 0), (95, .goto 34, 0, 129, 0, 0, 0)]
theorem oX7_takesLaw_87 : bX7_takesLaw_87.all (mz_ok RX7 cX7_takesLaw 1) = true := by decide +kernel
def bX7_takesLaw_120 : List mz_E := [(120, .aload_n 0, 0, 0, 0, 0, 0), (121, .getfield 9, 7, 0, 759, 0, 0), (124, .iconst 2, 0, 0, 0, 2, 0)]
theorem oX7_takesLaw_120 : bX7_takesLaw_120.all (mz_ok RX7 cX7_takesLaw 1) = true := by decide +kernel
def bX7_takesLaw_7 : List mz_E := [(7, .aload_n 0, 0, 0, 0, 0, 0), (8, .getfield 9, 7, 0, 759, 0, 0), (11, .iconst 5, 0, 0, 0, 5, 0)]
theorem oX7_takesLaw_7 : bX7_takesLaw_7.all (mz_ok RX7 cX7_takesLaw 1) = true := by decide +kernel
abbrev IX7_takesLaw : mz_I := (yX7_takesLaw, cX7_takesLaw, 1, (some .boolean), 1, 2, 0, 0)
theorem kX7_takesLaw : mz_okm IX7_takesLaw 864 145 863 0 = true := by decide +kernel
theorem vX7_takesLaw : mz_okV IX7_takesLaw 863 13 = true := by decide +kernel
def fX7_takesLaw_129 (D : mz_D) : Option (Int32 × mz_D) := (Option.bind (fX5_advance D) fun q1 => (some ((1 : Int32), q1)))
set_option maxHeartbeats 4000000 in
theorem tX7_takesLaw_129 (r : (Int32 × mz_D)) : ∀ (D : mz_D), fX7_takesLaw_129 D = some r → mz_Go IX7_takesLaw (some (.inl r.1), r.2) 0 0 (129, [some (.inr (.inr (some (0, 300))))], [], D) := by
  intro D h
  rw [fX7_takesLaw_129] at h
  refine mz_Go.run (gs := [mz_kz 1 0 300]) (st' := (133, [some (.inr (.inr (some (0, 300))))], [.inr (.inr (some (0, 2)))], D)) bX7_takesLaw_129 oX7_takesLaw_129 rfl ⟨rfl, trivial⟩ ?_
  obtain ⟨q1, hq1, h⟩ := mz_bd_some h
  refine mz_Go.callV (J := IX5_advance) (as := []) (ci := 5) (g := 0) (o := 2) (idx := 78) (pl := 788) (rest := []) (mX5_advance D q1 hq1) kX5_advance vX5_advance (by decide +kernel) (by decide +kernel) (by decide +kernel) rfl rfl ⟨rfl, rfl⟩ rfl rfl rfl rfl ?_
  refine mz_Go.run (gs := []) (st' := (137, [some (.inr (.inr (some (0, 300))))], [.inl (1 : Int32)], q1)) bX7_takesLaw_136 oX7_takesLaw_136 rfl trivial ?_
  cases h
  exact mz_Go.retz (by decide +kernel) rfl ⟨Nat.le_refl _, Nat.le_refl _⟩ (by decide) rfl
def fX7_takesLaw (D : mz_D) : Option (Int32 × mz_D) := (if (D.1 0 300 3) = 0 then (Option.bind (fX5_advance (mz_wi D 0 300 3 (1 : Int32))) fun q2 => (if (q2.1 0 2 2) = (1 : Int32) then (fX7_takesLaw_129 (mz_wi q2 2 100 5 (3 : Int32))) else (if (q2.1 0 2 2) = (2 : Int32) then (fX7_takesLaw_129 (mz_wi q2 2 100 5 (2 : Int32))) else (if (q2.1 0 2 2) = (15 : Int32) then (fX7_takesLaw_129 (mz_wi q2 2 100 5 (0 : Int32))) else (if (q2.1 0 2 2) = (16 : Int32) then (fX7_takesLaw_129 (mz_wi q2 2 100 5 (1 : Int32))) else (Option.bind (fX5_fail (2 : Int32) q2) fun q7 => (mz_gd (mz_bo q7.1) (some (q7.1, q7.2))))))))) else (Option.bind (fX5_fail (5 : Int32) D) fun q9 => (mz_gd (mz_bo q9.1) (some (q9.1, q9.2)))))
set_option maxHeartbeats 4000000 in
theorem mX7_takesLaw (D : mz_D) (r : (Int32 × mz_D)) (h : fX7_takesLaw D = some r) : mz_Met IX7_takesLaw [.inr (.inr (some (0, 300)))] D (some (.inl r.1), r.2) := by
  refine mz_Met.of (by decide +kernel) (Nat.le_of_ble_eq_true rfl) ?_
  show mz_Go IX7_takesLaw (some (.inl r.1), r.2) 0 0 (0, [some (.inr (.inr (some (0, 300))))], [], D)
  rw [fX7_takesLaw] at h
  refine mz_Go.run (gs := [mz_kz 1 0 300]) (st' := (if (D.1 0 300 3) = 0 then (16, [some (.inr (.inr (some (0, 300))))], [], D) else (7, [some (.inr (.inr (some (0, 300))))], [], D))) bX7_takesLaw_0 oX7_takesLaw_0 rfl ⟨rfl, trivial⟩ ?_
  refine mz_Go.ite (fun hc1 => ?_) (fun hc1 => ?_)
  · have h := mz_ifp hc1 h
    refine mz_Go.run (gs := [mz_kz 1 0 300, mz_bo (1 : Int32), mz_kz 1 0 300]) (st' := (25, [some (.inr (.inr (some (0, 300))))], [.inr (.inr (some (0, 2)))], (mz_wi D 0 300 3 (1 : Int32)))) bX7_takesLaw_16 oX7_takesLaw_16 rfl ⟨rfl, (by decide), rfl, trivial⟩ ?_
    obtain ⟨q2, hq2, h⟩ := mz_bd_some h
    refine mz_Go.callV (J := IX5_advance) (as := []) (ci := 5) (g := 0) (o := 2) (idx := 78) (pl := 788) (rest := []) (mX5_advance (mz_wi D 0 300 3 (1 : Int32)) q2 hq2) kX5_advance vX5_advance (by decide +kernel) (by decide +kernel) (by decide +kernel) rfl rfl ⟨rfl, rfl⟩ rfl rfl rfl rfl ?_
    refine mz_Go.run (gs := [mz_kz 1 0 300, mz_kz 1 0 2]) (st' := (35, [some (.inr (.inr (some (0, 300))))], [.inl (q2.1 0 2 2)], q2)) bX7_takesLaw_28 oX7_takesLaw_28 rfl ⟨rfl, rfl, trivial⟩ ?_
    refine mz_Go.lsw [(1, 109), (2, 98), (15, 76), (16, 87)] 120 (show decode cX7_takesLaw 35 = .ok (.lookupswitch 85 #[(1, 74), (2, 63), (15, 41), (16, 52)], 41) by decide +kernel) (by decide +kernel) ?_
    refine mz_Go.swc (fun hc3 => ?_) (fun hc3 => ?_)
    · have h := mz_ifp hc3 h
      refine mz_Go.run (gs := [mz_kz 1 0 300, mz_kz 1 2 100]) (st' := (129, [some (.inr (.inr (some (0, 300))))], [], (mz_wi q2 2 100 5 (3 : Int32)))) bX7_takesLaw_109 oX7_takesLaw_109 rfl ⟨rfl, rfl, trivial⟩ ?_
      exact mz_Go.drop [true] (tX7_takesLaw_129 r (mz_wi q2 2 100 5 (3 : Int32)) h)
    · have h := mz_ifn hc3 h
      refine mz_Go.swc (fun hc4 => ?_) (fun hc4 => ?_)
      · have h := mz_ifp hc4 h
        refine mz_Go.run (gs := [mz_kz 1 0 300, mz_kz 1 2 100]) (st' := (129, [some (.inr (.inr (some (0, 300))))], [], (mz_wi q2 2 100 5 (2 : Int32)))) bX7_takesLaw_98 oX7_takesLaw_98 rfl ⟨rfl, rfl, trivial⟩ ?_
        exact mz_Go.drop [true] (tX7_takesLaw_129 r (mz_wi q2 2 100 5 (2 : Int32)) h)
      · have h := mz_ifn hc4 h
        refine mz_Go.swc (fun hc5 => ?_) (fun hc5 => ?_)
        · have h := mz_ifp hc5 h
          refine mz_Go.run (gs := [mz_kz 1 0 300, mz_kz 1 2 100]) (st' := (129, [some (.inr (.inr (some (0, 300))))], [], (mz_wi q2 2 100 5 (0 : Int32)))) bX7_takesLaw_76 oX7_takesLaw_76 rfl ⟨rfl, rfl, trivial⟩ ?_
          exact mz_Go.drop [true] (tX7_takesLaw_129 r (mz_wi q2 2 100 5 (0 : Int32)) h)
        · have h := mz_ifn hc5 h
          refine mz_Go.swc (fun hc6 => ?_) (fun hc6 => ?_)
          · have h := mz_ifp hc6 h
            refine mz_Go.run (gs := [mz_kz 1 0 300, mz_kz 1 2 100]) (st' := (129, [some (.inr (.inr (some (0, 300))))], [], (mz_wi q2 2 100 5 (1 : Int32)))) bX7_takesLaw_87 oX7_takesLaw_87 rfl ⟨rfl, rfl, trivial⟩ ?_
            exact mz_Go.drop [true] (tX7_takesLaw_129 r (mz_wi q2 2 100 5 (1 : Int32)) h)
          · have h := mz_ifn hc6 h
            refine mz_Go.run (gs := [mz_kz 1 0 300]) (st' := (125, [some (.inr (.inr (some (0, 300))))], [.inl (2 : Int32), .inr (.inr (some (0, 2)))], q2)) bX7_takesLaw_120 oX7_takesLaw_120 rfl ⟨rfl, trivial⟩ ?_
            obtain ⟨q7, hq7, h⟩ := mz_bd_some h
            refine mz_Go.callV (J := IX5_fail) (as := [.inl (2 : Int32)]) (ci := 5) (g := 0) (o := 2) (idx := 47) (pl := 784) (rest := []) (mX5_fail (2 : Int32) q2 q7 hq7) kX5_fail vX5_fail (by decide +kernel) (by decide +kernel) (by decide +kernel) rfl rfl ⟨rfl, rfl⟩ rfl rfl rfl rfl ?_
            obtain ⟨hb8, h⟩ := mz_gd_some h
            cases h
            exact mz_Go.retz (by decide +kernel) rfl ⟨Nat.le_refl _, Nat.le_refl _⟩ hb8 rfl
  · have h := mz_ifn hc1 h
    refine mz_Go.run (gs := [mz_kz 1 0 300]) (st' := (12, [some (.inr (.inr (some (0, 300))))], [.inl (5 : Int32), .inr (.inr (some (0, 2)))], D)) bX7_takesLaw_7 oX7_takesLaw_7 rfl ⟨rfl, trivial⟩ ?_
    obtain ⟨q9, hq9, h⟩ := mz_bd_some h
    refine mz_Go.callV (J := IX5_fail) (as := [.inl (5 : Int32)]) (ci := 5) (g := 0) (o := 2) (idx := 47) (pl := 784) (rest := []) (mX5_fail (5 : Int32) D q9 hq9) kX5_fail vX5_fail (by decide +kernel) (by decide +kernel) (by decide +kernel) rfl rfl ⟨rfl, rfl⟩ rfl rfl rfl rfl ?_
    obtain ⟨hb10, h⟩ := mz_gd_some h
    cases h
    exact mz_Go.retz (by decide +kernel) rfl ⟨Nat.le_refl _, Nat.le_refl _⟩ hb10 rfl
def bX7_isTaken_0 : List mz_E := [(0, .iconst 1, 0, 0, 0, 1, 0), (1, .istore_n 1, 0, 0, 0, 0, 0), (2, .iconst 0, 0, 0, 0, 0, 0), (3, .istore_n 2, 0, 0, 0, 0, 0)]
theorem oX7_isTaken_0 : bX7_isTaken_0.all (mz_ok RX7 cX7_isTaken 3) = true := by decide +kernel
def bX7_isTaken_4 : List mz_E := [(4, .iload_n 2, 0, 0, 0, 0, 0), (5, .sipush 900, 0, 0, 0, 900, 0), (8, .if_icmp .ge 183, 0, 191, 0, 0, 0)]
theorem oX7_isTaken_4 : bX7_isTaken_4.all (mz_ok RX7 cX7_isTaken 3) = true := by decide +kernel
def bX7_isTaken_191 : List mz_E := [(191, .aload_n 0, 0, 0, 0, 0, 0), (192, .getfield 15, 7, 1, 760, 0, 0), (195, .getfield 54, 6, 3, 488, 0, 0), (198, .aload_n 0, 0, 0, 0, 0, 0), (199, .getfield 15, 7, 1, 760, 0, 0), (202, .getfield 60, 6, 0, 476, 0, 0)]
theorem oX7_isTaken_191 : bX7_isTaken_191.all (mz_ok RX7 cX7_isTaken 3) = true := by decide +kernel
def bX7_isTaken_208 : List mz_E := [(208, .putfield 70, 0, 0, 409, 0, 0), (211, .iload_n 1, 0, 0, 0, 0, 0)]
theorem oX7_isTaken_208 : bX7_isTaken_208.all (mz_ok RX7 cX7_isTaken 3) = true := by decide +kernel
def bX7_isTaken_11 : List mz_E := [(11, .iload_n 1, 0, 0, 0, 0, 0), (12, .ifCond .eq 179, 0, 191, 0, 0, 0)]
theorem oX7_isTaken_11 : bX7_isTaken_11.all (mz_ok RX7 cX7_isTaken 3) = true := by decide +kernel
def bX7_isTaken_15 : List mz_E := [(15, .aload_n 0, 0, 0, 0, 0, 0), (16, .getfield 9, 7, 0, 759, 0, 0)]
theorem oX7_isTaken_15 : bX7_isTaken_15.all (mz_ok RX7 cX7_isTaken 3) = true := by decide +kernel
def bX7_isTaken_22 : List mz_E := [(22, .ifCond .ne 169, 0, 191, 0, 0, 0)]
theorem oX7_isTaken_22 : bX7_isTaken_22.all (mz_ok RX7 cX7_isTaken 3) = true := by decide +kernel
def bX7_isTaken_25 : List mz_E := [(25, .aload_n 0, 0, 0, 0, 0, 0), (26, .getfield 9, 7, 0, 759, 0, 0), (29, .getfield 25, 5, 2, 219, 0, 0)]
theorem oX7_isTaken_25 : bX7_isTaken_25.all (mz_ok RX7 cX7_isTaken 3) = true := by decide +kernel
def bX7_isTaken_108 : List mz_E := [(108, .aload_n 0, 0, 0, 0, 0, 0)]
theorem oX7_isTaken_108 : bX7_isTaken_108.all (mz_ok RX7 cX7_isTaken 3) = true := by decide +kernel
def bX7_isTaken_112 : List mz_E := [(112, .istore_n 1, 0, 0, 0, 0, 0), (113, .goto 52, 0, 165, 0, 0, 0)]
theorem oX7_isTaken_112 : bX7_isTaken_112.all (mz_ok RX7 cX7_isTaken 3) = true := by decide +kernel
def bX7_isTaken_165 : List mz_E := [(165, .iload_n 1, 0, 0, 0, 0, 0), (166, .ifCond .eq 17, 0, 183, 0, 0, 0)]
theorem oX7_isTaken_165 : bX7_isTaken_165.all (mz_ok RX7 cX7_isTaken 3) = true := by decide +kernel
def bX7_isTaken_183 : List mz_E := [(183, .iconst 0, 0, 0, 0, 0, 0), (184, .istore_n 1, 0, 0, 0, 0, 0), (185, .iinc 2 1, 0, 0, 0, 1, 0), (188, .goto (-184), 0, 4, 0, 0, 0)]
theorem oX7_isTaken_183 : bX7_isTaken_183.all (mz_ok RX7 cX7_isTaken 3) = true := by decide +kernel
def bX7_isTaken_169 : List mz_E := [(169, .aload_n 0, 0, 0, 0, 0, 0), (170, .getfield 9, 7, 0, 759, 0, 0)]
theorem oX7_isTaken_169 : bX7_isTaken_169.all (mz_ok RX7 cX7_isTaken 3) = true := by decide +kernel
def bX7_isTaken_176 : List mz_E := [(176, .ifCond .eq 7, 0, 183, 0, 0, 0)]
theorem oX7_isTaken_176 : bX7_isTaken_176.all (mz_ok RX7 cX7_isTaken 3) = true := by decide +kernel
def bX7_isTaken_179 : List mz_E := [(179, .iconst 1, 0, 0, 0, 1, 0), (180, .goto 4, 0, 184, 0, 0, 0), (184, .istore_n 1, 0, 0, 0, 0, 0), (185, .iinc 2 1, 0, 0, 0, 1, 0), (188, .goto (-184), 0, 4, 0, 0, 0)]
theorem oX7_isTaken_179 : bX7_isTaken_179.all (mz_ok RX7 cX7_isTaken 3) = true := by decide +kernel
def bX7_isTaken_156 : List mz_E := [(156, .aload_n 0, 0, 0, 0, 0, 0), (157, .getfield 9, 7, 0, 759, 0, 0), (160, .iconst 2, 0, 0, 0, 2, 0)]
theorem oX7_isTaken_156 : bX7_isTaken_156.all (mz_ok RX7 cX7_isTaken 3) = true := by decide +kernel
def bX7_isTaken_164 : List mz_E := [(164, .istore_n 1, 0, 0, 0, 0, 0)]
theorem oX7_isTaken_164 : bX7_isTaken_164.all (mz_ok RX7 cX7_isTaken 3) = true := by decide +kernel
def bX7_isTaken_116 : List mz_E := [(116, .aload_n 0, 0, 0, 0, 0, 0)]
theorem oX7_isTaken_116 : bX7_isTaken_116.all (mz_ok RX7 cX7_isTaken 3) = true := by decide +kernel
def bX7_isTaken_120 : List mz_E := [(120, .istore_n 1, 0, 0, 0, 0, 0), (121, .goto 44, 0, 165, 0, 0, 0)]
theorem oX7_isTaken_120 : bX7_isTaken_120.all (mz_ok RX7 cX7_isTaken 3) = true := by decide +kernel
def bX7_isTaken_124 : List mz_E := [(124, .aload_n 0, 0, 0, 0, 0, 0)]
theorem oX7_isTaken_124 : bX7_isTaken_124.all (mz_ok RX7 cX7_isTaken 3) = true := by decide +kernel
def bX7_isTaken_128 : List mz_E := [(128, .istore_n 1, 0, 0, 0, 0, 0), (129, .goto 36, 0, 165, 0, 0, 0)]
theorem oX7_isTaken_128 : bX7_isTaken_128.all (mz_ok RX7 cX7_isTaken 3) = true := by decide +kernel
def bX7_isTaken_132 : List mz_E := [(132, .aload_n 0, 0, 0, 0, 0, 0)]
theorem oX7_isTaken_132 : bX7_isTaken_132.all (mz_ok RX7 cX7_isTaken 3) = true := by decide +kernel
def bX7_isTaken_136 : List mz_E := [(136, .istore_n 1, 0, 0, 0, 0, 0), (137, .goto 28, 0, 165, 0, 0, 0)]
theorem oX7_isTaken_136 : bX7_isTaken_136.all (mz_ok RX7 cX7_isTaken 3) = true := by decide +kernel
def bX7_isTaken_140 : List mz_E := [(140, .aload_n 0, 0, 0, 0, 0, 0)]
theorem oX7_isTaken_140 : bX7_isTaken_140.all (mz_ok RX7 cX7_isTaken 3) = true := by decide +kernel
def bX7_isTaken_144 : List mz_E := [(144, .istore_n 1, 0, 0, 0, 0, 0), (145, .goto 20, 0, 165, 0, 0, 0)]
theorem oX7_isTaken_144 : bX7_isTaken_144.all (mz_ok RX7 cX7_isTaken 3) = true := by decide +kernel
def bX7_isTaken_148 : List mz_E := [(148, .aload_n 0, 0, 0, 0, 0, 0)]
theorem oX7_isTaken_148 : bX7_isTaken_148.all (mz_ok RX7 cX7_isTaken 3) = true := by decide +kernel
def bX7_isTaken_152 : List mz_E := [(152, .istore_n 1, 0, 0, 0, 0, 0), (153, .goto 12, 0, 165, 0, 0, 0)]
theorem oX7_isTaken_152 : bX7_isTaken_152.all (mz_ok RX7 cX7_isTaken 3) = true := by decide +kernel
abbrev IX7_isTaken : mz_I := (yX7_isTaken, cX7_isTaken, 3, (some .boolean), 1, 5, 0, 0)
theorem kX7_isTaken : mz_okm IX7_isTaken 775 145 773 0 = true := by decide +kernel
theorem vX7_isTaken : mz_okV IX7_isTaken 773 774 = true := by decide +kernel
def fX7_isTaken_191 (x1 : Int32) (D : mz_D) : Option (Int32 × mz_D) := (mz_gd (mz_bo x1) (some (x1, (mz_wi D 2 117 0 (((1 : Int32) <<< ((D.1 2 101 0) &&& 31)) - (1 : Int32))))))
set_option maxHeartbeats 4000000 in
theorem tX7_isTaken_191 (r : (Int32 × mz_D)) : ∀ (x1 : Int32) (D : mz_D), fX7_isTaken_191 x1 D = some r → mz_Go IX7_isTaken (some (.inl r.1), r.2) 0 0 (191, [some (.inr (.inr (some (0, 300)))), some (.inl x1), none], [], D) := by
  intro x1 D h
  rw [fX7_isTaken_191] at h
  refine mz_Go.run (gs := [mz_kz 1 0 300, mz_kz 1 2 100, mz_kz 1 0 300, mz_kz 1 2 100]) (st' := (205, [some (.inr (.inr (some (0, 300)))), some (.inl x1), none], [.inr (.inr (some (2, 101))), .inr (.inr (some (2, 117)))], D)) bX7_isTaken_191 oX7_isTaken_191 rfl ⟨rfl, rfl, rfl, rfl, trivial⟩ ?_
  refine mz_Go.callV (J := IX4_everyone) (as := []) (ci := 4) (g := 2) (o := 101) (idx := 64) (pl := 873) (rest := [.inr (.inr (some (2, 117)))]) (mX4_everyone 2 D rfl) kX4_everyone vX4_everyone (by decide +kernel) (by decide +kernel) (by decide +kernel) rfl rfl ⟨rfl, rfl⟩ rfl rfl rfl rfl ?_
  refine mz_Go.run (gs := [mz_kz 1 2 117]) (st' := (212, [some (.inr (.inr (some (0, 300)))), some (.inl x1), none], [.inl x1], (mz_wi D 2 117 0 (((1 : Int32) <<< ((D.1 2 101 0) &&& 31)) - (1 : Int32))))) bX7_isTaken_208 oX7_isTaken_208 rfl ⟨rfl, trivial⟩ ?_
  obtain ⟨hb1, h⟩ := mz_gd_some h
  cases h
  exact mz_Go.retz (by decide +kernel) rfl ⟨Nat.le_refl _, Nat.le_refl _⟩ hb1 rfl
def fX7_isTaken_183 (k4 : Int32 → Int32 → mz_D → Option (Int32 × mz_D)) (x2 : Int32) (D : mz_D) : Option (Int32 × mz_D) := (k4 (0 : Int32) (x2 + (1 : Int32)) D)
set_option maxHeartbeats 4000000 in
theorem tX7_isTaken_183 (r : (Int32 × mz_D)) (k4 : Int32 → Int32 → mz_D → Option (Int32 × mz_D)) (hk4 : ∀ (x1 : Int32) (x2 : Int32) (D : mz_D), k4 x1 x2 D = some r → mz_Go IX7_isTaken (some (.inl r.1), r.2) 0 0 (4, [some (.inr (.inr (some (0, 300)))), some (.inl x1), some (.inl x2)], [], D)) : ∀ (x2 : Int32) (D : mz_D), fX7_isTaken_183 k4 x2 D = some r → mz_Go IX7_isTaken (some (.inl r.1), r.2) 0 0 (183, [some (.inr (.inr (some (0, 300)))), none, some (.inl x2)], [], D) := by
  intro x2 D h
  rw [fX7_isTaken_183] at h
  refine mz_Go.run (gs := []) (st' := (4, [some (.inr (.inr (some (0, 300)))), some (.inl (0 : Int32)), some (.inl (x2 + (1 : Int32)))], [], D)) bX7_isTaken_183 oX7_isTaken_183 rfl trivial ?_
  exact mz_Go.drop [true, true, true] (hk4 (0 : Int32) (x2 + (1 : Int32)) D h)
def fX7_isTaken_165 (k4 : Int32 → Int32 → mz_D → Option (Int32 × mz_D)) (x1 : Int32) (x2 : Int32) (D : mz_D) : Option (Int32 × mz_D) := (if x1 = 0 then (fX7_isTaken_183 k4 x2 D) else (Option.bind (fX5_takesSemicolon D) fun q2 => (if q2.1 = 0 then (fX7_isTaken_183 k4 x2 q2.2) else (k4 (1 : Int32) (x2 + (1 : Int32)) q2.2))))
set_option maxHeartbeats 4000000 in
theorem tX7_isTaken_165 (r : (Int32 × mz_D)) (k4 : Int32 → Int32 → mz_D → Option (Int32 × mz_D)) (hk4 : ∀ (x1 : Int32) (x2 : Int32) (D : mz_D), k4 x1 x2 D = some r → mz_Go IX7_isTaken (some (.inl r.1), r.2) 0 0 (4, [some (.inr (.inr (some (0, 300)))), some (.inl x1), some (.inl x2)], [], D)) : ∀ (x1 : Int32) (x2 : Int32) (D : mz_D), fX7_isTaken_165 k4 x1 x2 D = some r → mz_Go IX7_isTaken (some (.inl r.1), r.2) 0 0 (165, [some (.inr (.inr (some (0, 300)))), some (.inl x1), some (.inl x2)], [], D) := by
  intro x1 x2 D h
  rw [fX7_isTaken_165] at h
  refine mz_Go.run (gs := []) (st' := (if x1 = 0 then (183, [some (.inr (.inr (some (0, 300)))), some (.inl x1), some (.inl x2)], [], D) else (169, [some (.inr (.inr (some (0, 300)))), some (.inl x1), some (.inl x2)], [], D))) bX7_isTaken_165 oX7_isTaken_165 rfl trivial ?_
  refine mz_Go.ite (fun hc1 => ?_) (fun hc1 => ?_)
  · have h := mz_ifp hc1 h
    exact mz_Go.drop [true, false, true] (tX7_isTaken_183 r k4 hk4 x2 D h)
  · have h := mz_ifn hc1 h
    refine mz_Go.run (gs := [mz_kz 1 0 300]) (st' := (173, [some (.inr (.inr (some (0, 300)))), some (.inl x1), some (.inl x2)], [.inr (.inr (some (0, 2)))], D)) bX7_isTaken_169 oX7_isTaken_169 rfl ⟨rfl, trivial⟩ ?_
    obtain ⟨q2, hq2, h⟩ := mz_bd_some h
    refine mz_Go.callV (J := IX5_takesSemicolon) (as := []) (ci := 5) (g := 0) (o := 2) (idx := 51) (pl := 865) (rest := []) (mX5_takesSemicolon D q2 hq2) kX5_takesSemicolon vX5_takesSemicolon (by decide +kernel) (by decide +kernel) (by decide +kernel) rfl rfl ⟨rfl, rfl⟩ rfl rfl rfl rfl ?_
    refine mz_Go.run (gs := []) (st' := (if q2.1 = 0 then (183, [some (.inr (.inr (some (0, 300)))), some (.inl x1), some (.inl x2)], [], q2.2) else (179, [some (.inr (.inr (some (0, 300)))), some (.inl x1), some (.inl x2)], [], q2.2))) bX7_isTaken_176 oX7_isTaken_176 rfl trivial ?_
    refine mz_Go.ite (fun hc3 => ?_) (fun hc3 => ?_)
    · have h := mz_ifp hc3 h
      exact mz_Go.drop [true, false, true] (tX7_isTaken_183 r k4 hk4 x2 q2.2 h)
    · have h := mz_ifn hc3 h
      refine mz_Go.run (gs := []) (st' := (4, [some (.inr (.inr (some (0, 300)))), some (.inl (1 : Int32)), some (.inl (x2 + (1 : Int32)))], [], q2.2)) bX7_isTaken_179 oX7_isTaken_179 rfl trivial ?_
      exact mz_Go.drop [true, true, true] (hk4 (1 : Int32) (x2 + (1 : Int32)) q2.2 h)
def fX7_isTaken_4 : Nat → Int32 → Int32 → mz_D → Option (Int32 × mz_D)
  | 0 => fun _ _ _ => none
  | n + 1 => fun x1 x2 D => (if (900 : Int32) ≤ x2 then (fX7_isTaken_191 x1 D) else (if x1 = 0 then (fX7_isTaken_191 x1 D) else (if (fX5_isOver D) = 0 then (if (D.1 0 2 2) = (0 : Int32) then (Option.bind (fX7_takesNewcomer D) fun q5 => (fX7_isTaken_165 (fX7_isTaken_4 n) q5.1 x2 q5.2)) else (if (D.1 0 2 2) = (1 : Int32) then (Option.bind (fX5_fail (2 : Int32) D) fun q7 => (fX7_isTaken_165 (fX7_isTaken_4 n) q7.1 x2 q7.2)) else (if (D.1 0 2 2) = (2 : Int32) then (Option.bind (fX5_fail (2 : Int32) D) fun q9 => (fX7_isTaken_165 (fX7_isTaken_4 n) q9.1 x2 q9.2)) else (if (D.1 0 2 2) = (3 : Int32) then (Option.bind (fX5_fail (2 : Int32) D) fun q11 => (fX7_isTaken_165 (fX7_isTaken_4 n) q11.1 x2 q11.2)) else (if (D.1 0 2 2) = (4 : Int32) then (Option.bind (fX5_fail (2 : Int32) D) fun q13 => (fX7_isTaken_165 (fX7_isTaken_4 n) q13.1 x2 q13.2)) else (if (D.1 0 2 2) = (5 : Int32) then (Option.bind (fX5_fail (2 : Int32) D) fun q15 => (fX7_isTaken_165 (fX7_isTaken_4 n) q15.1 x2 q15.2)) else (if (D.1 0 2 2) = (6 : Int32) then (Option.bind (fX7_takesCouple D) fun q17 => (fX7_isTaken_165 (fX7_isTaken_4 n) q17.1 x2 q17.2)) else (if (D.1 0 2 2) = (7 : Int32) then (Option.bind (fX7_takesDish D) fun q19 => (fX7_isTaken_165 (fX7_isTaken_4 n) q19.1 x2 q19.2)) else (if (D.1 0 2 2) = (8 : Int32) then (Option.bind (fX5_fail (2 : Int32) D) fun q21 => (fX7_isTaken_165 (fX7_isTaken_4 n) q21.1 x2 q21.2)) else (if (D.1 0 2 2) = (9 : Int32) then (Option.bind (fX7_takesDebt D) fun q23 => (fX7_isTaken_165 (fX7_isTaken_4 n) q23.1 x2 q23.2)) else (if (D.1 0 2 2) = (10 : Int32) then (Option.bind (fX7_takesSplit D) fun q25 => (fX7_isTaken_165 (fX7_isTaken_4 n) q25.1 x2 q25.2)) else (if (D.1 0 2 2) = (11 : Int32) then (Option.bind (fX5_fail (2 : Int32) D) fun q27 => (fX7_isTaken_165 (fX7_isTaken_4 n) q27.1 x2 q27.2)) else (if (D.1 0 2 2) = (12 : Int32) then (Option.bind (fX5_fail (2 : Int32) D) fun q29 => (fX7_isTaken_165 (fX7_isTaken_4 n) q29.1 x2 q29.2)) else (if (D.1 0 2 2) = (13 : Int32) then (Option.bind (fX5_fail (2 : Int32) D) fun q31 => (fX7_isTaken_165 (fX7_isTaken_4 n) q31.1 x2 q31.2)) else (if (D.1 0 2 2) = (14 : Int32) then (Option.bind (fX7_takesLaw D) fun q33 => (fX7_isTaken_165 (fX7_isTaken_4 n) q33.1 x2 q33.2)) else (Option.bind (fX5_fail (2 : Int32) D) fun q34 => (fX7_isTaken_165 (fX7_isTaken_4 n) q34.1 x2 q34.2))))))))))))))))) else (fX7_isTaken_191 x1 D))))
set_option maxHeartbeats 4000000 in
theorem tX7_isTaken_4 (r : (Int32 × mz_D)) : ∀ (n : Nat) (x1 : Int32) (x2 : Int32) (D : mz_D), fX7_isTaken_4 n x1 x2 D = some r → mz_Go IX7_isTaken (some (.inl r.1), r.2) 0 0 (4, [some (.inr (.inr (some (0, 300)))), some (.inl x1), some (.inl x2)], [], D) := by
  intro n
  induction n with
  | zero => intro x1 x2 D h; have h : (none : Option (Int32 × mz_D)) = some r := h; cases h
  | succ n ih =>
    intro x1 x2 D h
    rw [fX7_isTaken_4] at h
    refine mz_Go.run (gs := []) (st' := (if (900 : Int32) ≤ x2 then (191, [some (.inr (.inr (some (0, 300)))), some (.inl x1), some (.inl x2)], [], D) else (11, [some (.inr (.inr (some (0, 300)))), some (.inl x1), some (.inl x2)], [], D))) bX7_isTaken_4 oX7_isTaken_4 rfl trivial ?_
    refine mz_Go.ite (fun hc1 => ?_) (fun hc1 => ?_)
    · have h := mz_ifp hc1 h
      exact mz_Go.drop [true, true, false] (tX7_isTaken_191 r x1 D h)
    · have h := mz_ifn hc1 h
      refine mz_Go.run (gs := []) (st' := (if x1 = 0 then (191, [some (.inr (.inr (some (0, 300)))), some (.inl x1), some (.inl x2)], [], D) else (15, [some (.inr (.inr (some (0, 300)))), some (.inl x1), some (.inl x2)], [], D))) bX7_isTaken_11 oX7_isTaken_11 rfl trivial ?_
      refine mz_Go.ite (fun hc2 => ?_) (fun hc2 => ?_)
      · have h := mz_ifp hc2 h
        exact mz_Go.drop [true, true, false] (tX7_isTaken_191 r x1 D h)
      · have h := mz_ifn hc2 h
        refine mz_Go.run (gs := [mz_kz 1 0 300]) (st' := (19, [some (.inr (.inr (some (0, 300)))), some (.inl x1), some (.inl x2)], [.inr (.inr (some (0, 2)))], D)) bX7_isTaken_15 oX7_isTaken_15 rfl ⟨rfl, trivial⟩ ?_
        refine mz_Go.callV (J := IX5_isOver) (as := []) (ci := 5) (g := 0) (o := 2) (idx := 19) (pl := 776) (rest := []) (mX5_isOver D _ rfl) kX5_isOver vX5_isOver (by decide +kernel) (by decide +kernel) (by decide +kernel) rfl rfl ⟨rfl, rfl⟩ rfl rfl rfl rfl ?_
        refine mz_Go.run (gs := []) (st' := (if (fX5_isOver D) = 0 then (25, [some (.inr (.inr (some (0, 300)))), some (.inl x1), some (.inl x2)], [], D) else (191, [some (.inr (.inr (some (0, 300)))), some (.inl x1), some (.inl x2)], [], D))) bX7_isTaken_22 oX7_isTaken_22 rfl trivial ?_
        refine mz_Go.ite (fun hc3 => ?_) (fun hc3 => ?_)
        · have h := mz_ifp hc3 h
          refine mz_Go.run (gs := [mz_kz 1 0 300, mz_kz 1 0 2]) (st' := (32, [some (.inr (.inr (some (0, 300)))), some (.inl x1), some (.inl x2)], [.inl (D.1 0 2 2)], D)) bX7_isTaken_25 oX7_isTaken_25 rfl ⟨rfl, rfl, trivial⟩ ?_
          refine mz_Go.tsw [(0, 108), (1, 156), (2, 156), (3, 156), (4, 156), (5, 156), (6, 116), (7, 124), (8, 156), (9, 132), (10, 140), (11, 156), (12, 156), (13, 156), (14, 148)] 156 (show decode cX7_isTaken 32 = .ok (.tableswitch 124 0 14 #[76, 124, 124, 124, 124, 124, 84, 92, 124, 100, 108, 124, 124, 124, 116], 76) by decide +kernel) (by decide +kernel) ?_
          refine mz_Go.swc (fun hc4 => ?_) (fun hc4 => ?_)
          · have h := mz_ifp hc4 h
            refine mz_Go.run (gs := []) (st' := (109, [some (.inr (.inr (some (0, 300)))), some (.inl x1), some (.inl x2)], [.inr (.inr (some (0, 300)))], D)) bX7_isTaken_108 oX7_isTaken_108 rfl trivial ?_
            obtain ⟨q5, hq5, h⟩ := mz_bd_some h
            refine mz_Go.callV (J := IX7_takesNewcomer) (as := []) (ci := 7) (g := 0) (o := 300) (idx := 29) (pl := 780) (rest := []) (mX7_takesNewcomer D q5 hq5) kX7_takesNewcomer vX7_takesNewcomer (by decide +kernel) (by decide +kernel) (by decide +kernel) rfl rfl ⟨rfl, rfl⟩ rfl rfl rfl rfl ?_
            refine mz_Go.run (gs := []) (st' := (165, [some (.inr (.inr (some (0, 300)))), some (.inl q5.1), some (.inl x2)], [], q5.2)) bX7_isTaken_112 oX7_isTaken_112 rfl trivial ?_
            exact mz_Go.drop [true, true, true] (tX7_isTaken_165 r (fX7_isTaken_4 n) ih q5.1 x2 q5.2 h)
          · have h := mz_ifn hc4 h
            refine mz_Go.swc (fun hc6 => ?_) (fun hc6 => ?_)
            · have h := mz_ifp hc6 h
              refine mz_Go.run (gs := [mz_kz 1 0 300]) (st' := (161, [some (.inr (.inr (some (0, 300)))), some (.inl x1), some (.inl x2)], [.inl (2 : Int32), .inr (.inr (some (0, 2)))], D)) bX7_isTaken_156 oX7_isTaken_156 rfl ⟨rfl, trivial⟩ ?_
              obtain ⟨q7, hq7, h⟩ := mz_bd_some h
              refine mz_Go.callV (J := IX5_fail) (as := [.inl (2 : Int32)]) (ci := 5) (g := 0) (o := 2) (idx := 47) (pl := 784) (rest := []) (mX5_fail (2 : Int32) D q7 hq7) kX5_fail vX5_fail (by decide +kernel) (by decide +kernel) (by decide +kernel) rfl rfl ⟨rfl, rfl⟩ rfl rfl rfl rfl ?_
              refine mz_Go.run (gs := []) (st' := (165, [some (.inr (.inr (some (0, 300)))), some (.inl q7.1), some (.inl x2)], [], q7.2)) bX7_isTaken_164 oX7_isTaken_164 rfl trivial ?_
              exact mz_Go.drop [true, true, true] (tX7_isTaken_165 r (fX7_isTaken_4 n) ih q7.1 x2 q7.2 h)
            · have h := mz_ifn hc6 h
              refine mz_Go.swc (fun hc8 => ?_) (fun hc8 => ?_)
              · have h := mz_ifp hc8 h
                refine mz_Go.run (gs := [mz_kz 1 0 300]) (st' := (161, [some (.inr (.inr (some (0, 300)))), some (.inl x1), some (.inl x2)], [.inl (2 : Int32), .inr (.inr (some (0, 2)))], D)) bX7_isTaken_156 oX7_isTaken_156 rfl ⟨rfl, trivial⟩ ?_
                obtain ⟨q9, hq9, h⟩ := mz_bd_some h
                refine mz_Go.callV (J := IX5_fail) (as := [.inl (2 : Int32)]) (ci := 5) (g := 0) (o := 2) (idx := 47) (pl := 784) (rest := []) (mX5_fail (2 : Int32) D q9 hq9) kX5_fail vX5_fail (by decide +kernel) (by decide +kernel) (by decide +kernel) rfl rfl ⟨rfl, rfl⟩ rfl rfl rfl rfl ?_
                refine mz_Go.run (gs := []) (st' := (165, [some (.inr (.inr (some (0, 300)))), some (.inl q9.1), some (.inl x2)], [], q9.2)) bX7_isTaken_164 oX7_isTaken_164 rfl trivial ?_
                exact mz_Go.drop [true, true, true] (tX7_isTaken_165 r (fX7_isTaken_4 n) ih q9.1 x2 q9.2 h)
              · have h := mz_ifn hc8 h
                refine mz_Go.swc (fun hc10 => ?_) (fun hc10 => ?_)
                · have h := mz_ifp hc10 h
                  refine mz_Go.run (gs := [mz_kz 1 0 300]) (st' := (161, [some (.inr (.inr (some (0, 300)))), some (.inl x1), some (.inl x2)], [.inl (2 : Int32), .inr (.inr (some (0, 2)))], D)) bX7_isTaken_156 oX7_isTaken_156 rfl ⟨rfl, trivial⟩ ?_
                  obtain ⟨q11, hq11, h⟩ := mz_bd_some h
                  refine mz_Go.callV (J := IX5_fail) (as := [.inl (2 : Int32)]) (ci := 5) (g := 0) (o := 2) (idx := 47) (pl := 784) (rest := []) (mX5_fail (2 : Int32) D q11 hq11) kX5_fail vX5_fail (by decide +kernel) (by decide +kernel) (by decide +kernel) rfl rfl ⟨rfl, rfl⟩ rfl rfl rfl rfl ?_
                  refine mz_Go.run (gs := []) (st' := (165, [some (.inr (.inr (some (0, 300)))), some (.inl q11.1), some (.inl x2)], [], q11.2)) bX7_isTaken_164 oX7_isTaken_164 rfl trivial ?_
                  exact mz_Go.drop [true, true, true] (tX7_isTaken_165 r (fX7_isTaken_4 n) ih q11.1 x2 q11.2 h)
                · have h := mz_ifn hc10 h
                  refine mz_Go.swc (fun hc12 => ?_) (fun hc12 => ?_)
                  · have h := mz_ifp hc12 h
                    refine mz_Go.run (gs := [mz_kz 1 0 300]) (st' := (161, [some (.inr (.inr (some (0, 300)))), some (.inl x1), some (.inl x2)], [.inl (2 : Int32), .inr (.inr (some (0, 2)))], D)) bX7_isTaken_156 oX7_isTaken_156 rfl ⟨rfl, trivial⟩ ?_
                    obtain ⟨q13, hq13, h⟩ := mz_bd_some h
                    refine mz_Go.callV (J := IX5_fail) (as := [.inl (2 : Int32)]) (ci := 5) (g := 0) (o := 2) (idx := 47) (pl := 784) (rest := []) (mX5_fail (2 : Int32) D q13 hq13) kX5_fail vX5_fail (by decide +kernel) (by decide +kernel) (by decide +kernel) rfl rfl ⟨rfl, rfl⟩ rfl rfl rfl rfl ?_
                    refine mz_Go.run (gs := []) (st' := (165, [some (.inr (.inr (some (0, 300)))), some (.inl q13.1), some (.inl x2)], [], q13.2)) bX7_isTaken_164 oX7_isTaken_164 rfl trivial ?_
                    exact mz_Go.drop [true, true, true] (tX7_isTaken_165 r (fX7_isTaken_4 n) ih q13.1 x2 q13.2 h)
                  · have h := mz_ifn hc12 h
                    refine mz_Go.swc (fun hc14 => ?_) (fun hc14 => ?_)
                    · have h := mz_ifp hc14 h
                      refine mz_Go.run (gs := [mz_kz 1 0 300]) (st' := (161, [some (.inr (.inr (some (0, 300)))), some (.inl x1), some (.inl x2)], [.inl (2 : Int32), .inr (.inr (some (0, 2)))], D)) bX7_isTaken_156 oX7_isTaken_156 rfl ⟨rfl, trivial⟩ ?_
                      obtain ⟨q15, hq15, h⟩ := mz_bd_some h
                      refine mz_Go.callV (J := IX5_fail) (as := [.inl (2 : Int32)]) (ci := 5) (g := 0) (o := 2) (idx := 47) (pl := 784) (rest := []) (mX5_fail (2 : Int32) D q15 hq15) kX5_fail vX5_fail (by decide +kernel) (by decide +kernel) (by decide +kernel) rfl rfl ⟨rfl, rfl⟩ rfl rfl rfl rfl ?_
                      refine mz_Go.run (gs := []) (st' := (165, [some (.inr (.inr (some (0, 300)))), some (.inl q15.1), some (.inl x2)], [], q15.2)) bX7_isTaken_164 oX7_isTaken_164 rfl trivial ?_
                      exact mz_Go.drop [true, true, true] (tX7_isTaken_165 r (fX7_isTaken_4 n) ih q15.1 x2 q15.2 h)
                    · have h := mz_ifn hc14 h
                      refine mz_Go.swc (fun hc16 => ?_) (fun hc16 => ?_)
                      · have h := mz_ifp hc16 h
                        refine mz_Go.run (gs := []) (st' := (117, [some (.inr (.inr (some (0, 300)))), some (.inl x1), some (.inl x2)], [.inr (.inr (some (0, 300)))], D)) bX7_isTaken_116 oX7_isTaken_116 rfl trivial ?_
                        obtain ⟨q17, hq17, h⟩ := mz_bd_some h
                        refine mz_Go.callV (J := IX7_takesCouple) (as := []) (ci := 7) (g := 0) (o := 300) (idx := 32) (pl := 818) (rest := []) (mX7_takesCouple D q17 hq17) kX7_takesCouple vX7_takesCouple (by decide +kernel) (by decide +kernel) (by decide +kernel) rfl rfl ⟨rfl, rfl⟩ rfl rfl rfl rfl ?_
                        refine mz_Go.run (gs := []) (st' := (165, [some (.inr (.inr (some (0, 300)))), some (.inl q17.1), some (.inl x2)], [], q17.2)) bX7_isTaken_120 oX7_isTaken_120 rfl trivial ?_
                        exact mz_Go.drop [true, true, true] (tX7_isTaken_165 r (fX7_isTaken_4 n) ih q17.1 x2 q17.2 h)
                      · have h := mz_ifn hc16 h
                        refine mz_Go.swc (fun hc18 => ?_) (fun hc18 => ?_)
                        · have h := mz_ifp hc18 h
                          refine mz_Go.run (gs := []) (st' := (125, [some (.inr (.inr (some (0, 300)))), some (.inl x1), some (.inl x2)], [.inr (.inr (some (0, 300)))], D)) bX7_isTaken_124 oX7_isTaken_124 rfl trivial ?_
                          obtain ⟨q19, hq19, h⟩ := mz_bd_some h
                          refine mz_Go.callV (J := IX7_takesDish) (as := []) (ci := 7) (g := 0) (o := 300) (idx := 35) (pl := 832) (rest := []) (mX7_takesDish D q19 hq19) kX7_takesDish vX7_takesDish (by decide +kernel) (by decide +kernel) (by decide +kernel) rfl rfl ⟨rfl, rfl⟩ rfl rfl rfl rfl ?_
                          refine mz_Go.run (gs := []) (st' := (165, [some (.inr (.inr (some (0, 300)))), some (.inl q19.1), some (.inl x2)], [], q19.2)) bX7_isTaken_128 oX7_isTaken_128 rfl trivial ?_
                          exact mz_Go.drop [true, true, true] (tX7_isTaken_165 r (fX7_isTaken_4 n) ih q19.1 x2 q19.2 h)
                        · have h := mz_ifn hc18 h
                          refine mz_Go.swc (fun hc20 => ?_) (fun hc20 => ?_)
                          · have h := mz_ifp hc20 h
                            refine mz_Go.run (gs := [mz_kz 1 0 300]) (st' := (161, [some (.inr (.inr (some (0, 300)))), some (.inl x1), some (.inl x2)], [.inl (2 : Int32), .inr (.inr (some (0, 2)))], D)) bX7_isTaken_156 oX7_isTaken_156 rfl ⟨rfl, trivial⟩ ?_
                            obtain ⟨q21, hq21, h⟩ := mz_bd_some h
                            refine mz_Go.callV (J := IX5_fail) (as := [.inl (2 : Int32)]) (ci := 5) (g := 0) (o := 2) (idx := 47) (pl := 784) (rest := []) (mX5_fail (2 : Int32) D q21 hq21) kX5_fail vX5_fail (by decide +kernel) (by decide +kernel) (by decide +kernel) rfl rfl ⟨rfl, rfl⟩ rfl rfl rfl rfl ?_
                            refine mz_Go.run (gs := []) (st' := (165, [some (.inr (.inr (some (0, 300)))), some (.inl q21.1), some (.inl x2)], [], q21.2)) bX7_isTaken_164 oX7_isTaken_164 rfl trivial ?_
                            exact mz_Go.drop [true, true, true] (tX7_isTaken_165 r (fX7_isTaken_4 n) ih q21.1 x2 q21.2 h)
                          · have h := mz_ifn hc20 h
                            refine mz_Go.swc (fun hc22 => ?_) (fun hc22 => ?_)
                            · have h := mz_ifp hc22 h
                              refine mz_Go.run (gs := []) (st' := (133, [some (.inr (.inr (some (0, 300)))), some (.inl x1), some (.inl x2)], [.inr (.inr (some (0, 300)))], D)) bX7_isTaken_132 oX7_isTaken_132 rfl trivial ?_
                              obtain ⟨q23, hq23, h⟩ := mz_bd_some h
                              refine mz_Go.callV (J := IX7_takesDebt) (as := []) (ci := 7) (g := 0) (o := 300) (idx := 38) (pl := 845) (rest := []) (mX7_takesDebt D q23 hq23) kX7_takesDebt vX7_takesDebt (by decide +kernel) (by decide +kernel) (by decide +kernel) rfl rfl ⟨rfl, rfl⟩ rfl rfl rfl rfl ?_
                              refine mz_Go.run (gs := []) (st' := (165, [some (.inr (.inr (some (0, 300)))), some (.inl q23.1), some (.inl x2)], [], q23.2)) bX7_isTaken_136 oX7_isTaken_136 rfl trivial ?_
                              exact mz_Go.drop [true, true, true] (tX7_isTaken_165 r (fX7_isTaken_4 n) ih q23.1 x2 q23.2 h)
                            · have h := mz_ifn hc22 h
                              refine mz_Go.swc (fun hc24 => ?_) (fun hc24 => ?_)
                              · have h := mz_ifp hc24 h
                                refine mz_Go.run (gs := []) (st' := (141, [some (.inr (.inr (some (0, 300)))), some (.inl x1), some (.inl x2)], [.inr (.inr (some (0, 300)))], D)) bX7_isTaken_140 oX7_isTaken_140 rfl trivial ?_
                                obtain ⟨q25, hq25, h⟩ := mz_bd_some h
                                refine mz_Go.callV (J := IX7_takesSplit) (as := []) (ci := 7) (g := 0) (o := 300) (idx := 41) (pl := 857) (rest := []) (mX7_takesSplit D q25 hq25) kX7_takesSplit vX7_takesSplit (by decide +kernel) (by decide +kernel) (by decide +kernel) rfl rfl ⟨rfl, rfl⟩ rfl rfl rfl rfl ?_
                                refine mz_Go.run (gs := []) (st' := (165, [some (.inr (.inr (some (0, 300)))), some (.inl q25.1), some (.inl x2)], [], q25.2)) bX7_isTaken_144 oX7_isTaken_144 rfl trivial ?_
                                exact mz_Go.drop [true, true, true] (tX7_isTaken_165 r (fX7_isTaken_4 n) ih q25.1 x2 q25.2 h)
                              · have h := mz_ifn hc24 h
                                refine mz_Go.swc (fun hc26 => ?_) (fun hc26 => ?_)
                                · have h := mz_ifp hc26 h
                                  refine mz_Go.run (gs := [mz_kz 1 0 300]) (st' := (161, [some (.inr (.inr (some (0, 300)))), some (.inl x1), some (.inl x2)], [.inl (2 : Int32), .inr (.inr (some (0, 2)))], D)) bX7_isTaken_156 oX7_isTaken_156 rfl ⟨rfl, trivial⟩ ?_
                                  obtain ⟨q27, hq27, h⟩ := mz_bd_some h
                                  refine mz_Go.callV (J := IX5_fail) (as := [.inl (2 : Int32)]) (ci := 5) (g := 0) (o := 2) (idx := 47) (pl := 784) (rest := []) (mX5_fail (2 : Int32) D q27 hq27) kX5_fail vX5_fail (by decide +kernel) (by decide +kernel) (by decide +kernel) rfl rfl ⟨rfl, rfl⟩ rfl rfl rfl rfl ?_
                                  refine mz_Go.run (gs := []) (st' := (165, [some (.inr (.inr (some (0, 300)))), some (.inl q27.1), some (.inl x2)], [], q27.2)) bX7_isTaken_164 oX7_isTaken_164 rfl trivial ?_
                                  exact mz_Go.drop [true, true, true] (tX7_isTaken_165 r (fX7_isTaken_4 n) ih q27.1 x2 q27.2 h)
                                · have h := mz_ifn hc26 h
                                  refine mz_Go.swc (fun hc28 => ?_) (fun hc28 => ?_)
                                  · have h := mz_ifp hc28 h
                                    refine mz_Go.run (gs := [mz_kz 1 0 300]) (st' := (161, [some (.inr (.inr (some (0, 300)))), some (.inl x1), some (.inl x2)], [.inl (2 : Int32), .inr (.inr (some (0, 2)))], D)) bX7_isTaken_156 oX7_isTaken_156 rfl ⟨rfl, trivial⟩ ?_
                                    obtain ⟨q29, hq29, h⟩ := mz_bd_some h
                                    refine mz_Go.callV (J := IX5_fail) (as := [.inl (2 : Int32)]) (ci := 5) (g := 0) (o := 2) (idx := 47) (pl := 784) (rest := []) (mX5_fail (2 : Int32) D q29 hq29) kX5_fail vX5_fail (by decide +kernel) (by decide +kernel) (by decide +kernel) rfl rfl ⟨rfl, rfl⟩ rfl rfl rfl rfl ?_
                                    refine mz_Go.run (gs := []) (st' := (165, [some (.inr (.inr (some (0, 300)))), some (.inl q29.1), some (.inl x2)], [], q29.2)) bX7_isTaken_164 oX7_isTaken_164 rfl trivial ?_
                                    exact mz_Go.drop [true, true, true] (tX7_isTaken_165 r (fX7_isTaken_4 n) ih q29.1 x2 q29.2 h)
                                  · have h := mz_ifn hc28 h
                                    refine mz_Go.swc (fun hc30 => ?_) (fun hc30 => ?_)
                                    · have h := mz_ifp hc30 h
                                      refine mz_Go.run (gs := [mz_kz 1 0 300]) (st' := (161, [some (.inr (.inr (some (0, 300)))), some (.inl x1), some (.inl x2)], [.inl (2 : Int32), .inr (.inr (some (0, 2)))], D)) bX7_isTaken_156 oX7_isTaken_156 rfl ⟨rfl, trivial⟩ ?_
                                      obtain ⟨q31, hq31, h⟩ := mz_bd_some h
                                      refine mz_Go.callV (J := IX5_fail) (as := [.inl (2 : Int32)]) (ci := 5) (g := 0) (o := 2) (idx := 47) (pl := 784) (rest := []) (mX5_fail (2 : Int32) D q31 hq31) kX5_fail vX5_fail (by decide +kernel) (by decide +kernel) (by decide +kernel) rfl rfl ⟨rfl, rfl⟩ rfl rfl rfl rfl ?_
                                      refine mz_Go.run (gs := []) (st' := (165, [some (.inr (.inr (some (0, 300)))), some (.inl q31.1), some (.inl x2)], [], q31.2)) bX7_isTaken_164 oX7_isTaken_164 rfl trivial ?_
                                      exact mz_Go.drop [true, true, true] (tX7_isTaken_165 r (fX7_isTaken_4 n) ih q31.1 x2 q31.2 h)
                                    · have h := mz_ifn hc30 h
                                      refine mz_Go.swc (fun hc32 => ?_) (fun hc32 => ?_)
                                      · have h := mz_ifp hc32 h
                                        refine mz_Go.run (gs := []) (st' := (149, [some (.inr (.inr (some (0, 300)))), some (.inl x1), some (.inl x2)], [.inr (.inr (some (0, 300)))], D)) bX7_isTaken_148 oX7_isTaken_148 rfl trivial ?_
                                        obtain ⟨q33, hq33, h⟩ := mz_bd_some h
                                        refine mz_Go.callV (J := IX7_takesLaw) (as := []) (ci := 7) (g := 0) (o := 300) (idx := 44) (pl := 861) (rest := []) (mX7_takesLaw D q33 hq33) kX7_takesLaw vX7_takesLaw (by decide +kernel) (by decide +kernel) (by decide +kernel) rfl rfl ⟨rfl, rfl⟩ rfl rfl rfl rfl ?_
                                        refine mz_Go.run (gs := []) (st' := (165, [some (.inr (.inr (some (0, 300)))), some (.inl q33.1), some (.inl x2)], [], q33.2)) bX7_isTaken_152 oX7_isTaken_152 rfl trivial ?_
                                        exact mz_Go.drop [true, true, true] (tX7_isTaken_165 r (fX7_isTaken_4 n) ih q33.1 x2 q33.2 h)
                                      · have h := mz_ifn hc32 h
                                        refine mz_Go.run (gs := [mz_kz 1 0 300]) (st' := (161, [some (.inr (.inr (some (0, 300)))), some (.inl x1), some (.inl x2)], [.inl (2 : Int32), .inr (.inr (some (0, 2)))], D)) bX7_isTaken_156 oX7_isTaken_156 rfl ⟨rfl, trivial⟩ ?_
                                        obtain ⟨q34, hq34, h⟩ := mz_bd_some h
                                        refine mz_Go.callV (J := IX5_fail) (as := [.inl (2 : Int32)]) (ci := 5) (g := 0) (o := 2) (idx := 47) (pl := 784) (rest := []) (mX5_fail (2 : Int32) D q34 hq34) kX5_fail vX5_fail (by decide +kernel) (by decide +kernel) (by decide +kernel) rfl rfl ⟨rfl, rfl⟩ rfl rfl rfl rfl ?_
                                        refine mz_Go.run (gs := []) (st' := (165, [some (.inr (.inr (some (0, 300)))), some (.inl q34.1), some (.inl x2)], [], q34.2)) bX7_isTaken_164 oX7_isTaken_164 rfl trivial ?_
                                        exact mz_Go.drop [true, true, true] (tX7_isTaken_165 r (fX7_isTaken_4 n) ih q34.1 x2 q34.2 h)
        · have h := mz_ifn hc3 h
          exact mz_Go.drop [true, true, false] (tX7_isTaken_191 r x1 D h)
def fX7_isTaken (D : mz_D) : Option (Int32 × mz_D) := (fX7_isTaken_4 mz_N (1 : Int32) (0 : Int32) D)
set_option maxHeartbeats 4000000 in
theorem mX7_isTaken (D : mz_D) (r : (Int32 × mz_D)) (h : fX7_isTaken D = some r) : mz_Met IX7_isTaken [.inr (.inr (some (0, 300)))] D (some (.inl r.1), r.2) := by
  refine mz_Met.of (by decide +kernel) (Nat.le_of_ble_eq_true rfl) ?_
  show mz_Go IX7_isTaken (some (.inl r.1), r.2) 0 0 (0, [some (.inr (.inr (some (0, 300)))), none, none], [], D)
  rw [fX7_isTaken] at h
  refine mz_Go.run (gs := []) (st' := (4, [some (.inr (.inr (some (0, 300)))), some (.inl (1 : Int32)), some (.inl (0 : Int32))], [], D)) bX7_isTaken_0 oX7_isTaken_0 rfl trivial ?_
  exact mz_Go.drop [true, true, true] (tX7_isTaken_4 r mz_N (1 : Int32) (0 : Int32) D h)
def bX8_has_0 : List mz_E := [(0, .iload_n 1, 0, 0, 0, 0, 0), (1, .ifCond .lt 12, 0, 13, 0, 0, 0)]
theorem oX8_has_0 : bX8_has_0.all (mz_ok RX8 cX8_has 2) = true := by decide +kernel
def bX8_has_13 : List mz_E := [(13, .iconst 0, 0, 0, 0, 0, 0)]
theorem oX8_has_13 : bX8_has_13.all (mz_ok RX8 cX8_has 2) = true := by decide +kernel
def bX8_has_4 : List mz_E := [(4, .iload_n 1, 0, 0, 0, 0, 0), (5, .iconst 4, 0, 0, 0, 4, 0), (6, .if_icmp .ge 7, 0, 13, 0, 0, 0)]
theorem oX8_has_4 : bX8_has_4.all (mz_ok RX8 cX8_has 2) = true := by decide +kernel
def bX8_has_9 : List mz_E := [(9, .iconst 1, 0, 0, 0, 1, 0), (10, .goto 4, 0, 14, 0, 0, 0)]
theorem oX8_has_9 : bX8_has_9.all (mz_ok RX8 cX8_has 2) = true := by decide +kernel
abbrev IX8_has : mz_I := (yX8_has, cX8_has, 2, (some .boolean), 0, 0, 0, 0)
theorem kX8_has : mz_okm IX8_has 634 133 632 1 = true := by decide +kernel
theorem vX8_has : mz_okV IX8_has 632 633 = true := by decide +kernel
def fX8_has (x1 : Int32) : Int32 := (if x1 < 0 then (0 : Int32) else (if (4 : Int32) ≤ x1 then (0 : Int32) else (1 : Int32)))
set_option maxHeartbeats 4000000 in
theorem mX8_has (x1 : Int32) (D : mz_D) (r : Int32) (h : fX8_has x1 = r) : mz_Met IX8_has [.inr (.inr (some (0, 4))), .inl x1] D (some (.inl r), D) := by
  refine mz_Met.of (by decide +kernel) (Nat.le_of_ble_eq_true rfl) ?_
  show mz_Go IX8_has (some (.inl r), D) 0 0 (0, [some (.inr (.inr (some (0, 4)))), some (.inl x1)], [], D)
  rw [fX8_has] at h
  refine mz_Go.run (gs := []) (st' := (if x1 < 0 then (13, [some (.inr (.inr (some (0, 4)))), some (.inl x1)], [], D) else (4, [some (.inr (.inr (some (0, 4)))), some (.inl x1)], [], D))) bX8_has_0 oX8_has_0 rfl trivial ?_
  refine mz_Go.ite (fun hc1 => ?_) (fun hc1 => ?_)
  · have h := mz_ifp hc1 h
    refine mz_Go.run (gs := []) (st' := (14, [some (.inr (.inr (some (0, 4)))), some (.inl x1)], [.inl (0 : Int32)], D)) bX8_has_13 oX8_has_13 rfl trivial ?_
    subst h
    exact mz_Go.retz (by decide +kernel) rfl ⟨Nat.le_refl _, Nat.le_refl _⟩ (by decide) rfl
  · have h := mz_ifn hc1 h
    refine mz_Go.run (gs := []) (st' := (if (4 : Int32) ≤ x1 then (13, [some (.inr (.inr (some (0, 4)))), some (.inl x1)], [], D) else (9, [some (.inr (.inr (some (0, 4)))), some (.inl x1)], [], D))) bX8_has_4 oX8_has_4 rfl trivial ?_
    refine mz_Go.ite (fun hc2 => ?_) (fun hc2 => ?_)
    · have h := mz_ifp hc2 h
      refine mz_Go.run (gs := []) (st' := (14, [some (.inr (.inr (some (0, 4)))), some (.inl x1)], [.inl (0 : Int32)], D)) bX8_has_13 oX8_has_13 rfl trivial ?_
      subst h
      exact mz_Go.retz (by decide +kernel) rfl ⟨Nat.le_refl _, Nat.le_refl _⟩ (by decide) rfl
    · have h := mz_ifn hc2 h
      refine mz_Go.run (gs := []) (st' := (14, [some (.inr (.inr (some (0, 4)))), some (.inl x1)], [.inl (1 : Int32)], D)) bX8_has_9 oX8_has_9 rfl trivial ?_
      subst h
      exact mz_Go.retz (by decide +kernel) rfl ⟨Nat.le_refl _, Nat.le_refl _⟩ (by decide) rfl
def bX8_isMissing_0 : List mz_E := [(0, .aload_n 0, 0, 0, 0, 0, 0), (1, .getfield 11, 8, 0, 264, 0, 0), (4, .iload_n 1, 0, 0, 0, 0, 0), (5, .iaload, 0, 0, 0, 0, 0), (6, .iconst (-1), 0, 0, 0, -1, 0), (7, .if_icmp .ne 7, 0, 14, 0, 0, 0)]
theorem oX8_isMissing_0 : bX8_isMissing_0.all (mz_ok RX8 cX8_isMissing 2) = true := by decide +kernel
def bX8_isMissing_10 : List mz_E := [(10, .iconst 1, 0, 0, 0, 1, 0), (11, .goto 4, 0, 15, 0, 0, 0)]
theorem oX8_isMissing_10 : bX8_isMissing_10.all (mz_ok RX8 cX8_isMissing 2) = true := by decide +kernel
def bX8_isMissing_14 : List mz_E := [(14, .iconst 0, 0, 0, 0, 0, 0)]
theorem oX8_isMissing_14 : bX8_isMissing_14.all (mz_ok RX8 cX8_isMissing 2) = true := by decide +kernel
abbrev IX8_isMissing : mz_I := (yX8_isMissing, cX8_isMissing, 2, (some .boolean), 0, 0, 0, 0)
theorem kX8_isMissing : mz_okm IX8_isMissing 658 133 656 1 = true := by decide +kernel
theorem vX8_isMissing : mz_okV IX8_isMissing 656 657 = true := by decide +kernel
def fX8_isMissing (x1 : Int32) (D : mz_D) : Option Int32 := (mz_gd (mz_ix x1 4) (if (D.1 0 5 (x1).toNatClampNeg) = (-1 : Int32) then (some (1 : Int32)) else (some (0 : Int32))))
set_option maxHeartbeats 4000000 in
theorem mX8_isMissing (x1 : Int32) (D : mz_D) (r : Int32) (h : fX8_isMissing x1 D = some r) : mz_Met IX8_isMissing [.inr (.inr (some (0, 4))), .inl x1] D (some (.inl r), D) := by
  refine mz_Met.of (by decide +kernel) (Nat.le_of_ble_eq_true rfl) ?_
  show mz_Go IX8_isMissing (some (.inl r), D) 0 0 (0, [some (.inr (.inr (some (0, 4)))), some (.inl x1)], [], D)
  rw [fX8_isMissing] at h
  obtain ⟨hb1, h⟩ := mz_gd_some h
  refine mz_Go.run (gs := [mz_kz 0 0 4, mz_kz 0 0 5, mz_ix x1 4]) (st' := (if (D.1 0 5 (x1).toNatClampNeg) = (-1 : Int32) then (10, [some (.inr (.inr (some (0, 4)))), some (.inl x1)], [], D) else (14, [some (.inr (.inr (some (0, 4)))), some (.inl x1)], [], D))) bX8_isMissing_0 oX8_isMissing_0 rfl ⟨rfl, rfl, hb1, trivial⟩ ?_
  refine mz_Go.ite (fun hc2 => ?_) (fun hc2 => ?_)
  · have h := mz_ifp hc2 h
    refine mz_Go.run (gs := []) (st' := (15, [some (.inr (.inr (some (0, 4)))), some (.inl x1)], [.inl (1 : Int32)], D)) bX8_isMissing_10 oX8_isMissing_10 rfl trivial ?_
    cases h
    exact mz_Go.retz (by decide +kernel) rfl ⟨Nat.le_refl _, Nat.le_refl _⟩ (by decide) rfl
  · have h := mz_ifn hc2 h
    refine mz_Go.run (gs := []) (st' := (15, [some (.inr (.inr (some (0, 4)))), some (.inl x1)], [.inl (0 : Int32)], D)) bX8_isMissing_14 oX8_isMissing_14 rfl trivial ?_
    cases h
    exact mz_Go.retz (by decide +kernel) rfl ⟨Nat.le_refl _, Nat.le_refl _⟩ (by decide) rfl
def bX8_sortOf_0 : List mz_E := [(0, .aload_n 0, 0, 0, 0, 0, 0), (1, .getfield 11, 8, 0, 264, 0, 0), (4, .iload_n 1, 0, 0, 0, 0, 0), (5, .iaload, 0, 0, 0, 0, 0)]
theorem oX8_sortOf_0 : bX8_sortOf_0.all (mz_ok RX8 cX8_sortOf 2) = true := by decide +kernel
abbrev IX8_sortOf : mz_I := (yX8_sortOf, cX8_sortOf, 2, (some .int), 0, 0, 0, 0)
theorem kX8_sortOf : mz_okm IX8_sortOf 689 133 687 1 = true := by decide +kernel
theorem vX8_sortOf : mz_okV IX8_sortOf 687 688 = true := by decide +kernel
def fX8_sortOf (x1 : Int32) (D : mz_D) : Option Int32 := (mz_gd (mz_ix x1 4) (some (D.1 0 5 (x1).toNatClampNeg)))
set_option maxHeartbeats 4000000 in
theorem mX8_sortOf (x1 : Int32) (D : mz_D) (r : Int32) (h : fX8_sortOf x1 D = some r) : mz_Met IX8_sortOf [.inr (.inr (some (0, 4))), .inl x1] D (some (.inl r), D) := by
  refine mz_Met.of (by decide +kernel) (Nat.le_of_ble_eq_true rfl) ?_
  show mz_Go IX8_sortOf (some (.inl r), D) 0 0 (0, [some (.inr (.inr (some (0, 4)))), some (.inl x1)], [], D)
  rw [fX8_sortOf] at h
  obtain ⟨hb1, h⟩ := mz_gd_some h
  refine mz_Go.run (gs := [mz_kz 0 0 4, mz_kz 0 0 5, mz_ix x1 4]) (st' := (6, [some (.inr (.inr (some (0, 4)))), some (.inl x1)], [.inl (D.1 0 5 (x1).toNatClampNeg)], D)) bX8_sortOf_0 oX8_sortOf_0 rfl ⟨rfl, rfl, hb1, trivial⟩ ?_
  cases h
  exact mz_Go.reti (by decide +kernel) rfl ⟨Nat.le_refl _, Nat.le_refl _⟩ rfl
def bX8_lay_0 : List mz_E := [(0, .aload_n 0, 0, 0, 0, 0, 0), (1, .getfield 11, 8, 0, 264, 0, 0), (4, .iload_n 1, 0, 0, 0, 0, 0), (5, .iload_n 2, 0, 0, 0, 0, 0), (6, .iastore, 0, 0, 0, 0, 0), (7, .aload_n 0, 0, 0, 0, 0, 0), (8, .getfield 15, 8, 1, 265, 0, 0), (11, .iload_n 1, 0, 0, 0, 0, 0), (12, .iload_n 3, 0, 0, 0, 0, 0), (13, .iastore, 0, 0, 0, 0, 0), (14, .iconst 0, 0, 0, 0, 0, 0), (15, .istore 4, 0, 0, 0, 0, 0)]
theorem oX8_lay_0 : bX8_lay_0.all (mz_ok RX8 cX8_lay 5) = true := by decide +kernel
def bX8_lay_17 : List mz_E := [(17, .iload 4, 0, 0, 0, 0, 0), (19, .bipush 60, 0, 0, 0, 60, 0), (21, .if_icmp .ge 22, 0, 43, 0, 0, 0)]
theorem oX8_lay_17 : bX8_lay_17.all (mz_ok RX8 cX8_lay 5) = true := by decide +kernel
def bX8_lay_24 : List mz_E := [(24, .aload_n 0, 0, 0, 0, 0, 0), (25, .getfield 18, 8, 2, 266, 0, 0), (28, .iload_n 1, 0, 0, 0, 0, 0), (29, .bipush 60, 0, 0, 0, 60, 0), (31, .imul, 0, 0, 0, 0, 0), (32, .iload 4, 0, 0, 0, 0, 0), (34, .iadd, 0, 0, 0, 0, 0), (35, .lconst 0, 0, 0, 0, 0, 0), (36, .lastore, 0, 0, 0, 0, 0), (37, .iinc 4 1, 0, 0, 0, 1, 0), (40, .goto (-23), 0, 17, 0, 0, 0)]
theorem oX8_lay_24 : bX8_lay_24.all (mz_ok RX8 cX8_lay 5) = true := by decide +kernel
abbrev IX8_lay : mz_I := (yX8_lay, cX8_lay, 5, none, 0, 0, 0, 0)
theorem kX8_lay : mz_okm IX8_lay 642 133 640 3 = true := by decide +kernel
theorem vX8_lay : mz_okV IX8_lay 640 641 = true := by decide +kernel
def fX8_lay_17 : Nat → Int32 → Int32 → mz_D → Option mz_D
  | 0 => fun _ _ _ => none
  | n + 1 => fun x1 x4 D => (if (60 : Int32) ≤ x4 then (some D) else (mz_gd (mz_ix ((x1 * (60 : Int32)) + x4) 240) ((fX8_lay_17 n) x1 (x4 + (1 : Int32)) (mz_wg D 0 7 (((x1 * (60 : Int32)) + x4)).toNatClampNeg (0 : Int64)))))
set_option maxHeartbeats 4000000 in
theorem tX8_lay_17 (r : mz_D) : ∀ (n : Nat) (x1 : Int32) (x4 : Int32) (D : mz_D), fX8_lay_17 n x1 x4 D = some r → mz_Go IX8_lay (none, r) 0 0 (17, [some (.inr (.inr (some (0, 4)))), some (.inl x1), none, none, some (.inl x4)], [], D) := by
  intro n
  induction n with
  | zero => intro x1 x4 D h; have h : (none : Option mz_D) = some r := h; cases h
  | succ n ih =>
    intro x1 x4 D h
    rw [fX8_lay_17] at h
    refine mz_Go.run (gs := []) (st' := (if (60 : Int32) ≤ x4 then (43, [some (.inr (.inr (some (0, 4)))), some (.inl x1), none, none, some (.inl x4)], [], D) else (24, [some (.inr (.inr (some (0, 4)))), some (.inl x1), none, none, some (.inl x4)], [], D))) bX8_lay_17 oX8_lay_17 rfl trivial ?_
    refine mz_Go.ite (fun hc1 => ?_) (fun hc1 => ?_)
    · have h := mz_ifp hc1 h
      cases h
      exact mz_Go.retv (by decide +kernel) rfl ⟨Nat.le_refl _, Nat.le_refl _⟩ rfl
    · have h := mz_ifn hc1 h
      obtain ⟨hb2, h⟩ := mz_gd_some h
      refine mz_Go.run (gs := [mz_kz 0 0 4, mz_kz 0 0 7, mz_ix ((x1 * (60 : Int32)) + x4) 240]) (st' := (17, [some (.inr (.inr (some (0, 4)))), some (.inl x1), none, none, some (.inl (x4 + (1 : Int32)))], [], (mz_wg D 0 7 (((x1 * (60 : Int32)) + x4)).toNatClampNeg (0 : Int64)))) bX8_lay_24 oX8_lay_24 rfl ⟨rfl, rfl, hb2, trivial⟩ ?_
      exact mz_Go.drop [true, true, false, false, true] (ih x1 (x4 + (1 : Int32)) (mz_wg D 0 7 (((x1 * (60 : Int32)) + x4)).toNatClampNeg (0 : Int64)) h)
def fX8_lay (x1 : Int32) (x2 : Int32) (x3 : Int32) (D : mz_D) : Option mz_D := (mz_gd (mz_ix x1 4) (fX8_lay_17 mz_N x1 (0 : Int32) (mz_wi (mz_wi D 0 5 (x1).toNatClampNeg x2) 0 6 (x1).toNatClampNeg x3)))
set_option maxHeartbeats 4000000 in
theorem mX8_lay (x1 : Int32) (x2 : Int32) (x3 : Int32) (D : mz_D) (r : mz_D) (h : fX8_lay x1 x2 x3 D = some r) : mz_Met IX8_lay [.inr (.inr (some (0, 4))), .inl x1, .inl x2, .inl x3] D (none, r) := by
  refine mz_Met.of (by decide +kernel) (Nat.le_of_ble_eq_true rfl) ?_
  show mz_Go IX8_lay (none, r) 0 0 (0, [some (.inr (.inr (some (0, 4)))), some (.inl x1), some (.inl x2), some (.inl x3), none], [], D)
  rw [fX8_lay] at h
  obtain ⟨hb1, h⟩ := mz_gd_some h
  refine mz_Go.run (gs := [mz_kz 0 0 4, mz_kz 0 0 5, mz_ix x1 4, mz_kz 0 0 4, mz_kz 0 0 6, mz_ix x1 4]) (st' := (17, [some (.inr (.inr (some (0, 4)))), some (.inl x1), some (.inl x2), some (.inl x3), some (.inl (0 : Int32))], [], (mz_wi (mz_wi D 0 5 (x1).toNatClampNeg x2) 0 6 (x1).toNatClampNeg x3))) bX8_lay_0 oX8_lay_0 rfl ⟨rfl, rfl, hb1, rfl, rfl, hb1, trivial⟩ ?_
  exact mz_Go.drop [true, true, false, false, true] (tX8_lay_17 r mz_N x1 (0 : Int32) (mz_wi (mz_wi D 0 5 (x1).toNatClampNeg x2) 0 6 (x1).toNatClampNeg x3) h)
def bX8_holds_0 : List mz_E := [(0, .iload_n 2, 0, 0, 0, 0, 0), (1, .aload_n 0, 0, 0, 0, 0, 0), (2, .getfield 15, 8, 1, 265, 0, 0), (5, .iload_n 1, 0, 0, 0, 0, 0), (6, .iaload, 0, 0, 0, 0, 0), (7, .if_icmp .gt 19, 0, 26, 0, 0, 0)]
theorem oX8_holds_0 : bX8_holds_0.all (mz_ok RX8 cX8_holds 4) = true := by decide +kernel
def bX8_holds_26 : List mz_E := [(26, .iconst 0, 0, 0, 0, 0, 0)]
theorem oX8_holds_26 : bX8_holds_26.all (mz_ok RX8 cX8_holds 4) = true := by decide +kernel
def bX8_holds_10 : List mz_E := [(10, .iload_n 3, 0, 0, 0, 0, 0), (11, .aload_n 0, 0, 0, 0, 0, 0), (12, .getfield 15, 8, 1, 265, 0, 0), (15, .iload_n 1, 0, 0, 0, 0, 0), (16, .iaload, 0, 0, 0, 0, 0), (17, .iload_n 2, 0, 0, 0, 0, 0), (18, .isub, 0, 0, 0, 0, 0), (19, .if_icmp .gt 7, 0, 26, 0, 0, 0)]
theorem oX8_holds_10 : bX8_holds_10.all (mz_ok RX8 cX8_holds 4) = true := by decide +kernel
def bX8_holds_22 : List mz_E := [(22, .iconst 1, 0, 0, 0, 1, 0), (23, .goto 4, 0, 27, 0, 0, 0)]
theorem oX8_holds_22 : bX8_holds_22.all (mz_ok RX8 cX8_holds 4) = true := by decide +kernel
abbrev IX8_holds : mz_I := (yX8_holds, cX8_holds, 4, (some .boolean), 0, 0, 0, 0)
theorem kX8_holds : mz_okm IX8_holds 662 133 660 3 = true := by decide +kernel
theorem vX8_holds : mz_okV IX8_holds 660 661 = true := by decide +kernel
def fX8_holds (x1 : Int32) (x2 : Int32) (x3 : Int32) (D : mz_D) : Option Int32 := (mz_gd (mz_ix x1 4) (if (D.1 0 6 (x1).toNatClampNeg) < x2 then (some (0 : Int32)) else (if ((D.1 0 6 (x1).toNatClampNeg) - x2) < x3 then (some (0 : Int32)) else (some (1 : Int32)))))
set_option maxHeartbeats 4000000 in
theorem mX8_holds (x1 : Int32) (x2 : Int32) (x3 : Int32) (D : mz_D) (r : Int32) (h : fX8_holds x1 x2 x3 D = some r) : mz_Met IX8_holds [.inr (.inr (some (0, 4))), .inl x1, .inl x2, .inl x3] D (some (.inl r), D) := by
  refine mz_Met.of (by decide +kernel) (Nat.le_of_ble_eq_true rfl) ?_
  show mz_Go IX8_holds (some (.inl r), D) 0 0 (0, [some (.inr (.inr (some (0, 4)))), some (.inl x1), some (.inl x2), some (.inl x3)], [], D)
  rw [fX8_holds] at h
  obtain ⟨hb1, h⟩ := mz_gd_some h
  refine mz_Go.run (gs := [mz_kz 0 0 4, mz_kz 0 0 6, mz_ix x1 4]) (st' := (if (D.1 0 6 (x1).toNatClampNeg) < x2 then (26, [some (.inr (.inr (some (0, 4)))), some (.inl x1), some (.inl x2), some (.inl x3)], [], D) else (10, [some (.inr (.inr (some (0, 4)))), some (.inl x1), some (.inl x2), some (.inl x3)], [], D))) bX8_holds_0 oX8_holds_0 rfl ⟨rfl, rfl, hb1, trivial⟩ ?_
  refine mz_Go.ite (fun hc2 => ?_) (fun hc2 => ?_)
  · have h := mz_ifp hc2 h
    refine mz_Go.run (gs := []) (st' := (27, [some (.inr (.inr (some (0, 4)))), some (.inl x1), some (.inl x2), some (.inl x3)], [.inl (0 : Int32)], D)) bX8_holds_26 oX8_holds_26 rfl trivial ?_
    cases h
    exact mz_Go.retz (by decide +kernel) rfl ⟨Nat.le_refl _, Nat.le_refl _⟩ (by decide) rfl
  · have h := mz_ifn hc2 h
    refine mz_Go.run (gs := [mz_kz 0 0 4, mz_kz 0 0 6, mz_ix x1 4]) (st' := (if ((D.1 0 6 (x1).toNatClampNeg) - x2) < x3 then (26, [some (.inr (.inr (some (0, 4)))), some (.inl x1), some (.inl x2), some (.inl x3)], [], D) else (22, [some (.inr (.inr (some (0, 4)))), some (.inl x1), some (.inl x2), some (.inl x3)], [], D))) bX8_holds_10 oX8_holds_10 rfl ⟨rfl, rfl, hb1, trivial⟩ ?_
    refine mz_Go.ite (fun hc3 => ?_) (fun hc3 => ?_)
    · have h := mz_ifp hc3 h
      refine mz_Go.run (gs := []) (st' := (27, [some (.inr (.inr (some (0, 4)))), some (.inl x1), some (.inl x2), some (.inl x3)], [.inl (0 : Int32)], D)) bX8_holds_26 oX8_holds_26 rfl trivial ?_
      cases h
      exact mz_Go.retz (by decide +kernel) rfl ⟨Nat.le_refl _, Nat.le_refl _⟩ (by decide) rfl
    · have h := mz_ifn hc3 h
      refine mz_Go.run (gs := []) (st' := (27, [some (.inr (.inr (some (0, 4)))), some (.inl x1), some (.inl x2), some (.inl x3)], [.inl (1 : Int32)], D)) bX8_holds_22 oX8_holds_22 rfl trivial ?_
      cases h
      exact mz_Go.retz (by decide +kernel) rfl ⟨Nat.le_refl _, Nat.le_refl _⟩ (by decide) rfl
def bX8_get_0 : List mz_E := [(0, .aload_n 0, 0, 0, 0, 0, 0), (1, .getfield 18, 8, 2, 266, 0, 0), (4, .iload_n 1, 0, 0, 0, 0, 0), (5, .bipush 60, 0, 0, 0, 60, 0), (7, .imul, 0, 0, 0, 0, 0), (8, .iload_n 2, 0, 0, 0, 0, 0), (9, .iadd, 0, 0, 0, 0, 0), (10, .laload, 0, 0, 0, 0, 0)]
theorem oX8_get_0 : bX8_get_0.all (mz_ok RX8 cX8_get 3) = true := by decide +kernel
abbrev IX8_get : mz_I := (yX8_get, cX8_get, 3, (some .long), 0, 0, 0, 0)
theorem kX8_get : mz_okm IX8_get 681 133 679 2 = true := by decide +kernel
theorem vX8_get : mz_okV IX8_get 679 680 = true := by decide +kernel
def fX8_get (x1 : Int32) (x2 : Int32) (D : mz_D) : Option Int64 := (mz_gd (mz_ix ((x1 * (60 : Int32)) + x2) 240) (some (D.2 0 7 (((x1 * (60 : Int32)) + x2)).toNatClampNeg)))
set_option maxHeartbeats 4000000 in
theorem mX8_get (x1 : Int32) (x2 : Int32) (D : mz_D) (r : Int64) (h : fX8_get x1 x2 D = some r) : mz_Met IX8_get [.inr (.inr (some (0, 4))), .inl x1, .inl x2] D (some (.inr (.inl r)), D) := by
  refine mz_Met.of (by decide +kernel) (Nat.le_of_ble_eq_true rfl) ?_
  show mz_Go IX8_get (some (.inr (.inl r)), D) 0 0 (0, [some (.inr (.inr (some (0, 4)))), some (.inl x1), some (.inl x2)], [], D)
  rw [fX8_get] at h
  obtain ⟨hb1, h⟩ := mz_gd_some h
  refine mz_Go.run (gs := [mz_kz 0 0 4, mz_kz 0 0 7, mz_ix ((x1 * (60 : Int32)) + x2) 240]) (st' := (11, [some (.inr (.inr (some (0, 4)))), some (.inl x1), some (.inl x2)], [.inr (.inl (D.2 0 7 (((x1 * (60 : Int32)) + x2)).toNatClampNeg))], D)) bX8_get_0 oX8_get_0 rfl ⟨rfl, rfl, hb1, trivial⟩ ?_
  cases h
  exact mz_Go.retl (by decide +kernel) rfl ⟨Nat.le_refl _, Nat.le_refl _⟩ rfl
def bX8_cut_0 : List mz_E := [(0, .iload_n 0, 0, 0, 0, 0, 0)]
theorem oX8_cut_0 : bX8_cut_0.all (mz_ok RX8 cX8_cut 3) = true := by decide +kernel
def bX8_cut_28 : List mz_E := [(28, .lload_n 1, 0, 0, 0, 0, 0), (29, .l2i, 0, 0, 0, 0, 0), (30, .i2b, 0, 0, 0, 0, 0), (31, .i2l, 0, 0, 0, 0, 0)]
theorem oX8_cut_28 : bX8_cut_28.all (mz_ok RX8 cX8_cut 3) = true := by decide +kernel
def bX8_cut_33 : List mz_E := [(33, .lload_n 1, 0, 0, 0, 0, 0), (34, .l2i, 0, 0, 0, 0, 0), (35, .i2s, 0, 0, 0, 0, 0), (36, .i2l, 0, 0, 0, 0, 0)]
theorem oX8_cut_33 : bX8_cut_33.all (mz_ok RX8 cX8_cut 3) = true := by decide +kernel
def bX8_cut_38 : List mz_E := [(38, .lload_n 1, 0, 0, 0, 0, 0), (39, .l2i, 0, 0, 0, 0, 0), (40, .i2l, 0, 0, 0, 0, 0)]
theorem oX8_cut_38 : bX8_cut_38.all (mz_ok RX8 cX8_cut 3) = true := by decide +kernel
def bX8_cut_42 : List mz_E := [(42, .lload_n 1, 0, 0, 0, 0, 0)]
theorem oX8_cut_42 : bX8_cut_42.all (mz_ok RX8 cX8_cut 3) = true := by decide +kernel
abbrev IX8_cut : mz_I := (yX8_cut, cX8_cut, 3, (some .long), 0, 0, 0, 0)
theorem kX8_cut : mz_okm IX8_cut 669 133 668 2 = true := by decide +kernel
theorem vX8_cut : mz_okS IX8_cut 668 = true := by decide +kernel
def fX8_cut (x0 : Int32) (y1 : Int64) : Int64 := (if x0 = (0 : Int32) then (((y1).toInt32).toInt8.toInt32).toInt64 else (if x0 = (1 : Int32) then (((y1).toInt32).toInt16.toInt32).toInt64 else (if x0 = (2 : Int32) then ((y1).toInt32).toInt64 else y1)))
set_option maxHeartbeats 4000000 in
theorem mX8_cut (x0 : Int32) (y1 : Int64) (D : mz_D) (r : Int64) (h : fX8_cut x0 y1 = r) : mz_Met IX8_cut [.inl x0, .inr (.inl y1)] D (some (.inr (.inl r)), D) := by
  refine mz_Met.of (by decide +kernel) (Nat.le_of_ble_eq_true rfl) ?_
  show mz_Go IX8_cut (some (.inr (.inl r)), D) 0 0 (0, [some (.inl x0), some (.inr (.inl y1)), none], [], D)
  rw [fX8_cut] at h
  refine mz_Go.run (gs := []) (st' := (1, [some (.inl x0), some (.inr (.inl y1)), none], [.inl x0], D)) bX8_cut_0 oX8_cut_0 rfl trivial ?_
  refine mz_Go.tsw [(0, 28), (1, 33), (2, 38)] 42 (show decode cX8_cut 1 = .ok (.tableswitch 41 0 2 #[27, 32, 37], 27) by decide +kernel) (by decide +kernel) ?_
  refine mz_Go.swc (fun hc1 => ?_) (fun hc1 => ?_)
  · have h := mz_ifp hc1 h
    refine mz_Go.run (gs := []) (st' := (32, [some (.inl x0), some (.inr (.inl y1)), none], [.inr (.inl (((y1).toInt32).toInt8.toInt32).toInt64)], D)) bX8_cut_28 oX8_cut_28 rfl trivial ?_
    subst h
    exact mz_Go.retl (by decide +kernel) rfl ⟨Nat.le_refl _, Nat.le_refl _⟩ rfl
  · have h := mz_ifn hc1 h
    refine mz_Go.swc (fun hc2 => ?_) (fun hc2 => ?_)
    · have h := mz_ifp hc2 h
      refine mz_Go.run (gs := []) (st' := (37, [some (.inl x0), some (.inr (.inl y1)), none], [.inr (.inl (((y1).toInt32).toInt16.toInt32).toInt64)], D)) bX8_cut_33 oX8_cut_33 rfl trivial ?_
      subst h
      exact mz_Go.retl (by decide +kernel) rfl ⟨Nat.le_refl _, Nat.le_refl _⟩ rfl
    · have h := mz_ifn hc2 h
      refine mz_Go.swc (fun hc3 => ?_) (fun hc3 => ?_)
      · have h := mz_ifp hc3 h
        refine mz_Go.run (gs := []) (st' := (41, [some (.inl x0), some (.inr (.inl y1)), none], [.inr (.inl ((y1).toInt32).toInt64)], D)) bX8_cut_38 oX8_cut_38 rfl trivial ?_
        subst h
        exact mz_Go.retl (by decide +kernel) rfl ⟨Nat.le_refl _, Nat.le_refl _⟩ rfl
      · have h := mz_ifn hc3 h
        refine mz_Go.run (gs := []) (st' := (43, [some (.inl x0), some (.inr (.inl y1)), none], [.inr (.inl y1)], D)) bX8_cut_42 oX8_cut_42 rfl trivial ?_
        subst h
        exact mz_Go.retl (by decide +kernel) rfl ⟨Nat.le_refl _, Nat.le_refl _⟩ rfl
def bX8_put_0 : List mz_E := [(0, .aload_n 0, 0, 0, 0, 0, 0), (1, .getfield 18, 8, 2, 266, 0, 0), (4, .iload_n 1, 0, 0, 0, 0, 0), (5, .bipush 60, 0, 0, 0, 60, 0), (7, .imul, 0, 0, 0, 0, 0), (8, .iload_n 2, 0, 0, 0, 0, 0), (9, .iadd, 0, 0, 0, 0, 0), (10, .aload_n 0, 0, 0, 0, 0, 0), (11, .getfield 11, 8, 0, 264, 0, 0), (14, .iload_n 1, 0, 0, 0, 0, 0), (15, .iaload, 0, 0, 0, 0, 0), (16, .lload_n 3, 0, 0, 0, 0, 0)]
theorem oX8_put_0 : bX8_put_0.all (mz_ok RX8 cX8_put 5) = true := by decide +kernel
def bX8_put_20 : List mz_E := [(20, .lastore, 0, 0, 0, 0, 0)]
theorem oX8_put_20 : bX8_put_20.all (mz_ok RX8 cX8_put 5) = true := by decide +kernel
abbrev IX8_put : mz_I := (yX8_put, cX8_put, 5, none, 0, 1, 0, 0)
theorem kX8_put : mz_okm IX8_put 666 133 664 3 = true := by decide +kernel
theorem vX8_put : mz_okV IX8_put 664 665 = true := by decide +kernel
def fX8_put (x1 : Int32) (x2 : Int32) (y3 : Int64) (D : mz_D) : Option mz_D := (mz_gd (mz_ix x1 4) (mz_gd (mz_ix ((x1 * (60 : Int32)) + x2) 240) (some (mz_wg D 0 7 (((x1 * (60 : Int32)) + x2)).toNatClampNeg (fX8_cut (D.1 0 5 (x1).toNatClampNeg) y3)))))
set_option maxHeartbeats 4000000 in
theorem mX8_put (x1 : Int32) (x2 : Int32) (y3 : Int64) (D : mz_D) (r : mz_D) (h : fX8_put x1 x2 y3 D = some r) : mz_Met IX8_put [.inr (.inr (some (0, 4))), .inl x1, .inl x2, .inr (.inl y3)] D (none, r) := by
  refine mz_Met.of (by decide +kernel) (Nat.le_of_ble_eq_true rfl) ?_
  show mz_Go IX8_put (none, r) 0 0 (0, [some (.inr (.inr (some (0, 4)))), some (.inl x1), some (.inl x2), some (.inr (.inl y3)), none], [], D)
  rw [fX8_put] at h
  obtain ⟨hb1, h⟩ := mz_gd_some h
  refine mz_Go.run (gs := [mz_kz 0 0 4, mz_kz 0 0 4, mz_kz 0 0 5, mz_ix x1 4]) (st' := (17, [some (.inr (.inr (some (0, 4)))), some (.inl x1), some (.inl x2), some (.inr (.inl y3)), none], [.inr (.inl y3), .inl (D.1 0 5 (x1).toNatClampNeg), .inl ((x1 * (60 : Int32)) + x2), .inr (.inr (some (0, 7)))], D)) bX8_put_0 oX8_put_0 rfl ⟨rfl, rfl, rfl, hb1, trivial⟩ ?_
  refine mz_Go.callS (J := IX8_cut) (as := [.inl (D.1 0 5 (x1).toNatClampNeg), .inr (.inl y3)]) (idx := 28) (pl := 667) (rest := [.inl ((x1 * (60 : Int32)) + x2), .inr (.inr (some (0, 7)))]) (mX8_cut (D.1 0 5 (x1).toNatClampNeg) y3 D _ rfl) kX8_cut vX8_cut (by decide +kernel) (by decide +kernel) (by decide +kernel) rfl rfl ⟨rfl, rfl⟩ rfl ?_
  obtain ⟨hb2, h⟩ := mz_gd_some h
  refine mz_Go.run (gs := [mz_kz 0 0 7, mz_ix ((x1 * (60 : Int32)) + x2) 240]) (st' := (21, [some (.inr (.inr (some (0, 4)))), some (.inl x1), some (.inl x2), some (.inr (.inl y3)), none], [], (mz_wg D 0 7 (((x1 * (60 : Int32)) + x2)).toNatClampNeg (fX8_cut (D.1 0 5 (x1).toNatClampNeg) y3)))) bX8_put_20 oX8_put_20 rfl ⟨rfl, hb2, trivial⟩ ?_
  cases h
  exact mz_Go.retv (by decide +kernel) rfl ⟨Nat.le_refl _, Nat.le_refl _⟩ rfl
def bX8_move_0 : List mz_E := [(0, .aload_n 0, 0, 0, 0, 0, 0), (1, .getfield 18, 8, 2, 266, 0, 0), (4, .iload_n 1, 0, 0, 0, 0, 0), (5, .bipush 60, 0, 0, 0, 60, 0), (7, .imul, 0, 0, 0, 0, 0), (8, .iload_n 2, 0, 0, 0, 0, 0), (9, .iadd, 0, 0, 0, 0, 0), (10, .aload_n 0, 0, 0, 0, 0, 0), (11, .getfield 18, 8, 2, 266, 0, 0), (14, .iload_n 3, 0, 0, 0, 0, 0), (15, .bipush 60, 0, 0, 0, 60, 0), (17, .imul, 0, 0, 0, 0, 0), (18, .iload 4, 0, 0, 0, 0, 0), (20, .iadd, 0, 0, 0, 0, 0), (21, .iload 5, 0, 0, 0, 0, 0)]
theorem oX8_move_0 : bX8_move_0.all (mz_ok RX8 cX8_move 6) = true := by decide +kernel
abbrev IX8_move : mz_I := (yX8_move, cX8_move, 6, none, 0, 1, 0, 0)
theorem kX8_move : mz_okm IX8_move 693 133 691 5 = true := by decide +kernel
theorem vX8_move : mz_okV IX8_move 691 692 = true := by decide +kernel
def fX8_move (x1 : Int32) (x2 : Int32) (x3 : Int32) (x4 : Int32) (x5 : Int32) (D : mz_D) : Option mz_D := (mz_gd (mz_cpg ((x1 * (60 : Int32)) + x2) ((x3 * (60 : Int32)) + x4) x5 240 240) (some (mz_cpl D 0 7 0 7 (((x1 * (60 : Int32)) + x2)).toNatClampNeg (((x3 * (60 : Int32)) + x4)).toNatClampNeg (x5).toNatClampNeg)))
set_option maxHeartbeats 4000000 in
theorem mX8_move (x1 : Int32) (x2 : Int32) (x3 : Int32) (x4 : Int32) (x5 : Int32) (D : mz_D) (r : mz_D) (h : fX8_move x1 x2 x3 x4 x5 D = some r) : mz_Met IX8_move [.inr (.inr (some (0, 4))), .inl x1, .inl x2, .inl x3, .inl x4, .inl x5] D (none, r) := by
  refine mz_Met.of (by decide +kernel) (Nat.le_of_ble_eq_true rfl) ?_
  show mz_Go IX8_move (none, r) 0 0 (0, [some (.inr (.inr (some (0, 4)))), some (.inl x1), some (.inl x2), some (.inl x3), some (.inl x4), some (.inl x5)], [], D)
  rw [fX8_move] at h
  refine mz_Go.run (gs := [mz_kz 0 0 4, mz_kz 0 0 4]) (st' := (23, [some (.inr (.inr (some (0, 4)))), some (.inl x1), some (.inl x2), some (.inl x3), some (.inl x4), some (.inl x5)], [.inl x5, .inl ((x3 * (60 : Int32)) + x4), .inr (.inr (some (0, 7))), .inl ((x1 * (60 : Int32)) + x2), .inr (.inr (some (0, 7)))], D)) bX8_move_0 oX8_move_0 rfl ⟨rfl, rfl, trivial⟩ ?_
  obtain ⟨hb1, h⟩ := mz_gd_some h
  refine mz_Go.cpl (idx := 32) (pl := 694) (pn := 696) (ps := 695) (pi := 143) (by decide +kernel) (by decide +kernel) rfl rfl rfl rfl hb1 rfl ?_
  cases h
  exact mz_Go.retv (by decide +kernel) rfl ⟨Nat.le_refl _, Nat.le_refl _⟩ rfl
def bX8_areWithin_0 : List mz_E := [(0, .iconst 0, 0, 0, 0, 0, 0), (1, .istore 7, 0, 0, 0, 0, 0)]
theorem oX8_areWithin_0 : bX8_areWithin_0.all (mz_ok RX8 cX8_areWithin 10) = true := by decide +kernel
def bX8_areWithin_3 : List mz_E := [(3, .iload 7, 0, 0, 0, 0, 0), (5, .iload_n 2, 0, 0, 0, 0, 0), (6, .if_icmp .ge 42, 0, 48, 0, 0, 0)]
theorem oX8_areWithin_3 : bX8_areWithin_3.all (mz_ok RX8 cX8_areWithin 10) = true := by decide +kernel
def bX8_areWithin_48 : List mz_E := [(48, .iconst 1, 0, 0, 0, 1, 0)]
theorem oX8_areWithin_48 : bX8_areWithin_48.all (mz_ok RX8 cX8_areWithin 10) = true := by decide +kernel
def bX8_areWithin_9 : List mz_E := [(9, .iload 7, 0, 0, 0, 0, 0), (11, .bipush 60, 0, 0, 0, 60, 0), (13, .if_icmp .ge 35, 0, 48, 0, 0, 0)]
theorem oX8_areWithin_9 : bX8_areWithin_9.all (mz_ok RX8 cX8_areWithin 10) = true := by decide +kernel
def bX8_areWithin_16 : List mz_E := [(16, .aload_n 0, 0, 0, 0, 0, 0), (17, .iload_n 1, 0, 0, 0, 0, 0), (18, .iload 7, 0, 0, 0, 0, 0)]
theorem oX8_areWithin_16 : bX8_areWithin_16.all (mz_ok RX8 cX8_areWithin 10) = true := by decide +kernel
def bX8_areWithin_23 : List mz_E := [(23, .lstore 8, 0, 0, 0, 0, 0), (25, .lload 8, 0, 0, 0, 0, 0), (27, .lload_n 3, 0, 0, 0, 0, 0), (28, .lcmp, 0, 0, 0, 0, 0), (29, .ifCond .lt 11, 0, 40, 0, 0, 0)]
theorem oX8_areWithin_23 : bX8_areWithin_23.all (mz_ok RX8 cX8_areWithin 10) = true := by decide +kernel
def bX8_areWithin_40 : List mz_E := [(40, .iconst 0, 0, 0, 0, 0, 0)]
theorem oX8_areWithin_40 : bX8_areWithin_40.all (mz_ok RX8 cX8_areWithin 10) = true := by decide +kernel
def bX8_areWithin_32 : List mz_E := [(32, .lload 8, 0, 0, 0, 0, 0), (34, .lload 5, 0, 0, 0, 0, 0), (36, .lcmp, 0, 0, 0, 0, 0), (37, .ifCond .le 5, 0, 42, 0, 0, 0)]
theorem oX8_areWithin_32 : bX8_areWithin_32.all (mz_ok RX8 cX8_areWithin 10) = true := by decide +kernel
def bX8_areWithin_42 : List mz_E := [(42, .iinc 7 1, 0, 0, 0, 1, 0), (45, .goto (-42), 0, 3, 0, 0, 0)]
theorem oX8_areWithin_42 : bX8_areWithin_42.all (mz_ok RX8 cX8_areWithin 10) = true := by decide +kernel
abbrev IX8_areWithin : mz_I := (yX8_areWithin, cX8_areWithin, 10, (some .boolean), 0, 1, 0, 0)
theorem kX8_areWithin : mz_okm IX8_areWithin 1469 133 1467 4 = true := by decide +kernel
theorem vX8_areWithin : mz_okV IX8_areWithin 1467 1468 = true := by decide +kernel
def fX8_areWithin_3 (D : mz_D) : Nat → Int32 → Int32 → Int64 → Int64 → Int32 → Option Int32
  | 0 => fun _ _ _ _ _ => none
  | n + 1 => fun x1 x2 y3 y5 x7 => (if x2 ≤ x7 then (some (1 : Int32)) else (if (60 : Int32) ≤ x7 then (some (1 : Int32)) else (Option.bind (fX8_get x1 x7 D) fun q3 => (if (lg_cmp q3 y3) < 0 then (some (0 : Int32)) else (if (lg_cmp q3 y5) ≤ 0 then ((fX8_areWithin_3 D n) x1 x2 y3 y5 (x7 + (1 : Int32))) else (some (0 : Int32)))))))
set_option maxHeartbeats 4000000 in
theorem tX8_areWithin_3 (D : mz_D) (r : Int32) : ∀ (n : Nat) (x1 : Int32) (x2 : Int32) (y3 : Int64) (y5 : Int64) (x7 : Int32), fX8_areWithin_3 D n x1 x2 y3 y5 x7 = some r → mz_Go IX8_areWithin (some (.inl r), D) 0 0 (3, [some (.inr (.inr (some (0, 4)))), some (.inl x1), some (.inl x2), some (.inr (.inl y3)), none, some (.inr (.inl y5)), none, some (.inl x7), none, none], [], D) := by
  intro n
  induction n with
  | zero => intro x1 x2 y3 y5 x7 h; have h : (none : Option Int32) = some r := h; cases h
  | succ n ih =>
    intro x1 x2 y3 y5 x7 h
    rw [fX8_areWithin_3] at h
    refine mz_Go.run (gs := []) (st' := (if x2 ≤ x7 then (48, [some (.inr (.inr (some (0, 4)))), some (.inl x1), some (.inl x2), some (.inr (.inl y3)), none, some (.inr (.inl y5)), none, some (.inl x7), none, none], [], D) else (9, [some (.inr (.inr (some (0, 4)))), some (.inl x1), some (.inl x2), some (.inr (.inl y3)), none, some (.inr (.inl y5)), none, some (.inl x7), none, none], [], D))) bX8_areWithin_3 oX8_areWithin_3 rfl trivial ?_
    refine mz_Go.ite (fun hc1 => ?_) (fun hc1 => ?_)
    · have h := mz_ifp hc1 h
      refine mz_Go.run (gs := []) (st' := (49, [some (.inr (.inr (some (0, 4)))), some (.inl x1), some (.inl x2), some (.inr (.inl y3)), none, some (.inr (.inl y5)), none, some (.inl x7), none, none], [.inl (1 : Int32)], D)) bX8_areWithin_48 oX8_areWithin_48 rfl trivial ?_
      cases h
      exact mz_Go.retz (by decide +kernel) rfl ⟨Nat.le_refl _, Nat.le_refl _⟩ (by decide) rfl
    · have h := mz_ifn hc1 h
      refine mz_Go.run (gs := []) (st' := (if (60 : Int32) ≤ x7 then (48, [some (.inr (.inr (some (0, 4)))), some (.inl x1), some (.inl x2), some (.inr (.inl y3)), none, some (.inr (.inl y5)), none, some (.inl x7), none, none], [], D) else (16, [some (.inr (.inr (some (0, 4)))), some (.inl x1), some (.inl x2), some (.inr (.inl y3)), none, some (.inr (.inl y5)), none, some (.inl x7), none, none], [], D))) bX8_areWithin_9 oX8_areWithin_9 rfl trivial ?_
      refine mz_Go.ite (fun hc2 => ?_) (fun hc2 => ?_)
      · have h := mz_ifp hc2 h
        refine mz_Go.run (gs := []) (st' := (49, [some (.inr (.inr (some (0, 4)))), some (.inl x1), some (.inl x2), some (.inr (.inl y3)), none, some (.inr (.inl y5)), none, some (.inl x7), none, none], [.inl (1 : Int32)], D)) bX8_areWithin_48 oX8_areWithin_48 rfl trivial ?_
        cases h
        exact mz_Go.retz (by decide +kernel) rfl ⟨Nat.le_refl _, Nat.le_refl _⟩ (by decide) rfl
      · have h := mz_ifn hc2 h
        refine mz_Go.run (gs := []) (st' := (20, [some (.inr (.inr (some (0, 4)))), some (.inl x1), some (.inl x2), some (.inr (.inl y3)), none, some (.inr (.inl y5)), none, some (.inl x7), none, none], [.inl x7, .inl x1, .inr (.inr (some (0, 4)))], D)) bX8_areWithin_16 oX8_areWithin_16 rfl trivial ?_
        obtain ⟨q3, hq3, h⟩ := mz_bd_some h
        refine mz_Go.callV (J := IX8_get) (as := [.inl x1, .inl x7]) (ci := 8) (g := 0) (o := 4) (idx := 38) (pl := 1470) (rest := []) (mX8_get x1 x7 D q3 hq3) kX8_get vX8_get (by decide +kernel) (by decide +kernel) (by decide +kernel) rfl rfl ⟨rfl, rfl⟩ rfl rfl rfl rfl ?_
        refine mz_Go.run (gs := []) (st' := (if (lg_cmp q3 y3) < 0 then (40, [some (.inr (.inr (some (0, 4)))), some (.inl x1), some (.inl x2), some (.inr (.inl y3)), none, some (.inr (.inl y5)), none, some (.inl x7), some (.inr (.inl q3)), none], [], D) else (32, [some (.inr (.inr (some (0, 4)))), some (.inl x1), some (.inl x2), some (.inr (.inl y3)), none, some (.inr (.inl y5)), none, some (.inl x7), some (.inr (.inl q3)), none], [], D))) bX8_areWithin_23 oX8_areWithin_23 rfl trivial ?_
        refine mz_Go.ite (fun hc4 => ?_) (fun hc4 => ?_)
        · have h := mz_ifp hc4 h
          refine mz_Go.run (gs := []) (st' := (41, [some (.inr (.inr (some (0, 4)))), some (.inl x1), some (.inl x2), some (.inr (.inl y3)), none, some (.inr (.inl y5)), none, some (.inl x7), some (.inr (.inl q3)), none], [.inl (0 : Int32)], D)) bX8_areWithin_40 oX8_areWithin_40 rfl trivial ?_
          cases h
          exact mz_Go.retz (by decide +kernel) rfl ⟨Nat.le_refl _, Nat.le_refl _⟩ (by decide) rfl
        · have h := mz_ifn hc4 h
          refine mz_Go.run (gs := []) (st' := (if (lg_cmp q3 y5) ≤ 0 then (42, [some (.inr (.inr (some (0, 4)))), some (.inl x1), some (.inl x2), some (.inr (.inl y3)), none, some (.inr (.inl y5)), none, some (.inl x7), some (.inr (.inl q3)), none], [], D) else (40, [some (.inr (.inr (some (0, 4)))), some (.inl x1), some (.inl x2), some (.inr (.inl y3)), none, some (.inr (.inl y5)), none, some (.inl x7), some (.inr (.inl q3)), none], [], D))) bX8_areWithin_32 oX8_areWithin_32 rfl trivial ?_
          refine mz_Go.ite (fun hc5 => ?_) (fun hc5 => ?_)
          · have h := mz_ifp hc5 h
            refine mz_Go.run (gs := []) (st' := (3, [some (.inr (.inr (some (0, 4)))), some (.inl x1), some (.inl x2), some (.inr (.inl y3)), none, some (.inr (.inl y5)), none, some (.inl (x7 + (1 : Int32))), some (.inr (.inl q3)), none], [], D)) bX8_areWithin_42 oX8_areWithin_42 rfl trivial ?_
            exact mz_Go.drop [true, true, true, true, false, true, false, true, false, false] (ih x1 x2 y3 y5 (x7 + (1 : Int32)) h)
          · have h := mz_ifn hc5 h
            refine mz_Go.run (gs := []) (st' := (41, [some (.inr (.inr (some (0, 4)))), some (.inl x1), some (.inl x2), some (.inr (.inl y3)), none, some (.inr (.inl y5)), none, some (.inl x7), some (.inr (.inl q3)), none], [.inl (0 : Int32)], D)) bX8_areWithin_40 oX8_areWithin_40 rfl trivial ?_
            cases h
            exact mz_Go.retz (by decide +kernel) rfl ⟨Nat.le_refl _, Nat.le_refl _⟩ (by decide) rfl
def fX8_areWithin (x1 : Int32) (x2 : Int32) (y3 : Int64) (y5 : Int64) (D : mz_D) : Option Int32 := (fX8_areWithin_3 D mz_N x1 x2 y3 y5 (0 : Int32))
set_option maxHeartbeats 4000000 in
theorem mX8_areWithin (x1 : Int32) (x2 : Int32) (y3 : Int64) (y5 : Int64) (D : mz_D) (r : Int32) (h : fX8_areWithin x1 x2 y3 y5 D = some r) : mz_Met IX8_areWithin [.inr (.inr (some (0, 4))), .inl x1, .inl x2, .inr (.inl y3), .inr (.inl y5)] D (some (.inl r), D) := by
  refine mz_Met.of (by decide +kernel) (Nat.le_of_ble_eq_true rfl) ?_
  show mz_Go IX8_areWithin (some (.inl r), D) 0 0 (0, [some (.inr (.inr (some (0, 4)))), some (.inl x1), some (.inl x2), some (.inr (.inl y3)), none, some (.inr (.inl y5)), none, none, none, none], [], D)
  rw [fX8_areWithin] at h
  refine mz_Go.run (gs := []) (st' := (3, [some (.inr (.inr (some (0, 4)))), some (.inl x1), some (.inl x2), some (.inr (.inl y3)), none, some (.inr (.inl y5)), none, some (.inl (0 : Int32)), none, none], [], D)) bX8_areWithin_0 oX8_areWithin_0 rfl trivial ?_
  exact mz_Go.drop [true, true, true, true, false, true, false, true, false, false] (tX8_areWithin_3 D r mz_N x1 x2 y3 y5 (0 : Int32) h)
def bX9_add_0 : List mz_E := [(0, .aload_n 0, 0, 0, 0, 0, 0), (1, .getfield 37, 9, 1, 431, 0, 0), (4, .istore_n 2, 0, 0, 0, 0, 0), (5, .aload_n 0, 0, 0, 0, 0, 0), (6, .getfield 9, 9, 2, 435, 0, 0), (9, .iload_n 2, 0, 0, 0, 0, 0), (10, .iload_n 1, 0, 0, 0, 0, 0), (11, .iastore, 0, 0, 0, 0, 0), (12, .aload_n 0, 0, 0, 0, 0, 0), (13, .getfield 15, 9, 3, 438, 0, 0), (16, .iload_n 2, 0, 0, 0, 0, 0), (17, .iconst (-1), 0, 0, 0, -1, 0), (18, .iastore, 0, 0, 0, 0, 0), (19, .aload_n 0, 0, 0, 0, 0, 0), (20, .getfield 18, 9, 4, 441, 0, 0), (23, .iload_n 2, 0, 0, 0, 0, 0), (24, .iconst (-1), 0, 0, 0, -1, 0), (25, .iastore, 0, 0, 0, 0, 0), (26, .aload_n 0, 0, 0, 0, 0, 0), (27, .getfield 21, 9, 5, 444, 0, 0), (30, .iload_n 2, 0, 0, 0, 0, 0), (31, .iconst (-1), 0, 0, 0, -1, 0), (32, .iastore, 0, 0, 0, 0, 0), (33, .aload_n 0, 0, 0, 0, 0, 0), (34, .getfield 24, 9, 6, 447, 0, 0), (37, .iload_n 2, 0, 0, 0, 0, 0), (38, .iconst 0, 0, 0, 0, 0, 0), (39, .iastore, 0, 0, 0, 0, 0), (40, .aload_n 0, 0, 0, 0, 0, 0), (41, .getfield 27, 9, 7, 450, 0, 0), (44, .iload_n 2, 0, 0, 0, 0, 0), (45, .iconst 0, 0, 0, 0, 0, 0), (46, .iastore, 0, 0, 0, 0, 0), (47, .aload_n 0, 0, 0, 0, 0, 0), (48, .getfield 30, 9, 8, 453, 0, 0), (51, .iload_n 2, 0, 0, 0, 0, 0), (52, .iload_n 2, 0, 0, 0, 0, 0), (53, .iconst 1, 0, 0, 0, 1, 0), (54, .iadd, 0, 0, 0, 0, 0), (55, .iastore, 0, 0, 0, 0, 0), (56, .aload_n 0, 0, 0, 0, 0, 0), (57, .dup, 0, 0, 0, 0, 0), (58, .getfield 37, 9, 1, 431, 0, 0), (61, .iconst 1, 0, 0, 0, 1, 0), (62, .iadd, 0, 0, 0, 0, 0), (63, .putfield 37, 9, 1, 431, 0, 0), (66, .iload_n 2, 0, 0, 0, 0, 0)]
theorem oX9_add_0 : bX9_add_0.all (mz_ok RX9 cX9_add 3) = true := by decide +kernel
abbrev IX9_add : mz_I := (yX9_add, cX9_add, 3, (some .int), 0, 0, 0, 0)
theorem kX9_add : mz_okm IX9_add 970 140 968 1 = true := by decide +kernel
theorem vX9_add : mz_okV IX9_add 968 969 = true := by decide +kernel
def fX9_add (g0 : Nat) (x1 : Int32) (D : mz_D) : Option (Int32 × mz_D) := (mz_gd (mz_ix (D.1 g0 119 1) 30) (some ((D.1 g0 119 1), (mz_wi (mz_wi (mz_wi (mz_wi (mz_wi (mz_wi (mz_wi (mz_wi D g0 120 ((D.1 g0 119 1)).toNatClampNeg x1) g0 121 ((D.1 g0 119 1)).toNatClampNeg (-1 : Int32)) g0 122 ((D.1 g0 119 1)).toNatClampNeg (-1 : Int32)) g0 123 ((D.1 g0 119 1)).toNatClampNeg (-1 : Int32)) g0 124 ((D.1 g0 119 1)).toNatClampNeg (0 : Int32)) g0 125 ((D.1 g0 119 1)).toNatClampNeg (0 : Int32)) g0 126 ((D.1 g0 119 1)).toNatClampNeg ((D.1 g0 119 1) + (1 : Int32))) g0 119 1 ((D.1 g0 119 1) + (1 : Int32))))))
set_option maxHeartbeats 4000000 in
theorem mX9_add (g0 : Nat) (x1 : Int32) (D : mz_D) (hg0 : mz_tb g0 = true) (r : (Int32 × mz_D)) (h : fX9_add g0 x1 D = some r) : mz_Met IX9_add [.inr (.inr (some (g0, 119))), .inl x1] D (some (.inl r.1), r.2) := by
  refine mz_Met.of (by decide +kernel) (Nat.le_of_ble_eq_true rfl) ?_
  show mz_Go IX9_add (some (.inl r.1), r.2) 0 0 (0, [some (.inr (.inr (some (g0, 119)))), some (.inl x1), none], [], D)
  rw [fX9_add] at h
  obtain ⟨hb1, h⟩ := mz_gd_some h
  refine mz_Go.run (gs := [mz_kz 0 g0 119, mz_kz 0 g0 119, mz_kz 0 g0 120, mz_ix (D.1 g0 119 1) 30, mz_kz 0 g0 119, mz_kz 0 g0 121, mz_ix (D.1 g0 119 1) 30, mz_kz 0 g0 119, mz_kz 0 g0 122, mz_ix (D.1 g0 119 1) 30, mz_kz 0 g0 119, mz_kz 0 g0 123, mz_ix (D.1 g0 119 1) 30, mz_kz 0 g0 119, mz_kz 0 g0 124, mz_ix (D.1 g0 119 1) 30, mz_kz 0 g0 119, mz_kz 0 g0 125, mz_ix (D.1 g0 119 1) 30, mz_kz 0 g0 119, mz_kz 0 g0 126, mz_ix (D.1 g0 119 1) 30, mz_kz 0 g0 119, mz_kz 0 g0 119]) (st' := (67, [some (.inr (.inr (some (g0, 119)))), some (.inl x1), some (.inl (D.1 g0 119 1))], [.inl (D.1 g0 119 1)], (mz_wi (mz_wi (mz_wi (mz_wi (mz_wi (mz_wi (mz_wi (mz_wi D g0 120 ((D.1 g0 119 1)).toNatClampNeg x1) g0 121 ((D.1 g0 119 1)).toNatClampNeg (-1 : Int32)) g0 122 ((D.1 g0 119 1)).toNatClampNeg (-1 : Int32)) g0 123 ((D.1 g0 119 1)).toNatClampNeg (-1 : Int32)) g0 124 ((D.1 g0 119 1)).toNatClampNeg (0 : Int32)) g0 125 ((D.1 g0 119 1)).toNatClampNeg (0 : Int32)) g0 126 ((D.1 g0 119 1)).toNatClampNeg ((D.1 g0 119 1) + (1 : Int32))) g0 119 1 ((D.1 g0 119 1) + (1 : Int32))))) bX9_add_0 oX9_add_0 rfl ⟨hg0, hg0, hg0, hb1, hg0, hg0, hb1, hg0, hg0, hb1, hg0, hg0, hb1, hg0, hg0, hb1, hg0, hg0, hb1, hg0, hg0, hb1, hg0, hg0, trivial⟩ ?_
  cases h
  exact mz_Go.reti (by decide +kernel) rfl ⟨Nat.le_refl _, Nat.le_refl _⟩ rfl
def bX10_takesEnd_0 : List mz_E := [(0, .aload_n 0, 0, 0, 0, 0, 0), (1, .getfield 55, 10, 4, 934, 0, 0), (4, .ifCond .ne 12, 0, 16, 0, 0, 0)]
theorem oX10_takesEnd_0 : bX10_takesEnd_0.all (mz_ok RX10 cX10_takesEnd 1) = true := by decide +kernel
def bX10_takesEnd_7 : List mz_E := [(7, .aload_n 0, 0, 0, 0, 0, 0), (8, .getfield 15, 10, 0, 930, 0, 0), (11, .iconst 2, 0, 0, 0, 2, 0)]
theorem oX10_takesEnd_7 : bX10_takesEnd_7.all (mz_ok RX10 cX10_takesEnd 1) = true := by decide +kernel
def bX10_takesEnd_16 : List mz_E := [(16, .aload_n 0, 0, 0, 0, 0, 0), (17, .dup, 0, 0, 0, 0, 0), (18, .getfield 55, 10, 4, 934, 0, 0), (21, .iconst 1, 0, 0, 0, 1, 0), (22, .isub, 0, 0, 0, 0, 0), (23, .putfield 55, 10, 4, 934, 0, 0), (26, .aload_n 0, 0, 0, 0, 0, 0), (27, .getfield 23, 10, 2, 932, 0, 0), (30, .getfield 68, 9, 8, 454, 0, 0), (33, .aload_n 0, 0, 0, 0, 0, 0), (34, .getfield 9, 10, 3, 933, 0, 0), (37, .aload_n 0, 0, 0, 0, 0, 0), (38, .getfield 55, 10, 4, 934, 0, 0), (41, .iaload, 0, 0, 0, 0, 0), (42, .aload_n 0, 0, 0, 0, 0, 0), (43, .getfield 23, 10, 2, 932, 0, 0), (46, .getfield 71, 9, 1, 432, 0, 0), (49, .iastore, 0, 0, 0, 0, 0), (50, .aload_n 0, 0, 0, 0, 0, 0), (51, .getfield 15, 10, 0, 930, 0, 0)]
theorem oX10_takesEnd_16 : bX10_takesEnd_16.all (mz_ok RX10 cX10_takesEnd 1) = true := by decide +kernel
def bX10_takesEnd_57 : List mz_E := [(57, .iconst 1, 0, 0, 0, 1, 0)]
theorem oX10_takesEnd_57 : bX10_takesEnd_57.all (mz_ok RX10 cX10_takesEnd 1) = true := by decide +kernel
abbrev IX10_takesEnd : mz_I := (yX10_takesEnd, cX10_takesEnd, 1, (some .boolean), 2, 2, 0, 0)
theorem kX10_takesEnd : mz_okm IX10_takesEnd 957 146 956 0 = true := by decide +kernel
theorem vX10_takesEnd : mz_okV IX10_takesEnd 956 16 = true := by decide +kernel
def fX10_takesEnd (D : mz_D) : Option (Int32 × mz_D) := (if (D.1 0 301 4) = 0 then (Option.bind (fX5_fail (2 : Int32) D) fun q2 => (mz_gd (mz_bo q2.1) (some (q2.1, q2.2)))) else (mz_gd (mz_ix ((D.1 0 301 4) - (1 : Int32)) 3) (mz_gd (mz_ix (D.1 0 302 (((D.1 0 301 4) - (1 : Int32))).toNatClampNeg) 30) (Option.bind (fX5_advance (mz_wi (mz_wi D 0 301 4 ((D.1 0 301 4) - (1 : Int32))) 2 126 ((D.1 0 302 (((D.1 0 301 4) - (1 : Int32))).toNatClampNeg)).toNatClampNeg (D.1 2 119 1))) fun q6 => (some ((1 : Int32), q6))))))
set_option maxHeartbeats 4000000 in
theorem mX10_takesEnd (D : mz_D) (r : (Int32 × mz_D)) (h : fX10_takesEnd D = some r) : mz_Met IX10_takesEnd [.inr (.inr (some (0, 301)))] D (some (.inl r.1), r.2) := by
  refine mz_Met.of (by decide +kernel) (Nat.le_of_ble_eq_true rfl) ?_
  show mz_Go IX10_takesEnd (some (.inl r.1), r.2) 0 0 (0, [some (.inr (.inr (some (0, 301))))], [], D)
  rw [fX10_takesEnd] at h
  refine mz_Go.run (gs := [mz_kz 2 0 301]) (st' := (if (D.1 0 301 4) = 0 then (7, [some (.inr (.inr (some (0, 301))))], [], D) else (16, [some (.inr (.inr (some (0, 301))))], [], D))) bX10_takesEnd_0 oX10_takesEnd_0 rfl ⟨rfl, trivial⟩ ?_
  refine mz_Go.ite (fun hc1 => ?_) (fun hc1 => ?_)
  · have h := mz_ifp hc1 h
    refine mz_Go.run (gs := [mz_kz 2 0 301]) (st' := (12, [some (.inr (.inr (some (0, 301))))], [.inl (2 : Int32), .inr (.inr (some (0, 2)))], D)) bX10_takesEnd_7 oX10_takesEnd_7 rfl ⟨rfl, trivial⟩ ?_
    obtain ⟨q2, hq2, h⟩ := mz_bd_some h
    refine mz_Go.callV (J := IX5_fail) (as := [.inl (2 : Int32)]) (ci := 5) (g := 0) (o := 2) (idx := 58) (pl := 958) (rest := []) (mX5_fail (2 : Int32) D q2 hq2) kX5_fail vX5_fail (by decide +kernel) (by decide +kernel) (by decide +kernel) rfl rfl ⟨rfl, rfl⟩ rfl rfl rfl rfl ?_
    obtain ⟨hb3, h⟩ := mz_gd_some h
    cases h
    exact mz_Go.retz (by decide +kernel) rfl ⟨Nat.le_refl _, Nat.le_refl _⟩ hb3 rfl
  · have h := mz_ifn hc1 h
    obtain ⟨hb4, h⟩ := mz_gd_some h
    obtain ⟨hb5, h⟩ := mz_gd_some h
    refine mz_Go.run (gs := [mz_kz 2 0 301, mz_kz 2 0 301, mz_kz 2 0 301, mz_kz 2 2 119, mz_kz 2 0 301, mz_kz 2 0 301, mz_kz 2 0 302, mz_ix ((D.1 0 301 4) - (1 : Int32)) 3, mz_kz 2 0 301, mz_kz 2 2 119, mz_kz 2 2 126, mz_ix (D.1 0 302 (((D.1 0 301 4) - (1 : Int32))).toNatClampNeg) 30, mz_kz 2 0 301]) (st' := (54, [some (.inr (.inr (some (0, 301))))], [.inr (.inr (some (0, 2)))], (mz_wi (mz_wi D 0 301 4 ((D.1 0 301 4) - (1 : Int32))) 2 126 ((D.1 0 302 (((D.1 0 301 4) - (1 : Int32))).toNatClampNeg)).toNatClampNeg (D.1 2 119 1)))) bX10_takesEnd_16 oX10_takesEnd_16 rfl ⟨rfl, rfl, rfl, rfl, rfl, rfl, rfl, hb4, rfl, rfl, rfl, hb5, rfl, trivial⟩ ?_
    obtain ⟨q6, hq6, h⟩ := mz_bd_some h
    refine mz_Go.callV (J := IX5_advance) (as := []) (ci := 5) (g := 0) (o := 2) (idx := 74) (pl := 959) (rest := []) (mX5_advance (mz_wi (mz_wi D 0 301 4 ((D.1 0 301 4) - (1 : Int32))) 2 126 ((D.1 0 302 (((D.1 0 301 4) - (1 : Int32))).toNatClampNeg)).toNatClampNeg (D.1 2 119 1)) q6 hq6) kX5_advance vX5_advance (by decide +kernel) (by decide +kernel) (by decide +kernel) rfl rfl ⟨rfl, rfl⟩ rfl rfl rfl rfl ?_
    refine mz_Go.run (gs := []) (st' := (58, [some (.inr (.inr (some (0, 301))))], [.inl (1 : Int32)], q6)) bX10_takesEnd_57 oX10_takesEnd_57 rfl trivial ?_
    cases h
    exact mz_Go.retz (by decide +kernel) rfl ⟨Nat.le_refl _, Nat.le_refl _⟩ (by decide) rfl
def bX10_isWork_0 : List mz_E := [(0, .iload_n 0, 0, 0, 0, 0, 0), (1, .bipush 17, 0, 0, 0, 17, 0), (3, .if_icmp .lt 9, 0, 12, 0, 0, 0)]
theorem oX10_isWork_0 : bX10_isWork_0.all (mz_ok RX10 cX10_isWork 1) = true := by decide +kernel
def bX10_isWork_12 : List mz_E := [(12, .iload_n 0, 0, 0, 0, 0, 0), (13, .bipush 24, 0, 0, 0, 24, 0), (15, .if_icmp .eq 15, 0, 30, 0, 0, 0)]
theorem oX10_isWork_12 : bX10_isWork_12.all (mz_ok RX10 cX10_isWork 1) = true := by decide +kernel
def bX10_isWork_30 : List mz_E := [(30, .iconst 1, 0, 0, 0, 1, 0), (31, .goto 4, 0, 35, 0, 0, 0)]
theorem oX10_isWork_30 : bX10_isWork_30.all (mz_ok RX10 cX10_isWork 1) = true := by decide +kernel
def bX10_isWork_18 : List mz_E := [(18, .iload_n 0, 0, 0, 0, 0, 0), (19, .bipush 26, 0, 0, 0, 26, 0), (21, .if_icmp .eq 9, 0, 30, 0, 0, 0)]
theorem oX10_isWork_18 : bX10_isWork_18.all (mz_ok RX10 cX10_isWork 1) = true := by decide +kernel
def bX10_isWork_24 : List mz_E := [(24, .iload_n 0, 0, 0, 0, 0, 0), (25, .bipush 28, 0, 0, 0, 28, 0), (27, .if_icmp .ne 7, 0, 34, 0, 0, 0)]
theorem oX10_isWork_24 : bX10_isWork_24.all (mz_ok RX10 cX10_isWork 1) = true := by decide +kernel
def bX10_isWork_34 : List mz_E := [(34, .iconst 0, 0, 0, 0, 0, 0)]
theorem oX10_isWork_34 : bX10_isWork_34.all (mz_ok RX10 cX10_isWork 1) = true := by decide +kernel
def bX10_isWork_6 : List mz_E := [(6, .iload_n 0, 0, 0, 0, 0, 0), (7, .bipush 21, 0, 0, 0, 21, 0), (9, .if_icmp .le 21, 0, 30, 0, 0, 0)]
theorem oX10_isWork_6 : bX10_isWork_6.all (mz_ok RX10 cX10_isWork 1) = true := by decide +kernel
abbrev IX10_isWork : mz_I := (yX10_isWork, cX10_isWork, 1, (some .boolean), 2, 0, 0, 0)
theorem kX10_isWork : mz_okm IX10_isWork 966 146 965 1 = true := by decide +kernel
theorem vX10_isWork : mz_okS IX10_isWork 965 = true := by decide +kernel
def fX10_isWork_12 (x0 : Int32) : Int32 := (if x0 = (24 : Int32) then (1 : Int32) else (if x0 = (26 : Int32) then (1 : Int32) else (if x0 = (28 : Int32) then (1 : Int32) else (0 : Int32))))
set_option maxHeartbeats 4000000 in
theorem tX10_isWork_12 (D : mz_D) (r : Int32) : ∀ (x0 : Int32), fX10_isWork_12 x0 = r → mz_Go IX10_isWork (some (.inl r), D) 0 0 (12, [some (.inl x0)], [], D) := by
  intro x0 h
  rw [fX10_isWork_12] at h
  refine mz_Go.run (gs := []) (st' := (if x0 = (24 : Int32) then (30, [some (.inl x0)], [], D) else (18, [some (.inl x0)], [], D))) bX10_isWork_12 oX10_isWork_12 rfl trivial ?_
  refine mz_Go.ite (fun hc1 => ?_) (fun hc1 => ?_)
  · have h := mz_ifp hc1 h
    refine mz_Go.run (gs := []) (st' := (35, [some (.inl x0)], [.inl (1 : Int32)], D)) bX10_isWork_30 oX10_isWork_30 rfl trivial ?_
    subst h
    exact mz_Go.retz (by decide +kernel) rfl ⟨Nat.le_refl _, Nat.le_refl _⟩ (by decide) rfl
  · have h := mz_ifn hc1 h
    refine mz_Go.run (gs := []) (st' := (if x0 = (26 : Int32) then (30, [some (.inl x0)], [], D) else (24, [some (.inl x0)], [], D))) bX10_isWork_18 oX10_isWork_18 rfl trivial ?_
    refine mz_Go.ite (fun hc2 => ?_) (fun hc2 => ?_)
    · have h := mz_ifp hc2 h
      refine mz_Go.run (gs := []) (st' := (35, [some (.inl x0)], [.inl (1 : Int32)], D)) bX10_isWork_30 oX10_isWork_30 rfl trivial ?_
      subst h
      exact mz_Go.retz (by decide +kernel) rfl ⟨Nat.le_refl _, Nat.le_refl _⟩ (by decide) rfl
    · have h := mz_ifn hc2 h
      refine mz_Go.run (gs := []) (st' := (if x0 = (28 : Int32) then (30, [some (.inl x0)], [], D) else (34, [some (.inl x0)], [], D))) bX10_isWork_24 oX10_isWork_24 rfl trivial ?_
      refine mz_Go.ite (fun hc3 => ?_) (fun hc3 => ?_)
      · have h := mz_ifp hc3 h
        refine mz_Go.run (gs := []) (st' := (35, [some (.inl x0)], [.inl (1 : Int32)], D)) bX10_isWork_30 oX10_isWork_30 rfl trivial ?_
        subst h
        exact mz_Go.retz (by decide +kernel) rfl ⟨Nat.le_refl _, Nat.le_refl _⟩ (by decide) rfl
      · have h := mz_ifn hc3 h
        refine mz_Go.run (gs := []) (st' := (35, [some (.inl x0)], [.inl (0 : Int32)], D)) bX10_isWork_34 oX10_isWork_34 rfl trivial ?_
        subst h
        exact mz_Go.retz (by decide +kernel) rfl ⟨Nat.le_refl _, Nat.le_refl _⟩ (by decide) rfl
def fX10_isWork (x0 : Int32) : Int32 := (if x0 < (17 : Int32) then (fX10_isWork_12 x0) else (if x0 ≤ (21 : Int32) then (1 : Int32) else (fX10_isWork_12 x0)))
set_option maxHeartbeats 4000000 in
theorem mX10_isWork (x0 : Int32) (D : mz_D) (r : Int32) (h : fX10_isWork x0 = r) : mz_Met IX10_isWork [.inl x0] D (some (.inl r), D) := by
  refine mz_Met.of (by decide +kernel) (Nat.le_of_ble_eq_true rfl) ?_
  show mz_Go IX10_isWork (some (.inl r), D) 0 0 (0, [some (.inl x0)], [], D)
  rw [fX10_isWork] at h
  refine mz_Go.run (gs := []) (st' := (if x0 < (17 : Int32) then (12, [some (.inl x0)], [], D) else (6, [some (.inl x0)], [], D))) bX10_isWork_0 oX10_isWork_0 rfl trivial ?_
  refine mz_Go.ite (fun hc1 => ?_) (fun hc1 => ?_)
  · have h := mz_ifp hc1 h
    exact mz_Go.drop [true] (tX10_isWork_12 r x0 h)
  · have h := mz_ifn hc1 h
    refine mz_Go.run (gs := []) (st' := (if x0 ≤ (21 : Int32) then (30, [some (.inl x0)], [], D) else (12, [some (.inl x0)], [], D))) bX10_isWork_6 oX10_isWork_6 rfl trivial ?_
    refine mz_Go.ite (fun hc2 => ?_) (fun hc2 => ?_)
    · have h := mz_ifp hc2 h
      refine mz_Go.run (gs := []) (st' := (35, [some (.inl x0)], [.inl (1 : Int32)], D)) bX10_isWork_30 oX10_isWork_30 rfl trivial ?_
      subst h
      exact mz_Go.retz (by decide +kernel) rfl ⟨Nat.le_refl _, Nat.le_refl _⟩ (by decide) rfl
    · have h := mz_ifn hc2 h
      exact mz_Go.drop [true] (tX10_isWork_12 r x0 h)
def bX10_beginsStep_0 : List mz_E := [(0, .aload_n 0, 0, 0, 0, 0, 0), (1, .getfield 15, 10, 0, 930, 0, 0), (4, .getfield 33, 5, 2, 220, 0, 0), (7, .istore_n 1, 0, 0, 0, 0, 0), (8, .iload_n 1, 0, 0, 0, 0, 0)]
theorem oX10_beginsStep_0 : bX10_beginsStep_0.all (mz_ok RX10 cX10_beginsStep 3) = true := by decide +kernel
def bX10_beginsStep_12 : List mz_E := [(12, .ifCond .ne 12, 0, 24, 0, 0, 0)]
theorem oX10_beginsStep_12 : bX10_beginsStep_12.all (mz_ok RX10 cX10_beginsStep 3) = true := by decide +kernel
def bX10_beginsStep_15 : List mz_E := [(15, .aload_n 0, 0, 0, 0, 0, 0), (16, .getfield 15, 10, 0, 930, 0, 0), (19, .iconst 2, 0, 0, 0, 2, 0)]
theorem oX10_beginsStep_15 : bX10_beginsStep_15.all (mz_ok RX10 cX10_beginsStep 3) = true := by decide +kernel
def bX10_beginsStep_24 : List mz_E := [(24, .aload_n 0, 0, 0, 0, 0, 0), (25, .getfield 23, 10, 2, 932, 0, 0), (28, .getfield 71, 9, 1, 432, 0, 0), (31, .bipush 30, 0, 0, 0, 30, 0), (33, .if_icmp .lt 13, 0, 46, 0, 0, 0)]
theorem oX10_beginsStep_24 : bX10_beginsStep_24.all (mz_ok RX10 cX10_beginsStep 3) = true := by decide +kernel
def bX10_beginsStep_46 : List mz_E := [(46, .iload_n 1, 0, 0, 0, 0, 0), (47, .bipush 24, 0, 0, 0, 24, 0), (49, .if_icmp .eq 9, 0, 58, 0, 0, 0)]
theorem oX10_beginsStep_46 : bX10_beginsStep_46.all (mz_ok RX10 cX10_beginsStep 3) = true := by decide +kernel
def bX10_beginsStep_58 : List mz_E := [(58, .iconst 1, 0, 0, 0, 1, 0), (59, .goto 4, 0, 63, 0, 0, 0)]
theorem oX10_beginsStep_58 : bX10_beginsStep_58.all (mz_ok RX10 cX10_beginsStep 3) = true := by decide +kernel
def bX10_beginsStep_63 : List mz_E := [(63, .istore_n 2, 0, 0, 0, 0, 0), (64, .iload_n 2, 0, 0, 0, 0, 0), (65, .ifCond .eq 21, 0, 86, 0, 0, 0)]
theorem oX10_beginsStep_63 : bX10_beginsStep_63.all (mz_ok RX10 cX10_beginsStep 3) = true := by decide +kernel
def bX10_beginsStep_86 : List mz_E := [(86, .aload_n 0, 0, 0, 0, 0, 0), (87, .aload_n 0, 0, 0, 0, 0, 0), (88, .getfield 23, 10, 2, 932, 0, 0), (91, .iload_n 1, 0, 0, 0, 0, 0)]
theorem oX10_beginsStep_86 : bX10_beginsStep_86.all (mz_ok RX10 cX10_beginsStep 3) = true := by decide +kernel
def bX10_beginsStep_95 : List mz_E := [(95, .putfield 84, 10, 5, 935, 0, 0), (98, .iload_n 2, 0, 0, 0, 0, 0), (99, .ifCond .eq 26, 0, 125, 0, 0, 0)]
theorem oX10_beginsStep_95 : bX10_beginsStep_95.all (mz_ok RX10 cX10_beginsStep 3) = true := by decide +kernel
def bX10_beginsStep_125 : List mz_E := [(125, .aload_n 0, 0, 0, 0, 0, 0), (126, .getfield 15, 10, 0, 930, 0, 0)]
theorem oX10_beginsStep_125 : bX10_beginsStep_125.all (mz_ok RX10 cX10_beginsStep 3) = true := by decide +kernel
def bX10_beginsStep_132 : List mz_E := [(132, .iconst 1, 0, 0, 0, 1, 0)]
theorem oX10_beginsStep_132 : bX10_beginsStep_132.all (mz_ok RX10 cX10_beginsStep 3) = true := by decide +kernel
def bX10_beginsStep_102 : List mz_E := [(102, .aload_n 0, 0, 0, 0, 0, 0), (103, .getfield 9, 10, 3, 933, 0, 0), (106, .aload_n 0, 0, 0, 0, 0, 0), (107, .getfield 55, 10, 4, 934, 0, 0), (110, .aload_n 0, 0, 0, 0, 0, 0), (111, .getfield 84, 10, 5, 935, 0, 0), (114, .iastore, 0, 0, 0, 0, 0), (115, .aload_n 0, 0, 0, 0, 0, 0), (116, .dup, 0, 0, 0, 0, 0), (117, .getfield 55, 10, 4, 934, 0, 0), (120, .iconst 1, 0, 0, 0, 1, 0), (121, .iadd, 0, 0, 0, 0, 0), (122, .putfield 55, 10, 4, 934, 0, 0)]
theorem oX10_beginsStep_102 : bX10_beginsStep_102.all (mz_ok RX10 cX10_beginsStep 3) = true := by decide +kernel
def bX10_beginsStep_68 : List mz_E := [(68, .aload_n 0, 0, 0, 0, 0, 0), (69, .getfield 55, 10, 4, 934, 0, 0), (72, .iconst 3, 0, 0, 0, 3, 0), (73, .if_icmp .lt 13, 0, 86, 0, 0, 0)]
theorem oX10_beginsStep_68 : bX10_beginsStep_68.all (mz_ok RX10 cX10_beginsStep 3) = true := by decide +kernel
def bX10_beginsStep_76 : List mz_E := [(76, .aload_n 0, 0, 0, 0, 0, 0), (77, .getfield 15, 10, 0, 930, 0, 0), (80, .bipush 7, 0, 0, 0, 7, 0)]
theorem oX10_beginsStep_76 : bX10_beginsStep_76.all (mz_ok RX10 cX10_beginsStep 3) = true := by decide +kernel
def bX10_beginsStep_52 : List mz_E := [(52, .iload_n 1, 0, 0, 0, 0, 0), (53, .bipush 26, 0, 0, 0, 26, 0), (55, .if_icmp .ne 7, 0, 62, 0, 0, 0)]
theorem oX10_beginsStep_52 : bX10_beginsStep_52.all (mz_ok RX10 cX10_beginsStep 3) = true := by decide +kernel
def bX10_beginsStep_62 : List mz_E := [(62, .iconst 0, 0, 0, 0, 0, 0)]
theorem oX10_beginsStep_62 : bX10_beginsStep_62.all (mz_ok RX10 cX10_beginsStep 3) = true := by decide +kernel
def bX10_beginsStep_36 : List mz_E := [(36, .aload_n 0, 0, 0, 0, 0, 0), (37, .getfield 15, 10, 0, 930, 0, 0), (40, .bipush 6, 0, 0, 0, 6, 0)]
theorem oX10_beginsStep_36 : bX10_beginsStep_36.all (mz_ok RX10 cX10_beginsStep 3) = true := by decide +kernel
abbrev IX10_beginsStep : mz_I := (yX10_beginsStep, cX10_beginsStep, 3, (some .boolean), 2, 2, 0, 0)
theorem kX10_beginsStep : mz_okm IX10_beginsStep 963 146 962 0 = true := by decide +kernel
theorem vX10_beginsStep : mz_okV IX10_beginsStep 962 17 = true := by decide +kernel
def fX10_beginsStep_125 (D : mz_D) : Option (Int32 × mz_D) := (Option.bind (fX5_advance D) fun q1 => (some ((1 : Int32), q1)))
set_option maxHeartbeats 4000000 in
theorem tX10_beginsStep_125 (r : (Int32 × mz_D)) : ∀ (D : mz_D), fX10_beginsStep_125 D = some r → mz_Go IX10_beginsStep (some (.inl r.1), r.2) 0 0 (125, [some (.inr (.inr (some (0, 301)))), none, none], [], D) := by
  intro D h
  rw [fX10_beginsStep_125] at h
  refine mz_Go.run (gs := [mz_kz 2 0 301]) (st' := (129, [some (.inr (.inr (some (0, 301)))), none, none], [.inr (.inr (some (0, 2)))], D)) bX10_beginsStep_125 oX10_beginsStep_125 rfl ⟨rfl, trivial⟩ ?_
  obtain ⟨q1, hq1, h⟩ := mz_bd_some h
  refine mz_Go.callV (J := IX5_advance) (as := []) (ci := 5) (g := 0) (o := 2) (idx := 74) (pl := 959) (rest := []) (mX5_advance D q1 hq1) kX5_advance vX5_advance (by decide +kernel) (by decide +kernel) (by decide +kernel) rfl rfl ⟨rfl, rfl⟩ rfl rfl rfl rfl ?_
  refine mz_Go.run (gs := []) (st' := (133, [some (.inr (.inr (some (0, 301)))), none, none], [.inl (1 : Int32)], q1)) bX10_beginsStep_132 oX10_beginsStep_132 rfl trivial ?_
  cases h
  exact mz_Go.retz (by decide +kernel) rfl ⟨Nat.le_refl _, Nat.le_refl _⟩ (by decide) rfl
def fX10_beginsStep_86 (x1 : Int32) (x2 : Int32) (D : mz_D) : Option (Int32 × mz_D) := (Option.bind (fX9_add 2 x1 D) fun q1 => (if x2 = 0 then (fX10_beginsStep_125 (mz_wi q1.2 0 301 5 q1.1)) else (mz_gd (mz_ix (q1.2.1 0 301 4) 3) (fX10_beginsStep_125 (mz_wi (mz_wi (mz_wi q1.2 0 301 5 q1.1) 0 302 ((q1.2.1 0 301 4)).toNatClampNeg q1.1) 0 301 4 ((q1.2.1 0 301 4) + (1 : Int32)))))))
set_option maxHeartbeats 4000000 in
theorem tX10_beginsStep_86 (r : (Int32 × mz_D)) : ∀ (x1 : Int32) (x2 : Int32) (D : mz_D), fX10_beginsStep_86 x1 x2 D = some r → mz_Go IX10_beginsStep (some (.inl r.1), r.2) 0 0 (86, [some (.inr (.inr (some (0, 301)))), some (.inl x1), some (.inl x2)], [], D) := by
  intro x1 x2 D h
  rw [fX10_beginsStep_86] at h
  refine mz_Go.run (gs := [mz_kz 2 0 301]) (st' := (92, [some (.inr (.inr (some (0, 301)))), some (.inl x1), some (.inl x2)], [.inl x1, .inr (.inr (some (2, 119))), .inr (.inr (some (0, 301)))], D)) bX10_beginsStep_86 oX10_beginsStep_86 rfl ⟨rfl, trivial⟩ ?_
  obtain ⟨q1, hq1, h⟩ := mz_bd_some h
  refine mz_Go.callV (J := IX9_add) (as := [.inl x1]) (ci := 9) (g := 2) (o := 119) (idx := 80) (pl := 967) (rest := [.inr (.inr (some (0, 301)))]) (mX9_add 2 x1 D rfl q1 hq1) kX9_add vX9_add (by decide +kernel) (by decide +kernel) (by decide +kernel) rfl rfl ⟨rfl, rfl⟩ rfl rfl rfl rfl ?_
  refine mz_Go.run (gs := [mz_kz 2 0 301]) (st' := (if x2 = 0 then (125, [some (.inr (.inr (some (0, 301)))), some (.inl x1), some (.inl x2)], [], (mz_wi q1.2 0 301 5 q1.1)) else (102, [some (.inr (.inr (some (0, 301)))), some (.inl x1), some (.inl x2)], [], (mz_wi q1.2 0 301 5 q1.1)))) bX10_beginsStep_95 oX10_beginsStep_95 rfl ⟨rfl, trivial⟩ ?_
  refine mz_Go.ite (fun hc2 => ?_) (fun hc2 => ?_)
  · have h := mz_ifp hc2 h
    exact mz_Go.drop [true, false, false] (tX10_beginsStep_125 r (mz_wi q1.2 0 301 5 q1.1) h)
  · have h := mz_ifn hc2 h
    obtain ⟨hb3, h⟩ := mz_gd_some h
    refine mz_Go.run (gs := [mz_kz 2 0 301, mz_kz 2 0 301, mz_kz 2 0 301, mz_kz 2 0 302, mz_ix (q1.2.1 0 301 4) 3, mz_kz 2 0 301, mz_kz 2 0 301]) (st' := (125, [some (.inr (.inr (some (0, 301)))), some (.inl x1), some (.inl x2)], [], (mz_wi (mz_wi (mz_wi q1.2 0 301 5 q1.1) 0 302 ((q1.2.1 0 301 4)).toNatClampNeg q1.1) 0 301 4 ((q1.2.1 0 301 4) + (1 : Int32))))) bX10_beginsStep_102 oX10_beginsStep_102 rfl ⟨rfl, rfl, rfl, rfl, hb3, rfl, rfl, trivial⟩ ?_
    exact mz_Go.drop [true, false, false] (tX10_beginsStep_125 r (mz_wi (mz_wi (mz_wi q1.2 0 301 5 q1.1) 0 302 ((q1.2.1 0 301 4)).toNatClampNeg q1.1) 0 301 4 ((q1.2.1 0 301 4) + (1 : Int32))) h)
def fX10_beginsStep_63 (x1 : Int32) (s0 : Int32) (D : mz_D) : Option (Int32 × mz_D) := (if s0 = 0 then (fX10_beginsStep_86 x1 s0 D) else (if (D.1 0 301 4) < (3 : Int32) then (fX10_beginsStep_86 x1 s0 D) else (Option.bind (fX5_fail (7 : Int32) D) fun q3 => (mz_gd (mz_bo q3.1) (some (q3.1, q3.2))))))
set_option maxHeartbeats 4000000 in
theorem tX10_beginsStep_63 (r : (Int32 × mz_D)) : ∀ (x1 : Int32) (s0 : Int32) (D : mz_D), fX10_beginsStep_63 x1 s0 D = some r → mz_Go IX10_beginsStep (some (.inl r.1), r.2) 0 0 (63, [some (.inr (.inr (some (0, 301)))), some (.inl x1), none], [.inl s0], D) := by
  intro x1 s0 D h
  rw [fX10_beginsStep_63] at h
  refine mz_Go.run (gs := []) (st' := (if s0 = 0 then (86, [some (.inr (.inr (some (0, 301)))), some (.inl x1), some (.inl s0)], [], D) else (68, [some (.inr (.inr (some (0, 301)))), some (.inl x1), some (.inl s0)], [], D))) bX10_beginsStep_63 oX10_beginsStep_63 rfl trivial ?_
  refine mz_Go.ite (fun hc1 => ?_) (fun hc1 => ?_)
  · have h := mz_ifp hc1 h
    exact mz_Go.drop [true, true, true] (tX10_beginsStep_86 r x1 s0 D h)
  · have h := mz_ifn hc1 h
    refine mz_Go.run (gs := [mz_kz 2 0 301]) (st' := (if (D.1 0 301 4) < (3 : Int32) then (86, [some (.inr (.inr (some (0, 301)))), some (.inl x1), some (.inl s0)], [], D) else (76, [some (.inr (.inr (some (0, 301)))), some (.inl x1), some (.inl s0)], [], D))) bX10_beginsStep_68 oX10_beginsStep_68 rfl ⟨rfl, trivial⟩ ?_
    refine mz_Go.ite (fun hc2 => ?_) (fun hc2 => ?_)
    · have h := mz_ifp hc2 h
      exact mz_Go.drop [true, true, true] (tX10_beginsStep_86 r x1 s0 D h)
    · have h := mz_ifn hc2 h
      refine mz_Go.run (gs := [mz_kz 2 0 301]) (st' := (82, [some (.inr (.inr (some (0, 301)))), some (.inl x1), some (.inl s0)], [.inl (7 : Int32), .inr (.inr (some (0, 2)))], D)) bX10_beginsStep_76 oX10_beginsStep_76 rfl ⟨rfl, trivial⟩ ?_
      obtain ⟨q3, hq3, h⟩ := mz_bd_some h
      refine mz_Go.callV (J := IX5_fail) (as := [.inl (7 : Int32)]) (ci := 5) (g := 0) (o := 2) (idx := 58) (pl := 958) (rest := []) (mX5_fail (7 : Int32) D q3 hq3) kX5_fail vX5_fail (by decide +kernel) (by decide +kernel) (by decide +kernel) rfl rfl ⟨rfl, rfl⟩ rfl rfl rfl rfl ?_
      obtain ⟨hb4, h⟩ := mz_gd_some h
      cases h
      exact mz_Go.retz (by decide +kernel) rfl ⟨Nat.le_refl _, Nat.le_refl _⟩ hb4 rfl
def fX10_beginsStep_58 (x1 : Int32) (D : mz_D) : Option (Int32 × mz_D) := (fX10_beginsStep_63 x1 (1 : Int32) D)
set_option maxHeartbeats 4000000 in
theorem tX10_beginsStep_58 (r : (Int32 × mz_D)) : ∀ (x1 : Int32) (D : mz_D), fX10_beginsStep_58 x1 D = some r → mz_Go IX10_beginsStep (some (.inl r.1), r.2) 0 0 (58, [some (.inr (.inr (some (0, 301)))), some (.inl x1), none], [], D) := by
  intro x1 D h
  rw [fX10_beginsStep_58] at h
  refine mz_Go.run (gs := []) (st' := (63, [some (.inr (.inr (some (0, 301)))), some (.inl x1), none], [.inl (1 : Int32)], D)) bX10_beginsStep_58 oX10_beginsStep_58 rfl trivial ?_
  exact mz_Go.drop [true, true, false] (tX10_beginsStep_63 r x1 (1 : Int32) D h)
def fX10_beginsStep (D : mz_D) : Option (Int32 × mz_D) := (if (fX10_isWork (D.1 0 2 2)) = 0 then (Option.bind (fX5_fail (2 : Int32) D) fun q2 => (mz_gd (mz_bo q2.1) (some (q2.1, q2.2)))) else (if (D.1 2 119 1) < (30 : Int32) then (if (D.1 0 2 2) = (24 : Int32) then (fX10_beginsStep_58 (D.1 0 2 2) D) else (if (D.1 0 2 2) = (26 : Int32) then (fX10_beginsStep_58 (D.1 0 2 2) D) else (fX10_beginsStep_63 (D.1 0 2 2) (0 : Int32) D))) else (Option.bind (fX5_fail (6 : Int32) D) fun q7 => (mz_gd (mz_bo q7.1) (some (q7.1, q7.2))))))
set_option maxHeartbeats 4000000 in
theorem mX10_beginsStep (D : mz_D) (r : (Int32 × mz_D)) (h : fX10_beginsStep D = some r) : mz_Met IX10_beginsStep [.inr (.inr (some (0, 301)))] D (some (.inl r.1), r.2) := by
  refine mz_Met.of (by decide +kernel) (Nat.le_of_ble_eq_true rfl) ?_
  show mz_Go IX10_beginsStep (some (.inl r.1), r.2) 0 0 (0, [some (.inr (.inr (some (0, 301)))), none, none], [], D)
  rw [fX10_beginsStep] at h
  refine mz_Go.run (gs := [mz_kz 2 0 301, mz_kz 2 0 2]) (st' := (9, [some (.inr (.inr (some (0, 301)))), some (.inl (D.1 0 2 2)), none], [.inl (D.1 0 2 2)], D)) bX10_beginsStep_0 oX10_beginsStep_0 rfl ⟨rfl, rfl, trivial⟩ ?_
  refine mz_Go.callS (J := IX10_isWork) (as := [.inl (D.1 0 2 2)]) (idx := 77) (pl := 964) (rest := []) (mX10_isWork (D.1 0 2 2) D _ rfl) kX10_isWork vX10_isWork (by decide +kernel) (by decide +kernel) (by decide +kernel) rfl rfl ⟨rfl, rfl⟩ rfl ?_
  refine mz_Go.run (gs := []) (st' := (if (fX10_isWork (D.1 0 2 2)) = 0 then (15, [some (.inr (.inr (some (0, 301)))), some (.inl (D.1 0 2 2)), none], [], D) else (24, [some (.inr (.inr (some (0, 301)))), some (.inl (D.1 0 2 2)), none], [], D))) bX10_beginsStep_12 oX10_beginsStep_12 rfl trivial ?_
  refine mz_Go.ite (fun hc1 => ?_) (fun hc1 => ?_)
  · have h := mz_ifp hc1 h
    refine mz_Go.run (gs := [mz_kz 2 0 301]) (st' := (20, [some (.inr (.inr (some (0, 301)))), some (.inl (D.1 0 2 2)), none], [.inl (2 : Int32), .inr (.inr (some (0, 2)))], D)) bX10_beginsStep_15 oX10_beginsStep_15 rfl ⟨rfl, trivial⟩ ?_
    obtain ⟨q2, hq2, h⟩ := mz_bd_some h
    refine mz_Go.callV (J := IX5_fail) (as := [.inl (2 : Int32)]) (ci := 5) (g := 0) (o := 2) (idx := 58) (pl := 958) (rest := []) (mX5_fail (2 : Int32) D q2 hq2) kX5_fail vX5_fail (by decide +kernel) (by decide +kernel) (by decide +kernel) rfl rfl ⟨rfl, rfl⟩ rfl rfl rfl rfl ?_
    obtain ⟨hb3, h⟩ := mz_gd_some h
    cases h
    exact mz_Go.retz (by decide +kernel) rfl ⟨Nat.le_refl _, Nat.le_refl _⟩ hb3 rfl
  · have h := mz_ifn hc1 h
    refine mz_Go.run (gs := [mz_kz 2 0 301, mz_kz 2 2 119]) (st' := (if (D.1 2 119 1) < (30 : Int32) then (46, [some (.inr (.inr (some (0, 301)))), some (.inl (D.1 0 2 2)), none], [], D) else (36, [some (.inr (.inr (some (0, 301)))), some (.inl (D.1 0 2 2)), none], [], D))) bX10_beginsStep_24 oX10_beginsStep_24 rfl ⟨rfl, rfl, trivial⟩ ?_
    refine mz_Go.ite (fun hc4 => ?_) (fun hc4 => ?_)
    · have h := mz_ifp hc4 h
      refine mz_Go.run (gs := []) (st' := (if (D.1 0 2 2) = (24 : Int32) then (58, [some (.inr (.inr (some (0, 301)))), some (.inl (D.1 0 2 2)), none], [], D) else (52, [some (.inr (.inr (some (0, 301)))), some (.inl (D.1 0 2 2)), none], [], D))) bX10_beginsStep_46 oX10_beginsStep_46 rfl trivial ?_
      refine mz_Go.ite (fun hc5 => ?_) (fun hc5 => ?_)
      · have h := mz_ifp hc5 h
        exact mz_Go.drop [true, true, false] (tX10_beginsStep_58 r (D.1 0 2 2) D h)
      · have h := mz_ifn hc5 h
        refine mz_Go.run (gs := []) (st' := (if (D.1 0 2 2) = (26 : Int32) then (58, [some (.inr (.inr (some (0, 301)))), some (.inl (D.1 0 2 2)), none], [], D) else (62, [some (.inr (.inr (some (0, 301)))), some (.inl (D.1 0 2 2)), none], [], D))) bX10_beginsStep_52 oX10_beginsStep_52 rfl trivial ?_
        refine mz_Go.ite (fun hc6 => ?_) (fun hc6 => ?_)
        · have h := mz_ifp hc6 h
          exact mz_Go.drop [true, true, false] (tX10_beginsStep_58 r (D.1 0 2 2) D h)
        · have h := mz_ifn hc6 h
          refine mz_Go.run (gs := []) (st' := (63, [some (.inr (.inr (some (0, 301)))), some (.inl (D.1 0 2 2)), none], [.inl (0 : Int32)], D)) bX10_beginsStep_62 oX10_beginsStep_62 rfl trivial ?_
          exact mz_Go.drop [true, true, false] (tX10_beginsStep_63 r (D.1 0 2 2) (0 : Int32) D h)
    · have h := mz_ifn hc4 h
      refine mz_Go.run (gs := [mz_kz 2 0 301]) (st' := (42, [some (.inr (.inr (some (0, 301)))), some (.inl (D.1 0 2 2)), none], [.inl (6 : Int32), .inr (.inr (some (0, 2)))], D)) bX10_beginsStep_36 oX10_beginsStep_36 rfl ⟨rfl, trivial⟩ ?_
      obtain ⟨q7, hq7, h⟩ := mz_bd_some h
      refine mz_Go.callV (J := IX5_fail) (as := [.inl (6 : Int32)]) (ci := 5) (g := 0) (o := 2) (idx := 58) (pl := 958) (rest := []) (mX5_fail (6 : Int32) D q7 hq7) kX5_fail vX5_fail (by decide +kernel) (by decide +kernel) (by decide +kernel) rfl rfl ⟨rfl, rfl⟩ rfl rfl rfl rfl ?_
      obtain ⟨hb8, h⟩ := mz_gd_some h
      cases h
      exact mz_Go.retz (by decide +kernel) rfl ⟨Nat.le_refl _, Nat.le_refl _⟩ hb8 rfl
def bX10_isTest_0 : List mz_E := [(0, .aload_n 0, 0, 0, 0, 0, 0), (1, .getfield 23, 10, 2, 932, 0, 0), (4, .getfield 87, 9, 2, 436, 0, 0), (7, .aload_n 0, 0, 0, 0, 0, 0), (8, .getfield 84, 10, 5, 935, 0, 0), (11, .iaload, 0, 0, 0, 0, 0), (12, .bipush 24, 0, 0, 0, 24, 0), (14, .if_icmp .ne 7, 0, 21, 0, 0, 0)]
theorem oX10_isTest_0 : bX10_isTest_0.all (mz_ok RX10 cX10_isTest 1) = true := by decide +kernel
def bX10_isTest_17 : List mz_E := [(17, .iconst 1, 0, 0, 0, 1, 0), (18, .goto 4, 0, 22, 0, 0, 0)]
theorem oX10_isTest_17 : bX10_isTest_17.all (mz_ok RX10 cX10_isTest 1) = true := by decide +kernel
def bX10_isTest_21 : List mz_E := [(21, .iconst 0, 0, 0, 0, 0, 0)]
theorem oX10_isTest_21 : bX10_isTest_21.all (mz_ok RX10 cX10_isTest 1) = true := by decide +kernel
abbrev IX10_isTest : mz_I := (yX10_isTest, cX10_isTest, 1, (some .boolean), 2, 0, 0, 0)
theorem kX10_isTest : mz_okm IX10_isTest 974 146 973 0 = true := by decide +kernel
theorem vX10_isTest : mz_okV IX10_isTest 973 18 = true := by decide +kernel
def fX10_isTest (D : mz_D) : Option Int32 := (mz_gd (mz_ix (D.1 0 301 5) 30) (if (D.1 2 120 ((D.1 0 301 5)).toNatClampNeg) = (24 : Int32) then (some (1 : Int32)) else (some (0 : Int32))))
set_option maxHeartbeats 4000000 in
theorem mX10_isTest (D : mz_D) (r : Int32) (h : fX10_isTest D = some r) : mz_Met IX10_isTest [.inr (.inr (some (0, 301)))] D (some (.inl r), D) := by
  refine mz_Met.of (by decide +kernel) (Nat.le_of_ble_eq_true rfl) ?_
  show mz_Go IX10_isTest (some (.inl r), D) 0 0 (0, [some (.inr (.inr (some (0, 301))))], [], D)
  rw [fX10_isTest] at h
  obtain ⟨hb1, h⟩ := mz_gd_some h
  refine mz_Go.run (gs := [mz_kz 2 0 301, mz_kz 2 2 119, mz_kz 2 0 301, mz_kz 2 2 120, mz_ix (D.1 0 301 5) 30]) (st' := (if (D.1 2 120 ((D.1 0 301 5)).toNatClampNeg) = (24 : Int32) then (17, [some (.inr (.inr (some (0, 301))))], [], D) else (21, [some (.inr (.inr (some (0, 301))))], [], D))) bX10_isTest_0 oX10_isTest_0 rfl ⟨rfl, rfl, rfl, rfl, hb1, trivial⟩ ?_
  refine mz_Go.ite (fun hc2 => ?_) (fun hc2 => ?_)
  · have h := mz_ifp hc2 h
    refine mz_Go.run (gs := []) (st' := (22, [some (.inr (.inr (some (0, 301))))], [.inl (1 : Int32)], D)) bX10_isTest_17 oX10_isTest_17 rfl trivial ?_
    cases h
    exact mz_Go.retz (by decide +kernel) rfl ⟨Nat.le_refl _, Nat.le_refl _⟩ (by decide) rfl
  · have h := mz_ifn hc2 h
    refine mz_Go.run (gs := []) (st' := (22, [some (.inr (.inr (some (0, 301))))], [.inl (0 : Int32)], D)) bX10_isTest_21 oX10_isTest_21 rfl trivial ?_
    cases h
    exact mz_Go.retz (by decide +kernel) rfl ⟨Nat.le_refl _, Nat.le_refl _⟩ (by decide) rfl
def bX10_takesTwo_0 : List mz_E := [(0, .aload_n 0, 0, 0, 0, 0, 0), (1, .getfield 15, 10, 0, 930, 0, 0), (4, .aload_n 0, 0, 0, 0, 0, 0), (5, .getfield 19, 10, 1, 931, 0, 0)]
theorem oX10_takesTwo_0 : bX10_takesTwo_0.all (mz_ok RX10 cX10_takesTwo 3) = true := by decide +kernel
def bX10_takesTwo_11 : List mz_E := [(11, .istore_n 2, 0, 0, 0, 0, 0), (12, .iload_n 2, 0, 0, 0, 0, 0), (13, .iconst (-1), 0, 0, 0, -1, 0), (14, .if_icmp .eq 19, 0, 33, 0, 0, 0)]
theorem oX10_takesTwo_11 : bX10_takesTwo_11.all (mz_ok RX10 cX10_takesTwo 3) = true := by decide +kernel
def bX10_takesTwo_33 : List mz_E := [(33, .iconst 0, 0, 0, 0, 0, 0)]
theorem oX10_takesTwo_33 : bX10_takesTwo_33.all (mz_ok RX10 cX10_takesTwo 3) = true := by decide +kernel
def bX10_takesTwo_17 : List mz_E := [(17, .iload_n 1, 0, 0, 0, 0, 0), (18, .iconst (-1), 0, 0, 0, -1, 0), (19, .if_icmp .eq 16, 0, 35, 0, 0, 0)]
theorem oX10_takesTwo_17 : bX10_takesTwo_17.all (mz_ok RX10 cX10_takesTwo 3) = true := by decide +kernel
def bX10_takesTwo_35 : List mz_E := [(35, .aload_n 0, 0, 0, 0, 0, 0), (36, .getfield 23, 10, 2, 932, 0, 0), (39, .getfield 100, 9, 4, 443, 0, 0), (42, .aload_n 0, 0, 0, 0, 0, 0), (43, .getfield 84, 10, 5, 935, 0, 0), (46, .iload_n 2, 0, 0, 0, 0, 0), (47, .iastore, 0, 0, 0, 0, 0), (48, .aload_n 0, 0, 0, 0, 0, 0), (49, .getfield 23, 10, 2, 932, 0, 0), (52, .getfield 110, 9, 5, 446, 0, 0), (55, .aload_n 0, 0, 0, 0, 0, 0), (56, .getfield 84, 10, 5, 935, 0, 0), (59, .aload_n 0, 0, 0, 0, 0, 0), (60, .getfield 15, 10, 0, 930, 0, 0), (63, .aload_n 0, 0, 0, 0, 0, 0), (64, .getfield 19, 10, 1, 931, 0, 0), (67, .iload_n 2, 0, 0, 0, 0, 0)]
theorem oX10_takesTwo_35 : bX10_takesTwo_35.all (mz_ok RX10 cX10_takesTwo 3) = true := by decide +kernel
def bX10_takesTwo_71 : List mz_E := [(71, .iastore, 0, 0, 0, 0, 0), (72, .aload_n 0, 0, 0, 0, 0, 0), (73, .getfield 23, 10, 2, 932, 0, 0), (76, .getfield 110, 9, 5, 446, 0, 0), (79, .aload_n 0, 0, 0, 0, 0, 0), (80, .getfield 84, 10, 5, 935, 0, 0), (83, .iaload, 0, 0, 0, 0, 0), (84, .iconst (-1), 0, 0, 0, -1, 0), (85, .if_icmp .eq 7, 0, 92, 0, 0, 0)]
theorem oX10_takesTwo_71 : bX10_takesTwo_71.all (mz_ok RX10 cX10_takesTwo 3) = true := by decide +kernel
def bX10_takesTwo_92 : List mz_E := [(92, .iconst 0, 0, 0, 0, 0, 0)]
theorem oX10_takesTwo_92 : bX10_takesTwo_92.all (mz_ok RX10 cX10_takesTwo 3) = true := by decide +kernel
def bX10_takesTwo_88 : List mz_E := [(88, .iconst 1, 0, 0, 0, 1, 0), (89, .goto 4, 0, 93, 0, 0, 0)]
theorem oX10_takesTwo_88 : bX10_takesTwo_88.all (mz_ok RX10 cX10_takesTwo 3) = true := by decide +kernel
def bX10_takesTwo_22 : List mz_E := [(22, .aload_n 0, 0, 0, 0, 0, 0), (23, .getfield 15, 10, 0, 930, 0, 0), (26, .iload_n 1, 0, 0, 0, 0, 0)]
theorem oX10_takesTwo_22 : bX10_takesTwo_22.all (mz_ok RX10 cX10_takesTwo 3) = true := by decide +kernel
def bX10_takesTwo_30 : List mz_E := [(30, .ifCond .ne 5, 0, 35, 0, 0, 0)]
theorem oX10_takesTwo_30 : bX10_takesTwo_30.all (mz_ok RX10 cX10_takesTwo 3) = true := by decide +kernel
abbrev IX10_takesTwo : mz_I := (yX10_takesTwo, cX10_takesTwo, 3, (some .boolean), 2, 3, 0, 0)
theorem kX10_takesTwo : mz_okm IX10_takesTwo 982 146 981 1 = true := by decide +kernel
theorem vX10_takesTwo : mz_okV IX10_takesTwo 981 20 = true := by decide +kernel
def fX10_takesTwo_35 (x2 : Int32) (D : mz_D) : Option (Int32 × mz_D) := (mz_gd (mz_ix (D.1 0 301 5) 30) (Option.bind (fX5_takeOther 1 x2 (mz_wi D 2 122 ((D.1 0 301 5)).toNatClampNeg x2)) fun q2 => (mz_gd (mz_ix (q2.2.1 0 301 5) 30) (if ((mz_wi q2.2 2 123 ((D.1 0 301 5)).toNatClampNeg q2.1).1 2 123 ((q2.2.1 0 301 5)).toNatClampNeg) = (-1 : Int32) then (some ((0 : Int32), (mz_wi q2.2 2 123 ((D.1 0 301 5)).toNatClampNeg q2.1))) else (some ((1 : Int32), (mz_wi q2.2 2 123 ((D.1 0 301 5)).toNatClampNeg q2.1)))))))
set_option maxHeartbeats 4000000 in
theorem tX10_takesTwo_35 (r : (Int32 × mz_D)) : ∀ (x2 : Int32) (D : mz_D), fX10_takesTwo_35 x2 D = some r → mz_Go IX10_takesTwo (some (.inl r.1), r.2) 0 0 (35, [some (.inr (.inr (some (0, 301)))), none, some (.inl x2)], [], D) := by
  intro x2 D h
  rw [fX10_takesTwo_35] at h
  obtain ⟨hb1, h⟩ := mz_gd_some h
  refine mz_Go.run (gs := [mz_kz 2 0 301, mz_kz 2 2 119, mz_kz 2 0 301, mz_kz 2 2 122, mz_ix (D.1 0 301 5) 30, mz_kz 2 0 301, mz_kz 2 2 119, mz_kz 2 0 301, mz_kz 2 0 301, mz_kz 2 0 301]) (st' := (68, [some (.inr (.inr (some (0, 301)))), none, some (.inl x2)], [.inl x2, .inr (.inr (some (1, 101))), .inr (.inr (some (0, 2))), .inl (D.1 0 301 5), .inr (.inr (some (2, 123)))], (mz_wi D 2 122 ((D.1 0 301 5)).toNatClampNeg x2))) bX10_takesTwo_35 oX10_takesTwo_35 rfl ⟨rfl, rfl, rfl, rfl, hb1, rfl, rfl, rfl, rfl, rfl, trivial⟩ ?_
  obtain ⟨q2, hq2, h⟩ := mz_bd_some h
  refine mz_Go.callV (J := IX5_takeOther) (as := [.inr (.inr (some (1, 101))), .inl x2]) (ci := 5) (g := 0) (o := 2) (idx := 113) (pl := 988) (rest := [.inl (D.1 0 301 5), .inr (.inr (some (2, 123)))]) (mX5_takeOther 1 x2 (mz_wi D 2 122 ((D.1 0 301 5)).toNatClampNeg x2) rfl q2 hq2) kX5_takeOther vX5_takeOther (by decide +kernel) (by decide +kernel) (by decide +kernel) rfl rfl ⟨rfl, rfl⟩ rfl rfl rfl rfl ?_
  obtain ⟨hb3, h⟩ := mz_gd_some h
  refine mz_Go.run (gs := [mz_kz 2 2 123, mz_ix (D.1 0 301 5) 30, mz_kz 2 0 301, mz_kz 2 2 119, mz_kz 2 0 301, mz_kz 2 2 123, mz_ix (q2.2.1 0 301 5) 30]) (st' := (if ((mz_wi q2.2 2 123 ((D.1 0 301 5)).toNatClampNeg q2.1).1 2 123 ((q2.2.1 0 301 5)).toNatClampNeg) = (-1 : Int32) then (92, [some (.inr (.inr (some (0, 301)))), none, some (.inl x2)], [], (mz_wi q2.2 2 123 ((D.1 0 301 5)).toNatClampNeg q2.1)) else (88, [some (.inr (.inr (some (0, 301)))), none, some (.inl x2)], [], (mz_wi q2.2 2 123 ((D.1 0 301 5)).toNatClampNeg q2.1)))) bX10_takesTwo_71 oX10_takesTwo_71 rfl ⟨rfl, hb1, rfl, rfl, rfl, rfl, hb3, trivial⟩ ?_
  refine mz_Go.ite (fun hc4 => ?_) (fun hc4 => ?_)
  · have h := mz_ifp hc4 h
    refine mz_Go.run (gs := []) (st' := (93, [some (.inr (.inr (some (0, 301)))), none, some (.inl x2)], [.inl (0 : Int32)], (mz_wi q2.2 2 123 ((D.1 0 301 5)).toNatClampNeg q2.1))) bX10_takesTwo_92 oX10_takesTwo_92 rfl trivial ?_
    cases h
    exact mz_Go.retz (by decide +kernel) rfl ⟨Nat.le_refl _, Nat.le_refl _⟩ (by decide) rfl
  · have h := mz_ifn hc4 h
    refine mz_Go.run (gs := []) (st' := (93, [some (.inr (.inr (some (0, 301)))), none, some (.inl x2)], [.inl (1 : Int32)], (mz_wi q2.2 2 123 ((D.1 0 301 5)).toNatClampNeg q2.1))) bX10_takesTwo_88 oX10_takesTwo_88 rfl trivial ?_
    cases h
    exact mz_Go.retz (by decide +kernel) rfl ⟨Nat.le_refl _, Nat.le_refl _⟩ (by decide) rfl
def fX10_takesTwo (x1 : Int32) (D : mz_D) : Option (Int32 × mz_D) := (Option.bind (fX5_takePerson 1 D) fun q1 => (if q1.1 = (-1 : Int32) then (some ((0 : Int32), q1.2)) else (if x1 = (-1 : Int32) then (fX10_takesTwo_35 q1.1 q1.2) else (Option.bind (fX5_takes x1 q1.2) fun q4 => (if q4.1 = 0 then (some ((0 : Int32), q4.2)) else (fX10_takesTwo_35 q1.1 q4.2))))))
set_option maxHeartbeats 4000000 in
theorem mX10_takesTwo (x1 : Int32) (D : mz_D) (r : (Int32 × mz_D)) (h : fX10_takesTwo x1 D = some r) : mz_Met IX10_takesTwo [.inr (.inr (some (0, 301))), .inl x1] D (some (.inl r.1), r.2) := by
  refine mz_Met.of (by decide +kernel) (Nat.le_of_ble_eq_true rfl) ?_
  show mz_Go IX10_takesTwo (some (.inl r.1), r.2) 0 0 (0, [some (.inr (.inr (some (0, 301)))), some (.inl x1), none], [], D)
  rw [fX10_takesTwo] at h
  refine mz_Go.run (gs := [mz_kz 2 0 301, mz_kz 2 0 301]) (st' := (8, [some (.inr (.inr (some (0, 301)))), some (.inl x1), none], [.inr (.inr (some (1, 101))), .inr (.inr (some (0, 2)))], D)) bX10_takesTwo_0 oX10_takesTwo_0 rfl ⟨rfl, rfl, trivial⟩ ?_
  obtain ⟨q1, hq1, h⟩ := mz_bd_some h
  refine mz_Go.callV (J := IX5_takePerson) (as := [.inr (.inr (some (1, 101)))]) (ci := 5) (g := 0) (o := 2) (idx := 103) (pl := 983) (rest := []) (mX5_takePerson 1 D rfl q1 hq1) kX5_takePerson vX5_takePerson (by decide +kernel) (by decide +kernel) (by decide +kernel) rfl rfl ⟨rfl, rfl⟩ rfl rfl rfl rfl ?_
  refine mz_Go.run (gs := []) (st' := (if q1.1 = (-1 : Int32) then (33, [some (.inr (.inr (some (0, 301)))), some (.inl x1), some (.inl q1.1)], [], q1.2) else (17, [some (.inr (.inr (some (0, 301)))), some (.inl x1), some (.inl q1.1)], [], q1.2))) bX10_takesTwo_11 oX10_takesTwo_11 rfl trivial ?_
  refine mz_Go.ite (fun hc2 => ?_) (fun hc2 => ?_)
  · have h := mz_ifp hc2 h
    refine mz_Go.run (gs := []) (st' := (34, [some (.inr (.inr (some (0, 301)))), some (.inl x1), some (.inl q1.1)], [.inl (0 : Int32)], q1.2)) bX10_takesTwo_33 oX10_takesTwo_33 rfl trivial ?_
    cases h
    exact mz_Go.retz (by decide +kernel) rfl ⟨Nat.le_refl _, Nat.le_refl _⟩ (by decide) rfl
  · have h := mz_ifn hc2 h
    refine mz_Go.run (gs := []) (st' := (if x1 = (-1 : Int32) then (35, [some (.inr (.inr (some (0, 301)))), some (.inl x1), some (.inl q1.1)], [], q1.2) else (22, [some (.inr (.inr (some (0, 301)))), some (.inl x1), some (.inl q1.1)], [], q1.2))) bX10_takesTwo_17 oX10_takesTwo_17 rfl trivial ?_
    refine mz_Go.ite (fun hc3 => ?_) (fun hc3 => ?_)
    · have h := mz_ifp hc3 h
      exact mz_Go.drop [true, false, true] (tX10_takesTwo_35 r q1.1 q1.2 h)
    · have h := mz_ifn hc3 h
      refine mz_Go.run (gs := [mz_kz 2 0 301]) (st' := (27, [some (.inr (.inr (some (0, 301)))), some (.inl x1), some (.inl q1.1)], [.inl x1, .inr (.inr (some (0, 2)))], q1.2)) bX10_takesTwo_22 oX10_takesTwo_22 rfl ⟨rfl, trivial⟩ ?_
      obtain ⟨q4, hq4, h⟩ := mz_bd_some h
      refine mz_Go.callV (J := IX5_takes) (as := [.inl x1]) (ci := 5) (g := 0) (o := 2) (idx := 107) (pl := 984) (rest := []) (mX5_takes x1 q1.2 q4 hq4) kX5_takes vX5_takes (by decide +kernel) (by decide +kernel) (by decide +kernel) rfl rfl ⟨rfl, rfl⟩ rfl rfl rfl rfl ?_
      refine mz_Go.run (gs := []) (st' := (if q4.1 = 0 then (33, [some (.inr (.inr (some (0, 301)))), some (.inl x1), some (.inl q1.1)], [], q4.2) else (35, [some (.inr (.inr (some (0, 301)))), some (.inl x1), some (.inl q1.1)], [], q4.2))) bX10_takesTwo_30 oX10_takesTwo_30 rfl trivial ?_
      refine mz_Go.ite (fun hc5 => ?_) (fun hc5 => ?_)
      · have h := mz_ifp hc5 h
        refine mz_Go.run (gs := []) (st' := (34, [some (.inr (.inr (some (0, 301)))), some (.inl x1), some (.inl q1.1)], [.inl (0 : Int32)], q4.2)) bX10_takesTwo_33 oX10_takesTwo_33 rfl trivial ?_
        cases h
        exact mz_Go.retz (by decide +kernel) rfl ⟨Nat.le_refl _, Nat.le_refl _⟩ (by decide) rfl
      · have h := mz_ifn hc5 h
        exact mz_Go.drop [true, false, true] (tX10_takesTwo_35 r q1.1 q4.2 h)
def bX10_takesCompare_0 : List mz_E := [(0, .aload_n 0, 0, 0, 0, 0, 0), (1, .getfield 15, 10, 0, 930, 0, 0)]
theorem oX10_takesCompare_0 : bX10_takesCompare_0.all (mz_ok RX10 cX10_takesCompare 2) = true := by decide +kernel
def bX10_takesCompare_7 : List mz_E := [(7, .istore_n 1, 0, 0, 0, 0, 0), (8, .iload_n 1, 0, 0, 0, 0, 0), (9, .bipush 60, 0, 0, 0, 60, 0), (11, .if_icmp .eq 24, 0, 35, 0, 0, 0)]
theorem oX10_takesCompare_7 : bX10_takesCompare_7.all (mz_ok RX10 cX10_takesCompare 2) = true := by decide +kernel
def bX10_takesCompare_35 : List mz_E := [(35, .aload_n 0, 0, 0, 0, 0, 0), (36, .getfield 23, 10, 2, 932, 0, 0), (39, .getfield 134, 9, 6, 448, 0, 0), (42, .aload_n 0, 0, 0, 0, 0, 0), (43, .getfield 84, 10, 5, 935, 0, 0), (46, .iload_n 1, 0, 0, 0, 0, 0), (47, .iastore, 0, 0, 0, 0, 0), (48, .aload_n 0, 0, 0, 0, 0, 0), (49, .getfield 15, 10, 0, 930, 0, 0)]
theorem oX10_takesCompare_35 : bX10_takesCompare_35.all (mz_ok RX10 cX10_takesCompare 2) = true := by decide +kernel
def bX10_takesCompare_55 : List mz_E := [(55, .iconst 1, 0, 0, 0, 1, 0)]
theorem oX10_takesCompare_55 : bX10_takesCompare_55.all (mz_ok RX10 cX10_takesCompare 2) = true := by decide +kernel
def bX10_takesCompare_14 : List mz_E := [(14, .iload_n 1, 0, 0, 0, 0, 0), (15, .bipush 62, 0, 0, 0, 62, 0), (17, .if_icmp .eq 18, 0, 35, 0, 0, 0)]
theorem oX10_takesCompare_14 : bX10_takesCompare_14.all (mz_ok RX10 cX10_takesCompare 2) = true := by decide +kernel
def bX10_takesCompare_20 : List mz_E := [(20, .iload_n 1, 0, 0, 0, 0, 0), (21, .bipush 61, 0, 0, 0, 61, 0), (23, .if_icmp .eq 12, 0, 35, 0, 0, 0)]
theorem oX10_takesCompare_20 : bX10_takesCompare_20.all (mz_ok RX10 cX10_takesCompare 2) = true := by decide +kernel
def bX10_takesCompare_26 : List mz_E := [(26, .aload_n 0, 0, 0, 0, 0, 0), (27, .getfield 15, 10, 0, 930, 0, 0), (30, .iconst 2, 0, 0, 0, 2, 0)]
theorem oX10_takesCompare_26 : bX10_takesCompare_26.all (mz_ok RX10 cX10_takesCompare 2) = true := by decide +kernel
abbrev IX10_takesCompare : mz_I := (yX10_takesCompare, cX10_takesCompare, 2, (some .boolean), 2, 2, 0, 0)
theorem kX10_takesCompare : mz_okm IX10_takesCompare 992 146 991 0 = true := by decide +kernel
theorem vX10_takesCompare : mz_okV IX10_takesCompare 991 21 = true := by decide +kernel
def fX10_takesCompare_35 (x1 : Int32) (D : mz_D) : Option (Int32 × mz_D) := (mz_gd (mz_ix (D.1 0 301 5) 30) (Option.bind (fX5_advance (mz_wi D 2 124 ((D.1 0 301 5)).toNatClampNeg x1)) fun q2 => (some ((1 : Int32), q2))))
set_option maxHeartbeats 4000000 in
theorem tX10_takesCompare_35 (r : (Int32 × mz_D)) : ∀ (x1 : Int32) (D : mz_D), fX10_takesCompare_35 x1 D = some r → mz_Go IX10_takesCompare (some (.inl r.1), r.2) 0 0 (35, [some (.inr (.inr (some (0, 301)))), some (.inl x1)], [], D) := by
  intro x1 D h
  rw [fX10_takesCompare_35] at h
  obtain ⟨hb1, h⟩ := mz_gd_some h
  refine mz_Go.run (gs := [mz_kz 2 0 301, mz_kz 2 2 119, mz_kz 2 0 301, mz_kz 2 2 124, mz_ix (D.1 0 301 5) 30, mz_kz 2 0 301]) (st' := (52, [some (.inr (.inr (some (0, 301)))), some (.inl x1)], [.inr (.inr (some (0, 2)))], (mz_wi D 2 124 ((D.1 0 301 5)).toNatClampNeg x1))) bX10_takesCompare_35 oX10_takesCompare_35 rfl ⟨rfl, rfl, rfl, rfl, hb1, rfl, trivial⟩ ?_
  obtain ⟨q2, hq2, h⟩ := mz_bd_some h
  refine mz_Go.callV (J := IX5_advance) (as := []) (ci := 5) (g := 0) (o := 2) (idx := 74) (pl := 959) (rest := []) (mX5_advance (mz_wi D 2 124 ((D.1 0 301 5)).toNatClampNeg x1) q2 hq2) kX5_advance vX5_advance (by decide +kernel) (by decide +kernel) (by decide +kernel) rfl rfl ⟨rfl, rfl⟩ rfl rfl rfl rfl ?_
  refine mz_Go.run (gs := []) (st' := (56, [some (.inr (.inr (some (0, 301)))), some (.inl x1)], [.inl (1 : Int32)], q2)) bX10_takesCompare_55 oX10_takesCompare_55 rfl trivial ?_
  cases h
  exact mz_Go.retz (by decide +kernel) rfl ⟨Nat.le_refl _, Nat.le_refl _⟩ (by decide) rfl
def fX10_takesCompare (D : mz_D) : Option (Int32 × mz_D) := (if (fX5_signHere D) = (60 : Int32) then (fX10_takesCompare_35 (fX5_signHere D) D) else (if (fX5_signHere D) = (62 : Int32) then (fX10_takesCompare_35 (fX5_signHere D) D) else (if (fX5_signHere D) = (61 : Int32) then (fX10_takesCompare_35 (fX5_signHere D) D) else (Option.bind (fX5_fail (2 : Int32) D) fun q4 => (mz_gd (mz_bo q4.1) (some (q4.1, q4.2)))))))
set_option maxHeartbeats 4000000 in
theorem mX10_takesCompare (D : mz_D) (r : (Int32 × mz_D)) (h : fX10_takesCompare D = some r) : mz_Met IX10_takesCompare [.inr (.inr (some (0, 301)))] D (some (.inl r.1), r.2) := by
  refine mz_Met.of (by decide +kernel) (Nat.le_of_ble_eq_true rfl) ?_
  show mz_Go IX10_takesCompare (some (.inl r.1), r.2) 0 0 (0, [some (.inr (.inr (some (0, 301)))), none], [], D)
  rw [fX10_takesCompare] at h
  refine mz_Go.run (gs := [mz_kz 2 0 301]) (st' := (4, [some (.inr (.inr (some (0, 301)))), none], [.inr (.inr (some (0, 2)))], D)) bX10_takesCompare_0 oX10_takesCompare_0 rfl ⟨rfl, trivial⟩ ?_
  refine mz_Go.callV (J := IX5_signHere) (as := []) (ci := 5) (g := 0) (o := 2) (idx := 130) (pl := 993) (rest := []) (mX5_signHere D _ rfl) kX5_signHere vX5_signHere (by decide +kernel) (by decide +kernel) (by decide +kernel) rfl rfl ⟨rfl, rfl⟩ rfl rfl rfl rfl ?_
  refine mz_Go.run (gs := []) (st' := (if (fX5_signHere D) = (60 : Int32) then (35, [some (.inr (.inr (some (0, 301)))), some (.inl (fX5_signHere D))], [], D) else (14, [some (.inr (.inr (some (0, 301)))), some (.inl (fX5_signHere D))], [], D))) bX10_takesCompare_7 oX10_takesCompare_7 rfl trivial ?_
  refine mz_Go.ite (fun hc1 => ?_) (fun hc1 => ?_)
  · have h := mz_ifp hc1 h
    exact mz_Go.drop [true, true] (tX10_takesCompare_35 r (fX5_signHere D) D h)
  · have h := mz_ifn hc1 h
    refine mz_Go.run (gs := []) (st' := (if (fX5_signHere D) = (62 : Int32) then (35, [some (.inr (.inr (some (0, 301)))), some (.inl (fX5_signHere D))], [], D) else (20, [some (.inr (.inr (some (0, 301)))), some (.inl (fX5_signHere D))], [], D))) bX10_takesCompare_14 oX10_takesCompare_14 rfl trivial ?_
    refine mz_Go.ite (fun hc2 => ?_) (fun hc2 => ?_)
    · have h := mz_ifp hc2 h
      exact mz_Go.drop [true, true] (tX10_takesCompare_35 r (fX5_signHere D) D h)
    · have h := mz_ifn hc2 h
      refine mz_Go.run (gs := []) (st' := (if (fX5_signHere D) = (61 : Int32) then (35, [some (.inr (.inr (some (0, 301)))), some (.inl (fX5_signHere D))], [], D) else (26, [some (.inr (.inr (some (0, 301)))), some (.inl (fX5_signHere D))], [], D))) bX10_takesCompare_20 oX10_takesCompare_20 rfl trivial ?_
      refine mz_Go.ite (fun hc3 => ?_) (fun hc3 => ?_)
      · have h := mz_ifp hc3 h
        exact mz_Go.drop [true, true] (tX10_takesCompare_35 r (fX5_signHere D) D h)
      · have h := mz_ifn hc3 h
        refine mz_Go.run (gs := [mz_kz 2 0 301]) (st' := (31, [some (.inr (.inr (some (0, 301)))), some (.inl (fX5_signHere D))], [.inl (2 : Int32), .inr (.inr (some (0, 2)))], D)) bX10_takesCompare_26 oX10_takesCompare_26 rfl ⟨rfl, trivial⟩ ?_
        obtain ⟨q4, hq4, h⟩ := mz_bd_some h
        refine mz_Go.callV (J := IX5_fail) (as := [.inl (2 : Int32)]) (ci := 5) (g := 0) (o := 2) (idx := 58) (pl := 958) (rest := []) (mX5_fail (2 : Int32) D q4 hq4) kX5_fail vX5_fail (by decide +kernel) (by decide +kernel) (by decide +kernel) rfl rfl ⟨rfl, rfl⟩ rfl rfl rfl rfl ?_
        obtain ⟨hb5, h⟩ := mz_gd_some h
        cases h
        exact mz_Go.retz (by decide +kernel) rfl ⟨Nat.le_refl _, Nat.le_refl _⟩ hb5 rfl
def bX10_takesCount_0 : List mz_E := [(0, .aload_n 0, 0, 0, 0, 0, 0), (1, .getfield 23, 10, 2, 932, 0, 0), (4, .getfield 117, 9, 7, 452, 0, 0), (7, .aload_n 0, 0, 0, 0, 0, 0), (8, .getfield 84, 10, 5, 935, 0, 0), (11, .aload_n 0, 0, 0, 0, 0, 0), (12, .getfield 15, 10, 0, 930, 0, 0), (15, .iload_n 1, 0, 0, 0, 0, 0), (16, .iload_n 2, 0, 0, 0, 0, 0)]
theorem oX10_takesCount_0 : bX10_takesCount_0.all (mz_ok RX10 cX10_takesCount 3) = true := by decide +kernel
def bX10_takesCount_20 : List mz_E := [(20, .iastore, 0, 0, 0, 0, 0), (21, .aload_n 0, 0, 0, 0, 0, 0), (22, .getfield 23, 10, 2, 932, 0, 0), (25, .getfield 117, 9, 7, 452, 0, 0), (28, .aload_n 0, 0, 0, 0, 0, 0), (29, .getfield 84, 10, 5, 935, 0, 0), (32, .iaload, 0, 0, 0, 0, 0), (33, .iconst (-1), 0, 0, 0, -1, 0), (34, .if_icmp .eq 7, 0, 41, 0, 0, 0)]
theorem oX10_takesCount_20 : bX10_takesCount_20.all (mz_ok RX10 cX10_takesCount 3) = true := by decide +kernel
def bX10_takesCount_41 : List mz_E := [(41, .iconst 0, 0, 0, 0, 0, 0)]
theorem oX10_takesCount_41 : bX10_takesCount_41.all (mz_ok RX10 cX10_takesCount 3) = true := by decide +kernel
def bX10_takesCount_37 : List mz_E := [(37, .iconst 1, 0, 0, 0, 1, 0), (38, .goto 4, 0, 42, 0, 0, 0)]
theorem oX10_takesCount_37 : bX10_takesCount_37.all (mz_ok RX10 cX10_takesCount 3) = true := by decide +kernel
abbrev IX10_takesCount : mz_I := (yX10_takesCount, cX10_takesCount, 3, (some .boolean), 2, 3, 0, 0)
theorem kX10_takesCount : mz_okm IX10_takesCount 1000 146 999 2 = true := by decide +kernel
theorem vX10_takesCount : mz_okV IX10_takesCount 999 22 = true := by decide +kernel
def fX10_takesCount (x1 : Int32) (x2 : Int32) (D : mz_D) : Option (Int32 × mz_D) := (Option.bind (fX5_takeNumber x1 x2 D) fun q1 => (mz_gd (mz_ix (D.1 0 301 5) 30) (mz_gd (mz_ix (q1.2.1 0 301 5) 30) (if ((mz_wi q1.2 2 125 ((D.1 0 301 5)).toNatClampNeg q1.1).1 2 125 ((q1.2.1 0 301 5)).toNatClampNeg) = (-1 : Int32) then (some ((0 : Int32), (mz_wi q1.2 2 125 ((D.1 0 301 5)).toNatClampNeg q1.1))) else (some ((1 : Int32), (mz_wi q1.2 2 125 ((D.1 0 301 5)).toNatClampNeg q1.1)))))))
set_option maxHeartbeats 4000000 in
theorem mX10_takesCount (x1 : Int32) (x2 : Int32) (D : mz_D) (r : (Int32 × mz_D)) (h : fX10_takesCount x1 x2 D = some r) : mz_Met IX10_takesCount [.inr (.inr (some (0, 301))), .inl x1, .inl x2] D (some (.inl r.1), r.2) := by
  refine mz_Met.of (by decide +kernel) (Nat.le_of_ble_eq_true rfl) ?_
  show mz_Go IX10_takesCount (some (.inl r.1), r.2) 0 0 (0, [some (.inr (.inr (some (0, 301)))), some (.inl x1), some (.inl x2)], [], D)
  rw [fX10_takesCount] at h
  refine mz_Go.run (gs := [mz_kz 2 0 301, mz_kz 2 2 119, mz_kz 2 0 301, mz_kz 2 0 301]) (st' := (17, [some (.inr (.inr (some (0, 301)))), some (.inl x1), some (.inl x2)], [.inl x2, .inl x1, .inr (.inr (some (0, 2))), .inl (D.1 0 301 5), .inr (.inr (some (2, 125)))], D)) bX10_takesCount_0 oX10_takesCount_0 rfl ⟨rfl, rfl, rfl, rfl, trivial⟩ ?_
  obtain ⟨q1, hq1, h⟩ := mz_bd_some h
  refine mz_Go.callV (J := IX5_takeNumber) (as := [.inl x1, .inl x2]) (ci := 5) (g := 0) (o := 2) (idx := 120) (pl := 1001) (rest := [.inl (D.1 0 301 5), .inr (.inr (some (2, 125)))]) (mX5_takeNumber x1 x2 D q1 hq1) kX5_takeNumber vX5_takeNumber (by decide +kernel) (by decide +kernel) (by decide +kernel) rfl rfl ⟨rfl, rfl⟩ rfl rfl rfl rfl ?_
  obtain ⟨hb2, h⟩ := mz_gd_some h
  obtain ⟨hb3, h⟩ := mz_gd_some h
  refine mz_Go.run (gs := [mz_kz 2 2 125, mz_ix (D.1 0 301 5) 30, mz_kz 2 0 301, mz_kz 2 2 119, mz_kz 2 0 301, mz_kz 2 2 125, mz_ix (q1.2.1 0 301 5) 30]) (st' := (if ((mz_wi q1.2 2 125 ((D.1 0 301 5)).toNatClampNeg q1.1).1 2 125 ((q1.2.1 0 301 5)).toNatClampNeg) = (-1 : Int32) then (41, [some (.inr (.inr (some (0, 301)))), some (.inl x1), some (.inl x2)], [], (mz_wi q1.2 2 125 ((D.1 0 301 5)).toNatClampNeg q1.1)) else (37, [some (.inr (.inr (some (0, 301)))), some (.inl x1), some (.inl x2)], [], (mz_wi q1.2 2 125 ((D.1 0 301 5)).toNatClampNeg q1.1)))) bX10_takesCount_20 oX10_takesCount_20 rfl ⟨rfl, hb2, rfl, rfl, rfl, rfl, hb3, trivial⟩ ?_
  refine mz_Go.ite (fun hc4 => ?_) (fun hc4 => ?_)
  · have h := mz_ifp hc4 h
    refine mz_Go.run (gs := []) (st' := (42, [some (.inr (.inr (some (0, 301)))), some (.inl x1), some (.inl x2)], [.inl (0 : Int32)], (mz_wi q1.2 2 125 ((D.1 0 301 5)).toNatClampNeg q1.1))) bX10_takesCount_41 oX10_takesCount_41 rfl trivial ?_
    cases h
    exact mz_Go.retz (by decide +kernel) rfl ⟨Nat.le_refl _, Nat.le_refl _⟩ (by decide) rfl
  · have h := mz_ifn hc4 h
    refine mz_Go.run (gs := []) (st' := (42, [some (.inr (.inr (some (0, 301)))), some (.inl x1), some (.inl x2)], [.inl (1 : Int32)], (mz_wi q1.2 2 125 ((D.1 0 301 5)).toNatClampNeg q1.1))) bX10_takesCount_37 oX10_takesCount_37 rfl trivial ?_
    cases h
    exact mz_Go.retz (by decide +kernel) rfl ⟨Nat.le_refl _, Nat.le_refl _⟩ (by decide) rfl
