def bX12_evenPays_0 : List mz_E := [(0, .aload_n 0, 0, 0, 0, 0, 0)]
theorem oX12_evenPays_0 : bX12_evenPays_0.all (mz_ok RX12 cX12_evenPays 6) = true := by decide +kernel
def bX12_evenPays_7 : List mz_E := [(7, .istore 4, 0, 0, 0, 0, 0), (9, .aload_n 0, 0, 0, 0, 0, 0), (10, .iload_n 3, 0, 0, 0, 0, 0)]
theorem oX12_evenPays_7 : bX12_evenPays_7.all (mz_ok RX12 cX12_evenPays 6) = true := by decide +kernel
def bX12_evenPays_14 : List mz_E := [(14, .istore 5, 0, 0, 0, 0, 0), (16, .iload 5, 0, 0, 0, 0, 0), (18, .iload_n 1, 0, 0, 0, 0, 0), (19, .irem, 0, 0, 0, 0, 0), (20, .ifCond .ne 23, 0, 43, 0, 0, 0)]
theorem oX12_evenPays_14 : bX12_evenPays_14.all (mz_ok RX12 cX12_evenPays 6) = true := by decide +kernel
def bX12_evenPays_23 : List mz_E := [(23, .iload_n 2, 0, 0, 0, 0, 0), (24, .iload 5, 0, 0, 0, 0, 0), (26, .iload_n 1, 0, 0, 0, 0, 0), (27, .idiv, 0, 0, 0, 0, 0), (28, .isub, 0, 0, 0, 0, 0), (29, .iload 4, 0, 0, 0, 0, 0), (31, .irem, 0, 0, 0, 0, 0), (32, .ifCond .ne 11, 0, 43, 0, 0, 0)]
theorem oX12_evenPays_23 : bX12_evenPays_23.all (mz_ok RX12 cX12_evenPays 6) = true := by decide +kernel
def bX12_evenPays_35 : List mz_E := [(35, .iload_n 2, 0, 0, 0, 0, 0), (36, .iload 5, 0, 0, 0, 0, 0), (38, .iload_n 1, 0, 0, 0, 0, 0), (39, .idiv, 0, 0, 0, 0, 0), (40, .if_icmp .ge 5, 0, 45, 0, 0, 0)]
theorem oX12_evenPays_35 : bX12_evenPays_35.all (mz_ok RX12 cX12_evenPays 6) = true := by decide +kernel
def bX12_evenPays_45 : List mz_E := [(45, .iload_n 2, 0, 0, 0, 0, 0), (46, .iload 5, 0, 0, 0, 0, 0), (48, .iload_n 1, 0, 0, 0, 0, 0), (49, .idiv, 0, 0, 0, 0, 0), (50, .isub, 0, 0, 0, 0, 0), (51, .iload 4, 0, 0, 0, 0, 0), (53, .idiv, 0, 0, 0, 0, 0)]
theorem oX12_evenPays_45 : bX12_evenPays_45.all (mz_ok RX12 cX12_evenPays 6) = true := by decide +kernel
def bX12_evenPays_43 : List mz_E := [(43, .iconst (-1), 0, 0, 0, -1, 0)]
theorem oX12_evenPays_43 : bX12_evenPays_43.all (mz_ok RX12 cX12_evenPays 6) = true := by decide +kernel
abbrev IX12_evenPays : mz_I := (yX12_evenPays, cX12_evenPays, 6, (some .int), 0, 2, 0, 0)
theorem kX12_evenPays : mz_okm IX12_evenPays 2163 141 2162 3 = true := by decide +kernel
theorem vX12_evenPays : mz_okV IX12_evenPays 2162 109 = true := by decide +kernel
def fX12_evenPays (x1 : Int32) (x2 : Int32) (x3 : Int32) (D : mz_D) : Option Int32 := (Option.bind (fX12_bits (fX12_heads D)) fun q1 => (Option.bind (fX12_balanceOf x3 D) fun q2 => (mz_gd (mz_nz x1) (if (q2 - q2 / x1 * x1) = 0 then (mz_gd (mz_nz q1) (if ((x2 - (q2 / x1)) - (x2 - (q2 / x1)) / q1 * q1) = 0 then (if (q2 / x1) ≤ x2 then (some ((x2 - (q2 / x1)) / q1)) else (some (-1 : Int32))) else (some (-1 : Int32)))) else (some (-1 : Int32))))))
set_option maxHeartbeats 4000000 in
theorem mX12_evenPays (x1 : Int32) (x2 : Int32) (x3 : Int32) (D : mz_D) (r : Int32) (h : fX12_evenPays x1 x2 x3 D = some r) : mz_Met IX12_evenPays [.inr (.inr (some (0, 200))), .inl x1, .inl x2, .inl x3] D (some (.inl r), D) := by
  refine mz_Met.of (by decide +kernel) (Nat.le_of_ble_eq_true rfl) ?_
  show mz_Go IX12_evenPays (some (.inl r), D) 0 0 (0, [some (.inr (.inr (some (0, 200)))), some (.inl x1), some (.inl x2), some (.inl x3), none, none], [], D)
  rw [fX12_evenPays] at h
  refine mz_Go.run (gs := []) (st' := (1, [some (.inr (.inr (some (0, 200)))), some (.inl x1), some (.inl x2), some (.inl x3), none, none], [.inr (.inr (some (0, 200)))], D)) bX12_evenPays_0 oX12_evenPays_0 rfl trivial ?_
  refine mz_Go.callV (I := IX12_evenPays) (J := IX12_heads) (as := []) (ci := 12) (g := 0) (o := 200) (idx := 264) (pl := 1880) (rest := []) (mX12_heads D _ rfl) kX12_heads vX12_heads (by decide +kernel) (by decide +kernel) (by decide +kernel) rfl rfl ⟨rfl, rfl⟩ rfl rfl rfl rfl ?_
  obtain ⟨q1, hq1, h⟩ := mz_bd_some h
  refine mz_Go.callS (I := IX12_evenPays) (J := IX12_bits) (as := [.inl (fX12_heads D)]) (idx := 254) (pl := 1888) (rest := []) (mX12_bits (fX12_heads D) D q1 hq1) kX12_bits vX12_bits (by decide +kernel) (by decide +kernel) (by decide +kernel) rfl rfl ⟨rfl, rfl⟩ rfl ?_
  refine mz_Go.run (gs := []) (st' := (11, [some (.inr (.inr (some (0, 200)))), some (.inl x1), some (.inl x2), some (.inl x3), some (.inl q1), none], [.inl x3, .inr (.inr (some (0, 200)))], D)) bX12_evenPays_7 oX12_evenPays_7 rfl trivial ?_
  obtain ⟨q2, hq2, h⟩ := mz_bd_some h
  refine mz_Go.callV (I := IX12_evenPays) (J := IX12_balanceOf) (as := [.inl x3]) (ci := 12) (g := 0) (o := 200) (idx := 319) (pl := 2024) (rest := []) (mX12_balanceOf x3 D q2 hq2) kX12_balanceOf vX12_balanceOf (by decide +kernel) (by decide +kernel) (by decide +kernel) rfl rfl ⟨rfl, rfl⟩ rfl rfl rfl rfl ?_
  obtain ⟨hb3, h⟩ := mz_gd_some h
  refine mz_Go.run (gs := [mz_nz x1]) (st' := (if (q2 - q2 / x1 * x1) = 0 then (23, [some (.inr (.inr (some (0, 200)))), some (.inl x1), some (.inl x2), some (.inl x3), some (.inl q1), some (.inl q2)], [], D) else (43, [some (.inr (.inr (some (0, 200)))), some (.inl x1), some (.inl x2), some (.inl x3), some (.inl q1), some (.inl q2)], [], D))) bX12_evenPays_14 oX12_evenPays_14 rfl ⟨hb3, trivial⟩ ?_
  refine mz_Go.ite (fun hc4 => ?_) (fun hc4 => ?_)
  · have h := mz_ifp hc4 h
    obtain ⟨hb5, h⟩ := mz_gd_some h
    refine mz_Go.run (gs := [mz_nz x1, mz_nz q1]) (st' := (if ((x2 - (q2 / x1)) - (x2 - (q2 / x1)) / q1 * q1) = 0 then (35, [some (.inr (.inr (some (0, 200)))), some (.inl x1), some (.inl x2), some (.inl x3), some (.inl q1), some (.inl q2)], [], D) else (43, [some (.inr (.inr (some (0, 200)))), some (.inl x1), some (.inl x2), some (.inl x3), some (.inl q1), some (.inl q2)], [], D))) bX12_evenPays_23 oX12_evenPays_23 rfl ⟨hb3, hb5, trivial⟩ ?_
    refine mz_Go.ite (fun hc6 => ?_) (fun hc6 => ?_)
    · have h := mz_ifp hc6 h
      refine mz_Go.run (gs := [mz_nz x1]) (st' := (if (q2 / x1) ≤ x2 then (45, [some (.inr (.inr (some (0, 200)))), some (.inl x1), some (.inl x2), some (.inl x3), some (.inl q1), some (.inl q2)], [], D) else (43, [some (.inr (.inr (some (0, 200)))), some (.inl x1), some (.inl x2), some (.inl x3), some (.inl q1), some (.inl q2)], [], D))) bX12_evenPays_35 oX12_evenPays_35 rfl ⟨hb3, trivial⟩ ?_
      refine mz_Go.ite (fun hc7 => ?_) (fun hc7 => ?_)
      · have h := mz_ifp hc7 h
        refine mz_Go.run (gs := [mz_nz x1, mz_nz q1]) (st' := (54, [some (.inr (.inr (some (0, 200)))), some (.inl x1), some (.inl x2), some (.inl x3), some (.inl q1), some (.inl q2)], [.inl ((x2 - (q2 / x1)) / q1)], D)) bX12_evenPays_45 oX12_evenPays_45 rfl ⟨hb3, hb5, trivial⟩ ?_
        cases h
        exact mz_Go.reti (by decide +kernel) rfl ⟨Nat.le_refl _, Nat.le_refl _⟩ rfl
      · have h := mz_ifn hc7 h
        refine mz_Go.run (gs := []) (st' := (44, [some (.inr (.inr (some (0, 200)))), some (.inl x1), some (.inl x2), some (.inl x3), some (.inl q1), some (.inl q2)], [.inl (-1 : Int32)], D)) bX12_evenPays_43 oX12_evenPays_43 rfl trivial ?_
        cases h
        exact mz_Go.reti (by decide +kernel) rfl ⟨Nat.le_refl _, Nat.le_refl _⟩ rfl
    · have h := mz_ifn hc6 h
      refine mz_Go.run (gs := []) (st' := (44, [some (.inr (.inr (some (0, 200)))), some (.inl x1), some (.inl x2), some (.inl x3), some (.inl q1), some (.inl q2)], [.inl (-1 : Int32)], D)) bX12_evenPays_43 oX12_evenPays_43 rfl trivial ?_
      cases h
      exact mz_Go.reti (by decide +kernel) rfl ⟨Nat.le_refl _, Nat.le_refl _⟩ rfl
  · have h := mz_ifn hc4 h
    refine mz_Go.run (gs := []) (st' := (44, [some (.inr (.inr (some (0, 200)))), some (.inl x1), some (.inl x2), some (.inl x3), some (.inl q1), some (.inl q2)], [.inl (-1 : Int32)], D)) bX12_evenPays_43 oX12_evenPays_43 rfl trivial ?_
    cases h
    exact mz_Go.reti (by decide +kernel) rfl ⟨Nat.le_refl _, Nat.le_refl _⟩ rfl
def bX12_evenIn_0 : List mz_E := [(0, .iconst 0, 0, 0, 0, 0, 0), (1, .istore_n 2, 0, 0, 0, 0, 0)]
theorem oX12_evenIn_0 : bX12_evenIn_0.all (mz_ok RX12 cX12_evenIn 6) = true := by decide +kernel
def bX12_evenIn_2 : List mz_E := [(2, .iload_n 2, 0, 0, 0, 0, 0), (3, .bipush 100, 0, 0, 0, 100, 0), (5, .if_icmp .ge 84, 0, 89, 0, 0, 0)]
theorem oX12_evenIn_2 : bX12_evenIn_2.all (mz_ok RX12 cX12_evenIn 6) = true := by decide +kernel
def bX12_evenIn_89 : List mz_E := [(89, .iconst (-1), 0, 0, 0, -1, 0)]
theorem oX12_evenIn_89 : bX12_evenIn_89.all (mz_ok RX12 cX12_evenIn 6) = true := by decide +kernel
def bX12_evenIn_8 : List mz_E := [(8, .iconst 0, 0, 0, 0, 0, 0), (9, .istore_n 3, 0, 0, 0, 0, 0), (10, .iconst 0, 0, 0, 0, 0, 0), (11, .istore 4, 0, 0, 0, 0, 0)]
theorem oX12_evenIn_8 : bX12_evenIn_8.all (mz_ok RX12 cX12_evenIn 6) = true := by decide +kernel
def bX12_evenIn_13 : List mz_E := [(13, .iload 4, 0, 0, 0, 0, 0), (15, .aload_n 0, 0, 0, 0, 0, 0), (16, .getfield 7, 12, 0, 1576, 0, 0), (19, .iconst 0, 0, 0, 0, 0, 0), (20, .iaload, 0, 0, 0, 0, 0), (21, .if_icmp .ge 55, 0, 76, 0, 0, 0)]
theorem oX12_evenIn_13 : bX12_evenIn_13.all (mz_ok RX12 cX12_evenIn 6) = true := by decide +kernel
def bX12_evenIn_76 : List mz_E := [(76, .iload_n 3, 0, 0, 0, 0, 0), (77, .iload_n 2, 0, 0, 0, 0, 0), (78, .if_icmp .ne 5, 0, 83, 0, 0, 0)]
theorem oX12_evenIn_76 : bX12_evenIn_76.all (mz_ok RX12 cX12_evenIn 6) = true := by decide +kernel
def bX12_evenIn_81 : List mz_E := [(81, .iload_n 2, 0, 0, 0, 0, 0)]
theorem oX12_evenIn_81 : bX12_evenIn_81.all (mz_ok RX12 cX12_evenIn 6) = true := by decide +kernel
def bX12_evenIn_83 : List mz_E := [(83, .iinc 2 1, 0, 0, 0, 1, 0), (86, .goto (-84), 0, 2, 0, 0, 0)]
theorem oX12_evenIn_83 : bX12_evenIn_83.all (mz_ok RX12 cX12_evenIn 6) = true := by decide +kernel
def bX12_evenIn_24 : List mz_E := [(24, .iload_n 3, 0, 0, 0, 0, 0), (25, .iconst (-1), 0, 0, 0, -1, 0), (26, .if_icmp .eq 50, 0, 76, 0, 0, 0)]
theorem oX12_evenIn_24 : bX12_evenIn_24.all (mz_ok RX12 cX12_evenIn 6) = true := by decide +kernel
def bX12_evenIn_29 : List mz_E := [(29, .aload_n 0, 0, 0, 0, 0, 0), (30, .aload_n 0, 0, 0, 0, 0, 0)]
theorem oX12_evenIn_29 : bX12_evenIn_29.all (mz_ok RX12 cX12_evenIn 6) = true := by decide +kernel
def bX12_evenIn_34 : List mz_E := [(34, .iload 4, 0, 0, 0, 0, 0)]
theorem oX12_evenIn_34 : bX12_evenIn_34.all (mz_ok RX12 cX12_evenIn 6) = true := by decide +kernel
def bX12_evenIn_39 : List mz_E := [(39, .ifCond .ne 6, 0, 45, 0, 0, 0)]
theorem oX12_evenIn_39 : bX12_evenIn_39.all (mz_ok RX12 cX12_evenIn 6) = true := by decide +kernel
def bX12_evenIn_42 : List mz_E := [(42, .goto 28, 0, 70, 0, 0, 0), (70, .iinc 4 1, 0, 0, 0, 1, 0), (73, .goto (-60), 0, 13, 0, 0, 0)]
theorem oX12_evenIn_42 : bX12_evenIn_42.all (mz_ok RX12 cX12_evenIn 6) = true := by decide +kernel
def bX12_evenIn_45 : List mz_E := [(45, .aload_n 0, 0, 0, 0, 0, 0), (46, .iload_n 1, 0, 0, 0, 0, 0), (47, .iload_n 2, 0, 0, 0, 0, 0), (48, .iload 4, 0, 0, 0, 0, 0)]
theorem oX12_evenIn_45 : bX12_evenIn_45.all (mz_ok RX12 cX12_evenIn 6) = true := by decide +kernel
def bX12_evenIn_53 : List mz_E := [(53, .istore 5, 0, 0, 0, 0, 0), (55, .iload 5, 0, 0, 0, 0, 0), (57, .iconst (-1), 0, 0, 0, -1, 0), (58, .if_icmp .ne 7, 0, 65, 0, 0, 0)]
theorem oX12_evenIn_53 : bX12_evenIn_53.all (mz_ok RX12 cX12_evenIn 6) = true := by decide +kernel
def bX12_evenIn_61 : List mz_E := [(61, .iconst (-1), 0, 0, 0, -1, 0), (62, .goto 7, 0, 69, 0, 0, 0), (69, .istore_n 3, 0, 0, 0, 0, 0), (70, .iinc 4 1, 0, 0, 0, 1, 0), (73, .goto (-60), 0, 13, 0, 0, 0)]
theorem oX12_evenIn_61 : bX12_evenIn_61.all (mz_ok RX12 cX12_evenIn 6) = true := by decide +kernel
def bX12_evenIn_65 : List mz_E := [(65, .iload_n 3, 0, 0, 0, 0, 0), (66, .iload 5, 0, 0, 0, 0, 0), (68, .iadd, 0, 0, 0, 0, 0), (69, .istore_n 3, 0, 0, 0, 0, 0), (70, .iinc 4 1, 0, 0, 0, 1, 0), (73, .goto (-60), 0, 13, 0, 0, 0)]
theorem oX12_evenIn_65 : bX12_evenIn_65.all (mz_ok RX12 cX12_evenIn 6) = true := by decide +kernel
abbrev IX12_evenIn : mz_I := (yX12_evenIn, cX12_evenIn, 6, (some .int), 0, 3, 0, 0)
theorem kX12_evenIn : mz_okm IX12_evenIn 2159 141 2158 1 = true := by decide +kernel
theorem vX12_evenIn : mz_okV IX12_evenIn 2158 108 = true := by decide +kernel
def fX12_evenIn_76 (D : mz_D) (k2 : Int32 → Int32 → Option Int32) (x1 : Int32) (x2 : Int32) (x3 : Int32) : Option Int32 := (if x3 = x2 then (some x2) else (k2 x1 (x2 + (1 : Int32))))
set_option maxHeartbeats 4000000 in
theorem tX12_evenIn_76 (D : mz_D) (r : Int32) (k2 : Int32 → Int32 → Option Int32) (hk2 : ∀ (x1 : Int32) (x2 : Int32), k2 x1 x2 = some r → mz_Go IX12_evenIn (some (.inl r), D) 0 0 (2, [some (.inr (.inr (some (0, 200)))), some (.inl x1), some (.inl x2), none, none, none], [], D)) : ∀ (x1 : Int32) (x2 : Int32) (x3 : Int32), fX12_evenIn_76 D k2 x1 x2 x3 = some r → mz_Go IX12_evenIn (some (.inl r), D) 0 0 (76, [some (.inr (.inr (some (0, 200)))), some (.inl x1), some (.inl x2), some (.inl x3), none, none], [], D) := by
  intro x1 x2 x3 h
  rw [fX12_evenIn_76] at h
  refine mz_Go.run (gs := []) (st' := (if x3 = x2 then (81, [some (.inr (.inr (some (0, 200)))), some (.inl x1), some (.inl x2), some (.inl x3), none, none], [], D) else (83, [some (.inr (.inr (some (0, 200)))), some (.inl x1), some (.inl x2), some (.inl x3), none, none], [], D))) bX12_evenIn_76 oX12_evenIn_76 rfl trivial ?_
  refine mz_Go.ite (fun hc1 => ?_) (fun hc1 => ?_)
  · have h := mz_ifp hc1 h
    refine mz_Go.run (gs := []) (st' := (82, [some (.inr (.inr (some (0, 200)))), some (.inl x1), some (.inl x2), some (.inl x3), none, none], [.inl x2], D)) bX12_evenIn_81 oX12_evenIn_81 rfl trivial ?_
    cases h
    exact mz_Go.reti (by decide +kernel) rfl ⟨Nat.le_refl _, Nat.le_refl _⟩ rfl
  · have h := mz_ifn hc1 h
    refine mz_Go.run (gs := []) (st' := (2, [some (.inr (.inr (some (0, 200)))), some (.inl x1), some (.inl (x2 + (1 : Int32))), some (.inl x3), none, none], [], D)) bX12_evenIn_83 oX12_evenIn_83 rfl trivial ?_
    exact mz_Go.drop [true, true, true, false, false, false] (hk2 x1 (x2 + (1 : Int32)) h)
def fX12_evenIn_13 (D : mz_D) (k2 : Int32 → Int32 → Option Int32) : Nat → Int32 → Int32 → Int32 → Int32 → Option Int32
  | 0 => fun _ _ _ _ => none
  | n + 1 => fun x1 x2 x3 x4 => (if (D.1 0 201 ((0 : Int32)).toNatClampNeg) ≤ x4 then (fX12_evenIn_76 D k2 x1 x2 x3) else (if x3 = (-1 : Int32) then (fX12_evenIn_76 D k2 x1 x2 x3) else (if (fX12_isIn (fX12_heads D) x4) = 0 then ((fX12_evenIn_13 D k2 n) x1 x2 x3 (x4 + (1 : Int32))) else (Option.bind (fX12_evenPays x1 x2 x4 D) fun q4 => (if q4 = (-1 : Int32) then ((fX12_evenIn_13 D k2 n) x1 x2 (-1 : Int32) (x4 + (1 : Int32))) else ((fX12_evenIn_13 D k2 n) x1 x2 (x3 + q4) (x4 + (1 : Int32))))))))
set_option maxHeartbeats 4000000 in
theorem tX12_evenIn_13 (D : mz_D) (r : Int32) (k2 : Int32 → Int32 → Option Int32) (hk2 : ∀ (x1 : Int32) (x2 : Int32), k2 x1 x2 = some r → mz_Go IX12_evenIn (some (.inl r), D) 0 0 (2, [some (.inr (.inr (some (0, 200)))), some (.inl x1), some (.inl x2), none, none, none], [], D)) : ∀ (n : Nat) (x1 : Int32) (x2 : Int32) (x3 : Int32) (x4 : Int32), fX12_evenIn_13 D k2 n x1 x2 x3 x4 = some r → mz_Go IX12_evenIn (some (.inl r), D) 0 0 (13, [some (.inr (.inr (some (0, 200)))), some (.inl x1), some (.inl x2), some (.inl x3), some (.inl x4), none], [], D) := by
  intro n
  induction n with
  | zero => intro x1 x2 x3 x4 h; have h : (none : Option Int32) = some r := h; cases h
  | succ n ih =>
    intro x1 x2 x3 x4 h
    rw [fX12_evenIn_13] at h
    refine mz_Go.run (gs := [mz_kz 0 0 200, mz_kz 0 0 201, mz_ix (0 : Int32) 3000]) (st' := (if (D.1 0 201 ((0 : Int32)).toNatClampNeg) ≤ x4 then (76, [some (.inr (.inr (some (0, 200)))), some (.inl x1), some (.inl x2), some (.inl x3), some (.inl x4), none], [], D) else (24, [some (.inr (.inr (some (0, 200)))), some (.inl x1), some (.inl x2), some (.inl x3), some (.inl x4), none], [], D))) bX12_evenIn_13 oX12_evenIn_13 rfl ⟨rfl, rfl, (by decide), trivial⟩ ?_
    refine mz_Go.ite (fun hc1 => ?_) (fun hc1 => ?_)
    · have h := mz_ifp hc1 h
      exact mz_Go.drop [true, true, true, true, false, false] (tX12_evenIn_76 D r k2 hk2 x1 x2 x3 h)
    · have h := mz_ifn hc1 h
      refine mz_Go.run (gs := []) (st' := (if x3 = (-1 : Int32) then (76, [some (.inr (.inr (some (0, 200)))), some (.inl x1), some (.inl x2), some (.inl x3), some (.inl x4), none], [], D) else (29, [some (.inr (.inr (some (0, 200)))), some (.inl x1), some (.inl x2), some (.inl x3), some (.inl x4), none], [], D))) bX12_evenIn_24 oX12_evenIn_24 rfl trivial ?_
      refine mz_Go.ite (fun hc2 => ?_) (fun hc2 => ?_)
      · have h := mz_ifp hc2 h
        exact mz_Go.drop [true, true, true, true, false, false] (tX12_evenIn_76 D r k2 hk2 x1 x2 x3 h)
      · have h := mz_ifn hc2 h
        refine mz_Go.run (gs := []) (st' := (31, [some (.inr (.inr (some (0, 200)))), some (.inl x1), some (.inl x2), some (.inl x3), some (.inl x4), none], [.inr (.inr (some (0, 200))), .inr (.inr (some (0, 200)))], D)) bX12_evenIn_29 oX12_evenIn_29 rfl trivial ?_
        refine mz_Go.callV (I := IX12_evenIn) (J := IX12_heads) (as := []) (ci := 12) (g := 0) (o := 200) (idx := 264) (pl := 1880) (rest := [.inr (.inr (some (0, 200)))]) (mX12_heads D _ rfl) kX12_heads vX12_heads (by decide +kernel) (by decide +kernel) (by decide +kernel) rfl rfl ⟨rfl, rfl⟩ rfl rfl rfl rfl ?_
        refine mz_Go.run (gs := []) (st' := (36, [some (.inr (.inr (some (0, 200)))), some (.inl x1), some (.inl x2), some (.inl x3), some (.inl x4), none], [.inl x4, .inl (fX12_heads D), .inr (.inr (some (0, 200)))], D)) bX12_evenIn_34 oX12_evenIn_34 rfl trivial ?_
        refine mz_Go.callV (I := IX12_evenIn) (J := IX12_isIn) (as := [.inl (fX12_heads D), .inl x4]) (ci := 12) (g := 0) (o := 200) (idx := 270) (pl := 1944) (rest := []) (mX12_isIn (fX12_heads D) x4 D _ rfl) kX12_isIn vX12_isIn (by decide +kernel) (by decide +kernel) (by decide +kernel) rfl rfl ⟨rfl, rfl⟩ rfl rfl rfl rfl ?_
        refine mz_Go.run (gs := []) (st' := (if (fX12_isIn (fX12_heads D) x4) = 0 then (42, [some (.inr (.inr (some (0, 200)))), some (.inl x1), some (.inl x2), some (.inl x3), some (.inl x4), none], [], D) else (45, [some (.inr (.inr (some (0, 200)))), some (.inl x1), some (.inl x2), some (.inl x3), some (.inl x4), none], [], D))) bX12_evenIn_39 oX12_evenIn_39 rfl trivial ?_
        refine mz_Go.ite (fun hc3 => ?_) (fun hc3 => ?_)
        · have h := mz_ifp hc3 h
          refine mz_Go.run (gs := []) (st' := (13, [some (.inr (.inr (some (0, 200)))), some (.inl x1), some (.inl x2), some (.inl x3), some (.inl (x4 + (1 : Int32))), none], [], D)) bX12_evenIn_42 oX12_evenIn_42 rfl trivial ?_
          exact mz_Go.drop [true, true, true, true, true, false] (ih x1 x2 x3 (x4 + (1 : Int32)) h)
        · have h := mz_ifn hc3 h
          refine mz_Go.run (gs := []) (st' := (50, [some (.inr (.inr (some (0, 200)))), some (.inl x1), some (.inl x2), some (.inl x3), some (.inl x4), none], [.inl x4, .inl x2, .inl x1, .inr (.inr (some (0, 200)))], D)) bX12_evenIn_45 oX12_evenIn_45 rfl trivial ?_
          obtain ⟨q4, hq4, h⟩ := mz_bd_some h
          refine mz_Go.callV (I := IX12_evenIn) (J := IX12_evenPays) (as := [.inl x1, .inl x2, .inl x4]) (ci := 12) (g := 0) (o := 200) (idx := 375) (pl := 2160) (rest := []) (mX12_evenPays x1 x2 x4 D q4 hq4) kX12_evenPays vX12_evenPays (by decide +kernel) (by decide +kernel) (by decide +kernel) rfl rfl ⟨rfl, rfl⟩ rfl rfl rfl rfl ?_
          refine mz_Go.run (gs := []) (st' := (if q4 = (-1 : Int32) then (61, [some (.inr (.inr (some (0, 200)))), some (.inl x1), some (.inl x2), some (.inl x3), some (.inl x4), some (.inl q4)], [], D) else (65, [some (.inr (.inr (some (0, 200)))), some (.inl x1), some (.inl x2), some (.inl x3), some (.inl x4), some (.inl q4)], [], D))) bX12_evenIn_53 oX12_evenIn_53 rfl trivial ?_
          refine mz_Go.ite (fun hc5 => ?_) (fun hc5 => ?_)
          · have h := mz_ifp hc5 h
            refine mz_Go.run (gs := []) (st' := (13, [some (.inr (.inr (some (0, 200)))), some (.inl x1), some (.inl x2), some (.inl (-1 : Int32)), some (.inl (x4 + (1 : Int32))), some (.inl q4)], [], D)) bX12_evenIn_61 oX12_evenIn_61 rfl trivial ?_
            exact mz_Go.drop [true, true, true, true, true, false] (ih x1 x2 (-1 : Int32) (x4 + (1 : Int32)) h)
          · have h := mz_ifn hc5 h
            refine mz_Go.run (gs := []) (st' := (13, [some (.inr (.inr (some (0, 200)))), some (.inl x1), some (.inl x2), some (.inl (x3 + q4)), some (.inl (x4 + (1 : Int32))), some (.inl q4)], [], D)) bX12_evenIn_65 oX12_evenIn_65 rfl trivial ?_
            exact mz_Go.drop [true, true, true, true, true, false] (ih x1 x2 (x3 + q4) (x4 + (1 : Int32)) h)
def fX12_evenIn_2 (D : mz_D) : Nat → Int32 → Int32 → Option Int32
  | 0 => fun _ _ => none
  | n + 1 => fun x1 x2 => (if (100 : Int32) ≤ x2 then (some (-1 : Int32)) else (fX12_evenIn_13 D (fX12_evenIn_2 D n) mz_N x1 x2 (0 : Int32) (0 : Int32)))
set_option maxHeartbeats 4000000 in
theorem tX12_evenIn_2 (D : mz_D) (r : Int32) : ∀ (n : Nat) (x1 : Int32) (x2 : Int32), fX12_evenIn_2 D n x1 x2 = some r → mz_Go IX12_evenIn (some (.inl r), D) 0 0 (2, [some (.inr (.inr (some (0, 200)))), some (.inl x1), some (.inl x2), none, none, none], [], D) := by
  intro n
  induction n with
  | zero => intro x1 x2 h; have h : (none : Option Int32) = some r := h; cases h
  | succ n ih =>
    intro x1 x2 h
    rw [fX12_evenIn_2] at h
    refine mz_Go.run (gs := []) (st' := (if (100 : Int32) ≤ x2 then (89, [some (.inr (.inr (some (0, 200)))), some (.inl x1), some (.inl x2), none, none, none], [], D) else (8, [some (.inr (.inr (some (0, 200)))), some (.inl x1), some (.inl x2), none, none, none], [], D))) bX12_evenIn_2 oX12_evenIn_2 rfl trivial ?_
    refine mz_Go.ite (fun hc1 => ?_) (fun hc1 => ?_)
    · have h := mz_ifp hc1 h
      refine mz_Go.run (gs := []) (st' := (90, [some (.inr (.inr (some (0, 200)))), some (.inl x1), some (.inl x2), none, none, none], [.inl (-1 : Int32)], D)) bX12_evenIn_89 oX12_evenIn_89 rfl trivial ?_
      cases h
      exact mz_Go.reti (by decide +kernel) rfl ⟨Nat.le_refl _, Nat.le_refl _⟩ rfl
    · have h := mz_ifn hc1 h
      refine mz_Go.run (gs := []) (st' := (13, [some (.inr (.inr (some (0, 200)))), some (.inl x1), some (.inl x2), some (.inl (0 : Int32)), some (.inl (0 : Int32)), none], [], D)) bX12_evenIn_8 oX12_evenIn_8 rfl trivial ?_
      exact mz_Go.drop [true, true, true, true, true, false] (tX12_evenIn_13 D r (fX12_evenIn_2 D n) ih mz_N x1 x2 (0 : Int32) (0 : Int32) h)
def fX12_evenIn (x1 : Int32) (D : mz_D) : Option Int32 := (fX12_evenIn_2 D mz_N x1 (0 : Int32))
set_option maxHeartbeats 4000000 in
theorem mX12_evenIn (x1 : Int32) (D : mz_D) (r : Int32) (h : fX12_evenIn x1 D = some r) : mz_Met IX12_evenIn [.inr (.inr (some (0, 200))), .inl x1] D (some (.inl r), D) := by
  refine mz_Met.of (by decide +kernel) (Nat.le_of_ble_eq_true rfl) ?_
  show mz_Go IX12_evenIn (some (.inl r), D) 0 0 (0, [some (.inr (.inr (some (0, 200)))), some (.inl x1), none, none, none, none], [], D)
  rw [fX12_evenIn] at h
  refine mz_Go.run (gs := []) (st' := (2, [some (.inr (.inr (some (0, 200)))), some (.inl x1), some (.inl (0 : Int32)), none, none, none], [], D)) bX12_evenIn_0 oX12_evenIn_0 rfl trivial ?_
  exact mz_Go.drop [true, true, true, false, false, false] (tX12_evenIn_2 D r mz_N x1 (0 : Int32) h)
def bX12_even_0 : List mz_E := [(0, .iload_n 1, 0, 0, 0, 0, 0), (1, .i2l, 0, 0, 0, 0, 0), (2, .lconst 1, 0, 0, 0, 0, 1), (3, .ldc2_w 378, 0, 0, 2155, 0, 99)]
theorem oX12_even_0 : bX12_even_0.all (mz_ok RX12 cX12_even 2) = true := by decide +kernel
def bX12_even_9 : List mz_E := [(9, .ifCond .eq 15, 0, 24, 0, 0, 0)]
theorem oX12_even_9 : bX12_even_9.all (mz_ok RX12 cX12_even 2) = true := by decide +kernel
def bX12_even_24 : List mz_E := [(24, .aload_n 0, 0, 0, 0, 0, 0), (25, .iconst 1, 0, 0, 0, 1, 0)]
theorem oX12_even_24 : bX12_even_24.all (mz_ok RX12 cX12_even 2) = true := by decide +kernel
def bX12_even_12 : List mz_E := [(12, .aload_n 0, 0, 0, 0, 0, 0), (13, .aload_n 0, 0, 0, 0, 0, 0), (14, .iload_n 1, 0, 0, 0, 0, 0)]
theorem oX12_even_12 : bX12_even_12.all (mz_ok RX12 cX12_even 2) = true := by decide +kernel
def bX12_even_21 : List mz_E := [(21, .goto 8, 0, 29, 0, 0, 0)]
theorem oX12_even_21 : bX12_even_21.all (mz_ok RX12 cX12_even 2) = true := by decide +kernel
abbrev IX12_even : mz_I := (yX12_even, cX12_even, 2, (some .int), 0, 4, 0, 0)
theorem kX12_even : mz_okm IX12_even 2154 141 2152 1 = true := by decide +kernel
theorem vX12_even : mz_okV IX12_even 2152 2153 = true := by decide +kernel
def fX12_even (x1 : Int32) (D : mz_D) : Option (Int32 × mz_D) := (if (fX12_isFrom (x1).toInt64 (1 : Int64) (99 : Int64)) = 0 then (some ((-1 : Int32), (mz_wi D 0 200 2 (1 : Int32)))) else (Option.bind (fX12_evenIn x1 D) fun q2 => (Option.bind (fX12_orNone q2 D) fun q3 => (some (q3.1, q3.2)))))
set_option maxHeartbeats 4000000 in
theorem mX12_even (x1 : Int32) (D : mz_D) (r : (Int32 × mz_D)) (h : fX12_even x1 D = some r) : mz_Met IX12_even [.inr (.inr (some (0, 200))), .inl x1] D (some (.inl r.1), r.2) := by
  refine mz_Met.of (by decide +kernel) (Nat.le_of_ble_eq_true rfl) ?_
  show mz_Go IX12_even (some (.inl r.1), r.2) 0 0 (0, [some (.inr (.inr (some (0, 200)))), some (.inl x1)], [], D)
  rw [fX12_even] at h
  refine mz_Go.run (gs := []) (st' := (6, [some (.inr (.inr (some (0, 200)))), some (.inl x1)], [.inr (.inl (99 : Int64)), .inr (.inl (1 : Int64)), .inr (.inl (x1).toInt64)], D)) bX12_even_0 oX12_even_0 rfl trivial ?_
  refine mz_Go.callS (I := IX12_even) (J := IX12_isFrom) (as := [.inr (.inl (x1).toInt64), .inr (.inl (1 : Int64)), .inr (.inl (99 : Int64))]) (idx := 302) (pl := 1974) (rest := []) (mX12_isFrom (x1).toInt64 (1 : Int64) (99 : Int64) D _ rfl) kX12_isFrom vX12_isFrom (by decide +kernel) (by decide +kernel) (by decide +kernel) rfl rfl ⟨rfl, rfl⟩ rfl ?_
  refine mz_Go.run (gs := []) (st' := (if (fX12_isFrom (x1).toInt64 (1 : Int64) (99 : Int64)) = 0 then (24, [some (.inr (.inr (some (0, 200)))), some (.inl x1)], [], D) else (12, [some (.inr (.inr (some (0, 200)))), some (.inl x1)], [], D))) bX12_even_9 oX12_even_9 rfl trivial ?_
  refine mz_Go.ite (fun hc1 => ?_) (fun hc1 => ?_)
  · have h := mz_ifp hc1 h
    refine mz_Go.run (gs := []) (st' := (26, [some (.inr (.inr (some (0, 200)))), some (.inl x1)], [.inl (1 : Int32), .inr (.inr (some (0, 200)))], D)) bX12_even_24 oX12_even_24 rfl trivial ?_
    refine mz_Go.callV (I := IX12_even) (J := IX12_refuse) (as := [.inl (1 : Int32)]) (ci := 12) (g := 0) (o := 200) (idx := 75) (pl := 1761) (rest := []) (mX12_refuse (1 : Int32) D) kX12_refuse vX12_refuse (by decide +kernel) (by decide +kernel) (by decide +kernel) rfl rfl ⟨rfl, rfl⟩ rfl rfl rfl rfl ?_
    cases h
    exact mz_Go.reti (by decide +kernel) rfl ⟨Nat.le_refl _, Nat.le_refl _⟩ rfl
  · have h := mz_ifn hc1 h
    refine mz_Go.run (gs := []) (st' := (15, [some (.inr (.inr (some (0, 200)))), some (.inl x1)], [.inl x1, .inr (.inr (some (0, 200))), .inr (.inr (some (0, 200)))], D)) bX12_even_12 oX12_even_12 rfl trivial ?_
    obtain ⟨q2, hq2, h⟩ := mz_bd_some h
    refine mz_Go.callV (I := IX12_even) (J := IX12_evenIn) (as := [.inl x1]) (ci := 12) (g := 0) (o := 200) (idx := 380) (pl := 2156) (rest := [.inr (.inr (some (0, 200)))]) (mX12_evenIn x1 D q2 hq2) kX12_evenIn vX12_evenIn (by decide +kernel) (by decide +kernel) (by decide +kernel) rfl rfl ⟨rfl, rfl⟩ rfl rfl rfl rfl ?_
    obtain ⟨q3, hq3, h⟩ := mz_bd_some h
    refine mz_Go.callV (I := IX12_even) (J := IX12_orNone) (as := [.inl q2]) (ci := 12) (g := 0) (o := 200) (idx := 291) (pl := 1906) (rest := []) (mX12_orNone q2 D q3 hq3) kX12_orNone vX12_orNone (by decide +kernel) (by decide +kernel) (by decide +kernel) rfl rfl ⟨rfl, rfl⟩ rfl rfl rfl rfl ?_
    refine mz_Go.run (gs := []) (st' := (29, [some (.inr (.inr (some (0, 200)))), some (.inl x1)], [.inl q3.1], q3.2)) bX12_even_21 oX12_even_21 rfl trivial ?_
    cases h
    exact mz_Go.reti (by decide +kernel) rfl ⟨Nat.le_refl _, Nat.le_refl _⟩ rfl
def bX12_evenBy_0 : List mz_E := [(0, .iload_n 1, 0, 0, 0, 0, 0), (1, .i2l, 0, 0, 0, 0, 0), (2, .lconst 1, 0, 0, 0, 0, 1), (3, .ldc2_w 378, 0, 0, 2155, 0, 99)]
theorem oX12_evenBy_0 : bX12_evenBy_0.all (mz_ok RX12 cX12_evenBy 4) = true := by decide +kernel
def bX12_evenBy_9 : List mz_E := [(9, .ifCond .eq 11, 0, 20, 0, 0, 0)]
theorem oX12_evenBy_9 : bX12_evenBy_9.all (mz_ok RX12 cX12_evenBy 4) = true := by decide +kernel
def bX12_evenBy_20 : List mz_E := [(20, .aload_n 0, 0, 0, 0, 0, 0), (21, .iconst 1, 0, 0, 0, 1, 0)]
theorem oX12_evenBy_20 : bX12_evenBy_20.all (mz_ok RX12 cX12_evenBy 4) = true := by decide +kernel
def bX12_evenBy_12 : List mz_E := [(12, .aload_n 0, 0, 0, 0, 0, 0), (13, .iload_n 2, 0, 0, 0, 0, 0)]
theorem oX12_evenBy_12 : bX12_evenBy_12.all (mz_ok RX12 cX12_evenBy 4) = true := by decide +kernel
def bX12_evenBy_17 : List mz_E := [(17, .ifCond .ne 9, 0, 26, 0, 0, 0)]
theorem oX12_evenBy_17 : bX12_evenBy_17.all (mz_ok RX12 cX12_evenBy 4) = true := by decide +kernel
def bX12_evenBy_26 : List mz_E := [(26, .aload_n 0, 0, 0, 0, 0, 0), (27, .iload_n 1, 0, 0, 0, 0, 0)]
theorem oX12_evenBy_26 : bX12_evenBy_26.all (mz_ok RX12 cX12_evenBy 4) = true := by decide +kernel
def bX12_evenBy_31 : List mz_E := [(31, .istore_n 3, 0, 0, 0, 0, 0), (32, .iload_n 3, 0, 0, 0, 0, 0), (33, .iconst (-1), 0, 0, 0, -1, 0), (34, .if_icmp .ne 10, 0, 44, 0, 0, 0)]
theorem oX12_evenBy_31 : bX12_evenBy_31.all (mz_ok RX12 cX12_evenBy 4) = true := by decide +kernel
def bX12_evenBy_37 : List mz_E := [(37, .aload_n 0, 0, 0, 0, 0, 0), (38, .bipush 6, 0, 0, 0, 6, 0)]
theorem oX12_evenBy_37 : bX12_evenBy_37.all (mz_ok RX12 cX12_evenBy 4) = true := by decide +kernel
def bX12_evenBy_44 : List mz_E := [(44, .aload_n 0, 0, 0, 0, 0, 0), (45, .aload_n 0, 0, 0, 0, 0, 0), (46, .aload_n 0, 0, 0, 0, 0, 0)]
theorem oX12_evenBy_44 : bX12_evenBy_44.all (mz_ok RX12 cX12_evenBy 4) = true := by decide +kernel
def bX12_evenBy_50 : List mz_E := [(50, .iload_n 2, 0, 0, 0, 0, 0)]
theorem oX12_evenBy_50 : bX12_evenBy_50.all (mz_ok RX12 cX12_evenBy 4) = true := by decide +kernel
def bX12_evenBy_54 : List mz_E := [(54, .ifCond .eq 13, 0, 67, 0, 0, 0)]
theorem oX12_evenBy_54 : bX12_evenBy_54.all (mz_ok RX12 cX12_evenBy 4) = true := by decide +kernel
def bX12_evenBy_67 : List mz_E := [(67, .iconst 0, 0, 0, 0, 0, 0)]
theorem oX12_evenBy_67 : bX12_evenBy_67.all (mz_ok RX12 cX12_evenBy 4) = true := by decide +kernel
def bX12_evenBy_57 : List mz_E := [(57, .aload_n 0, 0, 0, 0, 0, 0), (58, .iload_n 1, 0, 0, 0, 0, 0), (59, .iload_n 3, 0, 0, 0, 0, 0), (60, .iload_n 2, 0, 0, 0, 0, 0)]
theorem oX12_evenBy_57 : bX12_evenBy_57.all (mz_ok RX12 cX12_evenBy 4) = true := by decide +kernel
def bX12_evenBy_64 : List mz_E := [(64, .goto 4, 0, 68, 0, 0, 0)]
theorem oX12_evenBy_64 : bX12_evenBy_64.all (mz_ok RX12 cX12_evenBy 4) = true := by decide +kernel
abbrev IX12_evenBy : mz_I := (yX12_evenBy, cX12_evenBy, 4, (some .int), 0, 4, 0, 0)
theorem kX12_evenBy : mz_okm IX12_evenBy 2167 141 2165 2 = true := by decide +kernel
theorem vX12_evenBy : mz_okV IX12_evenBy 2165 2166 = true := by decide +kernel
def fX12_evenBy (x1 : Int32) (x2 : Int32) (D : mz_D) : Option (Int32 × mz_D) := (if (fX12_isFrom (x1).toInt64 (1 : Int64) (99 : Int64)) = 0 then (some ((-1 : Int32), (mz_wi D 0 200 2 (1 : Int32)))) else (if (fX12_isPerson x2 D) = 0 then (some ((-1 : Int32), (mz_wi D 0 200 2 (1 : Int32)))) else (Option.bind (fX12_evenIn x1 D) fun q3 => (if q3 = (-1 : Int32) then (some ((-1 : Int32), (mz_wi D 0 200 2 (6 : Int32)))) else (if (fX12_isIn (fX12_heads D) x2) = 0 then (some ((0 : Int32), (mz_wi D 0 200 2 (0 : Int32)))) else (Option.bind (fX12_evenPays x1 q3 x2 D) fun q6 => (some (q6, (mz_wi D 0 200 2 (0 : Int32))))))))))
set_option maxHeartbeats 4000000 in
theorem mX12_evenBy (x1 : Int32) (x2 : Int32) (D : mz_D) (r : (Int32 × mz_D)) (h : fX12_evenBy x1 x2 D = some r) : mz_Met IX12_evenBy [.inr (.inr (some (0, 200))), .inl x1, .inl x2] D (some (.inl r.1), r.2) := by
  refine mz_Met.of (by decide +kernel) (Nat.le_of_ble_eq_true rfl) ?_
  show mz_Go IX12_evenBy (some (.inl r.1), r.2) 0 0 (0, [some (.inr (.inr (some (0, 200)))), some (.inl x1), some (.inl x2), none], [], D)
  rw [fX12_evenBy] at h
  refine mz_Go.run (gs := []) (st' := (6, [some (.inr (.inr (some (0, 200)))), some (.inl x1), some (.inl x2), none], [.inr (.inl (99 : Int64)), .inr (.inl (1 : Int64)), .inr (.inl (x1).toInt64)], D)) bX12_evenBy_0 oX12_evenBy_0 rfl trivial ?_
  refine mz_Go.callS (I := IX12_evenBy) (J := IX12_isFrom) (as := [.inr (.inl (x1).toInt64), .inr (.inl (1 : Int64)), .inr (.inl (99 : Int64))]) (idx := 302) (pl := 1974) (rest := []) (mX12_isFrom (x1).toInt64 (1 : Int64) (99 : Int64) D _ rfl) kX12_isFrom vX12_isFrom (by decide +kernel) (by decide +kernel) (by decide +kernel) rfl rfl ⟨rfl, rfl⟩ rfl ?_
  refine mz_Go.run (gs := []) (st' := (if (fX12_isFrom (x1).toInt64 (1 : Int64) (99 : Int64)) = 0 then (20, [some (.inr (.inr (some (0, 200)))), some (.inl x1), some (.inl x2), none], [], D) else (12, [some (.inr (.inr (some (0, 200)))), some (.inl x1), some (.inl x2), none], [], D))) bX12_evenBy_9 oX12_evenBy_9 rfl trivial ?_
  refine mz_Go.ite (fun hc1 => ?_) (fun hc1 => ?_)
  · have h := mz_ifp hc1 h
    refine mz_Go.run (gs := []) (st' := (22, [some (.inr (.inr (some (0, 200)))), some (.inl x1), some (.inl x2), none], [.inl (1 : Int32), .inr (.inr (some (0, 200)))], D)) bX12_evenBy_20 oX12_evenBy_20 rfl trivial ?_
    refine mz_Go.callV (I := IX12_evenBy) (J := IX12_refuse) (as := [.inl (1 : Int32)]) (ci := 12) (g := 0) (o := 200) (idx := 75) (pl := 1761) (rest := []) (mX12_refuse (1 : Int32) D) kX12_refuse vX12_refuse (by decide +kernel) (by decide +kernel) (by decide +kernel) rfl rfl ⟨rfl, rfl⟩ rfl rfl rfl rfl ?_
    cases h
    exact mz_Go.reti (by decide +kernel) rfl ⟨Nat.le_refl _, Nat.le_refl _⟩ rfl
  · have h := mz_ifn hc1 h
    refine mz_Go.run (gs := []) (st' := (14, [some (.inr (.inr (some (0, 200)))), some (.inl x1), some (.inl x2), none], [.inl x2, .inr (.inr (some (0, 200)))], D)) bX12_evenBy_12 oX12_evenBy_12 rfl trivial ?_
    refine mz_Go.callV (I := IX12_evenBy) (J := IX12_isPerson) (as := [.inl x2]) (ci := 12) (g := 0) (o := 200) (idx := 248) (pl := 1902) (rest := []) (mX12_isPerson x2 D _ rfl) kX12_isPerson vX12_isPerson (by decide +kernel) (by decide +kernel) (by decide +kernel) rfl rfl ⟨rfl, rfl⟩ rfl rfl rfl rfl ?_
    refine mz_Go.run (gs := []) (st' := (if (fX12_isPerson x2 D) = 0 then (20, [some (.inr (.inr (some (0, 200)))), some (.inl x1), some (.inl x2), none], [], D) else (26, [some (.inr (.inr (some (0, 200)))), some (.inl x1), some (.inl x2), none], [], D))) bX12_evenBy_17 oX12_evenBy_17 rfl trivial ?_
    refine mz_Go.ite (fun hc2 => ?_) (fun hc2 => ?_)
    · have h := mz_ifp hc2 h
      refine mz_Go.run (gs := []) (st' := (22, [some (.inr (.inr (some (0, 200)))), some (.inl x1), some (.inl x2), none], [.inl (1 : Int32), .inr (.inr (some (0, 200)))], D)) bX12_evenBy_20 oX12_evenBy_20 rfl trivial ?_
      refine mz_Go.callV (I := IX12_evenBy) (J := IX12_refuse) (as := [.inl (1 : Int32)]) (ci := 12) (g := 0) (o := 200) (idx := 75) (pl := 1761) (rest := []) (mX12_refuse (1 : Int32) D) kX12_refuse vX12_refuse (by decide +kernel) (by decide +kernel) (by decide +kernel) rfl rfl ⟨rfl, rfl⟩ rfl rfl rfl rfl ?_
      cases h
      exact mz_Go.reti (by decide +kernel) rfl ⟨Nat.le_refl _, Nat.le_refl _⟩ rfl
    · have h := mz_ifn hc2 h
      refine mz_Go.run (gs := []) (st' := (28, [some (.inr (.inr (some (0, 200)))), some (.inl x1), some (.inl x2), none], [.inl x1, .inr (.inr (some (0, 200)))], D)) bX12_evenBy_26 oX12_evenBy_26 rfl trivial ?_
      obtain ⟨q3, hq3, h⟩ := mz_bd_some h
      refine mz_Go.callV (I := IX12_evenBy) (J := IX12_evenIn) (as := [.inl x1]) (ci := 12) (g := 0) (o := 200) (idx := 380) (pl := 2156) (rest := []) (mX12_evenIn x1 D q3 hq3) kX12_evenIn vX12_evenIn (by decide +kernel) (by decide +kernel) (by decide +kernel) rfl rfl ⟨rfl, rfl⟩ rfl rfl rfl rfl ?_
      refine mz_Go.run (gs := []) (st' := (if q3 = (-1 : Int32) then (37, [some (.inr (.inr (some (0, 200)))), some (.inl x1), some (.inl x2), some (.inl q3)], [], D) else (44, [some (.inr (.inr (some (0, 200)))), some (.inl x1), some (.inl x2), some (.inl q3)], [], D))) bX12_evenBy_31 oX12_evenBy_31 rfl trivial ?_
      refine mz_Go.ite (fun hc4 => ?_) (fun hc4 => ?_)
      · have h := mz_ifp hc4 h
        refine mz_Go.run (gs := []) (st' := (40, [some (.inr (.inr (some (0, 200)))), some (.inl x1), some (.inl x2), some (.inl q3)], [.inl (6 : Int32), .inr (.inr (some (0, 200)))], D)) bX12_evenBy_37 oX12_evenBy_37 rfl trivial ?_
        refine mz_Go.callV (I := IX12_evenBy) (J := IX12_refuse) (as := [.inl (6 : Int32)]) (ci := 12) (g := 0) (o := 200) (idx := 75) (pl := 1761) (rest := []) (mX12_refuse (6 : Int32) D) kX12_refuse vX12_refuse (by decide +kernel) (by decide +kernel) (by decide +kernel) rfl rfl ⟨rfl, rfl⟩ rfl rfl rfl rfl ?_
        cases h
        exact mz_Go.reti (by decide +kernel) rfl ⟨Nat.le_refl _, Nat.le_refl _⟩ rfl
      · have h := mz_ifn hc4 h
        refine mz_Go.run (gs := []) (st' := (47, [some (.inr (.inr (some (0, 200)))), some (.inl x1), some (.inl x2), some (.inl q3)], [.inr (.inr (some (0, 200))), .inr (.inr (some (0, 200))), .inr (.inr (some (0, 200)))], D)) bX12_evenBy_44 oX12_evenBy_44 rfl trivial ?_
        refine mz_Go.callV (I := IX12_evenBy) (J := IX12_heads) (as := []) (ci := 12) (g := 0) (o := 200) (idx := 264) (pl := 1880) (rest := [.inr (.inr (some (0, 200))), .inr (.inr (some (0, 200)))]) (mX12_heads D _ rfl) kX12_heads vX12_heads (by decide +kernel) (by decide +kernel) (by decide +kernel) rfl rfl ⟨rfl, rfl⟩ rfl rfl rfl rfl ?_
        refine mz_Go.run (gs := []) (st' := (51, [some (.inr (.inr (some (0, 200)))), some (.inl x1), some (.inl x2), some (.inl q3)], [.inl x2, .inl (fX12_heads D), .inr (.inr (some (0, 200))), .inr (.inr (some (0, 200)))], D)) bX12_evenBy_50 oX12_evenBy_50 rfl trivial ?_
        refine mz_Go.callV (I := IX12_evenBy) (J := IX12_isIn) (as := [.inl (fX12_heads D), .inl x2]) (ci := 12) (g := 0) (o := 200) (idx := 270) (pl := 1944) (rest := [.inr (.inr (some (0, 200)))]) (mX12_isIn (fX12_heads D) x2 D _ rfl) kX12_isIn vX12_isIn (by decide +kernel) (by decide +kernel) (by decide +kernel) rfl rfl ⟨rfl, rfl⟩ rfl rfl rfl rfl ?_
        refine mz_Go.run (gs := []) (st' := (if (fX12_isIn (fX12_heads D) x2) = 0 then (67, [some (.inr (.inr (some (0, 200)))), some (.inl x1), some (.inl x2), some (.inl q3)], [.inr (.inr (some (0, 200)))], D) else (57, [some (.inr (.inr (some (0, 200)))), some (.inl x1), some (.inl x2), some (.inl q3)], [.inr (.inr (some (0, 200)))], D))) bX12_evenBy_54 oX12_evenBy_54 rfl trivial ?_
        refine mz_Go.ite (fun hc5 => ?_) (fun hc5 => ?_)
        · have h := mz_ifp hc5 h
          refine mz_Go.run (gs := []) (st' := (68, [some (.inr (.inr (some (0, 200)))), some (.inl x1), some (.inl x2), some (.inl q3)], [.inl (0 : Int32), .inr (.inr (some (0, 200)))], D)) bX12_evenBy_67 oX12_evenBy_67 rfl trivial ?_
          refine mz_Go.callV (I := IX12_evenBy) (J := IX12_gives) (as := [.inl (0 : Int32)]) (ci := 12) (g := 0) (o := 200) (idx := 79) (pl := 1844) (rest := []) (mX12_gives (0 : Int32) D) kX12_gives vX12_gives (by decide +kernel) (by decide +kernel) (by decide +kernel) rfl rfl ⟨rfl, rfl⟩ rfl rfl rfl rfl ?_
          cases h
          exact mz_Go.reti (by decide +kernel) rfl ⟨Nat.le_refl _, Nat.le_refl _⟩ rfl
        · have h := mz_ifn hc5 h
          refine mz_Go.run (gs := []) (st' := (61, [some (.inr (.inr (some (0, 200)))), some (.inl x1), some (.inl x2), some (.inl q3)], [.inl x2, .inl q3, .inl x1, .inr (.inr (some (0, 200))), .inr (.inr (some (0, 200)))], D)) bX12_evenBy_57 oX12_evenBy_57 rfl trivial ?_
          obtain ⟨q6, hq6, h⟩ := mz_bd_some h
          refine mz_Go.callV (I := IX12_evenBy) (J := IX12_evenPays) (as := [.inl x1, .inl q3, .inl x2]) (ci := 12) (g := 0) (o := 200) (idx := 375) (pl := 2160) (rest := [.inr (.inr (some (0, 200)))]) (mX12_evenPays x1 q3 x2 D q6 hq6) kX12_evenPays vX12_evenPays (by decide +kernel) (by decide +kernel) (by decide +kernel) rfl rfl ⟨rfl, rfl⟩ rfl rfl rfl rfl ?_
          refine mz_Go.run (gs := []) (st' := (68, [some (.inr (.inr (some (0, 200)))), some (.inl x1), some (.inl x2), some (.inl q3)], [.inl q6, .inr (.inr (some (0, 200)))], D)) bX12_evenBy_64 oX12_evenBy_64 rfl trivial ?_
          refine mz_Go.callV (I := IX12_evenBy) (J := IX12_gives) (as := [.inl q6]) (ci := 12) (g := 0) (o := 200) (idx := 79) (pl := 1844) (rest := []) (mX12_gives q6 D) kX12_gives vX12_gives (by decide +kernel) (by decide +kernel) (by decide +kernel) rfl rfl ⟨rfl, rfl⟩ rfl rfl rfl rfl ?_
          cases h
          exact mz_Go.reti (by decide +kernel) rfl ⟨Nat.le_refl _, Nat.le_refl _⟩ rfl
def bX12_comes_0 : List mz_E := [(0, .aload_n 0, 0, 0, 0, 0, 0), (1, .iload_n 1, 0, 0, 0, 0, 0)]
theorem oX12_comes_0 : bX12_comes_0.all (mz_ok RX12 cX12_comes 3) = true := by decide +kernel
def bX12_comes_5 : List mz_E := [(5, .ifCond .eq 12, 0, 17, 0, 0, 0)]
theorem oX12_comes_5 : bX12_comes_5.all (mz_ok RX12 cX12_comes 3) = true := by decide +kernel
def bX12_comes_17 : List mz_E := [(17, .aload_n 0, 0, 0, 0, 0, 0), (18, .iconst 1, 0, 0, 0, 1, 0)]
theorem oX12_comes_17 : bX12_comes_17.all (mz_ok RX12 cX12_comes 3) = true := by decide +kernel
def bX12_comes_8 : List mz_E := [(8, .iload_n 2, 0, 0, 0, 0, 0), (9, .ifCond .lt 8, 0, 17, 0, 0, 0)]
theorem oX12_comes_8 : bX12_comes_8.all (mz_ok RX12 cX12_comes 3) = true := by decide +kernel
def bX12_comes_12 : List mz_E := [(12, .iload_n 2, 0, 0, 0, 0, 0), (13, .iconst 1, 0, 0, 0, 1, 0), (14, .if_icmp .le 9, 0, 23, 0, 0, 0)]
theorem oX12_comes_12 : bX12_comes_12.all (mz_ok RX12 cX12_comes 3) = true := by decide +kernel
def bX12_comes_23 : List mz_E := [(23, .aload_n 0, 0, 0, 0, 0, 0), (24, .aload_n 0, 0, 0, 0, 0, 0), (25, .getfield 7, 12, 0, 1576, 0, 0), (28, .bipush 8, 0, 0, 0, 8, 0), (30, .iaload, 0, 0, 0, 0, 0), (31, .iload_n 1, 0, 0, 0, 0, 0)]
theorem oX12_comes_23 : bX12_comes_23.all (mz_ok RX12 cX12_comes 3) = true := by decide +kernel
def bX12_comes_35 : List mz_E := [(35, .iload_n 2, 0, 0, 0, 0, 0), (36, .iconst 1, 0, 0, 0, 1, 0), (37, .if_icmp .ne 7, 0, 44, 0, 0, 0)]
theorem oX12_comes_35 : bX12_comes_35.all (mz_ok RX12 cX12_comes 3) = true := by decide +kernel
def bX12_comes_40 : List mz_E := [(40, .iconst 1, 0, 0, 0, 1, 0), (41, .goto 4, 0, 45, 0, 0, 0)]
theorem oX12_comes_40 : bX12_comes_40.all (mz_ok RX12 cX12_comes 3) = true := by decide +kernel
def bX12_comes_45 : List mz_E := [(45, .if_icmp .ne 10, 0, 55, 0, 0, 0)]
theorem oX12_comes_45 : bX12_comes_45.all (mz_ok RX12 cX12_comes 3) = true := by decide +kernel
def bX12_comes_48 : List mz_E := [(48, .aload_n 0, 0, 0, 0, 0, 0), (49, .bipush 7, 0, 0, 0, 7, 0)]
theorem oX12_comes_48 : bX12_comes_48.all (mz_ok RX12 cX12_comes 3) = true := by decide +kernel
def bX12_comes_55 : List mz_E := [(55, .aload_n 0, 0, 0, 0, 0, 0), (56, .getfield 7, 12, 0, 1576, 0, 0), (59, .bipush 8, 0, 0, 0, 8, 0), (61, .dup2, 0, 0, 0, 0, 0), (62, .iaload, 0, 0, 0, 0, 0), (63, .iconst 1, 0, 0, 0, 1, 0), (64, .iload_n 1, 0, 0, 0, 0, 0), (65, .ishl, 0, 0, 0, 0, 0), (66, .ixor, 0, 0, 0, 0, 0), (67, .iastore, 0, 0, 0, 0, 0), (68, .aload_n 0, 0, 0, 0, 0, 0), (69, .aload_n 0, 0, 0, 0, 0, 0), (70, .getfield 7, 12, 0, 1576, 0, 0), (73, .bipush 8, 0, 0, 0, 8, 0), (75, .iaload, 0, 0, 0, 0, 0)]
theorem oX12_comes_55 : bX12_comes_55.all (mz_ok RX12 cX12_comes 3) = true := by decide +kernel
def bX12_comes_44 : List mz_E := [(44, .iconst 0, 0, 0, 0, 0, 0)]
theorem oX12_comes_44 : bX12_comes_44.all (mz_ok RX12 cX12_comes 3) = true := by decide +kernel
abbrev IX12_comes : mz_I := (yX12_comes, cX12_comes, 3, (some .int), 0, 1, 0, 0)
theorem kX12_comes : mz_okm IX12_comes 2171 141 2169 2 = true := by decide +kernel
theorem vX12_comes : mz_okV IX12_comes 2169 2170 = true := by decide +kernel
def fX12_comes_45 (x1 : Int32) (s0 : Int32) (s1 : Int32) (D : mz_D) : Option (Int32 × mz_D) := (if s1 = s0 then (some ((-1 : Int32), (mz_wi D 0 200 2 (7 : Int32)))) else (Option.bind (fX12_bits ((mz_wi D 0 201 ((8 : Int32)).toNatClampNeg ((D.1 0 201 ((8 : Int32)).toNatClampNeg) ^^^ ((1 : Int32) <<< (x1 &&& 31)))).1 0 201 ((8 : Int32)).toNatClampNeg)) fun q2 => (some (q2, (mz_wi (mz_wi D 0 201 ((8 : Int32)).toNatClampNeg ((D.1 0 201 ((8 : Int32)).toNatClampNeg) ^^^ ((1 : Int32) <<< (x1 &&& 31)))) 0 200 2 (0 : Int32))))))
set_option maxHeartbeats 4000000 in
theorem tX12_comes_45 (r : (Int32 × mz_D)) : ∀ (x1 : Int32) (s0 : Int32) (s1 : Int32) (D : mz_D), fX12_comes_45 x1 s0 s1 D = some r → mz_Go IX12_comes (some (.inl r.1), r.2) 0 0 (45, [some (.inr (.inr (some (0, 200)))), some (.inl x1), none], [.inl s0, .inl s1], D) := by
  intro x1 s0 s1 D h
  rw [fX12_comes_45] at h
  refine mz_Go.run (gs := []) (st' := (if s1 = s0 then (48, [some (.inr (.inr (some (0, 200)))), some (.inl x1), none], [], D) else (55, [some (.inr (.inr (some (0, 200)))), some (.inl x1), none], [], D))) bX12_comes_45 oX12_comes_45 rfl trivial ?_
  refine mz_Go.ite (fun hc1 => ?_) (fun hc1 => ?_)
  · have h := mz_ifp hc1 h
    refine mz_Go.run (gs := []) (st' := (51, [some (.inr (.inr (some (0, 200)))), some (.inl x1), none], [.inl (7 : Int32), .inr (.inr (some (0, 200)))], D)) bX12_comes_48 oX12_comes_48 rfl trivial ?_
    refine mz_Go.callV (I := IX12_comes) (J := IX12_refuse) (as := [.inl (7 : Int32)]) (ci := 12) (g := 0) (o := 200) (idx := 75) (pl := 1761) (rest := []) (mX12_refuse (7 : Int32) D) kX12_refuse vX12_refuse (by decide +kernel) (by decide +kernel) (by decide +kernel) rfl rfl ⟨rfl, rfl⟩ rfl rfl rfl rfl ?_
    cases h
    exact mz_Go.reti (by decide +kernel) rfl ⟨Nat.le_refl _, Nat.le_refl _⟩ rfl
  · have h := mz_ifn hc1 h
    refine mz_Go.run (gs := [mz_kz 0 0 200, mz_kz 0 0 201, mz_ix (8 : Int32) 3000, mz_kz 0 0 201, mz_ix (8 : Int32) 3000, mz_kz 0 0 200, mz_kz 0 0 201, mz_ix (8 : Int32) 3000]) (st' := (76, [some (.inr (.inr (some (0, 200)))), some (.inl x1), none], [.inl ((mz_wi D 0 201 ((8 : Int32)).toNatClampNeg ((D.1 0 201 ((8 : Int32)).toNatClampNeg) ^^^ ((1 : Int32) <<< (x1 &&& 31)))).1 0 201 ((8 : Int32)).toNatClampNeg), .inr (.inr (some (0, 200)))], (mz_wi D 0 201 ((8 : Int32)).toNatClampNeg ((D.1 0 201 ((8 : Int32)).toNatClampNeg) ^^^ ((1 : Int32) <<< (x1 &&& 31)))))) bX12_comes_55 oX12_comes_55 rfl ⟨rfl, rfl, (by decide), rfl, (by decide), rfl, rfl, (by decide), trivial⟩ ?_
    obtain ⟨q2, hq2, h⟩ := mz_bd_some h
    refine mz_Go.callS (I := IX12_comes) (J := IX12_bits) (as := [.inl ((mz_wi D 0 201 ((8 : Int32)).toNatClampNeg ((D.1 0 201 ((8 : Int32)).toNatClampNeg) ^^^ ((1 : Int32) <<< (x1 &&& 31)))).1 0 201 ((8 : Int32)).toNatClampNeg)]) (idx := 254) (pl := 1888) (rest := [.inr (.inr (some (0, 200)))]) (mX12_bits ((mz_wi D 0 201 ((8 : Int32)).toNatClampNeg ((D.1 0 201 ((8 : Int32)).toNatClampNeg) ^^^ ((1 : Int32) <<< (x1 &&& 31)))).1 0 201 ((8 : Int32)).toNatClampNeg) (mz_wi D 0 201 ((8 : Int32)).toNatClampNeg ((D.1 0 201 ((8 : Int32)).toNatClampNeg) ^^^ ((1 : Int32) <<< (x1 &&& 31)))) q2 hq2) kX12_bits vX12_bits (by decide +kernel) (by decide +kernel) (by decide +kernel) rfl rfl ⟨rfl, rfl⟩ rfl ?_
    refine mz_Go.callV (I := IX12_comes) (J := IX12_gives) (as := [.inl q2]) (ci := 12) (g := 0) (o := 200) (idx := 79) (pl := 1844) (rest := []) (mX12_gives q2 (mz_wi D 0 201 ((8 : Int32)).toNatClampNeg ((D.1 0 201 ((8 : Int32)).toNatClampNeg) ^^^ ((1 : Int32) <<< (x1 &&& 31))))) kX12_gives vX12_gives (by decide +kernel) (by decide +kernel) (by decide +kernel) rfl rfl ⟨rfl, rfl⟩ rfl rfl rfl rfl ?_
    cases h
    exact mz_Go.reti (by decide +kernel) rfl ⟨Nat.le_refl _, Nat.le_refl _⟩ rfl
def fX12_comes (x1 : Int32) (x2 : Int32) (D : mz_D) : Option (Int32 × mz_D) := (if (fX12_isPerson x1 D) = 0 then (some ((-1 : Int32), (mz_wi D 0 200 2 (1 : Int32)))) else (if x2 < 0 then (some ((-1 : Int32), (mz_wi D 0 200 2 (1 : Int32)))) else (if x2 ≤ (1 : Int32) then (if x2 = (1 : Int32) then (fX12_comes_45 x1 (1 : Int32) (fX12_isIn (D.1 0 201 ((8 : Int32)).toNatClampNeg) x1) D) else (fX12_comes_45 x1 (0 : Int32) (fX12_isIn (D.1 0 201 ((8 : Int32)).toNatClampNeg) x1) D)) else (some ((-1 : Int32), (mz_wi D 0 200 2 (1 : Int32)))))))
set_option maxHeartbeats 4000000 in
theorem mX12_comes (x1 : Int32) (x2 : Int32) (D : mz_D) (r : (Int32 × mz_D)) (h : fX12_comes x1 x2 D = some r) : mz_Met IX12_comes [.inr (.inr (some (0, 200))), .inl x1, .inl x2] D (some (.inl r.1), r.2) := by
  refine mz_Met.of (by decide +kernel) (Nat.le_of_ble_eq_true rfl) ?_
  show mz_Go IX12_comes (some (.inl r.1), r.2) 0 0 (0, [some (.inr (.inr (some (0, 200)))), some (.inl x1), some (.inl x2)], [], D)
  rw [fX12_comes] at h
  refine mz_Go.run (gs := []) (st' := (2, [some (.inr (.inr (some (0, 200)))), some (.inl x1), some (.inl x2)], [.inl x1, .inr (.inr (some (0, 200)))], D)) bX12_comes_0 oX12_comes_0 rfl trivial ?_
  refine mz_Go.callV (I := IX12_comes) (J := IX12_isPerson) (as := [.inl x1]) (ci := 12) (g := 0) (o := 200) (idx := 248) (pl := 1902) (rest := []) (mX12_isPerson x1 D _ rfl) kX12_isPerson vX12_isPerson (by decide +kernel) (by decide +kernel) (by decide +kernel) rfl rfl ⟨rfl, rfl⟩ rfl rfl rfl rfl ?_
  refine mz_Go.run (gs := []) (st' := (if (fX12_isPerson x1 D) = 0 then (17, [some (.inr (.inr (some (0, 200)))), some (.inl x1), some (.inl x2)], [], D) else (8, [some (.inr (.inr (some (0, 200)))), some (.inl x1), some (.inl x2)], [], D))) bX12_comes_5 oX12_comes_5 rfl trivial ?_
  refine mz_Go.ite (fun hc1 => ?_) (fun hc1 => ?_)
  · have h := mz_ifp hc1 h
    refine mz_Go.run (gs := []) (st' := (19, [some (.inr (.inr (some (0, 200)))), some (.inl x1), some (.inl x2)], [.inl (1 : Int32), .inr (.inr (some (0, 200)))], D)) bX12_comes_17 oX12_comes_17 rfl trivial ?_
    refine mz_Go.callV (I := IX12_comes) (J := IX12_refuse) (as := [.inl (1 : Int32)]) (ci := 12) (g := 0) (o := 200) (idx := 75) (pl := 1761) (rest := []) (mX12_refuse (1 : Int32) D) kX12_refuse vX12_refuse (by decide +kernel) (by decide +kernel) (by decide +kernel) rfl rfl ⟨rfl, rfl⟩ rfl rfl rfl rfl ?_
    cases h
    exact mz_Go.reti (by decide +kernel) rfl ⟨Nat.le_refl _, Nat.le_refl _⟩ rfl
  · have h := mz_ifn hc1 h
    refine mz_Go.run (gs := []) (st' := (if x2 < 0 then (17, [some (.inr (.inr (some (0, 200)))), some (.inl x1), some (.inl x2)], [], D) else (12, [some (.inr (.inr (some (0, 200)))), some (.inl x1), some (.inl x2)], [], D))) bX12_comes_8 oX12_comes_8 rfl trivial ?_
    refine mz_Go.ite (fun hc2 => ?_) (fun hc2 => ?_)
    · have h := mz_ifp hc2 h
      refine mz_Go.run (gs := []) (st' := (19, [some (.inr (.inr (some (0, 200)))), some (.inl x1), some (.inl x2)], [.inl (1 : Int32), .inr (.inr (some (0, 200)))], D)) bX12_comes_17 oX12_comes_17 rfl trivial ?_
      refine mz_Go.callV (I := IX12_comes) (J := IX12_refuse) (as := [.inl (1 : Int32)]) (ci := 12) (g := 0) (o := 200) (idx := 75) (pl := 1761) (rest := []) (mX12_refuse (1 : Int32) D) kX12_refuse vX12_refuse (by decide +kernel) (by decide +kernel) (by decide +kernel) rfl rfl ⟨rfl, rfl⟩ rfl rfl rfl rfl ?_
      cases h
      exact mz_Go.reti (by decide +kernel) rfl ⟨Nat.le_refl _, Nat.le_refl _⟩ rfl
    · have h := mz_ifn hc2 h
      refine mz_Go.run (gs := []) (st' := (if x2 ≤ (1 : Int32) then (23, [some (.inr (.inr (some (0, 200)))), some (.inl x1), some (.inl x2)], [], D) else (17, [some (.inr (.inr (some (0, 200)))), some (.inl x1), some (.inl x2)], [], D))) bX12_comes_12 oX12_comes_12 rfl trivial ?_
      refine mz_Go.ite (fun hc3 => ?_) (fun hc3 => ?_)
      · have h := mz_ifp hc3 h
        refine mz_Go.run (gs := [mz_kz 0 0 200, mz_kz 0 0 201, mz_ix (8 : Int32) 3000]) (st' := (32, [some (.inr (.inr (some (0, 200)))), some (.inl x1), some (.inl x2)], [.inl x1, .inl (D.1 0 201 ((8 : Int32)).toNatClampNeg), .inr (.inr (some (0, 200)))], D)) bX12_comes_23 oX12_comes_23 rfl ⟨rfl, rfl, (by decide), trivial⟩ ?_
        refine mz_Go.callV (I := IX12_comes) (J := IX12_isIn) (as := [.inl (D.1 0 201 ((8 : Int32)).toNatClampNeg), .inl x1]) (ci := 12) (g := 0) (o := 200) (idx := 270) (pl := 1944) (rest := []) (mX12_isIn (D.1 0 201 ((8 : Int32)).toNatClampNeg) x1 D _ rfl) kX12_isIn vX12_isIn (by decide +kernel) (by decide +kernel) (by decide +kernel) rfl rfl ⟨rfl, rfl⟩ rfl rfl rfl rfl ?_
        refine mz_Go.run (gs := []) (st' := (if x2 = (1 : Int32) then (40, [some (.inr (.inr (some (0, 200)))), some (.inl x1), some (.inl x2)], [.inl (fX12_isIn (D.1 0 201 ((8 : Int32)).toNatClampNeg) x1)], D) else (44, [some (.inr (.inr (some (0, 200)))), some (.inl x1), some (.inl x2)], [.inl (fX12_isIn (D.1 0 201 ((8 : Int32)).toNatClampNeg) x1)], D))) bX12_comes_35 oX12_comes_35 rfl trivial ?_
        refine mz_Go.ite (fun hc4 => ?_) (fun hc4 => ?_)
        · have h := mz_ifp hc4 h
          refine mz_Go.run (gs := []) (st' := (45, [some (.inr (.inr (some (0, 200)))), some (.inl x1), some (.inl x2)], [.inl (1 : Int32), .inl (fX12_isIn (D.1 0 201 ((8 : Int32)).toNatClampNeg) x1)], D)) bX12_comes_40 oX12_comes_40 rfl trivial ?_
          exact mz_Go.drop [true, true, false] (tX12_comes_45 r x1 (1 : Int32) (fX12_isIn (D.1 0 201 ((8 : Int32)).toNatClampNeg) x1) D h)
        · have h := mz_ifn hc4 h
          refine mz_Go.run (gs := []) (st' := (45, [some (.inr (.inr (some (0, 200)))), some (.inl x1), some (.inl x2)], [.inl (0 : Int32), .inl (fX12_isIn (D.1 0 201 ((8 : Int32)).toNatClampNeg) x1)], D)) bX12_comes_44 oX12_comes_44 rfl trivial ?_
          exact mz_Go.drop [true, true, false] (tX12_comes_45 r x1 (0 : Int32) (fX12_isIn (D.1 0 201 ((8 : Int32)).toNatClampNeg) x1) D h)
      · have h := mz_ifn hc3 h
        refine mz_Go.run (gs := []) (st' := (19, [some (.inr (.inr (some (0, 200)))), some (.inl x1), some (.inl x2)], [.inl (1 : Int32), .inr (.inr (some (0, 200)))], D)) bX12_comes_17 oX12_comes_17 rfl trivial ?_
        refine mz_Go.callV (I := IX12_comes) (J := IX12_refuse) (as := [.inl (1 : Int32)]) (ci := 12) (g := 0) (o := 200) (idx := 75) (pl := 1761) (rest := []) (mX12_refuse (1 : Int32) D) kX12_refuse vX12_refuse (by decide +kernel) (by decide +kernel) (by decide +kernel) rfl rfl ⟨rfl, rfl⟩ rfl rfl rfl rfl ?_
        cases h
        exact mz_Go.reti (by decide +kernel) rfl ⟨Nat.le_refl _, Nat.le_refl _⟩ rfl
def bX12_drinksOf_0 : List mz_E := [(0, .aload_n 0, 0, 0, 0, 0, 0), (1, .getfield 7, 12, 0, 1576, 0, 0), (4, .iload_n 1, 0, 0, 0, 0, 0)]
theorem oX12_drinksOf_0 : bX12_drinksOf_0.all (mz_ok RX12 cX12_drinksOf 2) = true := by decide +kernel
def bX12_drinksOf_8 : List mz_E := [(8, .bipush 6, 0, 0, 0, 6, 0), (10, .iadd, 0, 0, 0, 0, 0), (11, .iaload, 0, 0, 0, 0, 0), (12, .aload_n 0, 0, 0, 0, 0, 0), (13, .getfield 7, 12, 0, 1576, 0, 0), (16, .iload_n 1, 0, 0, 0, 0, 0)]
theorem oX12_drinksOf_8 : bX12_drinksOf_8.all (mz_ok RX12 cX12_drinksOf 2) = true := by decide +kernel
def bX12_drinksOf_20 : List mz_E := [(20, .bipush 7, 0, 0, 0, 7, 0), (22, .iadd, 0, 0, 0, 0, 0), (23, .iaload, 0, 0, 0, 0, 0), (24, .isub, 0, 0, 0, 0, 0)]
theorem oX12_drinksOf_20 : bX12_drinksOf_20.all (mz_ok RX12 cX12_drinksOf 2) = true := by decide +kernel
abbrev IX12_drinksOf : mz_I := (yX12_drinksOf, cX12_drinksOf, 2, (some .int), 0, 1, 0, 0)
theorem kX12_drinksOf : mz_okm IX12_drinksOf 2183 141 2182 1 = true := by decide +kernel
theorem vX12_drinksOf : mz_okV IX12_drinksOf 2182 111 = true := by decide +kernel
def fX12_drinksOf (x1 : Int32) (D : mz_D) : Option Int32 := (mz_gd (mz_ix (((12 : Int32) + ((8 : Int32) * x1)) + (6 : Int32)) 3000) (mz_gd (mz_ix (((12 : Int32) + ((8 : Int32) * x1)) + (7 : Int32)) 3000) (some ((D.1 0 201 ((((12 : Int32) + ((8 : Int32) * x1)) + (6 : Int32))).toNatClampNeg) - (D.1 0 201 ((((12 : Int32) + ((8 : Int32) * x1)) + (7 : Int32))).toNatClampNeg)))))
set_option maxHeartbeats 4000000 in
theorem mX12_drinksOf (x1 : Int32) (D : mz_D) (r : Int32) (h : fX12_drinksOf x1 D = some r) : mz_Met IX12_drinksOf [.inr (.inr (some (0, 200))), .inl x1] D (some (.inl r), D) := by
  refine mz_Met.of (by decide +kernel) (Nat.le_of_ble_eq_true rfl) ?_
  show mz_Go IX12_drinksOf (some (.inl r), D) 0 0 (0, [some (.inr (.inr (some (0, 200)))), some (.inl x1)], [], D)
  rw [fX12_drinksOf] at h
  refine mz_Go.run (gs := [mz_kz 0 0 200]) (st' := (5, [some (.inr (.inr (some (0, 200)))), some (.inl x1)], [.inl x1, .inr (.inr (some (0, 201)))], D)) bX12_drinksOf_0 oX12_drinksOf_0 rfl ⟨rfl, trivial⟩ ?_
  refine mz_Go.callS (I := IX12_drinksOf) (J := IX12_personRow) (as := [.inl x1]) (idx := 267) (pl := 1895) (rest := [.inr (.inr (some (0, 201)))]) (mX12_personRow x1 D) kX12_personRow vX12_personRow (by decide +kernel) (by decide +kernel) (by decide +kernel) rfl rfl ⟨rfl, rfl⟩ rfl ?_
  obtain ⟨hb1, h⟩ := mz_gd_some h
  refine mz_Go.run (gs := [mz_kz 0 0 201, mz_ix (((12 : Int32) + ((8 : Int32) * x1)) + (6 : Int32)) 3000, mz_kz 0 0 200]) (st' := (17, [some (.inr (.inr (some (0, 200)))), some (.inl x1)], [.inl x1, .inr (.inr (some (0, 201))), .inl (D.1 0 201 ((((12 : Int32) + ((8 : Int32) * x1)) + (6 : Int32))).toNatClampNeg)], D)) bX12_drinksOf_8 oX12_drinksOf_8 rfl ⟨rfl, hb1, rfl, trivial⟩ ?_
  refine mz_Go.callS (I := IX12_drinksOf) (J := IX12_personRow) (as := [.inl x1]) (idx := 267) (pl := 1895) (rest := [.inr (.inr (some (0, 201))), .inl (D.1 0 201 ((((12 : Int32) + ((8 : Int32) * x1)) + (6 : Int32))).toNatClampNeg)]) (mX12_personRow x1 D) kX12_personRow vX12_personRow (by decide +kernel) (by decide +kernel) (by decide +kernel) rfl rfl ⟨rfl, rfl⟩ rfl ?_
  obtain ⟨hb2, h⟩ := mz_gd_some h
  refine mz_Go.run (gs := [mz_kz 0 0 201, mz_ix (((12 : Int32) + ((8 : Int32) * x1)) + (7 : Int32)) 3000]) (st' := (25, [some (.inr (.inr (some (0, 200)))), some (.inl x1)], [.inl ((D.1 0 201 ((((12 : Int32) + ((8 : Int32) * x1)) + (6 : Int32))).toNatClampNeg) - (D.1 0 201 ((((12 : Int32) + ((8 : Int32) * x1)) + (7 : Int32))).toNatClampNeg))], D)) bX12_drinksOf_20 oX12_drinksOf_20 rfl ⟨rfl, hb2, trivial⟩ ?_
  cases h
  exact mz_Go.reti (by decide +kernel) rfl ⟨Nat.le_refl _, Nat.le_refl _⟩ rfl
def bX12_buyer_0 : List mz_E := [(0, .iconst (-1), 0, 0, 0, -1, 0), (1, .istore_n 1, 0, 0, 0, 0, 0), (2, .iconst 0, 0, 0, 0, 0, 0), (3, .istore_n 2, 0, 0, 0, 0, 0)]
theorem oX12_buyer_0 : bX12_buyer_0.all (mz_ok RX12 cX12_buyer 3) = true := by decide +kernel
def bX12_buyer_4 : List mz_E := [(4, .iload_n 2, 0, 0, 0, 0, 0), (5, .aload_n 0, 0, 0, 0, 0, 0), (6, .getfield 7, 12, 0, 1576, 0, 0), (9, .iconst 0, 0, 0, 0, 0, 0), (10, .iaload, 0, 0, 0, 0, 0), (11, .if_icmp .ge 44, 0, 55, 0, 0, 0)]
theorem oX12_buyer_4 : bX12_buyer_4.all (mz_ok RX12 cX12_buyer 3) = true := by decide +kernel
def bX12_buyer_55 : List mz_E := [(55, .iload_n 1, 0, 0, 0, 0, 0)]
theorem oX12_buyer_55 : bX12_buyer_55.all (mz_ok RX12 cX12_buyer 3) = true := by decide +kernel
def bX12_buyer_14 : List mz_E := [(14, .aload_n 0, 0, 0, 0, 0, 0), (15, .aload_n 0, 0, 0, 0, 0, 0), (16, .getfield 7, 12, 0, 1576, 0, 0), (19, .bipush 8, 0, 0, 0, 8, 0), (21, .iaload, 0, 0, 0, 0, 0), (22, .iload_n 2, 0, 0, 0, 0, 0)]
theorem oX12_buyer_14 : bX12_buyer_14.all (mz_ok RX12 cX12_buyer 3) = true := by decide +kernel
def bX12_buyer_26 : List mz_E := [(26, .ifCond .eq 23, 0, 49, 0, 0, 0)]
theorem oX12_buyer_26 : bX12_buyer_26.all (mz_ok RX12 cX12_buyer 3) = true := by decide +kernel
def bX12_buyer_49 : List mz_E := [(49, .iinc 2 1, 0, 0, 0, 1, 0), (52, .goto (-48), 0, 4, 0, 0, 0)]
theorem oX12_buyer_49 : bX12_buyer_49.all (mz_ok RX12 cX12_buyer 3) = true := by decide +kernel
def bX12_buyer_29 : List mz_E := [(29, .iload_n 1, 0, 0, 0, 0, 0), (30, .iconst (-1), 0, 0, 0, -1, 0), (31, .if_icmp .eq 16, 0, 47, 0, 0, 0)]
theorem oX12_buyer_29 : bX12_buyer_29.all (mz_ok RX12 cX12_buyer 3) = true := by decide +kernel
def bX12_buyer_47 : List mz_E := [(47, .iload_n 2, 0, 0, 0, 0, 0), (48, .istore_n 1, 0, 0, 0, 0, 0), (49, .iinc 2 1, 0, 0, 0, 1, 0), (52, .goto (-48), 0, 4, 0, 0, 0)]
theorem oX12_buyer_47 : bX12_buyer_47.all (mz_ok RX12 cX12_buyer 3) = true := by decide +kernel
def bX12_buyer_34 : List mz_E := [(34, .aload_n 0, 0, 0, 0, 0, 0), (35, .iload_n 2, 0, 0, 0, 0, 0)]
theorem oX12_buyer_34 : bX12_buyer_34.all (mz_ok RX12 cX12_buyer 3) = true := by decide +kernel
def bX12_buyer_39 : List mz_E := [(39, .aload_n 0, 0, 0, 0, 0, 0), (40, .iload_n 1, 0, 0, 0, 0, 0)]
theorem oX12_buyer_39 : bX12_buyer_39.all (mz_ok RX12 cX12_buyer 3) = true := by decide +kernel
def bX12_buyer_44 : List mz_E := [(44, .if_icmp .le 5, 0, 49, 0, 0, 0)]
theorem oX12_buyer_44 : bX12_buyer_44.all (mz_ok RX12 cX12_buyer 3) = true := by decide +kernel
abbrev IX12_buyer : mz_I := (yX12_buyer, cX12_buyer, 3, (some .int), 0, 2, 0, 0)
theorem kX12_buyer : mz_okm IX12_buyer 2179 141 2178 0 = true := by decide +kernel
theorem vX12_buyer : mz_okV IX12_buyer 2178 110 = true := by decide +kernel
def fX12_buyer_47 (D : mz_D) (k4 : Int32 → Int32 → Option Int32) (x2 : Int32) : Option Int32 := (k4 x2 (x2 + (1 : Int32)))
set_option maxHeartbeats 4000000 in
theorem tX12_buyer_47 (D : mz_D) (r : Int32) (k4 : Int32 → Int32 → Option Int32) (hk4 : ∀ (x1 : Int32) (x2 : Int32), k4 x1 x2 = some r → mz_Go IX12_buyer (some (.inl r), D) 0 0 (4, [some (.inr (.inr (some (0, 200)))), some (.inl x1), some (.inl x2)], [], D)) : ∀ (x2 : Int32), fX12_buyer_47 D k4 x2 = some r → mz_Go IX12_buyer (some (.inl r), D) 0 0 (47, [some (.inr (.inr (some (0, 200)))), none, some (.inl x2)], [], D) := by
  intro x2 h
  rw [fX12_buyer_47] at h
  refine mz_Go.run (gs := []) (st' := (4, [some (.inr (.inr (some (0, 200)))), some (.inl x2), some (.inl (x2 + (1 : Int32)))], [], D)) bX12_buyer_47 oX12_buyer_47 rfl trivial ?_
  exact mz_Go.drop [true, true, true] (hk4 x2 (x2 + (1 : Int32)) h)
def fX12_buyer_4 (D : mz_D) : Nat → Int32 → Int32 → Option Int32
  | 0 => fun _ _ => none
  | n + 1 => fun x1 x2 => (if (D.1 0 201 ((0 : Int32)).toNatClampNeg) ≤ x2 then (some x1) else (if (fX12_isIn (D.1 0 201 ((8 : Int32)).toNatClampNeg) x2) = 0 then ((fX12_buyer_4 D n) x1 (x2 + (1 : Int32))) else (if x1 = (-1 : Int32) then (fX12_buyer_47 D (fX12_buyer_4 D n) x2) else (Option.bind (fX12_drinksOf x2 D) fun q4 => (Option.bind (fX12_drinksOf x1 D) fun q5 => (if q4 ≤ q5 then ((fX12_buyer_4 D n) x1 (x2 + (1 : Int32))) else (fX12_buyer_47 D (fX12_buyer_4 D n) x2)))))))
set_option maxHeartbeats 4000000 in
theorem tX12_buyer_4 (D : mz_D) (r : Int32) : ∀ (n : Nat) (x1 : Int32) (x2 : Int32), fX12_buyer_4 D n x1 x2 = some r → mz_Go IX12_buyer (some (.inl r), D) 0 0 (4, [some (.inr (.inr (some (0, 200)))), some (.inl x1), some (.inl x2)], [], D) := by
  intro n
  induction n with
  | zero => intro x1 x2 h; have h : (none : Option Int32) = some r := h; cases h
  | succ n ih =>
    intro x1 x2 h
    rw [fX12_buyer_4] at h
    refine mz_Go.run (gs := [mz_kz 0 0 200, mz_kz 0 0 201, mz_ix (0 : Int32) 3000]) (st' := (if (D.1 0 201 ((0 : Int32)).toNatClampNeg) ≤ x2 then (55, [some (.inr (.inr (some (0, 200)))), some (.inl x1), some (.inl x2)], [], D) else (14, [some (.inr (.inr (some (0, 200)))), some (.inl x1), some (.inl x2)], [], D))) bX12_buyer_4 oX12_buyer_4 rfl ⟨rfl, rfl, (by decide), trivial⟩ ?_
    refine mz_Go.ite (fun hc1 => ?_) (fun hc1 => ?_)
    · have h := mz_ifp hc1 h
      refine mz_Go.run (gs := []) (st' := (56, [some (.inr (.inr (some (0, 200)))), some (.inl x1), some (.inl x2)], [.inl x1], D)) bX12_buyer_55 oX12_buyer_55 rfl trivial ?_
      cases h
      exact mz_Go.reti (by decide +kernel) rfl ⟨Nat.le_refl _, Nat.le_refl _⟩ rfl
    · have h := mz_ifn hc1 h
      refine mz_Go.run (gs := [mz_kz 0 0 200, mz_kz 0 0 201, mz_ix (8 : Int32) 3000]) (st' := (23, [some (.inr (.inr (some (0, 200)))), some (.inl x1), some (.inl x2)], [.inl x2, .inl (D.1 0 201 ((8 : Int32)).toNatClampNeg), .inr (.inr (some (0, 200)))], D)) bX12_buyer_14 oX12_buyer_14 rfl ⟨rfl, rfl, (by decide), trivial⟩ ?_
      refine mz_Go.callV (I := IX12_buyer) (J := IX12_isIn) (as := [.inl (D.1 0 201 ((8 : Int32)).toNatClampNeg), .inl x2]) (ci := 12) (g := 0) (o := 200) (idx := 270) (pl := 1944) (rest := []) (mX12_isIn (D.1 0 201 ((8 : Int32)).toNatClampNeg) x2 D _ rfl) kX12_isIn vX12_isIn (by decide +kernel) (by decide +kernel) (by decide +kernel) rfl rfl ⟨rfl, rfl⟩ rfl rfl rfl rfl ?_
      refine mz_Go.run (gs := []) (st' := (if (fX12_isIn (D.1 0 201 ((8 : Int32)).toNatClampNeg) x2) = 0 then (49, [some (.inr (.inr (some (0, 200)))), some (.inl x1), some (.inl x2)], [], D) else (29, [some (.inr (.inr (some (0, 200)))), some (.inl x1), some (.inl x2)], [], D))) bX12_buyer_26 oX12_buyer_26 rfl trivial ?_
      refine mz_Go.ite (fun hc2 => ?_) (fun hc2 => ?_)
      · have h := mz_ifp hc2 h
        refine mz_Go.run (gs := []) (st' := (4, [some (.inr (.inr (some (0, 200)))), some (.inl x1), some (.inl (x2 + (1 : Int32)))], [], D)) bX12_buyer_49 oX12_buyer_49 rfl trivial ?_
        exact mz_Go.drop [true, true, true] (ih x1 (x2 + (1 : Int32)) h)
      · have h := mz_ifn hc2 h
        refine mz_Go.run (gs := []) (st' := (if x1 = (-1 : Int32) then (47, [some (.inr (.inr (some (0, 200)))), some (.inl x1), some (.inl x2)], [], D) else (34, [some (.inr (.inr (some (0, 200)))), some (.inl x1), some (.inl x2)], [], D))) bX12_buyer_29 oX12_buyer_29 rfl trivial ?_
        refine mz_Go.ite (fun hc3 => ?_) (fun hc3 => ?_)
        · have h := mz_ifp hc3 h
          exact mz_Go.drop [true, false, true] (tX12_buyer_47 D r (fX12_buyer_4 D n) ih x2 h)
        · have h := mz_ifn hc3 h
          refine mz_Go.run (gs := []) (st' := (36, [some (.inr (.inr (some (0, 200)))), some (.inl x1), some (.inl x2)], [.inl x2, .inr (.inr (some (0, 200)))], D)) bX12_buyer_34 oX12_buyer_34 rfl trivial ?_
          obtain ⟨q4, hq4, h⟩ := mz_bd_some h
          refine mz_Go.callV (I := IX12_buyer) (J := IX12_drinksOf) (as := [.inl x2]) (ci := 12) (g := 0) (o := 200) (idx := 383) (pl := 2180) (rest := []) (mX12_drinksOf x2 D q4 hq4) kX12_drinksOf vX12_drinksOf (by decide +kernel) (by decide +kernel) (by decide +kernel) rfl rfl ⟨rfl, rfl⟩ rfl rfl rfl rfl ?_
          refine mz_Go.run (gs := []) (st' := (41, [some (.inr (.inr (some (0, 200)))), some (.inl x1), some (.inl x2)], [.inl x1, .inr (.inr (some (0, 200))), .inl q4], D)) bX12_buyer_39 oX12_buyer_39 rfl trivial ?_
          obtain ⟨q5, hq5, h⟩ := mz_bd_some h
          refine mz_Go.callV (I := IX12_buyer) (J := IX12_drinksOf) (as := [.inl x1]) (ci := 12) (g := 0) (o := 200) (idx := 383) (pl := 2180) (rest := [.inl q4]) (mX12_drinksOf x1 D q5 hq5) kX12_drinksOf vX12_drinksOf (by decide +kernel) (by decide +kernel) (by decide +kernel) rfl rfl ⟨rfl, rfl⟩ rfl rfl rfl rfl ?_
          refine mz_Go.run (gs := []) (st' := (if q4 ≤ q5 then (49, [some (.inr (.inr (some (0, 200)))), some (.inl x1), some (.inl x2)], [], D) else (47, [some (.inr (.inr (some (0, 200)))), some (.inl x1), some (.inl x2)], [], D))) bX12_buyer_44 oX12_buyer_44 rfl trivial ?_
          refine mz_Go.ite (fun hc6 => ?_) (fun hc6 => ?_)
          · have h := mz_ifp hc6 h
            refine mz_Go.run (gs := []) (st' := (4, [some (.inr (.inr (some (0, 200)))), some (.inl x1), some (.inl (x2 + (1 : Int32)))], [], D)) bX12_buyer_49 oX12_buyer_49 rfl trivial ?_
            exact mz_Go.drop [true, true, true] (ih x1 (x2 + (1 : Int32)) h)
          · have h := mz_ifn hc6 h
            exact mz_Go.drop [true, false, true] (tX12_buyer_47 D r (fX12_buyer_4 D n) ih x2 h)
def fX12_buyer (D : mz_D) : Option Int32 := (fX12_buyer_4 D mz_N (-1 : Int32) (0 : Int32))
set_option maxHeartbeats 4000000 in
theorem mX12_buyer (D : mz_D) (r : Int32) (h : fX12_buyer D = some r) : mz_Met IX12_buyer [.inr (.inr (some (0, 200)))] D (some (.inl r), D) := by
  refine mz_Met.of (by decide +kernel) (Nat.le_of_ble_eq_true rfl) ?_
  show mz_Go IX12_buyer (some (.inl r), D) 0 0 (0, [some (.inr (.inr (some (0, 200)))), none, none], [], D)
  rw [fX12_buyer] at h
  refine mz_Go.run (gs := []) (st' := (4, [some (.inr (.inr (some (0, 200)))), some (.inl (-1 : Int32)), some (.inl (0 : Int32))], [], D)) bX12_buyer_0 oX12_buyer_0 rfl trivial ?_
  exact mz_Go.drop [true, true, true] (tX12_buyer_4 D r mz_N (-1 : Int32) (0 : Int32) h)
def bX12_buys_0 : List mz_E := [(0, .aload_n 0, 0, 0, 0, 0, 0), (1, .aload_n 0, 0, 0, 0, 0, 0)]
theorem oX12_buys_0 : bX12_buys_0.all (mz_ok RX12 cX12_buys 1) = true := by decide +kernel
abbrev IX12_buys : mz_I := (yX12_buys, cX12_buys, 1, (some .int), 0, 3, 0, 0)
theorem kX12_buys : mz_okm IX12_buys 2175 141 2173 0 = true := by decide +kernel
theorem vX12_buys : mz_okV IX12_buys 2173 2174 = true := by decide +kernel
def fX12_buys (D : mz_D) : Option (Int32 × mz_D) := (Option.bind (fX12_buyer D) fun q1 => (Option.bind (fX12_orNone q1 D) fun q2 => (some (q2.1, q2.2))))
set_option maxHeartbeats 4000000 in
theorem mX12_buys (D : mz_D) (r : (Int32 × mz_D)) (h : fX12_buys D = some r) : mz_Met IX12_buys [.inr (.inr (some (0, 200)))] D (some (.inl r.1), r.2) := by
  refine mz_Met.of (by decide +kernel) (Nat.le_of_ble_eq_true rfl) ?_
  show mz_Go IX12_buys (some (.inl r.1), r.2) 0 0 (0, [some (.inr (.inr (some (0, 200))))], [], D)
  rw [fX12_buys] at h
  refine mz_Go.run (gs := []) (st' := (2, [some (.inr (.inr (some (0, 200))))], [.inr (.inr (some (0, 200))), .inr (.inr (some (0, 200)))], D)) bX12_buys_0 oX12_buys_0 rfl trivial ?_
  obtain ⟨q1, hq1, h⟩ := mz_bd_some h
  refine mz_Go.callV (I := IX12_buys) (J := IX12_buyer) (as := []) (ci := 12) (g := 0) (o := 200) (idx := 386) (pl := 2176) (rest := [.inr (.inr (some (0, 200)))]) (mX12_buyer D q1 hq1) kX12_buyer vX12_buyer (by decide +kernel) (by decide +kernel) (by decide +kernel) rfl rfl ⟨rfl, rfl⟩ rfl rfl rfl rfl ?_
  obtain ⟨q2, hq2, h⟩ := mz_bd_some h
  refine mz_Go.callV (I := IX12_buys) (J := IX12_orNone) (as := [.inl q1]) (ci := 12) (g := 0) (o := 200) (idx := 291) (pl := 1906) (rest := []) (mX12_orNone q1 D q2 hq2) kX12_orNone vX12_orNone (by decide +kernel) (by decide +kernel) (by decide +kernel) rfl rfl ⟨rfl, rfl⟩ rfl rfl rfl rfl ?_
  cases h
  exact mz_Go.reti (by decide +kernel) rfl ⟨Nat.le_refl _, Nat.le_refl _⟩ rfl
def bX12_rounds_0 : List mz_E := [(0, .aload_n 0, 0, 0, 0, 0, 0)]
theorem oX12_rounds_0 : bX12_rounds_0.all (mz_ok RX12 cX12_rounds 3) = true := by decide +kernel
def bX12_rounds_4 : List mz_E := [(4, .istore_n 1, 0, 0, 0, 0, 0), (5, .iload_n 1, 0, 0, 0, 0, 0), (6, .iconst (-1), 0, 0, 0, -1, 0), (7, .if_icmp .ne 5, 0, 12, 0, 0, 0)]
theorem oX12_rounds_4 : bX12_rounds_4.all (mz_ok RX12 cX12_rounds 3) = true := by decide +kernel
def bX12_rounds_10 : List mz_E := [(10, .iconst (-1), 0, 0, 0, -1, 0)]
theorem oX12_rounds_10 : bX12_rounds_10.all (mz_ok RX12 cX12_rounds 3) = true := by decide +kernel
def bX12_rounds_12 : List mz_E := [(12, .iconst 0, 0, 0, 0, 0, 0), (13, .istore_n 2, 0, 0, 0, 0, 0)]
theorem oX12_rounds_12 : bX12_rounds_12.all (mz_ok RX12 cX12_rounds 3) = true := by decide +kernel
def bX12_rounds_14 : List mz_E := [(14, .iload_n 2, 0, 0, 0, 0, 0), (15, .aload_n 0, 0, 0, 0, 0, 0), (16, .getfield 7, 12, 0, 1576, 0, 0), (19, .iconst 0, 0, 0, 0, 0, 0), (20, .iaload, 0, 0, 0, 0, 0), (21, .if_icmp .ge 35, 0, 56, 0, 0, 0)]
theorem oX12_rounds_14 : bX12_rounds_14.all (mz_ok RX12 cX12_rounds 3) = true := by decide +kernel
def bX12_rounds_56 : List mz_E := [(56, .aload_n 0, 0, 0, 0, 0, 0), (57, .getfield 7, 12, 0, 1576, 0, 0), (60, .iload_n 1, 0, 0, 0, 0, 0)]
theorem oX12_rounds_56 : bX12_rounds_56.all (mz_ok RX12 cX12_rounds 3) = true := by decide +kernel
def bX12_rounds_64 : List mz_E := [(64, .bipush 7, 0, 0, 0, 7, 0), (66, .iadd, 0, 0, 0, 0, 0), (67, .dup2, 0, 0, 0, 0, 0), (68, .iaload, 0, 0, 0, 0, 0), (69, .aload_n 0, 0, 0, 0, 0, 0), (70, .getfield 7, 12, 0, 1576, 0, 0), (73, .bipush 8, 0, 0, 0, 8, 0), (75, .iaload, 0, 0, 0, 0, 0)]
theorem oX12_rounds_64 : bX12_rounds_64.all (mz_ok RX12 cX12_rounds 3) = true := by decide +kernel
def bX12_rounds_79 : List mz_E := [(79, .iadd, 0, 0, 0, 0, 0), (80, .iastore, 0, 0, 0, 0, 0), (81, .aload_n 0, 0, 0, 0, 0, 0), (82, .getfield 7, 12, 0, 1576, 0, 0), (85, .iconst 5, 0, 0, 0, 5, 0), (86, .dup2, 0, 0, 0, 0, 0), (87, .iaload, 0, 0, 0, 0, 0), (88, .iconst 1, 0, 0, 0, 1, 0), (89, .iadd, 0, 0, 0, 0, 0), (90, .iastore, 0, 0, 0, 0, 0), (91, .iload_n 1, 0, 0, 0, 0, 0)]
theorem oX12_rounds_79 : bX12_rounds_79.all (mz_ok RX12 cX12_rounds 3) = true := by decide +kernel
def bX12_rounds_24 : List mz_E := [(24, .aload_n 0, 0, 0, 0, 0, 0), (25, .getfield 7, 12, 0, 1576, 0, 0), (28, .iload_n 2, 0, 0, 0, 0, 0)]
theorem oX12_rounds_24 : bX12_rounds_24.all (mz_ok RX12 cX12_rounds 3) = true := by decide +kernel
def bX12_rounds_32 : List mz_E := [(32, .bipush 6, 0, 0, 0, 6, 0), (34, .iadd, 0, 0, 0, 0, 0), (35, .dup2, 0, 0, 0, 0, 0), (36, .iaload, 0, 0, 0, 0, 0), (37, .aload_n 0, 0, 0, 0, 0, 0), (38, .getfield 7, 12, 0, 1576, 0, 0), (41, .bipush 8, 0, 0, 0, 8, 0), (43, .iaload, 0, 0, 0, 0, 0), (44, .iload_n 2, 0, 0, 0, 0, 0), (45, .ishr, 0, 0, 0, 0, 0), (46, .iconst 1, 0, 0, 0, 1, 0), (47, .iand, 0, 0, 0, 0, 0), (48, .iadd, 0, 0, 0, 0, 0), (49, .iastore, 0, 0, 0, 0, 0), (50, .iinc 2 1, 0, 0, 0, 1, 0), (53, .goto (-39), 0, 14, 0, 0, 0)]
theorem oX12_rounds_32 : bX12_rounds_32.all (mz_ok RX12 cX12_rounds 3) = true := by decide +kernel
abbrev IX12_rounds : mz_I := (yX12_rounds, cX12_rounds, 3, (some .int), 0, 3, 0, 0)
theorem kX12_rounds : mz_okm IX12_rounds 2191 141 2190 0 = true := by decide +kernel
theorem vX12_rounds : mz_okV IX12_rounds 2190 112 = true := by decide +kernel
def fX12_rounds_14 : Nat → Int32 → Int32 → mz_D → Option (Int32 × mz_D)
  | 0 => fun _ _ _ => none
  | n + 1 => fun x1 x2 D => (if (D.1 0 201 ((0 : Int32)).toNatClampNeg) ≤ x2 then (mz_gd (mz_ix (((12 : Int32) + ((8 : Int32) * x1)) + (7 : Int32)) 3000) (Option.bind (fX12_bits (D.1 0 201 ((8 : Int32)).toNatClampNeg)) fun q3 => (some (x1, (mz_wi (mz_wi D 0 201 ((((12 : Int32) + ((8 : Int32) * x1)) + (7 : Int32))).toNatClampNeg ((D.1 0 201 ((((12 : Int32) + ((8 : Int32) * x1)) + (7 : Int32))).toNatClampNeg) + q3)) 0 201 ((5 : Int32)).toNatClampNeg (((mz_wi D 0 201 ((((12 : Int32) + ((8 : Int32) * x1)) + (7 : Int32))).toNatClampNeg ((D.1 0 201 ((((12 : Int32) + ((8 : Int32) * x1)) + (7 : Int32))).toNatClampNeg) + q3)).1 0 201 ((5 : Int32)).toNatClampNeg) + (1 : Int32))))))) else (mz_gd (mz_ix (((12 : Int32) + ((8 : Int32) * x2)) + (6 : Int32)) 3000) ((fX12_rounds_14 n) x1 (x2 + (1 : Int32)) (mz_wi D 0 201 ((((12 : Int32) + ((8 : Int32) * x2)) + (6 : Int32))).toNatClampNeg ((D.1 0 201 ((((12 : Int32) + ((8 : Int32) * x2)) + (6 : Int32))).toNatClampNeg) + (((D.1 0 201 ((8 : Int32)).toNatClampNeg) >>> (x2 &&& 31)) &&& (1 : Int32)))))))
set_option maxHeartbeats 4000000 in
theorem tX12_rounds_14 (r : (Int32 × mz_D)) : ∀ (n : Nat) (x1 : Int32) (x2 : Int32) (D : mz_D), fX12_rounds_14 n x1 x2 D = some r → mz_Go IX12_rounds (some (.inl r.1), r.2) 0 0 (14, [some (.inr (.inr (some (0, 200)))), some (.inl x1), some (.inl x2)], [], D) := by
  intro n
  induction n with
  | zero => intro x1 x2 D h; have h : (none : Option (Int32 × mz_D)) = some r := h; cases h
  | succ n ih =>
    intro x1 x2 D h
    rw [fX12_rounds_14] at h
    refine mz_Go.run (gs := [mz_kz 0 0 200, mz_kz 0 0 201, mz_ix (0 : Int32) 3000]) (st' := (if (D.1 0 201 ((0 : Int32)).toNatClampNeg) ≤ x2 then (56, [some (.inr (.inr (some (0, 200)))), some (.inl x1), some (.inl x2)], [], D) else (24, [some (.inr (.inr (some (0, 200)))), some (.inl x1), some (.inl x2)], [], D))) bX12_rounds_14 oX12_rounds_14 rfl ⟨rfl, rfl, (by decide), trivial⟩ ?_
    refine mz_Go.ite (fun hc1 => ?_) (fun hc1 => ?_)
    · have h := mz_ifp hc1 h
      refine mz_Go.run (gs := [mz_kz 0 0 200]) (st' := (61, [some (.inr (.inr (some (0, 200)))), some (.inl x1), some (.inl x2)], [.inl x1, .inr (.inr (some (0, 201)))], D)) bX12_rounds_56 oX12_rounds_56 rfl ⟨rfl, trivial⟩ ?_
      refine mz_Go.callS (I := IX12_rounds) (J := IX12_personRow) (as := [.inl x1]) (idx := 267) (pl := 1895) (rest := [.inr (.inr (some (0, 201)))]) (mX12_personRow x1 D) kX12_personRow vX12_personRow (by decide +kernel) (by decide +kernel) (by decide +kernel) rfl rfl ⟨rfl, rfl⟩ rfl ?_
      obtain ⟨hb2, h⟩ := mz_gd_some h
      refine mz_Go.run (gs := [mz_kz 0 0 201, mz_ix (((12 : Int32) + ((8 : Int32) * x1)) + (7 : Int32)) 3000, mz_kz 0 0 200, mz_kz 0 0 201, mz_ix (8 : Int32) 3000]) (st' := (76, [some (.inr (.inr (some (0, 200)))), some (.inl x1), some (.inl x2)], [.inl (D.1 0 201 ((8 : Int32)).toNatClampNeg), .inl (D.1 0 201 ((((12 : Int32) + ((8 : Int32) * x1)) + (7 : Int32))).toNatClampNeg), .inl (((12 : Int32) + ((8 : Int32) * x1)) + (7 : Int32)), .inr (.inr (some (0, 201)))], D)) bX12_rounds_64 oX12_rounds_64 rfl ⟨rfl, hb2, rfl, rfl, (by decide), trivial⟩ ?_
      obtain ⟨q3, hq3, h⟩ := mz_bd_some h
      refine mz_Go.callS (I := IX12_rounds) (J := IX12_bits) (as := [.inl (D.1 0 201 ((8 : Int32)).toNatClampNeg)]) (idx := 254) (pl := 1888) (rest := [.inl (D.1 0 201 ((((12 : Int32) + ((8 : Int32) * x1)) + (7 : Int32))).toNatClampNeg), .inl (((12 : Int32) + ((8 : Int32) * x1)) + (7 : Int32)), .inr (.inr (some (0, 201)))]) (mX12_bits (D.1 0 201 ((8 : Int32)).toNatClampNeg) D q3 hq3) kX12_bits vX12_bits (by decide +kernel) (by decide +kernel) (by decide +kernel) rfl rfl ⟨rfl, rfl⟩ rfl ?_
      refine mz_Go.run (gs := [mz_kz 0 0 201, mz_ix (((12 : Int32) + ((8 : Int32) * x1)) + (7 : Int32)) 3000, mz_kz 0 0 200, mz_kz 0 0 201, mz_ix (5 : Int32) 3000, mz_kz 0 0 201, mz_ix (5 : Int32) 3000]) (st' := (92, [some (.inr (.inr (some (0, 200)))), some (.inl x1), some (.inl x2)], [.inl x1], (mz_wi (mz_wi D 0 201 ((((12 : Int32) + ((8 : Int32) * x1)) + (7 : Int32))).toNatClampNeg ((D.1 0 201 ((((12 : Int32) + ((8 : Int32) * x1)) + (7 : Int32))).toNatClampNeg) + q3)) 0 201 ((5 : Int32)).toNatClampNeg (((mz_wi D 0 201 ((((12 : Int32) + ((8 : Int32) * x1)) + (7 : Int32))).toNatClampNeg ((D.1 0 201 ((((12 : Int32) + ((8 : Int32) * x1)) + (7 : Int32))).toNatClampNeg) + q3)).1 0 201 ((5 : Int32)).toNatClampNeg) + (1 : Int32))))) bX12_rounds_79 oX12_rounds_79 rfl ⟨rfl, hb2, rfl, rfl, (by decide), rfl, (by decide), trivial⟩ ?_
      cases h
      exact mz_Go.reti (by decide +kernel) rfl ⟨Nat.le_refl _, Nat.le_refl _⟩ rfl
    · have h := mz_ifn hc1 h
      refine mz_Go.run (gs := [mz_kz 0 0 200]) (st' := (29, [some (.inr (.inr (some (0, 200)))), some (.inl x1), some (.inl x2)], [.inl x2, .inr (.inr (some (0, 201)))], D)) bX12_rounds_24 oX12_rounds_24 rfl ⟨rfl, trivial⟩ ?_
      refine mz_Go.callS (I := IX12_rounds) (J := IX12_personRow) (as := [.inl x2]) (idx := 267) (pl := 1895) (rest := [.inr (.inr (some (0, 201)))]) (mX12_personRow x2 D) kX12_personRow vX12_personRow (by decide +kernel) (by decide +kernel) (by decide +kernel) rfl rfl ⟨rfl, rfl⟩ rfl ?_
      obtain ⟨hb4, h⟩ := mz_gd_some h
      refine mz_Go.run (gs := [mz_kz 0 0 201, mz_ix (((12 : Int32) + ((8 : Int32) * x2)) + (6 : Int32)) 3000, mz_kz 0 0 200, mz_kz 0 0 201, mz_ix (8 : Int32) 3000, mz_kz 0 0 201, mz_ix (((12 : Int32) + ((8 : Int32) * x2)) + (6 : Int32)) 3000]) (st' := (14, [some (.inr (.inr (some (0, 200)))), some (.inl x1), some (.inl (x2 + (1 : Int32)))], [], (mz_wi D 0 201 ((((12 : Int32) + ((8 : Int32) * x2)) + (6 : Int32))).toNatClampNeg ((D.1 0 201 ((((12 : Int32) + ((8 : Int32) * x2)) + (6 : Int32))).toNatClampNeg) + (((D.1 0 201 ((8 : Int32)).toNatClampNeg) >>> (x2 &&& 31)) &&& (1 : Int32)))))) bX12_rounds_32 oX12_rounds_32 rfl ⟨rfl, hb4, rfl, rfl, (by decide), rfl, hb4, trivial⟩ ?_
      exact mz_Go.drop [true, true, true] (ih x1 (x2 + (1 : Int32)) (mz_wi D 0 201 ((((12 : Int32) + ((8 : Int32) * x2)) + (6 : Int32))).toNatClampNeg ((D.1 0 201 ((((12 : Int32) + ((8 : Int32) * x2)) + (6 : Int32))).toNatClampNeg) + (((D.1 0 201 ((8 : Int32)).toNatClampNeg) >>> (x2 &&& 31)) &&& (1 : Int32)))) h)
def fX12_rounds (D : mz_D) : Option (Int32 × mz_D) := (Option.bind (fX12_buyer D) fun q1 => (if q1 = (-1 : Int32) then (some ((-1 : Int32), D)) else (fX12_rounds_14 mz_N q1 (0 : Int32) D)))
set_option maxHeartbeats 4000000 in
theorem mX12_rounds (D : mz_D) (r : (Int32 × mz_D)) (h : fX12_rounds D = some r) : mz_Met IX12_rounds [.inr (.inr (some (0, 200)))] D (some (.inl r.1), r.2) := by
  refine mz_Met.of (by decide +kernel) (Nat.le_of_ble_eq_true rfl) ?_
  show mz_Go IX12_rounds (some (.inl r.1), r.2) 0 0 (0, [some (.inr (.inr (some (0, 200)))), none, none], [], D)
  rw [fX12_rounds] at h
  refine mz_Go.run (gs := []) (st' := (1, [some (.inr (.inr (some (0, 200)))), none, none], [.inr (.inr (some (0, 200)))], D)) bX12_rounds_0 oX12_rounds_0 rfl trivial ?_
  obtain ⟨q1, hq1, h⟩ := mz_bd_some h
  refine mz_Go.callV (I := IX12_rounds) (J := IX12_buyer) (as := []) (ci := 12) (g := 0) (o := 200) (idx := 386) (pl := 2176) (rest := []) (mX12_buyer D q1 hq1) kX12_buyer vX12_buyer (by decide +kernel) (by decide +kernel) (by decide +kernel) rfl rfl ⟨rfl, rfl⟩ rfl rfl rfl rfl ?_
  refine mz_Go.run (gs := []) (st' := (if q1 = (-1 : Int32) then (10, [some (.inr (.inr (some (0, 200)))), some (.inl q1), none], [], D) else (12, [some (.inr (.inr (some (0, 200)))), some (.inl q1), none], [], D))) bX12_rounds_4 oX12_rounds_4 rfl trivial ?_
  refine mz_Go.ite (fun hc2 => ?_) (fun hc2 => ?_)
  · have h := mz_ifp hc2 h
    refine mz_Go.run (gs := []) (st' := (11, [some (.inr (.inr (some (0, 200)))), some (.inl q1), none], [.inl (-1 : Int32)], D)) bX12_rounds_10 oX12_rounds_10 rfl trivial ?_
    cases h
    exact mz_Go.reti (by decide +kernel) rfl ⟨Nat.le_refl _, Nat.le_refl _⟩ rfl
  · have h := mz_ifn hc2 h
    refine mz_Go.run (gs := []) (st' := (14, [some (.inr (.inr (some (0, 200)))), some (.inl q1), some (.inl (0 : Int32))], [], D)) bX12_rounds_12 oX12_rounds_12 rfl trivial ?_
    exact mz_Go.drop [true, true, true] (tX12_rounds_14 r mz_N q1 (0 : Int32) D h)
def bX12_round_0 : List mz_E := [(0, .aload_n 0, 0, 0, 0, 0, 0), (1, .aload_n 0, 0, 0, 0, 0, 0)]
theorem oX12_round_0 : bX12_round_0.all (mz_ok RX12 cX12_round 1) = true := by decide +kernel
abbrev IX12_round : mz_I := (yX12_round, cX12_round, 1, (some .int), 0, 4, 0, 0)
theorem kX12_round : mz_okm IX12_round 2187 141 2185 0 = true := by decide +kernel
theorem vX12_round : mz_okV IX12_round 2185 2186 = true := by decide +kernel
def fX12_round (D : mz_D) : Option (Int32 × mz_D) := (Option.bind (fX12_rounds D) fun q1 => (Option.bind (fX12_orNone q1.1 q1.2) fun q2 => (some (q2.1, q2.2))))
set_option maxHeartbeats 4000000 in
theorem mX12_round (D : mz_D) (r : (Int32 × mz_D)) (h : fX12_round D = some r) : mz_Met IX12_round [.inr (.inr (some (0, 200)))] D (some (.inl r.1), r.2) := by
  refine mz_Met.of (by decide +kernel) (Nat.le_of_ble_eq_true rfl) ?_
  show mz_Go IX12_round (some (.inl r.1), r.2) 0 0 (0, [some (.inr (.inr (some (0, 200))))], [], D)
  rw [fX12_round] at h
  refine mz_Go.run (gs := []) (st' := (2, [some (.inr (.inr (some (0, 200))))], [.inr (.inr (some (0, 200))), .inr (.inr (some (0, 200)))], D)) bX12_round_0 oX12_round_0 rfl trivial ?_
  obtain ⟨q1, hq1, h⟩ := mz_bd_some h
  refine mz_Go.callV (I := IX12_round) (J := IX12_rounds) (as := []) (ci := 12) (g := 0) (o := 200) (idx := 389) (pl := 2188) (rest := [.inr (.inr (some (0, 200)))]) (mX12_rounds D q1 hq1) kX12_rounds vX12_rounds (by decide +kernel) (by decide +kernel) (by decide +kernel) rfl rfl ⟨rfl, rfl⟩ rfl rfl rfl rfl ?_
  obtain ⟨q2, hq2, h⟩ := mz_bd_some h
  refine mz_Go.callV (I := IX12_round) (J := IX12_orNone) (as := [.inl q1.1]) (ci := 12) (g := 0) (o := 200) (idx := 291) (pl := 1906) (rest := []) (mX12_orNone q1.1 q1.2 q2 hq2) kX12_orNone vX12_orNone (by decide +kernel) (by decide +kernel) (by decide +kernel) rfl rfl ⟨rfl, rfl⟩ rfl rfl rfl rfl ?_
  cases h
  exact mz_Go.reti (by decide +kernel) rfl ⟨Nat.le_refl _, Nat.le_refl _⟩ rfl
def bX12_drinks_0 : List mz_E := [(0, .aload_n 0, 0, 0, 0, 0, 0), (1, .iload_n 1, 0, 0, 0, 0, 0)]
theorem oX12_drinks_0 : bX12_drinks_0.all (mz_ok RX12 cX12_drinks 2) = true := by decide +kernel
def bX12_drinks_5 : List mz_E := [(5, .ifCond .eq 15, 0, 20, 0, 0, 0)]
theorem oX12_drinks_5 : bX12_drinks_5.all (mz_ok RX12 cX12_drinks 2) = true := by decide +kernel
def bX12_drinks_20 : List mz_E := [(20, .aload_n 0, 0, 0, 0, 0, 0), (21, .iconst 1, 0, 0, 0, 1, 0)]
theorem oX12_drinks_20 : bX12_drinks_20.all (mz_ok RX12 cX12_drinks 2) = true := by decide +kernel
def bX12_drinks_8 : List mz_E := [(8, .aload_n 0, 0, 0, 0, 0, 0), (9, .aload_n 0, 0, 0, 0, 0, 0), (10, .iload_n 1, 0, 0, 0, 0, 0)]
theorem oX12_drinks_8 : bX12_drinks_8.all (mz_ok RX12 cX12_drinks 2) = true := by decide +kernel
def bX12_drinks_17 : List mz_E := [(17, .goto 8, 0, 25, 0, 0, 0)]
theorem oX12_drinks_17 : bX12_drinks_17.all (mz_ok RX12 cX12_drinks 2) = true := by decide +kernel
abbrev IX12_drinks : mz_I := (yX12_drinks, cX12_drinks, 2, (some .int), 0, 2, 0, 0)
theorem kX12_drinks : mz_okm IX12_drinks 2195 141 2193 1 = true := by decide +kernel
theorem vX12_drinks : mz_okV IX12_drinks 2193 2194 = true := by decide +kernel
def fX12_drinks (x1 : Int32) (D : mz_D) : Option (Int32 × mz_D) := (if (fX12_isPerson x1 D) = 0 then (some ((-1 : Int32), (mz_wi D 0 200 2 (1 : Int32)))) else (Option.bind (fX12_drinksOf x1 D) fun q2 => (some (q2, (mz_wi D 0 200 2 (0 : Int32))))))
set_option maxHeartbeats 4000000 in
theorem mX12_drinks (x1 : Int32) (D : mz_D) (r : (Int32 × mz_D)) (h : fX12_drinks x1 D = some r) : mz_Met IX12_drinks [.inr (.inr (some (0, 200))), .inl x1] D (some (.inl r.1), r.2) := by
  refine mz_Met.of (by decide +kernel) (Nat.le_of_ble_eq_true rfl) ?_
  show mz_Go IX12_drinks (some (.inl r.1), r.2) 0 0 (0, [some (.inr (.inr (some (0, 200)))), some (.inl x1)], [], D)
  rw [fX12_drinks] at h
  refine mz_Go.run (gs := []) (st' := (2, [some (.inr (.inr (some (0, 200)))), some (.inl x1)], [.inl x1, .inr (.inr (some (0, 200)))], D)) bX12_drinks_0 oX12_drinks_0 rfl trivial ?_
  refine mz_Go.callV (I := IX12_drinks) (J := IX12_isPerson) (as := [.inl x1]) (ci := 12) (g := 0) (o := 200) (idx := 248) (pl := 1902) (rest := []) (mX12_isPerson x1 D _ rfl) kX12_isPerson vX12_isPerson (by decide +kernel) (by decide +kernel) (by decide +kernel) rfl rfl ⟨rfl, rfl⟩ rfl rfl rfl rfl ?_
  refine mz_Go.run (gs := []) (st' := (if (fX12_isPerson x1 D) = 0 then (20, [some (.inr (.inr (some (0, 200)))), some (.inl x1)], [], D) else (8, [some (.inr (.inr (some (0, 200)))), some (.inl x1)], [], D))) bX12_drinks_5 oX12_drinks_5 rfl trivial ?_
  refine mz_Go.ite (fun hc1 => ?_) (fun hc1 => ?_)
  · have h := mz_ifp hc1 h
    refine mz_Go.run (gs := []) (st' := (22, [some (.inr (.inr (some (0, 200)))), some (.inl x1)], [.inl (1 : Int32), .inr (.inr (some (0, 200)))], D)) bX12_drinks_20 oX12_drinks_20 rfl trivial ?_
    refine mz_Go.callV (I := IX12_drinks) (J := IX12_refuse) (as := [.inl (1 : Int32)]) (ci := 12) (g := 0) (o := 200) (idx := 75) (pl := 1761) (rest := []) (mX12_refuse (1 : Int32) D) kX12_refuse vX12_refuse (by decide +kernel) (by decide +kernel) (by decide +kernel) rfl rfl ⟨rfl, rfl⟩ rfl rfl rfl rfl ?_
    cases h
    exact mz_Go.reti (by decide +kernel) rfl ⟨Nat.le_refl _, Nat.le_refl _⟩ rfl
  · have h := mz_ifn hc1 h
    refine mz_Go.run (gs := []) (st' := (11, [some (.inr (.inr (some (0, 200)))), some (.inl x1)], [.inl x1, .inr (.inr (some (0, 200))), .inr (.inr (some (0, 200)))], D)) bX12_drinks_8 oX12_drinks_8 rfl trivial ?_
    obtain ⟨q2, hq2, h⟩ := mz_bd_some h
    refine mz_Go.callV (I := IX12_drinks) (J := IX12_drinksOf) (as := [.inl x1]) (ci := 12) (g := 0) (o := 200) (idx := 383) (pl := 2180) (rest := [.inr (.inr (some (0, 200)))]) (mX12_drinksOf x1 D q2 hq2) kX12_drinksOf vX12_drinksOf (by decide +kernel) (by decide +kernel) (by decide +kernel) rfl rfl ⟨rfl, rfl⟩ rfl rfl rfl rfl ?_
    refine mz_Go.callV (I := IX12_drinks) (J := IX12_gives) (as := [.inl q2]) (ci := 12) (g := 0) (o := 200) (idx := 79) (pl := 1844) (rest := []) (mX12_gives q2 D) kX12_gives vX12_gives (by decide +kernel) (by decide +kernel) (by decide +kernel) rfl rfl ⟨rfl, rfl⟩ rfl rfl rfl rfl ?_
    refine mz_Go.run (gs := []) (st' := (25, [some (.inr (.inr (some (0, 200)))), some (.inl x1)], [.inl q2], (mz_wi D 0 200 2 (0 : Int32)))) bX12_drinks_17 oX12_drinks_17 rfl trivial ?_
    cases h
    exact mz_Go.reti (by decide +kernel) rfl ⟨Nat.le_refl _, Nat.le_refl _⟩ rfl
def bX12_evenRounds_0 : List mz_E := [(0, .aload_n 0, 0, 0, 0, 0, 0), (1, .getfield 7, 12, 0, 1576, 0, 0), (4, .bipush 8, 0, 0, 0, 8, 0), (6, .iaload, 0, 0, 0, 0, 0)]
theorem oX12_evenRounds_0 : bX12_evenRounds_0.all (mz_ok RX12 cX12_evenRounds 6) = true := by decide +kernel
def bX12_evenRounds_10 : List mz_E := [(10, .istore_n 1, 0, 0, 0, 0, 0), (11, .iload_n 1, 0, 0, 0, 0, 0), (12, .ifCond .ne 10, 0, 22, 0, 0, 0)]
theorem oX12_evenRounds_10 : bX12_evenRounds_10.all (mz_ok RX12 cX12_evenRounds 6) = true := by decide +kernel
def bX12_evenRounds_15 : List mz_E := [(15, .aload_n 0, 0, 0, 0, 0, 0), (16, .bipush 6, 0, 0, 0, 6, 0)]
theorem oX12_evenRounds_15 : bX12_evenRounds_15.all (mz_ok RX12 cX12_evenRounds 6) = true := by decide +kernel
def bX12_evenRounds_22 : List mz_E := [(22, .iconst 0, 0, 0, 0, 0, 0), (23, .istore_n 2, 0, 0, 0, 0, 0)]
theorem oX12_evenRounds_22 : bX12_evenRounds_22.all (mz_ok RX12 cX12_evenRounds 6) = true := by decide +kernel
def bX12_evenRounds_24 : List mz_E := [(24, .iload_n 2, 0, 0, 0, 0, 0), (25, .aload_n 0, 0, 0, 0, 0, 0), (26, .getfield 7, 12, 0, 1576, 0, 0), (29, .iconst 0, 0, 0, 0, 0, 0), (30, .iaload, 0, 0, 0, 0, 0), (31, .if_icmp .ge 20, 0, 51, 0, 0, 0)]
theorem oX12_evenRounds_24 : bX12_evenRounds_24.all (mz_ok RX12 cX12_evenRounds 6) = true := by decide +kernel
def bX12_evenRounds_51 : List mz_E := [(51, .iconst 0, 0, 0, 0, 0, 0), (52, .istore_n 2, 0, 0, 0, 0, 0)]
theorem oX12_evenRounds_51 : bX12_evenRounds_51.all (mz_ok RX12 cX12_evenRounds 6) = true := by decide +kernel
def bX12_evenRounds_53 : List mz_E := [(53, .iload_n 2, 0, 0, 0, 0, 0), (54, .bipush 60, 0, 0, 0, 60, 0), (56, .if_icmp .gt 173, 0, 229, 0, 0, 0)]
theorem oX12_evenRounds_53 : bX12_evenRounds_53.all (mz_ok RX12 cX12_evenRounds 6) = true := by decide +kernel
def bX12_evenRounds_229 : List mz_E := [(229, .aload_n 0, 0, 0, 0, 0, 0), (230, .bipush 6, 0, 0, 0, 6, 0)]
theorem oX12_evenRounds_229 : bX12_evenRounds_229.all (mz_ok RX12 cX12_evenRounds 6) = true := by decide +kernel
def bX12_evenRounds_59 : List mz_E := [(59, .iconst (-1), 0, 0, 0, -1, 0), (60, .istore_n 3, 0, 0, 0, 0, 0), (61, .iconst 1, 0, 0, 0, 1, 0), (62, .istore 4, 0, 0, 0, 0, 0), (64, .iconst 0, 0, 0, 0, 0, 0), (65, .istore 5, 0, 0, 0, 0, 0)]
theorem oX12_evenRounds_59 : bX12_evenRounds_59.all (mz_ok RX12 cX12_evenRounds 6) = true := by decide +kernel
def bX12_evenRounds_67 : List mz_E := [(67, .iload 5, 0, 0, 0, 0, 0), (69, .aload_n 0, 0, 0, 0, 0, 0), (70, .getfield 7, 12, 0, 1576, 0, 0), (73, .iconst 0, 0, 0, 0, 0, 0), (74, .iaload, 0, 0, 0, 0, 0), (75, .if_icmp .ge 85, 0, 160, 0, 0, 0)]
theorem oX12_evenRounds_67 : bX12_evenRounds_67.all (mz_ok RX12 cX12_evenRounds 6) = true := by decide +kernel
def bX12_evenRounds_160 : List mz_E := [(160, .iload 4, 0, 0, 0, 0, 0), (162, .ifCond .eq 9, 0, 171, 0, 0, 0)]
theorem oX12_evenRounds_160 : bX12_evenRounds_160.all (mz_ok RX12 cX12_evenRounds 6) = true := by decide +kernel
def bX12_evenRounds_171 : List mz_E := [(171, .iconst 0, 0, 0, 0, 0, 0), (172, .istore 5, 0, 0, 0, 0, 0)]
theorem oX12_evenRounds_171 : bX12_evenRounds_171.all (mz_ok RX12 cX12_evenRounds 6) = true := by decide +kernel
def bX12_evenRounds_174 : List mz_E := [(174, .iload 5, 0, 0, 0, 0, 0), (176, .aload_n 0, 0, 0, 0, 0, 0), (177, .getfield 7, 12, 0, 1576, 0, 0), (180, .iconst 0, 0, 0, 0, 0, 0), (181, .iaload, 0, 0, 0, 0, 0), (182, .if_icmp .ge 31, 0, 213, 0, 0, 0)]
theorem oX12_evenRounds_174 : bX12_evenRounds_174.all (mz_ok RX12 cX12_evenRounds 6) = true := by decide +kernel
def bX12_evenRounds_213 : List mz_E := [(213, .aload_n 0, 0, 0, 0, 0, 0), (214, .getfield 50, 12, 25, 1601, 0, 0), (217, .iload_n 3, 0, 0, 0, 0, 0), (218, .dup2, 0, 0, 0, 0, 0), (219, .iaload, 0, 0, 0, 0, 0), (220, .iload_n 1, 0, 0, 0, 0, 0), (221, .isub, 0, 0, 0, 0, 0), (222, .iastore, 0, 0, 0, 0, 0), (223, .iinc 2 1, 0, 0, 0, 1, 0), (226, .goto (-173), 0, 53, 0, 0, 0)]
theorem oX12_evenRounds_213 : bX12_evenRounds_213.all (mz_ok RX12 cX12_evenRounds 6) = true := by decide +kernel
def bX12_evenRounds_185 : List mz_E := [(185, .aload_n 0, 0, 0, 0, 0, 0), (186, .getfield 50, 12, 25, 1601, 0, 0), (189, .iload 5, 0, 0, 0, 0, 0), (191, .dup2, 0, 0, 0, 0, 0), (192, .iaload, 0, 0, 0, 0, 0), (193, .aload_n 0, 0, 0, 0, 0, 0), (194, .getfield 7, 12, 0, 1576, 0, 0), (197, .bipush 8, 0, 0, 0, 8, 0), (199, .iaload, 0, 0, 0, 0, 0), (200, .iload 5, 0, 0, 0, 0, 0), (202, .ishr, 0, 0, 0, 0, 0), (203, .iconst 1, 0, 0, 0, 1, 0), (204, .iand, 0, 0, 0, 0, 0), (205, .iadd, 0, 0, 0, 0, 0), (206, .iastore, 0, 0, 0, 0, 0), (207, .iinc 5 1, 0, 0, 0, 1, 0), (210, .goto (-36), 0, 174, 0, 0, 0)]
theorem oX12_evenRounds_185 : bX12_evenRounds_185.all (mz_ok RX12 cX12_evenRounds 6) = true := by decide +kernel
def bX12_evenRounds_165 : List mz_E := [(165, .aload_n 0, 0, 0, 0, 0, 0), (166, .iload_n 2, 0, 0, 0, 0, 0)]
theorem oX12_evenRounds_165 : bX12_evenRounds_165.all (mz_ok RX12 cX12_evenRounds 6) = true := by decide +kernel
def bX12_evenRounds_78 : List mz_E := [(78, .aload_n 0, 0, 0, 0, 0, 0), (79, .aload_n 0, 0, 0, 0, 0, 0), (80, .getfield 7, 12, 0, 1576, 0, 0), (83, .bipush 8, 0, 0, 0, 8, 0), (85, .iaload, 0, 0, 0, 0, 0), (86, .iload 5, 0, 0, 0, 0, 0)]
theorem oX12_evenRounds_78 : bX12_evenRounds_78.all (mz_ok RX12 cX12_evenRounds 6) = true := by decide +kernel
def bX12_evenRounds_91 : List mz_E := [(91, .ifCond .ne 6, 0, 97, 0, 0, 0)]
theorem oX12_evenRounds_91 : bX12_evenRounds_91.all (mz_ok RX12 cX12_evenRounds 6) = true := by decide +kernel
def bX12_evenRounds_94 : List mz_E := [(94, .goto 60, 0, 154, 0, 0, 0), (154, .iinc 5 1, 0, 0, 0, 1, 0), (157, .goto (-90), 0, 67, 0, 0, 0)]
theorem oX12_evenRounds_94 : bX12_evenRounds_94.all (mz_ok RX12 cX12_evenRounds 6) = true := by decide +kernel
def bX12_evenRounds_97 : List mz_E := [(97, .iload 4, 0, 0, 0, 0, 0), (99, .ifCond .eq 28, 0, 127, 0, 0, 0)]
theorem oX12_evenRounds_97 : bX12_evenRounds_97.all (mz_ok RX12 cX12_evenRounds 6) = true := by decide +kernel
def bX12_evenRounds_127 : List mz_E := [(127, .iconst 0, 0, 0, 0, 0, 0)]
theorem oX12_evenRounds_127 : bX12_evenRounds_127.all (mz_ok RX12 cX12_evenRounds 6) = true := by decide +kernel
def bX12_evenRounds_128 : List mz_E := [(128, .istore 4, 0, 0, 0, 0, 0), (130, .iload_n 3, 0, 0, 0, 0, 0), (131, .iconst (-1), 0, 0, 0, -1, 0), (132, .if_icmp .eq 19, 0, 151, 0, 0, 0)]
theorem oX12_evenRounds_128 : bX12_evenRounds_128.all (mz_ok RX12 cX12_evenRounds 6) = true := by decide +kernel
def bX12_evenRounds_151 : List mz_E := [(151, .iload 5, 0, 0, 0, 0, 0), (153, .istore_n 3, 0, 0, 0, 0, 0), (154, .iinc 5 1, 0, 0, 0, 1, 0), (157, .goto (-90), 0, 67, 0, 0, 0)]
theorem oX12_evenRounds_151 : bX12_evenRounds_151.all (mz_ok RX12 cX12_evenRounds 6) = true := by decide +kernel
def bX12_evenRounds_135 : List mz_E := [(135, .aload_n 0, 0, 0, 0, 0, 0), (136, .getfield 50, 12, 25, 1601, 0, 0), (139, .iload 5, 0, 0, 0, 0, 0), (141, .iaload, 0, 0, 0, 0, 0), (142, .aload_n 0, 0, 0, 0, 0, 0), (143, .getfield 50, 12, 25, 1601, 0, 0), (146, .iload_n 3, 0, 0, 0, 0, 0), (147, .iaload, 0, 0, 0, 0, 0), (148, .if_icmp .le 6, 0, 154, 0, 0, 0)]
theorem oX12_evenRounds_135 : bX12_evenRounds_135.all (mz_ok RX12 cX12_evenRounds 6) = true := by decide +kernel
def bX12_evenRounds_154 : List mz_E := [(154, .iinc 5 1, 0, 0, 0, 1, 0), (157, .goto (-90), 0, 67, 0, 0, 0)]
theorem oX12_evenRounds_154 : bX12_evenRounds_154.all (mz_ok RX12 cX12_evenRounds 6) = true := by decide +kernel
def bX12_evenRounds_102 : List mz_E := [(102, .iload_n 3, 0, 0, 0, 0, 0), (103, .iconst (-1), 0, 0, 0, -1, 0), (104, .if_icmp .eq 19, 0, 123, 0, 0, 0)]
theorem oX12_evenRounds_102 : bX12_evenRounds_102.all (mz_ok RX12 cX12_evenRounds 6) = true := by decide +kernel
def bX12_evenRounds_123 : List mz_E := [(123, .iconst 1, 0, 0, 0, 1, 0), (124, .goto 4, 0, 128, 0, 0, 0)]
theorem oX12_evenRounds_123 : bX12_evenRounds_123.all (mz_ok RX12 cX12_evenRounds 6) = true := by decide +kernel
def bX12_evenRounds_107 : List mz_E := [(107, .aload_n 0, 0, 0, 0, 0, 0), (108, .getfield 50, 12, 25, 1601, 0, 0), (111, .iload 5, 0, 0, 0, 0, 0), (113, .iaload, 0, 0, 0, 0, 0), (114, .aload_n 0, 0, 0, 0, 0, 0), (115, .getfield 50, 12, 25, 1601, 0, 0), (118, .iload_n 3, 0, 0, 0, 0, 0), (119, .iaload, 0, 0, 0, 0, 0), (120, .if_icmp .ne 7, 0, 127, 0, 0, 0)]
theorem oX12_evenRounds_107 : bX12_evenRounds_107.all (mz_ok RX12 cX12_evenRounds 6) = true := by decide +kernel
def bX12_evenRounds_34 : List mz_E := [(34, .aload_n 0, 0, 0, 0, 0, 0), (35, .getfield 50, 12, 25, 1601, 0, 0), (38, .iload_n 2, 0, 0, 0, 0, 0), (39, .aload_n 0, 0, 0, 0, 0, 0), (40, .iload_n 2, 0, 0, 0, 0, 0)]
theorem oX12_evenRounds_34 : bX12_evenRounds_34.all (mz_ok RX12 cX12_evenRounds 6) = true := by decide +kernel
def bX12_evenRounds_44 : List mz_E := [(44, .iastore, 0, 0, 0, 0, 0), (45, .iinc 2 1, 0, 0, 0, 1, 0), (48, .goto (-24), 0, 24, 0, 0, 0)]
theorem oX12_evenRounds_44 : bX12_evenRounds_44.all (mz_ok RX12 cX12_evenRounds 6) = true := by decide +kernel
abbrev IX12_evenRounds : mz_I := (yX12_evenRounds, cX12_evenRounds, 6, (some .int), 0, 2, 0, 0)
theorem kX12_evenRounds : mz_okm IX12_evenRounds 2199 141 2197 0 = true := by decide +kernel
theorem vX12_evenRounds : mz_okV IX12_evenRounds 2197 2198 = true := by decide +kernel
def fX12_evenRounds_174 (k53 : Int32 → Int32 → mz_D → Option (Int32 × mz_D)) : Nat → Int32 → Int32 → Int32 → Int32 → mz_D → Option (Int32 × mz_D)
  | 0 => fun _ _ _ _ _ => none
  | n + 1 => fun x1 x2 x3 x5 D => (if (D.1 0 201 ((0 : Int32)).toNatClampNeg) ≤ x5 then (mz_gd (mz_ix x3 6) (k53 x1 (x2 + (1 : Int32)) (mz_wi D 0 210 (x3).toNatClampNeg ((D.1 0 210 (x3).toNatClampNeg) - x1)))) else (mz_gd (mz_ix x5 6) ((fX12_evenRounds_174 k53 n) x1 x2 x3 (x5 + (1 : Int32)) (mz_wi D 0 210 (x5).toNatClampNeg ((D.1 0 210 (x5).toNatClampNeg) + (((D.1 0 201 ((8 : Int32)).toNatClampNeg) >>> (x5 &&& 31)) &&& (1 : Int32)))))))
set_option maxHeartbeats 4000000 in
theorem tX12_evenRounds_174 (r : (Int32 × mz_D)) (k53 : Int32 → Int32 → mz_D → Option (Int32 × mz_D)) (hk53 : ∀ (x1 : Int32) (x2 : Int32) (D : mz_D), k53 x1 x2 D = some r → mz_Go IX12_evenRounds (some (.inl r.1), r.2) 0 0 (53, [some (.inr (.inr (some (0, 200)))), some (.inl x1), some (.inl x2), none, none, none], [], D)) : ∀ (n : Nat) (x1 : Int32) (x2 : Int32) (x3 : Int32) (x5 : Int32) (D : mz_D), fX12_evenRounds_174 k53 n x1 x2 x3 x5 D = some r → mz_Go IX12_evenRounds (some (.inl r.1), r.2) 0 0 (174, [some (.inr (.inr (some (0, 200)))), some (.inl x1), some (.inl x2), some (.inl x3), none, some (.inl x5)], [], D) := by
  intro n
  induction n with
  | zero => intro x1 x2 x3 x5 D h; have h : (none : Option (Int32 × mz_D)) = some r := h; cases h
  | succ n ih =>
    intro x1 x2 x3 x5 D h
    rw [fX12_evenRounds_174] at h
    refine mz_Go.run (gs := [mz_kz 0 0 200, mz_kz 0 0 201, mz_ix (0 : Int32) 3000]) (st' := (if (D.1 0 201 ((0 : Int32)).toNatClampNeg) ≤ x5 then (213, [some (.inr (.inr (some (0, 200)))), some (.inl x1), some (.inl x2), some (.inl x3), none, some (.inl x5)], [], D) else (185, [some (.inr (.inr (some (0, 200)))), some (.inl x1), some (.inl x2), some (.inl x3), none, some (.inl x5)], [], D))) bX12_evenRounds_174 oX12_evenRounds_174 rfl ⟨rfl, rfl, (by decide), trivial⟩ ?_
    refine mz_Go.ite (fun hc1 => ?_) (fun hc1 => ?_)
    · have h := mz_ifp hc1 h
      obtain ⟨hb2, h⟩ := mz_gd_some h
      refine mz_Go.run (gs := [mz_kz 0 0 200, mz_kz 0 0 210, mz_ix x3 6, mz_kz 0 0 210, mz_ix x3 6]) (st' := (53, [some (.inr (.inr (some (0, 200)))), some (.inl x1), some (.inl (x2 + (1 : Int32))), some (.inl x3), none, some (.inl x5)], [], (mz_wi D 0 210 (x3).toNatClampNeg ((D.1 0 210 (x3).toNatClampNeg) - x1)))) bX12_evenRounds_213 oX12_evenRounds_213 rfl ⟨rfl, rfl, hb2, rfl, hb2, trivial⟩ ?_
      exact mz_Go.drop [true, true, true, false, false, false] (hk53 x1 (x2 + (1 : Int32)) (mz_wi D 0 210 (x3).toNatClampNeg ((D.1 0 210 (x3).toNatClampNeg) - x1)) h)
    · have h := mz_ifn hc1 h
      obtain ⟨hb3, h⟩ := mz_gd_some h
      refine mz_Go.run (gs := [mz_kz 0 0 200, mz_kz 0 0 210, mz_ix x5 6, mz_kz 0 0 200, mz_kz 0 0 201, mz_ix (8 : Int32) 3000, mz_kz 0 0 210, mz_ix x5 6]) (st' := (174, [some (.inr (.inr (some (0, 200)))), some (.inl x1), some (.inl x2), some (.inl x3), none, some (.inl (x5 + (1 : Int32)))], [], (mz_wi D 0 210 (x5).toNatClampNeg ((D.1 0 210 (x5).toNatClampNeg) + (((D.1 0 201 ((8 : Int32)).toNatClampNeg) >>> (x5 &&& 31)) &&& (1 : Int32)))))) bX12_evenRounds_185 oX12_evenRounds_185 rfl ⟨rfl, rfl, hb3, rfl, rfl, (by decide), rfl, hb3, trivial⟩ ?_
      exact mz_Go.drop [true, true, true, true, false, true] (ih x1 x2 x3 (x5 + (1 : Int32)) (mz_wi D 0 210 (x5).toNatClampNeg ((D.1 0 210 (x5).toNatClampNeg) + (((D.1 0 201 ((8 : Int32)).toNatClampNeg) >>> (x5 &&& 31)) &&& (1 : Int32)))) h)
def fX12_evenRounds_151 (k53 : Int32 → Int32 → mz_D → Option (Int32 × mz_D)) (k67 : Int32 → Int32 → Int32 → Int32 → Int32 → mz_D → Option (Int32 × mz_D)) (x1 : Int32) (x2 : Int32) (x4 : Int32) (x5 : Int32) (D : mz_D) : Option (Int32 × mz_D) := (k67 x1 x2 x5 x4 (x5 + (1 : Int32)) D)
set_option maxHeartbeats 4000000 in
theorem tX12_evenRounds_151 (r : (Int32 × mz_D)) (k53 : Int32 → Int32 → mz_D → Option (Int32 × mz_D)) (hk53 : ∀ (x1 : Int32) (x2 : Int32) (D : mz_D), k53 x1 x2 D = some r → mz_Go IX12_evenRounds (some (.inl r.1), r.2) 0 0 (53, [some (.inr (.inr (some (0, 200)))), some (.inl x1), some (.inl x2), none, none, none], [], D)) (k67 : Int32 → Int32 → Int32 → Int32 → Int32 → mz_D → Option (Int32 × mz_D)) (hk67 : ∀ (x1 : Int32) (x2 : Int32) (x3 : Int32) (x4 : Int32) (x5 : Int32) (D : mz_D), k67 x1 x2 x3 x4 x5 D = some r → mz_Go IX12_evenRounds (some (.inl r.1), r.2) 0 0 (67, [some (.inr (.inr (some (0, 200)))), some (.inl x1), some (.inl x2), some (.inl x3), some (.inl x4), some (.inl x5)], [], D)) : ∀ (x1 : Int32) (x2 : Int32) (x4 : Int32) (x5 : Int32) (D : mz_D), fX12_evenRounds_151 k53 k67 x1 x2 x4 x5 D = some r → mz_Go IX12_evenRounds (some (.inl r.1), r.2) 0 0 (151, [some (.inr (.inr (some (0, 200)))), some (.inl x1), some (.inl x2), none, some (.inl x4), some (.inl x5)], [], D) := by
  intro x1 x2 x4 x5 D h
  rw [fX12_evenRounds_151] at h
  refine mz_Go.run (gs := []) (st' := (67, [some (.inr (.inr (some (0, 200)))), some (.inl x1), some (.inl x2), some (.inl x5), some (.inl x4), some (.inl (x5 + (1 : Int32)))], [], D)) bX12_evenRounds_151 oX12_evenRounds_151 rfl trivial ?_
  exact mz_Go.drop [true, true, true, true, true, true] (hk67 x1 x2 x5 x4 (x5 + (1 : Int32)) D h)
def fX12_evenRounds_128 (k53 : Int32 → Int32 → mz_D → Option (Int32 × mz_D)) (k67 : Int32 → Int32 → Int32 → Int32 → Int32 → mz_D → Option (Int32 × mz_D)) (x1 : Int32) (x2 : Int32) (x3 : Int32) (x5 : Int32) (s0 : Int32) (D : mz_D) : Option (Int32 × mz_D) := (if x3 = (-1 : Int32) then (fX12_evenRounds_151 k53 k67 x1 x2 s0 x5 D) else (mz_gd (mz_ix x5 6) (mz_gd (mz_ix x3 6) (if (D.1 0 210 (x5).toNatClampNeg) ≤ (D.1 0 210 (x3).toNatClampNeg) then (k67 x1 x2 x3 s0 (x5 + (1 : Int32)) D) else (fX12_evenRounds_151 k53 k67 x1 x2 s0 x5 D)))))
set_option maxHeartbeats 4000000 in
theorem tX12_evenRounds_128 (r : (Int32 × mz_D)) (k53 : Int32 → Int32 → mz_D → Option (Int32 × mz_D)) (hk53 : ∀ (x1 : Int32) (x2 : Int32) (D : mz_D), k53 x1 x2 D = some r → mz_Go IX12_evenRounds (some (.inl r.1), r.2) 0 0 (53, [some (.inr (.inr (some (0, 200)))), some (.inl x1), some (.inl x2), none, none, none], [], D)) (k67 : Int32 → Int32 → Int32 → Int32 → Int32 → mz_D → Option (Int32 × mz_D)) (hk67 : ∀ (x1 : Int32) (x2 : Int32) (x3 : Int32) (x4 : Int32) (x5 : Int32) (D : mz_D), k67 x1 x2 x3 x4 x5 D = some r → mz_Go IX12_evenRounds (some (.inl r.1), r.2) 0 0 (67, [some (.inr (.inr (some (0, 200)))), some (.inl x1), some (.inl x2), some (.inl x3), some (.inl x4), some (.inl x5)], [], D)) : ∀ (x1 : Int32) (x2 : Int32) (x3 : Int32) (x5 : Int32) (s0 : Int32) (D : mz_D), fX12_evenRounds_128 k53 k67 x1 x2 x3 x5 s0 D = some r → mz_Go IX12_evenRounds (some (.inl r.1), r.2) 0 0 (128, [some (.inr (.inr (some (0, 200)))), some (.inl x1), some (.inl x2), some (.inl x3), none, some (.inl x5)], [.inl s0], D) := by
  intro x1 x2 x3 x5 s0 D h
  rw [fX12_evenRounds_128] at h
  refine mz_Go.run (gs := []) (st' := (if x3 = (-1 : Int32) then (151, [some (.inr (.inr (some (0, 200)))), some (.inl x1), some (.inl x2), some (.inl x3), some (.inl s0), some (.inl x5)], [], D) else (135, [some (.inr (.inr (some (0, 200)))), some (.inl x1), some (.inl x2), some (.inl x3), some (.inl s0), some (.inl x5)], [], D))) bX12_evenRounds_128 oX12_evenRounds_128 rfl trivial ?_
  refine mz_Go.ite (fun hc1 => ?_) (fun hc1 => ?_)
  · have h := mz_ifp hc1 h
    exact mz_Go.drop [true, true, true, false, true, true] (tX12_evenRounds_151 r k53 hk53 k67 hk67 x1 x2 s0 x5 D h)
  · have h := mz_ifn hc1 h
    obtain ⟨hb2, h⟩ := mz_gd_some h
    obtain ⟨hb3, h⟩ := mz_gd_some h
    refine mz_Go.run (gs := [mz_kz 0 0 200, mz_kz 0 0 210, mz_ix x5 6, mz_kz 0 0 200, mz_kz 0 0 210, mz_ix x3 6]) (st' := (if (D.1 0 210 (x5).toNatClampNeg) ≤ (D.1 0 210 (x3).toNatClampNeg) then (154, [some (.inr (.inr (some (0, 200)))), some (.inl x1), some (.inl x2), some (.inl x3), some (.inl s0), some (.inl x5)], [], D) else (151, [some (.inr (.inr (some (0, 200)))), some (.inl x1), some (.inl x2), some (.inl x3), some (.inl s0), some (.inl x5)], [], D))) bX12_evenRounds_135 oX12_evenRounds_135 rfl ⟨rfl, rfl, hb2, rfl, rfl, hb3, trivial⟩ ?_
    refine mz_Go.ite (fun hc4 => ?_) (fun hc4 => ?_)
    · have h := mz_ifp hc4 h
      refine mz_Go.run (gs := []) (st' := (67, [some (.inr (.inr (some (0, 200)))), some (.inl x1), some (.inl x2), some (.inl x3), some (.inl s0), some (.inl (x5 + (1 : Int32)))], [], D)) bX12_evenRounds_154 oX12_evenRounds_154 rfl trivial ?_
      exact mz_Go.drop [true, true, true, true, true, true] (hk67 x1 x2 x3 s0 (x5 + (1 : Int32)) D h)
    · have h := mz_ifn hc4 h
      exact mz_Go.drop [true, true, true, false, true, true] (tX12_evenRounds_151 r k53 hk53 k67 hk67 x1 x2 s0 x5 D h)
def fX12_evenRounds_127 (k53 : Int32 → Int32 → mz_D → Option (Int32 × mz_D)) (k67 : Int32 → Int32 → Int32 → Int32 → Int32 → mz_D → Option (Int32 × mz_D)) (x1 : Int32) (x2 : Int32) (x3 : Int32) (x5 : Int32) (D : mz_D) : Option (Int32 × mz_D) := (fX12_evenRounds_128 k53 k67 x1 x2 x3 x5 (0 : Int32) D)
set_option maxHeartbeats 4000000 in
theorem tX12_evenRounds_127 (r : (Int32 × mz_D)) (k53 : Int32 → Int32 → mz_D → Option (Int32 × mz_D)) (hk53 : ∀ (x1 : Int32) (x2 : Int32) (D : mz_D), k53 x1 x2 D = some r → mz_Go IX12_evenRounds (some (.inl r.1), r.2) 0 0 (53, [some (.inr (.inr (some (0, 200)))), some (.inl x1), some (.inl x2), none, none, none], [], D)) (k67 : Int32 → Int32 → Int32 → Int32 → Int32 → mz_D → Option (Int32 × mz_D)) (hk67 : ∀ (x1 : Int32) (x2 : Int32) (x3 : Int32) (x4 : Int32) (x5 : Int32) (D : mz_D), k67 x1 x2 x3 x4 x5 D = some r → mz_Go IX12_evenRounds (some (.inl r.1), r.2) 0 0 (67, [some (.inr (.inr (some (0, 200)))), some (.inl x1), some (.inl x2), some (.inl x3), some (.inl x4), some (.inl x5)], [], D)) : ∀ (x1 : Int32) (x2 : Int32) (x3 : Int32) (x5 : Int32) (D : mz_D), fX12_evenRounds_127 k53 k67 x1 x2 x3 x5 D = some r → mz_Go IX12_evenRounds (some (.inl r.1), r.2) 0 0 (127, [some (.inr (.inr (some (0, 200)))), some (.inl x1), some (.inl x2), some (.inl x3), none, some (.inl x5)], [], D) := by
  intro x1 x2 x3 x5 D h
  rw [fX12_evenRounds_127] at h
  refine mz_Go.run (gs := []) (st' := (128, [some (.inr (.inr (some (0, 200)))), some (.inl x1), some (.inl x2), some (.inl x3), none, some (.inl x5)], [.inl (0 : Int32)], D)) bX12_evenRounds_127 oX12_evenRounds_127 rfl trivial ?_
  exact mz_Go.drop [true, true, true, true, false, true] (tX12_evenRounds_128 r k53 hk53 k67 hk67 x1 x2 x3 x5 (0 : Int32) D h)
def fX12_evenRounds_123 (k53 : Int32 → Int32 → mz_D → Option (Int32 × mz_D)) (k67 : Int32 → Int32 → Int32 → Int32 → Int32 → mz_D → Option (Int32 × mz_D)) (x1 : Int32) (x2 : Int32) (x3 : Int32) (x5 : Int32) (D : mz_D) : Option (Int32 × mz_D) := (fX12_evenRounds_128 k53 k67 x1 x2 x3 x5 (1 : Int32) D)
set_option maxHeartbeats 4000000 in
theorem tX12_evenRounds_123 (r : (Int32 × mz_D)) (k53 : Int32 → Int32 → mz_D → Option (Int32 × mz_D)) (hk53 : ∀ (x1 : Int32) (x2 : Int32) (D : mz_D), k53 x1 x2 D = some r → mz_Go IX12_evenRounds (some (.inl r.1), r.2) 0 0 (53, [some (.inr (.inr (some (0, 200)))), some (.inl x1), some (.inl x2), none, none, none], [], D)) (k67 : Int32 → Int32 → Int32 → Int32 → Int32 → mz_D → Option (Int32 × mz_D)) (hk67 : ∀ (x1 : Int32) (x2 : Int32) (x3 : Int32) (x4 : Int32) (x5 : Int32) (D : mz_D), k67 x1 x2 x3 x4 x5 D = some r → mz_Go IX12_evenRounds (some (.inl r.1), r.2) 0 0 (67, [some (.inr (.inr (some (0, 200)))), some (.inl x1), some (.inl x2), some (.inl x3), some (.inl x4), some (.inl x5)], [], D)) : ∀ (x1 : Int32) (x2 : Int32) (x3 : Int32) (x5 : Int32) (D : mz_D), fX12_evenRounds_123 k53 k67 x1 x2 x3 x5 D = some r → mz_Go IX12_evenRounds (some (.inl r.1), r.2) 0 0 (123, [some (.inr (.inr (some (0, 200)))), some (.inl x1), some (.inl x2), some (.inl x3), none, some (.inl x5)], [], D) := by
  intro x1 x2 x3 x5 D h
  rw [fX12_evenRounds_123] at h
  refine mz_Go.run (gs := []) (st' := (128, [some (.inr (.inr (some (0, 200)))), some (.inl x1), some (.inl x2), some (.inl x3), none, some (.inl x5)], [.inl (1 : Int32)], D)) bX12_evenRounds_123 oX12_evenRounds_123 rfl trivial ?_
  exact mz_Go.drop [true, true, true, true, false, true] (tX12_evenRounds_128 r k53 hk53 k67 hk67 x1 x2 x3 x5 (1 : Int32) D h)
def fX12_evenRounds_67 (k53 : Int32 → Int32 → mz_D → Option (Int32 × mz_D)) : Nat → Int32 → Int32 → Int32 → Int32 → Int32 → mz_D → Option (Int32 × mz_D)
  | 0 => fun _ _ _ _ _ _ => none
  | n + 1 => fun x1 x2 x3 x4 x5 D => (if (D.1 0 201 ((0 : Int32)).toNatClampNeg) ≤ x5 then (if x4 = 0 then (fX12_evenRounds_174 k53 mz_N x1 x2 x3 (0 : Int32) D) else (some (x2, (mz_wi D 0 200 2 (0 : Int32))))) else (if (fX12_isIn (D.1 0 201 ((8 : Int32)).toNatClampNeg) x5) = 0 then ((fX12_evenRounds_67 k53 n) x1 x2 x3 x4 (x5 + (1 : Int32)) D) else (if x4 = 0 then (fX12_evenRounds_127 k53 (fX12_evenRounds_67 k53 n) x1 x2 x3 x5 D) else (if x3 = (-1 : Int32) then (fX12_evenRounds_123 k53 (fX12_evenRounds_67 k53 n) x1 x2 x3 x5 D) else (mz_gd (mz_ix x5 6) (mz_gd (mz_ix x3 6) (if (D.1 0 210 (x5).toNatClampNeg) = (D.1 0 210 (x3).toNatClampNeg) then (fX12_evenRounds_123 k53 (fX12_evenRounds_67 k53 n) x1 x2 x3 x5 D) else (fX12_evenRounds_127 k53 (fX12_evenRounds_67 k53 n) x1 x2 x3 x5 D))))))))
set_option maxHeartbeats 4000000 in
theorem tX12_evenRounds_67 (r : (Int32 × mz_D)) (k53 : Int32 → Int32 → mz_D → Option (Int32 × mz_D)) (hk53 : ∀ (x1 : Int32) (x2 : Int32) (D : mz_D), k53 x1 x2 D = some r → mz_Go IX12_evenRounds (some (.inl r.1), r.2) 0 0 (53, [some (.inr (.inr (some (0, 200)))), some (.inl x1), some (.inl x2), none, none, none], [], D)) : ∀ (n : Nat) (x1 : Int32) (x2 : Int32) (x3 : Int32) (x4 : Int32) (x5 : Int32) (D : mz_D), fX12_evenRounds_67 k53 n x1 x2 x3 x4 x5 D = some r → mz_Go IX12_evenRounds (some (.inl r.1), r.2) 0 0 (67, [some (.inr (.inr (some (0, 200)))), some (.inl x1), some (.inl x2), some (.inl x3), some (.inl x4), some (.inl x5)], [], D) := by
  intro n
  induction n with
  | zero => intro x1 x2 x3 x4 x5 D h; have h : (none : Option (Int32 × mz_D)) = some r := h; cases h
  | succ n ih =>
    intro x1 x2 x3 x4 x5 D h
    rw [fX12_evenRounds_67] at h
    refine mz_Go.run (gs := [mz_kz 0 0 200, mz_kz 0 0 201, mz_ix (0 : Int32) 3000]) (st' := (if (D.1 0 201 ((0 : Int32)).toNatClampNeg) ≤ x5 then (160, [some (.inr (.inr (some (0, 200)))), some (.inl x1), some (.inl x2), some (.inl x3), some (.inl x4), some (.inl x5)], [], D) else (78, [some (.inr (.inr (some (0, 200)))), some (.inl x1), some (.inl x2), some (.inl x3), some (.inl x4), some (.inl x5)], [], D))) bX12_evenRounds_67 oX12_evenRounds_67 rfl ⟨rfl, rfl, (by decide), trivial⟩ ?_
    refine mz_Go.ite (fun hc1 => ?_) (fun hc1 => ?_)
    · have h := mz_ifp hc1 h
      refine mz_Go.run (gs := []) (st' := (if x4 = 0 then (171, [some (.inr (.inr (some (0, 200)))), some (.inl x1), some (.inl x2), some (.inl x3), some (.inl x4), some (.inl x5)], [], D) else (165, [some (.inr (.inr (some (0, 200)))), some (.inl x1), some (.inl x2), some (.inl x3), some (.inl x4), some (.inl x5)], [], D))) bX12_evenRounds_160 oX12_evenRounds_160 rfl trivial ?_
      refine mz_Go.ite (fun hc2 => ?_) (fun hc2 => ?_)
      · have h := mz_ifp hc2 h
        refine mz_Go.run (gs := []) (st' := (174, [some (.inr (.inr (some (0, 200)))), some (.inl x1), some (.inl x2), some (.inl x3), some (.inl x4), some (.inl (0 : Int32))], [], D)) bX12_evenRounds_171 oX12_evenRounds_171 rfl trivial ?_
        exact mz_Go.drop [true, true, true, true, false, true] (tX12_evenRounds_174 r k53 hk53 mz_N x1 x2 x3 (0 : Int32) D h)
      · have h := mz_ifn hc2 h
        refine mz_Go.run (gs := []) (st' := (167, [some (.inr (.inr (some (0, 200)))), some (.inl x1), some (.inl x2), some (.inl x3), some (.inl x4), some (.inl x5)], [.inl x2, .inr (.inr (some (0, 200)))], D)) bX12_evenRounds_165 oX12_evenRounds_165 rfl trivial ?_
        refine mz_Go.callV (I := IX12_evenRounds) (J := IX12_gives) (as := [.inl x2]) (ci := 12) (g := 0) (o := 200) (idx := 79) (pl := 1844) (rest := []) (mX12_gives x2 D) kX12_gives vX12_gives (by decide +kernel) (by decide +kernel) (by decide +kernel) rfl rfl ⟨rfl, rfl⟩ rfl rfl rfl rfl ?_
        cases h
        exact mz_Go.reti (by decide +kernel) rfl ⟨Nat.le_refl _, Nat.le_refl _⟩ rfl
    · have h := mz_ifn hc1 h
      refine mz_Go.run (gs := [mz_kz 0 0 200, mz_kz 0 0 201, mz_ix (8 : Int32) 3000]) (st' := (88, [some (.inr (.inr (some (0, 200)))), some (.inl x1), some (.inl x2), some (.inl x3), some (.inl x4), some (.inl x5)], [.inl x5, .inl (D.1 0 201 ((8 : Int32)).toNatClampNeg), .inr (.inr (some (0, 200)))], D)) bX12_evenRounds_78 oX12_evenRounds_78 rfl ⟨rfl, rfl, (by decide), trivial⟩ ?_
      refine mz_Go.callV (I := IX12_evenRounds) (J := IX12_isIn) (as := [.inl (D.1 0 201 ((8 : Int32)).toNatClampNeg), .inl x5]) (ci := 12) (g := 0) (o := 200) (idx := 270) (pl := 1944) (rest := []) (mX12_isIn (D.1 0 201 ((8 : Int32)).toNatClampNeg) x5 D _ rfl) kX12_isIn vX12_isIn (by decide +kernel) (by decide +kernel) (by decide +kernel) rfl rfl ⟨rfl, rfl⟩ rfl rfl rfl rfl ?_
      refine mz_Go.run (gs := []) (st' := (if (fX12_isIn (D.1 0 201 ((8 : Int32)).toNatClampNeg) x5) = 0 then (94, [some (.inr (.inr (some (0, 200)))), some (.inl x1), some (.inl x2), some (.inl x3), some (.inl x4), some (.inl x5)], [], D) else (97, [some (.inr (.inr (some (0, 200)))), some (.inl x1), some (.inl x2), some (.inl x3), some (.inl x4), some (.inl x5)], [], D))) bX12_evenRounds_91 oX12_evenRounds_91 rfl trivial ?_
      refine mz_Go.ite (fun hc3 => ?_) (fun hc3 => ?_)
      · have h := mz_ifp hc3 h
        refine mz_Go.run (gs := []) (st' := (67, [some (.inr (.inr (some (0, 200)))), some (.inl x1), some (.inl x2), some (.inl x3), some (.inl x4), some (.inl (x5 + (1 : Int32)))], [], D)) bX12_evenRounds_94 oX12_evenRounds_94 rfl trivial ?_
        exact mz_Go.drop [true, true, true, true, true, true] (ih x1 x2 x3 x4 (x5 + (1 : Int32)) D h)
      · have h := mz_ifn hc3 h
        refine mz_Go.run (gs := []) (st' := (if x4 = 0 then (127, [some (.inr (.inr (some (0, 200)))), some (.inl x1), some (.inl x2), some (.inl x3), some (.inl x4), some (.inl x5)], [], D) else (102, [some (.inr (.inr (some (0, 200)))), some (.inl x1), some (.inl x2), some (.inl x3), some (.inl x4), some (.inl x5)], [], D))) bX12_evenRounds_97 oX12_evenRounds_97 rfl trivial ?_
        refine mz_Go.ite (fun hc4 => ?_) (fun hc4 => ?_)
        · have h := mz_ifp hc4 h
          exact mz_Go.drop [true, true, true, true, false, true] (tX12_evenRounds_127 r k53 hk53 (fX12_evenRounds_67 k53 n) ih x1 x2 x3 x5 D h)
        · have h := mz_ifn hc4 h
          refine mz_Go.run (gs := []) (st' := (if x3 = (-1 : Int32) then (123, [some (.inr (.inr (some (0, 200)))), some (.inl x1), some (.inl x2), some (.inl x3), some (.inl x4), some (.inl x5)], [], D) else (107, [some (.inr (.inr (some (0, 200)))), some (.inl x1), some (.inl x2), some (.inl x3), some (.inl x4), some (.inl x5)], [], D))) bX12_evenRounds_102 oX12_evenRounds_102 rfl trivial ?_
          refine mz_Go.ite (fun hc5 => ?_) (fun hc5 => ?_)
          · have h := mz_ifp hc5 h
            exact mz_Go.drop [true, true, true, true, false, true] (tX12_evenRounds_123 r k53 hk53 (fX12_evenRounds_67 k53 n) ih x1 x2 x3 x5 D h)
          · have h := mz_ifn hc5 h
            obtain ⟨hb6, h⟩ := mz_gd_some h
            obtain ⟨hb7, h⟩ := mz_gd_some h
            refine mz_Go.run (gs := [mz_kz 0 0 200, mz_kz 0 0 210, mz_ix x5 6, mz_kz 0 0 200, mz_kz 0 0 210, mz_ix x3 6]) (st' := (if (D.1 0 210 (x5).toNatClampNeg) = (D.1 0 210 (x3).toNatClampNeg) then (123, [some (.inr (.inr (some (0, 200)))), some (.inl x1), some (.inl x2), some (.inl x3), some (.inl x4), some (.inl x5)], [], D) else (127, [some (.inr (.inr (some (0, 200)))), some (.inl x1), some (.inl x2), some (.inl x3), some (.inl x4), some (.inl x5)], [], D))) bX12_evenRounds_107 oX12_evenRounds_107 rfl ⟨rfl, rfl, hb6, rfl, rfl, hb7, trivial⟩ ?_
            refine mz_Go.ite (fun hc8 => ?_) (fun hc8 => ?_)
            · have h := mz_ifp hc8 h
              exact mz_Go.drop [true, true, true, true, false, true] (tX12_evenRounds_123 r k53 hk53 (fX12_evenRounds_67 k53 n) ih x1 x2 x3 x5 D h)
            · have h := mz_ifn hc8 h
              exact mz_Go.drop [true, true, true, true, false, true] (tX12_evenRounds_127 r k53 hk53 (fX12_evenRounds_67 k53 n) ih x1 x2 x3 x5 D h)
def fX12_evenRounds_53 : Nat → Int32 → Int32 → mz_D → Option (Int32 × mz_D)
  | 0 => fun _ _ _ => none
  | n + 1 => fun x1 x2 D => (if (60 : Int32) < x2 then (some ((-1 : Int32), (mz_wi D 0 200 2 (6 : Int32)))) else (fX12_evenRounds_67 (fX12_evenRounds_53 n) mz_N x1 x2 (-1 : Int32) (1 : Int32) (0 : Int32) D))
set_option maxHeartbeats 4000000 in
theorem tX12_evenRounds_53 (r : (Int32 × mz_D)) : ∀ (n : Nat) (x1 : Int32) (x2 : Int32) (D : mz_D), fX12_evenRounds_53 n x1 x2 D = some r → mz_Go IX12_evenRounds (some (.inl r.1), r.2) 0 0 (53, [some (.inr (.inr (some (0, 200)))), some (.inl x1), some (.inl x2), none, none, none], [], D) := by
  intro n
  induction n with
  | zero => intro x1 x2 D h; have h : (none : Option (Int32 × mz_D)) = some r := h; cases h
  | succ n ih =>
    intro x1 x2 D h
    rw [fX12_evenRounds_53] at h
    refine mz_Go.run (gs := []) (st' := (if (60 : Int32) < x2 then (229, [some (.inr (.inr (some (0, 200)))), some (.inl x1), some (.inl x2), none, none, none], [], D) else (59, [some (.inr (.inr (some (0, 200)))), some (.inl x1), some (.inl x2), none, none, none], [], D))) bX12_evenRounds_53 oX12_evenRounds_53 rfl trivial ?_
    refine mz_Go.ite (fun hc1 => ?_) (fun hc1 => ?_)
    · have h := mz_ifp hc1 h
      refine mz_Go.run (gs := []) (st' := (232, [some (.inr (.inr (some (0, 200)))), some (.inl x1), some (.inl x2), none, none, none], [.inl (6 : Int32), .inr (.inr (some (0, 200)))], D)) bX12_evenRounds_229 oX12_evenRounds_229 rfl trivial ?_
      refine mz_Go.callV (I := IX12_evenRounds) (J := IX12_refuse) (as := [.inl (6 : Int32)]) (ci := 12) (g := 0) (o := 200) (idx := 75) (pl := 1761) (rest := []) (mX12_refuse (6 : Int32) D) kX12_refuse vX12_refuse (by decide +kernel) (by decide +kernel) (by decide +kernel) rfl rfl ⟨rfl, rfl⟩ rfl rfl rfl rfl ?_
      cases h
      exact mz_Go.reti (by decide +kernel) rfl ⟨Nat.le_refl _, Nat.le_refl _⟩ rfl
    · have h := mz_ifn hc1 h
      refine mz_Go.run (gs := []) (st' := (67, [some (.inr (.inr (some (0, 200)))), some (.inl x1), some (.inl x2), some (.inl (-1 : Int32)), some (.inl (1 : Int32)), some (.inl (0 : Int32))], [], D)) bX12_evenRounds_59 oX12_evenRounds_59 rfl trivial ?_
      exact mz_Go.drop [true, true, true, true, true, true] (tX12_evenRounds_67 r (fX12_evenRounds_53 n) ih mz_N x1 x2 (-1 : Int32) (1 : Int32) (0 : Int32) D h)
def fX12_evenRounds_24 : Nat → Int32 → Int32 → mz_D → Option (Int32 × mz_D)
  | 0 => fun _ _ _ => none
  | n + 1 => fun x1 x2 D => (if (D.1 0 201 ((0 : Int32)).toNatClampNeg) ≤ x2 then (fX12_evenRounds_53 mz_N x1 (0 : Int32) D) else (Option.bind (fX12_drinksOf x2 D) fun q2 => (mz_gd (mz_ix x2 6) ((fX12_evenRounds_24 n) x1 (x2 + (1 : Int32)) (mz_wi D 0 210 (x2).toNatClampNeg q2)))))
set_option maxHeartbeats 4000000 in
theorem tX12_evenRounds_24 (r : (Int32 × mz_D)) : ∀ (n : Nat) (x1 : Int32) (x2 : Int32) (D : mz_D), fX12_evenRounds_24 n x1 x2 D = some r → mz_Go IX12_evenRounds (some (.inl r.1), r.2) 0 0 (24, [some (.inr (.inr (some (0, 200)))), some (.inl x1), some (.inl x2), none, none, none], [], D) := by
  intro n
  induction n with
  | zero => intro x1 x2 D h; have h : (none : Option (Int32 × mz_D)) = some r := h; cases h
  | succ n ih =>
    intro x1 x2 D h
    rw [fX12_evenRounds_24] at h
    refine mz_Go.run (gs := [mz_kz 0 0 200, mz_kz 0 0 201, mz_ix (0 : Int32) 3000]) (st' := (if (D.1 0 201 ((0 : Int32)).toNatClampNeg) ≤ x2 then (51, [some (.inr (.inr (some (0, 200)))), some (.inl x1), some (.inl x2), none, none, none], [], D) else (34, [some (.inr (.inr (some (0, 200)))), some (.inl x1), some (.inl x2), none, none, none], [], D))) bX12_evenRounds_24 oX12_evenRounds_24 rfl ⟨rfl, rfl, (by decide), trivial⟩ ?_
    refine mz_Go.ite (fun hc1 => ?_) (fun hc1 => ?_)
    · have h := mz_ifp hc1 h
      refine mz_Go.run (gs := []) (st' := (53, [some (.inr (.inr (some (0, 200)))), some (.inl x1), some (.inl (0 : Int32)), none, none, none], [], D)) bX12_evenRounds_51 oX12_evenRounds_51 rfl trivial ?_
      exact mz_Go.drop [true, true, true, false, false, false] (tX12_evenRounds_53 r mz_N x1 (0 : Int32) D h)
    · have h := mz_ifn hc1 h
      refine mz_Go.run (gs := [mz_kz 0 0 200]) (st' := (41, [some (.inr (.inr (some (0, 200)))), some (.inl x1), some (.inl x2), none, none, none], [.inl x2, .inr (.inr (some (0, 200))), .inl x2, .inr (.inr (some (0, 210)))], D)) bX12_evenRounds_34 oX12_evenRounds_34 rfl ⟨rfl, trivial⟩ ?_
      obtain ⟨q2, hq2, h⟩ := mz_bd_some h
      refine mz_Go.callV (I := IX12_evenRounds) (J := IX12_drinksOf) (as := [.inl x2]) (ci := 12) (g := 0) (o := 200) (idx := 383) (pl := 2180) (rest := [.inl x2, .inr (.inr (some (0, 210)))]) (mX12_drinksOf x2 D q2 hq2) kX12_drinksOf vX12_drinksOf (by decide +kernel) (by decide +kernel) (by decide +kernel) rfl rfl ⟨rfl, rfl⟩ rfl rfl rfl rfl ?_
      obtain ⟨hb3, h⟩ := mz_gd_some h
      refine mz_Go.run (gs := [mz_kz 0 0 210, mz_ix x2 6]) (st' := (24, [some (.inr (.inr (some (0, 200)))), some (.inl x1), some (.inl (x2 + (1 : Int32))), none, none, none], [], (mz_wi D 0 210 (x2).toNatClampNeg q2))) bX12_evenRounds_44 oX12_evenRounds_44 rfl ⟨rfl, hb3, trivial⟩ ?_
      exact mz_Go.drop [true, true, true, false, false, false] (ih x1 (x2 + (1 : Int32)) (mz_wi D 0 210 (x2).toNatClampNeg q2) h)
def fX12_evenRounds (D : mz_D) : Option (Int32 × mz_D) := (Option.bind (fX12_bits (D.1 0 201 ((8 : Int32)).toNatClampNeg)) fun q1 => (if q1 = 0 then (some ((-1 : Int32), (mz_wi D 0 200 2 (6 : Int32)))) else (fX12_evenRounds_24 mz_N q1 (0 : Int32) D)))
set_option maxHeartbeats 4000000 in
theorem mX12_evenRounds (D : mz_D) (r : (Int32 × mz_D)) (h : fX12_evenRounds D = some r) : mz_Met IX12_evenRounds [.inr (.inr (some (0, 200)))] D (some (.inl r.1), r.2) := by
  refine mz_Met.of (by decide +kernel) (Nat.le_of_ble_eq_true rfl) ?_
  show mz_Go IX12_evenRounds (some (.inl r.1), r.2) 0 0 (0, [some (.inr (.inr (some (0, 200)))), none, none, none, none, none], [], D)
  rw [fX12_evenRounds] at h
  refine mz_Go.run (gs := [mz_kz 0 0 200, mz_kz 0 0 201, mz_ix (8 : Int32) 3000]) (st' := (7, [some (.inr (.inr (some (0, 200)))), none, none, none, none, none], [.inl (D.1 0 201 ((8 : Int32)).toNatClampNeg)], D)) bX12_evenRounds_0 oX12_evenRounds_0 rfl ⟨rfl, rfl, (by decide), trivial⟩ ?_
  obtain ⟨q1, hq1, h⟩ := mz_bd_some h
  refine mz_Go.callS (I := IX12_evenRounds) (J := IX12_bits) (as := [.inl (D.1 0 201 ((8 : Int32)).toNatClampNeg)]) (idx := 254) (pl := 1888) (rest := []) (mX12_bits (D.1 0 201 ((8 : Int32)).toNatClampNeg) D q1 hq1) kX12_bits vX12_bits (by decide +kernel) (by decide +kernel) (by decide +kernel) rfl rfl ⟨rfl, rfl⟩ rfl ?_
  refine mz_Go.run (gs := []) (st' := (if q1 = 0 then (15, [some (.inr (.inr (some (0, 200)))), some (.inl q1), none, none, none, none], [], D) else (22, [some (.inr (.inr (some (0, 200)))), some (.inl q1), none, none, none, none], [], D))) bX12_evenRounds_10 oX12_evenRounds_10 rfl trivial ?_
  refine mz_Go.ite (fun hc2 => ?_) (fun hc2 => ?_)
  · have h := mz_ifp hc2 h
    refine mz_Go.run (gs := []) (st' := (18, [some (.inr (.inr (some (0, 200)))), some (.inl q1), none, none, none, none], [.inl (6 : Int32), .inr (.inr (some (0, 200)))], D)) bX12_evenRounds_15 oX12_evenRounds_15 rfl trivial ?_
    refine mz_Go.callV (I := IX12_evenRounds) (J := IX12_refuse) (as := [.inl (6 : Int32)]) (ci := 12) (g := 0) (o := 200) (idx := 75) (pl := 1761) (rest := []) (mX12_refuse (6 : Int32) D) kX12_refuse vX12_refuse (by decide +kernel) (by decide +kernel) (by decide +kernel) rfl rfl ⟨rfl, rfl⟩ rfl rfl rfl rfl ?_
    cases h
    exact mz_Go.reti (by decide +kernel) rfl ⟨Nat.le_refl _, Nat.le_refl _⟩ rfl
  · have h := mz_ifn hc2 h
    refine mz_Go.run (gs := []) (st' := (24, [some (.inr (.inr (some (0, 200)))), some (.inl q1), some (.inl (0 : Int32)), none, none, none], [], D)) bX12_evenRounds_22 oX12_evenRounds_22 rfl trivial ?_
    exact mz_Go.drop [true, true, true, false, false, false] (tX12_evenRounds_24 r mz_N q1 (0 : Int32) D h)
def bX12_nextGift_0 : List mz_E := [(0, .iload_n 0, 0, 0, 0, 0, 0), (1, .iload_n 0, 0, 0, 0, 0, 0), (2, .i2l, 0, 0, 0, 0, 0), (3, .iload_n 1, 0, 0, 0, 0, 0), (4, .i2l, 0, 0, 0, 0, 0), (5, .lmul, 0, 0, 0, 0, 0), (6, .ldc2_w 392, 0, 0, 2208, 0, 100), (9, .ldiv, 0, 0, 0, 0, 0), (10, .l2i, 0, 0, 0, 0, 0), (11, .iadd, 0, 0, 0, 0, 0), (12, .iconst 1, 0, 0, 0, 1, 0), (13, .iadd, 0, 0, 0, 0, 0)]
theorem oX12_nextGift_0 : bX12_nextGift_0.all (mz_ok RX12 cX12_nextGift 2) = true := by decide +kernel
abbrev IX12_nextGift : mz_I := (yX12_nextGift, cX12_nextGift, 2, (some .int), 9, 0, 0, 0)
theorem kX12_nextGift : mz_okm IX12_nextGift 2212 141 2211 2 = true := by decide +kernel
theorem vX12_nextGift : mz_okS IX12_nextGift 2211 = true := by decide +kernel
theorem mX12_nextGift (x0 : Int32) (x1 : Int32) (D : mz_D) : mz_Met IX12_nextGift [.inl x0, .inl x1] D (some (.inl ((x0 + ((((x0).toInt64 * (x1).toInt64) / (100 : Int64))).toInt32) + (1 : Int32))), D) := by
  refine mz_Met.of (by decide +kernel) (Nat.le_of_ble_eq_true rfl) ?_
  show mz_Go IX12_nextGift (some (.inl ((x0 + ((((x0).toInt64 * (x1).toInt64) / (100 : Int64))).toInt32) + (1 : Int32))), D) 0 0 (0, [some (.inl x0), some (.inl x1)], [], D)
  refine mz_Go.run (gs := [mz_nzl (100 : Int64)]) (st' := (14, [some (.inl x0), some (.inl x1)], [.inl ((x0 + ((((x0).toInt64 * (x1).toInt64) / (100 : Int64))).toInt32) + (1 : Int32))], D)) bX12_nextGift_0 oX12_nextGift_0 rfl ⟨(by decide), trivial⟩ ?_
  exact mz_Go.reti (by decide +kernel) rfl ⟨Nat.le_refl _, Nat.le_refl _⟩ rfl
def bX12_areGifts_0 : List mz_E := [(0, .iload_n 1, 0, 0, 0, 0, 0), (1, .i2l, 0, 0, 0, 0, 0), (2, .lconst 1, 0, 0, 0, 0, 1), (3, .ldc2_w 300, 0, 0, 1973, 0, 999)]
theorem oX12_areGifts_0 : bX12_areGifts_0.all (mz_ok RX12 cX12_areGifts 3) = true := by decide +kernel
def bX12_areGifts_9 : List mz_E := [(9, .ifCond .eq 19, 0, 28, 0, 0, 0)]
theorem oX12_areGifts_9 : bX12_areGifts_9.all (mz_ok RX12 cX12_areGifts 3) = true := by decide +kernel
def bX12_areGifts_28 : List mz_E := [(28, .iconst 0, 0, 0, 0, 0, 0)]
theorem oX12_areGifts_28 : bX12_areGifts_28.all (mz_ok RX12 cX12_areGifts 3) = true := by decide +kernel
def bX12_areGifts_12 : List mz_E := [(12, .iload_n 2, 0, 0, 0, 0, 0), (13, .i2l, 0, 0, 0, 0, 0), (14, .lconst 0, 0, 0, 0, 0, 0), (15, .ldc2_w 392, 0, 0, 2208, 0, 100)]
theorem oX12_areGifts_12 : bX12_areGifts_12.all (mz_ok RX12 cX12_areGifts 3) = true := by decide +kernel
def bX12_areGifts_21 : List mz_E := [(21, .ifCond .eq 7, 0, 28, 0, 0, 0)]
theorem oX12_areGifts_21 : bX12_areGifts_21.all (mz_ok RX12 cX12_areGifts 3) = true := by decide +kernel
def bX12_areGifts_24 : List mz_E := [(24, .iconst 1, 0, 0, 0, 1, 0), (25, .goto 4, 0, 29, 0, 0, 0)]
theorem oX12_areGifts_24 : bX12_areGifts_24.all (mz_ok RX12 cX12_areGifts 3) = true := by decide +kernel
abbrev IX12_areGifts : mz_I := (yX12_areGifts, cX12_areGifts, 3, (some .boolean), 9, 1, 0, 0)
theorem kX12_areGifts : mz_okm IX12_areGifts 2207 141 2206 2 = true := by decide +kernel
theorem vX12_areGifts : mz_okV IX12_areGifts 2206 113 = true := by decide +kernel
def fX12_areGifts (x1 : Int32) (x2 : Int32) : Int32 := (if (fX12_isFrom (x1).toInt64 (1 : Int64) (999 : Int64)) = 0 then (0 : Int32) else (if (fX12_isFrom (x2).toInt64 (0 : Int64) (100 : Int64)) = 0 then (0 : Int32) else (1 : Int32)))
set_option maxHeartbeats 4000000 in
theorem mX12_areGifts (x1 : Int32) (x2 : Int32) (D : mz_D) (r : Int32) (h : fX12_areGifts x1 x2 = r) : mz_Met IX12_areGifts [.inr (.inr (some (0, 200))), .inl x1, .inl x2] D (some (.inl r), D) := by
  refine mz_Met.of (by decide +kernel) (Nat.le_of_ble_eq_true rfl) ?_
  show mz_Go IX12_areGifts (some (.inl r), D) 0 0 (0, [some (.inr (.inr (some (0, 200)))), some (.inl x1), some (.inl x2)], [], D)
  rw [fX12_areGifts] at h
  refine mz_Go.run (gs := []) (st' := (6, [some (.inr (.inr (some (0, 200)))), some (.inl x1), some (.inl x2)], [.inr (.inl (999 : Int64)), .inr (.inl (1 : Int64)), .inr (.inl (x1).toInt64)], D)) bX12_areGifts_0 oX12_areGifts_0 rfl trivial ?_
  refine mz_Go.callS (I := IX12_areGifts) (J := IX12_isFrom) (as := [.inr (.inl (x1).toInt64), .inr (.inl (1 : Int64)), .inr (.inl (999 : Int64))]) (idx := 302) (pl := 1974) (rest := []) (mX12_isFrom (x1).toInt64 (1 : Int64) (999 : Int64) D _ rfl) kX12_isFrom vX12_isFrom (by decide +kernel) (by decide +kernel) (by decide +kernel) rfl rfl ⟨rfl, rfl⟩ rfl ?_
  refine mz_Go.run (gs := []) (st' := (if (fX12_isFrom (x1).toInt64 (1 : Int64) (999 : Int64)) = 0 then (28, [some (.inr (.inr (some (0, 200)))), some (.inl x1), some (.inl x2)], [], D) else (12, [some (.inr (.inr (some (0, 200)))), some (.inl x1), some (.inl x2)], [], D))) bX12_areGifts_9 oX12_areGifts_9 rfl trivial ?_
  refine mz_Go.ite (fun hc1 => ?_) (fun hc1 => ?_)
  · have h := mz_ifp hc1 h
    refine mz_Go.run (gs := []) (st' := (29, [some (.inr (.inr (some (0, 200)))), some (.inl x1), some (.inl x2)], [.inl (0 : Int32)], D)) bX12_areGifts_28 oX12_areGifts_28 rfl trivial ?_
    subst h
    exact mz_Go.retz (by decide +kernel) rfl ⟨Nat.le_refl _, Nat.le_refl _⟩ (by decide) rfl
  · have h := mz_ifn hc1 h
    refine mz_Go.run (gs := []) (st' := (18, [some (.inr (.inr (some (0, 200)))), some (.inl x1), some (.inl x2)], [.inr (.inl (100 : Int64)), .inr (.inl (0 : Int64)), .inr (.inl (x2).toInt64)], D)) bX12_areGifts_12 oX12_areGifts_12 rfl trivial ?_
    refine mz_Go.callS (I := IX12_areGifts) (J := IX12_isFrom) (as := [.inr (.inl (x2).toInt64), .inr (.inl (0 : Int64)), .inr (.inl (100 : Int64))]) (idx := 302) (pl := 1974) (rest := []) (mX12_isFrom (x2).toInt64 (0 : Int64) (100 : Int64) D _ rfl) kX12_isFrom vX12_isFrom (by decide +kernel) (by decide +kernel) (by decide +kernel) rfl rfl ⟨rfl, rfl⟩ rfl ?_
    refine mz_Go.run (gs := []) (st' := (if (fX12_isFrom (x2).toInt64 (0 : Int64) (100 : Int64)) = 0 then (28, [some (.inr (.inr (some (0, 200)))), some (.inl x1), some (.inl x2)], [], D) else (24, [some (.inr (.inr (some (0, 200)))), some (.inl x1), some (.inl x2)], [], D))) bX12_areGifts_21 oX12_areGifts_21 rfl trivial ?_
    refine mz_Go.ite (fun hc2 => ?_) (fun hc2 => ?_)
    · have h := mz_ifp hc2 h
      refine mz_Go.run (gs := []) (st' := (29, [some (.inr (.inr (some (0, 200)))), some (.inl x1), some (.inl x2)], [.inl (0 : Int32)], D)) bX12_areGifts_28 oX12_areGifts_28 rfl trivial ?_
      subst h
      exact mz_Go.retz (by decide +kernel) rfl ⟨Nat.le_refl _, Nat.le_refl _⟩ (by decide) rfl
    · have h := mz_ifn hc2 h
      refine mz_Go.run (gs := []) (st' := (29, [some (.inr (.inr (some (0, 200)))), some (.inl x1), some (.inl x2)], [.inl (1 : Int32)], D)) bX12_areGifts_24 oX12_areGifts_24 rfl trivial ?_
      subst h
      exact mz_Go.retz (by decide +kernel) rfl ⟨Nat.le_refl _, Nat.le_refl _⟩ (by decide) rfl
def bX12_giftAt_0 : List mz_E := [(0, .aload_n 0, 0, 0, 0, 0, 0), (1, .iload_n 1, 0, 0, 0, 0, 0), (2, .iload_n 2, 0, 0, 0, 0, 0)]
theorem oX12_giftAt_0 : bX12_giftAt_0.all (mz_ok RX12 cX12_giftAt 6) = true := by decide +kernel
def bX12_giftAt_6 : List mz_E := [(6, .ifCond .eq 15, 0, 21, 0, 0, 0)]
theorem oX12_giftAt_6 : bX12_giftAt_6.all (mz_ok RX12 cX12_giftAt 6) = true := by decide +kernel
def bX12_giftAt_21 : List mz_E := [(21, .aload_n 0, 0, 0, 0, 0, 0), (22, .iconst 1, 0, 0, 0, 1, 0)]
theorem oX12_giftAt_21 : bX12_giftAt_21.all (mz_ok RX12 cX12_giftAt 6) = true := by decide +kernel
def bX12_giftAt_9 : List mz_E := [(9, .iload_n 3, 0, 0, 0, 0, 0), (10, .i2l, 0, 0, 0, 0, 0), (11, .lconst 0, 0, 0, 0, 0, 0), (12, .ldc2_w 397, 0, 0, 2209, 0, 60)]
theorem oX12_giftAt_9 : bX12_giftAt_9.all (mz_ok RX12 cX12_giftAt 6) = true := by decide +kernel
def bX12_giftAt_18 : List mz_E := [(18, .ifCond .ne 9, 0, 27, 0, 0, 0)]
theorem oX12_giftAt_18 : bX12_giftAt_18.all (mz_ok RX12 cX12_giftAt 6) = true := by decide +kernel
def bX12_giftAt_27 : List mz_E := [(27, .iload_n 1, 0, 0, 0, 0, 0), (28, .istore 4, 0, 0, 0, 0, 0), (30, .iconst 0, 0, 0, 0, 0, 0), (31, .istore 5, 0, 0, 0, 0, 0)]
theorem oX12_giftAt_27 : bX12_giftAt_27.all (mz_ok RX12 cX12_giftAt 6) = true := by decide +kernel
def bX12_giftAt_33 : List mz_E := [(33, .iload 5, 0, 0, 0, 0, 0), (35, .iload_n 3, 0, 0, 0, 0, 0), (36, .if_icmp .ge 25, 0, 61, 0, 0, 0)]
theorem oX12_giftAt_33 : bX12_giftAt_33.all (mz_ok RX12 cX12_giftAt 6) = true := by decide +kernel
def bX12_giftAt_61 : List mz_E := [(61, .iload 4, 0, 0, 0, 0, 0), (63, .ldc_w 315, 0, 0, 2011, 999999, 0), (66, .if_icmp .le 12, 0, 78, 0, 0, 0)]
theorem oX12_giftAt_61 : bX12_giftAt_61.all (mz_ok RX12 cX12_giftAt 6) = true := by decide +kernel
def bX12_giftAt_78 : List mz_E := [(78, .aload_n 0, 0, 0, 0, 0, 0), (79, .iload 4, 0, 0, 0, 0, 0)]
theorem oX12_giftAt_78 : bX12_giftAt_78.all (mz_ok RX12 cX12_giftAt 6) = true := by decide +kernel
def bX12_giftAt_69 : List mz_E := [(69, .aload_n 0, 0, 0, 0, 0, 0), (70, .bipush 7, 0, 0, 0, 7, 0)]
theorem oX12_giftAt_69 : bX12_giftAt_69.all (mz_ok RX12 cX12_giftAt 6) = true := by decide +kernel
def bX12_giftAt_75 : List mz_E := [(75, .goto 9, 0, 84, 0, 0, 0)]
theorem oX12_giftAt_75 : bX12_giftAt_75.all (mz_ok RX12 cX12_giftAt 6) = true := by decide +kernel
def bX12_giftAt_39 : List mz_E := [(39, .iload 4, 0, 0, 0, 0, 0), (41, .ldc_w 315, 0, 0, 2011, 999999, 0), (44, .if_icmp .gt 17, 0, 61, 0, 0, 0)]
theorem oX12_giftAt_39 : bX12_giftAt_39.all (mz_ok RX12 cX12_giftAt 6) = true := by decide +kernel
def bX12_giftAt_47 : List mz_E := [(47, .iload 4, 0, 0, 0, 0, 0), (49, .iload_n 2, 0, 0, 0, 0, 0)]
theorem oX12_giftAt_47 : bX12_giftAt_47.all (mz_ok RX12 cX12_giftAt 6) = true := by decide +kernel
def bX12_giftAt_53 : List mz_E := [(53, .istore 4, 0, 0, 0, 0, 0), (55, .iinc 5 1, 0, 0, 0, 1, 0), (58, .goto (-25), 0, 33, 0, 0, 0)]
theorem oX12_giftAt_53 : bX12_giftAt_53.all (mz_ok RX12 cX12_giftAt 6) = true := by decide +kernel
abbrev IX12_giftAt : mz_I := (yX12_giftAt, cX12_giftAt, 6, (some .int), 0, 2, 0, 0)
theorem kX12_giftAt : mz_okm IX12_giftAt 2203 141 2201 3 = true := by decide +kernel
theorem vX12_giftAt : mz_okV IX12_giftAt 2201 2202 = true := by decide +kernel
def fX12_giftAt_61 (x4 : Int32) (D : mz_D) : Option (Int32 × mz_D) := (if x4 ≤ (999999 : Int32) then (some (x4, (mz_wi D 0 200 2 (0 : Int32)))) else (some ((-1 : Int32), (mz_wi D 0 200 2 (7 : Int32)))))
set_option maxHeartbeats 4000000 in
theorem tX12_giftAt_61 (r : (Int32 × mz_D)) : ∀ (x4 : Int32) (D : mz_D), fX12_giftAt_61 x4 D = some r → mz_Go IX12_giftAt (some (.inl r.1), r.2) 0 0 (61, [some (.inr (.inr (some (0, 200)))), none, none, none, some (.inl x4), none], [], D) := by
  intro x4 D h
  rw [fX12_giftAt_61] at h
  refine mz_Go.run (gs := []) (st' := (if x4 ≤ (999999 : Int32) then (78, [some (.inr (.inr (some (0, 200)))), none, none, none, some (.inl x4), none], [], D) else (69, [some (.inr (.inr (some (0, 200)))), none, none, none, some (.inl x4), none], [], D))) bX12_giftAt_61 oX12_giftAt_61 rfl trivial ?_
  refine mz_Go.ite (fun hc1 => ?_) (fun hc1 => ?_)
  · have h := mz_ifp hc1 h
    refine mz_Go.run (gs := []) (st' := (81, [some (.inr (.inr (some (0, 200)))), none, none, none, some (.inl x4), none], [.inl x4, .inr (.inr (some (0, 200)))], D)) bX12_giftAt_78 oX12_giftAt_78 rfl trivial ?_
    refine mz_Go.callV (I := IX12_giftAt) (J := IX12_gives) (as := [.inl x4]) (ci := 12) (g := 0) (o := 200) (idx := 79) (pl := 1844) (rest := []) (mX12_gives x4 D) kX12_gives vX12_gives (by decide +kernel) (by decide +kernel) (by decide +kernel) rfl rfl ⟨rfl, rfl⟩ rfl rfl rfl rfl ?_
    cases h
    exact mz_Go.reti (by decide +kernel) rfl ⟨Nat.le_refl _, Nat.le_refl _⟩ rfl
  · have h := mz_ifn hc1 h
    refine mz_Go.run (gs := []) (st' := (72, [some (.inr (.inr (some (0, 200)))), none, none, none, some (.inl x4), none], [.inl (7 : Int32), .inr (.inr (some (0, 200)))], D)) bX12_giftAt_69 oX12_giftAt_69 rfl trivial ?_
    refine mz_Go.callV (I := IX12_giftAt) (J := IX12_refuse) (as := [.inl (7 : Int32)]) (ci := 12) (g := 0) (o := 200) (idx := 75) (pl := 1761) (rest := []) (mX12_refuse (7 : Int32) D) kX12_refuse vX12_refuse (by decide +kernel) (by decide +kernel) (by decide +kernel) rfl rfl ⟨rfl, rfl⟩ rfl rfl rfl rfl ?_
    refine mz_Go.run (gs := []) (st' := (84, [some (.inr (.inr (some (0, 200)))), none, none, none, some (.inl x4), none], [.inl (-1 : Int32)], (mz_wi D 0 200 2 (7 : Int32)))) bX12_giftAt_75 oX12_giftAt_75 rfl trivial ?_
    cases h
    exact mz_Go.reti (by decide +kernel) rfl ⟨Nat.le_refl _, Nat.le_refl _⟩ rfl
def fX12_giftAt_33 : Nat → Int32 → Int32 → Int32 → Int32 → mz_D → Option (Int32 × mz_D)
  | 0 => fun _ _ _ _ _ => none
  | n + 1 => fun x2 x3 x4 x5 D => (if x3 ≤ x5 then (fX12_giftAt_61 x4 D) else (if (999999 : Int32) < x4 then (fX12_giftAt_61 x4 D) else ((fX12_giftAt_33 n) x2 x3 ((x4 + ((((x4).toInt64 * (x2).toInt64) / (100 : Int64))).toInt32) + (1 : Int32)) (x5 + (1 : Int32)) D)))
set_option maxHeartbeats 4000000 in
theorem tX12_giftAt_33 (r : (Int32 × mz_D)) : ∀ (n : Nat) (x2 : Int32) (x3 : Int32) (x4 : Int32) (x5 : Int32) (D : mz_D), fX12_giftAt_33 n x2 x3 x4 x5 D = some r → mz_Go IX12_giftAt (some (.inl r.1), r.2) 0 0 (33, [some (.inr (.inr (some (0, 200)))), none, some (.inl x2), some (.inl x3), some (.inl x4), some (.inl x5)], [], D) := by
  intro n
  induction n with
  | zero => intro x2 x3 x4 x5 D h; have h : (none : Option (Int32 × mz_D)) = some r := h; cases h
  | succ n ih =>
    intro x2 x3 x4 x5 D h
    rw [fX12_giftAt_33] at h
    refine mz_Go.run (gs := []) (st' := (if x3 ≤ x5 then (61, [some (.inr (.inr (some (0, 200)))), none, some (.inl x2), some (.inl x3), some (.inl x4), some (.inl x5)], [], D) else (39, [some (.inr (.inr (some (0, 200)))), none, some (.inl x2), some (.inl x3), some (.inl x4), some (.inl x5)], [], D))) bX12_giftAt_33 oX12_giftAt_33 rfl trivial ?_
    refine mz_Go.ite (fun hc1 => ?_) (fun hc1 => ?_)
    · have h := mz_ifp hc1 h
      exact mz_Go.drop [true, false, false, false, true, false] (tX12_giftAt_61 r x4 D h)
    · have h := mz_ifn hc1 h
      refine mz_Go.run (gs := []) (st' := (if (999999 : Int32) < x4 then (61, [some (.inr (.inr (some (0, 200)))), none, some (.inl x2), some (.inl x3), some (.inl x4), some (.inl x5)], [], D) else (47, [some (.inr (.inr (some (0, 200)))), none, some (.inl x2), some (.inl x3), some (.inl x4), some (.inl x5)], [], D))) bX12_giftAt_39 oX12_giftAt_39 rfl trivial ?_
      refine mz_Go.ite (fun hc2 => ?_) (fun hc2 => ?_)
      · have h := mz_ifp hc2 h
        exact mz_Go.drop [true, false, false, false, true, false] (tX12_giftAt_61 r x4 D h)
      · have h := mz_ifn hc2 h
        refine mz_Go.run (gs := []) (st' := (50, [some (.inr (.inr (some (0, 200)))), none, some (.inl x2), some (.inl x3), some (.inl x4), some (.inl x5)], [.inl x2, .inl x4], D)) bX12_giftAt_47 oX12_giftAt_47 rfl trivial ?_
        refine mz_Go.callS (I := IX12_giftAt) (J := IX12_nextGift) (as := [.inl x4, .inl x2]) (idx := 399) (pl := 2210) (rest := []) (mX12_nextGift x4 x2 D) kX12_nextGift vX12_nextGift (by decide +kernel) (by decide +kernel) (by decide +kernel) rfl rfl ⟨rfl, rfl⟩ rfl ?_
        refine mz_Go.run (gs := []) (st' := (33, [some (.inr (.inr (some (0, 200)))), none, some (.inl x2), some (.inl x3), some (.inl ((x4 + ((((x4).toInt64 * (x2).toInt64) / (100 : Int64))).toInt32) + (1 : Int32))), some (.inl (x5 + (1 : Int32)))], [], D)) bX12_giftAt_53 oX12_giftAt_53 rfl trivial ?_
        exact mz_Go.drop [true, false, true, true, true, true] (ih x2 x3 ((x4 + ((((x4).toInt64 * (x2).toInt64) / (100 : Int64))).toInt32) + (1 : Int32)) (x5 + (1 : Int32)) D h)
def fX12_giftAt (x1 : Int32) (x2 : Int32) (x3 : Int32) (D : mz_D) : Option (Int32 × mz_D) := (if (fX12_areGifts x1 x2) = 0 then (some ((-1 : Int32), (mz_wi D 0 200 2 (1 : Int32)))) else (if (fX12_isFrom (x3).toInt64 (0 : Int64) (60 : Int64)) = 0 then (some ((-1 : Int32), (mz_wi D 0 200 2 (1 : Int32)))) else (fX12_giftAt_33 mz_N x2 x3 x1 (0 : Int32) D)))
set_option maxHeartbeats 4000000 in
theorem mX12_giftAt (x1 : Int32) (x2 : Int32) (x3 : Int32) (D : mz_D) (r : (Int32 × mz_D)) (h : fX12_giftAt x1 x2 x3 D = some r) : mz_Met IX12_giftAt [.inr (.inr (some (0, 200))), .inl x1, .inl x2, .inl x3] D (some (.inl r.1), r.2) := by
  refine mz_Met.of (by decide +kernel) (Nat.le_of_ble_eq_true rfl) ?_
  show mz_Go IX12_giftAt (some (.inl r.1), r.2) 0 0 (0, [some (.inr (.inr (some (0, 200)))), some (.inl x1), some (.inl x2), some (.inl x3), none, none], [], D)
  rw [fX12_giftAt] at h
  refine mz_Go.run (gs := []) (st' := (3, [some (.inr (.inr (some (0, 200)))), some (.inl x1), some (.inl x2), some (.inl x3), none, none], [.inl x2, .inl x1, .inr (.inr (some (0, 200)))], D)) bX12_giftAt_0 oX12_giftAt_0 rfl trivial ?_
  refine mz_Go.callV (I := IX12_giftAt) (J := IX12_areGifts) (as := [.inl x1, .inl x2]) (ci := 12) (g := 0) (o := 200) (idx := 394) (pl := 2204) (rest := []) (mX12_areGifts x1 x2 D _ rfl) kX12_areGifts vX12_areGifts (by decide +kernel) (by decide +kernel) (by decide +kernel) rfl rfl ⟨rfl, rfl⟩ rfl rfl rfl rfl ?_
  refine mz_Go.run (gs := []) (st' := (if (fX12_areGifts x1 x2) = 0 then (21, [some (.inr (.inr (some (0, 200)))), some (.inl x1), some (.inl x2), some (.inl x3), none, none], [], D) else (9, [some (.inr (.inr (some (0, 200)))), some (.inl x1), some (.inl x2), some (.inl x3), none, none], [], D))) bX12_giftAt_6 oX12_giftAt_6 rfl trivial ?_
  refine mz_Go.ite (fun hc1 => ?_) (fun hc1 => ?_)
  · have h := mz_ifp hc1 h
    refine mz_Go.run (gs := []) (st' := (23, [some (.inr (.inr (some (0, 200)))), some (.inl x1), some (.inl x2), some (.inl x3), none, none], [.inl (1 : Int32), .inr (.inr (some (0, 200)))], D)) bX12_giftAt_21 oX12_giftAt_21 rfl trivial ?_
    refine mz_Go.callV (I := IX12_giftAt) (J := IX12_refuse) (as := [.inl (1 : Int32)]) (ci := 12) (g := 0) (o := 200) (idx := 75) (pl := 1761) (rest := []) (mX12_refuse (1 : Int32) D) kX12_refuse vX12_refuse (by decide +kernel) (by decide +kernel) (by decide +kernel) rfl rfl ⟨rfl, rfl⟩ rfl rfl rfl rfl ?_
    cases h
    exact mz_Go.reti (by decide +kernel) rfl ⟨Nat.le_refl _, Nat.le_refl _⟩ rfl
  · have h := mz_ifn hc1 h
    refine mz_Go.run (gs := []) (st' := (15, [some (.inr (.inr (some (0, 200)))), some (.inl x1), some (.inl x2), some (.inl x3), none, none], [.inr (.inl (60 : Int64)), .inr (.inl (0 : Int64)), .inr (.inl (x3).toInt64)], D)) bX12_giftAt_9 oX12_giftAt_9 rfl trivial ?_
    refine mz_Go.callS (I := IX12_giftAt) (J := IX12_isFrom) (as := [.inr (.inl (x3).toInt64), .inr (.inl (0 : Int64)), .inr (.inl (60 : Int64))]) (idx := 302) (pl := 1974) (rest := []) (mX12_isFrom (x3).toInt64 (0 : Int64) (60 : Int64) D _ rfl) kX12_isFrom vX12_isFrom (by decide +kernel) (by decide +kernel) (by decide +kernel) rfl rfl ⟨rfl, rfl⟩ rfl ?_
    refine mz_Go.run (gs := []) (st' := (if (fX12_isFrom (x3).toInt64 (0 : Int64) (60 : Int64)) = 0 then (21, [some (.inr (.inr (some (0, 200)))), some (.inl x1), some (.inl x2), some (.inl x3), none, none], [], D) else (27, [some (.inr (.inr (some (0, 200)))), some (.inl x1), some (.inl x2), some (.inl x3), none, none], [], D))) bX12_giftAt_18 oX12_giftAt_18 rfl trivial ?_
    refine mz_Go.ite (fun hc2 => ?_) (fun hc2 => ?_)
    · have h := mz_ifp hc2 h
      refine mz_Go.run (gs := []) (st' := (23, [some (.inr (.inr (some (0, 200)))), some (.inl x1), some (.inl x2), some (.inl x3), none, none], [.inl (1 : Int32), .inr (.inr (some (0, 200)))], D)) bX12_giftAt_21 oX12_giftAt_21 rfl trivial ?_
      refine mz_Go.callV (I := IX12_giftAt) (J := IX12_refuse) (as := [.inl (1 : Int32)]) (ci := 12) (g := 0) (o := 200) (idx := 75) (pl := 1761) (rest := []) (mX12_refuse (1 : Int32) D) kX12_refuse vX12_refuse (by decide +kernel) (by decide +kernel) (by decide +kernel) rfl rfl ⟨rfl, rfl⟩ rfl rfl rfl rfl ?_
      cases h
      exact mz_Go.reti (by decide +kernel) rfl ⟨Nat.le_refl _, Nat.le_refl _⟩ rfl
    · have h := mz_ifn hc2 h
      refine mz_Go.run (gs := []) (st' := (33, [some (.inr (.inr (some (0, 200)))), some (.inl x1), some (.inl x2), some (.inl x3), some (.inl x1), some (.inl (0 : Int32))], [], D)) bX12_giftAt_27 oX12_giftAt_27 rfl trivial ?_
      exact mz_Go.drop [true, false, true, true, true, true] (tX12_giftAt_33 r mz_N x2 x3 x1 (0 : Int32) D h)
def bX12_endOf_0 : List mz_E := [(0, .iload_n 3, 0, 0, 0, 0, 0), (1, .istore 5, 0, 0, 0, 0, 0), (3, .iconst 0, 0, 0, 0, 0, 0), (4, .istore 6, 0, 0, 0, 0, 0), (6, .aload_n 0, 0, 0, 0, 0, 0), (7, .iconst 0, 0, 0, 0, 0, 0), (8, .putfield 402, 12, 27, 1603, 0, 0)]
theorem oX12_endOf_0 : bX12_endOf_0.all (mz_ok RX12 cX12_endOf 7) = true := by decide +kernel
def bX12_endOf_11 : List mz_E := [(11, .iload 5, 0, 0, 0, 0, 0), (13, .aload_n 0, 0, 0, 0, 0, 0), (14, .getfield 7, 12, 0, 1576, 0, 0), (17, .iload 6, 0, 0, 0, 0, 0), (19, .iconst 2, 0, 0, 0, 2, 0), (20, .irem, 0, 0, 0, 0, 0), (21, .ifCond .ne 7, 0, 28, 0, 0, 0)]
theorem oX12_endOf_11 : bX12_endOf_11.all (mz_ok RX12 cX12_endOf 7) = true := by decide +kernel
def bX12_endOf_24 : List mz_E := [(24, .iload_n 1, 0, 0, 0, 0, 0), (25, .goto 4, 0, 29, 0, 0, 0)]
theorem oX12_endOf_24 : bX12_endOf_24.all (mz_ok RX12 cX12_endOf 7) = true := by decide +kernel
def bX12_endOf_32 : List mz_E := [(32, .iconst 3, 0, 0, 0, 3, 0), (33, .iadd, 0, 0, 0, 0, 0), (34, .iaload, 0, 0, 0, 0, 0), (35, .if_icmp .gt 29, 0, 64, 0, 0, 0)]
theorem oX12_endOf_32 : bX12_endOf_32.all (mz_ok RX12 cX12_endOf 7) = true := by decide +kernel
def bX12_endOf_64 : List mz_E := [(64, .iload 6, 0, 0, 0, 0, 0)]
theorem oX12_endOf_64 : bX12_endOf_64.all (mz_ok RX12 cX12_endOf 7) = true := by decide +kernel
def bX12_endOf_38 : List mz_E := [(38, .aload_n 0, 0, 0, 0, 0, 0), (39, .dup, 0, 0, 0, 0, 0), (40, .getfield 402, 12, 27, 1603, 0, 0), (43, .iload 5, 0, 0, 0, 0, 0), (45, .iadd, 0, 0, 0, 0, 0), (46, .putfield 402, 12, 27, 1603, 0, 0), (49, .iload 5, 0, 0, 0, 0, 0), (51, .iload 4, 0, 0, 0, 0, 0)]
theorem oX12_endOf_38 : bX12_endOf_38.all (mz_ok RX12 cX12_endOf 7) = true := by decide +kernel
def bX12_endOf_56 : List mz_E := [(56, .istore 5, 0, 0, 0, 0, 0), (58, .iinc 6 1, 0, 0, 0, 1, 0), (61, .goto (-50), 0, 11, 0, 0, 0)]
theorem oX12_endOf_56 : bX12_endOf_56.all (mz_ok RX12 cX12_endOf 7) = true := by decide +kernel
def bX12_endOf_28 : List mz_E := [(28, .iload_n 2, 0, 0, 0, 0, 0)]
theorem oX12_endOf_28 : bX12_endOf_28.all (mz_ok RX12 cX12_endOf 7) = true := by decide +kernel
abbrev IX12_endOf : mz_I := (yX12_endOf, cX12_endOf, 7, (some .int), 0, 1, 0, 0)
theorem kX12_endOf : mz_okm IX12_endOf 2220 141 2219 4 = true := by decide +kernel
theorem vX12_endOf : mz_okV IX12_endOf 2219 114 = true := by decide +kernel
def fX12_endOf_29 (k11 : Int32 → Int32 → Int32 → Int32 → Int32 → mz_D → Option (Int32 × mz_D)) (x1 : Int32) (x2 : Int32) (x4 : Int32) (x5 : Int32) (x6 : Int32) (s0 : Int32) (s2 : Int32) (D : mz_D) : Option (Int32 × mz_D) := (mz_gd (mz_ix (((12 : Int32) + ((8 : Int32) * s0)) + (3 : Int32)) 3000) (if (D.1 0 201 ((((12 : Int32) + ((8 : Int32) * s0)) + (3 : Int32))).toNatClampNeg) < s2 then (some (x6, D)) else (k11 x1 x2 x4 ((x5 + ((((x5).toInt64 * (x4).toInt64) / (100 : Int64))).toInt32) + (1 : Int32)) (x6 + (1 : Int32)) (mz_wi D 0 200 27 ((D.1 0 200 27) + x5)))))
set_option maxHeartbeats 4000000 in
theorem tX12_endOf_29 (r : (Int32 × mz_D)) (k11 : Int32 → Int32 → Int32 → Int32 → Int32 → mz_D → Option (Int32 × mz_D)) (hk11 : ∀ (x1 : Int32) (x2 : Int32) (x4 : Int32) (x5 : Int32) (x6 : Int32) (D : mz_D), k11 x1 x2 x4 x5 x6 D = some r → mz_Go IX12_endOf (some (.inl r.1), r.2) 0 0 (11, [some (.inr (.inr (some (0, 200)))), some (.inl x1), some (.inl x2), none, some (.inl x4), some (.inl x5), some (.inl x6)], [], D)) : ∀ (x1 : Int32) (x2 : Int32) (x4 : Int32) (x5 : Int32) (x6 : Int32) (s0 : Int32) (s2 : Int32) (D : mz_D), fX12_endOf_29 k11 x1 x2 x4 x5 x6 s0 s2 D = some r → mz_Go IX12_endOf (some (.inl r.1), r.2) 0 0 (29, [some (.inr (.inr (some (0, 200)))), some (.inl x1), some (.inl x2), none, some (.inl x4), some (.inl x5), some (.inl x6)], [.inl s0, .inr (.inr (some (0, 201))), .inl s2], D) := by
  intro x1 x2 x4 x5 x6 s0 s2 D h
  rw [fX12_endOf_29] at h
  refine mz_Go.callS (I := IX12_endOf) (J := IX12_personRow) (as := [.inl s0]) (idx := 267) (pl := 1895) (rest := [.inr (.inr (some (0, 201))), .inl s2]) (mX12_personRow s0 D) kX12_personRow vX12_personRow (by decide +kernel) (by decide +kernel) (by decide +kernel) rfl rfl ⟨rfl, rfl⟩ rfl ?_
  obtain ⟨hb1, h⟩ := mz_gd_some h
  refine mz_Go.run (gs := [mz_kz 0 0 201, mz_ix (((12 : Int32) + ((8 : Int32) * s0)) + (3 : Int32)) 3000]) (st' := (if (D.1 0 201 ((((12 : Int32) + ((8 : Int32) * s0)) + (3 : Int32))).toNatClampNeg) < s2 then (64, [some (.inr (.inr (some (0, 200)))), some (.inl x1), some (.inl x2), none, some (.inl x4), some (.inl x5), some (.inl x6)], [], D) else (38, [some (.inr (.inr (some (0, 200)))), some (.inl x1), some (.inl x2), none, some (.inl x4), some (.inl x5), some (.inl x6)], [], D))) bX12_endOf_32 oX12_endOf_32 rfl ⟨rfl, hb1, trivial⟩ ?_
  refine mz_Go.ite (fun hc2 => ?_) (fun hc2 => ?_)
  · have h := mz_ifp hc2 h
    refine mz_Go.run (gs := []) (st' := (66, [some (.inr (.inr (some (0, 200)))), some (.inl x1), some (.inl x2), none, some (.inl x4), some (.inl x5), some (.inl x6)], [.inl x6], D)) bX12_endOf_64 oX12_endOf_64 rfl trivial ?_
    cases h
    exact mz_Go.reti (by decide +kernel) rfl ⟨Nat.le_refl _, Nat.le_refl _⟩ rfl
  · have h := mz_ifn hc2 h
    refine mz_Go.run (gs := [mz_kz 0 0 200, mz_kz 0 0 200]) (st' := (53, [some (.inr (.inr (some (0, 200)))), some (.inl x1), some (.inl x2), none, some (.inl x4), some (.inl x5), some (.inl x6)], [.inl x4, .inl x5], (mz_wi D 0 200 27 ((D.1 0 200 27) + x5)))) bX12_endOf_38 oX12_endOf_38 rfl ⟨rfl, rfl, trivial⟩ ?_
    refine mz_Go.callS (I := IX12_endOf) (J := IX12_nextGift) (as := [.inl x5, .inl x4]) (idx := 399) (pl := 2210) (rest := []) (mX12_nextGift x5 x4 (mz_wi D 0 200 27 ((D.1 0 200 27) + x5))) kX12_nextGift vX12_nextGift (by decide +kernel) (by decide +kernel) (by decide +kernel) rfl rfl ⟨rfl, rfl⟩ rfl ?_
    refine mz_Go.run (gs := []) (st' := (11, [some (.inr (.inr (some (0, 200)))), some (.inl x1), some (.inl x2), none, some (.inl x4), some (.inl ((x5 + ((((x5).toInt64 * (x4).toInt64) / (100 : Int64))).toInt32) + (1 : Int32))), some (.inl (x6 + (1 : Int32)))], [], (mz_wi D 0 200 27 ((D.1 0 200 27) + x5)))) bX12_endOf_56 oX12_endOf_56 rfl trivial ?_
    exact mz_Go.drop [true, true, true, false, true, true, true] (hk11 x1 x2 x4 ((x5 + ((((x5).toInt64 * (x4).toInt64) / (100 : Int64))).toInt32) + (1 : Int32)) (x6 + (1 : Int32)) (mz_wi D 0 200 27 ((D.1 0 200 27) + x5)) h)
def fX12_endOf_11 : Nat → Int32 → Int32 → Int32 → Int32 → Int32 → mz_D → Option (Int32 × mz_D)
  | 0 => fun _ _ _ _ _ _ => none
  | n + 1 => fun x1 x2 x4 x5 x6 D => (if (x6 - x6 / (2 : Int32) * (2 : Int32)) = 0 then (fX12_endOf_29 (fX12_endOf_11 n) x1 x2 x4 x5 x6 x1 x5 D) else (fX12_endOf_29 (fX12_endOf_11 n) x1 x2 x4 x5 x6 x2 x5 D))
set_option maxHeartbeats 4000000 in
theorem tX12_endOf_11 (r : (Int32 × mz_D)) : ∀ (n : Nat) (x1 : Int32) (x2 : Int32) (x4 : Int32) (x5 : Int32) (x6 : Int32) (D : mz_D), fX12_endOf_11 n x1 x2 x4 x5 x6 D = some r → mz_Go IX12_endOf (some (.inl r.1), r.2) 0 0 (11, [some (.inr (.inr (some (0, 200)))), some (.inl x1), some (.inl x2), none, some (.inl x4), some (.inl x5), some (.inl x6)], [], D) := by
  intro n
  induction n with
  | zero => intro x1 x2 x4 x5 x6 D h; have h : (none : Option (Int32 × mz_D)) = some r := h; cases h
  | succ n ih =>
    intro x1 x2 x4 x5 x6 D h
    rw [fX12_endOf_11] at h
    refine mz_Go.run (gs := [mz_kz 0 0 200, mz_nz (2 : Int32)]) (st' := (if (x6 - x6 / (2 : Int32) * (2 : Int32)) = 0 then (24, [some (.inr (.inr (some (0, 200)))), some (.inl x1), some (.inl x2), none, some (.inl x4), some (.inl x5), some (.inl x6)], [.inr (.inr (some (0, 201))), .inl x5], D) else (28, [some (.inr (.inr (some (0, 200)))), some (.inl x1), some (.inl x2), none, some (.inl x4), some (.inl x5), some (.inl x6)], [.inr (.inr (some (0, 201))), .inl x5], D))) bX12_endOf_11 oX12_endOf_11 rfl ⟨rfl, (by decide), trivial⟩ ?_
    refine mz_Go.ite (fun hc1 => ?_) (fun hc1 => ?_)
    · have h := mz_ifp hc1 h
      refine mz_Go.run (gs := []) (st' := (29, [some (.inr (.inr (some (0, 200)))), some (.inl x1), some (.inl x2), none, some (.inl x4), some (.inl x5), some (.inl x6)], [.inl x1, .inr (.inr (some (0, 201))), .inl x5], D)) bX12_endOf_24 oX12_endOf_24 rfl trivial ?_
      exact mz_Go.drop [true, true, true, false, true, true, true] (tX12_endOf_29 r (fX12_endOf_11 n) ih x1 x2 x4 x5 x6 x1 x5 D h)
    · have h := mz_ifn hc1 h
      refine mz_Go.run (gs := []) (st' := (29, [some (.inr (.inr (some (0, 200)))), some (.inl x1), some (.inl x2), none, some (.inl x4), some (.inl x5), some (.inl x6)], [.inl x2, .inr (.inr (some (0, 201))), .inl x5], D)) bX12_endOf_28 oX12_endOf_28 rfl trivial ?_
      exact mz_Go.drop [true, true, true, false, true, true, true] (tX12_endOf_29 r (fX12_endOf_11 n) ih x1 x2 x4 x5 x6 x2 x5 D h)
def fX12_endOf (x1 : Int32) (x2 : Int32) (x3 : Int32) (x4 : Int32) (D : mz_D) : Option (Int32 × mz_D) := (fX12_endOf_11 mz_N x1 x2 x4 x3 (0 : Int32) (mz_wi D 0 200 27 (0 : Int32)))
set_option maxHeartbeats 4000000 in
theorem mX12_endOf (x1 : Int32) (x2 : Int32) (x3 : Int32) (x4 : Int32) (D : mz_D) (r : (Int32 × mz_D)) (h : fX12_endOf x1 x2 x3 x4 D = some r) : mz_Met IX12_endOf [.inr (.inr (some (0, 200))), .inl x1, .inl x2, .inl x3, .inl x4] D (some (.inl r.1), r.2) := by
  refine mz_Met.of (by decide +kernel) (Nat.le_of_ble_eq_true rfl) ?_
  show mz_Go IX12_endOf (some (.inl r.1), r.2) 0 0 (0, [some (.inr (.inr (some (0, 200)))), some (.inl x1), some (.inl x2), some (.inl x3), some (.inl x4), none, none], [], D)
  rw [fX12_endOf] at h
  refine mz_Go.run (gs := [mz_kz 0 0 200]) (st' := (11, [some (.inr (.inr (some (0, 200)))), some (.inl x1), some (.inl x2), some (.inl x3), some (.inl x4), some (.inl x3), some (.inl (0 : Int32))], [], (mz_wi D 0 200 27 (0 : Int32)))) bX12_endOf_0 oX12_endOf_0 rfl ⟨rfl, trivial⟩ ?_
  exact mz_Go.drop [true, true, true, false, true, true, true] (tX12_endOf_11 r mz_N x1 x2 x4 x3 (0 : Int32) (mz_wi D 0 200 27 (0 : Int32)) h)
def bX12_ends_0 : List mz_E := [(0, .aload_n 0, 0, 0, 0, 0, 0), (1, .iload_n 1, 0, 0, 0, 0, 0), (2, .iload_n 2, 0, 0, 0, 0, 0)]
theorem oX12_ends_0 : bX12_ends_0.all (mz_ok RX12 cX12_ends 5) = true := by decide +kernel
def bX12_ends_6 : List mz_E := [(6, .ifCond .eq 29, 0, 35, 0, 0, 0)]
theorem oX12_ends_6 : bX12_ends_6.all (mz_ok RX12 cX12_ends 5) = true := by decide +kernel
def bX12_ends_35 : List mz_E := [(35, .aload_n 0, 0, 0, 0, 0, 0), (36, .iconst 1, 0, 0, 0, 1, 0)]
theorem oX12_ends_35 : bX12_ends_35.all (mz_ok RX12 cX12_ends 5) = true := by decide +kernel
def bX12_ends_9 : List mz_E := [(9, .aload_n 0, 0, 0, 0, 0, 0), (10, .iload_n 3, 0, 0, 0, 0, 0), (11, .iload 4, 0, 0, 0, 0, 0)]
theorem oX12_ends_9 : bX12_ends_9.all (mz_ok RX12 cX12_ends 5) = true := by decide +kernel
def bX12_ends_16 : List mz_E := [(16, .ifCond .eq 19, 0, 35, 0, 0, 0)]
theorem oX12_ends_16 : bX12_ends_16.all (mz_ok RX12 cX12_ends 5) = true := by decide +kernel
def bX12_ends_19 : List mz_E := [(19, .aload_n 0, 0, 0, 0, 0, 0), (20, .aload_n 0, 0, 0, 0, 0, 0), (21, .iload_n 1, 0, 0, 0, 0, 0), (22, .iload_n 2, 0, 0, 0, 0, 0), (23, .iload_n 3, 0, 0, 0, 0, 0), (24, .iload 4, 0, 0, 0, 0, 0)]
theorem oX12_ends_19 : bX12_ends_19.all (mz_ok RX12 cX12_ends 5) = true := by decide +kernel
def bX12_ends_32 : List mz_E := [(32, .goto 8, 0, 40, 0, 0, 0)]
theorem oX12_ends_32 : bX12_ends_32.all (mz_ok RX12 cX12_ends 5) = true := by decide +kernel
abbrev IX12_ends : mz_I := (yX12_ends, cX12_ends, 5, (some .int), 0, 2, 0, 0)
theorem kX12_ends : mz_okm IX12_ends 2216 141 2214 4 = true := by decide +kernel
theorem vX12_ends : mz_okV IX12_ends 2214 2215 = true := by decide +kernel
def fX12_ends (x1 : Int32) (x2 : Int32) (x3 : Int32) (x4 : Int32) (D : mz_D) : Option (Int32 × mz_D) := (if (fX12_areTwo x1 x2 D) = 0 then (some ((-1 : Int32), (mz_wi D 0 200 2 (1 : Int32)))) else (if (fX12_areGifts x3 x4) = 0 then (some ((-1 : Int32), (mz_wi D 0 200 2 (1 : Int32)))) else (Option.bind (fX12_endOf x1 x2 x3 x4 D) fun q3 => (some (q3.1, (mz_wi q3.2 0 200 2 (0 : Int32)))))))
set_option maxHeartbeats 4000000 in
theorem mX12_ends (x1 : Int32) (x2 : Int32) (x3 : Int32) (x4 : Int32) (D : mz_D) (r : (Int32 × mz_D)) (h : fX12_ends x1 x2 x3 x4 D = some r) : mz_Met IX12_ends [.inr (.inr (some (0, 200))), .inl x1, .inl x2, .inl x3, .inl x4] D (some (.inl r.1), r.2) := by
  refine mz_Met.of (by decide +kernel) (Nat.le_of_ble_eq_true rfl) ?_
  show mz_Go IX12_ends (some (.inl r.1), r.2) 0 0 (0, [some (.inr (.inr (some (0, 200)))), some (.inl x1), some (.inl x2), some (.inl x3), some (.inl x4)], [], D)
  rw [fX12_ends] at h
  refine mz_Go.run (gs := []) (st' := (3, [some (.inr (.inr (some (0, 200)))), some (.inl x1), some (.inl x2), some (.inl x3), some (.inl x4)], [.inl x2, .inl x1, .inr (.inr (some (0, 200)))], D)) bX12_ends_0 oX12_ends_0 rfl trivial ?_
  refine mz_Go.callV (I := IX12_ends) (J := IX12_areTwo) (as := [.inl x1, .inl x2]) (ci := 12) (g := 0) (o := 200) (idx := 331) (pl := 2036) (rest := []) (mX12_areTwo x1 x2 D _ rfl) kX12_areTwo vX12_areTwo (by decide +kernel) (by decide +kernel) (by decide +kernel) rfl rfl ⟨rfl, rfl⟩ rfl rfl rfl rfl ?_
  refine mz_Go.run (gs := []) (st' := (if (fX12_areTwo x1 x2 D) = 0 then (35, [some (.inr (.inr (some (0, 200)))), some (.inl x1), some (.inl x2), some (.inl x3), some (.inl x4)], [], D) else (9, [some (.inr (.inr (some (0, 200)))), some (.inl x1), some (.inl x2), some (.inl x3), some (.inl x4)], [], D))) bX12_ends_6 oX12_ends_6 rfl trivial ?_
  refine mz_Go.ite (fun hc1 => ?_) (fun hc1 => ?_)
  · have h := mz_ifp hc1 h
    refine mz_Go.run (gs := []) (st' := (37, [some (.inr (.inr (some (0, 200)))), some (.inl x1), some (.inl x2), some (.inl x3), some (.inl x4)], [.inl (1 : Int32), .inr (.inr (some (0, 200)))], D)) bX12_ends_35 oX12_ends_35 rfl trivial ?_
    refine mz_Go.callV (I := IX12_ends) (J := IX12_refuse) (as := [.inl (1 : Int32)]) (ci := 12) (g := 0) (o := 200) (idx := 75) (pl := 1761) (rest := []) (mX12_refuse (1 : Int32) D) kX12_refuse vX12_refuse (by decide +kernel) (by decide +kernel) (by decide +kernel) rfl rfl ⟨rfl, rfl⟩ rfl rfl rfl rfl ?_
    cases h
    exact mz_Go.reti (by decide +kernel) rfl ⟨Nat.le_refl _, Nat.le_refl _⟩ rfl
  · have h := mz_ifn hc1 h
    refine mz_Go.run (gs := []) (st' := (13, [some (.inr (.inr (some (0, 200)))), some (.inl x1), some (.inl x2), some (.inl x3), some (.inl x4)], [.inl x4, .inl x3, .inr (.inr (some (0, 200)))], D)) bX12_ends_9 oX12_ends_9 rfl trivial ?_
    refine mz_Go.callV (I := IX12_ends) (J := IX12_areGifts) (as := [.inl x3, .inl x4]) (ci := 12) (g := 0) (o := 200) (idx := 394) (pl := 2204) (rest := []) (mX12_areGifts x3 x4 D _ rfl) kX12_areGifts vX12_areGifts (by decide +kernel) (by decide +kernel) (by decide +kernel) rfl rfl ⟨rfl, rfl⟩ rfl rfl rfl rfl ?_
    refine mz_Go.run (gs := []) (st' := (if (fX12_areGifts x3 x4) = 0 then (35, [some (.inr (.inr (some (0, 200)))), some (.inl x1), some (.inl x2), some (.inl x3), some (.inl x4)], [], D) else (19, [some (.inr (.inr (some (0, 200)))), some (.inl x1), some (.inl x2), some (.inl x3), some (.inl x4)], [], D))) bX12_ends_16 oX12_ends_16 rfl trivial ?_
    refine mz_Go.ite (fun hc2 => ?_) (fun hc2 => ?_)
    · have h := mz_ifp hc2 h
      refine mz_Go.run (gs := []) (st' := (37, [some (.inr (.inr (some (0, 200)))), some (.inl x1), some (.inl x2), some (.inl x3), some (.inl x4)], [.inl (1 : Int32), .inr (.inr (some (0, 200)))], D)) bX12_ends_35 oX12_ends_35 rfl trivial ?_
      refine mz_Go.callV (I := IX12_ends) (J := IX12_refuse) (as := [.inl (1 : Int32)]) (ci := 12) (g := 0) (o := 200) (idx := 75) (pl := 1761) (rest := []) (mX12_refuse (1 : Int32) D) kX12_refuse vX12_refuse (by decide +kernel) (by decide +kernel) (by decide +kernel) rfl rfl ⟨rfl, rfl⟩ rfl rfl rfl rfl ?_
      cases h
      exact mz_Go.reti (by decide +kernel) rfl ⟨Nat.le_refl _, Nat.le_refl _⟩ rfl
    · have h := mz_ifn hc2 h
      refine mz_Go.run (gs := []) (st' := (26, [some (.inr (.inr (some (0, 200)))), some (.inl x1), some (.inl x2), some (.inl x3), some (.inl x4)], [.inl x4, .inl x3, .inl x2, .inl x1, .inr (.inr (some (0, 200))), .inr (.inr (some (0, 200)))], D)) bX12_ends_19 oX12_ends_19 rfl trivial ?_
      obtain ⟨q3, hq3, h⟩ := mz_bd_some h
      refine mz_Go.callV (I := IX12_ends) (J := IX12_endOf) (as := [.inl x1, .inl x2, .inl x3, .inl x4]) (ci := 12) (g := 0) (o := 200) (idx := 405) (pl := 2217) (rest := [.inr (.inr (some (0, 200)))]) (mX12_endOf x1 x2 x3 x4 D q3 hq3) kX12_endOf vX12_endOf (by decide +kernel) (by decide +kernel) (by decide +kernel) rfl rfl ⟨rfl, rfl⟩ rfl rfl rfl rfl ?_
      refine mz_Go.callV (I := IX12_ends) (J := IX12_gives) (as := [.inl q3.1]) (ci := 12) (g := 0) (o := 200) (idx := 79) (pl := 1844) (rest := []) (mX12_gives q3.1 q3.2) kX12_gives vX12_gives (by decide +kernel) (by decide +kernel) (by decide +kernel) rfl rfl ⟨rfl, rfl⟩ rfl rfl rfl rfl ?_
      refine mz_Go.run (gs := []) (st' := (40, [some (.inr (.inr (some (0, 200)))), some (.inl x1), some (.inl x2), some (.inl x3), some (.inl x4)], [.inl q3.1], (mz_wi q3.2 0 200 2 (0 : Int32)))) bX12_ends_32 oX12_ends_32 rfl trivial ?_
      cases h
      exact mz_Go.reti (by decide +kernel) rfl ⟨Nat.le_refl _, Nat.le_refl _⟩ rfl
def bX12_wasted_0 : List mz_E := [(0, .aload_n 0, 0, 0, 0, 0, 0), (1, .iload_n 1, 0, 0, 0, 0, 0), (2, .iload_n 2, 0, 0, 0, 0, 0)]
theorem oX12_wasted_0 : bX12_wasted_0.all (mz_ok RX12 cX12_wasted 5) = true := by decide +kernel
def bX12_wasted_6 : List mz_E := [(6, .ifCond .eq 13, 0, 19, 0, 0, 0)]
theorem oX12_wasted_6 : bX12_wasted_6.all (mz_ok RX12 cX12_wasted 5) = true := by decide +kernel
def bX12_wasted_19 : List mz_E := [(19, .aload_n 0, 0, 0, 0, 0, 0), (20, .iconst 1, 0, 0, 0, 1, 0)]
theorem oX12_wasted_19 : bX12_wasted_19.all (mz_ok RX12 cX12_wasted 5) = true := by decide +kernel
def bX12_wasted_9 : List mz_E := [(9, .aload_n 0, 0, 0, 0, 0, 0), (10, .iload_n 3, 0, 0, 0, 0, 0), (11, .iload 4, 0, 0, 0, 0, 0)]
theorem oX12_wasted_9 : bX12_wasted_9.all (mz_ok RX12 cX12_wasted 5) = true := by decide +kernel
def bX12_wasted_16 : List mz_E := [(16, .ifCond .ne 9, 0, 25, 0, 0, 0)]
theorem oX12_wasted_16 : bX12_wasted_16.all (mz_ok RX12 cX12_wasted 5) = true := by decide +kernel
def bX12_wasted_25 : List mz_E := [(25, .aload_n 0, 0, 0, 0, 0, 0), (26, .iload_n 1, 0, 0, 0, 0, 0), (27, .iload_n 2, 0, 0, 0, 0, 0), (28, .iload_n 3, 0, 0, 0, 0, 0), (29, .iload 4, 0, 0, 0, 0, 0)]
theorem oX12_wasted_25 : bX12_wasted_25.all (mz_ok RX12 cX12_wasted 5) = true := by decide +kernel
def bX12_wasted_34 : List mz_E := [(34, .pop, 0, 0, 0, 0, 0), (35, .aload_n 0, 0, 0, 0, 0, 0), (36, .aload_n 0, 0, 0, 0, 0, 0), (37, .getfield 402, 12, 27, 1603, 0, 0)]
theorem oX12_wasted_34 : bX12_wasted_34.all (mz_ok RX12 cX12_wasted 5) = true := by decide +kernel
abbrev IX12_wasted : mz_I := (yX12_wasted, cX12_wasted, 5, (some .int), 0, 2, 0, 0)
theorem kX12_wasted : mz_okm IX12_wasted 2224 141 2222 4 = true := by decide +kernel
theorem vX12_wasted : mz_okV IX12_wasted 2222 2223 = true := by decide +kernel
def fX12_wasted (x1 : Int32) (x2 : Int32) (x3 : Int32) (x4 : Int32) (D : mz_D) : Option (Int32 × mz_D) := (if (fX12_areTwo x1 x2 D) = 0 then (some ((-1 : Int32), (mz_wi D 0 200 2 (1 : Int32)))) else (if (fX12_areGifts x3 x4) = 0 then (some ((-1 : Int32), (mz_wi D 0 200 2 (1 : Int32)))) else (Option.bind (fX12_endOf x1 x2 x3 x4 D) fun q3 => (some ((q3.2.1 0 200 27), (mz_wi q3.2 0 200 2 (0 : Int32)))))))
set_option maxHeartbeats 4000000 in
theorem mX12_wasted (x1 : Int32) (x2 : Int32) (x3 : Int32) (x4 : Int32) (D : mz_D) (r : (Int32 × mz_D)) (h : fX12_wasted x1 x2 x3 x4 D = some r) : mz_Met IX12_wasted [.inr (.inr (some (0, 200))), .inl x1, .inl x2, .inl x3, .inl x4] D (some (.inl r.1), r.2) := by
  refine mz_Met.of (by decide +kernel) (Nat.le_of_ble_eq_true rfl) ?_
  show mz_Go IX12_wasted (some (.inl r.1), r.2) 0 0 (0, [some (.inr (.inr (some (0, 200)))), some (.inl x1), some (.inl x2), some (.inl x3), some (.inl x4)], [], D)
  rw [fX12_wasted] at h
  refine mz_Go.run (gs := []) (st' := (3, [some (.inr (.inr (some (0, 200)))), some (.inl x1), some (.inl x2), some (.inl x3), some (.inl x4)], [.inl x2, .inl x1, .inr (.inr (some (0, 200)))], D)) bX12_wasted_0 oX12_wasted_0 rfl trivial ?_
  refine mz_Go.callV (I := IX12_wasted) (J := IX12_areTwo) (as := [.inl x1, .inl x2]) (ci := 12) (g := 0) (o := 200) (idx := 331) (pl := 2036) (rest := []) (mX12_areTwo x1 x2 D _ rfl) kX12_areTwo vX12_areTwo (by decide +kernel) (by decide +kernel) (by decide +kernel) rfl rfl ⟨rfl, rfl⟩ rfl rfl rfl rfl ?_
  refine mz_Go.run (gs := []) (st' := (if (fX12_areTwo x1 x2 D) = 0 then (19, [some (.inr (.inr (some (0, 200)))), some (.inl x1), some (.inl x2), some (.inl x3), some (.inl x4)], [], D) else (9, [some (.inr (.inr (some (0, 200)))), some (.inl x1), some (.inl x2), some (.inl x3), some (.inl x4)], [], D))) bX12_wasted_6 oX12_wasted_6 rfl trivial ?_
  refine mz_Go.ite (fun hc1 => ?_) (fun hc1 => ?_)
  · have h := mz_ifp hc1 h
    refine mz_Go.run (gs := []) (st' := (21, [some (.inr (.inr (some (0, 200)))), some (.inl x1), some (.inl x2), some (.inl x3), some (.inl x4)], [.inl (1 : Int32), .inr (.inr (some (0, 200)))], D)) bX12_wasted_19 oX12_wasted_19 rfl trivial ?_
    refine mz_Go.callV (I := IX12_wasted) (J := IX12_refuse) (as := [.inl (1 : Int32)]) (ci := 12) (g := 0) (o := 200) (idx := 75) (pl := 1761) (rest := []) (mX12_refuse (1 : Int32) D) kX12_refuse vX12_refuse (by decide +kernel) (by decide +kernel) (by decide +kernel) rfl rfl ⟨rfl, rfl⟩ rfl rfl rfl rfl ?_
    cases h
    exact mz_Go.reti (by decide +kernel) rfl ⟨Nat.le_refl _, Nat.le_refl _⟩ rfl
  · have h := mz_ifn hc1 h
    refine mz_Go.run (gs := []) (st' := (13, [some (.inr (.inr (some (0, 200)))), some (.inl x1), some (.inl x2), some (.inl x3), some (.inl x4)], [.inl x4, .inl x3, .inr (.inr (some (0, 200)))], D)) bX12_wasted_9 oX12_wasted_9 rfl trivial ?_
    refine mz_Go.callV (I := IX12_wasted) (J := IX12_areGifts) (as := [.inl x3, .inl x4]) (ci := 12) (g := 0) (o := 200) (idx := 394) (pl := 2204) (rest := []) (mX12_areGifts x3 x4 D _ rfl) kX12_areGifts vX12_areGifts (by decide +kernel) (by decide +kernel) (by decide +kernel) rfl rfl ⟨rfl, rfl⟩ rfl rfl rfl rfl ?_
    refine mz_Go.run (gs := []) (st' := (if (fX12_areGifts x3 x4) = 0 then (19, [some (.inr (.inr (some (0, 200)))), some (.inl x1), some (.inl x2), some (.inl x3), some (.inl x4)], [], D) else (25, [some (.inr (.inr (some (0, 200)))), some (.inl x1), some (.inl x2), some (.inl x3), some (.inl x4)], [], D))) bX12_wasted_16 oX12_wasted_16 rfl trivial ?_
    refine mz_Go.ite (fun hc2 => ?_) (fun hc2 => ?_)
    · have h := mz_ifp hc2 h
      refine mz_Go.run (gs := []) (st' := (21, [some (.inr (.inr (some (0, 200)))), some (.inl x1), some (.inl x2), some (.inl x3), some (.inl x4)], [.inl (1 : Int32), .inr (.inr (some (0, 200)))], D)) bX12_wasted_19 oX12_wasted_19 rfl trivial ?_
      refine mz_Go.callV (I := IX12_wasted) (J := IX12_refuse) (as := [.inl (1 : Int32)]) (ci := 12) (g := 0) (o := 200) (idx := 75) (pl := 1761) (rest := []) (mX12_refuse (1 : Int32) D) kX12_refuse vX12_refuse (by decide +kernel) (by decide +kernel) (by decide +kernel) rfl rfl ⟨rfl, rfl⟩ rfl rfl rfl rfl ?_
      cases h
      exact mz_Go.reti (by decide +kernel) rfl ⟨Nat.le_refl _, Nat.le_refl _⟩ rfl
    · have h := mz_ifn hc2 h
      refine mz_Go.run (gs := []) (st' := (31, [some (.inr (.inr (some (0, 200)))), some (.inl x1), some (.inl x2), some (.inl x3), some (.inl x4)], [.inl x4, .inl x3, .inl x2, .inl x1, .inr (.inr (some (0, 200)))], D)) bX12_wasted_25 oX12_wasted_25 rfl trivial ?_
      obtain ⟨q3, hq3, h⟩ := mz_bd_some h
      refine mz_Go.callV (I := IX12_wasted) (J := IX12_endOf) (as := [.inl x1, .inl x2, .inl x3, .inl x4]) (ci := 12) (g := 0) (o := 200) (idx := 405) (pl := 2217) (rest := []) (mX12_endOf x1 x2 x3 x4 D q3 hq3) kX12_endOf vX12_endOf (by decide +kernel) (by decide +kernel) (by decide +kernel) rfl rfl ⟨rfl, rfl⟩ rfl rfl rfl rfl ?_
      refine mz_Go.run (gs := [mz_kz 0 0 200]) (st' := (40, [some (.inr (.inr (some (0, 200)))), some (.inl x1), some (.inl x2), some (.inl x3), some (.inl x4)], [.inl (q3.2.1 0 200 27), .inr (.inr (some (0, 200)))], q3.2)) bX12_wasted_34 oX12_wasted_34 rfl ⟨rfl, trivial⟩ ?_
      refine mz_Go.callV (I := IX12_wasted) (J := IX12_gives) (as := [.inl (q3.2.1 0 200 27)]) (ci := 12) (g := 0) (o := 200) (idx := 79) (pl := 1844) (rest := []) (mX12_gives (q3.2.1 0 200 27) q3.2) kX12_gives vX12_gives (by decide +kernel) (by decide +kernel) (by decide +kernel) rfl rfl ⟨rfl, rfl⟩ rfl rfl rfl rfl ?_
      cases h
      exact mz_Go.reti (by decide +kernel) rfl ⟨Nat.le_refl _, Nat.le_refl _⟩ rfl
def bX12_gifts_0 : List mz_E := [(0, .aload_n 0, 0, 0, 0, 0, 0), (1, .getfield 7, 12, 0, 1576, 0, 0), (4, .iload_n 2, 0, 0, 0, 0, 0), (5, .iload_n 1, 0, 0, 0, 0, 0)]
theorem oX12_gifts_0 : bX12_gifts_0.all (mz_ok RX12 cX12_gifts 4) = true := by decide +kernel
def bX12_gifts_9 : List mz_E := [(9, .iconst 0, 0, 0, 0, 0, 0), (10, .aload_n 0, 0, 0, 0, 0, 0), (11, .getfield 7, 12, 0, 1576, 0, 0), (14, .iload_n 2, 0, 0, 0, 0, 0), (15, .iload_n 1, 0, 0, 0, 0, 0)]
theorem oX12_gifts_9 : bX12_gifts_9.all (mz_ok RX12 cX12_gifts 4) = true := by decide +kernel
def bX12_gifts_19 : List mz_E := [(19, .iaload, 0, 0, 0, 0, 0), (20, .iload_n 3, 0, 0, 0, 0, 0), (21, .isub, 0, 0, 0, 0, 0)]
theorem oX12_gifts_19 : bX12_gifts_19.all (mz_ok RX12 cX12_gifts 4) = true := by decide +kernel
def bX12_gifts_25 : List mz_E := [(25, .iastore, 0, 0, 0, 0, 0), (26, .aload_n 0, 0, 0, 0, 0, 0), (27, .getfield 7, 12, 0, 1576, 0, 0), (30, .bipush 6, 0, 0, 0, 6, 0), (32, .dup2, 0, 0, 0, 0, 0), (33, .iaload, 0, 0, 0, 0, 0), (34, .iconst 1, 0, 0, 0, 1, 0), (35, .iadd, 0, 0, 0, 0, 0), (36, .iastore, 0, 0, 0, 0, 0)]
theorem oX12_gifts_25 : bX12_gifts_25.all (mz_ok RX12 cX12_gifts 4) = true := by decide +kernel
abbrev IX12_gifts : mz_I := (yX12_gifts, cX12_gifts, 4, none, 0, 1, 0, 0)
theorem kX12_gifts : mz_okm IX12_gifts 2232 141 2231 3 = true := by decide +kernel
theorem vX12_gifts : mz_okV IX12_gifts 2231 115 = true := by decide +kernel
def fX12_gifts (x1 : Int32) (x2 : Int32) (x3 : Int32) (D : mz_D) : Option mz_D := (mz_gd (mz_ix (((92 : Int32) + ((6 : Int32) * x2)) + x1) 3000) (some (mz_wi (mz_wi D 0 201 ((((92 : Int32) + ((6 : Int32) * x2)) + x1)).toNatClampNeg (fJ9_max_7cf53 (0 : Int32) ((D.1 0 201 ((((92 : Int32) + ((6 : Int32) * x2)) + x1)).toNatClampNeg) - x3))) 0 201 ((6 : Int32)).toNatClampNeg (((mz_wi D 0 201 ((((92 : Int32) + ((6 : Int32) * x2)) + x1)).toNatClampNeg (fJ9_max_7cf53 (0 : Int32) ((D.1 0 201 ((((92 : Int32) + ((6 : Int32) * x2)) + x1)).toNatClampNeg) - x3))).1 0 201 ((6 : Int32)).toNatClampNeg) + (1 : Int32)))))
set_option maxHeartbeats 4000000 in
theorem mX12_gifts (x1 : Int32) (x2 : Int32) (x3 : Int32) (D : mz_D) (r : mz_D) (h : fX12_gifts x1 x2 x3 D = some r) : mz_Met IX12_gifts [.inr (.inr (some (0, 200))), .inl x1, .inl x2, .inl x3] D (none, r) := by
  refine mz_Met.of (by decide +kernel) (Nat.le_of_ble_eq_true rfl) ?_
  show mz_Go IX12_gifts (none, r) 0 0 (0, [some (.inr (.inr (some (0, 200)))), some (.inl x1), some (.inl x2), some (.inl x3)], [], D)
  rw [fX12_gifts] at h
  refine mz_Go.run (gs := [mz_kz 0 0 200]) (st' := (6, [some (.inr (.inr (some (0, 200)))), some (.inl x1), some (.inl x2), some (.inl x3)], [.inl x1, .inl x2, .inr (.inr (some (0, 201)))], D)) bX12_gifts_0 oX12_gifts_0 rfl ⟨rfl, trivial⟩ ?_
  refine mz_Go.callS (I := IX12_gifts) (J := IX12_debtRow) (as := [.inl x2, .inl x1]) (idx := 312) (pl := 2008) (rest := [.inr (.inr (some (0, 201)))]) (mX12_debtRow x2 x1 D) kX12_debtRow vX12_debtRow (by decide +kernel) (by decide +kernel) (by decide +kernel) rfl rfl ⟨rfl, rfl⟩ rfl ?_
  refine mz_Go.run (gs := [mz_kz 0 0 200]) (st' := (16, [some (.inr (.inr (some (0, 200)))), some (.inl x1), some (.inl x2), some (.inl x3)], [.inl x1, .inl x2, .inr (.inr (some (0, 201))), .inl (0 : Int32), .inl (((92 : Int32) + ((6 : Int32) * x2)) + x1), .inr (.inr (some (0, 201)))], D)) bX12_gifts_9 oX12_gifts_9 rfl ⟨rfl, trivial⟩ ?_
  refine mz_Go.callS (I := IX12_gifts) (J := IX12_debtRow) (as := [.inl x2, .inl x1]) (idx := 312) (pl := 2008) (rest := [.inr (.inr (some (0, 201))), .inl (0 : Int32), .inl (((92 : Int32) + ((6 : Int32) * x2)) + x1), .inr (.inr (some (0, 201)))]) (mX12_debtRow x2 x1 D) kX12_debtRow vX12_debtRow (by decide +kernel) (by decide +kernel) (by decide +kernel) rfl rfl ⟨rfl, rfl⟩ rfl ?_
  obtain ⟨hb1, h⟩ := mz_gd_some h
  refine mz_Go.run (gs := [mz_kz 0 0 201, mz_ix (((92 : Int32) + ((6 : Int32) * x2)) + x1) 3000]) (st' := (22, [some (.inr (.inr (some (0, 200)))), some (.inl x1), some (.inl x2), some (.inl x3)], [.inl ((D.1 0 201 ((((92 : Int32) + ((6 : Int32) * x2)) + x1)).toNatClampNeg) - x3), .inl (0 : Int32), .inl (((92 : Int32) + ((6 : Int32) * x2)) + x1), .inr (.inr (some (0, 201)))], D)) bX12_gifts_19 oX12_gifts_19 rfl ⟨rfl, hb1, trivial⟩ ?_
  refine mz_Go.callS (I := IX12_gifts) (J := IJ9_max_7cf53) (as := [.inl (0 : Int32), .inl ((D.1 0 201 ((((92 : Int32) + ((6 : Int32) * x2)) + x1)).toNatClampNeg) - x3)]) (idx := 360) (pl := 2118) (rest := [.inl (((92 : Int32) + ((6 : Int32) * x2)) + x1), .inr (.inr (some (0, 201)))]) (mJ9_max_7cf53 (0 : Int32) ((D.1 0 201 ((((92 : Int32) + ((6 : Int32) * x2)) + x1)).toNatClampNeg) - x3) D _ rfl) kJ9_max_7cf53 vJ9_max_7cf53 (by decide +kernel) (by decide +kernel) (by decide +kernel) rfl rfl ⟨rfl, rfl⟩ rfl ?_
  refine mz_Go.run (gs := [mz_kz 0 0 201, mz_ix (((92 : Int32) + ((6 : Int32) * x2)) + x1) 3000, mz_kz 0 0 200, mz_kz 0 0 201, mz_ix (6 : Int32) 3000, mz_kz 0 0 201, mz_ix (6 : Int32) 3000]) (st' := (37, [some (.inr (.inr (some (0, 200)))), some (.inl x1), some (.inl x2), some (.inl x3)], [], (mz_wi (mz_wi D 0 201 ((((92 : Int32) + ((6 : Int32) * x2)) + x1)).toNatClampNeg (fJ9_max_7cf53 (0 : Int32) ((D.1 0 201 ((((92 : Int32) + ((6 : Int32) * x2)) + x1)).toNatClampNeg) - x3))) 0 201 ((6 : Int32)).toNatClampNeg (((mz_wi D 0 201 ((((92 : Int32) + ((6 : Int32) * x2)) + x1)).toNatClampNeg (fJ9_max_7cf53 (0 : Int32) ((D.1 0 201 ((((92 : Int32) + ((6 : Int32) * x2)) + x1)).toNatClampNeg) - x3))).1 0 201 ((6 : Int32)).toNatClampNeg) + (1 : Int32))))) bX12_gifts_25 oX12_gifts_25 rfl ⟨rfl, hb1, rfl, rfl, (by decide), rfl, (by decide), trivial⟩ ?_
  cases h
  exact mz_Go.retv (by decide +kernel) rfl ⟨Nat.le_refl _, Nat.le_refl _⟩ rfl
def bX12_gift_0 : List mz_E := [(0, .aload_n 0, 0, 0, 0, 0, 0), (1, .iload_n 1, 0, 0, 0, 0, 0), (2, .iload_n 2, 0, 0, 0, 0, 0)]
theorem oX12_gift_0 : bX12_gift_0.all (mz_ok RX12 cX12_gift 4) = true := by decide +kernel
def bX12_gift_6 : List mz_E := [(6, .ifCond .eq 15, 0, 21, 0, 0, 0)]
theorem oX12_gift_6 : bX12_gift_6.all (mz_ok RX12 cX12_gift 4) = true := by decide +kernel
def bX12_gift_21 : List mz_E := [(21, .aload_n 0, 0, 0, 0, 0, 0), (22, .iconst 1, 0, 0, 0, 1, 0)]
theorem oX12_gift_21 : bX12_gift_21.all (mz_ok RX12 cX12_gift 4) = true := by decide +kernel
def bX12_gift_9 : List mz_E := [(9, .iload_n 3, 0, 0, 0, 0, 0), (10, .i2l, 0, 0, 0, 0, 0), (11, .lconst 1, 0, 0, 0, 0, 1), (12, .ldc2_w 308, 0, 0, 1994, 0, 9999)]
theorem oX12_gift_9 : bX12_gift_9.all (mz_ok RX12 cX12_gift 4) = true := by decide +kernel
def bX12_gift_18 : List mz_E := [(18, .ifCond .ne 9, 0, 27, 0, 0, 0)]
theorem oX12_gift_18 : bX12_gift_18.all (mz_ok RX12 cX12_gift 4) = true := by decide +kernel
def bX12_gift_27 : List mz_E := [(27, .aload_n 0, 0, 0, 0, 0, 0), (28, .iload_n 1, 0, 0, 0, 0, 0), (29, .iload_n 2, 0, 0, 0, 0, 0), (30, .iload_n 3, 0, 0, 0, 0, 0)]
theorem oX12_gift_27 : bX12_gift_27.all (mz_ok RX12 cX12_gift 4) = true := by decide +kernel
def bX12_gift_34 : List mz_E := [(34, .aload_n 0, 0, 0, 0, 0, 0), (35, .aload_n 0, 0, 0, 0, 0, 0), (36, .getfield 7, 12, 0, 1576, 0, 0), (39, .iload_n 2, 0, 0, 0, 0, 0), (40, .iload_n 1, 0, 0, 0, 0, 0)]
theorem oX12_gift_34 : bX12_gift_34.all (mz_ok RX12 cX12_gift 4) = true := by decide +kernel
def bX12_gift_44 : List mz_E := [(44, .iaload, 0, 0, 0, 0, 0)]
theorem oX12_gift_44 : bX12_gift_44.all (mz_ok RX12 cX12_gift 4) = true := by decide +kernel
abbrev IX12_gift : mz_I := (yX12_gift, cX12_gift, 4, (some .int), 0, 2, 0, 0)
theorem kX12_gift : mz_okm IX12_gift 2228 141 2226 3 = true := by decide +kernel
theorem vX12_gift : mz_okV IX12_gift 2226 2227 = true := by decide +kernel
def fX12_gift (x1 : Int32) (x2 : Int32) (x3 : Int32) (D : mz_D) : Option (Int32 × mz_D) := (if (fX12_areTwo x1 x2 D) = 0 then (some ((-1 : Int32), (mz_wi D 0 200 2 (1 : Int32)))) else (if (fX12_isFrom (x3).toInt64 (1 : Int64) (9999 : Int64)) = 0 then (some ((-1 : Int32), (mz_wi D 0 200 2 (1 : Int32)))) else (Option.bind (fX12_gifts x1 x2 x3 D) fun q3 => (mz_gd (mz_ix (((92 : Int32) + ((6 : Int32) * x2)) + x1) 3000) (some ((q3.1 0 201 ((((92 : Int32) + ((6 : Int32) * x2)) + x1)).toNatClampNeg), (mz_wi q3 0 200 2 (0 : Int32))))))))
set_option maxHeartbeats 4000000 in
theorem mX12_gift (x1 : Int32) (x2 : Int32) (x3 : Int32) (D : mz_D) (r : (Int32 × mz_D)) (h : fX12_gift x1 x2 x3 D = some r) : mz_Met IX12_gift [.inr (.inr (some (0, 200))), .inl x1, .inl x2, .inl x3] D (some (.inl r.1), r.2) := by
  refine mz_Met.of (by decide +kernel) (Nat.le_of_ble_eq_true rfl) ?_
  show mz_Go IX12_gift (some (.inl r.1), r.2) 0 0 (0, [some (.inr (.inr (some (0, 200)))), some (.inl x1), some (.inl x2), some (.inl x3)], [], D)
  rw [fX12_gift] at h
  refine mz_Go.run (gs := []) (st' := (3, [some (.inr (.inr (some (0, 200)))), some (.inl x1), some (.inl x2), some (.inl x3)], [.inl x2, .inl x1, .inr (.inr (some (0, 200)))], D)) bX12_gift_0 oX12_gift_0 rfl trivial ?_
  refine mz_Go.callV (I := IX12_gift) (J := IX12_areTwo) (as := [.inl x1, .inl x2]) (ci := 12) (g := 0) (o := 200) (idx := 331) (pl := 2036) (rest := []) (mX12_areTwo x1 x2 D _ rfl) kX12_areTwo vX12_areTwo (by decide +kernel) (by decide +kernel) (by decide +kernel) rfl rfl ⟨rfl, rfl⟩ rfl rfl rfl rfl ?_
  refine mz_Go.run (gs := []) (st' := (if (fX12_areTwo x1 x2 D) = 0 then (21, [some (.inr (.inr (some (0, 200)))), some (.inl x1), some (.inl x2), some (.inl x3)], [], D) else (9, [some (.inr (.inr (some (0, 200)))), some (.inl x1), some (.inl x2), some (.inl x3)], [], D))) bX12_gift_6 oX12_gift_6 rfl trivial ?_
  refine mz_Go.ite (fun hc1 => ?_) (fun hc1 => ?_)
  · have h := mz_ifp hc1 h
    refine mz_Go.run (gs := []) (st' := (23, [some (.inr (.inr (some (0, 200)))), some (.inl x1), some (.inl x2), some (.inl x3)], [.inl (1 : Int32), .inr (.inr (some (0, 200)))], D)) bX12_gift_21 oX12_gift_21 rfl trivial ?_
    refine mz_Go.callV (I := IX12_gift) (J := IX12_refuse) (as := [.inl (1 : Int32)]) (ci := 12) (g := 0) (o := 200) (idx := 75) (pl := 1761) (rest := []) (mX12_refuse (1 : Int32) D) kX12_refuse vX12_refuse (by decide +kernel) (by decide +kernel) (by decide +kernel) rfl rfl ⟨rfl, rfl⟩ rfl rfl rfl rfl ?_
    cases h
    exact mz_Go.reti (by decide +kernel) rfl ⟨Nat.le_refl _, Nat.le_refl _⟩ rfl
  · have h := mz_ifn hc1 h
    refine mz_Go.run (gs := []) (st' := (15, [some (.inr (.inr (some (0, 200)))), some (.inl x1), some (.inl x2), some (.inl x3)], [.inr (.inl (9999 : Int64)), .inr (.inl (1 : Int64)), .inr (.inl (x3).toInt64)], D)) bX12_gift_9 oX12_gift_9 rfl trivial ?_
    refine mz_Go.callS (I := IX12_gift) (J := IX12_isFrom) (as := [.inr (.inl (x3).toInt64), .inr (.inl (1 : Int64)), .inr (.inl (9999 : Int64))]) (idx := 302) (pl := 1974) (rest := []) (mX12_isFrom (x3).toInt64 (1 : Int64) (9999 : Int64) D _ rfl) kX12_isFrom vX12_isFrom (by decide +kernel) (by decide +kernel) (by decide +kernel) rfl rfl ⟨rfl, rfl⟩ rfl ?_
    refine mz_Go.run (gs := []) (st' := (if (fX12_isFrom (x3).toInt64 (1 : Int64) (9999 : Int64)) = 0 then (21, [some (.inr (.inr (some (0, 200)))), some (.inl x1), some (.inl x2), some (.inl x3)], [], D) else (27, [some (.inr (.inr (some (0, 200)))), some (.inl x1), some (.inl x2), some (.inl x3)], [], D))) bX12_gift_18 oX12_gift_18 rfl trivial ?_
    refine mz_Go.ite (fun hc2 => ?_) (fun hc2 => ?_)
    · have h := mz_ifp hc2 h
      refine mz_Go.run (gs := []) (st' := (23, [some (.inr (.inr (some (0, 200)))), some (.inl x1), some (.inl x2), some (.inl x3)], [.inl (1 : Int32), .inr (.inr (some (0, 200)))], D)) bX12_gift_21 oX12_gift_21 rfl trivial ?_
      refine mz_Go.callV (I := IX12_gift) (J := IX12_refuse) (as := [.inl (1 : Int32)]) (ci := 12) (g := 0) (o := 200) (idx := 75) (pl := 1761) (rest := []) (mX12_refuse (1 : Int32) D) kX12_refuse vX12_refuse (by decide +kernel) (by decide +kernel) (by decide +kernel) rfl rfl ⟨rfl, rfl⟩ rfl rfl rfl rfl ?_
      cases h
      exact mz_Go.reti (by decide +kernel) rfl ⟨Nat.le_refl _, Nat.le_refl _⟩ rfl
    · have h := mz_ifn hc2 h
      refine mz_Go.run (gs := []) (st' := (31, [some (.inr (.inr (some (0, 200)))), some (.inl x1), some (.inl x2), some (.inl x3)], [.inl x3, .inl x2, .inl x1, .inr (.inr (some (0, 200)))], D)) bX12_gift_27 oX12_gift_27 rfl trivial ?_
      obtain ⟨q3, hq3, h⟩ := mz_bd_some h
      refine mz_Go.callV (I := IX12_gift) (J := IX12_gifts) (as := [.inl x1, .inl x2, .inl x3]) (ci := 12) (g := 0) (o := 200) (idx := 409) (pl := 2229) (rest := []) (mX12_gifts x1 x2 x3 D q3 hq3) kX12_gifts vX12_gifts (by decide +kernel) (by decide +kernel) (by decide +kernel) rfl rfl ⟨rfl, rfl⟩ rfl rfl rfl rfl ?_
      refine mz_Go.run (gs := [mz_kz 0 0 200]) (st' := (41, [some (.inr (.inr (some (0, 200)))), some (.inl x1), some (.inl x2), some (.inl x3)], [.inl x1, .inl x2, .inr (.inr (some (0, 201))), .inr (.inr (some (0, 200)))], q3)) bX12_gift_34 oX12_gift_34 rfl ⟨rfl, trivial⟩ ?_
      refine mz_Go.callS (I := IX12_gift) (J := IX12_debtRow) (as := [.inl x2, .inl x1]) (idx := 312) (pl := 2008) (rest := [.inr (.inr (some (0, 201))), .inr (.inr (some (0, 200)))]) (mX12_debtRow x2 x1 q3) kX12_debtRow vX12_debtRow (by decide +kernel) (by decide +kernel) (by decide +kernel) rfl rfl ⟨rfl, rfl⟩ rfl ?_
      obtain ⟨hb4, h⟩ := mz_gd_some h
      refine mz_Go.run (gs := [mz_kz 0 0 201, mz_ix (((92 : Int32) + ((6 : Int32) * x2)) + x1) 3000]) (st' := (45, [some (.inr (.inr (some (0, 200)))), some (.inl x1), some (.inl x2), some (.inl x3)], [.inl (q3.1 0 201 ((((92 : Int32) + ((6 : Int32) * x2)) + x1)).toNatClampNeg), .inr (.inr (some (0, 200)))], q3)) bX12_gift_44 oX12_gift_44 rfl ⟨rfl, hb4, trivial⟩ ?_
      refine mz_Go.callV (I := IX12_gift) (J := IX12_gives) (as := [.inl (q3.1 0 201 ((((92 : Int32) + ((6 : Int32) * x2)) + x1)).toNatClampNeg)]) (ci := 12) (g := 0) (o := 200) (idx := 79) (pl := 1844) (rest := []) (mX12_gives (q3.1 0 201 ((((92 : Int32) + ((6 : Int32) * x2)) + x1)).toNatClampNeg) q3) kX12_gives vX12_gives (by decide +kernel) (by decide +kernel) (by decide +kernel) rfl rfl ⟨rfl, rfl⟩ rfl rfl rfl rfl ?_
      cases h
      exact mz_Go.reti (by decide +kernel) rfl ⟨Nat.le_refl _, Nat.le_refl _⟩ rfl
