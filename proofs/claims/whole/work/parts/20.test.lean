def bX12_refuse_0 : List mz_E := [(0, .aload_n 0, 0, 0, 0, 0, 0), (1, .iload_n 1, 0, 0, 0, 0, 0), (2, .putfield 69, 12, 2, 1580, 0, 0), (5, .iconst (-1), 0, 0, 0, -1, 0)]
theorem oX12_refuse_0 : bX12_refuse_0.all (mz_ok RX12 cX12_refuse 2) = true := by decide +kernel
abbrev IX12_refuse : mz_I := (yX12_refuse, cX12_refuse, 2, (some .int), 0, 0, 0, 0)
theorem kX12_refuse : mz_okm IX12_refuse 1766 142 1765 1 = true := by decide +kernel
theorem vX12_refuse : mz_okV IX12_refuse 1765 54 = true := by decide +kernel
theorem mX12_refuse (x1 : Int32) (D : mz_D) : mz_Met IX12_refuse [.inr (.inr (some (0, 200))), .inl x1] D (some (.inl (-1 : Int32)), (mz_wi D 0 200 2 x1)) := by
  refine mz_Met.of (by decide) (Nat.le_of_ble_eq_true rfl) ?_
  show mz_Go IX12_refuse (some (.inl (-1 : Int32)), (mz_wi D 0 200 2 x1)) 0 0 (0, [some (.inr (.inr (some (0, 200)))), some (.inl x1)], [], D)
  refine mz_Go.run (gs := [mz_kz 0 0 200]) (st' := (6, [some (.inr (.inr (some (0, 200)))), some (.inl x1)], [.inl (-1 : Int32)], (mz_wi D 0 200 2 x1))) bX12_refuse_0 oX12_refuse_0 rfl ⟨rfl, trivial⟩ ?_
  exact mz_Go.reti (by decide +kernel) rfl ⟨Nat.le_refl _, Nat.le_refl _⟩ rfl
def bX12_isPerson_0 : List mz_E := [(0, .iload_n 1, 0, 0, 0, 0, 0), (1, .ifCond .lt 17, 0, 18, 0, 0, 0)]
theorem oX12_isPerson_0 : bX12_isPerson_0.all (mz_ok RX12 cX12_isPerson 2) = true := by decide +kernel
def bX12_isPerson_18 : List mz_E := [(18, .iconst 0, 0, 0, 0, 0, 0)]
theorem oX12_isPerson_18 : bX12_isPerson_18.all (mz_ok RX12 cX12_isPerson 2) = true := by decide +kernel
def bX12_isPerson_4 : List mz_E := [(4, .iload_n 1, 0, 0, 0, 0, 0), (5, .aload_n 0, 0, 0, 0, 0, 0), (6, .getfield 7, 12, 0, 1578, 0, 0), (9, .iconst 0, 0, 0, 0, 0, 0), (10, .iaload, 0, 0, 0, 0, 0), (11, .if_icmp .ge 7, 0, 18, 0, 0, 0)]
theorem oX12_isPerson_4 : bX12_isPerson_4.all (mz_ok RX12 cX12_isPerson 2) = true := by decide +kernel
def bX12_isPerson_14 : List mz_E := [(14, .iconst 1, 0, 0, 0, 1, 0), (15, .goto 4, 0, 19, 0, 0, 0)]
theorem oX12_isPerson_14 : bX12_isPerson_14.all (mz_ok RX12 cX12_isPerson 2) = true := by decide +kernel
abbrev IX12_isPerson : mz_I := (yX12_isPerson, cX12_isPerson, 2, (some .boolean), 0, 0, 0, 0)
theorem kX12_isPerson : mz_okm IX12_isPerson 1907 142 1906 1 = true := by decide +kernel
theorem vX12_isPerson : mz_okV IX12_isPerson 1906 84 = true := by decide +kernel
def fX12_isPerson (x1 : Int32) (D : mz_D) : Int32 := (if x1 < 0 then (0 : Int32) else (if (D.1 0 201 ((0 : Int32)).toNatClampNeg) ≤ x1 then (0 : Int32) else (1 : Int32)))
set_option maxHeartbeats 4000000 in
theorem mX12_isPerson (x1 : Int32) (D : mz_D) (r : Int32) (h : fX12_isPerson x1 D = r) : mz_Met IX12_isPerson [.inr (.inr (some (0, 200))), .inl x1] D (some (.inl r), D) := by
  refine mz_Met.of (by decide) (Nat.le_of_ble_eq_true rfl) ?_
  show mz_Go IX12_isPerson (some (.inl r), D) 0 0 (0, [some (.inr (.inr (some (0, 200)))), some (.inl x1)], [], D)
  rw [fX12_isPerson] at h
  refine mz_Go.run (gs := []) (st' := (if x1 < 0 then (18, [some (.inr (.inr (some (0, 200)))), some (.inl x1)], [], D) else (4, [some (.inr (.inr (some (0, 200)))), some (.inl x1)], [], D))) bX12_isPerson_0 oX12_isPerson_0 rfl trivial ?_
  refine mz_Go.ite (fun hc1 => ?_) (fun hc1 => ?_)
  · have h := mz_ifp hc1 h
    refine mz_Go.run (gs := []) (st' := (19, [some (.inr (.inr (some (0, 200)))), some (.inl x1)], [.inl (0 : Int32)], D)) bX12_isPerson_18 oX12_isPerson_18 rfl trivial ?_
    subst h
    exact mz_Go.retz (by decide +kernel) rfl ⟨Nat.le_refl _, Nat.le_refl _⟩ (by decide) rfl
  · have h := mz_ifn hc1 h
    refine mz_Go.run (gs := [mz_kz 0 0 200, mz_kz 0 0 201, mz_ix (0 : Int32) 3000]) (st' := (if (D.1 0 201 ((0 : Int32)).toNatClampNeg) ≤ x1 then (18, [some (.inr (.inr (some (0, 200)))), some (.inl x1)], [], D) else (14, [some (.inr (.inr (some (0, 200)))), some (.inl x1)], [], D))) bX12_isPerson_4 oX12_isPerson_4 rfl ⟨rfl, rfl, (by decide), trivial⟩ ?_
    refine mz_Go.ite (fun hc2 => ?_) (fun hc2 => ?_)
    · have h := mz_ifp hc2 h
      refine mz_Go.run (gs := []) (st' := (19, [some (.inr (.inr (some (0, 200)))), some (.inl x1)], [.inl (0 : Int32)], D)) bX12_isPerson_18 oX12_isPerson_18 rfl trivial ?_
      subst h
      exact mz_Go.retz (by decide +kernel) rfl ⟨Nat.le_refl _, Nat.le_refl _⟩ (by decide) rfl
    · have h := mz_ifn hc2 h
      refine mz_Go.run (gs := []) (st' := (19, [some (.inr (.inr (some (0, 200)))), some (.inl x1)], [.inl (1 : Int32)], D)) bX12_isPerson_14 oX12_isPerson_14 rfl trivial ?_
      subst h
      exact mz_Go.retz (by decide +kernel) rfl ⟨Nat.le_refl _, Nat.le_refl _⟩ (by decide) rfl
def bX12_areTwo_0 : List mz_E := [(0, .aload_n 0, 0, 0, 0, 0, 0), (1, .iload_n 1, 0, 0, 0, 0, 0)]
theorem oX12_areTwo_0 : bX12_areTwo_0.all (mz_ok RX12 cX12_areTwo 3) = true := by decide +kernel
def bX12_areTwo_5 : List mz_E := [(5, .ifCond .eq 20, 0, 25, 0, 0, 0)]
theorem oX12_areTwo_5 : bX12_areTwo_5.all (mz_ok RX12 cX12_areTwo 3) = true := by decide +kernel
def bX12_areTwo_25 : List mz_E := [(25, .iconst 0, 0, 0, 0, 0, 0)]
theorem oX12_areTwo_25 : bX12_areTwo_25.all (mz_ok RX12 cX12_areTwo 3) = true := by decide +kernel
def bX12_areTwo_8 : List mz_E := [(8, .aload_n 0, 0, 0, 0, 0, 0), (9, .iload_n 2, 0, 0, 0, 0, 0)]
theorem oX12_areTwo_8 : bX12_areTwo_8.all (mz_ok RX12 cX12_areTwo 3) = true := by decide +kernel
def bX12_areTwo_13 : List mz_E := [(13, .ifCond .eq 12, 0, 25, 0, 0, 0)]
theorem oX12_areTwo_13 : bX12_areTwo_13.all (mz_ok RX12 cX12_areTwo 3) = true := by decide +kernel
def bX12_areTwo_16 : List mz_E := [(16, .iload_n 1, 0, 0, 0, 0, 0), (17, .iload_n 2, 0, 0, 0, 0, 0), (18, .if_icmp .eq 7, 0, 25, 0, 0, 0)]
theorem oX12_areTwo_16 : bX12_areTwo_16.all (mz_ok RX12 cX12_areTwo 3) = true := by decide +kernel
def bX12_areTwo_21 : List mz_E := [(21, .iconst 1, 0, 0, 0, 1, 0), (22, .goto 4, 0, 26, 0, 0, 0)]
theorem oX12_areTwo_21 : bX12_areTwo_21.all (mz_ok RX12 cX12_areTwo 3) = true := by decide +kernel
abbrev IX12_areTwo : mz_I := (yX12_areTwo, cX12_areTwo, 3, (some .boolean), 0, 1, 0, 0)
theorem kX12_areTwo : mz_okm IX12_areTwo 2041 142 2040 2 = true := by decide +kernel
theorem vX12_areTwo : mz_okV IX12_areTwo 2040 96 = true := by decide +kernel
def fX12_areTwo (x1 : Int32) (x2 : Int32) (D : mz_D) : Int32 := (if (fX12_isPerson x1 D) = 0 then (0 : Int32) else (if (fX12_isPerson x2 D) = 0 then (0 : Int32) else (if x1 = x2 then (0 : Int32) else (1 : Int32))))
set_option maxHeartbeats 4000000 in
theorem mX12_areTwo (x1 : Int32) (x2 : Int32) (D : mz_D) (r : Int32) (h : fX12_areTwo x1 x2 D = r) : mz_Met IX12_areTwo [.inr (.inr (some (0, 200))), .inl x1, .inl x2] D (some (.inl r), D) := by
  refine mz_Met.of (by decide) (Nat.le_of_ble_eq_true rfl) ?_
  show mz_Go IX12_areTwo (some (.inl r), D) 0 0 (0, [some (.inr (.inr (some (0, 200)))), some (.inl x1), some (.inl x2)], [], D)
  rw [fX12_areTwo] at h
  refine mz_Go.run (gs := []) (st' := (2, [some (.inr (.inr (some (0, 200)))), some (.inl x1), some (.inl x2)], [.inl x1, .inr (.inr (some (0, 200)))], D)) bX12_areTwo_0 oX12_areTwo_0 rfl trivial ?_
  refine mz_Go.callV (J := IX12_isPerson) (as := [.inl x1]) (ci := 12) (g := 0) (o := 200) (idx := 248) (pl := 1904) (rest := []) (mX12_isPerson x1 D _ rfl) kX12_isPerson vX12_isPerson (by decide +kernel) (by decide +kernel) (by decide +kernel) rfl rfl ⟨rfl, rfl⟩ rfl rfl rfl rfl ?_
  refine mz_Go.run (gs := []) (st' := (if (fX12_isPerson x1 D) = 0 then (25, [some (.inr (.inr (some (0, 200)))), some (.inl x1), some (.inl x2)], [], D) else (8, [some (.inr (.inr (some (0, 200)))), some (.inl x1), some (.inl x2)], [], D))) bX12_areTwo_5 oX12_areTwo_5 rfl trivial ?_
  refine mz_Go.ite (fun hc1 => ?_) (fun hc1 => ?_)
  · have h := mz_ifp hc1 h
    refine mz_Go.run (gs := []) (st' := (26, [some (.inr (.inr (some (0, 200)))), some (.inl x1), some (.inl x2)], [.inl (0 : Int32)], D)) bX12_areTwo_25 oX12_areTwo_25 rfl trivial ?_
    subst h
    exact mz_Go.retz (by decide +kernel) rfl ⟨Nat.le_refl _, Nat.le_refl _⟩ (by decide) rfl
  · have h := mz_ifn hc1 h
    refine mz_Go.run (gs := []) (st' := (10, [some (.inr (.inr (some (0, 200)))), some (.inl x1), some (.inl x2)], [.inl x2, .inr (.inr (some (0, 200)))], D)) bX12_areTwo_8 oX12_areTwo_8 rfl trivial ?_
    refine mz_Go.callV (J := IX12_isPerson) (as := [.inl x2]) (ci := 12) (g := 0) (o := 200) (idx := 248) (pl := 1904) (rest := []) (mX12_isPerson x2 D _ rfl) kX12_isPerson vX12_isPerson (by decide +kernel) (by decide +kernel) (by decide +kernel) rfl rfl ⟨rfl, rfl⟩ rfl rfl rfl rfl ?_
    refine mz_Go.run (gs := []) (st' := (if (fX12_isPerson x2 D) = 0 then (25, [some (.inr (.inr (some (0, 200)))), some (.inl x1), some (.inl x2)], [], D) else (16, [some (.inr (.inr (some (0, 200)))), some (.inl x1), some (.inl x2)], [], D))) bX12_areTwo_13 oX12_areTwo_13 rfl trivial ?_
    refine mz_Go.ite (fun hc2 => ?_) (fun hc2 => ?_)
    · have h := mz_ifp hc2 h
      refine mz_Go.run (gs := []) (st' := (26, [some (.inr (.inr (some (0, 200)))), some (.inl x1), some (.inl x2)], [.inl (0 : Int32)], D)) bX12_areTwo_25 oX12_areTwo_25 rfl trivial ?_
      subst h
      exact mz_Go.retz (by decide +kernel) rfl ⟨Nat.le_refl _, Nat.le_refl _⟩ (by decide) rfl
    · have h := mz_ifn hc2 h
      refine mz_Go.run (gs := []) (st' := (if x1 = x2 then (25, [some (.inr (.inr (some (0, 200)))), some (.inl x1), some (.inl x2)], [], D) else (21, [some (.inr (.inr (some (0, 200)))), some (.inl x1), some (.inl x2)], [], D))) bX12_areTwo_16 oX12_areTwo_16 rfl trivial ?_
      refine mz_Go.ite (fun hc3 => ?_) (fun hc3 => ?_)
      · have h := mz_ifp hc3 h
        refine mz_Go.run (gs := []) (st' := (26, [some (.inr (.inr (some (0, 200)))), some (.inl x1), some (.inl x2)], [.inl (0 : Int32)], D)) bX12_areTwo_25 oX12_areTwo_25 rfl trivial ?_
        subst h
        exact mz_Go.retz (by decide +kernel) rfl ⟨Nat.le_refl _, Nat.le_refl _⟩ (by decide) rfl
      · have h := mz_ifn hc3 h
        refine mz_Go.run (gs := []) (st' := (26, [some (.inr (.inr (some (0, 200)))), some (.inl x1), some (.inl x2)], [.inl (1 : Int32)], D)) bX12_areTwo_21 oX12_areTwo_21 rfl trivial ?_
        subst h
        exact mz_Go.retz (by decide +kernel) rfl ⟨Nat.le_refl _, Nat.le_refl _⟩ (by decide) rfl
def bX12_debtRow_0 : List mz_E := [(0, .bipush 92, 0, 0, 0, 92, 0), (2, .bipush 6, 0, 0, 0, 6, 0), (4, .iload_n 0, 0, 0, 0, 0, 0), (5, .imul, 0, 0, 0, 0, 0), (6, .iadd, 0, 0, 0, 0, 0), (7, .iload_n 1, 0, 0, 0, 0, 0), (8, .iadd, 0, 0, 0, 0, 0)]
theorem oX12_debtRow_0 : bX12_debtRow_0.all (mz_ok RX12 cX12_debtRow 2) = true := by decide +kernel
abbrev IX12_debtRow : mz_I := (yX12_debtRow, cX12_debtRow, 2, (some .int), 0, 0, 0, 0)
theorem kX12_debtRow : mz_okm IX12_debtRow 2012 142 2011 2 = true := by decide +kernel
theorem vX12_debtRow : mz_okS IX12_debtRow 2011 = true := by decide +kernel
theorem mX12_debtRow (x0 : Int32) (x1 : Int32) (D : mz_D) : mz_Met IX12_debtRow [.inl x0, .inl x1] D (some (.inl (((92 : Int32) + ((6 : Int32) * x0)) + x1)), D) := by
  refine mz_Met.of (by decide) (Nat.le_of_ble_eq_true rfl) ?_
  show mz_Go IX12_debtRow (some (.inl (((92 : Int32) + ((6 : Int32) * x0)) + x1)), D) 0 0 (0, [some (.inl x0), some (.inl x1)], [], D)
  refine mz_Go.run (gs := []) (st' := (9, [some (.inl x0), some (.inl x1)], [.inl (((92 : Int32) + ((6 : Int32) * x0)) + x1)], D)) bX12_debtRow_0 oX12_debtRow_0 rfl trivial ?_
  exact mz_Go.reti (by decide +kernel) rfl ⟨Nat.le_refl _, Nat.le_refl _⟩ rfl
def bX12_balanceOf_0 : List mz_E := [(0, .iconst 0, 0, 0, 0, 0, 0), (1, .istore_n 2, 0, 0, 0, 0, 0), (2, .iconst 0, 0, 0, 0, 0, 0), (3, .istore_n 3, 0, 0, 0, 0, 0)]
theorem oX12_balanceOf_0 : bX12_balanceOf_0.all (mz_ok RX12 cX12_balanceOf 4) = true := by decide +kernel
def bX12_balanceOf_4 : List mz_E := [(4, .iload_n 3, 0, 0, 0, 0, 0), (5, .aload_n 0, 0, 0, 0, 0, 0), (6, .getfield 7, 12, 0, 1578, 0, 0), (9, .iconst 0, 0, 0, 0, 0, 0), (10, .iaload, 0, 0, 0, 0, 0), (11, .if_icmp .ge 33, 0, 44, 0, 0, 0)]
theorem oX12_balanceOf_4 : bX12_balanceOf_4.all (mz_ok RX12 cX12_balanceOf 4) = true := by decide +kernel
def bX12_balanceOf_44 : List mz_E := [(44, .iload_n 2, 0, 0, 0, 0, 0)]
theorem oX12_balanceOf_44 : bX12_balanceOf_44.all (mz_ok RX12 cX12_balanceOf 4) = true := by decide +kernel
def bX12_balanceOf_14 : List mz_E := [(14, .iload_n 2, 0, 0, 0, 0, 0), (15, .aload_n 0, 0, 0, 0, 0, 0), (16, .getfield 7, 12, 0, 1578, 0, 0), (19, .iload_n 3, 0, 0, 0, 0, 0), (20, .iload_n 1, 0, 0, 0, 0, 0)]
theorem oX12_balanceOf_14 : bX12_balanceOf_14.all (mz_ok RX12 cX12_balanceOf 4) = true := by decide +kernel
def bX12_balanceOf_24 : List mz_E := [(24, .iaload, 0, 0, 0, 0, 0), (25, .aload_n 0, 0, 0, 0, 0, 0), (26, .getfield 7, 12, 0, 1578, 0, 0), (29, .iload_n 1, 0, 0, 0, 0, 0), (30, .iload_n 3, 0, 0, 0, 0, 0)]
theorem oX12_balanceOf_24 : bX12_balanceOf_24.all (mz_ok RX12 cX12_balanceOf 4) = true := by decide +kernel
def bX12_balanceOf_34 : List mz_E := [(34, .iaload, 0, 0, 0, 0, 0), (35, .isub, 0, 0, 0, 0, 0), (36, .iadd, 0, 0, 0, 0, 0), (37, .istore_n 2, 0, 0, 0, 0, 0), (38, .iinc 3 1, 0, 0, 0, 1, 0), (41, .goto (-37), 0, 4, 0, 0, 0)]
theorem oX12_balanceOf_34 : bX12_balanceOf_34.all (mz_ok RX12 cX12_balanceOf 4) = true := by decide +kernel
abbrev IX12_balanceOf : mz_I := (yX12_balanceOf, cX12_balanceOf, 4, (some .int), 0, 1, 0, 0)
theorem kX12_balanceOf : mz_okm IX12_balanceOf 2029 142 2028 1 = true := by decide +kernel
theorem vX12_balanceOf : mz_okV IX12_balanceOf 2028 95 = true := by decide +kernel
def fX12_balanceOf_4 (D : mz_D) : Nat → Int32 → Int32 → Int32 → Option Int32
  | 0 => fun _ _ _ => none
  | n + 1 => fun x1 x2 x3 => (if (D.1 0 201 ((0 : Int32)).toNatClampNeg) ≤ x3 then (some x2) else (mz_gd (mz_ix (((92 : Int32) + ((6 : Int32) * x3)) + x1) 3000) (mz_gd (mz_ix (((92 : Int32) + ((6 : Int32) * x1)) + x3) 3000) ((fX12_balanceOf_4 D n) x1 (x2 + ((D.1 0 201 ((((92 : Int32) + ((6 : Int32) * x3)) + x1)).toNatClampNeg) - (D.1 0 201 ((((92 : Int32) + ((6 : Int32) * x1)) + x3)).toNatClampNeg))) (x3 + (1 : Int32))))))
set_option maxHeartbeats 4000000 in
theorem tX12_balanceOf_4 (D : mz_D) (r : Int32) : ∀ (n : Nat) (x1 : Int32) (x2 : Int32) (x3 : Int32), fX12_balanceOf_4 D n x1 x2 x3 = some r → mz_Go IX12_balanceOf (some (.inl r), D) 0 0 (4, [some (.inr (.inr (some (0, 200)))), some (.inl x1), some (.inl x2), some (.inl x3)], [], D) := by
  intro n
  induction n with
  | zero => intro x1 x2 x3 h; have h : (none : Option Int32) = some r := h; cases h
  | succ n ih =>
    intro x1 x2 x3 h
    rw [fX12_balanceOf_4] at h
    refine mz_Go.run (gs := [mz_kz 0 0 200, mz_kz 0 0 201, mz_ix (0 : Int32) 3000]) (st' := (if (D.1 0 201 ((0 : Int32)).toNatClampNeg) ≤ x3 then (44, [some (.inr (.inr (some (0, 200)))), some (.inl x1), some (.inl x2), some (.inl x3)], [], D) else (14, [some (.inr (.inr (some (0, 200)))), some (.inl x1), some (.inl x2), some (.inl x3)], [], D))) bX12_balanceOf_4 oX12_balanceOf_4 rfl ⟨rfl, rfl, (by decide), trivial⟩ ?_
    refine mz_Go.ite (fun hc1 => ?_) (fun hc1 => ?_)
    · have h := mz_ifp hc1 h
      refine mz_Go.run (gs := []) (st' := (45, [some (.inr (.inr (some (0, 200)))), some (.inl x1), some (.inl x2), some (.inl x3)], [.inl x2], D)) bX12_balanceOf_44 oX12_balanceOf_44 rfl trivial ?_
      cases h
      exact mz_Go.reti (by decide +kernel) rfl ⟨Nat.le_refl _, Nat.le_refl _⟩ rfl
    · have h := mz_ifn hc1 h
      refine mz_Go.run (gs := [mz_kz 0 0 200]) (st' := (21, [some (.inr (.inr (some (0, 200)))), some (.inl x1), some (.inl x2), some (.inl x3)], [.inl x1, .inl x3, .inr (.inr (some (0, 201))), .inl x2], D)) bX12_balanceOf_14 oX12_balanceOf_14 rfl ⟨rfl, trivial⟩ ?_
      refine mz_Go.callS (J := IX12_debtRow) (as := [.inl x3, .inl x1]) (idx := 312) (pl := 2010) (rest := [.inr (.inr (some (0, 201))), .inl x2]) (mX12_debtRow x3 x1 D) kX12_debtRow vX12_debtRow (by decide +kernel) (by decide +kernel) (by decide +kernel) rfl rfl ⟨rfl, rfl⟩ rfl ?_
      obtain ⟨hb2, h⟩ := mz_gd_some h
      refine mz_Go.run (gs := [mz_kz 0 0 201, mz_ix (((92 : Int32) + ((6 : Int32) * x3)) + x1) 3000, mz_kz 0 0 200]) (st' := (31, [some (.inr (.inr (some (0, 200)))), some (.inl x1), some (.inl x2), some (.inl x3)], [.inl x3, .inl x1, .inr (.inr (some (0, 201))), .inl (D.1 0 201 ((((92 : Int32) + ((6 : Int32) * x3)) + x1)).toNatClampNeg), .inl x2], D)) bX12_balanceOf_24 oX12_balanceOf_24 rfl ⟨rfl, hb2, rfl, trivial⟩ ?_
      refine mz_Go.callS (J := IX12_debtRow) (as := [.inl x1, .inl x3]) (idx := 312) (pl := 2010) (rest := [.inr (.inr (some (0, 201))), .inl (D.1 0 201 ((((92 : Int32) + ((6 : Int32) * x3)) + x1)).toNatClampNeg), .inl x2]) (mX12_debtRow x1 x3 D) kX12_debtRow vX12_debtRow (by decide +kernel) (by decide +kernel) (by decide +kernel) rfl rfl ⟨rfl, rfl⟩ rfl ?_
      obtain ⟨hb3, h⟩ := mz_gd_some h
      refine mz_Go.run (gs := [mz_kz 0 0 201, mz_ix (((92 : Int32) + ((6 : Int32) * x1)) + x3) 3000]) (st' := (4, [some (.inr (.inr (some (0, 200)))), some (.inl x1), some (.inl (x2 + ((D.1 0 201 ((((92 : Int32) + ((6 : Int32) * x3)) + x1)).toNatClampNeg) - (D.1 0 201 ((((92 : Int32) + ((6 : Int32) * x1)) + x3)).toNatClampNeg)))), some (.inl (x3 + (1 : Int32)))], [], D)) bX12_balanceOf_34 oX12_balanceOf_34 rfl ⟨rfl, hb3, trivial⟩ ?_
      exact mz_Go.drop [true, true, true, true] (ih x1 (x2 + ((D.1 0 201 ((((92 : Int32) + ((6 : Int32) * x3)) + x1)).toNatClampNeg) - (D.1 0 201 ((((92 : Int32) + ((6 : Int32) * x1)) + x3)).toNatClampNeg))) (x3 + (1 : Int32)) h)
def fX12_balanceOf (x1 : Int32) (D : mz_D) : Option Int32 := (fX12_balanceOf_4 D mz_N x1 (0 : Int32) (0 : Int32))
set_option maxHeartbeats 4000000 in
theorem mX12_balanceOf (x1 : Int32) (D : mz_D) (r : Int32) (h : fX12_balanceOf x1 D = some r) : mz_Met IX12_balanceOf [.inr (.inr (some (0, 200))), .inl x1] D (some (.inl r), D) := by
  refine mz_Met.of (by decide) (Nat.le_of_ble_eq_true rfl) ?_
  show mz_Go IX12_balanceOf (some (.inl r), D) 0 0 (0, [some (.inr (.inr (some (0, 200)))), some (.inl x1), none, none], [], D)
  rw [fX12_balanceOf] at h
  refine mz_Go.run (gs := []) (st' := (4, [some (.inr (.inr (some (0, 200)))), some (.inl x1), some (.inl (0 : Int32)), some (.inl (0 : Int32))], [], D)) bX12_balanceOf_0 oX12_balanceOf_0 rfl trivial ?_
  exact mz_Go.drop [true, true, true, true] (tX12_balanceOf_4 D r mz_N x1 (0 : Int32) (0 : Int32) h)
def bX12_gives_0 : List mz_E := [(0, .aload_n 0, 0, 0, 0, 0, 0), (1, .iconst 0, 0, 0, 0, 0, 0), (2, .putfield 69, 12, 2, 1580, 0, 0), (5, .iload_n 1, 0, 0, 0, 0, 0)]
theorem oX12_gives_0 : bX12_gives_0.all (mz_ok RX12 cX12_gives 2) = true := by decide +kernel
abbrev IX12_gives : mz_I := (yX12_gives, cX12_gives, 2, (some .int), 0, 0, 0, 0)
theorem kX12_gives : mz_okm IX12_gives 1849 142 1848 1 = true := by decide +kernel
theorem vX12_gives : mz_okV IX12_gives 1848 74 = true := by decide +kernel
theorem mX12_gives (x1 : Int32) (D : mz_D) : mz_Met IX12_gives [.inr (.inr (some (0, 200))), .inl x1] D (some (.inl x1), (mz_wi D 0 200 2 (0 : Int32))) := by
  refine mz_Met.of (by decide) (Nat.le_of_ble_eq_true rfl) ?_
  show mz_Go IX12_gives (some (.inl x1), (mz_wi D 0 200 2 (0 : Int32))) 0 0 (0, [some (.inr (.inr (some (0, 200)))), some (.inl x1)], [], D)
  refine mz_Go.run (gs := [mz_kz 0 0 200]) (st' := (6, [some (.inr (.inr (some (0, 200)))), some (.inl x1)], [.inl x1], (mz_wi D 0 200 2 (0 : Int32)))) bX12_gives_0 oX12_gives_0 rfl ⟨rfl, trivial⟩ ?_
  exact mz_Go.reti (by decide +kernel) rfl ⟨Nat.le_refl _, Nat.le_refl _⟩ rfl
def bX12_owes_0 : List mz_E := [(0, .aload_n 0, 0, 0, 0, 0, 0), (1, .iload_n 1, 0, 0, 0, 0, 0), (2, .iload_n 2, 0, 0, 0, 0, 0)]
theorem oX12_owes_0 : bX12_owes_0.all (mz_ok RX12 cX12_owes 3) = true := by decide +kernel
def bX12_owes_6 : List mz_E := [(6, .ifCond .eq 20, 0, 26, 0, 0, 0)]
theorem oX12_owes_6 : bX12_owes_6.all (mz_ok RX12 cX12_owes 3) = true := by decide +kernel
def bX12_owes_26 : List mz_E := [(26, .aload_n 0, 0, 0, 0, 0, 0), (27, .iconst 1, 0, 0, 0, 1, 0)]
theorem oX12_owes_26 : bX12_owes_26.all (mz_ok RX12 cX12_owes 3) = true := by decide +kernel
def bX12_owes_9 : List mz_E := [(9, .aload_n 0, 0, 0, 0, 0, 0), (10, .aload_n 0, 0, 0, 0, 0, 0), (11, .getfield 7, 12, 0, 1578, 0, 0), (14, .iload_n 1, 0, 0, 0, 0, 0), (15, .iload_n 2, 0, 0, 0, 0, 0)]
theorem oX12_owes_9 : bX12_owes_9.all (mz_ok RX12 cX12_owes 3) = true := by decide +kernel
def bX12_owes_19 : List mz_E := [(19, .iaload, 0, 0, 0, 0, 0)]
theorem oX12_owes_19 : bX12_owes_19.all (mz_ok RX12 cX12_owes 3) = true := by decide +kernel
def bX12_owes_23 : List mz_E := [(23, .goto 8, 0, 31, 0, 0, 0)]
theorem oX12_owes_23 : bX12_owes_23.all (mz_ok RX12 cX12_owes 3) = true := by decide +kernel
abbrev IX12_owes : mz_I := (yX12_owes, cX12_owes, 3, (some .int), 0, 2, 0, 0)
theorem kX12_owes : mz_okm IX12_owes 2099 142 2097 2 = true := by decide +kernel
theorem vX12_owes : mz_okV IX12_owes 2097 2098 = true := by decide +kernel
def fX12_owes (x1 : Int32) (x2 : Int32) (D : mz_D) : Option (Int32 × mz_D) := (if (fX12_areTwo x1 x2 D) = 0 then (some ((-1 : Int32), (mz_wi D 0 200 2 (1 : Int32)))) else (mz_gd (mz_ix (((92 : Int32) + ((6 : Int32) * x1)) + x2) 3000) (some ((D.1 0 201 ((((92 : Int32) + ((6 : Int32) * x1)) + x2)).toNatClampNeg), (mz_wi D 0 200 2 (0 : Int32))))))
set_option maxHeartbeats 4000000 in
theorem mX12_owes (x1 : Int32) (x2 : Int32) (D : mz_D) (r : (Int32 × mz_D)) (h : fX12_owes x1 x2 D = some r) : mz_Met IX12_owes [.inr (.inr (some (0, 200))), .inl x1, .inl x2] D (some (.inl r.1), r.2) := by
  refine mz_Met.of (by decide) (Nat.le_of_ble_eq_true rfl) ?_
  show mz_Go IX12_owes (some (.inl r.1), r.2) 0 0 (0, [some (.inr (.inr (some (0, 200)))), some (.inl x1), some (.inl x2)], [], D)
  rw [fX12_owes] at h
  refine mz_Go.run (gs := []) (st' := (3, [some (.inr (.inr (some (0, 200)))), some (.inl x1), some (.inl x2)], [.inl x2, .inl x1, .inr (.inr (some (0, 200)))], D)) bX12_owes_0 oX12_owes_0 rfl trivial ?_
  refine mz_Go.callV (J := IX12_areTwo) (as := [.inl x1, .inl x2]) (ci := 12) (g := 0) (o := 200) (idx := 331) (pl := 2038) (rest := []) (mX12_areTwo x1 x2 D _ rfl) kX12_areTwo vX12_areTwo (by decide +kernel) (by decide +kernel) (by decide +kernel) rfl rfl ⟨rfl, rfl⟩ rfl rfl rfl rfl ?_
  refine mz_Go.run (gs := []) (st' := (if (fX12_areTwo x1 x2 D) = 0 then (26, [some (.inr (.inr (some (0, 200)))), some (.inl x1), some (.inl x2)], [], D) else (9, [some (.inr (.inr (some (0, 200)))), some (.inl x1), some (.inl x2)], [], D))) bX12_owes_6 oX12_owes_6 rfl trivial ?_
  refine mz_Go.ite (fun hc1 => ?_) (fun hc1 => ?_)
  · have h := mz_ifp hc1 h
    refine mz_Go.run (gs := []) (st' := (28, [some (.inr (.inr (some (0, 200)))), some (.inl x1), some (.inl x2)], [.inl (1 : Int32), .inr (.inr (some (0, 200)))], D)) bX12_owes_26 oX12_owes_26 rfl trivial ?_
    refine mz_Go.callV (J := IX12_refuse) (as := [.inl (1 : Int32)]) (ci := 12) (g := 0) (o := 200) (idx := 75) (pl := 1763) (rest := []) (mX12_refuse (1 : Int32) D) kX12_refuse vX12_refuse (by decide +kernel) (by decide +kernel) (by decide +kernel) rfl rfl ⟨rfl, rfl⟩ rfl rfl rfl rfl ?_
    cases h
    exact mz_Go.reti (by decide +kernel) rfl ⟨Nat.le_refl _, Nat.le_refl _⟩ rfl
  · have h := mz_ifn hc1 h
    refine mz_Go.run (gs := [mz_kz 0 0 200]) (st' := (16, [some (.inr (.inr (some (0, 200)))), some (.inl x1), some (.inl x2)], [.inl x2, .inl x1, .inr (.inr (some (0, 201))), .inr (.inr (some (0, 200)))], D)) bX12_owes_9 oX12_owes_9 rfl ⟨rfl, trivial⟩ ?_
    refine mz_Go.callS (J := IX12_debtRow) (as := [.inl x1, .inl x2]) (idx := 312) (pl := 2010) (rest := [.inr (.inr (some (0, 201))), .inr (.inr (some (0, 200)))]) (mX12_debtRow x1 x2 D) kX12_debtRow vX12_debtRow (by decide +kernel) (by decide +kernel) (by decide +kernel) rfl rfl ⟨rfl, rfl⟩ rfl ?_
    obtain ⟨hb2, h⟩ := mz_gd_some h
    refine mz_Go.run (gs := [mz_kz 0 0 201, mz_ix (((92 : Int32) + ((6 : Int32) * x1)) + x2) 3000]) (st' := (20, [some (.inr (.inr (some (0, 200)))), some (.inl x1), some (.inl x2)], [.inl (D.1 0 201 ((((92 : Int32) + ((6 : Int32) * x1)) + x2)).toNatClampNeg), .inr (.inr (some (0, 200)))], D)) bX12_owes_19 oX12_owes_19 rfl ⟨rfl, hb2, trivial⟩ ?_
    refine mz_Go.callV (J := IX12_gives) (as := [.inl (D.1 0 201 ((((92 : Int32) + ((6 : Int32) * x1)) + x2)).toNatClampNeg)]) (ci := 12) (g := 0) (o := 200) (idx := 79) (pl := 1846) (rest := []) (mX12_gives (D.1 0 201 ((((92 : Int32) + ((6 : Int32) * x1)) + x2)).toNatClampNeg) D) kX12_gives vX12_gives (by decide +kernel) (by decide +kernel) (by decide +kernel) rfl rfl ⟨rfl, rfl⟩ rfl rfl rfl rfl ?_
    refine mz_Go.run (gs := []) (st' := (31, [some (.inr (.inr (some (0, 200)))), some (.inl x1), some (.inl x2)], [.inl (D.1 0 201 ((((92 : Int32) + ((6 : Int32) * x1)) + x2)).toNatClampNeg)], (mz_wi D 0 200 2 (0 : Int32)))) bX12_owes_23 oX12_owes_23 rfl trivial ?_
    cases h
    exact mz_Go.reti (by decide +kernel) rfl ⟨Nat.le_refl _, Nat.le_refl _⟩ rfl
def bX12_balance_0 : List mz_E := [(0, .aload_n 0, 0, 0, 0, 0, 0), (1, .iload_n 1, 0, 0, 0, 0, 0)]
theorem oX12_balance_0 : bX12_balance_0.all (mz_ok RX12 cX12_balance 2) = true := by decide +kernel
def bX12_balance_5 : List mz_E := [(5, .ifCond .eq 15, 0, 20, 0, 0, 0)]
theorem oX12_balance_5 : bX12_balance_5.all (mz_ok RX12 cX12_balance 2) = true := by decide +kernel
def bX12_balance_20 : List mz_E := [(20, .aload_n 0, 0, 0, 0, 0, 0), (21, .iconst 1, 0, 0, 0, 1, 0)]
theorem oX12_balance_20 : bX12_balance_20.all (mz_ok RX12 cX12_balance 2) = true := by decide +kernel
def bX12_balance_8 : List mz_E := [(8, .aload_n 0, 0, 0, 0, 0, 0), (9, .aload_n 0, 0, 0, 0, 0, 0), (10, .iload_n 1, 0, 0, 0, 0, 0)]
theorem oX12_balance_8 : bX12_balance_8.all (mz_ok RX12 cX12_balance 2) = true := by decide +kernel
def bX12_balance_17 : List mz_E := [(17, .goto 8, 0, 25, 0, 0, 0)]
theorem oX12_balance_17 : bX12_balance_17.all (mz_ok RX12 cX12_balance 2) = true := by decide +kernel
abbrev IX12_balance : mz_I := (yX12_balance, cX12_balance, 2, (some .int), 0, 2, 0, 0)
theorem kX12_balance : mz_okm IX12_balance 2111 142 2109 1 = true := by decide +kernel
theorem vX12_balance : mz_okV IX12_balance 2109 2110 = true := by decide +kernel
def fX12_balance (x1 : Int32) (D : mz_D) : Option (Int32 × mz_D) := (if (fX12_isPerson x1 D) = 0 then (some ((-1 : Int32), (mz_wi D 0 200 2 (1 : Int32)))) else (Option.bind (fX12_balanceOf x1 D) fun q2 => (some (q2, (mz_wi D 0 200 2 (0 : Int32))))))
set_option maxHeartbeats 4000000 in
theorem mX12_balance (x1 : Int32) (D : mz_D) (r : (Int32 × mz_D)) (h : fX12_balance x1 D = some r) : mz_Met IX12_balance [.inr (.inr (some (0, 200))), .inl x1] D (some (.inl r.1), r.2) := by
  refine mz_Met.of (by decide) (Nat.le_of_ble_eq_true rfl) ?_
  show mz_Go IX12_balance (some (.inl r.1), r.2) 0 0 (0, [some (.inr (.inr (some (0, 200)))), some (.inl x1)], [], D)
  rw [fX12_balance] at h
  refine mz_Go.run (gs := []) (st' := (2, [some (.inr (.inr (some (0, 200)))), some (.inl x1)], [.inl x1, .inr (.inr (some (0, 200)))], D)) bX12_balance_0 oX12_balance_0 rfl trivial ?_
  refine mz_Go.callV (J := IX12_isPerson) (as := [.inl x1]) (ci := 12) (g := 0) (o := 200) (idx := 248) (pl := 1904) (rest := []) (mX12_isPerson x1 D _ rfl) kX12_isPerson vX12_isPerson (by decide +kernel) (by decide +kernel) (by decide +kernel) rfl rfl ⟨rfl, rfl⟩ rfl rfl rfl rfl ?_
  refine mz_Go.run (gs := []) (st' := (if (fX12_isPerson x1 D) = 0 then (20, [some (.inr (.inr (some (0, 200)))), some (.inl x1)], [], D) else (8, [some (.inr (.inr (some (0, 200)))), some (.inl x1)], [], D))) bX12_balance_5 oX12_balance_5 rfl trivial ?_
  refine mz_Go.ite (fun hc1 => ?_) (fun hc1 => ?_)
  · have h := mz_ifp hc1 h
    refine mz_Go.run (gs := []) (st' := (22, [some (.inr (.inr (some (0, 200)))), some (.inl x1)], [.inl (1 : Int32), .inr (.inr (some (0, 200)))], D)) bX12_balance_20 oX12_balance_20 rfl trivial ?_
    refine mz_Go.callV (J := IX12_refuse) (as := [.inl (1 : Int32)]) (ci := 12) (g := 0) (o := 200) (idx := 75) (pl := 1763) (rest := []) (mX12_refuse (1 : Int32) D) kX12_refuse vX12_refuse (by decide +kernel) (by decide +kernel) (by decide +kernel) rfl rfl ⟨rfl, rfl⟩ rfl rfl rfl rfl ?_
    cases h
    exact mz_Go.reti (by decide +kernel) rfl ⟨Nat.le_refl _, Nat.le_refl _⟩ rfl
  · have h := mz_ifn hc1 h
    refine mz_Go.run (gs := []) (st' := (11, [some (.inr (.inr (some (0, 200)))), some (.inl x1)], [.inl x1, .inr (.inr (some (0, 200))), .inr (.inr (some (0, 200)))], D)) bX12_balance_8 oX12_balance_8 rfl trivial ?_
    obtain ⟨q2, hq2, h⟩ := mz_bd_some h
    refine mz_Go.callV (J := IX12_balanceOf) (as := [.inl x1]) (ci := 12) (g := 0) (o := 200) (idx := 319) (pl := 2026) (rest := [.inr (.inr (some (0, 200)))]) (mX12_balanceOf x1 D q2 hq2) kX12_balanceOf vX12_balanceOf (by decide +kernel) (by decide +kernel) (by decide +kernel) rfl rfl ⟨rfl, rfl⟩ rfl rfl rfl rfl ?_
    refine mz_Go.callV (J := IX12_gives) (as := [.inl q2]) (ci := 12) (g := 0) (o := 200) (idx := 79) (pl := 1846) (rest := []) (mX12_gives q2 D) kX12_gives vX12_gives (by decide +kernel) (by decide +kernel) (by decide +kernel) rfl rfl ⟨rfl, rfl⟩ rfl rfl rfl rfl ?_
    refine mz_Go.run (gs := []) (st' := (25, [some (.inr (.inr (some (0, 200)))), some (.inl x1)], [.inl q2], (mz_wi D 0 200 2 (0 : Int32)))) bX12_balance_17 oX12_balance_17 rfl trivial ?_
    cases h
    exact mz_Go.reti (by decide +kernel) rfl ⟨Nat.le_refl _, Nat.le_refl _⟩ rfl
