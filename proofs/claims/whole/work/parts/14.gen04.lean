def bX8_has_0 : List mz_E := [(0, .iload_n 1, 0, 0, 0, 0, 0), (1, .ifCond .lt 12, 0, 13, 0, 0, 0)]
theorem oX8_has_0 : bX8_has_0.all (mz_ok RX8 cX8_has 2) = true := by decide +kernel
def bX8_has_13 : List mz_E := [(13, .iconst 0, 0, 0, 0, 0, 0)]
theorem oX8_has_13 : bX8_has_13.all (mz_ok RX8 cX8_has 2) = true := by decide +kernel
def bX8_has_4 : List mz_E := [(4, .iload_n 1, 0, 0, 0, 0, 0), (5, .iconst 4, 0, 0, 0, 4, 0), (6, .if_icmp .ge 7, 0, 13, 0, 0, 0)]
theorem oX8_has_4 : bX8_has_4.all (mz_ok RX8 cX8_has 2) = true := by decide +kernel
def bX8_has_9 : List mz_E := [(9, .iconst 1, 0, 0, 0, 1, 0), (10, .goto 4, 0, 14, 0, 0, 0)]
theorem oX8_has_9 : bX8_has_9.all (mz_ok RX8 cX8_has 2) = true := by decide +kernel
abbrev IX8_has : mz_I := (yX8_has, cX8_has, 2, (some .boolean), 9, 0, 0, 0)
theorem kX8_has : mz_okm IX8_has 633 132 631 1 = true := by decide +kernel
theorem vX8_has : mz_okV IX8_has 631 632 = true := by decide +kernel
def fX8_has (x1 : Int32) : Int32 := (if x1 < 0 then (0 : Int32) else (if (4 : Int32) ≤ x1 then (0 : Int32) else (1 : Int32)))
set_option maxHeartbeats 4000000 in
theorem mX8_has (x1 : Int32) (D : mz_D) (r : Int32) (h : fX8_has x1 = r) : mz_Met IX8_has [.inr (.inr (some (0, 4))), .inl x1] D (some (.inl r), D) := by
  refine mz_Met.of (by decide +kernel) (Nat.le_of_ble_eq_true rfl) ?_
  show mz_Go IX8_has (some (.inl r), D) 0 0 (0, [some (.inr (.inr (some (0, 4)))), some (.inl x1)], [], D)
  rw [fX8_has] at h
  refine mz_Go.run (gs := []) (st' := (if x1 < 0 then (13, [some (.inr (.inr (some (0, 4)))), some (.inl x1)], [], D) else (4, [some (.inr (.inr (some (0, 4)))), some (.inl x1)], [], D))) bX8_has_0 oX8_has_0 rfl trivial ?_
  refine mz_Go.ite (fun hc1 => ?_) (fun hc1 => ?_)
  · have h := mz_ifp hc1 h
    refine mz_Go.run (gs := []) (st' := (14, [some (.inr (.inr (some (0, 4)))), some (.inl x1)], [.inl (0 : Int32)], D)) bX8_has_13 oX8_has_13 rfl trivial ?_
    subst h
    exact mz_Go.retz (by decide +kernel) rfl ⟨Nat.le_refl _, Nat.le_refl _⟩ (by decide) rfl
  · have h := mz_ifn hc1 h
    refine mz_Go.run (gs := []) (st' := (if (4 : Int32) ≤ x1 then (13, [some (.inr (.inr (some (0, 4)))), some (.inl x1)], [], D) else (9, [some (.inr (.inr (some (0, 4)))), some (.inl x1)], [], D))) bX8_has_4 oX8_has_4 rfl trivial ?_
    refine mz_Go.ite (fun hc2 => ?_) (fun hc2 => ?_)
    · have h := mz_ifp hc2 h
      refine mz_Go.run (gs := []) (st' := (14, [some (.inr (.inr (some (0, 4)))), some (.inl x1)], [.inl (0 : Int32)], D)) bX8_has_13 oX8_has_13 rfl trivial ?_
      subst h
      exact mz_Go.retz (by decide +kernel) rfl ⟨Nat.le_refl _, Nat.le_refl _⟩ (by decide) rfl
    · have h := mz_ifn hc2 h
      refine mz_Go.run (gs := []) (st' := (14, [some (.inr (.inr (some (0, 4)))), some (.inl x1)], [.inl (1 : Int32)], D)) bX8_has_9 oX8_has_9 rfl trivial ?_
      subst h
      exact mz_Go.retz (by decide +kernel) rfl ⟨Nat.le_refl _, Nat.le_refl _⟩ (by decide) rfl
def bX8_isMissing_0 : List mz_E := [(0, .aload_n 0, 0, 0, 0, 0, 0), (1, .getfield 11, 8, 0, 263, 0, 0), (4, .iload_n 1, 0, 0, 0, 0, 0), (5, .iaload, 0, 0, 0, 0, 0), (6, .iconst (-1), 0, 0, 0, -1, 0), (7, .if_icmp .ne 7, 0, 14, 0, 0, 0)]
theorem oX8_isMissing_0 : bX8_isMissing_0.all (mz_ok RX8 cX8_isMissing 2) = true := by decide +kernel
def bX8_isMissing_10 : List mz_E := [(10, .iconst 1, 0, 0, 0, 1, 0), (11, .goto 4, 0, 15, 0, 0, 0)]
theorem oX8_isMissing_10 : bX8_isMissing_10.all (mz_ok RX8 cX8_isMissing 2) = true := by decide +kernel
def bX8_isMissing_14 : List mz_E := [(14, .iconst 0, 0, 0, 0, 0, 0)]
theorem oX8_isMissing_14 : bX8_isMissing_14.all (mz_ok RX8 cX8_isMissing 2) = true := by decide +kernel
abbrev IX8_isMissing : mz_I := (yX8_isMissing, cX8_isMissing, 2, (some .boolean), 0, 0, 0, 0)
theorem kX8_isMissing : mz_okm IX8_isMissing 657 132 655 1 = true := by decide +kernel
theorem vX8_isMissing : mz_okV IX8_isMissing 655 656 = true := by decide +kernel
def fX8_isMissing (x1 : Int32) (D : mz_D) : Option Int32 := (mz_gd (mz_ix x1 4) (if (D.1 0 5 (x1).toNatClampNeg) = (-1 : Int32) then (some (1 : Int32)) else (some (0 : Int32))))
set_option maxHeartbeats 4000000 in
theorem mX8_isMissing (x1 : Int32) (D : mz_D) (r : Int32) (h : fX8_isMissing x1 D = some r) : mz_Met IX8_isMissing [.inr (.inr (some (0, 4))), .inl x1] D (some (.inl r), D) := by
  refine mz_Met.of (by decide +kernel) (Nat.le_of_ble_eq_true rfl) ?_
  show mz_Go IX8_isMissing (some (.inl r), D) 0 0 (0, [some (.inr (.inr (some (0, 4)))), some (.inl x1)], [], D)
  rw [fX8_isMissing] at h
  obtain ⟨hb1, h⟩ := mz_gd_some h
  refine mz_Go.run (gs := [mz_kz 0 0 4, mz_kz 0 0 5, mz_ix x1 4]) (st' := (if (D.1 0 5 (x1).toNatClampNeg) = (-1 : Int32) then (10, [some (.inr (.inr (some (0, 4)))), some (.inl x1)], [], D) else (14, [some (.inr (.inr (some (0, 4)))), some (.inl x1)], [], D))) bX8_isMissing_0 oX8_isMissing_0 rfl ⟨rfl, rfl, hb1, trivial⟩ ?_
  refine mz_Go.ite (fun hc2 => ?_) (fun hc2 => ?_)
  · have h := mz_ifp hc2 h
    refine mz_Go.run (gs := []) (st' := (15, [some (.inr (.inr (some (0, 4)))), some (.inl x1)], [.inl (1 : Int32)], D)) bX8_isMissing_10 oX8_isMissing_10 rfl trivial ?_
    cases h
    exact mz_Go.retz (by decide +kernel) rfl ⟨Nat.le_refl _, Nat.le_refl _⟩ (by decide) rfl
  · have h := mz_ifn hc2 h
    refine mz_Go.run (gs := []) (st' := (15, [some (.inr (.inr (some (0, 4)))), some (.inl x1)], [.inl (0 : Int32)], D)) bX8_isMissing_14 oX8_isMissing_14 rfl trivial ?_
    cases h
    exact mz_Go.retz (by decide +kernel) rfl ⟨Nat.le_refl _, Nat.le_refl _⟩ (by decide) rfl
def bX8_sortOf_0 : List mz_E := [(0, .aload_n 0, 0, 0, 0, 0, 0), (1, .getfield 11, 8, 0, 263, 0, 0), (4, .iload_n 1, 0, 0, 0, 0, 0), (5, .iaload, 0, 0, 0, 0, 0)]
theorem oX8_sortOf_0 : bX8_sortOf_0.all (mz_ok RX8 cX8_sortOf 2) = true := by decide +kernel
abbrev IX8_sortOf : mz_I := (yX8_sortOf, cX8_sortOf, 2, (some .int), 0, 0, 0, 0)
theorem kX8_sortOf : mz_okm IX8_sortOf 688 132 686 1 = true := by decide +kernel
theorem vX8_sortOf : mz_okV IX8_sortOf 686 687 = true := by decide +kernel
def fX8_sortOf (x1 : Int32) (D : mz_D) : Option Int32 := (mz_gd (mz_ix x1 4) (some (D.1 0 5 (x1).toNatClampNeg)))
set_option maxHeartbeats 4000000 in
theorem mX8_sortOf (x1 : Int32) (D : mz_D) (r : Int32) (h : fX8_sortOf x1 D = some r) : mz_Met IX8_sortOf [.inr (.inr (some (0, 4))), .inl x1] D (some (.inl r), D) := by
  refine mz_Met.of (by decide +kernel) (Nat.le_of_ble_eq_true rfl) ?_
  show mz_Go IX8_sortOf (some (.inl r), D) 0 0 (0, [some (.inr (.inr (some (0, 4)))), some (.inl x1)], [], D)
  rw [fX8_sortOf] at h
  obtain ⟨hb1, h⟩ := mz_gd_some h
  refine mz_Go.run (gs := [mz_kz 0 0 4, mz_kz 0 0 5, mz_ix x1 4]) (st' := (6, [some (.inr (.inr (some (0, 4)))), some (.inl x1)], [.inl (D.1 0 5 (x1).toNatClampNeg)], D)) bX8_sortOf_0 oX8_sortOf_0 rfl ⟨rfl, rfl, hb1, trivial⟩ ?_
  cases h
  exact mz_Go.reti (by decide +kernel) rfl ⟨Nat.le_refl _, Nat.le_refl _⟩ rfl
def bX8_lay_0 : List mz_E := [(0, .aload_n 0, 0, 0, 0, 0, 0), (1, .getfield 11, 8, 0, 263, 0, 0), (4, .iload_n 1, 0, 0, 0, 0, 0), (5, .iload_n 2, 0, 0, 0, 0, 0), (6, .iastore, 0, 0, 0, 0, 0), (7, .aload_n 0, 0, 0, 0, 0, 0), (8, .getfield 15, 8, 1, 264, 0, 0), (11, .iload_n 1, 0, 0, 0, 0, 0), (12, .iload_n 3, 0, 0, 0, 0, 0), (13, .iastore, 0, 0, 0, 0, 0), (14, .iconst 0, 0, 0, 0, 0, 0), (15, .istore 4, 0, 0, 0, 0, 0)]
theorem oX8_lay_0 : bX8_lay_0.all (mz_ok RX8 cX8_lay 5) = true := by decide +kernel
def bX8_lay_17 : List mz_E := [(17, .iload 4, 0, 0, 0, 0, 0), (19, .bipush 60, 0, 0, 0, 60, 0), (21, .if_icmp .ge 22, 0, 43, 0, 0, 0)]
theorem oX8_lay_17 : bX8_lay_17.all (mz_ok RX8 cX8_lay 5) = true := by decide +kernel
def bX8_lay_24 : List mz_E := [(24, .aload_n 0, 0, 0, 0, 0, 0), (25, .getfield 18, 8, 2, 265, 0, 0), (28, .iload_n 1, 0, 0, 0, 0, 0), (29, .bipush 60, 0, 0, 0, 60, 0), (31, .imul, 0, 0, 0, 0, 0), (32, .iload 4, 0, 0, 0, 0, 0), (34, .iadd, 0, 0, 0, 0, 0), (35, .lconst 0, 0, 0, 0, 0, 0), (36, .lastore, 0, 0, 0, 0, 0), (37, .iinc 4 1, 0, 0, 0, 1, 0), (40, .goto (-23), 0, 17, 0, 0, 0)]
theorem oX8_lay_24 : bX8_lay_24.all (mz_ok RX8 cX8_lay 5) = true := by decide +kernel
abbrev IX8_lay : mz_I := (yX8_lay, cX8_lay, 5, none, 0, 0, 0, 0)
theorem kX8_lay : mz_okm IX8_lay 641 132 639 3 = true := by decide +kernel
theorem vX8_lay : mz_okV IX8_lay 639 640 = true := by decide +kernel
def fX8_lay_17 : Nat → Int32 → Int32 → mz_D → Option mz_D
  | 0 => fun _ _ _ => none
  | n + 1 => fun x1 x4 D => (if (60 : Int32) ≤ x4 then (some D) else (mz_gd (mz_ix ((x1 * (60 : Int32)) + x4) 240) ((fX8_lay_17 n) x1 (x4 + (1 : Int32)) (mz_wg D 0 7 (((x1 * (60 : Int32)) + x4)).toNatClampNeg (0 : Int64)))))
set_option maxHeartbeats 4000000 in
theorem tX8_lay_17 (r : mz_D) : ∀ (n : Nat) (x1 : Int32) (x4 : Int32) (D : mz_D), fX8_lay_17 n x1 x4 D = some r → mz_Go IX8_lay (none, r) 0 0 (17, [some (.inr (.inr (some (0, 4)))), some (.inl x1), none, none, some (.inl x4)], [], D) := by
  intro n
  induction n with
  | zero => intro x1 x4 D h; have h : (none : Option mz_D) = some r := h; cases h
  | succ n ih =>
    intro x1 x4 D h
    rw [fX8_lay_17] at h
    refine mz_Go.run (gs := []) (st' := (if (60 : Int32) ≤ x4 then (43, [some (.inr (.inr (some (0, 4)))), some (.inl x1), none, none, some (.inl x4)], [], D) else (24, [some (.inr (.inr (some (0, 4)))), some (.inl x1), none, none, some (.inl x4)], [], D))) bX8_lay_17 oX8_lay_17 rfl trivial ?_
    refine mz_Go.ite (fun hc1 => ?_) (fun hc1 => ?_)
    · have h := mz_ifp hc1 h
      cases h
      exact mz_Go.retv (by decide +kernel) rfl ⟨Nat.le_refl _, Nat.le_refl _⟩ rfl
    · have h := mz_ifn hc1 h
      obtain ⟨hb2, h⟩ := mz_gd_some h
      refine mz_Go.run (gs := [mz_kz 0 0 4, mz_kz 0 0 7, mz_ix ((x1 * (60 : Int32)) + x4) 240]) (st' := (17, [some (.inr (.inr (some (0, 4)))), some (.inl x1), none, none, some (.inl (x4 + (1 : Int32)))], [], (mz_wg D 0 7 (((x1 * (60 : Int32)) + x4)).toNatClampNeg (0 : Int64)))) bX8_lay_24 oX8_lay_24 rfl ⟨rfl, rfl, hb2, trivial⟩ ?_
      exact mz_Go.drop [true, true, false, false, true] (ih x1 (x4 + (1 : Int32)) (mz_wg D 0 7 (((x1 * (60 : Int32)) + x4)).toNatClampNeg (0 : Int64)) h)
def fX8_lay (x1 : Int32) (x2 : Int32) (x3 : Int32) (D : mz_D) : Option mz_D := (mz_gd (mz_ix x1 4) (fX8_lay_17 mz_N x1 (0 : Int32) (mz_wi (mz_wi D 0 5 (x1).toNatClampNeg x2) 0 6 (x1).toNatClampNeg x3)))
set_option maxHeartbeats 4000000 in
theorem mX8_lay (x1 : Int32) (x2 : Int32) (x3 : Int32) (D : mz_D) (r : mz_D) (h : fX8_lay x1 x2 x3 D = some r) : mz_Met IX8_lay [.inr (.inr (some (0, 4))), .inl x1, .inl x2, .inl x3] D (none, r) := by
  refine mz_Met.of (by decide +kernel) (Nat.le_of_ble_eq_true rfl) ?_
  show mz_Go IX8_lay (none, r) 0 0 (0, [some (.inr (.inr (some (0, 4)))), some (.inl x1), some (.inl x2), some (.inl x3), none], [], D)
  rw [fX8_lay] at h
  obtain ⟨hb1, h⟩ := mz_gd_some h
  refine mz_Go.run (gs := [mz_kz 0 0 4, mz_kz 0 0 5, mz_ix x1 4, mz_kz 0 0 4, mz_kz 0 0 6, mz_ix x1 4]) (st' := (17, [some (.inr (.inr (some (0, 4)))), some (.inl x1), some (.inl x2), some (.inl x3), some (.inl (0 : Int32))], [], (mz_wi (mz_wi D 0 5 (x1).toNatClampNeg x2) 0 6 (x1).toNatClampNeg x3))) bX8_lay_0 oX8_lay_0 rfl ⟨rfl, rfl, hb1, rfl, rfl, hb1, trivial⟩ ?_
  exact mz_Go.drop [true, true, false, false, true] (tX8_lay_17 r mz_N x1 (0 : Int32) (mz_wi (mz_wi D 0 5 (x1).toNatClampNeg x2) 0 6 (x1).toNatClampNeg x3) h)
def bX8_holds_0 : List mz_E := [(0, .iload_n 2, 0, 0, 0, 0, 0), (1, .aload_n 0, 0, 0, 0, 0, 0), (2, .getfield 15, 8, 1, 264, 0, 0), (5, .iload_n 1, 0, 0, 0, 0, 0), (6, .iaload, 0, 0, 0, 0, 0), (7, .if_icmp .gt 19, 0, 26, 0, 0, 0)]
theorem oX8_holds_0 : bX8_holds_0.all (mz_ok RX8 cX8_holds 4) = true := by decide +kernel
def bX8_holds_26 : List mz_E := [(26, .iconst 0, 0, 0, 0, 0, 0)]
theorem oX8_holds_26 : bX8_holds_26.all (mz_ok RX8 cX8_holds 4) = true := by decide +kernel
def bX8_holds_10 : List mz_E := [(10, .iload_n 3, 0, 0, 0, 0, 0), (11, .aload_n 0, 0, 0, 0, 0, 0), (12, .getfield 15, 8, 1, 264, 0, 0), (15, .iload_n 1, 0, 0, 0, 0, 0), (16, .iaload, 0, 0, 0, 0, 0), (17, .iload_n 2, 0, 0, 0, 0, 0), (18, .isub, 0, 0, 0, 0, 0), (19, .if_icmp .gt 7, 0, 26, 0, 0, 0)]
theorem oX8_holds_10 : bX8_holds_10.all (mz_ok RX8 cX8_holds 4) = true := by decide +kernel
def bX8_holds_22 : List mz_E := [(22, .iconst 1, 0, 0, 0, 1, 0), (23, .goto 4, 0, 27, 0, 0, 0)]
theorem oX8_holds_22 : bX8_holds_22.all (mz_ok RX8 cX8_holds 4) = true := by decide +kernel
abbrev IX8_holds : mz_I := (yX8_holds, cX8_holds, 4, (some .boolean), 0, 0, 0, 0)
theorem kX8_holds : mz_okm IX8_holds 661 132 659 3 = true := by decide +kernel
theorem vX8_holds : mz_okV IX8_holds 659 660 = true := by decide +kernel
def fX8_holds (x1 : Int32) (x2 : Int32) (x3 : Int32) (D : mz_D) : Option Int32 := (mz_gd (mz_ix x1 4) (if (D.1 0 6 (x1).toNatClampNeg) < x2 then (some (0 : Int32)) else (if ((D.1 0 6 (x1).toNatClampNeg) - x2) < x3 then (some (0 : Int32)) else (some (1 : Int32)))))
set_option maxHeartbeats 4000000 in
theorem mX8_holds (x1 : Int32) (x2 : Int32) (x3 : Int32) (D : mz_D) (r : Int32) (h : fX8_holds x1 x2 x3 D = some r) : mz_Met IX8_holds [.inr (.inr (some (0, 4))), .inl x1, .inl x2, .inl x3] D (some (.inl r), D) := by
  refine mz_Met.of (by decide +kernel) (Nat.le_of_ble_eq_true rfl) ?_
  show mz_Go IX8_holds (some (.inl r), D) 0 0 (0, [some (.inr (.inr (some (0, 4)))), some (.inl x1), some (.inl x2), some (.inl x3)], [], D)
  rw [fX8_holds] at h
  obtain ⟨hb1, h⟩ := mz_gd_some h
  refine mz_Go.run (gs := [mz_kz 0 0 4, mz_kz 0 0 6, mz_ix x1 4]) (st' := (if (D.1 0 6 (x1).toNatClampNeg) < x2 then (26, [some (.inr (.inr (some (0, 4)))), some (.inl x1), some (.inl x2), some (.inl x3)], [], D) else (10, [some (.inr (.inr (some (0, 4)))), some (.inl x1), some (.inl x2), some (.inl x3)], [], D))) bX8_holds_0 oX8_holds_0 rfl ⟨rfl, rfl, hb1, trivial⟩ ?_
  refine mz_Go.ite (fun hc2 => ?_) (fun hc2 => ?_)
  · have h := mz_ifp hc2 h
    refine mz_Go.run (gs := []) (st' := (27, [some (.inr (.inr (some (0, 4)))), some (.inl x1), some (.inl x2), some (.inl x3)], [.inl (0 : Int32)], D)) bX8_holds_26 oX8_holds_26 rfl trivial ?_
    cases h
    exact mz_Go.retz (by decide +kernel) rfl ⟨Nat.le_refl _, Nat.le_refl _⟩ (by decide) rfl
  · have h := mz_ifn hc2 h
    refine mz_Go.run (gs := [mz_kz 0 0 4, mz_kz 0 0 6, mz_ix x1 4]) (st' := (if ((D.1 0 6 (x1).toNatClampNeg) - x2) < x3 then (26, [some (.inr (.inr (some (0, 4)))), some (.inl x1), some (.inl x2), some (.inl x3)], [], D) else (22, [some (.inr (.inr (some (0, 4)))), some (.inl x1), some (.inl x2), some (.inl x3)], [], D))) bX8_holds_10 oX8_holds_10 rfl ⟨rfl, rfl, hb1, trivial⟩ ?_
    refine mz_Go.ite (fun hc3 => ?_) (fun hc3 => ?_)
    · have h := mz_ifp hc3 h
      refine mz_Go.run (gs := []) (st' := (27, [some (.inr (.inr (some (0, 4)))), some (.inl x1), some (.inl x2), some (.inl x3)], [.inl (0 : Int32)], D)) bX8_holds_26 oX8_holds_26 rfl trivial ?_
      cases h
      exact mz_Go.retz (by decide +kernel) rfl ⟨Nat.le_refl _, Nat.le_refl _⟩ (by decide) rfl
    · have h := mz_ifn hc3 h
      refine mz_Go.run (gs := []) (st' := (27, [some (.inr (.inr (some (0, 4)))), some (.inl x1), some (.inl x2), some (.inl x3)], [.inl (1 : Int32)], D)) bX8_holds_22 oX8_holds_22 rfl trivial ?_
      cases h
      exact mz_Go.retz (by decide +kernel) rfl ⟨Nat.le_refl _, Nat.le_refl _⟩ (by decide) rfl
def bX8_get_0 : List mz_E := [(0, .aload_n 0, 0, 0, 0, 0, 0), (1, .getfield 18, 8, 2, 265, 0, 0), (4, .iload_n 1, 0, 0, 0, 0, 0), (5, .bipush 60, 0, 0, 0, 60, 0), (7, .imul, 0, 0, 0, 0, 0), (8, .iload_n 2, 0, 0, 0, 0, 0), (9, .iadd, 0, 0, 0, 0, 0), (10, .laload, 0, 0, 0, 0, 0)]
theorem oX8_get_0 : bX8_get_0.all (mz_ok RX8 cX8_get 3) = true := by decide +kernel
abbrev IX8_get : mz_I := (yX8_get, cX8_get, 3, (some .long), 0, 0, 0, 0)
theorem kX8_get : mz_okm IX8_get 680 132 678 2 = true := by decide +kernel
theorem vX8_get : mz_okV IX8_get 678 679 = true := by decide +kernel
def fX8_get (x1 : Int32) (x2 : Int32) (D : mz_D) : Option Int64 := (mz_gd (mz_ix ((x1 * (60 : Int32)) + x2) 240) (some (D.2 0 7 (((x1 * (60 : Int32)) + x2)).toNatClampNeg)))
set_option maxHeartbeats 4000000 in
theorem mX8_get (x1 : Int32) (x2 : Int32) (D : mz_D) (r : Int64) (h : fX8_get x1 x2 D = some r) : mz_Met IX8_get [.inr (.inr (some (0, 4))), .inl x1, .inl x2] D (some (.inr (.inl r)), D) := by
  refine mz_Met.of (by decide +kernel) (Nat.le_of_ble_eq_true rfl) ?_
  show mz_Go IX8_get (some (.inr (.inl r)), D) 0 0 (0, [some (.inr (.inr (some (0, 4)))), some (.inl x1), some (.inl x2)], [], D)
  rw [fX8_get] at h
  obtain ⟨hb1, h⟩ := mz_gd_some h
  refine mz_Go.run (gs := [mz_kz 0 0 4, mz_kz 0 0 7, mz_ix ((x1 * (60 : Int32)) + x2) 240]) (st' := (11, [some (.inr (.inr (some (0, 4)))), some (.inl x1), some (.inl x2)], [.inr (.inl (D.2 0 7 (((x1 * (60 : Int32)) + x2)).toNatClampNeg))], D)) bX8_get_0 oX8_get_0 rfl ⟨rfl, rfl, hb1, trivial⟩ ?_
  cases h
  exact mz_Go.retl (by decide +kernel) rfl ⟨Nat.le_refl _, Nat.le_refl _⟩ rfl
def bX8_cut_0 : List mz_E := [(0, .iload_n 0, 0, 0, 0, 0, 0)]
theorem oX8_cut_0 : bX8_cut_0.all (mz_ok RX8 cX8_cut 3) = true := by decide +kernel
def bX8_cut_28 : List mz_E := [(28, .lload_n 1, 0, 0, 0, 0, 0), (29, .l2i, 0, 0, 0, 0, 0), (30, .i2b, 0, 0, 0, 0, 0), (31, .i2l, 0, 0, 0, 0, 0)]
theorem oX8_cut_28 : bX8_cut_28.all (mz_ok RX8 cX8_cut 3) = true := by decide +kernel
def bX8_cut_33 : List mz_E := [(33, .lload_n 1, 0, 0, 0, 0, 0), (34, .l2i, 0, 0, 0, 0, 0), (35, .i2s, 0, 0, 0, 0, 0), (36, .i2l, 0, 0, 0, 0, 0)]
theorem oX8_cut_33 : bX8_cut_33.all (mz_ok RX8 cX8_cut 3) = true := by decide +kernel
def bX8_cut_38 : List mz_E := [(38, .lload_n 1, 0, 0, 0, 0, 0), (39, .l2i, 0, 0, 0, 0, 0), (40, .i2l, 0, 0, 0, 0, 0)]
theorem oX8_cut_38 : bX8_cut_38.all (mz_ok RX8 cX8_cut 3) = true := by decide +kernel
def bX8_cut_42 : List mz_E := [(42, .lload_n 1, 0, 0, 0, 0, 0)]
theorem oX8_cut_42 : bX8_cut_42.all (mz_ok RX8 cX8_cut 3) = true := by decide +kernel
abbrev IX8_cut : mz_I := (yX8_cut, cX8_cut, 3, (some .long), 9, 0, 0, 0)
theorem kX8_cut : mz_okm IX8_cut 668 132 667 2 = true := by decide +kernel
theorem vX8_cut : mz_okS IX8_cut 667 = true := by decide +kernel
def fX8_cut (x0 : Int32) (y1 : Int64) : Int64 := (if x0 = (0 : Int32) then (((y1).toInt32).toInt8.toInt32).toInt64 else (if x0 = (1 : Int32) then (((y1).toInt32).toInt16.toInt32).toInt64 else (if x0 = (2 : Int32) then ((y1).toInt32).toInt64 else y1)))
set_option maxHeartbeats 4000000 in
theorem mX8_cut (x0 : Int32) (y1 : Int64) (D : mz_D) (r : Int64) (h : fX8_cut x0 y1 = r) : mz_Met IX8_cut [.inl x0, .inr (.inl y1)] D (some (.inr (.inl r)), D) := by
  refine mz_Met.of (by decide +kernel) (Nat.le_of_ble_eq_true rfl) ?_
  show mz_Go IX8_cut (some (.inr (.inl r)), D) 0 0 (0, [some (.inl x0), some (.inr (.inl y1)), none], [], D)
  rw [fX8_cut] at h
  refine mz_Go.run (gs := []) (st' := (1, [some (.inl x0), some (.inr (.inl y1)), none], [.inl x0], D)) bX8_cut_0 oX8_cut_0 rfl trivial ?_
  refine mz_Go.tsw [(0, 28), (1, 33), (2, 38)] 42 (show decode cX8_cut 1 = .ok (.tableswitch 41 0 2 #[27, 32, 37], 27) by decide +kernel) (by decide +kernel) ?_
  refine mz_Go.swc (fun hc1 => ?_) (fun hc1 => ?_)
  · have h := mz_ifp hc1 h
    refine mz_Go.run (gs := []) (st' := (32, [some (.inl x0), some (.inr (.inl y1)), none], [.inr (.inl (((y1).toInt32).toInt8.toInt32).toInt64)], D)) bX8_cut_28 oX8_cut_28 rfl trivial ?_
    subst h
    exact mz_Go.retl (by decide +kernel) rfl ⟨Nat.le_refl _, Nat.le_refl _⟩ rfl
  · have h := mz_ifn hc1 h
    refine mz_Go.swc (fun hc2 => ?_) (fun hc2 => ?_)
    · have h := mz_ifp hc2 h
      refine mz_Go.run (gs := []) (st' := (37, [some (.inl x0), some (.inr (.inl y1)), none], [.inr (.inl (((y1).toInt32).toInt16.toInt32).toInt64)], D)) bX8_cut_33 oX8_cut_33 rfl trivial ?_
      subst h
      exact mz_Go.retl (by decide +kernel) rfl ⟨Nat.le_refl _, Nat.le_refl _⟩ rfl
    · have h := mz_ifn hc2 h
      refine mz_Go.swc (fun hc3 => ?_) (fun hc3 => ?_)
      · have h := mz_ifp hc3 h
        refine mz_Go.run (gs := []) (st' := (41, [some (.inl x0), some (.inr (.inl y1)), none], [.inr (.inl ((y1).toInt32).toInt64)], D)) bX8_cut_38 oX8_cut_38 rfl trivial ?_
        subst h
        exact mz_Go.retl (by decide +kernel) rfl ⟨Nat.le_refl _, Nat.le_refl _⟩ rfl
      · have h := mz_ifn hc3 h
        refine mz_Go.run (gs := []) (st' := (43, [some (.inl x0), some (.inr (.inl y1)), none], [.inr (.inl y1)], D)) bX8_cut_42 oX8_cut_42 rfl trivial ?_
        subst h
        exact mz_Go.retl (by decide +kernel) rfl ⟨Nat.le_refl _, Nat.le_refl _⟩ rfl
def bX8_put_0 : List mz_E := [(0, .aload_n 0, 0, 0, 0, 0, 0), (1, .getfield 18, 8, 2, 265, 0, 0), (4, .iload_n 1, 0, 0, 0, 0, 0), (5, .bipush 60, 0, 0, 0, 60, 0), (7, .imul, 0, 0, 0, 0, 0), (8, .iload_n 2, 0, 0, 0, 0, 0), (9, .iadd, 0, 0, 0, 0, 0), (10, .aload_n 0, 0, 0, 0, 0, 0), (11, .getfield 11, 8, 0, 263, 0, 0), (14, .iload_n 1, 0, 0, 0, 0, 0), (15, .iaload, 0, 0, 0, 0, 0), (16, .lload_n 3, 0, 0, 0, 0, 0)]
theorem oX8_put_0 : bX8_put_0.all (mz_ok RX8 cX8_put 5) = true := by decide +kernel
def bX8_put_20 : List mz_E := [(20, .lastore, 0, 0, 0, 0, 0)]
theorem oX8_put_20 : bX8_put_20.all (mz_ok RX8 cX8_put 5) = true := by decide +kernel
abbrev IX8_put : mz_I := (yX8_put, cX8_put, 5, none, 0, 1, 0, 0)
theorem kX8_put : mz_okm IX8_put 665 132 663 3 = true := by decide +kernel
theorem vX8_put : mz_okV IX8_put 663 664 = true := by decide +kernel
def fX8_put (x1 : Int32) (x2 : Int32) (y3 : Int64) (D : mz_D) : Option mz_D := (mz_gd (mz_ix x1 4) (mz_gd (mz_ix ((x1 * (60 : Int32)) + x2) 240) (some (mz_wg D 0 7 (((x1 * (60 : Int32)) + x2)).toNatClampNeg (fX8_cut (D.1 0 5 (x1).toNatClampNeg) y3)))))
set_option maxHeartbeats 4000000 in
theorem mX8_put (x1 : Int32) (x2 : Int32) (y3 : Int64) (D : mz_D) (r : mz_D) (h : fX8_put x1 x2 y3 D = some r) : mz_Met IX8_put [.inr (.inr (some (0, 4))), .inl x1, .inl x2, .inr (.inl y3)] D (none, r) := by
  refine mz_Met.of (by decide +kernel) (Nat.le_of_ble_eq_true rfl) ?_
  show mz_Go IX8_put (none, r) 0 0 (0, [some (.inr (.inr (some (0, 4)))), some (.inl x1), some (.inl x2), some (.inr (.inl y3)), none], [], D)
  rw [fX8_put] at h
  obtain ⟨hb1, h⟩ := mz_gd_some h
  refine mz_Go.run (gs := [mz_kz 0 0 4, mz_kz 0 0 4, mz_kz 0 0 5, mz_ix x1 4]) (st' := (17, [some (.inr (.inr (some (0, 4)))), some (.inl x1), some (.inl x2), some (.inr (.inl y3)), none], [.inr (.inl y3), .inl (D.1 0 5 (x1).toNatClampNeg), .inl ((x1 * (60 : Int32)) + x2), .inr (.inr (some (0, 7)))], D)) bX8_put_0 oX8_put_0 rfl ⟨rfl, rfl, rfl, hb1, trivial⟩ ?_
  refine mz_Go.callS (I := IX8_put) (J := IX8_cut) (as := [.inl (D.1 0 5 (x1).toNatClampNeg), .inr (.inl y3)]) (idx := 28) (pl := 666) (rest := [.inl ((x1 * (60 : Int32)) + x2), .inr (.inr (some (0, 7)))]) (mX8_cut (D.1 0 5 (x1).toNatClampNeg) y3 D _ rfl) kX8_cut vX8_cut (by decide +kernel) (by decide +kernel) (by decide +kernel) rfl rfl ⟨rfl, rfl⟩ rfl ?_
  obtain ⟨hb2, h⟩ := mz_gd_some h
  refine mz_Go.run (gs := [mz_kz 0 0 7, mz_ix ((x1 * (60 : Int32)) + x2) 240]) (st' := (21, [some (.inr (.inr (some (0, 4)))), some (.inl x1), some (.inl x2), some (.inr (.inl y3)), none], [], (mz_wg D 0 7 (((x1 * (60 : Int32)) + x2)).toNatClampNeg (fX8_cut (D.1 0 5 (x1).toNatClampNeg) y3)))) bX8_put_20 oX8_put_20 rfl ⟨rfl, hb2, trivial⟩ ?_
  cases h
  exact mz_Go.retv (by decide +kernel) rfl ⟨Nat.le_refl _, Nat.le_refl _⟩ rfl
def bX8_move_0 : List mz_E := [(0, .aload_n 0, 0, 0, 0, 0, 0), (1, .getfield 18, 8, 2, 265, 0, 0), (4, .iload_n 1, 0, 0, 0, 0, 0), (5, .bipush 60, 0, 0, 0, 60, 0), (7, .imul, 0, 0, 0, 0, 0), (8, .iload_n 2, 0, 0, 0, 0, 0), (9, .iadd, 0, 0, 0, 0, 0), (10, .aload_n 0, 0, 0, 0, 0, 0), (11, .getfield 18, 8, 2, 265, 0, 0), (14, .iload_n 3, 0, 0, 0, 0, 0), (15, .bipush 60, 0, 0, 0, 60, 0), (17, .imul, 0, 0, 0, 0, 0), (18, .iload 4, 0, 0, 0, 0, 0), (20, .iadd, 0, 0, 0, 0, 0), (21, .iload 5, 0, 0, 0, 0, 0)]
theorem oX8_move_0 : bX8_move_0.all (mz_ok RX8 cX8_move 6) = true := by decide +kernel
abbrev IX8_move : mz_I := (yX8_move, cX8_move, 6, none, 0, 1, 0, 0)
theorem kX8_move : mz_okm IX8_move 692 132 690 5 = true := by decide +kernel
theorem vX8_move : mz_okV IX8_move 690 691 = true := by decide +kernel
def fX8_move (x1 : Int32) (x2 : Int32) (x3 : Int32) (x4 : Int32) (x5 : Int32) (D : mz_D) : Option mz_D := (mz_gd (mz_cpg ((x1 * (60 : Int32)) + x2) ((x3 * (60 : Int32)) + x4) x5 240 240) (some (mz_cpl D 0 7 0 7 (((x1 * (60 : Int32)) + x2)).toNatClampNeg (((x3 * (60 : Int32)) + x4)).toNatClampNeg (x5).toNatClampNeg)))
set_option maxHeartbeats 4000000 in
theorem mX8_move (x1 : Int32) (x2 : Int32) (x3 : Int32) (x4 : Int32) (x5 : Int32) (D : mz_D) (r : mz_D) (h : fX8_move x1 x2 x3 x4 x5 D = some r) : mz_Met IX8_move [.inr (.inr (some (0, 4))), .inl x1, .inl x2, .inl x3, .inl x4, .inl x5] D (none, r) := by
  refine mz_Met.of (by decide +kernel) (Nat.le_of_ble_eq_true rfl) ?_
  show mz_Go IX8_move (none, r) 0 0 (0, [some (.inr (.inr (some (0, 4)))), some (.inl x1), some (.inl x2), some (.inl x3), some (.inl x4), some (.inl x5)], [], D)
  rw [fX8_move] at h
  refine mz_Go.run (gs := [mz_kz 0 0 4, mz_kz 0 0 4]) (st' := (23, [some (.inr (.inr (some (0, 4)))), some (.inl x1), some (.inl x2), some (.inl x3), some (.inl x4), some (.inl x5)], [.inl x5, .inl ((x3 * (60 : Int32)) + x4), .inr (.inr (some (0, 7))), .inl ((x1 * (60 : Int32)) + x2), .inr (.inr (some (0, 7)))], D)) bX8_move_0 oX8_move_0 rfl ⟨rfl, rfl, trivial⟩ ?_
  obtain ⟨hb1, h⟩ := mz_gd_some h
  refine mz_Go.cpl (I := IX8_move) (idx := 32) (pl := 693) (pn := 695) (ps := 694) (pi := 142) (by decide +kernel) (by decide +kernel) rfl rfl rfl rfl hb1 rfl ?_
  cases h
  exact mz_Go.retv (by decide +kernel) rfl ⟨Nat.le_refl _, Nat.le_refl _⟩ rfl
def bX8_areWithin_0 : List mz_E := [(0, .iconst 0, 0, 0, 0, 0, 0), (1, .istore 7, 0, 0, 0, 0, 0)]
theorem oX8_areWithin_0 : bX8_areWithin_0.all (mz_ok RX8 cX8_areWithin 10) = true := by decide +kernel
def bX8_areWithin_3 : List mz_E := [(3, .iload 7, 0, 0, 0, 0, 0), (5, .iload_n 2, 0, 0, 0, 0, 0), (6, .if_icmp .ge 42, 0, 48, 0, 0, 0)]
theorem oX8_areWithin_3 : bX8_areWithin_3.all (mz_ok RX8 cX8_areWithin 10) = true := by decide +kernel
def bX8_areWithin_48 : List mz_E := [(48, .iconst 1, 0, 0, 0, 1, 0)]
theorem oX8_areWithin_48 : bX8_areWithin_48.all (mz_ok RX8 cX8_areWithin 10) = true := by decide +kernel
def bX8_areWithin_9 : List mz_E := [(9, .iload 7, 0, 0, 0, 0, 0), (11, .bipush 60, 0, 0, 0, 60, 0), (13, .if_icmp .ge 35, 0, 48, 0, 0, 0)]
theorem oX8_areWithin_9 : bX8_areWithin_9.all (mz_ok RX8 cX8_areWithin 10) = true := by decide +kernel
def bX8_areWithin_16 : List mz_E := [(16, .aload_n 0, 0, 0, 0, 0, 0), (17, .iload_n 1, 0, 0, 0, 0, 0), (18, .iload 7, 0, 0, 0, 0, 0)]
theorem oX8_areWithin_16 : bX8_areWithin_16.all (mz_ok RX8 cX8_areWithin 10) = true := by decide +kernel
def bX8_areWithin_23 : List mz_E := [(23, .lstore 8, 0, 0, 0, 0, 0), (25, .lload 8, 0, 0, 0, 0, 0), (27, .lload_n 3, 0, 0, 0, 0, 0), (28, .lcmp, 0, 0, 0, 0, 0), (29, .ifCond .lt 11, 0, 40, 0, 0, 0)]
theorem oX8_areWithin_23 : bX8_areWithin_23.all (mz_ok RX8 cX8_areWithin 10) = true := by decide +kernel
def bX8_areWithin_40 : List mz_E := [(40, .iconst 0, 0, 0, 0, 0, 0)]
theorem oX8_areWithin_40 : bX8_areWithin_40.all (mz_ok RX8 cX8_areWithin 10) = true := by decide +kernel
def bX8_areWithin_32 : List mz_E := [(32, .lload 8, 0, 0, 0, 0, 0), (34, .lload 5, 0, 0, 0, 0, 0), (36, .lcmp, 0, 0, 0, 0, 0), (37, .ifCond .le 5, 0, 42, 0, 0, 0)]
theorem oX8_areWithin_32 : bX8_areWithin_32.all (mz_ok RX8 cX8_areWithin 10) = true := by decide +kernel
def bX8_areWithin_42 : List mz_E := [(42, .iinc 7 1, 0, 0, 0, 1, 0), (45, .goto (-42), 0, 3, 0, 0, 0)]
theorem oX8_areWithin_42 : bX8_areWithin_42.all (mz_ok RX8 cX8_areWithin 10) = true := by decide +kernel
abbrev IX8_areWithin : mz_I := (yX8_areWithin, cX8_areWithin, 10, (some .boolean), 0, 1, 0, 0)
theorem kX8_areWithin : mz_okm IX8_areWithin 1467 132 1465 4 = true := by decide +kernel
theorem vX8_areWithin : mz_okV IX8_areWithin 1465 1466 = true := by decide +kernel
def fX8_areWithin_3 (D : mz_D) : Nat → Int32 → Int32 → Int64 → Int64 → Int32 → Option Int32
  | 0 => fun _ _ _ _ _ => none
  | n + 1 => fun x1 x2 y3 y5 x7 => (if x2 ≤ x7 then (some (1 : Int32)) else (if (60 : Int32) ≤ x7 then (some (1 : Int32)) else (Option.bind (fX8_get x1 x7 D) fun q3 => (if (lg_cmp q3 y3) < 0 then (some (0 : Int32)) else (if (lg_cmp q3 y5) ≤ 0 then ((fX8_areWithin_3 D n) x1 x2 y3 y5 (x7 + (1 : Int32))) else (some (0 : Int32)))))))
set_option maxHeartbeats 4000000 in
theorem tX8_areWithin_3 (D : mz_D) (r : Int32) : ∀ (n : Nat) (x1 : Int32) (x2 : Int32) (y3 : Int64) (y5 : Int64) (x7 : Int32), fX8_areWithin_3 D n x1 x2 y3 y5 x7 = some r → mz_Go IX8_areWithin (some (.inl r), D) 0 0 (3, [some (.inr (.inr (some (0, 4)))), some (.inl x1), some (.inl x2), some (.inr (.inl y3)), none, some (.inr (.inl y5)), none, some (.inl x7), none, none], [], D) := by
  intro n
  induction n with
  | zero => intro x1 x2 y3 y5 x7 h; have h : (none : Option Int32) = some r := h; cases h
  | succ n ih =>
    intro x1 x2 y3 y5 x7 h
    rw [fX8_areWithin_3] at h
    refine mz_Go.run (gs := []) (st' := (if x2 ≤ x7 then (48, [some (.inr (.inr (some (0, 4)))), some (.inl x1), some (.inl x2), some (.inr (.inl y3)), none, some (.inr (.inl y5)), none, some (.inl x7), none, none], [], D) else (9, [some (.inr (.inr (some (0, 4)))), some (.inl x1), some (.inl x2), some (.inr (.inl y3)), none, some (.inr (.inl y5)), none, some (.inl x7), none, none], [], D))) bX8_areWithin_3 oX8_areWithin_3 rfl trivial ?_
    refine mz_Go.ite (fun hc1 => ?_) (fun hc1 => ?_)
    · have h := mz_ifp hc1 h
      refine mz_Go.run (gs := []) (st' := (49, [some (.inr (.inr (some (0, 4)))), some (.inl x1), some (.inl x2), some (.inr (.inl y3)), none, some (.inr (.inl y5)), none, some (.inl x7), none, none], [.inl (1 : Int32)], D)) bX8_areWithin_48 oX8_areWithin_48 rfl trivial ?_
      cases h
      exact mz_Go.retz (by decide +kernel) rfl ⟨Nat.le_refl _, Nat.le_refl _⟩ (by decide) rfl
    · have h := mz_ifn hc1 h
      refine mz_Go.run (gs := []) (st' := (if (60 : Int32) ≤ x7 then (48, [some (.inr (.inr (some (0, 4)))), some (.inl x1), some (.inl x2), some (.inr (.inl y3)), none, some (.inr (.inl y5)), none, some (.inl x7), none, none], [], D) else (16, [some (.inr (.inr (some (0, 4)))), some (.inl x1), some (.inl x2), some (.inr (.inl y3)), none, some (.inr (.inl y5)), none, some (.inl x7), none, none], [], D))) bX8_areWithin_9 oX8_areWithin_9 rfl trivial ?_
      refine mz_Go.ite (fun hc2 => ?_) (fun hc2 => ?_)
      · have h := mz_ifp hc2 h
        refine mz_Go.run (gs := []) (st' := (49, [some (.inr (.inr (some (0, 4)))), some (.inl x1), some (.inl x2), some (.inr (.inl y3)), none, some (.inr (.inl y5)), none, some (.inl x7), none, none], [.inl (1 : Int32)], D)) bX8_areWithin_48 oX8_areWithin_48 rfl trivial ?_
        cases h
        exact mz_Go.retz (by decide +kernel) rfl ⟨Nat.le_refl _, Nat.le_refl _⟩ (by decide) rfl
      · have h := mz_ifn hc2 h
        refine mz_Go.run (gs := []) (st' := (20, [some (.inr (.inr (some (0, 4)))), some (.inl x1), some (.inl x2), some (.inr (.inl y3)), none, some (.inr (.inl y5)), none, some (.inl x7), none, none], [.inl x7, .inl x1, .inr (.inr (some (0, 4)))], D)) bX8_areWithin_16 oX8_areWithin_16 rfl trivial ?_
        obtain ⟨q3, hq3, h⟩ := mz_bd_some h
        refine mz_Go.callV (I := IX8_areWithin) (J := IX8_get) (as := [.inl x1, .inl x7]) (ci := 8) (g := 0) (o := 4) (idx := 38) (pl := 1468) (rest := []) (mX8_get x1 x7 D q3 hq3) kX8_get vX8_get (by decide +kernel) (by decide +kernel) (by decide +kernel) rfl rfl ⟨rfl, rfl⟩ rfl rfl rfl rfl ?_
        refine mz_Go.run (gs := []) (st' := (if (lg_cmp q3 y3) < 0 then (40, [some (.inr (.inr (some (0, 4)))), some (.inl x1), some (.inl x2), some (.inr (.inl y3)), none, some (.inr (.inl y5)), none, some (.inl x7), some (.inr (.inl q3)), none], [], D) else (32, [some (.inr (.inr (some (0, 4)))), some (.inl x1), some (.inl x2), some (.inr (.inl y3)), none, some (.inr (.inl y5)), none, some (.inl x7), some (.inr (.inl q3)), none], [], D))) bX8_areWithin_23 oX8_areWithin_23 rfl trivial ?_
        refine mz_Go.ite (fun hc4 => ?_) (fun hc4 => ?_)
        · have h := mz_ifp hc4 h
          refine mz_Go.run (gs := []) (st' := (41, [some (.inr (.inr (some (0, 4)))), some (.inl x1), some (.inl x2), some (.inr (.inl y3)), none, some (.inr (.inl y5)), none, some (.inl x7), some (.inr (.inl q3)), none], [.inl (0 : Int32)], D)) bX8_areWithin_40 oX8_areWithin_40 rfl trivial ?_
          cases h
          exact mz_Go.retz (by decide +kernel) rfl ⟨Nat.le_refl _, Nat.le_refl _⟩ (by decide) rfl
        · have h := mz_ifn hc4 h
          refine mz_Go.run (gs := []) (st' := (if (lg_cmp q3 y5) ≤ 0 then (42, [some (.inr (.inr (some (0, 4)))), some (.inl x1), some (.inl x2), some (.inr (.inl y3)), none, some (.inr (.inl y5)), none, some (.inl x7), some (.inr (.inl q3)), none], [], D) else (40, [some (.inr (.inr (some (0, 4)))), some (.inl x1), some (.inl x2), some (.inr (.inl y3)), none, some (.inr (.inl y5)), none, some (.inl x7), some (.inr (.inl q3)), none], [], D))) bX8_areWithin_32 oX8_areWithin_32 rfl trivial ?_
          refine mz_Go.ite (fun hc5 => ?_) (fun hc5 => ?_)
          · have h := mz_ifp hc5 h
            refine mz_Go.run (gs := []) (st' := (3, [some (.inr (.inr (some (0, 4)))), some (.inl x1), some (.inl x2), some (.inr (.inl y3)), none, some (.inr (.inl y5)), none, some (.inl (x7 + (1 : Int32))), some (.inr (.inl q3)), none], [], D)) bX8_areWithin_42 oX8_areWithin_42 rfl trivial ?_
            exact mz_Go.drop [true, true, true, true, false, true, false, true, false, false] (ih x1 x2 y3 y5 (x7 + (1 : Int32)) h)
          · have h := mz_ifn hc5 h
            refine mz_Go.run (gs := []) (st' := (41, [some (.inr (.inr (some (0, 4)))), some (.inl x1), some (.inl x2), some (.inr (.inl y3)), none, some (.inr (.inl y5)), none, some (.inl x7), some (.inr (.inl q3)), none], [.inl (0 : Int32)], D)) bX8_areWithin_40 oX8_areWithin_40 rfl trivial ?_
            cases h
            exact mz_Go.retz (by decide +kernel) rfl ⟨Nat.le_refl _, Nat.le_refl _⟩ (by decide) rfl
def fX8_areWithin (x1 : Int32) (x2 : Int32) (y3 : Int64) (y5 : Int64) (D : mz_D) : Option Int32 := (fX8_areWithin_3 D mz_N x1 x2 y3 y5 (0 : Int32))
set_option maxHeartbeats 4000000 in
theorem mX8_areWithin (x1 : Int32) (x2 : Int32) (y3 : Int64) (y5 : Int64) (D : mz_D) (r : Int32) (h : fX8_areWithin x1 x2 y3 y5 D = some r) : mz_Met IX8_areWithin [.inr (.inr (some (0, 4))), .inl x1, .inl x2, .inr (.inl y3), .inr (.inl y5)] D (some (.inl r), D) := by
  refine mz_Met.of (by decide +kernel) (Nat.le_of_ble_eq_true rfl) ?_
  show mz_Go IX8_areWithin (some (.inl r), D) 0 0 (0, [some (.inr (.inr (some (0, 4)))), some (.inl x1), some (.inl x2), some (.inr (.inl y3)), none, some (.inr (.inl y5)), none, none, none, none], [], D)
  rw [fX8_areWithin] at h
  refine mz_Go.run (gs := []) (st' := (3, [some (.inr (.inr (some (0, 4)))), some (.inl x1), some (.inl x2), some (.inr (.inl y3)), none, some (.inr (.inl y5)), none, some (.inl (0 : Int32)), none, none], [], D)) bX8_areWithin_0 oX8_areWithin_0 rfl trivial ?_
  exact mz_Go.drop [true, true, true, true, false, true, false, true, false, false] (tX8_areWithin_3 D r mz_N x1 x2 y3 y5 (0 : Int32) h)
def bX9_add_0 : List mz_E := [(0, .aload_n 0, 0, 0, 0, 0, 0), (1, .getfield 37, 9, 1, 430, 0, 0), (4, .istore_n 2, 0, 0, 0, 0, 0), (5, .aload_n 0, 0, 0, 0, 0, 0), (6, .getfield 9, 9, 2, 434, 0, 0), (9, .iload_n 2, 0, 0, 0, 0, 0), (10, .iload_n 1, 0, 0, 0, 0, 0), (11, .iastore, 0, 0, 0, 0, 0), (12, .aload_n 0, 0, 0, 0, 0, 0), (13, .getfield 15, 9, 3, 437, 0, 0), (16, .iload_n 2, 0, 0, 0, 0, 0), (17, .iconst (-1), 0, 0, 0, -1, 0), (18, .iastore, 0, 0, 0, 0, 0), (19, .aload_n 0, 0, 0, 0, 0, 0), (20, .getfield 18, 9, 4, 440, 0, 0), (23, .iload_n 2, 0, 0, 0, 0, 0), (24, .iconst (-1), 0, 0, 0, -1, 0), (25, .iastore, 0, 0, 0, 0, 0), (26, .aload_n 0, 0, 0, 0, 0, 0), (27, .getfield 21, 9, 5, 443, 0, 0), (30, .iload_n 2, 0, 0, 0, 0, 0), (31, .iconst (-1), 0, 0, 0, -1, 0), (32, .iastore, 0, 0, 0, 0, 0), (33, .aload_n 0, 0, 0, 0, 0, 0), (34, .getfield 24, 9, 6, 446, 0, 0), (37, .iload_n 2, 0, 0, 0, 0, 0), (38, .iconst 0, 0, 0, 0, 0, 0), (39, .iastore, 0, 0, 0, 0, 0), (40, .aload_n 0, 0, 0, 0, 0, 0), (41, .getfield 27, 9, 7, 449, 0, 0), (44, .iload_n 2, 0, 0, 0, 0, 0), (45, .iconst 0, 0, 0, 0, 0, 0), (46, .iastore, 0, 0, 0, 0, 0), (47, .aload_n 0, 0, 0, 0, 0, 0), (48, .getfield 30, 9, 8, 452, 0, 0), (51, .iload_n 2, 0, 0, 0, 0, 0), (52, .iload_n 2, 0, 0, 0, 0, 0), (53, .iconst 1, 0, 0, 0, 1, 0), (54, .iadd, 0, 0, 0, 0, 0), (55, .iastore, 0, 0, 0, 0, 0), (56, .aload_n 0, 0, 0, 0, 0, 0), (57, .dup, 0, 0, 0, 0, 0), (58, .getfield 37, 9, 1, 430, 0, 0), (61, .iconst 1, 0, 0, 0, 1, 0), (62, .iadd, 0, 0, 0, 0, 0), (63, .putfield 37, 9, 1, 430, 0, 0), (66, .iload_n 2, 0, 0, 0, 0, 0)]
theorem oX9_add_0 : bX9_add_0.all (mz_ok RX9 cX9_add 3) = true := by decide +kernel
abbrev IX9_add : mz_I := (yX9_add, cX9_add, 3, (some .int), 0, 0, 0, 0)
theorem kX9_add : mz_okm IX9_add 969 139 967 1 = true := by decide +kernel
theorem vX9_add : mz_okV IX9_add 967 968 = true := by decide +kernel
def fX9_add (g0 : Nat) (x1 : Int32) (D : mz_D) : Option (Int32 × mz_D) := (mz_gd (mz_ix (D.1 g0 119 1) 30) (some ((D.1 g0 119 1), (mz_wi (mz_wi (mz_wi (mz_wi (mz_wi (mz_wi (mz_wi (mz_wi D g0 120 ((D.1 g0 119 1)).toNatClampNeg x1) g0 121 ((D.1 g0 119 1)).toNatClampNeg (-1 : Int32)) g0 122 ((D.1 g0 119 1)).toNatClampNeg (-1 : Int32)) g0 123 ((D.1 g0 119 1)).toNatClampNeg (-1 : Int32)) g0 124 ((D.1 g0 119 1)).toNatClampNeg (0 : Int32)) g0 125 ((D.1 g0 119 1)).toNatClampNeg (0 : Int32)) g0 126 ((D.1 g0 119 1)).toNatClampNeg ((D.1 g0 119 1) + (1 : Int32))) g0 119 1 ((D.1 g0 119 1) + (1 : Int32))))))
set_option maxHeartbeats 4000000 in
theorem mX9_add (g0 : Nat) (x1 : Int32) (D : mz_D) (hg0 : mz_tb g0 = true) (r : (Int32 × mz_D)) (h : fX9_add g0 x1 D = some r) : mz_Met IX9_add [.inr (.inr (some (g0, 119))), .inl x1] D (some (.inl r.1), r.2) := by
  refine mz_Met.of (by decide +kernel) (Nat.le_of_ble_eq_true rfl) ?_
  show mz_Go IX9_add (some (.inl r.1), r.2) 0 0 (0, [some (.inr (.inr (some (g0, 119)))), some (.inl x1), none], [], D)
  rw [fX9_add] at h
  obtain ⟨hb1, h⟩ := mz_gd_some h
  refine mz_Go.run (gs := [mz_kz 0 g0 119, mz_kz 0 g0 119, mz_kz 0 g0 120, mz_ix (D.1 g0 119 1) 30, mz_kz 0 g0 119, mz_kz 0 g0 121, mz_ix (D.1 g0 119 1) 30, mz_kz 0 g0 119, mz_kz 0 g0 122, mz_ix (D.1 g0 119 1) 30, mz_kz 0 g0 119, mz_kz 0 g0 123, mz_ix (D.1 g0 119 1) 30, mz_kz 0 g0 119, mz_kz 0 g0 124, mz_ix (D.1 g0 119 1) 30, mz_kz 0 g0 119, mz_kz 0 g0 125, mz_ix (D.1 g0 119 1) 30, mz_kz 0 g0 119, mz_kz 0 g0 126, mz_ix (D.1 g0 119 1) 30, mz_kz 0 g0 119, mz_kz 0 g0 119]) (st' := (67, [some (.inr (.inr (some (g0, 119)))), some (.inl x1), some (.inl (D.1 g0 119 1))], [.inl (D.1 g0 119 1)], (mz_wi (mz_wi (mz_wi (mz_wi (mz_wi (mz_wi (mz_wi (mz_wi D g0 120 ((D.1 g0 119 1)).toNatClampNeg x1) g0 121 ((D.1 g0 119 1)).toNatClampNeg (-1 : Int32)) g0 122 ((D.1 g0 119 1)).toNatClampNeg (-1 : Int32)) g0 123 ((D.1 g0 119 1)).toNatClampNeg (-1 : Int32)) g0 124 ((D.1 g0 119 1)).toNatClampNeg (0 : Int32)) g0 125 ((D.1 g0 119 1)).toNatClampNeg (0 : Int32)) g0 126 ((D.1 g0 119 1)).toNatClampNeg ((D.1 g0 119 1) + (1 : Int32))) g0 119 1 ((D.1 g0 119 1) + (1 : Int32))))) bX9_add_0 oX9_add_0 rfl ⟨hg0, hg0, hg0, hb1, hg0, hg0, hb1, hg0, hg0, hb1, hg0, hg0, hb1, hg0, hg0, hb1, hg0, hg0, hb1, hg0, hg0, hb1, hg0, hg0, trivial⟩ ?_
  cases h
  exact mz_Go.reti (by decide +kernel) rfl ⟨Nat.le_refl _, Nat.le_refl _⟩ rfl
def bX10_takesEnd_0 : List mz_E := [(0, .aload_n 0, 0, 0, 0, 0, 0), (1, .getfield 55, 10, 4, 933, 0, 0), (4, .ifCond .ne 12, 0, 16, 0, 0, 0)]
theorem oX10_takesEnd_0 : bX10_takesEnd_0.all (mz_ok RX10 cX10_takesEnd 1) = true := by decide +kernel
def bX10_takesEnd_7 : List mz_E := [(7, .aload_n 0, 0, 0, 0, 0, 0), (8, .getfield 15, 10, 0, 929, 0, 0), (11, .iconst 2, 0, 0, 0, 2, 0)]
theorem oX10_takesEnd_7 : bX10_takesEnd_7.all (mz_ok RX10 cX10_takesEnd 1) = true := by decide +kernel
def bX10_takesEnd_16 : List mz_E := [(16, .aload_n 0, 0, 0, 0, 0, 0), (17, .dup, 0, 0, 0, 0, 0), (18, .getfield 55, 10, 4, 933, 0, 0), (21, .iconst 1, 0, 0, 0, 1, 0), (22, .isub, 0, 0, 0, 0, 0), (23, .putfield 55, 10, 4, 933, 0, 0), (26, .aload_n 0, 0, 0, 0, 0, 0), (27, .getfield 23, 10, 2, 931, 0, 0), (30, .getfield 68, 9, 8, 453, 0, 0), (33, .aload_n 0, 0, 0, 0, 0, 0), (34, .getfield 9, 10, 3, 932, 0, 0), (37, .aload_n 0, 0, 0, 0, 0, 0), (38, .getfield 55, 10, 4, 933, 0, 0), (41, .iaload, 0, 0, 0, 0, 0), (42, .aload_n 0, 0, 0, 0, 0, 0), (43, .getfield 23, 10, 2, 931, 0, 0), (46, .getfield 71, 9, 1, 431, 0, 0), (49, .iastore, 0, 0, 0, 0, 0), (50, .aload_n 0, 0, 0, 0, 0, 0), (51, .getfield 15, 10, 0, 929, 0, 0)]
theorem oX10_takesEnd_16 : bX10_takesEnd_16.all (mz_ok RX10 cX10_takesEnd 1) = true := by decide +kernel
def bX10_takesEnd_57 : List mz_E := [(57, .iconst 1, 0, 0, 0, 1, 0)]
theorem oX10_takesEnd_57 : bX10_takesEnd_57.all (mz_ok RX10 cX10_takesEnd 1) = true := by decide +kernel
abbrev IX10_takesEnd : mz_I := (yX10_takesEnd, cX10_takesEnd, 1, (some .boolean), 2, 2, 0, 0)
theorem kX10_takesEnd : mz_okm IX10_takesEnd 956 145 955 0 = true := by decide +kernel
theorem vX10_takesEnd : mz_okV IX10_takesEnd 955 16 = true := by decide +kernel
def fX10_takesEnd (D : mz_D) : Option (Int32 × mz_D) := (if (D.1 0 301 4) = 0 then (Option.bind (fX5_fail (2 : Int32) D) fun q2 => (mz_gd (mz_bo q2.1) (some (q2.1, q2.2)))) else (mz_gd (mz_ix ((D.1 0 301 4) - (1 : Int32)) 3) (mz_gd (mz_ix (D.1 0 302 (((D.1 0 301 4) - (1 : Int32))).toNatClampNeg) 30) (Option.bind (fX5_advance (mz_wi (mz_wi D 0 301 4 ((D.1 0 301 4) - (1 : Int32))) 2 126 ((D.1 0 302 (((D.1 0 301 4) - (1 : Int32))).toNatClampNeg)).toNatClampNeg (D.1 2 119 1))) fun q6 => (some ((1 : Int32), q6))))))
set_option maxHeartbeats 4000000 in
theorem mX10_takesEnd (D : mz_D) (r : (Int32 × mz_D)) (h : fX10_takesEnd D = some r) : mz_Met IX10_takesEnd [.inr (.inr (some (0, 301)))] D (some (.inl r.1), r.2) := by
  refine mz_Met.of (by decide +kernel) (Nat.le_of_ble_eq_true rfl) ?_
  show mz_Go IX10_takesEnd (some (.inl r.1), r.2) 0 0 (0, [some (.inr (.inr (some (0, 301))))], [], D)
  rw [fX10_takesEnd] at h
  refine mz_Go.run (gs := [mz_kz 2 0 301]) (st' := (if (D.1 0 301 4) = 0 then (7, [some (.inr (.inr (some (0, 301))))], [], D) else (16, [some (.inr (.inr (some (0, 301))))], [], D))) bX10_takesEnd_0 oX10_takesEnd_0 rfl ⟨rfl, trivial⟩ ?_
  refine mz_Go.ite (fun hc1 => ?_) (fun hc1 => ?_)
  · have h := mz_ifp hc1 h
    refine mz_Go.run (gs := [mz_kz 2 0 301]) (st' := (12, [some (.inr (.inr (some (0, 301))))], [.inl (2 : Int32), .inr (.inr (some (0, 2)))], D)) bX10_takesEnd_7 oX10_takesEnd_7 rfl ⟨rfl, trivial⟩ ?_
    obtain ⟨q2, hq2, h⟩ := mz_bd_some h
    refine mz_Go.callV (I := IX10_takesEnd) (J := IX5_fail) (as := [.inl (2 : Int32)]) (ci := 5) (g := 0) (o := 2) (idx := 58) (pl := 957) (rest := []) (mX5_fail (2 : Int32) D q2 hq2) kX5_fail vX5_fail (by decide +kernel) (by decide +kernel) (by decide +kernel) rfl rfl ⟨rfl, rfl⟩ rfl rfl rfl rfl ?_
    obtain ⟨hb3, h⟩ := mz_gd_some h
    cases h
    exact mz_Go.retz (by decide +kernel) rfl ⟨Nat.le_refl _, Nat.le_refl _⟩ hb3 rfl
  · have h := mz_ifn hc1 h
    obtain ⟨hb4, h⟩ := mz_gd_some h
    obtain ⟨hb5, h⟩ := mz_gd_some h
    refine mz_Go.run (gs := [mz_kz 2 0 301, mz_kz 2 0 301, mz_kz 2 0 301, mz_kz 2 2 119, mz_kz 2 0 301, mz_kz 2 0 301, mz_kz 2 0 302, mz_ix ((D.1 0 301 4) - (1 : Int32)) 3, mz_kz 2 0 301, mz_kz 2 2 119, mz_kz 2 2 126, mz_ix (D.1 0 302 (((D.1 0 301 4) - (1 : Int32))).toNatClampNeg) 30, mz_kz 2 0 301]) (st' := (54, [some (.inr (.inr (some (0, 301))))], [.inr (.inr (some (0, 2)))], (mz_wi (mz_wi D 0 301 4 ((D.1 0 301 4) - (1 : Int32))) 2 126 ((D.1 0 302 (((D.1 0 301 4) - (1 : Int32))).toNatClampNeg)).toNatClampNeg (D.1 2 119 1)))) bX10_takesEnd_16 oX10_takesEnd_16 rfl ⟨rfl, rfl, rfl, rfl, rfl, rfl, rfl, hb4, rfl, rfl, rfl, hb5, rfl, trivial⟩ ?_
    obtain ⟨q6, hq6, h⟩ := mz_bd_some h
    refine mz_Go.callV (I := IX10_takesEnd) (J := IX5_advance) (as := []) (ci := 5) (g := 0) (o := 2) (idx := 74) (pl := 958) (rest := []) (mX5_advance (mz_wi (mz_wi D 0 301 4 ((D.1 0 301 4) - (1 : Int32))) 2 126 ((D.1 0 302 (((D.1 0 301 4) - (1 : Int32))).toNatClampNeg)).toNatClampNeg (D.1 2 119 1)) q6 hq6) kX5_advance vX5_advance (by decide +kernel) (by decide +kernel) (by decide +kernel) rfl rfl ⟨rfl, rfl⟩ rfl rfl rfl rfl ?_
    refine mz_Go.run (gs := []) (st' := (58, [some (.inr (.inr (some (0, 301))))], [.inl (1 : Int32)], q6)) bX10_takesEnd_57 oX10_takesEnd_57 rfl trivial ?_
    cases h
    exact mz_Go.retz (by decide +kernel) rfl ⟨Nat.le_refl _, Nat.le_refl _⟩ (by decide) rfl
def bX10_isWork_0 : List mz_E := [(0, .iload_n 0, 0, 0, 0, 0, 0), (1, .bipush 17, 0, 0, 0, 17, 0), (3, .if_icmp .lt 9, 0, 12, 0, 0, 0)]
theorem oX10_isWork_0 : bX10_isWork_0.all (mz_ok RX10 cX10_isWork 1) = true := by decide +kernel
def bX10_isWork_12 : List mz_E := [(12, .iload_n 0, 0, 0, 0, 0, 0), (13, .bipush 24, 0, 0, 0, 24, 0), (15, .if_icmp .eq 15, 0, 30, 0, 0, 0)]
theorem oX10_isWork_12 : bX10_isWork_12.all (mz_ok RX10 cX10_isWork 1) = true := by decide +kernel
def bX10_isWork_30 : List mz_E := [(30, .iconst 1, 0, 0, 0, 1, 0), (31, .goto 4, 0, 35, 0, 0, 0)]
theorem oX10_isWork_30 : bX10_isWork_30.all (mz_ok RX10 cX10_isWork 1) = true := by decide +kernel
def bX10_isWork_18 : List mz_E := [(18, .iload_n 0, 0, 0, 0, 0, 0), (19, .bipush 26, 0, 0, 0, 26, 0), (21, .if_icmp .eq 9, 0, 30, 0, 0, 0)]
theorem oX10_isWork_18 : bX10_isWork_18.all (mz_ok RX10 cX10_isWork 1) = true := by decide +kernel
def bX10_isWork_24 : List mz_E := [(24, .iload_n 0, 0, 0, 0, 0, 0), (25, .bipush 28, 0, 0, 0, 28, 0), (27, .if_icmp .ne 7, 0, 34, 0, 0, 0)]
theorem oX10_isWork_24 : bX10_isWork_24.all (mz_ok RX10 cX10_isWork 1) = true := by decide +kernel
def bX10_isWork_34 : List mz_E := [(34, .iconst 0, 0, 0, 0, 0, 0)]
theorem oX10_isWork_34 : bX10_isWork_34.all (mz_ok RX10 cX10_isWork 1) = true := by decide +kernel
def bX10_isWork_6 : List mz_E := [(6, .iload_n 0, 0, 0, 0, 0, 0), (7, .bipush 21, 0, 0, 0, 21, 0), (9, .if_icmp .le 21, 0, 30, 0, 0, 0)]
theorem oX10_isWork_6 : bX10_isWork_6.all (mz_ok RX10 cX10_isWork 1) = true := by decide +kernel
abbrev IX10_isWork : mz_I := (yX10_isWork, cX10_isWork, 1, (some .boolean), 9, 0, 0, 0)
theorem kX10_isWork : mz_okm IX10_isWork 965 145 964 1 = true := by decide +kernel
theorem vX10_isWork : mz_okS IX10_isWork 964 = true := by decide +kernel
def fX10_isWork_12 (x0 : Int32) : Int32 := (if x0 = (24 : Int32) then (1 : Int32) else (if x0 = (26 : Int32) then (1 : Int32) else (if x0 = (28 : Int32) then (1 : Int32) else (0 : Int32))))
set_option maxHeartbeats 4000000 in
theorem tX10_isWork_12 (D : mz_D) (r : Int32) : ∀ (x0 : Int32), fX10_isWork_12 x0 = r → mz_Go IX10_isWork (some (.inl r), D) 0 0 (12, [some (.inl x0)], [], D) := by
  intro x0 h
  rw [fX10_isWork_12] at h
  refine mz_Go.run (gs := []) (st' := (if x0 = (24 : Int32) then (30, [some (.inl x0)], [], D) else (18, [some (.inl x0)], [], D))) bX10_isWork_12 oX10_isWork_12 rfl trivial ?_
  refine mz_Go.ite (fun hc1 => ?_) (fun hc1 => ?_)
  · have h := mz_ifp hc1 h
    refine mz_Go.run (gs := []) (st' := (35, [some (.inl x0)], [.inl (1 : Int32)], D)) bX10_isWork_30 oX10_isWork_30 rfl trivial ?_
    subst h
    exact mz_Go.retz (by decide +kernel) rfl ⟨Nat.le_refl _, Nat.le_refl _⟩ (by decide) rfl
  · have h := mz_ifn hc1 h
    refine mz_Go.run (gs := []) (st' := (if x0 = (26 : Int32) then (30, [some (.inl x0)], [], D) else (24, [some (.inl x0)], [], D))) bX10_isWork_18 oX10_isWork_18 rfl trivial ?_
    refine mz_Go.ite (fun hc2 => ?_) (fun hc2 => ?_)
    · have h := mz_ifp hc2 h
      refine mz_Go.run (gs := []) (st' := (35, [some (.inl x0)], [.inl (1 : Int32)], D)) bX10_isWork_30 oX10_isWork_30 rfl trivial ?_
      subst h
      exact mz_Go.retz (by decide +kernel) rfl ⟨Nat.le_refl _, Nat.le_refl _⟩ (by decide) rfl
    · have h := mz_ifn hc2 h
      refine mz_Go.run (gs := []) (st' := (if x0 = (28 : Int32) then (30, [some (.inl x0)], [], D) else (34, [some (.inl x0)], [], D))) bX10_isWork_24 oX10_isWork_24 rfl trivial ?_
      refine mz_Go.ite (fun hc3 => ?_) (fun hc3 => ?_)
      · have h := mz_ifp hc3 h
        refine mz_Go.run (gs := []) (st' := (35, [some (.inl x0)], [.inl (1 : Int32)], D)) bX10_isWork_30 oX10_isWork_30 rfl trivial ?_
        subst h
        exact mz_Go.retz (by decide +kernel) rfl ⟨Nat.le_refl _, Nat.le_refl _⟩ (by decide) rfl
      · have h := mz_ifn hc3 h
        refine mz_Go.run (gs := []) (st' := (35, [some (.inl x0)], [.inl (0 : Int32)], D)) bX10_isWork_34 oX10_isWork_34 rfl trivial ?_
        subst h
        exact mz_Go.retz (by decide +kernel) rfl ⟨Nat.le_refl _, Nat.le_refl _⟩ (by decide) rfl
def fX10_isWork (x0 : Int32) : Int32 := (if x0 < (17 : Int32) then (fX10_isWork_12 x0) else (if x0 ≤ (21 : Int32) then (1 : Int32) else (fX10_isWork_12 x0)))
set_option maxHeartbeats 4000000 in
theorem mX10_isWork (x0 : Int32) (D : mz_D) (r : Int32) (h : fX10_isWork x0 = r) : mz_Met IX10_isWork [.inl x0] D (some (.inl r), D) := by
  refine mz_Met.of (by decide +kernel) (Nat.le_of_ble_eq_true rfl) ?_
  show mz_Go IX10_isWork (some (.inl r), D) 0 0 (0, [some (.inl x0)], [], D)
  rw [fX10_isWork] at h
  refine mz_Go.run (gs := []) (st' := (if x0 < (17 : Int32) then (12, [some (.inl x0)], [], D) else (6, [some (.inl x0)], [], D))) bX10_isWork_0 oX10_isWork_0 rfl trivial ?_
  refine mz_Go.ite (fun hc1 => ?_) (fun hc1 => ?_)
  · have h := mz_ifp hc1 h
    exact mz_Go.drop [true] (tX10_isWork_12 D r x0 h)
  · have h := mz_ifn hc1 h
    refine mz_Go.run (gs := []) (st' := (if x0 ≤ (21 : Int32) then (30, [some (.inl x0)], [], D) else (12, [some (.inl x0)], [], D))) bX10_isWork_6 oX10_isWork_6 rfl trivial ?_
    refine mz_Go.ite (fun hc2 => ?_) (fun hc2 => ?_)
    · have h := mz_ifp hc2 h
      refine mz_Go.run (gs := []) (st' := (35, [some (.inl x0)], [.inl (1 : Int32)], D)) bX10_isWork_30 oX10_isWork_30 rfl trivial ?_
      subst h
      exact mz_Go.retz (by decide +kernel) rfl ⟨Nat.le_refl _, Nat.le_refl _⟩ (by decide) rfl
    · have h := mz_ifn hc2 h
      exact mz_Go.drop [true] (tX10_isWork_12 D r x0 h)
def bX10_beginsStep_0 : List mz_E := [(0, .aload_n 0, 0, 0, 0, 0, 0), (1, .getfield 15, 10, 0, 929, 0, 0), (4, .getfield 33, 5, 2, 219, 0, 0), (7, .istore_n 1, 0, 0, 0, 0, 0), (8, .iload_n 1, 0, 0, 0, 0, 0)]
theorem oX10_beginsStep_0 : bX10_beginsStep_0.all (mz_ok RX10 cX10_beginsStep 3) = true := by decide +kernel
def bX10_beginsStep_12 : List mz_E := [(12, .ifCond .ne 12, 0, 24, 0, 0, 0)]
theorem oX10_beginsStep_12 : bX10_beginsStep_12.all (mz_ok RX10 cX10_beginsStep 3) = true := by decide +kernel
def bX10_beginsStep_15 : List mz_E := [(15, .aload_n 0, 0, 0, 0, 0, 0), (16, .getfield 15, 10, 0, 929, 0, 0), (19, .iconst 2, 0, 0, 0, 2, 0)]
theorem oX10_beginsStep_15 : bX10_beginsStep_15.all (mz_ok RX10 cX10_beginsStep 3) = true := by decide +kernel
def bX10_beginsStep_24 : List mz_E := [(24, .aload_n 0, 0, 0, 0, 0, 0), (25, .getfield 23, 10, 2, 931, 0, 0), (28, .getfield 71, 9, 1, 431, 0, 0), (31, .bipush 30, 0, 0, 0, 30, 0), (33, .if_icmp .lt 13, 0, 46, 0, 0, 0)]
theorem oX10_beginsStep_24 : bX10_beginsStep_24.all (mz_ok RX10 cX10_beginsStep 3) = true := by decide +kernel
def bX10_beginsStep_46 : List mz_E := [(46, .iload_n 1, 0, 0, 0, 0, 0), (47, .bipush 24, 0, 0, 0, 24, 0), (49, .if_icmp .eq 9, 0, 58, 0, 0, 0)]
theorem oX10_beginsStep_46 : bX10_beginsStep_46.all (mz_ok RX10 cX10_beginsStep 3) = true := by decide +kernel
def bX10_beginsStep_58 : List mz_E := [(58, .iconst 1, 0, 0, 0, 1, 0), (59, .goto 4, 0, 63, 0, 0, 0)]
theorem oX10_beginsStep_58 : bX10_beginsStep_58.all (mz_ok RX10 cX10_beginsStep 3) = true := by decide +kernel
def bX10_beginsStep_63 : List mz_E := [(63, .istore_n 2, 0, 0, 0, 0, 0), (64, .iload_n 2, 0, 0, 0, 0, 0), (65, .ifCond .eq 21, 0, 86, 0, 0, 0)]
theorem oX10_beginsStep_63 : bX10_beginsStep_63.all (mz_ok RX10 cX10_beginsStep 3) = true := by decide +kernel
def bX10_beginsStep_86 : List mz_E := [(86, .aload_n 0, 0, 0, 0, 0, 0), (87, .aload_n 0, 0, 0, 0, 0, 0), (88, .getfield 23, 10, 2, 931, 0, 0), (91, .iload_n 1, 0, 0, 0, 0, 0)]
theorem oX10_beginsStep_86 : bX10_beginsStep_86.all (mz_ok RX10 cX10_beginsStep 3) = true := by decide +kernel
def bX10_beginsStep_95 : List mz_E := [(95, .putfield 84, 10, 5, 934, 0, 0), (98, .iload_n 2, 0, 0, 0, 0, 0), (99, .ifCond .eq 26, 0, 125, 0, 0, 0)]
theorem oX10_beginsStep_95 : bX10_beginsStep_95.all (mz_ok RX10 cX10_beginsStep 3) = true := by decide +kernel
def bX10_beginsStep_125 : List mz_E := [(125, .aload_n 0, 0, 0, 0, 0, 0), (126, .getfield 15, 10, 0, 929, 0, 0)]
theorem oX10_beginsStep_125 : bX10_beginsStep_125.all (mz_ok RX10 cX10_beginsStep 3) = true := by decide +kernel
def bX10_beginsStep_132 : List mz_E := [(132, .iconst 1, 0, 0, 0, 1, 0)]
theorem oX10_beginsStep_132 : bX10_beginsStep_132.all (mz_ok RX10 cX10_beginsStep 3) = true := by decide +kernel
def bX10_beginsStep_102 : List mz_E := [(102, .aload_n 0, 0, 0, 0, 0, 0), (103, .getfield 9, 10, 3, 932, 0, 0), (106, .aload_n 0, 0, 0, 0, 0, 0), (107, .getfield 55, 10, 4, 933, 0, 0), (110, .aload_n 0, 0, 0, 0, 0, 0), (111, .getfield 84, 10, 5, 934, 0, 0), (114, .iastore, 0, 0, 0, 0, 0), (115, .aload_n 0, 0, 0, 0, 0, 0), (116, .dup, 0, 0, 0, 0, 0), (117, .getfield 55, 10, 4, 933, 0, 0), (120, .iconst 1, 0, 0, 0, 1, 0), (121, .iadd, 0, 0, 0, 0, 0), (122, .putfield 55, 10, 4, 933, 0, 0)]
theorem oX10_beginsStep_102 : bX10_beginsStep_102.all (mz_ok RX10 cX10_beginsStep 3) = true := by decide +kernel
def bX10_beginsStep_68 : List mz_E := [(68, .aload_n 0, 0, 0, 0, 0, 0), (69, .getfield 55, 10, 4, 933, 0, 0), (72, .iconst 3, 0, 0, 0, 3, 0), (73, .if_icmp .lt 13, 0, 86, 0, 0, 0)]
theorem oX10_beginsStep_68 : bX10_beginsStep_68.all (mz_ok RX10 cX10_beginsStep 3) = true := by decide +kernel
def bX10_beginsStep_76 : List mz_E := [(76, .aload_n 0, 0, 0, 0, 0, 0), (77, .getfield 15, 10, 0, 929, 0, 0), (80, .bipush 7, 0, 0, 0, 7, 0)]
theorem oX10_beginsStep_76 : bX10_beginsStep_76.all (mz_ok RX10 cX10_beginsStep 3) = true := by decide +kernel
def bX10_beginsStep_52 : List mz_E := [(52, .iload_n 1, 0, 0, 0, 0, 0), (53, .bipush 26, 0, 0, 0, 26, 0), (55, .if_icmp .ne 7, 0, 62, 0, 0, 0)]
theorem oX10_beginsStep_52 : bX10_beginsStep_52.all (mz_ok RX10 cX10_beginsStep 3) = true := by decide +kernel
def bX10_beginsStep_62 : List mz_E := [(62, .iconst 0, 0, 0, 0, 0, 0)]
theorem oX10_beginsStep_62 : bX10_beginsStep_62.all (mz_ok RX10 cX10_beginsStep 3) = true := by decide +kernel
def bX10_beginsStep_36 : List mz_E := [(36, .aload_n 0, 0, 0, 0, 0, 0), (37, .getfield 15, 10, 0, 929, 0, 0), (40, .bipush 6, 0, 0, 0, 6, 0)]
theorem oX10_beginsStep_36 : bX10_beginsStep_36.all (mz_ok RX10 cX10_beginsStep 3) = true := by decide +kernel
abbrev IX10_beginsStep : mz_I := (yX10_beginsStep, cX10_beginsStep, 3, (some .boolean), 2, 2, 0, 0)
theorem kX10_beginsStep : mz_okm IX10_beginsStep 962 145 961 0 = true := by decide +kernel
theorem vX10_beginsStep : mz_okV IX10_beginsStep 961 17 = true := by decide +kernel
def fX10_beginsStep_125 (D : mz_D) : Option (Int32 × mz_D) := (Option.bind (fX5_advance D) fun q1 => (some ((1 : Int32), q1)))
set_option maxHeartbeats 4000000 in
theorem tX10_beginsStep_125 (r : (Int32 × mz_D)) : ∀ (D : mz_D), fX10_beginsStep_125 D = some r → mz_Go IX10_beginsStep (some (.inl r.1), r.2) 0 0 (125, [some (.inr (.inr (some (0, 301)))), none, none], [], D) := by
  intro D h
  rw [fX10_beginsStep_125] at h
  refine mz_Go.run (gs := [mz_kz 2 0 301]) (st' := (129, [some (.inr (.inr (some (0, 301)))), none, none], [.inr (.inr (some (0, 2)))], D)) bX10_beginsStep_125 oX10_beginsStep_125 rfl ⟨rfl, trivial⟩ ?_
  obtain ⟨q1, hq1, h⟩ := mz_bd_some h
  refine mz_Go.callV (I := IX10_beginsStep) (J := IX5_advance) (as := []) (ci := 5) (g := 0) (o := 2) (idx := 74) (pl := 958) (rest := []) (mX5_advance D q1 hq1) kX5_advance vX5_advance (by decide +kernel) (by decide +kernel) (by decide +kernel) rfl rfl ⟨rfl, rfl⟩ rfl rfl rfl rfl ?_
  refine mz_Go.run (gs := []) (st' := (133, [some (.inr (.inr (some (0, 301)))), none, none], [.inl (1 : Int32)], q1)) bX10_beginsStep_132 oX10_beginsStep_132 rfl trivial ?_
  cases h
  exact mz_Go.retz (by decide +kernel) rfl ⟨Nat.le_refl _, Nat.le_refl _⟩ (by decide) rfl
def fX10_beginsStep_86 (x1 : Int32) (x2 : Int32) (D : mz_D) : Option (Int32 × mz_D) := (Option.bind (fX9_add 2 x1 D) fun q1 => (if x2 = 0 then (fX10_beginsStep_125 (mz_wi q1.2 0 301 5 q1.1)) else (mz_gd (mz_ix (q1.2.1 0 301 4) 3) (fX10_beginsStep_125 (mz_wi (mz_wi (mz_wi q1.2 0 301 5 q1.1) 0 302 ((q1.2.1 0 301 4)).toNatClampNeg q1.1) 0 301 4 ((q1.2.1 0 301 4) + (1 : Int32)))))))
set_option maxHeartbeats 4000000 in
theorem tX10_beginsStep_86 (r : (Int32 × mz_D)) : ∀ (x1 : Int32) (x2 : Int32) (D : mz_D), fX10_beginsStep_86 x1 x2 D = some r → mz_Go IX10_beginsStep (some (.inl r.1), r.2) 0 0 (86, [some (.inr (.inr (some (0, 301)))), some (.inl x1), some (.inl x2)], [], D) := by
  intro x1 x2 D h
  rw [fX10_beginsStep_86] at h
  refine mz_Go.run (gs := [mz_kz 2 0 301]) (st' := (92, [some (.inr (.inr (some (0, 301)))), some (.inl x1), some (.inl x2)], [.inl x1, .inr (.inr (some (2, 119))), .inr (.inr (some (0, 301)))], D)) bX10_beginsStep_86 oX10_beginsStep_86 rfl ⟨rfl, trivial⟩ ?_
  obtain ⟨q1, hq1, h⟩ := mz_bd_some h
  refine mz_Go.callV (I := IX10_beginsStep) (J := IX9_add) (as := [.inl x1]) (ci := 9) (g := 2) (o := 119) (idx := 80) (pl := 966) (rest := [.inr (.inr (some (0, 301)))]) (mX9_add 2 x1 D rfl q1 hq1) kX9_add vX9_add (by decide +kernel) (by decide +kernel) (by decide +kernel) rfl rfl ⟨rfl, rfl⟩ rfl rfl rfl rfl ?_
  refine mz_Go.run (gs := [mz_kz 2 0 301]) (st' := (if x2 = 0 then (125, [some (.inr (.inr (some (0, 301)))), some (.inl x1), some (.inl x2)], [], (mz_wi q1.2 0 301 5 q1.1)) else (102, [some (.inr (.inr (some (0, 301)))), some (.inl x1), some (.inl x2)], [], (mz_wi q1.2 0 301 5 q1.1)))) bX10_beginsStep_95 oX10_beginsStep_95 rfl ⟨rfl, trivial⟩ ?_
  refine mz_Go.ite (fun hc2 => ?_) (fun hc2 => ?_)
  · have h := mz_ifp hc2 h
    exact mz_Go.drop [true, false, false] (tX10_beginsStep_125 r (mz_wi q1.2 0 301 5 q1.1) h)
  · have h := mz_ifn hc2 h
    obtain ⟨hb3, h⟩ := mz_gd_some h
    refine mz_Go.run (gs := [mz_kz 2 0 301, mz_kz 2 0 301, mz_kz 2 0 301, mz_kz 2 0 302, mz_ix (q1.2.1 0 301 4) 3, mz_kz 2 0 301, mz_kz 2 0 301]) (st' := (125, [some (.inr (.inr (some (0, 301)))), some (.inl x1), some (.inl x2)], [], (mz_wi (mz_wi (mz_wi q1.2 0 301 5 q1.1) 0 302 ((q1.2.1 0 301 4)).toNatClampNeg q1.1) 0 301 4 ((q1.2.1 0 301 4) + (1 : Int32))))) bX10_beginsStep_102 oX10_beginsStep_102 rfl ⟨rfl, rfl, rfl, rfl, hb3, rfl, rfl, trivial⟩ ?_
    exact mz_Go.drop [true, false, false] (tX10_beginsStep_125 r (mz_wi (mz_wi (mz_wi q1.2 0 301 5 q1.1) 0 302 ((q1.2.1 0 301 4)).toNatClampNeg q1.1) 0 301 4 ((q1.2.1 0 301 4) + (1 : Int32))) h)
def fX10_beginsStep_63 (x1 : Int32) (s0 : Int32) (D : mz_D) : Option (Int32 × mz_D) := (if s0 = 0 then (fX10_beginsStep_86 x1 s0 D) else (if (D.1 0 301 4) < (3 : Int32) then (fX10_beginsStep_86 x1 s0 D) else (Option.bind (fX5_fail (7 : Int32) D) fun q3 => (mz_gd (mz_bo q3.1) (some (q3.1, q3.2))))))
set_option maxHeartbeats 4000000 in
theorem tX10_beginsStep_63 (r : (Int32 × mz_D)) : ∀ (x1 : Int32) (s0 : Int32) (D : mz_D), fX10_beginsStep_63 x1 s0 D = some r → mz_Go IX10_beginsStep (some (.inl r.1), r.2) 0 0 (63, [some (.inr (.inr (some (0, 301)))), some (.inl x1), none], [.inl s0], D) := by
  intro x1 s0 D h
  rw [fX10_beginsStep_63] at h
  refine mz_Go.run (gs := []) (st' := (if s0 = 0 then (86, [some (.inr (.inr (some (0, 301)))), some (.inl x1), some (.inl s0)], [], D) else (68, [some (.inr (.inr (some (0, 301)))), some (.inl x1), some (.inl s0)], [], D))) bX10_beginsStep_63 oX10_beginsStep_63 rfl trivial ?_
  refine mz_Go.ite (fun hc1 => ?_) (fun hc1 => ?_)
  · have h := mz_ifp hc1 h
    exact mz_Go.drop [true, true, true] (tX10_beginsStep_86 r x1 s0 D h)
  · have h := mz_ifn hc1 h
    refine mz_Go.run (gs := [mz_kz 2 0 301]) (st' := (if (D.1 0 301 4) < (3 : Int32) then (86, [some (.inr (.inr (some (0, 301)))), some (.inl x1), some (.inl s0)], [], D) else (76, [some (.inr (.inr (some (0, 301)))), some (.inl x1), some (.inl s0)], [], D))) bX10_beginsStep_68 oX10_beginsStep_68 rfl ⟨rfl, trivial⟩ ?_
    refine mz_Go.ite (fun hc2 => ?_) (fun hc2 => ?_)
    · have h := mz_ifp hc2 h
      exact mz_Go.drop [true, true, true] (tX10_beginsStep_86 r x1 s0 D h)
    · have h := mz_ifn hc2 h
      refine mz_Go.run (gs := [mz_kz 2 0 301]) (st' := (82, [some (.inr (.inr (some (0, 301)))), some (.inl x1), some (.inl s0)], [.inl (7 : Int32), .inr (.inr (some (0, 2)))], D)) bX10_beginsStep_76 oX10_beginsStep_76 rfl ⟨rfl, trivial⟩ ?_
      obtain ⟨q3, hq3, h⟩ := mz_bd_some h
      refine mz_Go.callV (I := IX10_beginsStep) (J := IX5_fail) (as := [.inl (7 : Int32)]) (ci := 5) (g := 0) (o := 2) (idx := 58) (pl := 957) (rest := []) (mX5_fail (7 : Int32) D q3 hq3) kX5_fail vX5_fail (by decide +kernel) (by decide +kernel) (by decide +kernel) rfl rfl ⟨rfl, rfl⟩ rfl rfl rfl rfl ?_
      obtain ⟨hb4, h⟩ := mz_gd_some h
      cases h
      exact mz_Go.retz (by decide +kernel) rfl ⟨Nat.le_refl _, Nat.le_refl _⟩ hb4 rfl
def fX10_beginsStep_58 (x1 : Int32) (D : mz_D) : Option (Int32 × mz_D) := (fX10_beginsStep_63 x1 (1 : Int32) D)
set_option maxHeartbeats 4000000 in
theorem tX10_beginsStep_58 (r : (Int32 × mz_D)) : ∀ (x1 : Int32) (D : mz_D), fX10_beginsStep_58 x1 D = some r → mz_Go IX10_beginsStep (some (.inl r.1), r.2) 0 0 (58, [some (.inr (.inr (some (0, 301)))), some (.inl x1), none], [], D) := by
  intro x1 D h
  rw [fX10_beginsStep_58] at h
  refine mz_Go.run (gs := []) (st' := (63, [some (.inr (.inr (some (0, 301)))), some (.inl x1), none], [.inl (1 : Int32)], D)) bX10_beginsStep_58 oX10_beginsStep_58 rfl trivial ?_
  exact mz_Go.drop [true, true, false] (tX10_beginsStep_63 r x1 (1 : Int32) D h)
def fX10_beginsStep (D : mz_D) : Option (Int32 × mz_D) := (if (fX10_isWork (D.1 0 2 2)) = 0 then (Option.bind (fX5_fail (2 : Int32) D) fun q2 => (mz_gd (mz_bo q2.1) (some (q2.1, q2.2)))) else (if (D.1 2 119 1) < (30 : Int32) then (if (D.1 0 2 2) = (24 : Int32) then (fX10_beginsStep_58 (D.1 0 2 2) D) else (if (D.1 0 2 2) = (26 : Int32) then (fX10_beginsStep_58 (D.1 0 2 2) D) else (fX10_beginsStep_63 (D.1 0 2 2) (0 : Int32) D))) else (Option.bind (fX5_fail (6 : Int32) D) fun q7 => (mz_gd (mz_bo q7.1) (some (q7.1, q7.2))))))
set_option maxHeartbeats 4000000 in
theorem mX10_beginsStep (D : mz_D) (r : (Int32 × mz_D)) (h : fX10_beginsStep D = some r) : mz_Met IX10_beginsStep [.inr (.inr (some (0, 301)))] D (some (.inl r.1), r.2) := by
  refine mz_Met.of (by decide +kernel) (Nat.le_of_ble_eq_true rfl) ?_
  show mz_Go IX10_beginsStep (some (.inl r.1), r.2) 0 0 (0, [some (.inr (.inr (some (0, 301)))), none, none], [], D)
  rw [fX10_beginsStep] at h
  refine mz_Go.run (gs := [mz_kz 2 0 301, mz_kz 2 0 2]) (st' := (9, [some (.inr (.inr (some (0, 301)))), some (.inl (D.1 0 2 2)), none], [.inl (D.1 0 2 2)], D)) bX10_beginsStep_0 oX10_beginsStep_0 rfl ⟨rfl, rfl, trivial⟩ ?_
  refine mz_Go.callS (I := IX10_beginsStep) (J := IX10_isWork) (as := [.inl (D.1 0 2 2)]) (idx := 77) (pl := 963) (rest := []) (mX10_isWork (D.1 0 2 2) D _ rfl) kX10_isWork vX10_isWork (by decide +kernel) (by decide +kernel) (by decide +kernel) rfl rfl ⟨rfl, rfl⟩ rfl ?_
  refine mz_Go.run (gs := []) (st' := (if (fX10_isWork (D.1 0 2 2)) = 0 then (15, [some (.inr (.inr (some (0, 301)))), some (.inl (D.1 0 2 2)), none], [], D) else (24, [some (.inr (.inr (some (0, 301)))), some (.inl (D.1 0 2 2)), none], [], D))) bX10_beginsStep_12 oX10_beginsStep_12 rfl trivial ?_
  refine mz_Go.ite (fun hc1 => ?_) (fun hc1 => ?_)
  · have h := mz_ifp hc1 h
    refine mz_Go.run (gs := [mz_kz 2 0 301]) (st' := (20, [some (.inr (.inr (some (0, 301)))), some (.inl (D.1 0 2 2)), none], [.inl (2 : Int32), .inr (.inr (some (0, 2)))], D)) bX10_beginsStep_15 oX10_beginsStep_15 rfl ⟨rfl, trivial⟩ ?_
    obtain ⟨q2, hq2, h⟩ := mz_bd_some h
    refine mz_Go.callV (I := IX10_beginsStep) (J := IX5_fail) (as := [.inl (2 : Int32)]) (ci := 5) (g := 0) (o := 2) (idx := 58) (pl := 957) (rest := []) (mX5_fail (2 : Int32) D q2 hq2) kX5_fail vX5_fail (by decide +kernel) (by decide +kernel) (by decide +kernel) rfl rfl ⟨rfl, rfl⟩ rfl rfl rfl rfl ?_
    obtain ⟨hb3, h⟩ := mz_gd_some h
    cases h
    exact mz_Go.retz (by decide +kernel) rfl ⟨Nat.le_refl _, Nat.le_refl _⟩ hb3 rfl
  · have h := mz_ifn hc1 h
    refine mz_Go.run (gs := [mz_kz 2 0 301, mz_kz 2 2 119]) (st' := (if (D.1 2 119 1) < (30 : Int32) then (46, [some (.inr (.inr (some (0, 301)))), some (.inl (D.1 0 2 2)), none], [], D) else (36, [some (.inr (.inr (some (0, 301)))), some (.inl (D.1 0 2 2)), none], [], D))) bX10_beginsStep_24 oX10_beginsStep_24 rfl ⟨rfl, rfl, trivial⟩ ?_
    refine mz_Go.ite (fun hc4 => ?_) (fun hc4 => ?_)
    · have h := mz_ifp hc4 h
      refine mz_Go.run (gs := []) (st' := (if (D.1 0 2 2) = (24 : Int32) then (58, [some (.inr (.inr (some (0, 301)))), some (.inl (D.1 0 2 2)), none], [], D) else (52, [some (.inr (.inr (some (0, 301)))), some (.inl (D.1 0 2 2)), none], [], D))) bX10_beginsStep_46 oX10_beginsStep_46 rfl trivial ?_
      refine mz_Go.ite (fun hc5 => ?_) (fun hc5 => ?_)
      · have h := mz_ifp hc5 h
        exact mz_Go.drop [true, true, false] (tX10_beginsStep_58 r (D.1 0 2 2) D h)
      · have h := mz_ifn hc5 h
        refine mz_Go.run (gs := []) (st' := (if (D.1 0 2 2) = (26 : Int32) then (58, [some (.inr (.inr (some (0, 301)))), some (.inl (D.1 0 2 2)), none], [], D) else (62, [some (.inr (.inr (some (0, 301)))), some (.inl (D.1 0 2 2)), none], [], D))) bX10_beginsStep_52 oX10_beginsStep_52 rfl trivial ?_
        refine mz_Go.ite (fun hc6 => ?_) (fun hc6 => ?_)
        · have h := mz_ifp hc6 h
          exact mz_Go.drop [true, true, false] (tX10_beginsStep_58 r (D.1 0 2 2) D h)
        · have h := mz_ifn hc6 h
          refine mz_Go.run (gs := []) (st' := (63, [some (.inr (.inr (some (0, 301)))), some (.inl (D.1 0 2 2)), none], [.inl (0 : Int32)], D)) bX10_beginsStep_62 oX10_beginsStep_62 rfl trivial ?_
          exact mz_Go.drop [true, true, false] (tX10_beginsStep_63 r (D.1 0 2 2) (0 : Int32) D h)
    · have h := mz_ifn hc4 h
      refine mz_Go.run (gs := [mz_kz 2 0 301]) (st' := (42, [some (.inr (.inr (some (0, 301)))), some (.inl (D.1 0 2 2)), none], [.inl (6 : Int32), .inr (.inr (some (0, 2)))], D)) bX10_beginsStep_36 oX10_beginsStep_36 rfl ⟨rfl, trivial⟩ ?_
      obtain ⟨q7, hq7, h⟩ := mz_bd_some h
      refine mz_Go.callV (I := IX10_beginsStep) (J := IX5_fail) (as := [.inl (6 : Int32)]) (ci := 5) (g := 0) (o := 2) (idx := 58) (pl := 957) (rest := []) (mX5_fail (6 : Int32) D q7 hq7) kX5_fail vX5_fail (by decide +kernel) (by decide +kernel) (by decide +kernel) rfl rfl ⟨rfl, rfl⟩ rfl rfl rfl rfl ?_
      obtain ⟨hb8, h⟩ := mz_gd_some h
      cases h
      exact mz_Go.retz (by decide +kernel) rfl ⟨Nat.le_refl _, Nat.le_refl _⟩ hb8 rfl
def bX10_isTest_0 : List mz_E := [(0, .aload_n 0, 0, 0, 0, 0, 0), (1, .getfield 23, 10, 2, 931, 0, 0), (4, .getfield 87, 9, 2, 435, 0, 0), (7, .aload_n 0, 0, 0, 0, 0, 0), (8, .getfield 84, 10, 5, 934, 0, 0), (11, .iaload, 0, 0, 0, 0, 0), (12, .bipush 24, 0, 0, 0, 24, 0), (14, .if_icmp .ne 7, 0, 21, 0, 0, 0)]
theorem oX10_isTest_0 : bX10_isTest_0.all (mz_ok RX10 cX10_isTest 1) = true := by decide +kernel
def bX10_isTest_17 : List mz_E := [(17, .iconst 1, 0, 0, 0, 1, 0), (18, .goto 4, 0, 22, 0, 0, 0)]
theorem oX10_isTest_17 : bX10_isTest_17.all (mz_ok RX10 cX10_isTest 1) = true := by decide +kernel
def bX10_isTest_21 : List mz_E := [(21, .iconst 0, 0, 0, 0, 0, 0)]
theorem oX10_isTest_21 : bX10_isTest_21.all (mz_ok RX10 cX10_isTest 1) = true := by decide +kernel
abbrev IX10_isTest : mz_I := (yX10_isTest, cX10_isTest, 1, (some .boolean), 2, 0, 0, 0)
theorem kX10_isTest : mz_okm IX10_isTest 973 145 972 0 = true := by decide +kernel
theorem vX10_isTest : mz_okV IX10_isTest 972 18 = true := by decide +kernel
def fX10_isTest (D : mz_D) : Option Int32 := (mz_gd (mz_ix (D.1 0 301 5) 30) (if (D.1 2 120 ((D.1 0 301 5)).toNatClampNeg) = (24 : Int32) then (some (1 : Int32)) else (some (0 : Int32))))
set_option maxHeartbeats 4000000 in
theorem mX10_isTest (D : mz_D) (r : Int32) (h : fX10_isTest D = some r) : mz_Met IX10_isTest [.inr (.inr (some (0, 301)))] D (some (.inl r), D) := by
  refine mz_Met.of (by decide +kernel) (Nat.le_of_ble_eq_true rfl) ?_
  show mz_Go IX10_isTest (some (.inl r), D) 0 0 (0, [some (.inr (.inr (some (0, 301))))], [], D)
  rw [fX10_isTest] at h
  obtain ⟨hb1, h⟩ := mz_gd_some h
  refine mz_Go.run (gs := [mz_kz 2 0 301, mz_kz 2 2 119, mz_kz 2 0 301, mz_kz 2 2 120, mz_ix (D.1 0 301 5) 30]) (st' := (if (D.1 2 120 ((D.1 0 301 5)).toNatClampNeg) = (24 : Int32) then (17, [some (.inr (.inr (some (0, 301))))], [], D) else (21, [some (.inr (.inr (some (0, 301))))], [], D))) bX10_isTest_0 oX10_isTest_0 rfl ⟨rfl, rfl, rfl, rfl, hb1, trivial⟩ ?_
  refine mz_Go.ite (fun hc2 => ?_) (fun hc2 => ?_)
  · have h := mz_ifp hc2 h
    refine mz_Go.run (gs := []) (st' := (22, [some (.inr (.inr (some (0, 301))))], [.inl (1 : Int32)], D)) bX10_isTest_17 oX10_isTest_17 rfl trivial ?_
    cases h
    exact mz_Go.retz (by decide +kernel) rfl ⟨Nat.le_refl _, Nat.le_refl _⟩ (by decide) rfl
  · have h := mz_ifn hc2 h
    refine mz_Go.run (gs := []) (st' := (22, [some (.inr (.inr (some (0, 301))))], [.inl (0 : Int32)], D)) bX10_isTest_21 oX10_isTest_21 rfl trivial ?_
    cases h
    exact mz_Go.retz (by decide +kernel) rfl ⟨Nat.le_refl _, Nat.le_refl _⟩ (by decide) rfl
def bX10_takesTwo_0 : List mz_E := [(0, .aload_n 0, 0, 0, 0, 0, 0), (1, .getfield 15, 10, 0, 929, 0, 0), (4, .aload_n 0, 0, 0, 0, 0, 0), (5, .getfield 19, 10, 1, 930, 0, 0)]
theorem oX10_takesTwo_0 : bX10_takesTwo_0.all (mz_ok RX10 cX10_takesTwo 3) = true := by decide +kernel
def bX10_takesTwo_11 : List mz_E := [(11, .istore_n 2, 0, 0, 0, 0, 0), (12, .iload_n 2, 0, 0, 0, 0, 0), (13, .iconst (-1), 0, 0, 0, -1, 0), (14, .if_icmp .eq 19, 0, 33, 0, 0, 0)]
theorem oX10_takesTwo_11 : bX10_takesTwo_11.all (mz_ok RX10 cX10_takesTwo 3) = true := by decide +kernel
def bX10_takesTwo_33 : List mz_E := [(33, .iconst 0, 0, 0, 0, 0, 0)]
theorem oX10_takesTwo_33 : bX10_takesTwo_33.all (mz_ok RX10 cX10_takesTwo 3) = true := by decide +kernel
def bX10_takesTwo_17 : List mz_E := [(17, .iload_n 1, 0, 0, 0, 0, 0), (18, .iconst (-1), 0, 0, 0, -1, 0), (19, .if_icmp .eq 16, 0, 35, 0, 0, 0)]
theorem oX10_takesTwo_17 : bX10_takesTwo_17.all (mz_ok RX10 cX10_takesTwo 3) = true := by decide +kernel
def bX10_takesTwo_35 : List mz_E := [(35, .aload_n 0, 0, 0, 0, 0, 0), (36, .getfield 23, 10, 2, 931, 0, 0), (39, .getfield 100, 9, 4, 442, 0, 0), (42, .aload_n 0, 0, 0, 0, 0, 0), (43, .getfield 84, 10, 5, 934, 0, 0), (46, .iload_n 2, 0, 0, 0, 0, 0), (47, .iastore, 0, 0, 0, 0, 0), (48, .aload_n 0, 0, 0, 0, 0, 0), (49, .getfield 23, 10, 2, 931, 0, 0), (52, .getfield 110, 9, 5, 445, 0, 0), (55, .aload_n 0, 0, 0, 0, 0, 0), (56, .getfield 84, 10, 5, 934, 0, 0), (59, .aload_n 0, 0, 0, 0, 0, 0), (60, .getfield 15, 10, 0, 929, 0, 0), (63, .aload_n 0, 0, 0, 0, 0, 0), (64, .getfield 19, 10, 1, 930, 0, 0), (67, .iload_n 2, 0, 0, 0, 0, 0)]
theorem oX10_takesTwo_35 : bX10_takesTwo_35.all (mz_ok RX10 cX10_takesTwo 3) = true := by decide +kernel
def bX10_takesTwo_71 : List mz_E := [(71, .iastore, 0, 0, 0, 0, 0), (72, .aload_n 0, 0, 0, 0, 0, 0), (73, .getfield 23, 10, 2, 931, 0, 0), (76, .getfield 110, 9, 5, 445, 0, 0), (79, .aload_n 0, 0, 0, 0, 0, 0), (80, .getfield 84, 10, 5, 934, 0, 0), (83, .iaload, 0, 0, 0, 0, 0), (84, .iconst (-1), 0, 0, 0, -1, 0), (85, .if_icmp .eq 7, 0, 92, 0, 0, 0)]
theorem oX10_takesTwo_71 : bX10_takesTwo_71.all (mz_ok RX10 cX10_takesTwo 3) = true := by decide +kernel
def bX10_takesTwo_92 : List mz_E := [(92, .iconst 0, 0, 0, 0, 0, 0)]
theorem oX10_takesTwo_92 : bX10_takesTwo_92.all (mz_ok RX10 cX10_takesTwo 3) = true := by decide +kernel
def bX10_takesTwo_88 : List mz_E := [(88, .iconst 1, 0, 0, 0, 1, 0), (89, .goto 4, 0, 93, 0, 0, 0)]
theorem oX10_takesTwo_88 : bX10_takesTwo_88.all (mz_ok RX10 cX10_takesTwo 3) = true := by decide +kernel
def bX10_takesTwo_22 : List mz_E := [(22, .aload_n 0, 0, 0, 0, 0, 0), (23, .getfield 15, 10, 0, 929, 0, 0), (26, .iload_n 1, 0, 0, 0, 0, 0)]
theorem oX10_takesTwo_22 : bX10_takesTwo_22.all (mz_ok RX10 cX10_takesTwo 3) = true := by decide +kernel
def bX10_takesTwo_30 : List mz_E := [(30, .ifCond .ne 5, 0, 35, 0, 0, 0)]
theorem oX10_takesTwo_30 : bX10_takesTwo_30.all (mz_ok RX10 cX10_takesTwo 3) = true := by decide +kernel
abbrev IX10_takesTwo : mz_I := (yX10_takesTwo, cX10_takesTwo, 3, (some .boolean), 2, 3, 0, 0)
theorem kX10_takesTwo : mz_okm IX10_takesTwo 981 145 980 1 = true := by decide +kernel
theorem vX10_takesTwo : mz_okV IX10_takesTwo 980 20 = true := by decide +kernel
def fX10_takesTwo_35 (x2 : Int32) (D : mz_D) : Option (Int32 × mz_D) := (mz_gd (mz_ix (D.1 0 301 5) 30) (Option.bind (fX5_takeOther 1 x2 (mz_wi D 2 122 ((D.1 0 301 5)).toNatClampNeg x2)) fun q2 => (mz_gd (mz_ix (q2.2.1 0 301 5) 30) (if ((mz_wi q2.2 2 123 ((D.1 0 301 5)).toNatClampNeg q2.1).1 2 123 ((q2.2.1 0 301 5)).toNatClampNeg) = (-1 : Int32) then (some ((0 : Int32), (mz_wi q2.2 2 123 ((D.1 0 301 5)).toNatClampNeg q2.1))) else (some ((1 : Int32), (mz_wi q2.2 2 123 ((D.1 0 301 5)).toNatClampNeg q2.1)))))))
set_option maxHeartbeats 4000000 in
theorem tX10_takesTwo_35 (r : (Int32 × mz_D)) : ∀ (x2 : Int32) (D : mz_D), fX10_takesTwo_35 x2 D = some r → mz_Go IX10_takesTwo (some (.inl r.1), r.2) 0 0 (35, [some (.inr (.inr (some (0, 301)))), none, some (.inl x2)], [], D) := by
  intro x2 D h
  rw [fX10_takesTwo_35] at h
  obtain ⟨hb1, h⟩ := mz_gd_some h
  refine mz_Go.run (gs := [mz_kz 2 0 301, mz_kz 2 2 119, mz_kz 2 0 301, mz_kz 2 2 122, mz_ix (D.1 0 301 5) 30, mz_kz 2 0 301, mz_kz 2 2 119, mz_kz 2 0 301, mz_kz 2 0 301, mz_kz 2 0 301]) (st' := (68, [some (.inr (.inr (some (0, 301)))), none, some (.inl x2)], [.inl x2, .inr (.inr (some (1, 101))), .inr (.inr (some (0, 2))), .inl (D.1 0 301 5), .inr (.inr (some (2, 123)))], (mz_wi D 2 122 ((D.1 0 301 5)).toNatClampNeg x2))) bX10_takesTwo_35 oX10_takesTwo_35 rfl ⟨rfl, rfl, rfl, rfl, hb1, rfl, rfl, rfl, rfl, rfl, trivial⟩ ?_
  obtain ⟨q2, hq2, h⟩ := mz_bd_some h
  refine mz_Go.callV (I := IX10_takesTwo) (J := IX5_takeOther) (as := [.inr (.inr (some (1, 101))), .inl x2]) (ci := 5) (g := 0) (o := 2) (idx := 113) (pl := 987) (rest := [.inl (D.1 0 301 5), .inr (.inr (some (2, 123)))]) (mX5_takeOther 1 x2 (mz_wi D 2 122 ((D.1 0 301 5)).toNatClampNeg x2) rfl q2 hq2) kX5_takeOther vX5_takeOther (by decide +kernel) (by decide +kernel) (by decide +kernel) rfl rfl ⟨rfl, rfl⟩ rfl rfl rfl rfl ?_
  obtain ⟨hb3, h⟩ := mz_gd_some h
  refine mz_Go.run (gs := [mz_kz 2 2 123, mz_ix (D.1 0 301 5) 30, mz_kz 2 0 301, mz_kz 2 2 119, mz_kz 2 0 301, mz_kz 2 2 123, mz_ix (q2.2.1 0 301 5) 30]) (st' := (if ((mz_wi q2.2 2 123 ((D.1 0 301 5)).toNatClampNeg q2.1).1 2 123 ((q2.2.1 0 301 5)).toNatClampNeg) = (-1 : Int32) then (92, [some (.inr (.inr (some (0, 301)))), none, some (.inl x2)], [], (mz_wi q2.2 2 123 ((D.1 0 301 5)).toNatClampNeg q2.1)) else (88, [some (.inr (.inr (some (0, 301)))), none, some (.inl x2)], [], (mz_wi q2.2 2 123 ((D.1 0 301 5)).toNatClampNeg q2.1)))) bX10_takesTwo_71 oX10_takesTwo_71 rfl ⟨rfl, hb1, rfl, rfl, rfl, rfl, hb3, trivial⟩ ?_
  refine mz_Go.ite (fun hc4 => ?_) (fun hc4 => ?_)
  · have h := mz_ifp hc4 h
    refine mz_Go.run (gs := []) (st' := (93, [some (.inr (.inr (some (0, 301)))), none, some (.inl x2)], [.inl (0 : Int32)], (mz_wi q2.2 2 123 ((D.1 0 301 5)).toNatClampNeg q2.1))) bX10_takesTwo_92 oX10_takesTwo_92 rfl trivial ?_
    cases h
    exact mz_Go.retz (by decide +kernel) rfl ⟨Nat.le_refl _, Nat.le_refl _⟩ (by decide) rfl
  · have h := mz_ifn hc4 h
    refine mz_Go.run (gs := []) (st' := (93, [some (.inr (.inr (some (0, 301)))), none, some (.inl x2)], [.inl (1 : Int32)], (mz_wi q2.2 2 123 ((D.1 0 301 5)).toNatClampNeg q2.1))) bX10_takesTwo_88 oX10_takesTwo_88 rfl trivial ?_
    cases h
    exact mz_Go.retz (by decide +kernel) rfl ⟨Nat.le_refl _, Nat.le_refl _⟩ (by decide) rfl
def fX10_takesTwo (x1 : Int32) (D : mz_D) : Option (Int32 × mz_D) := (Option.bind (fX5_takePerson 1 D) fun q1 => (if q1.1 = (-1 : Int32) then (some ((0 : Int32), q1.2)) else (if x1 = (-1 : Int32) then (fX10_takesTwo_35 q1.1 q1.2) else (Option.bind (fX5_takes x1 q1.2) fun q4 => (if q4.1 = 0 then (some ((0 : Int32), q4.2)) else (fX10_takesTwo_35 q1.1 q4.2))))))
set_option maxHeartbeats 4000000 in
theorem mX10_takesTwo (x1 : Int32) (D : mz_D) (r : (Int32 × mz_D)) (h : fX10_takesTwo x1 D = some r) : mz_Met IX10_takesTwo [.inr (.inr (some (0, 301))), .inl x1] D (some (.inl r.1), r.2) := by
  refine mz_Met.of (by decide +kernel) (Nat.le_of_ble_eq_true rfl) ?_
  show mz_Go IX10_takesTwo (some (.inl r.1), r.2) 0 0 (0, [some (.inr (.inr (some (0, 301)))), some (.inl x1), none], [], D)
  rw [fX10_takesTwo] at h
  refine mz_Go.run (gs := [mz_kz 2 0 301, mz_kz 2 0 301]) (st' := (8, [some (.inr (.inr (some (0, 301)))), some (.inl x1), none], [.inr (.inr (some (1, 101))), .inr (.inr (some (0, 2)))], D)) bX10_takesTwo_0 oX10_takesTwo_0 rfl ⟨rfl, rfl, trivial⟩ ?_
  obtain ⟨q1, hq1, h⟩ := mz_bd_some h
  refine mz_Go.callV (I := IX10_takesTwo) (J := IX5_takePerson) (as := [.inr (.inr (some (1, 101)))]) (ci := 5) (g := 0) (o := 2) (idx := 103) (pl := 982) (rest := []) (mX5_takePerson 1 D rfl q1 hq1) kX5_takePerson vX5_takePerson (by decide +kernel) (by decide +kernel) (by decide +kernel) rfl rfl ⟨rfl, rfl⟩ rfl rfl rfl rfl ?_
  refine mz_Go.run (gs := []) (st' := (if q1.1 = (-1 : Int32) then (33, [some (.inr (.inr (some (0, 301)))), some (.inl x1), some (.inl q1.1)], [], q1.2) else (17, [some (.inr (.inr (some (0, 301)))), some (.inl x1), some (.inl q1.1)], [], q1.2))) bX10_takesTwo_11 oX10_takesTwo_11 rfl trivial ?_
  refine mz_Go.ite (fun hc2 => ?_) (fun hc2 => ?_)
  · have h := mz_ifp hc2 h
    refine mz_Go.run (gs := []) (st' := (34, [some (.inr (.inr (some (0, 301)))), some (.inl x1), some (.inl q1.1)], [.inl (0 : Int32)], q1.2)) bX10_takesTwo_33 oX10_takesTwo_33 rfl trivial ?_
    cases h
    exact mz_Go.retz (by decide +kernel) rfl ⟨Nat.le_refl _, Nat.le_refl _⟩ (by decide) rfl
  · have h := mz_ifn hc2 h
    refine mz_Go.run (gs := []) (st' := (if x1 = (-1 : Int32) then (35, [some (.inr (.inr (some (0, 301)))), some (.inl x1), some (.inl q1.1)], [], q1.2) else (22, [some (.inr (.inr (some (0, 301)))), some (.inl x1), some (.inl q1.1)], [], q1.2))) bX10_takesTwo_17 oX10_takesTwo_17 rfl trivial ?_
    refine mz_Go.ite (fun hc3 => ?_) (fun hc3 => ?_)
    · have h := mz_ifp hc3 h
      exact mz_Go.drop [true, false, true] (tX10_takesTwo_35 r q1.1 q1.2 h)
    · have h := mz_ifn hc3 h
      refine mz_Go.run (gs := [mz_kz 2 0 301]) (st' := (27, [some (.inr (.inr (some (0, 301)))), some (.inl x1), some (.inl q1.1)], [.inl x1, .inr (.inr (some (0, 2)))], q1.2)) bX10_takesTwo_22 oX10_takesTwo_22 rfl ⟨rfl, trivial⟩ ?_
      obtain ⟨q4, hq4, h⟩ := mz_bd_some h
      refine mz_Go.callV (I := IX10_takesTwo) (J := IX5_takes) (as := [.inl x1]) (ci := 5) (g := 0) (o := 2) (idx := 107) (pl := 983) (rest := []) (mX5_takes x1 q1.2 q4 hq4) kX5_takes vX5_takes (by decide +kernel) (by decide +kernel) (by decide +kernel) rfl rfl ⟨rfl, rfl⟩ rfl rfl rfl rfl ?_
      refine mz_Go.run (gs := []) (st' := (if q4.1 = 0 then (33, [some (.inr (.inr (some (0, 301)))), some (.inl x1), some (.inl q1.1)], [], q4.2) else (35, [some (.inr (.inr (some (0, 301)))), some (.inl x1), some (.inl q1.1)], [], q4.2))) bX10_takesTwo_30 oX10_takesTwo_30 rfl trivial ?_
      refine mz_Go.ite (fun hc5 => ?_) (fun hc5 => ?_)
      · have h := mz_ifp hc5 h
        refine mz_Go.run (gs := []) (st' := (34, [some (.inr (.inr (some (0, 301)))), some (.inl x1), some (.inl q1.1)], [.inl (0 : Int32)], q4.2)) bX10_takesTwo_33 oX10_takesTwo_33 rfl trivial ?_
        cases h
        exact mz_Go.retz (by decide +kernel) rfl ⟨Nat.le_refl _, Nat.le_refl _⟩ (by decide) rfl
      · have h := mz_ifn hc5 h
        exact mz_Go.drop [true, false, true] (tX10_takesTwo_35 r q1.1 q4.2 h)
def bX10_takesCompare_0 : List mz_E := [(0, .aload_n 0, 0, 0, 0, 0, 0), (1, .getfield 15, 10, 0, 929, 0, 0)]
theorem oX10_takesCompare_0 : bX10_takesCompare_0.all (mz_ok RX10 cX10_takesCompare 2) = true := by decide +kernel
def bX10_takesCompare_7 : List mz_E := [(7, .istore_n 1, 0, 0, 0, 0, 0), (8, .iload_n 1, 0, 0, 0, 0, 0), (9, .bipush 60, 0, 0, 0, 60, 0), (11, .if_icmp .eq 24, 0, 35, 0, 0, 0)]
theorem oX10_takesCompare_7 : bX10_takesCompare_7.all (mz_ok RX10 cX10_takesCompare 2) = true := by decide +kernel
def bX10_takesCompare_35 : List mz_E := [(35, .aload_n 0, 0, 0, 0, 0, 0), (36, .getfield 23, 10, 2, 931, 0, 0), (39, .getfield 134, 9, 6, 447, 0, 0), (42, .aload_n 0, 0, 0, 0, 0, 0), (43, .getfield 84, 10, 5, 934, 0, 0), (46, .iload_n 1, 0, 0, 0, 0, 0), (47, .iastore, 0, 0, 0, 0, 0), (48, .aload_n 0, 0, 0, 0, 0, 0), (49, .getfield 15, 10, 0, 929, 0, 0)]
theorem oX10_takesCompare_35 : bX10_takesCompare_35.all (mz_ok RX10 cX10_takesCompare 2) = true := by decide +kernel
def bX10_takesCompare_55 : List mz_E := [(55, .iconst 1, 0, 0, 0, 1, 0)]
theorem oX10_takesCompare_55 : bX10_takesCompare_55.all (mz_ok RX10 cX10_takesCompare 2) = true := by decide +kernel
def bX10_takesCompare_14 : List mz_E := [(14, .iload_n 1, 0, 0, 0, 0, 0), (15, .bipush 62, 0, 0, 0, 62, 0), (17, .if_icmp .eq 18, 0, 35, 0, 0, 0)]
theorem oX10_takesCompare_14 : bX10_takesCompare_14.all (mz_ok RX10 cX10_takesCompare 2) = true := by decide +kernel
def bX10_takesCompare_20 : List mz_E := [(20, .iload_n 1, 0, 0, 0, 0, 0), (21, .bipush 61, 0, 0, 0, 61, 0), (23, .if_icmp .eq 12, 0, 35, 0, 0, 0)]
theorem oX10_takesCompare_20 : bX10_takesCompare_20.all (mz_ok RX10 cX10_takesCompare 2) = true := by decide +kernel
def bX10_takesCompare_26 : List mz_E := [(26, .aload_n 0, 0, 0, 0, 0, 0), (27, .getfield 15, 10, 0, 929, 0, 0), (30, .iconst 2, 0, 0, 0, 2, 0)]
theorem oX10_takesCompare_26 : bX10_takesCompare_26.all (mz_ok RX10 cX10_takesCompare 2) = true := by decide +kernel
abbrev IX10_takesCompare : mz_I := (yX10_takesCompare, cX10_takesCompare, 2, (some .boolean), 2, 2, 0, 0)
theorem kX10_takesCompare : mz_okm IX10_takesCompare 991 145 990 0 = true := by decide +kernel
theorem vX10_takesCompare : mz_okV IX10_takesCompare 990 21 = true := by decide +kernel
def fX10_takesCompare_35 (x1 : Int32) (D : mz_D) : Option (Int32 × mz_D) := (mz_gd (mz_ix (D.1 0 301 5) 30) (Option.bind (fX5_advance (mz_wi D 2 124 ((D.1 0 301 5)).toNatClampNeg x1)) fun q2 => (some ((1 : Int32), q2))))
set_option maxHeartbeats 4000000 in
theorem tX10_takesCompare_35 (r : (Int32 × mz_D)) : ∀ (x1 : Int32) (D : mz_D), fX10_takesCompare_35 x1 D = some r → mz_Go IX10_takesCompare (some (.inl r.1), r.2) 0 0 (35, [some (.inr (.inr (some (0, 301)))), some (.inl x1)], [], D) := by
  intro x1 D h
  rw [fX10_takesCompare_35] at h
  obtain ⟨hb1, h⟩ := mz_gd_some h
  refine mz_Go.run (gs := [mz_kz 2 0 301, mz_kz 2 2 119, mz_kz 2 0 301, mz_kz 2 2 124, mz_ix (D.1 0 301 5) 30, mz_kz 2 0 301]) (st' := (52, [some (.inr (.inr (some (0, 301)))), some (.inl x1)], [.inr (.inr (some (0, 2)))], (mz_wi D 2 124 ((D.1 0 301 5)).toNatClampNeg x1))) bX10_takesCompare_35 oX10_takesCompare_35 rfl ⟨rfl, rfl, rfl, rfl, hb1, rfl, trivial⟩ ?_
  obtain ⟨q2, hq2, h⟩ := mz_bd_some h
  refine mz_Go.callV (I := IX10_takesCompare) (J := IX5_advance) (as := []) (ci := 5) (g := 0) (o := 2) (idx := 74) (pl := 958) (rest := []) (mX5_advance (mz_wi D 2 124 ((D.1 0 301 5)).toNatClampNeg x1) q2 hq2) kX5_advance vX5_advance (by decide +kernel) (by decide +kernel) (by decide +kernel) rfl rfl ⟨rfl, rfl⟩ rfl rfl rfl rfl ?_
  refine mz_Go.run (gs := []) (st' := (56, [some (.inr (.inr (some (0, 301)))), some (.inl x1)], [.inl (1 : Int32)], q2)) bX10_takesCompare_55 oX10_takesCompare_55 rfl trivial ?_
  cases h
  exact mz_Go.retz (by decide +kernel) rfl ⟨Nat.le_refl _, Nat.le_refl _⟩ (by decide) rfl
def fX10_takesCompare (D : mz_D) : Option (Int32 × mz_D) := (if (fX5_signHere D) = (60 : Int32) then (fX10_takesCompare_35 (fX5_signHere D) D) else (if (fX5_signHere D) = (62 : Int32) then (fX10_takesCompare_35 (fX5_signHere D) D) else (if (fX5_signHere D) = (61 : Int32) then (fX10_takesCompare_35 (fX5_signHere D) D) else (Option.bind (fX5_fail (2 : Int32) D) fun q4 => (mz_gd (mz_bo q4.1) (some (q4.1, q4.2)))))))
set_option maxHeartbeats 4000000 in
theorem mX10_takesCompare (D : mz_D) (r : (Int32 × mz_D)) (h : fX10_takesCompare D = some r) : mz_Met IX10_takesCompare [.inr (.inr (some (0, 301)))] D (some (.inl r.1), r.2) := by
  refine mz_Met.of (by decide +kernel) (Nat.le_of_ble_eq_true rfl) ?_
  show mz_Go IX10_takesCompare (some (.inl r.1), r.2) 0 0 (0, [some (.inr (.inr (some (0, 301)))), none], [], D)
  rw [fX10_takesCompare] at h
  refine mz_Go.run (gs := [mz_kz 2 0 301]) (st' := (4, [some (.inr (.inr (some (0, 301)))), none], [.inr (.inr (some (0, 2)))], D)) bX10_takesCompare_0 oX10_takesCompare_0 rfl ⟨rfl, trivial⟩ ?_
  refine mz_Go.callV (I := IX10_takesCompare) (J := IX5_signHere) (as := []) (ci := 5) (g := 0) (o := 2) (idx := 130) (pl := 992) (rest := []) (mX5_signHere D _ rfl) kX5_signHere vX5_signHere (by decide +kernel) (by decide +kernel) (by decide +kernel) rfl rfl ⟨rfl, rfl⟩ rfl rfl rfl rfl ?_
  refine mz_Go.run (gs := []) (st' := (if (fX5_signHere D) = (60 : Int32) then (35, [some (.inr (.inr (some (0, 301)))), some (.inl (fX5_signHere D))], [], D) else (14, [some (.inr (.inr (some (0, 301)))), some (.inl (fX5_signHere D))], [], D))) bX10_takesCompare_7 oX10_takesCompare_7 rfl trivial ?_
  refine mz_Go.ite (fun hc1 => ?_) (fun hc1 => ?_)
  · have h := mz_ifp hc1 h
    exact mz_Go.drop [true, true] (tX10_takesCompare_35 r (fX5_signHere D) D h)
  · have h := mz_ifn hc1 h
    refine mz_Go.run (gs := []) (st' := (if (fX5_signHere D) = (62 : Int32) then (35, [some (.inr (.inr (some (0, 301)))), some (.inl (fX5_signHere D))], [], D) else (20, [some (.inr (.inr (some (0, 301)))), some (.inl (fX5_signHere D))], [], D))) bX10_takesCompare_14 oX10_takesCompare_14 rfl trivial ?_
    refine mz_Go.ite (fun hc2 => ?_) (fun hc2 => ?_)
    · have h := mz_ifp hc2 h
      exact mz_Go.drop [true, true] (tX10_takesCompare_35 r (fX5_signHere D) D h)
    · have h := mz_ifn hc2 h
      refine mz_Go.run (gs := []) (st' := (if (fX5_signHere D) = (61 : Int32) then (35, [some (.inr (.inr (some (0, 301)))), some (.inl (fX5_signHere D))], [], D) else (26, [some (.inr (.inr (some (0, 301)))), some (.inl (fX5_signHere D))], [], D))) bX10_takesCompare_20 oX10_takesCompare_20 rfl trivial ?_
      refine mz_Go.ite (fun hc3 => ?_) (fun hc3 => ?_)
      · have h := mz_ifp hc3 h
        exact mz_Go.drop [true, true] (tX10_takesCompare_35 r (fX5_signHere D) D h)
      · have h := mz_ifn hc3 h
        refine mz_Go.run (gs := [mz_kz 2 0 301]) (st' := (31, [some (.inr (.inr (some (0, 301)))), some (.inl (fX5_signHere D))], [.inl (2 : Int32), .inr (.inr (some (0, 2)))], D)) bX10_takesCompare_26 oX10_takesCompare_26 rfl ⟨rfl, trivial⟩ ?_
        obtain ⟨q4, hq4, h⟩ := mz_bd_some h
        refine mz_Go.callV (I := IX10_takesCompare) (J := IX5_fail) (as := [.inl (2 : Int32)]) (ci := 5) (g := 0) (o := 2) (idx := 58) (pl := 957) (rest := []) (mX5_fail (2 : Int32) D q4 hq4) kX5_fail vX5_fail (by decide +kernel) (by decide +kernel) (by decide +kernel) rfl rfl ⟨rfl, rfl⟩ rfl rfl rfl rfl ?_
        obtain ⟨hb5, h⟩ := mz_gd_some h
        cases h
        exact mz_Go.retz (by decide +kernel) rfl ⟨Nat.le_refl _, Nat.le_refl _⟩ hb5 rfl
def bX10_takesCount_0 : List mz_E := [(0, .aload_n 0, 0, 0, 0, 0, 0), (1, .getfield 23, 10, 2, 931, 0, 0), (4, .getfield 117, 9, 7, 451, 0, 0), (7, .aload_n 0, 0, 0, 0, 0, 0), (8, .getfield 84, 10, 5, 934, 0, 0), (11, .aload_n 0, 0, 0, 0, 0, 0), (12, .getfield 15, 10, 0, 929, 0, 0), (15, .iload_n 1, 0, 0, 0, 0, 0), (16, .iload_n 2, 0, 0, 0, 0, 0)]
theorem oX10_takesCount_0 : bX10_takesCount_0.all (mz_ok RX10 cX10_takesCount 3) = true := by decide +kernel
def bX10_takesCount_20 : List mz_E := [(20, .iastore, 0, 0, 0, 0, 0), (21, .aload_n 0, 0, 0, 0, 0, 0), (22, .getfield 23, 10, 2, 931, 0, 0), (25, .getfield 117, 9, 7, 451, 0, 0), (28, .aload_n 0, 0, 0, 0, 0, 0), (29, .getfield 84, 10, 5, 934, 0, 0), (32, .iaload, 0, 0, 0, 0, 0), (33, .iconst (-1), 0, 0, 0, -1, 0), (34, .if_icmp .eq 7, 0, 41, 0, 0, 0)]
theorem oX10_takesCount_20 : bX10_takesCount_20.all (mz_ok RX10 cX10_takesCount 3) = true := by decide +kernel
def bX10_takesCount_41 : List mz_E := [(41, .iconst 0, 0, 0, 0, 0, 0)]
theorem oX10_takesCount_41 : bX10_takesCount_41.all (mz_ok RX10 cX10_takesCount 3) = true := by decide +kernel
def bX10_takesCount_37 : List mz_E := [(37, .iconst 1, 0, 0, 0, 1, 0), (38, .goto 4, 0, 42, 0, 0, 0)]
theorem oX10_takesCount_37 : bX10_takesCount_37.all (mz_ok RX10 cX10_takesCount 3) = true := by decide +kernel
abbrev IX10_takesCount : mz_I := (yX10_takesCount, cX10_takesCount, 3, (some .boolean), 2, 3, 0, 0)
theorem kX10_takesCount : mz_okm IX10_takesCount 999 145 998 2 = true := by decide +kernel
theorem vX10_takesCount : mz_okV IX10_takesCount 998 22 = true := by decide +kernel
def fX10_takesCount (x1 : Int32) (x2 : Int32) (D : mz_D) : Option (Int32 × mz_D) := (Option.bind (fX5_takeNumber x1 x2 D) fun q1 => (mz_gd (mz_ix (D.1 0 301 5) 30) (mz_gd (mz_ix (q1.2.1 0 301 5) 30) (if ((mz_wi q1.2 2 125 ((D.1 0 301 5)).toNatClampNeg q1.1).1 2 125 ((q1.2.1 0 301 5)).toNatClampNeg) = (-1 : Int32) then (some ((0 : Int32), (mz_wi q1.2 2 125 ((D.1 0 301 5)).toNatClampNeg q1.1))) else (some ((1 : Int32), (mz_wi q1.2 2 125 ((D.1 0 301 5)).toNatClampNeg q1.1)))))))
set_option maxHeartbeats 4000000 in
theorem mX10_takesCount (x1 : Int32) (x2 : Int32) (D : mz_D) (r : (Int32 × mz_D)) (h : fX10_takesCount x1 x2 D = some r) : mz_Met IX10_takesCount [.inr (.inr (some (0, 301))), .inl x1, .inl x2] D (some (.inl r.1), r.2) := by
  refine mz_Met.of (by decide +kernel) (Nat.le_of_ble_eq_true rfl) ?_
  show mz_Go IX10_takesCount (some (.inl r.1), r.2) 0 0 (0, [some (.inr (.inr (some (0, 301)))), some (.inl x1), some (.inl x2)], [], D)
  rw [fX10_takesCount] at h
  refine mz_Go.run (gs := [mz_kz 2 0 301, mz_kz 2 2 119, mz_kz 2 0 301, mz_kz 2 0 301]) (st' := (17, [some (.inr (.inr (some (0, 301)))), some (.inl x1), some (.inl x2)], [.inl x2, .inl x1, .inr (.inr (some (0, 2))), .inl (D.1 0 301 5), .inr (.inr (some (2, 125)))], D)) bX10_takesCount_0 oX10_takesCount_0 rfl ⟨rfl, rfl, rfl, rfl, trivial⟩ ?_
  obtain ⟨q1, hq1, h⟩ := mz_bd_some h
  refine mz_Go.callV (I := IX10_takesCount) (J := IX5_takeNumber) (as := [.inl x1, .inl x2]) (ci := 5) (g := 0) (o := 2) (idx := 120) (pl := 1000) (rest := [.inl (D.1 0 301 5), .inr (.inr (some (2, 125)))]) (mX5_takeNumber x1 x2 D q1 hq1) kX5_takeNumber vX5_takeNumber (by decide +kernel) (by decide +kernel) (by decide +kernel) rfl rfl ⟨rfl, rfl⟩ rfl rfl rfl rfl ?_
  obtain ⟨hb2, h⟩ := mz_gd_some h
  obtain ⟨hb3, h⟩ := mz_gd_some h
  refine mz_Go.run (gs := [mz_kz 2 2 125, mz_ix (D.1 0 301 5) 30, mz_kz 2 0 301, mz_kz 2 2 119, mz_kz 2 0 301, mz_kz 2 2 125, mz_ix (q1.2.1 0 301 5) 30]) (st' := (if ((mz_wi q1.2 2 125 ((D.1 0 301 5)).toNatClampNeg q1.1).1 2 125 ((q1.2.1 0 301 5)).toNatClampNeg) = (-1 : Int32) then (41, [some (.inr (.inr (some (0, 301)))), some (.inl x1), some (.inl x2)], [], (mz_wi q1.2 2 125 ((D.1 0 301 5)).toNatClampNeg q1.1)) else (37, [some (.inr (.inr (some (0, 301)))), some (.inl x1), some (.inl x2)], [], (mz_wi q1.2 2 125 ((D.1 0 301 5)).toNatClampNeg q1.1)))) bX10_takesCount_20 oX10_takesCount_20 rfl ⟨rfl, hb2, rfl, rfl, rfl, rfl, hb3, trivial⟩ ?_
  refine mz_Go.ite (fun hc4 => ?_) (fun hc4 => ?_)
  · have h := mz_ifp hc4 h
    refine mz_Go.run (gs := []) (st' := (42, [some (.inr (.inr (some (0, 301)))), some (.inl x1), some (.inl x2)], [.inl (0 : Int32)], (mz_wi q1.2 2 125 ((D.1 0 301 5)).toNatClampNeg q1.1))) bX10_takesCount_41 oX10_takesCount_41 rfl trivial ?_
    cases h
    exact mz_Go.retz (by decide +kernel) rfl ⟨Nat.le_refl _, Nat.le_refl _⟩ (by decide) rfl
  · have h := mz_ifn hc4 h
    refine mz_Go.run (gs := []) (st' := (42, [some (.inr (.inr (some (0, 301)))), some (.inl x1), some (.inl x2)], [.inl (1 : Int32)], (mz_wi q1.2 2 125 ((D.1 0 301 5)).toNatClampNeg q1.1))) bX10_takesCount_37 oX10_takesCount_37 rfl trivial ?_
    cases h
    exact mz_Go.retz (by decide +kernel) rfl ⟨Nat.le_refl _, Nat.le_refl _⟩ (by decide) rfl
def bX10_takesTest_0 : List mz_E := [(0, .aload_n 0, 0, 0, 0, 0, 0), (1, .getfield 15, 10, 0, 929, 0, 0), (4, .getfield 33, 5, 2, 219, 0, 0), (7, .istore_n 1, 0, 0, 0, 0, 0), (8, .iload_n 1, 0, 0, 0, 0, 0), (9, .bipush 25, 0, 0, 0, 25, 0), (11, .if_icmp .eq 24, 0, 35, 0, 0, 0)]
theorem oX10_takesTest_0 : bX10_takesTest_0.all (mz_ok RX10 cX10_takesTest 2) = true := by decide +kernel
def bX10_takesTest_35 : List mz_E := [(35, .aload_n 0, 0, 0, 0, 0, 0), (36, .getfield 23, 10, 2, 931, 0, 0), (39, .getfield 124, 9, 3, 438, 0, 0), (42, .aload_n 0, 0, 0, 0, 0, 0), (43, .getfield 84, 10, 5, 934, 0, 0), (46, .iload_n 1, 0, 0, 0, 0, 0), (47, .iastore, 0, 0, 0, 0, 0), (48, .aload_n 0, 0, 0, 0, 0, 0), (49, .getfield 15, 10, 0, 929, 0, 0)]
theorem oX10_takesTest_35 : bX10_takesTest_35.all (mz_ok RX10 cX10_takesTest 2) = true := by decide +kernel
def bX10_takesTest_55 : List mz_E := [(55, .iload_n 1, 0, 0, 0, 0, 0), (56, .bipush 9, 0, 0, 0, 9, 0), (58, .if_icmp .ne 35, 0, 93, 0, 0, 0)]
theorem oX10_takesTest_55 : bX10_takesTest_55.all (mz_ok RX10 cX10_takesTest 2) = true := by decide +kernel
def bX10_takesTest_61 : List mz_E := [(61, .aload_n 0, 0, 0, 0, 0, 0), (62, .iconst (-1), 0, 0, 0, -1, 0)]
theorem oX10_takesTest_61 : bX10_takesTest_61.all (mz_ok RX10 cX10_takesTest 2) = true := by decide +kernel
def bX10_takesTest_66 : List mz_E := [(66, .ifCond .eq 25, 0, 91, 0, 0, 0)]
theorem oX10_takesTest_66 : bX10_takesTest_66.all (mz_ok RX10 cX10_takesTest 2) = true := by decide +kernel
def bX10_takesTest_91 : List mz_E := [(91, .iconst 0, 0, 0, 0, 0, 0)]
theorem oX10_takesTest_91 : bX10_takesTest_91.all (mz_ok RX10 cX10_takesTest 2) = true := by decide +kernel
def bX10_takesTest_69 : List mz_E := [(69, .aload_n 0, 0, 0, 0, 0, 0)]
theorem oX10_takesTest_69 : bX10_takesTest_69.all (mz_ok RX10 cX10_takesTest 2) = true := by decide +kernel
def bX10_takesTest_73 : List mz_E := [(73, .ifCond .eq 18, 0, 91, 0, 0, 0)]
theorem oX10_takesTest_73 : bX10_takesTest_73.all (mz_ok RX10 cX10_takesTest 2) = true := by decide +kernel
def bX10_takesTest_76 : List mz_E := [(76, .aload_n 0, 0, 0, 0, 0, 0), (77, .iconst 0, 0, 0, 0, 0, 0), (78, .sipush 9999, 0, 0, 0, 9999, 0)]
theorem oX10_takesTest_76 : bX10_takesTest_76.all (mz_ok RX10 cX10_takesTest 2) = true := by decide +kernel
def bX10_takesTest_84 : List mz_E := [(84, .ifCond .eq 7, 0, 91, 0, 0, 0)]
theorem oX10_takesTest_84 : bX10_takesTest_84.all (mz_ok RX10 cX10_takesTest 2) = true := by decide +kernel
def bX10_takesTest_87 : List mz_E := [(87, .iconst 1, 0, 0, 0, 1, 0), (88, .goto 4, 0, 92, 0, 0, 0)]
theorem oX10_takesTest_87 : bX10_takesTest_87.all (mz_ok RX10 cX10_takesTest 2) = true := by decide +kernel
def bX10_takesTest_93 : List mz_E := [(93, .aload_n 0, 0, 0, 0, 0, 0), (94, .getfield 23, 10, 2, 931, 0, 0), (97, .getfield 100, 9, 4, 442, 0, 0), (100, .aload_n 0, 0, 0, 0, 0, 0), (101, .getfield 84, 10, 5, 934, 0, 0), (104, .aload_n 0, 0, 0, 0, 0, 0), (105, .getfield 15, 10, 0, 929, 0, 0), (108, .aload_n 0, 0, 0, 0, 0, 0), (109, .getfield 19, 10, 1, 930, 0, 0)]
theorem oX10_takesTest_93 : bX10_takesTest_93.all (mz_ok RX10 cX10_takesTest 2) = true := by decide +kernel
def bX10_takesTest_115 : List mz_E := [(115, .iastore, 0, 0, 0, 0, 0), (116, .aload_n 0, 0, 0, 0, 0, 0), (117, .getfield 23, 10, 2, 931, 0, 0), (120, .getfield 100, 9, 4, 442, 0, 0), (123, .aload_n 0, 0, 0, 0, 0, 0), (124, .getfield 84, 10, 5, 934, 0, 0), (127, .iaload, 0, 0, 0, 0, 0), (128, .iconst (-1), 0, 0, 0, -1, 0), (129, .if_icmp .ne 5, 0, 134, 0, 0, 0)]
theorem oX10_takesTest_115 : bX10_takesTest_115.all (mz_ok RX10 cX10_takesTest 2) = true := by decide +kernel
def bX10_takesTest_132 : List mz_E := [(132, .iconst 0, 0, 0, 0, 0, 0)]
theorem oX10_takesTest_132 : bX10_takesTest_132.all (mz_ok RX10 cX10_takesTest 2) = true := by decide +kernel
def bX10_takesTest_134 : List mz_E := [(134, .iload_n 1, 0, 0, 0, 0, 0), (135, .bipush 15, 0, 0, 0, 15, 0), (137, .if_icmp .eq 21, 0, 158, 0, 0, 0)]
theorem oX10_takesTest_134 : bX10_takesTest_134.all (mz_ok RX10 cX10_takesTest 2) = true := by decide +kernel
def bX10_takesTest_158 : List mz_E := [(158, .iconst 1, 0, 0, 0, 1, 0), (159, .goto 4, 0, 163, 0, 0, 0)]
theorem oX10_takesTest_158 : bX10_takesTest_158.all (mz_ok RX10 cX10_takesTest 2) = true := by decide +kernel
def bX10_takesTest_140 : List mz_E := [(140, .aload_n 0, 0, 0, 0, 0, 0)]
theorem oX10_takesTest_140 : bX10_takesTest_140.all (mz_ok RX10 cX10_takesTest 2) = true := by decide +kernel
def bX10_takesTest_144 : List mz_E := [(144, .ifCond .eq 18, 0, 162, 0, 0, 0)]
theorem oX10_takesTest_144 : bX10_takesTest_144.all (mz_ok RX10 cX10_takesTest 2) = true := by decide +kernel
def bX10_takesTest_162 : List mz_E := [(162, .iconst 0, 0, 0, 0, 0, 0)]
theorem oX10_takesTest_162 : bX10_takesTest_162.all (mz_ok RX10 cX10_takesTest 2) = true := by decide +kernel
def bX10_takesTest_147 : List mz_E := [(147, .aload_n 0, 0, 0, 0, 0, 0), (148, .iconst 0, 0, 0, 0, 0, 0), (149, .sipush 999, 0, 0, 0, 999, 0)]
theorem oX10_takesTest_147 : bX10_takesTest_147.all (mz_ok RX10 cX10_takesTest 2) = true := by decide +kernel
def bX10_takesTest_155 : List mz_E := [(155, .ifCond .eq 7, 0, 162, 0, 0, 0)]
theorem oX10_takesTest_155 : bX10_takesTest_155.all (mz_ok RX10 cX10_takesTest 2) = true := by decide +kernel
def bX10_takesTest_14 : List mz_E := [(14, .iload_n 1, 0, 0, 0, 0, 0), (15, .bipush 9, 0, 0, 0, 9, 0), (17, .if_icmp .eq 18, 0, 35, 0, 0, 0)]
theorem oX10_takesTest_14 : bX10_takesTest_14.all (mz_ok RX10 cX10_takesTest 2) = true := by decide +kernel
def bX10_takesTest_20 : List mz_E := [(20, .iload_n 1, 0, 0, 0, 0, 0), (21, .bipush 15, 0, 0, 0, 15, 0), (23, .if_icmp .eq 12, 0, 35, 0, 0, 0)]
theorem oX10_takesTest_20 : bX10_takesTest_20.all (mz_ok RX10 cX10_takesTest 2) = true := by decide +kernel
def bX10_takesTest_26 : List mz_E := [(26, .aload_n 0, 0, 0, 0, 0, 0), (27, .getfield 15, 10, 0, 929, 0, 0), (30, .iconst 2, 0, 0, 0, 2, 0)]
theorem oX10_takesTest_26 : bX10_takesTest_26.all (mz_ok RX10 cX10_takesTest 2) = true := by decide +kernel
abbrev IX10_takesTest : mz_I := (yX10_takesTest, cX10_takesTest, 2, (some .boolean), 2, 4, 0, 0)
theorem kX10_takesTest : mz_okm IX10_takesTest 977 145 976 0 = true := by decide +kernel
theorem vX10_takesTest : mz_okV IX10_takesTest 976 19 = true := by decide +kernel
def fX10_takesTest_35 (x1 : Int32) (D : mz_D) : Option (Int32 × mz_D) := (mz_gd (mz_ix (D.1 0 301 5) 30) (Option.bind (fX5_advance (mz_wi D 2 121 ((D.1 0 301 5)).toNatClampNeg x1)) fun q2 => (if x1 = (9 : Int32) then (Option.bind (fX10_takesTwo (-1 : Int32) q2) fun q4 => (if q4.1 = 0 then (some ((0 : Int32), q4.2)) else (Option.bind (fX10_takesCompare q4.2) fun q6 => (if q6.1 = 0 then (some ((0 : Int32), q6.2)) else (Option.bind (fX10_takesCount (0 : Int32) (9999 : Int32) q6.2) fun q8 => (if q8.1 = 0 then (some ((0 : Int32), q8.2)) else (some ((1 : Int32), q8.2)))))))) else (Option.bind (fX5_takePerson 1 q2) fun q10 => (mz_gd (mz_ix (q2.1 0 301 5) 30) (mz_gd (mz_ix (q10.2.1 0 301 5) 30) (if ((mz_wi q10.2 2 122 ((q2.1 0 301 5)).toNatClampNeg q10.1).1 2 122 ((q10.2.1 0 301 5)).toNatClampNeg) = (-1 : Int32) then (some ((0 : Int32), (mz_wi q10.2 2 122 ((q2.1 0 301 5)).toNatClampNeg q10.1))) else (if x1 = (15 : Int32) then (some ((1 : Int32), (mz_wi q10.2 2 122 ((q2.1 0 301 5)).toNatClampNeg q10.1))) else (Option.bind (fX10_takesCompare (mz_wi q10.2 2 122 ((q2.1 0 301 5)).toNatClampNeg q10.1)) fun q15 => (if q15.1 = 0 then (some ((0 : Int32), q15.2)) else (Option.bind (fX10_takesCount (0 : Int32) (999 : Int32) q15.2) fun q17 => (if q17.1 = 0 then (some ((0 : Int32), q17.2)) else (some ((1 : Int32), q17.2))))))))))))))
set_option maxHeartbeats 4000000 in
theorem tX10_takesTest_35 (r : (Int32 × mz_D)) : ∀ (x1 : Int32) (D : mz_D), fX10_takesTest_35 x1 D = some r → mz_Go IX10_takesTest (some (.inl r.1), r.2) 0 0 (35, [some (.inr (.inr (some (0, 301)))), some (.inl x1)], [], D) := by
  intro x1 D h
  rw [fX10_takesTest_35] at h
  obtain ⟨hb1, h⟩ := mz_gd_some h
  refine mz_Go.run (gs := [mz_kz 2 0 301, mz_kz 2 2 119, mz_kz 2 0 301, mz_kz 2 2 121, mz_ix (D.1 0 301 5) 30, mz_kz 2 0 301]) (st' := (52, [some (.inr (.inr (some (0, 301)))), some (.inl x1)], [.inr (.inr (some (0, 2)))], (mz_wi D 2 121 ((D.1 0 301 5)).toNatClampNeg x1))) bX10_takesTest_35 oX10_takesTest_35 rfl ⟨rfl, rfl, rfl, rfl, hb1, rfl, trivial⟩ ?_
  obtain ⟨q2, hq2, h⟩ := mz_bd_some h
  refine mz_Go.callV (I := IX10_takesTest) (J := IX5_advance) (as := []) (ci := 5) (g := 0) (o := 2) (idx := 74) (pl := 958) (rest := []) (mX5_advance (mz_wi D 2 121 ((D.1 0 301 5)).toNatClampNeg x1) q2 hq2) kX5_advance vX5_advance (by decide +kernel) (by decide +kernel) (by decide +kernel) rfl rfl ⟨rfl, rfl⟩ rfl rfl rfl rfl ?_
  refine mz_Go.run (gs := []) (st' := (if x1 = (9 : Int32) then (61, [some (.inr (.inr (some (0, 301)))), some (.inl x1)], [], q2) else (93, [some (.inr (.inr (some (0, 301)))), some (.inl x1)], [], q2))) bX10_takesTest_55 oX10_takesTest_55 rfl trivial ?_
  refine mz_Go.ite (fun hc3 => ?_) (fun hc3 => ?_)
  · have h := mz_ifp hc3 h
    refine mz_Go.run (gs := []) (st' := (63, [some (.inr (.inr (some (0, 301)))), some (.inl x1)], [.inl (-1 : Int32), .inr (.inr (some (0, 301)))], q2)) bX10_takesTest_61 oX10_takesTest_61 rfl trivial ?_
    obtain ⟨q4, hq4, h⟩ := mz_bd_some h
    refine mz_Go.callV (I := IX10_takesTest) (J := IX10_takesTwo) (as := [.inl (-1 : Int32)]) (ci := 10) (g := 0) (o := 301) (idx := 93) (pl := 978) (rest := []) (mX10_takesTwo (-1 : Int32) q2 q4 hq4) kX10_takesTwo vX10_takesTwo (by decide +kernel) (by decide +kernel) (by decide +kernel) rfl rfl ⟨rfl, rfl⟩ rfl rfl rfl rfl ?_
    refine mz_Go.run (gs := []) (st' := (if q4.1 = 0 then (91, [some (.inr (.inr (some (0, 301)))), some (.inl x1)], [], q4.2) else (69, [some (.inr (.inr (some (0, 301)))), some (.inl x1)], [], q4.2))) bX10_takesTest_66 oX10_takesTest_66 rfl trivial ?_
    refine mz_Go.ite (fun hc5 => ?_) (fun hc5 => ?_)
    · have h := mz_ifp hc5 h
      refine mz_Go.run (gs := []) (st' := (92, [some (.inr (.inr (some (0, 301)))), some (.inl x1)], [.inl (0 : Int32)], q4.2)) bX10_takesTest_91 oX10_takesTest_91 rfl trivial ?_
      cases h
      exact mz_Go.retz (by decide +kernel) rfl ⟨Nat.le_refl _, Nat.le_refl _⟩ (by decide) rfl
    · have h := mz_ifn hc5 h
      refine mz_Go.run (gs := []) (st' := (70, [some (.inr (.inr (some (0, 301)))), some (.inl x1)], [.inr (.inr (some (0, 301)))], q4.2)) bX10_takesTest_69 oX10_takesTest_69 rfl trivial ?_
      obtain ⟨q6, hq6, h⟩ := mz_bd_some h
      refine mz_Go.callV (I := IX10_takesTest) (J := IX10_takesCompare) (as := []) (ci := 10) (g := 0) (o := 301) (idx := 127) (pl := 988) (rest := []) (mX10_takesCompare q4.2 q6 hq6) kX10_takesCompare vX10_takesCompare (by decide +kernel) (by decide +kernel) (by decide +kernel) rfl rfl ⟨rfl, rfl⟩ rfl rfl rfl rfl ?_
      refine mz_Go.run (gs := []) (st' := (if q6.1 = 0 then (91, [some (.inr (.inr (some (0, 301)))), some (.inl x1)], [], q6.2) else (76, [some (.inr (.inr (some (0, 301)))), some (.inl x1)], [], q6.2))) bX10_takesTest_73 oX10_takesTest_73 rfl trivial ?_
      refine mz_Go.ite (fun hc7 => ?_) (fun hc7 => ?_)
      · have h := mz_ifp hc7 h
        refine mz_Go.run (gs := []) (st' := (92, [some (.inr (.inr (some (0, 301)))), some (.inl x1)], [.inl (0 : Int32)], q6.2)) bX10_takesTest_91 oX10_takesTest_91 rfl trivial ?_
        cases h
        exact mz_Go.retz (by decide +kernel) rfl ⟨Nat.le_refl _, Nat.le_refl _⟩ (by decide) rfl
      · have h := mz_ifn hc7 h
        refine mz_Go.run (gs := []) (st' := (81, [some (.inr (.inr (some (0, 301)))), some (.inl x1)], [.inl (9999 : Int32), .inl (0 : Int32), .inr (.inr (some (0, 301)))], q6.2)) bX10_takesTest_76 oX10_takesTest_76 rfl trivial ?_
        obtain ⟨q8, hq8, h⟩ := mz_bd_some h
        refine mz_Go.callV (I := IX10_takesTest) (J := IX10_takesCount) (as := [.inl (0 : Int32), .inl (9999 : Int32)]) (ci := 10) (g := 0) (o := 301) (idx := 96) (pl := 996) (rest := []) (mX10_takesCount (0 : Int32) (9999 : Int32) q6.2 q8 hq8) kX10_takesCount vX10_takesCount (by decide +kernel) (by decide +kernel) (by decide +kernel) rfl rfl ⟨rfl, rfl⟩ rfl rfl rfl rfl ?_
        refine mz_Go.run (gs := []) (st' := (if q8.1 = 0 then (91, [some (.inr (.inr (some (0, 301)))), some (.inl x1)], [], q8.2) else (87, [some (.inr (.inr (some (0, 301)))), some (.inl x1)], [], q8.2))) bX10_takesTest_84 oX10_takesTest_84 rfl trivial ?_
        refine mz_Go.ite (fun hc9 => ?_) (fun hc9 => ?_)
        · have h := mz_ifp hc9 h
          refine mz_Go.run (gs := []) (st' := (92, [some (.inr (.inr (some (0, 301)))), some (.inl x1)], [.inl (0 : Int32)], q8.2)) bX10_takesTest_91 oX10_takesTest_91 rfl trivial ?_
          cases h
          exact mz_Go.retz (by decide +kernel) rfl ⟨Nat.le_refl _, Nat.le_refl _⟩ (by decide) rfl
        · have h := mz_ifn hc9 h
          refine mz_Go.run (gs := []) (st' := (92, [some (.inr (.inr (some (0, 301)))), some (.inl x1)], [.inl (1 : Int32)], q8.2)) bX10_takesTest_87 oX10_takesTest_87 rfl trivial ?_
          cases h
          exact mz_Go.retz (by decide +kernel) rfl ⟨Nat.le_refl _, Nat.le_refl _⟩ (by decide) rfl
  · have h := mz_ifn hc3 h
    refine mz_Go.run (gs := [mz_kz 2 0 301, mz_kz 2 2 119, mz_kz 2 0 301, mz_kz 2 0 301, mz_kz 2 0 301]) (st' := (112, [some (.inr (.inr (some (0, 301)))), some (.inl x1)], [.inr (.inr (some (1, 101))), .inr (.inr (some (0, 2))), .inl (q2.1 0 301 5), .inr (.inr (some (2, 122)))], q2)) bX10_takesTest_93 oX10_takesTest_93 rfl ⟨rfl, rfl, rfl, rfl, rfl, trivial⟩ ?_
    obtain ⟨q10, hq10, h⟩ := mz_bd_some h
    refine mz_Go.callV (I := IX10_takesTest) (J := IX5_takePerson) (as := [.inr (.inr (some (1, 101)))]) (ci := 5) (g := 0) (o := 2) (idx := 103) (pl := 982) (rest := [.inl (q2.1 0 301 5), .inr (.inr (some (2, 122)))]) (mX5_takePerson 1 q2 rfl q10 hq10) kX5_takePerson vX5_takePerson (by decide +kernel) (by decide +kernel) (by decide +kernel) rfl rfl ⟨rfl, rfl⟩ rfl rfl rfl rfl ?_
    obtain ⟨hb11, h⟩ := mz_gd_some h
    obtain ⟨hb12, h⟩ := mz_gd_some h
    refine mz_Go.run (gs := [mz_kz 2 2 122, mz_ix (q2.1 0 301 5) 30, mz_kz 2 0 301, mz_kz 2 2 119, mz_kz 2 0 301, mz_kz 2 2 122, mz_ix (q10.2.1 0 301 5) 30]) (st' := (if ((mz_wi q10.2 2 122 ((q2.1 0 301 5)).toNatClampNeg q10.1).1 2 122 ((q10.2.1 0 301 5)).toNatClampNeg) = (-1 : Int32) then (132, [some (.inr (.inr (some (0, 301)))), some (.inl x1)], [], (mz_wi q10.2 2 122 ((q2.1 0 301 5)).toNatClampNeg q10.1)) else (134, [some (.inr (.inr (some (0, 301)))), some (.inl x1)], [], (mz_wi q10.2 2 122 ((q2.1 0 301 5)).toNatClampNeg q10.1)))) bX10_takesTest_115 oX10_takesTest_115 rfl ⟨rfl, hb11, rfl, rfl, rfl, rfl, hb12, trivial⟩ ?_
    refine mz_Go.ite (fun hc13 => ?_) (fun hc13 => ?_)
    · have h := mz_ifp hc13 h
      refine mz_Go.run (gs := []) (st' := (133, [some (.inr (.inr (some (0, 301)))), some (.inl x1)], [.inl (0 : Int32)], (mz_wi q10.2 2 122 ((q2.1 0 301 5)).toNatClampNeg q10.1))) bX10_takesTest_132 oX10_takesTest_132 rfl trivial ?_
      cases h
      exact mz_Go.retz (by decide +kernel) rfl ⟨Nat.le_refl _, Nat.le_refl _⟩ (by decide) rfl
    · have h := mz_ifn hc13 h
      refine mz_Go.run (gs := []) (st' := (if x1 = (15 : Int32) then (158, [some (.inr (.inr (some (0, 301)))), some (.inl x1)], [], (mz_wi q10.2 2 122 ((q2.1 0 301 5)).toNatClampNeg q10.1)) else (140, [some (.inr (.inr (some (0, 301)))), some (.inl x1)], [], (mz_wi q10.2 2 122 ((q2.1 0 301 5)).toNatClampNeg q10.1)))) bX10_takesTest_134 oX10_takesTest_134 rfl trivial ?_
      refine mz_Go.ite (fun hc14 => ?_) (fun hc14 => ?_)
      · have h := mz_ifp hc14 h
        refine mz_Go.run (gs := []) (st' := (163, [some (.inr (.inr (some (0, 301)))), some (.inl x1)], [.inl (1 : Int32)], (mz_wi q10.2 2 122 ((q2.1 0 301 5)).toNatClampNeg q10.1))) bX10_takesTest_158 oX10_takesTest_158 rfl trivial ?_
        cases h
        exact mz_Go.retz (by decide +kernel) rfl ⟨Nat.le_refl _, Nat.le_refl _⟩ (by decide) rfl
      · have h := mz_ifn hc14 h
        refine mz_Go.run (gs := []) (st' := (141, [some (.inr (.inr (some (0, 301)))), some (.inl x1)], [.inr (.inr (some (0, 301)))], (mz_wi q10.2 2 122 ((q2.1 0 301 5)).toNatClampNeg q10.1))) bX10_takesTest_140 oX10_takesTest_140 rfl trivial ?_
        obtain ⟨q15, hq15, h⟩ := mz_bd_some h
        refine mz_Go.callV (I := IX10_takesTest) (J := IX10_takesCompare) (as := []) (ci := 10) (g := 0) (o := 301) (idx := 127) (pl := 988) (rest := []) (mX10_takesCompare (mz_wi q10.2 2 122 ((q2.1 0 301 5)).toNatClampNeg q10.1) q15 hq15) kX10_takesCompare vX10_takesCompare (by decide +kernel) (by decide +kernel) (by decide +kernel) rfl rfl ⟨rfl, rfl⟩ rfl rfl rfl rfl ?_
        refine mz_Go.run (gs := []) (st' := (if q15.1 = 0 then (162, [some (.inr (.inr (some (0, 301)))), some (.inl x1)], [], q15.2) else (147, [some (.inr (.inr (some (0, 301)))), some (.inl x1)], [], q15.2))) bX10_takesTest_144 oX10_takesTest_144 rfl trivial ?_
        refine mz_Go.ite (fun hc16 => ?_) (fun hc16 => ?_)
        · have h := mz_ifp hc16 h
          refine mz_Go.run (gs := []) (st' := (163, [some (.inr (.inr (some (0, 301)))), some (.inl x1)], [.inl (0 : Int32)], q15.2)) bX10_takesTest_162 oX10_takesTest_162 rfl trivial ?_
          cases h
          exact mz_Go.retz (by decide +kernel) rfl ⟨Nat.le_refl _, Nat.le_refl _⟩ (by decide) rfl
        · have h := mz_ifn hc16 h
          refine mz_Go.run (gs := []) (st' := (152, [some (.inr (.inr (some (0, 301)))), some (.inl x1)], [.inl (999 : Int32), .inl (0 : Int32), .inr (.inr (some (0, 301)))], q15.2)) bX10_takesTest_147 oX10_takesTest_147 rfl trivial ?_
          obtain ⟨q17, hq17, h⟩ := mz_bd_some h
          refine mz_Go.callV (I := IX10_takesTest) (J := IX10_takesCount) (as := [.inl (0 : Int32), .inl (999 : Int32)]) (ci := 10) (g := 0) (o := 301) (idx := 96) (pl := 996) (rest := []) (mX10_takesCount (0 : Int32) (999 : Int32) q15.2 q17 hq17) kX10_takesCount vX10_takesCount (by decide +kernel) (by decide +kernel) (by decide +kernel) rfl rfl ⟨rfl, rfl⟩ rfl rfl rfl rfl ?_
          refine mz_Go.run (gs := []) (st' := (if q17.1 = 0 then (162, [some (.inr (.inr (some (0, 301)))), some (.inl x1)], [], q17.2) else (158, [some (.inr (.inr (some (0, 301)))), some (.inl x1)], [], q17.2))) bX10_takesTest_155 oX10_takesTest_155 rfl trivial ?_
          refine mz_Go.ite (fun hc18 => ?_) (fun hc18 => ?_)
          · have h := mz_ifp hc18 h
            refine mz_Go.run (gs := []) (st' := (163, [some (.inr (.inr (some (0, 301)))), some (.inl x1)], [.inl (0 : Int32)], q17.2)) bX10_takesTest_162 oX10_takesTest_162 rfl trivial ?_
            cases h
            exact mz_Go.retz (by decide +kernel) rfl ⟨Nat.le_refl _, Nat.le_refl _⟩ (by decide) rfl
          · have h := mz_ifn hc18 h
            refine mz_Go.run (gs := []) (st' := (163, [some (.inr (.inr (some (0, 301)))), some (.inl x1)], [.inl (1 : Int32)], q17.2)) bX10_takesTest_158 oX10_takesTest_158 rfl trivial ?_
            cases h
            exact mz_Go.retz (by decide +kernel) rfl ⟨Nat.le_refl _, Nat.le_refl _⟩ (by decide) rfl
def fX10_takesTest (D : mz_D) : Option (Int32 × mz_D) := (if (D.1 0 2 2) = (25 : Int32) then (fX10_takesTest_35 (D.1 0 2 2) D) else (if (D.1 0 2 2) = (9 : Int32) then (fX10_takesTest_35 (D.1 0 2 2) D) else (if (D.1 0 2 2) = (15 : Int32) then (fX10_takesTest_35 (D.1 0 2 2) D) else (Option.bind (fX5_fail (2 : Int32) D) fun q4 => (mz_gd (mz_bo q4.1) (some (q4.1, q4.2)))))))
set_option maxHeartbeats 4000000 in
theorem mX10_takesTest (D : mz_D) (r : (Int32 × mz_D)) (h : fX10_takesTest D = some r) : mz_Met IX10_takesTest [.inr (.inr (some (0, 301)))] D (some (.inl r.1), r.2) := by
  refine mz_Met.of (by decide +kernel) (Nat.le_of_ble_eq_true rfl) ?_
  show mz_Go IX10_takesTest (some (.inl r.1), r.2) 0 0 (0, [some (.inr (.inr (some (0, 301)))), none], [], D)
  rw [fX10_takesTest] at h
  refine mz_Go.run (gs := [mz_kz 2 0 301, mz_kz 2 0 2]) (st' := (if (D.1 0 2 2) = (25 : Int32) then (35, [some (.inr (.inr (some (0, 301)))), some (.inl (D.1 0 2 2))], [], D) else (14, [some (.inr (.inr (some (0, 301)))), some (.inl (D.1 0 2 2))], [], D))) bX10_takesTest_0 oX10_takesTest_0 rfl ⟨rfl, rfl, trivial⟩ ?_
  refine mz_Go.ite (fun hc1 => ?_) (fun hc1 => ?_)
  · have h := mz_ifp hc1 h
    exact mz_Go.drop [true, true] (tX10_takesTest_35 r (D.1 0 2 2) D h)
  · have h := mz_ifn hc1 h
    refine mz_Go.run (gs := []) (st' := (if (D.1 0 2 2) = (9 : Int32) then (35, [some (.inr (.inr (some (0, 301)))), some (.inl (D.1 0 2 2))], [], D) else (20, [some (.inr (.inr (some (0, 301)))), some (.inl (D.1 0 2 2))], [], D))) bX10_takesTest_14 oX10_takesTest_14 rfl trivial ?_
    refine mz_Go.ite (fun hc2 => ?_) (fun hc2 => ?_)
    · have h := mz_ifp hc2 h
      exact mz_Go.drop [true, true] (tX10_takesTest_35 r (D.1 0 2 2) D h)
    · have h := mz_ifn hc2 h
      refine mz_Go.run (gs := []) (st' := (if (D.1 0 2 2) = (15 : Int32) then (35, [some (.inr (.inr (some (0, 301)))), some (.inl (D.1 0 2 2))], [], D) else (26, [some (.inr (.inr (some (0, 301)))), some (.inl (D.1 0 2 2))], [], D))) bX10_takesTest_20 oX10_takesTest_20 rfl trivial ?_
      refine mz_Go.ite (fun hc3 => ?_) (fun hc3 => ?_)
      · have h := mz_ifp hc3 h
        exact mz_Go.drop [true, true] (tX10_takesTest_35 r (D.1 0 2 2) D h)
      · have h := mz_ifn hc3 h
        refine mz_Go.run (gs := [mz_kz 2 0 301]) (st' := (31, [some (.inr (.inr (some (0, 301)))), some (.inl (D.1 0 2 2))], [.inl (2 : Int32), .inr (.inr (some (0, 2)))], D)) bX10_takesTest_26 oX10_takesTest_26 rfl ⟨rfl, trivial⟩ ?_
        obtain ⟨q4, hq4, h⟩ := mz_bd_some h
        refine mz_Go.callV (I := IX10_takesTest) (J := IX5_fail) (as := [.inl (2 : Int32)]) (ci := 5) (g := 0) (o := 2) (idx := 58) (pl := 957) (rest := []) (mX5_fail (2 : Int32) D q4 hq4) kX5_fail vX5_fail (by decide +kernel) (by decide +kernel) (by decide +kernel) rfl rfl ⟨rfl, rfl⟩ rfl rfl rfl rfl ?_
        obtain ⟨hb5, h⟩ := mz_gd_some h
        cases h
        exact mz_Go.retz (by decide +kernel) rfl ⟨Nat.le_refl _, Nat.le_refl _⟩ hb5 rfl
def bX10_takesPayer_0 : List mz_E := [(0, .aload_n 0, 0, 0, 0, 0, 0), (1, .getfield 15, 10, 0, 929, 0, 0), (4, .getfield 33, 5, 2, 219, 0, 0), (7, .bipush 8, 0, 0, 0, 8, 0), (9, .if_icmp .eq 5, 0, 14, 0, 0, 0)]
theorem oX10_takesPayer_0 : bX10_takesPayer_0.all (mz_ok RX10 cX10_takesPayer 1) = true := by decide +kernel
def bX10_takesPayer_14 : List mz_E := [(14, .aload_n 0, 0, 0, 0, 0, 0), (15, .getfield 15, 10, 0, 929, 0, 0)]
theorem oX10_takesPayer_14 : bX10_takesPayer_14.all (mz_ok RX10 cX10_takesPayer 1) = true := by decide +kernel
def bX10_takesPayer_21 : List mz_E := [(21, .aload_n 0, 0, 0, 0, 0, 0), (22, .getfield 23, 10, 2, 931, 0, 0), (25, .getfield 100, 9, 4, 442, 0, 0), (28, .aload_n 0, 0, 0, 0, 0, 0), (29, .getfield 84, 10, 5, 934, 0, 0), (32, .aload_n 0, 0, 0, 0, 0, 0), (33, .getfield 15, 10, 0, 929, 0, 0), (36, .aload_n 0, 0, 0, 0, 0, 0), (37, .getfield 19, 10, 1, 930, 0, 0)]
theorem oX10_takesPayer_21 : bX10_takesPayer_21.all (mz_ok RX10 cX10_takesPayer 1) = true := by decide +kernel
def bX10_takesPayer_43 : List mz_E := [(43, .iastore, 0, 0, 0, 0, 0), (44, .aload_n 0, 0, 0, 0, 0, 0), (45, .getfield 23, 10, 2, 931, 0, 0), (48, .getfield 100, 9, 4, 442, 0, 0), (51, .aload_n 0, 0, 0, 0, 0, 0), (52, .getfield 84, 10, 5, 934, 0, 0), (55, .iaload, 0, 0, 0, 0, 0), (56, .iconst (-1), 0, 0, 0, -1, 0), (57, .if_icmp .eq 7, 0, 64, 0, 0, 0)]
theorem oX10_takesPayer_43 : bX10_takesPayer_43.all (mz_ok RX10 cX10_takesPayer 1) = true := by decide +kernel
def bX10_takesPayer_64 : List mz_E := [(64, .iconst 0, 0, 0, 0, 0, 0)]
theorem oX10_takesPayer_64 : bX10_takesPayer_64.all (mz_ok RX10 cX10_takesPayer 1) = true := by decide +kernel
def bX10_takesPayer_60 : List mz_E := [(60, .iconst 1, 0, 0, 0, 1, 0), (61, .goto 4, 0, 65, 0, 0, 0)]
theorem oX10_takesPayer_60 : bX10_takesPayer_60.all (mz_ok RX10 cX10_takesPayer 1) = true := by decide +kernel
def bX10_takesPayer_12 : List mz_E := [(12, .iconst 1, 0, 0, 0, 1, 0)]
theorem oX10_takesPayer_12 : bX10_takesPayer_12.all (mz_ok RX10 cX10_takesPayer 1) = true := by decide +kernel
abbrev IX10_takesPayer : mz_I := (yX10_takesPayer, cX10_takesPayer, 1, (some .boolean), 2, 3, 0, 0)
theorem kX10_takesPayer : mz_okm IX10_takesPayer 1008 145 1007 0 = true := by decide +kernel
theorem vX10_takesPayer : mz_okV IX10_takesPayer 1007 24 = true := by decide +kernel
def fX10_takesPayer (D : mz_D) : Option (Int32 × mz_D) := (if (D.1 0 2 2) = (8 : Int32) then (Option.bind (fX5_advance D) fun q2 => (Option.bind (fX5_takePerson 1 q2) fun q3 => (mz_gd (mz_ix (q2.1 0 301 5) 30) (mz_gd (mz_ix (q3.2.1 0 301 5) 30) (if ((mz_wi q3.2 2 122 ((q2.1 0 301 5)).toNatClampNeg q3.1).1 2 122 ((q3.2.1 0 301 5)).toNatClampNeg) = (-1 : Int32) then (some ((0 : Int32), (mz_wi q3.2 2 122 ((q2.1 0 301 5)).toNatClampNeg q3.1))) else (some ((1 : Int32), (mz_wi q3.2 2 122 ((q2.1 0 301 5)).toNatClampNeg q3.1)))))))) else (some ((1 : Int32), D)))
set_option maxHeartbeats 4000000 in
theorem mX10_takesPayer (D : mz_D) (r : (Int32 × mz_D)) (h : fX10_takesPayer D = some r) : mz_Met IX10_takesPayer [.inr (.inr (some (0, 301)))] D (some (.inl r.1), r.2) := by
  refine mz_Met.of (by decide +kernel) (Nat.le_of_ble_eq_true rfl) ?_
  show mz_Go IX10_takesPayer (some (.inl r.1), r.2) 0 0 (0, [some (.inr (.inr (some (0, 301))))], [], D)
  rw [fX10_takesPayer] at h
  refine mz_Go.run (gs := [mz_kz 2 0 301, mz_kz 2 0 2]) (st' := (if (D.1 0 2 2) = (8 : Int32) then (14, [some (.inr (.inr (some (0, 301))))], [], D) else (12, [some (.inr (.inr (some (0, 301))))], [], D))) bX10_takesPayer_0 oX10_takesPayer_0 rfl ⟨rfl, rfl, trivial⟩ ?_
  refine mz_Go.ite (fun hc1 => ?_) (fun hc1 => ?_)
  · have h := mz_ifp hc1 h
    refine mz_Go.run (gs := [mz_kz 2 0 301]) (st' := (18, [some (.inr (.inr (some (0, 301))))], [.inr (.inr (some (0, 2)))], D)) bX10_takesPayer_14 oX10_takesPayer_14 rfl ⟨rfl, trivial⟩ ?_
    obtain ⟨q2, hq2, h⟩ := mz_bd_some h
    refine mz_Go.callV (I := IX10_takesPayer) (J := IX5_advance) (as := []) (ci := 5) (g := 0) (o := 2) (idx := 74) (pl := 958) (rest := []) (mX5_advance D q2 hq2) kX5_advance vX5_advance (by decide +kernel) (by decide +kernel) (by decide +kernel) rfl rfl ⟨rfl, rfl⟩ rfl rfl rfl rfl ?_
    refine mz_Go.run (gs := [mz_kz 2 0 301, mz_kz 2 2 119, mz_kz 2 0 301, mz_kz 2 0 301, mz_kz 2 0 301]) (st' := (40, [some (.inr (.inr (some (0, 301))))], [.inr (.inr (some (1, 101))), .inr (.inr (some (0, 2))), .inl (q2.1 0 301 5), .inr (.inr (some (2, 122)))], q2)) bX10_takesPayer_21 oX10_takesPayer_21 rfl ⟨rfl, rfl, rfl, rfl, rfl, trivial⟩ ?_
    obtain ⟨q3, hq3, h⟩ := mz_bd_some h
    refine mz_Go.callV (I := IX10_takesPayer) (J := IX5_takePerson) (as := [.inr (.inr (some (1, 101)))]) (ci := 5) (g := 0) (o := 2) (idx := 103) (pl := 982) (rest := [.inl (q2.1 0 301 5), .inr (.inr (some (2, 122)))]) (mX5_takePerson 1 q2 rfl q3 hq3) kX5_takePerson vX5_takePerson (by decide +kernel) (by decide +kernel) (by decide +kernel) rfl rfl ⟨rfl, rfl⟩ rfl rfl rfl rfl ?_
    obtain ⟨hb4, h⟩ := mz_gd_some h
    obtain ⟨hb5, h⟩ := mz_gd_some h
    refine mz_Go.run (gs := [mz_kz 2 2 122, mz_ix (q2.1 0 301 5) 30, mz_kz 2 0 301, mz_kz 2 2 119, mz_kz 2 0 301, mz_kz 2 2 122, mz_ix (q3.2.1 0 301 5) 30]) (st' := (if ((mz_wi q3.2 2 122 ((q2.1 0 301 5)).toNatClampNeg q3.1).1 2 122 ((q3.2.1 0 301 5)).toNatClampNeg) = (-1 : Int32) then (64, [some (.inr (.inr (some (0, 301))))], [], (mz_wi q3.2 2 122 ((q2.1 0 301 5)).toNatClampNeg q3.1)) else (60, [some (.inr (.inr (some (0, 301))))], [], (mz_wi q3.2 2 122 ((q2.1 0 301 5)).toNatClampNeg q3.1)))) bX10_takesPayer_43 oX10_takesPayer_43 rfl ⟨rfl, hb4, rfl, rfl, rfl, rfl, hb5, trivial⟩ ?_
    refine mz_Go.ite (fun hc6 => ?_) (fun hc6 => ?_)
    · have h := mz_ifp hc6 h
      refine mz_Go.run (gs := []) (st' := (65, [some (.inr (.inr (some (0, 301))))], [.inl (0 : Int32)], (mz_wi q3.2 2 122 ((q2.1 0 301 5)).toNatClampNeg q3.1))) bX10_takesPayer_64 oX10_takesPayer_64 rfl trivial ?_
      cases h
      exact mz_Go.retz (by decide +kernel) rfl ⟨Nat.le_refl _, Nat.le_refl _⟩ (by decide) rfl
    · have h := mz_ifn hc6 h
      refine mz_Go.run (gs := []) (st' := (65, [some (.inr (.inr (some (0, 301))))], [.inl (1 : Int32)], (mz_wi q3.2 2 122 ((q2.1 0 301 5)).toNatClampNeg q3.1))) bX10_takesPayer_60 oX10_takesPayer_60 rfl trivial ?_
      cases h
      exact mz_Go.retz (by decide +kernel) rfl ⟨Nat.le_refl _, Nat.le_refl _⟩ (by decide) rfl
  · have h := mz_ifn hc1 h
    refine mz_Go.run (gs := []) (st' := (13, [some (.inr (.inr (some (0, 301))))], [.inl (1 : Int32)], D)) bX10_takesPayer_12 oX10_takesPayer_12 rfl trivial ?_
    cases h
    exact mz_Go.retz (by decide +kernel) rfl ⟨Nat.le_refl _, Nat.le_refl _⟩ (by decide) rfl
def bX10_takesRest_0 : List mz_E := [(0, .aload_n 0, 0, 0, 0, 0, 0), (1, .getfield 23, 10, 2, 931, 0, 0), (4, .getfield 87, 9, 2, 435, 0, 0), (7, .aload_n 0, 0, 0, 0, 0, 0), (8, .getfield 84, 10, 5, 934, 0, 0), (11, .iaload, 0, 0, 0, 0, 0)]
theorem oX10_takesRest_0 : bX10_takesRest_0.all (mz_ok RX10 cX10_takesRest 1) = true := by decide +kernel
def bX10_takesRest_68 : List mz_E := [(68, .aload_n 0, 0, 0, 0, 0, 0)]
theorem oX10_takesRest_68 : bX10_takesRest_68.all (mz_ok RX10 cX10_takesRest 1) = true := by decide +kernel
def bX10_takesRest_73 : List mz_E := [(73, .aload_n 0, 0, 0, 0, 0, 0), (74, .bipush 22, 0, 0, 0, 22, 0)]
theorem oX10_takesRest_73 : bX10_takesRest_73.all (mz_ok RX10 cX10_takesRest 1) = true := by decide +kernel
def bX10_takesRest_80 : List mz_E := [(80, .aload_n 0, 0, 0, 0, 0, 0), (81, .bipush 23, 0, 0, 0, 23, 0)]
theorem oX10_takesRest_80 : bX10_takesRest_80.all (mz_ok RX10 cX10_takesRest 1) = true := by decide +kernel
def bX10_takesRest_86 : List mz_E := [(86, .ifCond .eq 18, 0, 104, 0, 0, 0)]
theorem oX10_takesRest_86 : bX10_takesRest_86.all (mz_ok RX10 cX10_takesRest 1) = true := by decide +kernel
def bX10_takesRest_104 : List mz_E := [(104, .iconst 0, 0, 0, 0, 0, 0)]
theorem oX10_takesRest_104 : bX10_takesRest_104.all (mz_ok RX10 cX10_takesRest 1) = true := by decide +kernel
def bX10_takesRest_89 : List mz_E := [(89, .aload_n 0, 0, 0, 0, 0, 0), (90, .iconst 1, 0, 0, 0, 1, 0), (91, .sipush 999, 0, 0, 0, 999, 0)]
theorem oX10_takesRest_89 : bX10_takesRest_89.all (mz_ok RX10 cX10_takesRest 1) = true := by decide +kernel
def bX10_takesRest_97 : List mz_E := [(97, .ifCond .eq 7, 0, 104, 0, 0, 0)]
theorem oX10_takesRest_97 : bX10_takesRest_97.all (mz_ok RX10 cX10_takesRest 1) = true := by decide +kernel
def bX10_takesRest_100 : List mz_E := [(100, .iconst 1, 0, 0, 0, 1, 0), (101, .goto 4, 0, 105, 0, 0, 0)]
theorem oX10_takesRest_100 : bX10_takesRest_100.all (mz_ok RX10 cX10_takesRest 1) = true := by decide +kernel
def bX10_takesRest_114 : List mz_E := [(114, .iconst 1, 0, 0, 0, 1, 0)]
theorem oX10_takesRest_114 : bX10_takesRest_114.all (mz_ok RX10 cX10_takesRest 1) = true := by decide +kernel
def bX10_takesRest_106 : List mz_E := [(106, .aload_n 0, 0, 0, 0, 0, 0), (107, .iconst 1, 0, 0, 0, 1, 0), (108, .bipush 99, 0, 0, 0, 99, 0)]
theorem oX10_takesRest_106 : bX10_takesRest_106.all (mz_ok RX10 cX10_takesRest 1) = true := by decide +kernel
abbrev IX10_takesRest : mz_I := (yX10_takesRest, cX10_takesRest, 1, (some .boolean), 2, 4, 0, 0)
theorem kX10_takesRest : mz_okm IX10_takesRest 1004 145 1003 0 = true := by decide +kernel
theorem vX10_takesRest : mz_okV IX10_takesRest 1003 23 = true := by decide +kernel
def fX10_takesRest (D : mz_D) : Option (Int32 × mz_D) := (mz_gd (mz_ix (D.1 0 301 5) 30) (if (D.1 2 120 ((D.1 0 301 5)).toNatClampNeg) = (17 : Int32) then (Option.bind (fX10_takesPayer D) fun q3 => (mz_gd (mz_bo q3.1) (some (q3.1, q3.2)))) else (if (D.1 2 120 ((D.1 0 301 5)).toNatClampNeg) = (18 : Int32) then (Option.bind (fX10_takesTwo (22 : Int32) D) fun q6 => (mz_gd (mz_bo q6.1) (some (q6.1, q6.2)))) else (if (D.1 2 120 ((D.1 0 301 5)).toNatClampNeg) = (19 : Int32) then (Option.bind (fX10_takesTwo (23 : Int32) D) fun q9 => (if q9.1 = 0 then (some ((0 : Int32), q9.2)) else (Option.bind (fX10_takesCount (1 : Int32) (999 : Int32) q9.2) fun q11 => (if q11.1 = 0 then (some ((0 : Int32), q11.2)) else (some ((1 : Int32), q11.2)))))) else (if (D.1 2 120 ((D.1 0 301 5)).toNatClampNeg) = (20 : Int32) then (Option.bind (fX10_takesTwo (23 : Int32) D) fun q14 => (if q14.1 = 0 then (some ((0 : Int32), q14.2)) else (Option.bind (fX10_takesCount (1 : Int32) (999 : Int32) q14.2) fun q16 => (if q16.1 = 0 then (some ((0 : Int32), q16.2)) else (some ((1 : Int32), q16.2)))))) else (if (D.1 2 120 ((D.1 0 301 5)).toNatClampNeg) = (21 : Int32) then (some ((1 : Int32), D)) else (if (D.1 2 120 ((D.1 0 301 5)).toNatClampNeg) = (22 : Int32) then (some ((1 : Int32), D)) else (if (D.1 2 120 ((D.1 0 301 5)).toNatClampNeg) = (23 : Int32) then (some ((1 : Int32), D)) else (if (D.1 2 120 ((D.1 0 301 5)).toNatClampNeg) = (24 : Int32) then (some ((1 : Int32), D)) else (if (D.1 2 120 ((D.1 0 301 5)).toNatClampNeg) = (25 : Int32) then (some ((1 : Int32), D)) else (if (D.1 2 120 ((D.1 0 301 5)).toNatClampNeg) = (26 : Int32) then (Option.bind (fX10_takesCount (1 : Int32) (99 : Int32) D) fun q24 => (mz_gd (mz_bo q24.1) (some (q24.1, q24.2)))) else (some ((1 : Int32), D)))))))))))))
set_option maxHeartbeats 4000000 in
theorem mX10_takesRest (D : mz_D) (r : (Int32 × mz_D)) (h : fX10_takesRest D = some r) : mz_Met IX10_takesRest [.inr (.inr (some (0, 301)))] D (some (.inl r.1), r.2) := by
  refine mz_Met.of (by decide +kernel) (Nat.le_of_ble_eq_true rfl) ?_
  show mz_Go IX10_takesRest (some (.inl r.1), r.2) 0 0 (0, [some (.inr (.inr (some (0, 301))))], [], D)
  rw [fX10_takesRest] at h
  obtain ⟨hb1, h⟩ := mz_gd_some h
  refine mz_Go.run (gs := [mz_kz 2 0 301, mz_kz 2 2 119, mz_kz 2 0 301, mz_kz 2 2 120, mz_ix (D.1 0 301 5) 30]) (st' := (12, [some (.inr (.inr (some (0, 301))))], [.inl (D.1 2 120 ((D.1 0 301 5)).toNatClampNeg)], D)) bX10_takesRest_0 oX10_takesRest_0 rfl ⟨rfl, rfl, rfl, rfl, hb1, trivial⟩ ?_
  refine mz_Go.tsw [(17, 68), (18, 73), (19, 80), (20, 80), (21, 114), (22, 114), (23, 114), (24, 114), (25, 114), (26, 106)] 114 (show decode cX10_takesRest 12 = .ok (.tableswitch 102 17 26 #[56, 61, 68, 68, 102, 102, 102, 102, 102, 94], 56) by decide +kernel) (by decide +kernel) ?_
  refine mz_Go.swc (fun hc2 => ?_) (fun hc2 => ?_)
  · have h := mz_ifp hc2 h
    refine mz_Go.run (gs := []) (st' := (69, [some (.inr (.inr (some (0, 301))))], [.inr (.inr (some (0, 301)))], D)) bX10_takesRest_68 oX10_takesRest_68 rfl trivial ?_
    obtain ⟨q3, hq3, h⟩ := mz_bd_some h
    refine mz_Go.callV (I := IX10_takesRest) (J := IX10_takesPayer) (as := []) (ci := 10) (g := 0) (o := 301) (idx := 90) (pl := 1005) (rest := []) (mX10_takesPayer D q3 hq3) kX10_takesPayer vX10_takesPayer (by decide +kernel) (by decide +kernel) (by decide +kernel) rfl rfl ⟨rfl, rfl⟩ rfl rfl rfl rfl ?_
    obtain ⟨hb4, h⟩ := mz_gd_some h
    cases h
    exact mz_Go.retz (by decide +kernel) rfl ⟨Nat.le_refl _, Nat.le_refl _⟩ hb4 rfl
  · have h := mz_ifn hc2 h
    refine mz_Go.swc (fun hc5 => ?_) (fun hc5 => ?_)
    · have h := mz_ifp hc5 h
      refine mz_Go.run (gs := []) (st' := (76, [some (.inr (.inr (some (0, 301))))], [.inl (22 : Int32), .inr (.inr (some (0, 301)))], D)) bX10_takesRest_73 oX10_takesRest_73 rfl trivial ?_
      obtain ⟨q6, hq6, h⟩ := mz_bd_some h
      refine mz_Go.callV (I := IX10_takesRest) (J := IX10_takesTwo) (as := [.inl (22 : Int32)]) (ci := 10) (g := 0) (o := 301) (idx := 93) (pl := 978) (rest := []) (mX10_takesTwo (22 : Int32) D q6 hq6) kX10_takesTwo vX10_takesTwo (by decide +kernel) (by decide +kernel) (by decide +kernel) rfl rfl ⟨rfl, rfl⟩ rfl rfl rfl rfl ?_
      obtain ⟨hb7, h⟩ := mz_gd_some h
      cases h
      exact mz_Go.retz (by decide +kernel) rfl ⟨Nat.le_refl _, Nat.le_refl _⟩ hb7 rfl
    · have h := mz_ifn hc5 h
      refine mz_Go.swc (fun hc8 => ?_) (fun hc8 => ?_)
      · have h := mz_ifp hc8 h
        refine mz_Go.run (gs := []) (st' := (83, [some (.inr (.inr (some (0, 301))))], [.inl (23 : Int32), .inr (.inr (some (0, 301)))], D)) bX10_takesRest_80 oX10_takesRest_80 rfl trivial ?_
        obtain ⟨q9, hq9, h⟩ := mz_bd_some h
        refine mz_Go.callV (I := IX10_takesRest) (J := IX10_takesTwo) (as := [.inl (23 : Int32)]) (ci := 10) (g := 0) (o := 301) (idx := 93) (pl := 978) (rest := []) (mX10_takesTwo (23 : Int32) D q9 hq9) kX10_takesTwo vX10_takesTwo (by decide +kernel) (by decide +kernel) (by decide +kernel) rfl rfl ⟨rfl, rfl⟩ rfl rfl rfl rfl ?_
        refine mz_Go.run (gs := []) (st' := (if q9.1 = 0 then (104, [some (.inr (.inr (some (0, 301))))], [], q9.2) else (89, [some (.inr (.inr (some (0, 301))))], [], q9.2))) bX10_takesRest_86 oX10_takesRest_86 rfl trivial ?_
        refine mz_Go.ite (fun hc10 => ?_) (fun hc10 => ?_)
        · have h := mz_ifp hc10 h
          refine mz_Go.run (gs := []) (st' := (105, [some (.inr (.inr (some (0, 301))))], [.inl (0 : Int32)], q9.2)) bX10_takesRest_104 oX10_takesRest_104 rfl trivial ?_
          cases h
          exact mz_Go.retz (by decide +kernel) rfl ⟨Nat.le_refl _, Nat.le_refl _⟩ (by decide) rfl
        · have h := mz_ifn hc10 h
          refine mz_Go.run (gs := []) (st' := (94, [some (.inr (.inr (some (0, 301))))], [.inl (999 : Int32), .inl (1 : Int32), .inr (.inr (some (0, 301)))], q9.2)) bX10_takesRest_89 oX10_takesRest_89 rfl trivial ?_
          obtain ⟨q11, hq11, h⟩ := mz_bd_some h
          refine mz_Go.callV (I := IX10_takesRest) (J := IX10_takesCount) (as := [.inl (1 : Int32), .inl (999 : Int32)]) (ci := 10) (g := 0) (o := 301) (idx := 96) (pl := 996) (rest := []) (mX10_takesCount (1 : Int32) (999 : Int32) q9.2 q11 hq11) kX10_takesCount vX10_takesCount (by decide +kernel) (by decide +kernel) (by decide +kernel) rfl rfl ⟨rfl, rfl⟩ rfl rfl rfl rfl ?_
          refine mz_Go.run (gs := []) (st' := (if q11.1 = 0 then (104, [some (.inr (.inr (some (0, 301))))], [], q11.2) else (100, [some (.inr (.inr (some (0, 301))))], [], q11.2))) bX10_takesRest_97 oX10_takesRest_97 rfl trivial ?_
          refine mz_Go.ite (fun hc12 => ?_) (fun hc12 => ?_)
          · have h := mz_ifp hc12 h
            refine mz_Go.run (gs := []) (st' := (105, [some (.inr (.inr (some (0, 301))))], [.inl (0 : Int32)], q11.2)) bX10_takesRest_104 oX10_takesRest_104 rfl trivial ?_
            cases h
            exact mz_Go.retz (by decide +kernel) rfl ⟨Nat.le_refl _, Nat.le_refl _⟩ (by decide) rfl
          · have h := mz_ifn hc12 h
            refine mz_Go.run (gs := []) (st' := (105, [some (.inr (.inr (some (0, 301))))], [.inl (1 : Int32)], q11.2)) bX10_takesRest_100 oX10_takesRest_100 rfl trivial ?_
            cases h
            exact mz_Go.retz (by decide +kernel) rfl ⟨Nat.le_refl _, Nat.le_refl _⟩ (by decide) rfl
      · have h := mz_ifn hc8 h
        refine mz_Go.swc (fun hc13 => ?_) (fun hc13 => ?_)
        · have h := mz_ifp hc13 h
          refine mz_Go.run (gs := []) (st' := (83, [some (.inr (.inr (some (0, 301))))], [.inl (23 : Int32), .inr (.inr (some (0, 301)))], D)) bX10_takesRest_80 oX10_takesRest_80 rfl trivial ?_
          obtain ⟨q14, hq14, h⟩ := mz_bd_some h
          refine mz_Go.callV (I := IX10_takesRest) (J := IX10_takesTwo) (as := [.inl (23 : Int32)]) (ci := 10) (g := 0) (o := 301) (idx := 93) (pl := 978) (rest := []) (mX10_takesTwo (23 : Int32) D q14 hq14) kX10_takesTwo vX10_takesTwo (by decide +kernel) (by decide +kernel) (by decide +kernel) rfl rfl ⟨rfl, rfl⟩ rfl rfl rfl rfl ?_
          refine mz_Go.run (gs := []) (st' := (if q14.1 = 0 then (104, [some (.inr (.inr (some (0, 301))))], [], q14.2) else (89, [some (.inr (.inr (some (0, 301))))], [], q14.2))) bX10_takesRest_86 oX10_takesRest_86 rfl trivial ?_
          refine mz_Go.ite (fun hc15 => ?_) (fun hc15 => ?_)
          · have h := mz_ifp hc15 h
            refine mz_Go.run (gs := []) (st' := (105, [some (.inr (.inr (some (0, 301))))], [.inl (0 : Int32)], q14.2)) bX10_takesRest_104 oX10_takesRest_104 rfl trivial ?_
            cases h
            exact mz_Go.retz (by decide +kernel) rfl ⟨Nat.le_refl _, Nat.le_refl _⟩ (by decide) rfl
          · have h := mz_ifn hc15 h
            refine mz_Go.run (gs := []) (st' := (94, [some (.inr (.inr (some (0, 301))))], [.inl (999 : Int32), .inl (1 : Int32), .inr (.inr (some (0, 301)))], q14.2)) bX10_takesRest_89 oX10_takesRest_89 rfl trivial ?_
            obtain ⟨q16, hq16, h⟩ := mz_bd_some h
            refine mz_Go.callV (I := IX10_takesRest) (J := IX10_takesCount) (as := [.inl (1 : Int32), .inl (999 : Int32)]) (ci := 10) (g := 0) (o := 301) (idx := 96) (pl := 996) (rest := []) (mX10_takesCount (1 : Int32) (999 : Int32) q14.2 q16 hq16) kX10_takesCount vX10_takesCount (by decide +kernel) (by decide +kernel) (by decide +kernel) rfl rfl ⟨rfl, rfl⟩ rfl rfl rfl rfl ?_
            refine mz_Go.run (gs := []) (st' := (if q16.1 = 0 then (104, [some (.inr (.inr (some (0, 301))))], [], q16.2) else (100, [some (.inr (.inr (some (0, 301))))], [], q16.2))) bX10_takesRest_97 oX10_takesRest_97 rfl trivial ?_
            refine mz_Go.ite (fun hc17 => ?_) (fun hc17 => ?_)
            · have h := mz_ifp hc17 h
              refine mz_Go.run (gs := []) (st' := (105, [some (.inr (.inr (some (0, 301))))], [.inl (0 : Int32)], q16.2)) bX10_takesRest_104 oX10_takesRest_104 rfl trivial ?_
              cases h
              exact mz_Go.retz (by decide +kernel) rfl ⟨Nat.le_refl _, Nat.le_refl _⟩ (by decide) rfl
            · have h := mz_ifn hc17 h
              refine mz_Go.run (gs := []) (st' := (105, [some (.inr (.inr (some (0, 301))))], [.inl (1 : Int32)], q16.2)) bX10_takesRest_100 oX10_takesRest_100 rfl trivial ?_
              cases h
              exact mz_Go.retz (by decide +kernel) rfl ⟨Nat.le_refl _, Nat.le_refl _⟩ (by decide) rfl
        · have h := mz_ifn hc13 h
          refine mz_Go.swc (fun hc18 => ?_) (fun hc18 => ?_)
          · have h := mz_ifp hc18 h
            refine mz_Go.run (gs := []) (st' := (115, [some (.inr (.inr (some (0, 301))))], [.inl (1 : Int32)], D)) bX10_takesRest_114 oX10_takesRest_114 rfl trivial ?_
            cases h
            exact mz_Go.retz (by decide +kernel) rfl ⟨Nat.le_refl _, Nat.le_refl _⟩ (by decide) rfl
          · have h := mz_ifn hc18 h
            refine mz_Go.swc (fun hc19 => ?_) (fun hc19 => ?_)
            · have h := mz_ifp hc19 h
              refine mz_Go.run (gs := []) (st' := (115, [some (.inr (.inr (some (0, 301))))], [.inl (1 : Int32)], D)) bX10_takesRest_114 oX10_takesRest_114 rfl trivial ?_
              cases h
              exact mz_Go.retz (by decide +kernel) rfl ⟨Nat.le_refl _, Nat.le_refl _⟩ (by decide) rfl
            · have h := mz_ifn hc19 h
              refine mz_Go.swc (fun hc20 => ?_) (fun hc20 => ?_)
              · have h := mz_ifp hc20 h
                refine mz_Go.run (gs := []) (st' := (115, [some (.inr (.inr (some (0, 301))))], [.inl (1 : Int32)], D)) bX10_takesRest_114 oX10_takesRest_114 rfl trivial ?_
                cases h
                exact mz_Go.retz (by decide +kernel) rfl ⟨Nat.le_refl _, Nat.le_refl _⟩ (by decide) rfl
              · have h := mz_ifn hc20 h
                refine mz_Go.swc (fun hc21 => ?_) (fun hc21 => ?_)
                · have h := mz_ifp hc21 h
                  refine mz_Go.run (gs := []) (st' := (115, [some (.inr (.inr (some (0, 301))))], [.inl (1 : Int32)], D)) bX10_takesRest_114 oX10_takesRest_114 rfl trivial ?_
                  cases h
                  exact mz_Go.retz (by decide +kernel) rfl ⟨Nat.le_refl _, Nat.le_refl _⟩ (by decide) rfl
                · have h := mz_ifn hc21 h
                  refine mz_Go.swc (fun hc22 => ?_) (fun hc22 => ?_)
                  · have h := mz_ifp hc22 h
                    refine mz_Go.run (gs := []) (st' := (115, [some (.inr (.inr (some (0, 301))))], [.inl (1 : Int32)], D)) bX10_takesRest_114 oX10_takesRest_114 rfl trivial ?_
                    cases h
                    exact mz_Go.retz (by decide +kernel) rfl ⟨Nat.le_refl _, Nat.le_refl _⟩ (by decide) rfl
                  · have h := mz_ifn hc22 h
                    refine mz_Go.swc (fun hc23 => ?_) (fun hc23 => ?_)
                    · have h := mz_ifp hc23 h
                      refine mz_Go.run (gs := []) (st' := (110, [some (.inr (.inr (some (0, 301))))], [.inl (99 : Int32), .inl (1 : Int32), .inr (.inr (some (0, 301)))], D)) bX10_takesRest_106 oX10_takesRest_106 rfl trivial ?_
                      obtain ⟨q24, hq24, h⟩ := mz_bd_some h
                      refine mz_Go.callV (I := IX10_takesRest) (J := IX10_takesCount) (as := [.inl (1 : Int32), .inl (99 : Int32)]) (ci := 10) (g := 0) (o := 301) (idx := 96) (pl := 996) (rest := []) (mX10_takesCount (1 : Int32) (99 : Int32) D q24 hq24) kX10_takesCount vX10_takesCount (by decide +kernel) (by decide +kernel) (by decide +kernel) rfl rfl ⟨rfl, rfl⟩ rfl rfl rfl rfl ?_
                      obtain ⟨hb25, h⟩ := mz_gd_some h
                      cases h
                      exact mz_Go.retz (by decide +kernel) rfl ⟨Nat.le_refl _, Nat.le_refl _⟩ hb25 rfl
                    · have h := mz_ifn hc23 h
                      refine mz_Go.run (gs := []) (st' := (115, [some (.inr (.inr (some (0, 301))))], [.inl (1 : Int32)], D)) bX10_takesRest_114 oX10_takesRest_114 rfl trivial ?_
                      cases h
                      exact mz_Go.retz (by decide +kernel) rfl ⟨Nat.le_refl _, Nat.le_refl _⟩ (by decide) rfl
def bX10_isTaken_0 : List mz_E := [(0, .iconst 1, 0, 0, 0, 1, 0), (1, .istore_n 1, 0, 0, 0, 0, 0), (2, .iconst 0, 0, 0, 0, 0, 0), (3, .istore_n 2, 0, 0, 0, 0, 0)]
theorem oX10_isTaken_0 : bX10_isTaken_0.all (mz_ok RX10 cX10_isTaken 3) = true := by decide +kernel
def bX10_isTaken_4 : List mz_E := [(4, .iload_n 2, 0, 0, 0, 0, 0), (5, .sipush 300, 0, 0, 0, 300, 0), (8, .if_icmp .ge 99, 0, 107, 0, 0, 0)]
theorem oX10_isTaken_4 : bX10_isTaken_4.all (mz_ok RX10 cX10_isTaken 3) = true := by decide +kernel
def bX10_isTaken_107 : List mz_E := [(107, .iload_n 1, 0, 0, 0, 0, 0), (108, .ifCond .eq 19, 0, 127, 0, 0, 0)]
theorem oX10_isTaken_107 : bX10_isTaken_107.all (mz_ok RX10 cX10_isTaken 3) = true := by decide +kernel
def bX10_isTaken_127 : List mz_E := [(127, .aload_n 0, 0, 0, 0, 0, 0), (128, .getfield 23, 10, 2, 931, 0, 0), (131, .iload_n 1, 0, 0, 0, 0, 0), (132, .putfield 62, 9, 0, 428, 0, 0), (135, .iload_n 1, 0, 0, 0, 0, 0)]
theorem oX10_isTaken_127 : bX10_isTaken_127.all (mz_ok RX10 cX10_isTaken 3) = true := by decide +kernel
def bX10_isTaken_111 : List mz_E := [(111, .aload_n 0, 0, 0, 0, 0, 0), (112, .getfield 55, 10, 4, 933, 0, 0), (115, .ifCond .le 12, 0, 127, 0, 0, 0)]
theorem oX10_isTaken_111 : bX10_isTaken_111.all (mz_ok RX10 cX10_isTaken 3) = true := by decide +kernel
def bX10_isTaken_118 : List mz_E := [(118, .aload_n 0, 0, 0, 0, 0, 0), (119, .getfield 15, 10, 0, 929, 0, 0), (122, .iconst 2, 0, 0, 0, 2, 0)]
theorem oX10_isTaken_118 : bX10_isTaken_118.all (mz_ok RX10 cX10_isTaken 3) = true := by decide +kernel
def bX10_isTaken_126 : List mz_E := [(126, .istore_n 1, 0, 0, 0, 0, 0), (127, .aload_n 0, 0, 0, 0, 0, 0), (128, .getfield 23, 10, 2, 931, 0, 0), (131, .iload_n 1, 0, 0, 0, 0, 0), (132, .putfield 62, 9, 0, 428, 0, 0), (135, .iload_n 1, 0, 0, 0, 0, 0)]
theorem oX10_isTaken_126 : bX10_isTaken_126.all (mz_ok RX10 cX10_isTaken 3) = true := by decide +kernel
def bX10_isTaken_11 : List mz_E := [(11, .iload_n 1, 0, 0, 0, 0, 0), (12, .ifCond .eq 95, 0, 107, 0, 0, 0)]
theorem oX10_isTaken_11 : bX10_isTaken_11.all (mz_ok RX10 cX10_isTaken 3) = true := by decide +kernel
def bX10_isTaken_15 : List mz_E := [(15, .aload_n 0, 0, 0, 0, 0, 0), (16, .getfield 15, 10, 0, 929, 0, 0)]
theorem oX10_isTaken_15 : bX10_isTaken_15.all (mz_ok RX10 cX10_isTaken 3) = true := by decide +kernel
def bX10_isTaken_22 : List mz_E := [(22, .ifCond .ne 85, 0, 107, 0, 0, 0)]
theorem oX10_isTaken_22 : bX10_isTaken_22.all (mz_ok RX10 cX10_isTaken 3) = true := by decide +kernel
def bX10_isTaken_25 : List mz_E := [(25, .aload_n 0, 0, 0, 0, 0, 0), (26, .getfield 15, 10, 0, 929, 0, 0), (29, .getfield 33, 5, 2, 219, 0, 0), (32, .bipush 27, 0, 0, 0, 27, 0), (34, .if_icmp .ne 10, 0, 44, 0, 0, 0)]
theorem oX10_isTaken_25 : bX10_isTaken_25.all (mz_ok RX10 cX10_isTaken 3) = true := by decide +kernel
def bX10_isTaken_37 : List mz_E := [(37, .aload_n 0, 0, 0, 0, 0, 0)]
theorem oX10_isTaken_37 : bX10_isTaken_37.all (mz_ok RX10 cX10_isTaken 3) = true := by decide +kernel
def bX10_isTaken_41 : List mz_E := [(41, .goto 39, 0, 80, 0, 0, 0)]
theorem oX10_isTaken_41 : bX10_isTaken_41.all (mz_ok RX10 cX10_isTaken 3) = true := by decide +kernel
def bX10_isTaken_80 : List mz_E := [(80, .istore_n 1, 0, 0, 0, 0, 0), (81, .iload_n 1, 0, 0, 0, 0, 0), (82, .ifCond .eq 17, 0, 99, 0, 0, 0)]
theorem oX10_isTaken_80 : bX10_isTaken_80.all (mz_ok RX10 cX10_isTaken 3) = true := by decide +kernel
def bX10_isTaken_99 : List mz_E := [(99, .iconst 0, 0, 0, 0, 0, 0), (100, .istore_n 1, 0, 0, 0, 0, 0), (101, .iinc 2 1, 0, 0, 0, 1, 0), (104, .goto (-100), 0, 4, 0, 0, 0)]
theorem oX10_isTaken_99 : bX10_isTaken_99.all (mz_ok RX10 cX10_isTaken 3) = true := by decide +kernel
def bX10_isTaken_85 : List mz_E := [(85, .aload_n 0, 0, 0, 0, 0, 0), (86, .getfield 15, 10, 0, 929, 0, 0)]
theorem oX10_isTaken_85 : bX10_isTaken_85.all (mz_ok RX10 cX10_isTaken 3) = true := by decide +kernel
def bX10_isTaken_92 : List mz_E := [(92, .ifCond .eq 7, 0, 99, 0, 0, 0)]
theorem oX10_isTaken_92 : bX10_isTaken_92.all (mz_ok RX10 cX10_isTaken 3) = true := by decide +kernel
def bX10_isTaken_95 : List mz_E := [(95, .iconst 1, 0, 0, 0, 1, 0), (96, .goto 4, 0, 100, 0, 0, 0), (100, .istore_n 1, 0, 0, 0, 0, 0), (101, .iinc 2 1, 0, 0, 0, 1, 0), (104, .goto (-100), 0, 4, 0, 0, 0)]
theorem oX10_isTaken_95 : bX10_isTaken_95.all (mz_ok RX10 cX10_isTaken 3) = true := by decide +kernel
def bX10_isTaken_44 : List mz_E := [(44, .aload_n 0, 0, 0, 0, 0, 0)]
theorem oX10_isTaken_44 : bX10_isTaken_44.all (mz_ok RX10 cX10_isTaken 3) = true := by decide +kernel
def bX10_isTaken_48 : List mz_E := [(48, .ifCond .eq 31, 0, 79, 0, 0, 0)]
theorem oX10_isTaken_48 : bX10_isTaken_48.all (mz_ok RX10 cX10_isTaken 3) = true := by decide +kernel
def bX10_isTaken_79 : List mz_E := [(79, .iconst 0, 0, 0, 0, 0, 0)]
theorem oX10_isTaken_79 : bX10_isTaken_79.all (mz_ok RX10 cX10_isTaken 3) = true := by decide +kernel
def bX10_isTaken_51 : List mz_E := [(51, .aload_n 0, 0, 0, 0, 0, 0)]
theorem oX10_isTaken_51 : bX10_isTaken_51.all (mz_ok RX10 cX10_isTaken 3) = true := by decide +kernel
def bX10_isTaken_55 : List mz_E := [(55, .ifCond .eq 13, 0, 68, 0, 0, 0)]
theorem oX10_isTaken_55 : bX10_isTaken_55.all (mz_ok RX10 cX10_isTaken 3) = true := by decide +kernel
def bX10_isTaken_68 : List mz_E := [(68, .aload_n 0, 0, 0, 0, 0, 0)]
theorem oX10_isTaken_68 : bX10_isTaken_68.all (mz_ok RX10 cX10_isTaken 3) = true := by decide +kernel
def bX10_isTaken_72 : List mz_E := [(72, .ifCond .eq 7, 0, 79, 0, 0, 0)]
theorem oX10_isTaken_72 : bX10_isTaken_72.all (mz_ok RX10 cX10_isTaken 3) = true := by decide +kernel
def bX10_isTaken_75 : List mz_E := [(75, .iconst 1, 0, 0, 0, 1, 0), (76, .goto 4, 0, 80, 0, 0, 0)]
theorem oX10_isTaken_75 : bX10_isTaken_75.all (mz_ok RX10 cX10_isTaken 3) = true := by decide +kernel
def bX10_isTaken_58 : List mz_E := [(58, .aload_n 0, 0, 0, 0, 0, 0)]
theorem oX10_isTaken_58 : bX10_isTaken_58.all (mz_ok RX10 cX10_isTaken 3) = true := by decide +kernel
def bX10_isTaken_62 : List mz_E := [(62, .ifCond .eq 17, 0, 79, 0, 0, 0)]
theorem oX10_isTaken_62 : bX10_isTaken_62.all (mz_ok RX10 cX10_isTaken 3) = true := by decide +kernel
def bX10_isTaken_65 : List mz_E := [(65, .goto 10, 0, 75, 0, 0, 0)]
theorem oX10_isTaken_65 : bX10_isTaken_65.all (mz_ok RX10 cX10_isTaken 3) = true := by decide +kernel
abbrev IX10_isTaken : mz_I := (yX10_isTaken, cX10_isTaken, 3, (some .boolean), 2, 5, 0, 0)
theorem kX10_isTaken : mz_okm IX10_isTaken 951 145 949 0 = true := by decide +kernel
theorem vX10_isTaken : mz_okV IX10_isTaken 949 950 = true := by decide +kernel
def fX10_isTaken_107 (x1 : Int32) (D : mz_D) : Option (Int32 × mz_D) := (if x1 = 0 then (mz_gd (mz_bo x1) (mz_gd (mz_bo x1) (some (x1, (mz_wi D 2 119 0 x1))))) else (if (D.1 0 301 4) ≤ 0 then (mz_gd (mz_bo x1) (mz_gd (mz_bo x1) (some (x1, (mz_wi D 2 119 0 x1))))) else (Option.bind (fX5_fail (2 : Int32) D) fun q7 => (mz_gd (mz_bo q7.1) (mz_gd (mz_bo q7.1) (some (q7.1, (mz_wi q7.2 2 119 0 q7.1))))))))
set_option maxHeartbeats 4000000 in
theorem tX10_isTaken_107 (r : (Int32 × mz_D)) : ∀ (x1 : Int32) (D : mz_D), fX10_isTaken_107 x1 D = some r → mz_Go IX10_isTaken (some (.inl r.1), r.2) 0 0 (107, [some (.inr (.inr (some (0, 301)))), some (.inl x1), none], [], D) := by
  intro x1 D h
  rw [fX10_isTaken_107] at h
  refine mz_Go.run (gs := []) (st' := (if x1 = 0 then (127, [some (.inr (.inr (some (0, 301)))), some (.inl x1), none], [], D) else (111, [some (.inr (.inr (some (0, 301)))), some (.inl x1), none], [], D))) bX10_isTaken_107 oX10_isTaken_107 rfl trivial ?_
  refine mz_Go.ite (fun hc1 => ?_) (fun hc1 => ?_)
  · have h := mz_ifp hc1 h
    obtain ⟨hb2, h⟩ := mz_gd_some h
    refine mz_Go.run (gs := [mz_kz 2 0 301, mz_kz 2 2 119, mz_bo x1]) (st' := (136, [some (.inr (.inr (some (0, 301)))), some (.inl x1), none], [.inl x1], (mz_wi D 2 119 0 x1))) bX10_isTaken_127 oX10_isTaken_127 rfl ⟨rfl, rfl, hb2, trivial⟩ ?_
    obtain ⟨hb3, h⟩ := mz_gd_some h
    cases h
    exact mz_Go.retz (by decide +kernel) rfl ⟨Nat.le_refl _, Nat.le_refl _⟩ hb3 rfl
  · have h := mz_ifn hc1 h
    refine mz_Go.run (gs := [mz_kz 2 0 301]) (st' := (if (D.1 0 301 4) ≤ 0 then (127, [some (.inr (.inr (some (0, 301)))), some (.inl x1), none], [], D) else (118, [some (.inr (.inr (some (0, 301)))), some (.inl x1), none], [], D))) bX10_isTaken_111 oX10_isTaken_111 rfl ⟨rfl, trivial⟩ ?_
    refine mz_Go.ite (fun hc4 => ?_) (fun hc4 => ?_)
    · have h := mz_ifp hc4 h
      obtain ⟨hb5, h⟩ := mz_gd_some h
      refine mz_Go.run (gs := [mz_kz 2 0 301, mz_kz 2 2 119, mz_bo x1]) (st' := (136, [some (.inr (.inr (some (0, 301)))), some (.inl x1), none], [.inl x1], (mz_wi D 2 119 0 x1))) bX10_isTaken_127 oX10_isTaken_127 rfl ⟨rfl, rfl, hb5, trivial⟩ ?_
      obtain ⟨hb6, h⟩ := mz_gd_some h
      cases h
      exact mz_Go.retz (by decide +kernel) rfl ⟨Nat.le_refl _, Nat.le_refl _⟩ hb6 rfl
    · have h := mz_ifn hc4 h
      refine mz_Go.run (gs := [mz_kz 2 0 301]) (st' := (123, [some (.inr (.inr (some (0, 301)))), some (.inl x1), none], [.inl (2 : Int32), .inr (.inr (some (0, 2)))], D)) bX10_isTaken_118 oX10_isTaken_118 rfl ⟨rfl, trivial⟩ ?_
      obtain ⟨q7, hq7, h⟩ := mz_bd_some h
      refine mz_Go.callV (I := IX10_isTaken) (J := IX5_fail) (as := [.inl (2 : Int32)]) (ci := 5) (g := 0) (o := 2) (idx := 58) (pl := 957) (rest := []) (mX5_fail (2 : Int32) D q7 hq7) kX5_fail vX5_fail (by decide +kernel) (by decide +kernel) (by decide +kernel) rfl rfl ⟨rfl, rfl⟩ rfl rfl rfl rfl ?_
      obtain ⟨hb8, h⟩ := mz_gd_some h
      refine mz_Go.run (gs := [mz_kz 2 0 301, mz_kz 2 2 119, mz_bo q7.1]) (st' := (136, [some (.inr (.inr (some (0, 301)))), some (.inl q7.1), none], [.inl q7.1], (mz_wi q7.2 2 119 0 q7.1))) bX10_isTaken_126 oX10_isTaken_126 rfl ⟨rfl, rfl, hb8, trivial⟩ ?_
      obtain ⟨hb9, h⟩ := mz_gd_some h
      cases h
      exact mz_Go.retz (by decide +kernel) rfl ⟨Nat.le_refl _, Nat.le_refl _⟩ hb9 rfl
def fX10_isTaken_99 (k4 : Int32 → Int32 → mz_D → Option (Int32 × mz_D)) (x2 : Int32) (D : mz_D) : Option (Int32 × mz_D) := (k4 (0 : Int32) (x2 + (1 : Int32)) D)
set_option maxHeartbeats 4000000 in
theorem tX10_isTaken_99 (r : (Int32 × mz_D)) (k4 : Int32 → Int32 → mz_D → Option (Int32 × mz_D)) (hk4 : ∀ (x1 : Int32) (x2 : Int32) (D : mz_D), k4 x1 x2 D = some r → mz_Go IX10_isTaken (some (.inl r.1), r.2) 0 0 (4, [some (.inr (.inr (some (0, 301)))), some (.inl x1), some (.inl x2)], [], D)) : ∀ (x2 : Int32) (D : mz_D), fX10_isTaken_99 k4 x2 D = some r → mz_Go IX10_isTaken (some (.inl r.1), r.2) 0 0 (99, [some (.inr (.inr (some (0, 301)))), none, some (.inl x2)], [], D) := by
  intro x2 D h
  rw [fX10_isTaken_99] at h
  refine mz_Go.run (gs := []) (st' := (4, [some (.inr (.inr (some (0, 301)))), some (.inl (0 : Int32)), some (.inl (x2 + (1 : Int32)))], [], D)) bX10_isTaken_99 oX10_isTaken_99 rfl trivial ?_
  exact mz_Go.drop [true, true, true] (hk4 (0 : Int32) (x2 + (1 : Int32)) D h)
def fX10_isTaken_80 (k4 : Int32 → Int32 → mz_D → Option (Int32 × mz_D)) (x2 : Int32) (s0 : Int32) (D : mz_D) : Option (Int32 × mz_D) := (if s0 = 0 then (fX10_isTaken_99 k4 x2 D) else (Option.bind (fX5_takesSemicolon D) fun q2 => (if q2.1 = 0 then (fX10_isTaken_99 k4 x2 q2.2) else (k4 (1 : Int32) (x2 + (1 : Int32)) q2.2))))
set_option maxHeartbeats 4000000 in
theorem tX10_isTaken_80 (r : (Int32 × mz_D)) (k4 : Int32 → Int32 → mz_D → Option (Int32 × mz_D)) (hk4 : ∀ (x1 : Int32) (x2 : Int32) (D : mz_D), k4 x1 x2 D = some r → mz_Go IX10_isTaken (some (.inl r.1), r.2) 0 0 (4, [some (.inr (.inr (some (0, 301)))), some (.inl x1), some (.inl x2)], [], D)) : ∀ (x2 : Int32) (s0 : Int32) (D : mz_D), fX10_isTaken_80 k4 x2 s0 D = some r → mz_Go IX10_isTaken (some (.inl r.1), r.2) 0 0 (80, [some (.inr (.inr (some (0, 301)))), none, some (.inl x2)], [.inl s0], D) := by
  intro x2 s0 D h
  rw [fX10_isTaken_80] at h
  refine mz_Go.run (gs := []) (st' := (if s0 = 0 then (99, [some (.inr (.inr (some (0, 301)))), some (.inl s0), some (.inl x2)], [], D) else (85, [some (.inr (.inr (some (0, 301)))), some (.inl s0), some (.inl x2)], [], D))) bX10_isTaken_80 oX10_isTaken_80 rfl trivial ?_
  refine mz_Go.ite (fun hc1 => ?_) (fun hc1 => ?_)
  · have h := mz_ifp hc1 h
    exact mz_Go.drop [true, false, true] (tX10_isTaken_99 r k4 hk4 x2 D h)
  · have h := mz_ifn hc1 h
    refine mz_Go.run (gs := [mz_kz 2 0 301]) (st' := (89, [some (.inr (.inr (some (0, 301)))), some (.inl s0), some (.inl x2)], [.inr (.inr (some (0, 2)))], D)) bX10_isTaken_85 oX10_isTaken_85 rfl ⟨rfl, trivial⟩ ?_
    obtain ⟨q2, hq2, h⟩ := mz_bd_some h
    refine mz_Go.callV (I := IX10_isTaken) (J := IX5_takesSemicolon) (as := []) (ci := 5) (g := 0) (o := 2) (idx := 52) (pl := 1009) (rest := []) (mX5_takesSemicolon D q2 hq2) kX5_takesSemicolon vX5_takesSemicolon (by decide +kernel) (by decide +kernel) (by decide +kernel) rfl rfl ⟨rfl, rfl⟩ rfl rfl rfl rfl ?_
    refine mz_Go.run (gs := []) (st' := (if q2.1 = 0 then (99, [some (.inr (.inr (some (0, 301)))), some (.inl s0), some (.inl x2)], [], q2.2) else (95, [some (.inr (.inr (some (0, 301)))), some (.inl s0), some (.inl x2)], [], q2.2))) bX10_isTaken_92 oX10_isTaken_92 rfl trivial ?_
    refine mz_Go.ite (fun hc3 => ?_) (fun hc3 => ?_)
    · have h := mz_ifp hc3 h
      exact mz_Go.drop [true, false, true] (tX10_isTaken_99 r k4 hk4 x2 q2.2 h)
    · have h := mz_ifn hc3 h
      refine mz_Go.run (gs := []) (st' := (4, [some (.inr (.inr (some (0, 301)))), some (.inl (1 : Int32)), some (.inl (x2 + (1 : Int32)))], [], q2.2)) bX10_isTaken_95 oX10_isTaken_95 rfl trivial ?_
      exact mz_Go.drop [true, true, true] (hk4 (1 : Int32) (x2 + (1 : Int32)) q2.2 h)
def fX10_isTaken_79 (k4 : Int32 → Int32 → mz_D → Option (Int32 × mz_D)) (x2 : Int32) (D : mz_D) : Option (Int32 × mz_D) := (fX10_isTaken_80 k4 x2 (0 : Int32) D)
set_option maxHeartbeats 4000000 in
theorem tX10_isTaken_79 (r : (Int32 × mz_D)) (k4 : Int32 → Int32 → mz_D → Option (Int32 × mz_D)) (hk4 : ∀ (x1 : Int32) (x2 : Int32) (D : mz_D), k4 x1 x2 D = some r → mz_Go IX10_isTaken (some (.inl r.1), r.2) 0 0 (4, [some (.inr (.inr (some (0, 301)))), some (.inl x1), some (.inl x2)], [], D)) : ∀ (x2 : Int32) (D : mz_D), fX10_isTaken_79 k4 x2 D = some r → mz_Go IX10_isTaken (some (.inl r.1), r.2) 0 0 (79, [some (.inr (.inr (some (0, 301)))), none, some (.inl x2)], [], D) := by
  intro x2 D h
  rw [fX10_isTaken_79] at h
  refine mz_Go.run (gs := []) (st' := (80, [some (.inr (.inr (some (0, 301)))), none, some (.inl x2)], [.inl (0 : Int32)], D)) bX10_isTaken_79 oX10_isTaken_79 rfl trivial ?_
  exact mz_Go.drop [true, false, true] (tX10_isTaken_80 r k4 hk4 x2 (0 : Int32) D h)
def fX10_isTaken_75 (k4 : Int32 → Int32 → mz_D → Option (Int32 × mz_D)) (x2 : Int32) (D : mz_D) : Option (Int32 × mz_D) := (fX10_isTaken_80 k4 x2 (1 : Int32) D)
set_option maxHeartbeats 4000000 in
theorem tX10_isTaken_75 (r : (Int32 × mz_D)) (k4 : Int32 → Int32 → mz_D → Option (Int32 × mz_D)) (hk4 : ∀ (x1 : Int32) (x2 : Int32) (D : mz_D), k4 x1 x2 D = some r → mz_Go IX10_isTaken (some (.inl r.1), r.2) 0 0 (4, [some (.inr (.inr (some (0, 301)))), some (.inl x1), some (.inl x2)], [], D)) : ∀ (x2 : Int32) (D : mz_D), fX10_isTaken_75 k4 x2 D = some r → mz_Go IX10_isTaken (some (.inl r.1), r.2) 0 0 (75, [some (.inr (.inr (some (0, 301)))), none, some (.inl x2)], [], D) := by
  intro x2 D h
  rw [fX10_isTaken_75] at h
  refine mz_Go.run (gs := []) (st' := (80, [some (.inr (.inr (some (0, 301)))), none, some (.inl x2)], [.inl (1 : Int32)], D)) bX10_isTaken_75 oX10_isTaken_75 rfl trivial ?_
  exact mz_Go.drop [true, false, true] (tX10_isTaken_80 r k4 hk4 x2 (1 : Int32) D h)
def fX10_isTaken_4 : Nat → Int32 → Int32 → mz_D → Option (Int32 × mz_D)
  | 0 => fun _ _ _ => none
  | n + 1 => fun x1 x2 D => (if (300 : Int32) ≤ x2 then (fX10_isTaken_107 x1 D) else (if x1 = 0 then (fX10_isTaken_107 x1 D) else (if (fX5_isOver D) = 0 then (if (D.1 0 2 2) = (27 : Int32) then (Option.bind (fX10_takesEnd D) fun q5 => (fX10_isTaken_80 (fX10_isTaken_4 n) x2 q5.1 q5.2)) else (Option.bind (fX10_beginsStep D) fun q6 => (if q6.1 = 0 then (fX10_isTaken_79 (fX10_isTaken_4 n) x2 q6.2) else (Option.bind (fX10_isTest q6.2) fun q8 => (if q8 = 0 then (Option.bind (fX10_takesRest q6.2) fun q10 => (if q10.1 = 0 then (fX10_isTaken_79 (fX10_isTaken_4 n) x2 q10.2) else (fX10_isTaken_75 (fX10_isTaken_4 n) x2 q10.2))) else (Option.bind (fX10_takesTest q6.2) fun q12 => (if q12.1 = 0 then (fX10_isTaken_79 (fX10_isTaken_4 n) x2 q12.2) else (fX10_isTaken_75 (fX10_isTaken_4 n) x2 q12.2)))))))) else (fX10_isTaken_107 x1 D))))
set_option maxHeartbeats 4000000 in
theorem tX10_isTaken_4 (r : (Int32 × mz_D)) : ∀ (n : Nat) (x1 : Int32) (x2 : Int32) (D : mz_D), fX10_isTaken_4 n x1 x2 D = some r → mz_Go IX10_isTaken (some (.inl r.1), r.2) 0 0 (4, [some (.inr (.inr (some (0, 301)))), some (.inl x1), some (.inl x2)], [], D) := by
  intro n
  induction n with
  | zero => intro x1 x2 D h; have h : (none : Option (Int32 × mz_D)) = some r := h; cases h
  | succ n ih =>
    intro x1 x2 D h
    rw [fX10_isTaken_4] at h
    refine mz_Go.run (gs := []) (st' := (if (300 : Int32) ≤ x2 then (107, [some (.inr (.inr (some (0, 301)))), some (.inl x1), some (.inl x2)], [], D) else (11, [some (.inr (.inr (some (0, 301)))), some (.inl x1), some (.inl x2)], [], D))) bX10_isTaken_4 oX10_isTaken_4 rfl trivial ?_
    refine mz_Go.ite (fun hc1 => ?_) (fun hc1 => ?_)
    · have h := mz_ifp hc1 h
      exact mz_Go.drop [true, true, false] (tX10_isTaken_107 r x1 D h)
    · have h := mz_ifn hc1 h
      refine mz_Go.run (gs := []) (st' := (if x1 = 0 then (107, [some (.inr (.inr (some (0, 301)))), some (.inl x1), some (.inl x2)], [], D) else (15, [some (.inr (.inr (some (0, 301)))), some (.inl x1), some (.inl x2)], [], D))) bX10_isTaken_11 oX10_isTaken_11 rfl trivial ?_
      refine mz_Go.ite (fun hc2 => ?_) (fun hc2 => ?_)
      · have h := mz_ifp hc2 h
        exact mz_Go.drop [true, true, false] (tX10_isTaken_107 r x1 D h)
      · have h := mz_ifn hc2 h
        refine mz_Go.run (gs := [mz_kz 2 0 301]) (st' := (19, [some (.inr (.inr (some (0, 301)))), some (.inl x1), some (.inl x2)], [.inr (.inr (some (0, 2)))], D)) bX10_isTaken_15 oX10_isTaken_15 rfl ⟨rfl, trivial⟩ ?_
        refine mz_Go.callV (I := IX10_isTaken) (J := IX5_isOver) (as := []) (ci := 5) (g := 0) (o := 2) (idx := 27) (pl := 952) (rest := []) (mX5_isOver D _ rfl) kX5_isOver vX5_isOver (by decide +kernel) (by decide +kernel) (by decide +kernel) rfl rfl ⟨rfl, rfl⟩ rfl rfl rfl rfl ?_
        refine mz_Go.run (gs := []) (st' := (if (fX5_isOver D) = 0 then (25, [some (.inr (.inr (some (0, 301)))), some (.inl x1), some (.inl x2)], [], D) else (107, [some (.inr (.inr (some (0, 301)))), some (.inl x1), some (.inl x2)], [], D))) bX10_isTaken_22 oX10_isTaken_22 rfl trivial ?_
        refine mz_Go.ite (fun hc3 => ?_) (fun hc3 => ?_)
        · have h := mz_ifp hc3 h
          refine mz_Go.run (gs := [mz_kz 2 0 301, mz_kz 2 0 2]) (st' := (if (D.1 0 2 2) = (27 : Int32) then (37, [some (.inr (.inr (some (0, 301)))), some (.inl x1), some (.inl x2)], [], D) else (44, [some (.inr (.inr (some (0, 301)))), some (.inl x1), some (.inl x2)], [], D))) bX10_isTaken_25 oX10_isTaken_25 rfl ⟨rfl, rfl, trivial⟩ ?_
          refine mz_Go.ite (fun hc4 => ?_) (fun hc4 => ?_)
          · have h := mz_ifp hc4 h
            refine mz_Go.run (gs := []) (st' := (38, [some (.inr (.inr (some (0, 301)))), some (.inl x1), some (.inl x2)], [.inr (.inr (some (0, 301)))], D)) bX10_isTaken_37 oX10_isTaken_37 rfl trivial ?_
            obtain ⟨q5, hq5, h⟩ := mz_bd_some h
            refine mz_Go.callV (I := IX10_isTaken) (J := IX10_takesEnd) (as := []) (ci := 10) (g := 0) (o := 301) (idx := 37) (pl := 953) (rest := []) (mX10_takesEnd D q5 hq5) kX10_takesEnd vX10_takesEnd (by decide +kernel) (by decide +kernel) (by decide +kernel) rfl rfl ⟨rfl, rfl⟩ rfl rfl rfl rfl ?_
            refine mz_Go.run (gs := []) (st' := (80, [some (.inr (.inr (some (0, 301)))), some (.inl x1), some (.inl x2)], [.inl q5.1], q5.2)) bX10_isTaken_41 oX10_isTaken_41 rfl trivial ?_
            exact mz_Go.drop [true, false, true] (tX10_isTaken_80 r (fX10_isTaken_4 n) ih x2 q5.1 q5.2 h)
          · have h := mz_ifn hc4 h
            refine mz_Go.run (gs := []) (st' := (45, [some (.inr (.inr (some (0, 301)))), some (.inl x1), some (.inl x2)], [.inr (.inr (some (0, 301)))], D)) bX10_isTaken_44 oX10_isTaken_44 rfl trivial ?_
            obtain ⟨q6, hq6, h⟩ := mz_bd_some h
            refine mz_Go.callV (I := IX10_isTaken) (J := IX10_beginsStep) (as := []) (ci := 10) (g := 0) (o := 301) (idx := 40) (pl := 959) (rest := []) (mX10_beginsStep D q6 hq6) kX10_beginsStep vX10_beginsStep (by decide +kernel) (by decide +kernel) (by decide +kernel) rfl rfl ⟨rfl, rfl⟩ rfl rfl rfl rfl ?_
            refine mz_Go.run (gs := []) (st' := (if q6.1 = 0 then (79, [some (.inr (.inr (some (0, 301)))), some (.inl x1), some (.inl x2)], [], q6.2) else (51, [some (.inr (.inr (some (0, 301)))), some (.inl x1), some (.inl x2)], [], q6.2))) bX10_isTaken_48 oX10_isTaken_48 rfl trivial ?_
            refine mz_Go.ite (fun hc7 => ?_) (fun hc7 => ?_)
            · have h := mz_ifp hc7 h
              exact mz_Go.drop [true, false, true] (tX10_isTaken_79 r (fX10_isTaken_4 n) ih x2 q6.2 h)
            · have h := mz_ifn hc7 h
              refine mz_Go.run (gs := []) (st' := (52, [some (.inr (.inr (some (0, 301)))), some (.inl x1), some (.inl x2)], [.inr (.inr (some (0, 301)))], q6.2)) bX10_isTaken_51 oX10_isTaken_51 rfl trivial ?_
              obtain ⟨q8, hq8, h⟩ := mz_bd_some h
              refine mz_Go.callV (I := IX10_isTaken) (J := IX10_isTest) (as := []) (ci := 10) (g := 0) (o := 301) (idx := 43) (pl := 970) (rest := []) (mX10_isTest q6.2 q8 hq8) kX10_isTest vX10_isTest (by decide +kernel) (by decide +kernel) (by decide +kernel) rfl rfl ⟨rfl, rfl⟩ rfl rfl rfl rfl ?_
              refine mz_Go.run (gs := []) (st' := (if q8 = 0 then (68, [some (.inr (.inr (some (0, 301)))), some (.inl x1), some (.inl x2)], [], q6.2) else (58, [some (.inr (.inr (some (0, 301)))), some (.inl x1), some (.inl x2)], [], q6.2))) bX10_isTaken_55 oX10_isTaken_55 rfl trivial ?_
              refine mz_Go.ite (fun hc9 => ?_) (fun hc9 => ?_)
              · have h := mz_ifp hc9 h
                refine mz_Go.run (gs := []) (st' := (69, [some (.inr (.inr (some (0, 301)))), some (.inl x1), some (.inl x2)], [.inr (.inr (some (0, 301)))], q6.2)) bX10_isTaken_68 oX10_isTaken_68 rfl trivial ?_
                obtain ⟨q10, hq10, h⟩ := mz_bd_some h
                refine mz_Go.callV (I := IX10_isTaken) (J := IX10_takesRest) (as := []) (ci := 10) (g := 0) (o := 301) (idx := 49) (pl := 1001) (rest := []) (mX10_takesRest q6.2 q10 hq10) kX10_takesRest vX10_takesRest (by decide +kernel) (by decide +kernel) (by decide +kernel) rfl rfl ⟨rfl, rfl⟩ rfl rfl rfl rfl ?_
                refine mz_Go.run (gs := []) (st' := (if q10.1 = 0 then (79, [some (.inr (.inr (some (0, 301)))), some (.inl x1), some (.inl x2)], [], q10.2) else (75, [some (.inr (.inr (some (0, 301)))), some (.inl x1), some (.inl x2)], [], q10.2))) bX10_isTaken_72 oX10_isTaken_72 rfl trivial ?_
                refine mz_Go.ite (fun hc11 => ?_) (fun hc11 => ?_)
                · have h := mz_ifp hc11 h
                  exact mz_Go.drop [true, false, true] (tX10_isTaken_79 r (fX10_isTaken_4 n) ih x2 q10.2 h)
                · have h := mz_ifn hc11 h
                  exact mz_Go.drop [true, false, true] (tX10_isTaken_75 r (fX10_isTaken_4 n) ih x2 q10.2 h)
              · have h := mz_ifn hc9 h
                refine mz_Go.run (gs := []) (st' := (59, [some (.inr (.inr (some (0, 301)))), some (.inl x1), some (.inl x2)], [.inr (.inr (some (0, 301)))], q6.2)) bX10_isTaken_58 oX10_isTaken_58 rfl trivial ?_
                obtain ⟨q12, hq12, h⟩ := mz_bd_some h
                refine mz_Go.callV (I := IX10_isTaken) (J := IX10_takesTest) (as := []) (ci := 10) (g := 0) (o := 301) (idx := 46) (pl := 974) (rest := []) (mX10_takesTest q6.2 q12 hq12) kX10_takesTest vX10_takesTest (by decide +kernel) (by decide +kernel) (by decide +kernel) rfl rfl ⟨rfl, rfl⟩ rfl rfl rfl rfl ?_
                refine mz_Go.run (gs := []) (st' := (if q12.1 = 0 then (79, [some (.inr (.inr (some (0, 301)))), some (.inl x1), some (.inl x2)], [], q12.2) else (65, [some (.inr (.inr (some (0, 301)))), some (.inl x1), some (.inl x2)], [], q12.2))) bX10_isTaken_62 oX10_isTaken_62 rfl trivial ?_
                refine mz_Go.ite (fun hc13 => ?_) (fun hc13 => ?_)
                · have h := mz_ifp hc13 h
                  exact mz_Go.drop [true, false, true] (tX10_isTaken_79 r (fX10_isTaken_4 n) ih x2 q12.2 h)
                · have h := mz_ifn hc13 h
                  refine mz_Go.run (gs := []) (st' := (75, [some (.inr (.inr (some (0, 301)))), some (.inl x1), some (.inl x2)], [], q12.2)) bX10_isTaken_65 oX10_isTaken_65 rfl trivial ?_
                  exact mz_Go.drop [true, false, true] (tX10_isTaken_75 r (fX10_isTaken_4 n) ih x2 q12.2 h)
        · have h := mz_ifn hc3 h
          exact mz_Go.drop [true, true, false] (tX10_isTaken_107 r x1 D h)
def fX10_isTaken (D : mz_D) : Option (Int32 × mz_D) := (fX10_isTaken_4 mz_N (1 : Int32) (0 : Int32) D)
set_option maxHeartbeats 4000000 in
theorem mX10_isTaken (D : mz_D) (r : (Int32 × mz_D)) (h : fX10_isTaken D = some r) : mz_Met IX10_isTaken [.inr (.inr (some (0, 301)))] D (some (.inl r.1), r.2) := by
  refine mz_Met.of (by decide +kernel) (Nat.le_of_ble_eq_true rfl) ?_
  show mz_Go IX10_isTaken (some (.inl r.1), r.2) 0 0 (0, [some (.inr (.inr (some (0, 301)))), none, none], [], D)
  rw [fX10_isTaken] at h
  refine mz_Go.run (gs := []) (st' := (4, [some (.inr (.inr (some (0, 301)))), some (.inl (1 : Int32)), some (.inl (0 : Int32))], [], D)) bX10_isTaken_0 oX10_isTaken_0 rfl trivial ?_
  exact mz_Go.drop [true, true, true] (tX10_isTaken_4 r mz_N (1 : Int32) (0 : Int32) D h)
def bX11_status_0 : List mz_E := [(0, .aload_n 0, 0, 0, 0, 0, 0), (1, .getfield 71, 11, 13, 572, 0, 0)]
theorem oX11_status_0 : bX11_status_0.all (mz_ok RX11 cX11_status 1) = true := by decide +kernel
abbrev IX11_status : mz_I := (yX11_status, cX11_status, 1, (some .int), 0, 0, 0, 0)
theorem kX11_status : mz_okm IX11_status 617 126 615 0 = true := by decide +kernel
theorem vX11_status : mz_okV IX11_status 615 616 = true := by decide +kernel
theorem mX11_status (D : mz_D) : mz_Met IX11_status [.inr (.inr (some (0, 0)))] D (some (.inl (D.1 0 0 13)), D) := by
  refine mz_Met.of (by decide +kernel) (Nat.le_of_ble_eq_true rfl) ?_
  show mz_Go IX11_status (some (.inl (D.1 0 0 13)), D) 0 0 (0, [some (.inr (.inr (some (0, 0))))], [], D)
  refine mz_Go.run (gs := [mz_kz 0 0 0]) (st' := (4, [some (.inr (.inr (some (0, 0))))], [.inl (D.1 0 0 13)], D)) bX11_status_0 oX11_status_0 rfl ⟨rfl, trivial⟩ ?_
  exact mz_Go.reti (by decide +kernel) rfl ⟨Nat.le_refl _, Nat.le_refl _⟩ rfl
def bX11_top_0 : List mz_E := [(0, .aload_n 0, 0, 0, 0, 0, 0), (1, .getfield 74, 11, 14, 573, 0, 0)]
theorem oX11_top_0 : bX11_top_0.all (mz_ok RX11 cX11_top 1) = true := by decide +kernel
abbrev IX11_top : mz_I := (yX11_top, cX11_top, 1, (some .long), 0, 0, 0, 0)
theorem kX11_top : mz_okm IX11_top 621 126 619 0 = true := by decide +kernel
theorem vX11_top : mz_okV IX11_top 619 620 = true := by decide +kernel
theorem mX11_top (D : mz_D) : mz_Met IX11_top [.inr (.inr (some (0, 0)))] D (some (.inr (.inl (D.2 0 0 14))), D) := by
  refine mz_Met.of (by decide +kernel) (Nat.le_of_ble_eq_true rfl) ?_
  show mz_Go IX11_top (some (.inr (.inl (D.2 0 0 14))), D) 0 0 (0, [some (.inr (.inr (some (0, 0))))], [], D)
  refine mz_Go.run (gs := [mz_kz 0 0 0]) (st' := (4, [some (.inr (.inr (some (0, 0))))], [.inr (.inl (D.2 0 0 14))], D)) bX11_top_0 oX11_top_0 rfl ⟨rfl, trivial⟩ ?_
  exact mz_Go.retl (by decide +kernel) rfl ⟨Nat.le_refl _, Nat.le_refl _⟩ rfl
def bX11_bottom_0 : List mz_E := [(0, .aload_n 0, 0, 0, 0, 0, 0), (1, .getfield 60, 11, 15, 574, 0, 0)]
theorem oX11_bottom_0 : bX11_bottom_0.all (mz_ok RX11 cX11_bottom 1) = true := by decide +kernel
abbrev IX11_bottom : mz_I := (yX11_bottom, cX11_bottom, 1, (some .long), 0, 0, 0, 0)
theorem kX11_bottom : mz_okm IX11_bottom 625 126 623 0 = true := by decide +kernel
theorem vX11_bottom : mz_okV IX11_bottom 623 624 = true := by decide +kernel
theorem mX11_bottom (D : mz_D) : mz_Met IX11_bottom [.inr (.inr (some (0, 0)))] D (some (.inr (.inl (D.2 0 0 15))), D) := by
  refine mz_Met.of (by decide +kernel) (Nat.le_of_ble_eq_true rfl) ?_
  show mz_Go IX11_bottom (some (.inr (.inl (D.2 0 0 15))), D) 0 0 (0, [some (.inr (.inr (some (0, 0))))], [], D)
  refine mz_Go.run (gs := [mz_kz 0 0 0]) (st' := (4, [some (.inr (.inr (some (0, 0))))], [.inr (.inl (D.2 0 0 15))], D)) bX11_bottom_0 oX11_bottom_0 rfl ⟨rfl, trivial⟩ ?_
  exact mz_Go.retl (by decide +kernel) rfl ⟨Nat.le_refl _, Nat.le_refl _⟩ rfl
def bX11_deny_0 : List mz_E := [(0, .aload_n 0, 0, 0, 0, 0, 0), (1, .iload_n 1, 0, 0, 0, 0, 0), (2, .putfield 71, 11, 13, 572, 0, 0), (5, .iconst 0, 0, 0, 0, 0, 0)]
theorem oX11_deny_0 : bX11_deny_0.all (mz_ok RX11 cX11_deny 2) = true := by decide +kernel
abbrev IX11_deny : mz_I := (yX11_deny, cX11_deny, 2, (some .boolean), 0, 0, 0, 0)
theorem kX11_deny : mz_okm IX11_deny 637 126 636 1 = true := by decide +kernel
theorem vX11_deny : mz_okV IX11_deny 636 0 = true := by decide +kernel
theorem mX11_deny (x1 : Int32) (D : mz_D) : mz_Met IX11_deny [.inr (.inr (some (0, 0))), .inl x1] D (some (.inl (0 : Int32)), (mz_wi D 0 0 13 x1)) := by
  refine mz_Met.of (by decide +kernel) (Nat.le_of_ble_eq_true rfl) ?_
  show mz_Go IX11_deny (some (.inl (0 : Int32)), (mz_wi D 0 0 13 x1)) 0 0 (0, [some (.inr (.inr (some (0, 0)))), some (.inl x1)], [], D)
  refine mz_Go.run (gs := [mz_kz 0 0 0]) (st' := (6, [some (.inr (.inr (some (0, 0)))), some (.inl x1)], [.inl (0 : Int32)], (mz_wi D 0 0 13 x1))) bX11_deny_0 oX11_deny_0 rfl ⟨rfl, trivial⟩ ?_
  exact mz_Go.retz (by decide +kernel) rfl ⟨Nat.le_refl _, Nat.le_refl _⟩ (by decide) rfl
def bX11_grant_0 : List mz_E := [(0, .aload_n 0, 0, 0, 0, 0, 0), (1, .iconst 0, 0, 0, 0, 0, 0), (2, .putfield 71, 11, 13, 572, 0, 0), (5, .iconst 1, 0, 0, 0, 1, 0)]
theorem oX11_grant_0 : bX11_grant_0.all (mz_ok RX11 cX11_grant 1) = true := by decide +kernel
abbrev IX11_grant : mz_I := (yX11_grant, cX11_grant, 1, (some .boolean), 0, 0, 0, 0)
theorem kX11_grant : mz_okm IX11_grant 645 126 644 0 = true := by decide +kernel
theorem vX11_grant : mz_okV IX11_grant 644 1 = true := by decide +kernel
theorem mX11_grant (D : mz_D) : mz_Met IX11_grant [.inr (.inr (some (0, 0)))] D (some (.inl (1 : Int32)), (mz_wi D 0 0 13 (0 : Int32))) := by
  refine mz_Met.of (by decide +kernel) (Nat.le_of_ble_eq_true rfl) ?_
  show mz_Go IX11_grant (some (.inl (1 : Int32)), (mz_wi D 0 0 13 (0 : Int32))) 0 0 (0, [some (.inr (.inr (some (0, 0))))], [], D)
  refine mz_Go.run (gs := [mz_kz 0 0 0]) (st' := (6, [some (.inr (.inr (some (0, 0))))], [.inl (1 : Int32)], (mz_wi D 0 0 13 (0 : Int32)))) bX11_grant_0 oX11_grant_0 rfl ⟨rfl, trivial⟩ ?_
  exact mz_Go.retz (by decide +kernel) rfl ⟨Nat.le_refl _, Nat.le_refl _⟩ (by decide) rfl
def bX11_tray_0 : List mz_E := [(0, .aload_n 0, 0, 0, 0, 0, 0), (1, .getfield 25, 11, 3, 562, 0, 0), (4, .iload_n 1, 0, 0, 0, 0, 0)]
theorem oX11_tray_0 : bX11_tray_0.all (mz_ok RX11 cX11_tray 4) = true := by decide +kernel
def bX11_tray_8 : List mz_E := [(8, .ifCond .eq 22, 0, 30, 0, 0, 0)]
theorem oX11_tray_8 : bX11_tray_8.all (mz_ok RX11 cX11_tray 4) = true := by decide +kernel
def bX11_tray_30 : List mz_E := [(30, .aload_n 0, 0, 0, 0, 0, 0), (31, .iconst 1, 0, 0, 0, 1, 0)]
theorem oX11_tray_30 : bX11_tray_30.all (mz_ok RX11 cX11_tray 4) = true := by decide +kernel
def bX11_tray_11 : List mz_E := [(11, .iload_n 2, 0, 0, 0, 0, 0), (12, .ifCond .lt 18, 0, 30, 0, 0, 0)]
theorem oX11_tray_11 : bX11_tray_11.all (mz_ok RX11 cX11_tray 4) = true := by decide +kernel
def bX11_tray_15 : List mz_E := [(15, .iload_n 2, 0, 0, 0, 0, 0), (16, .iconst 3, 0, 0, 0, 3, 0), (17, .if_icmp .gt 13, 0, 30, 0, 0, 0)]
theorem oX11_tray_15 : bX11_tray_15.all (mz_ok RX11 cX11_tray 4) = true := by decide +kernel
def bX11_tray_20 : List mz_E := [(20, .iload_n 3, 0, 0, 0, 0, 0), (21, .ifCond .lt 9, 0, 30, 0, 0, 0)]
theorem oX11_tray_20 : bX11_tray_20.all (mz_ok RX11 cX11_tray 4) = true := by decide +kernel
def bX11_tray_24 : List mz_E := [(24, .iload_n 3, 0, 0, 0, 0, 0), (25, .bipush 60, 0, 0, 0, 60, 0), (27, .if_icmp .le 9, 0, 36, 0, 0, 0)]
theorem oX11_tray_24 : bX11_tray_24.all (mz_ok RX11 cX11_tray 4) = true := by decide +kernel
def bX11_tray_36 : List mz_E := [(36, .aload_n 0, 0, 0, 0, 0, 0), (37, .getfield 25, 11, 3, 562, 0, 0), (40, .iload_n 1, 0, 0, 0, 0, 0), (41, .iload_n 2, 0, 0, 0, 0, 0), (42, .iload_n 3, 0, 0, 0, 0, 0)]
theorem oX11_tray_36 : bX11_tray_36.all (mz_ok RX11 cX11_tray 4) = true := by decide +kernel
def bX11_tray_46 : List mz_E := [(46, .aload_n 0, 0, 0, 0, 0, 0)]
theorem oX11_tray_46 : bX11_tray_46.all (mz_ok RX11 cX11_tray 4) = true := by decide +kernel
abbrev IX11_tray : mz_I := (yX11_tray, cX11_tray, 4, (some .boolean), 0, 1, 0, 0)
theorem kX11_tray : mz_okm IX11_tray 629 126 627 3 = true := by decide +kernel
theorem vX11_tray : mz_okV IX11_tray 627 628 = true := by decide +kernel
def fX11_tray (x1 : Int32) (x2 : Int32) (x3 : Int32) (D : mz_D) : Option (Int32 × mz_D) := (if (fX8_has x1) = 0 then (some ((0 : Int32), (mz_wi D 0 0 13 (1 : Int32)))) else (if x2 < 0 then (some ((0 : Int32), (mz_wi D 0 0 13 (1 : Int32)))) else (if (3 : Int32) < x2 then (some ((0 : Int32), (mz_wi D 0 0 13 (1 : Int32)))) else (if x3 < 0 then (some ((0 : Int32), (mz_wi D 0 0 13 (1 : Int32)))) else (if x3 ≤ (60 : Int32) then (Option.bind (fX8_lay x1 x2 x3 D) fun q6 => (some ((1 : Int32), (mz_wi q6 0 0 13 (0 : Int32))))) else (some ((0 : Int32), (mz_wi D 0 0 13 (1 : Int32)))))))))
set_option maxHeartbeats 4000000 in
theorem mX11_tray (x1 : Int32) (x2 : Int32) (x3 : Int32) (D : mz_D) (r : (Int32 × mz_D)) (h : fX11_tray x1 x2 x3 D = some r) : mz_Met IX11_tray [.inr (.inr (some (0, 0))), .inl x1, .inl x2, .inl x3] D (some (.inl r.1), r.2) := by
  refine mz_Met.of (by decide +kernel) (Nat.le_of_ble_eq_true rfl) ?_
  show mz_Go IX11_tray (some (.inl r.1), r.2) 0 0 (0, [some (.inr (.inr (some (0, 0)))), some (.inl x1), some (.inl x2), some (.inl x3)], [], D)
  rw [fX11_tray] at h
  refine mz_Go.run (gs := [mz_kz 0 0 0]) (st' := (5, [some (.inr (.inr (some (0, 0)))), some (.inl x1), some (.inl x2), some (.inl x3)], [.inl x1, .inr (.inr (some (0, 4)))], D)) bX11_tray_0 oX11_tray_0 rfl ⟨rfl, trivial⟩ ?_
  refine mz_Go.callV (I := IX11_tray) (J := IX8_has) (as := [.inl x1]) (ci := 8) (g := 0) (o := 4) (idx := 77) (pl := 630) (rest := []) (mX8_has x1 D _ rfl) kX8_has vX8_has (by decide +kernel) (by decide +kernel) (by decide +kernel) rfl rfl ⟨rfl, rfl⟩ rfl rfl rfl rfl ?_
  refine mz_Go.run (gs := []) (st' := (if (fX8_has x1) = 0 then (30, [some (.inr (.inr (some (0, 0)))), some (.inl x1), some (.inl x2), some (.inl x3)], [], D) else (11, [some (.inr (.inr (some (0, 0)))), some (.inl x1), some (.inl x2), some (.inl x3)], [], D))) bX11_tray_8 oX11_tray_8 rfl trivial ?_
  refine mz_Go.ite (fun hc1 => ?_) (fun hc1 => ?_)
  · have h := mz_ifp hc1 h
    refine mz_Go.run (gs := []) (st' := (32, [some (.inr (.inr (some (0, 0)))), some (.inl x1), some (.inl x2), some (.inl x3)], [.inl (1 : Int32), .inr (.inr (some (0, 0)))], D)) bX11_tray_30 oX11_tray_30 rfl trivial ?_
    refine mz_Go.callV (I := IX11_tray) (J := IX11_deny) (as := [.inl (1 : Int32)]) (ci := 11) (g := 0) (o := 0) (idx := 81) (pl := 634) (rest := []) (mX11_deny (1 : Int32) D) kX11_deny vX11_deny (by decide +kernel) (by decide +kernel) (by decide +kernel) rfl rfl ⟨rfl, rfl⟩ rfl rfl rfl rfl ?_
    cases h
    exact mz_Go.retz (by decide +kernel) rfl ⟨Nat.le_refl _, Nat.le_refl _⟩ (by decide) rfl
  · have h := mz_ifn hc1 h
    refine mz_Go.run (gs := []) (st' := (if x2 < 0 then (30, [some (.inr (.inr (some (0, 0)))), some (.inl x1), some (.inl x2), some (.inl x3)], [], D) else (15, [some (.inr (.inr (some (0, 0)))), some (.inl x1), some (.inl x2), some (.inl x3)], [], D))) bX11_tray_11 oX11_tray_11 rfl trivial ?_
    refine mz_Go.ite (fun hc2 => ?_) (fun hc2 => ?_)
    · have h := mz_ifp hc2 h
      refine mz_Go.run (gs := []) (st' := (32, [some (.inr (.inr (some (0, 0)))), some (.inl x1), some (.inl x2), some (.inl x3)], [.inl (1 : Int32), .inr (.inr (some (0, 0)))], D)) bX11_tray_30 oX11_tray_30 rfl trivial ?_
      refine mz_Go.callV (I := IX11_tray) (J := IX11_deny) (as := [.inl (1 : Int32)]) (ci := 11) (g := 0) (o := 0) (idx := 81) (pl := 634) (rest := []) (mX11_deny (1 : Int32) D) kX11_deny vX11_deny (by decide +kernel) (by decide +kernel) (by decide +kernel) rfl rfl ⟨rfl, rfl⟩ rfl rfl rfl rfl ?_
      cases h
      exact mz_Go.retz (by decide +kernel) rfl ⟨Nat.le_refl _, Nat.le_refl _⟩ (by decide) rfl
    · have h := mz_ifn hc2 h
      refine mz_Go.run (gs := []) (st' := (if (3 : Int32) < x2 then (30, [some (.inr (.inr (some (0, 0)))), some (.inl x1), some (.inl x2), some (.inl x3)], [], D) else (20, [some (.inr (.inr (some (0, 0)))), some (.inl x1), some (.inl x2), some (.inl x3)], [], D))) bX11_tray_15 oX11_tray_15 rfl trivial ?_
      refine mz_Go.ite (fun hc3 => ?_) (fun hc3 => ?_)
      · have h := mz_ifp hc3 h
        refine mz_Go.run (gs := []) (st' := (32, [some (.inr (.inr (some (0, 0)))), some (.inl x1), some (.inl x2), some (.inl x3)], [.inl (1 : Int32), .inr (.inr (some (0, 0)))], D)) bX11_tray_30 oX11_tray_30 rfl trivial ?_
        refine mz_Go.callV (I := IX11_tray) (J := IX11_deny) (as := [.inl (1 : Int32)]) (ci := 11) (g := 0) (o := 0) (idx := 81) (pl := 634) (rest := []) (mX11_deny (1 : Int32) D) kX11_deny vX11_deny (by decide +kernel) (by decide +kernel) (by decide +kernel) rfl rfl ⟨rfl, rfl⟩ rfl rfl rfl rfl ?_
        cases h
        exact mz_Go.retz (by decide +kernel) rfl ⟨Nat.le_refl _, Nat.le_refl _⟩ (by decide) rfl
      · have h := mz_ifn hc3 h
        refine mz_Go.run (gs := []) (st' := (if x3 < 0 then (30, [some (.inr (.inr (some (0, 0)))), some (.inl x1), some (.inl x2), some (.inl x3)], [], D) else (24, [some (.inr (.inr (some (0, 0)))), some (.inl x1), some (.inl x2), some (.inl x3)], [], D))) bX11_tray_20 oX11_tray_20 rfl trivial ?_
        refine mz_Go.ite (fun hc4 => ?_) (fun hc4 => ?_)
        · have h := mz_ifp hc4 h
          refine mz_Go.run (gs := []) (st' := (32, [some (.inr (.inr (some (0, 0)))), some (.inl x1), some (.inl x2), some (.inl x3)], [.inl (1 : Int32), .inr (.inr (some (0, 0)))], D)) bX11_tray_30 oX11_tray_30 rfl trivial ?_
          refine mz_Go.callV (I := IX11_tray) (J := IX11_deny) (as := [.inl (1 : Int32)]) (ci := 11) (g := 0) (o := 0) (idx := 81) (pl := 634) (rest := []) (mX11_deny (1 : Int32) D) kX11_deny vX11_deny (by decide +kernel) (by decide +kernel) (by decide +kernel) rfl rfl ⟨rfl, rfl⟩ rfl rfl rfl rfl ?_
          cases h
          exact mz_Go.retz (by decide +kernel) rfl ⟨Nat.le_refl _, Nat.le_refl _⟩ (by decide) rfl
        · have h := mz_ifn hc4 h
          refine mz_Go.run (gs := []) (st' := (if x3 ≤ (60 : Int32) then (36, [some (.inr (.inr (some (0, 0)))), some (.inl x1), some (.inl x2), some (.inl x3)], [], D) else (30, [some (.inr (.inr (some (0, 0)))), some (.inl x1), some (.inl x2), some (.inl x3)], [], D))) bX11_tray_24 oX11_tray_24 rfl trivial ?_
          refine mz_Go.ite (fun hc5 => ?_) (fun hc5 => ?_)
          · have h := mz_ifp hc5 h
            refine mz_Go.run (gs := [mz_kz 0 0 0]) (st' := (43, [some (.inr (.inr (some (0, 0)))), some (.inl x1), some (.inl x2), some (.inl x3)], [.inl x3, .inl x2, .inl x1, .inr (.inr (some (0, 4)))], D)) bX11_tray_36 oX11_tray_36 rfl ⟨rfl, trivial⟩ ?_
            obtain ⟨q6, hq6, h⟩ := mz_bd_some h
            refine mz_Go.callV (I := IX11_tray) (J := IX8_lay) (as := [.inl x1, .inl x2, .inl x3]) (ci := 8) (g := 0) (o := 4) (idx := 84) (pl := 638) (rest := []) (mX8_lay x1 x2 x3 D q6 hq6) kX8_lay vX8_lay (by decide +kernel) (by decide +kernel) (by decide +kernel) rfl rfl ⟨rfl, rfl⟩ rfl rfl rfl rfl ?_
            refine mz_Go.run (gs := []) (st' := (47, [some (.inr (.inr (some (0, 0)))), some (.inl x1), some (.inl x2), some (.inl x3)], [.inr (.inr (some (0, 0)))], q6)) bX11_tray_46 oX11_tray_46 rfl trivial ?_
            refine mz_Go.callV (I := IX11_tray) (J := IX11_grant) (as := []) (ci := 11) (g := 0) (o := 0) (idx := 88) (pl := 642) (rest := []) (mX11_grant q6) kX11_grant vX11_grant (by decide +kernel) (by decide +kernel) (by decide +kernel) rfl rfl ⟨rfl, rfl⟩ rfl rfl rfl rfl ?_
            cases h
            exact mz_Go.retz (by decide +kernel) rfl ⟨Nat.le_refl _, Nat.le_refl _⟩ (by decide) rfl
          · have h := mz_ifn hc5 h
            refine mz_Go.run (gs := []) (st' := (32, [some (.inr (.inr (some (0, 0)))), some (.inl x1), some (.inl x2), some (.inl x3)], [.inl (1 : Int32), .inr (.inr (some (0, 0)))], D)) bX11_tray_30 oX11_tray_30 rfl trivial ?_
            refine mz_Go.callV (I := IX11_tray) (J := IX11_deny) (as := [.inl (1 : Int32)]) (ci := 11) (g := 0) (o := 0) (idx := 81) (pl := 634) (rest := []) (mX11_deny (1 : Int32) D) kX11_deny vX11_deny (by decide +kernel) (by decide +kernel) (by decide +kernel) rfl rfl ⟨rfl, rfl⟩ rfl rfl rfl rfl ?_
            cases h
            exact mz_Go.retz (by decide +kernel) rfl ⟨Nat.le_refl _, Nat.le_refl _⟩ (by decide) rfl
def bX11_placeTrouble_0 : List mz_E := [(0, .aload_n 0, 0, 0, 0, 0, 0), (1, .getfield 25, 11, 3, 562, 0, 0), (4, .iload_n 1, 0, 0, 0, 0, 0)]
theorem oX11_placeTrouble_0 : bX11_placeTrouble_0.all (mz_ok RX11 cX11_placeTrouble 3) = true := by decide +kernel
def bX11_placeTrouble_8 : List mz_E := [(8, .ifCond .ne 5, 0, 13, 0, 0, 0)]
theorem oX11_placeTrouble_8 : bX11_placeTrouble_8.all (mz_ok RX11 cX11_placeTrouble 3) = true := by decide +kernel
def bX11_placeTrouble_11 : List mz_E := [(11, .iconst 1, 0, 0, 0, 1, 0)]
theorem oX11_placeTrouble_11 : bX11_placeTrouble_11.all (mz_ok RX11 cX11_placeTrouble 3) = true := by decide +kernel
def bX11_placeTrouble_13 : List mz_E := [(13, .aload_n 0, 0, 0, 0, 0, 0), (14, .getfield 25, 11, 3, 562, 0, 0), (17, .iload_n 1, 0, 0, 0, 0, 0)]
theorem oX11_placeTrouble_13 : bX11_placeTrouble_13.all (mz_ok RX11 cX11_placeTrouble 3) = true := by decide +kernel
def bX11_placeTrouble_21 : List mz_E := [(21, .ifCond .eq 5, 0, 26, 0, 0, 0)]
theorem oX11_placeTrouble_21 : bX11_placeTrouble_21.all (mz_ok RX11 cX11_placeTrouble 3) = true := by decide +kernel
def bX11_placeTrouble_26 : List mz_E := [(26, .iload_n 2, 0, 0, 0, 0, 0), (27, .ifCond .lt 20, 0, 47, 0, 0, 0)]
theorem oX11_placeTrouble_26 : bX11_placeTrouble_26.all (mz_ok RX11 cX11_placeTrouble 3) = true := by decide +kernel
def bX11_placeTrouble_47 : List mz_E := [(47, .iconst 3, 0, 0, 0, 3, 0)]
theorem oX11_placeTrouble_47 : bX11_placeTrouble_47.all (mz_ok RX11 cX11_placeTrouble 3) = true := by decide +kernel
def bX11_placeTrouble_30 : List mz_E := [(30, .aload_n 0, 0, 0, 0, 0, 0), (31, .getfield 25, 11, 3, 562, 0, 0), (34, .iload_n 1, 0, 0, 0, 0, 0), (35, .iload_n 2, 0, 0, 0, 0, 0), (36, .iconst 1, 0, 0, 0, 1, 0)]
theorem oX11_placeTrouble_30 : bX11_placeTrouble_30.all (mz_ok RX11 cX11_placeTrouble 3) = true := by decide +kernel
def bX11_placeTrouble_40 : List mz_E := [(40, .ifCond .eq 7, 0, 47, 0, 0, 0)]
theorem oX11_placeTrouble_40 : bX11_placeTrouble_40.all (mz_ok RX11 cX11_placeTrouble 3) = true := by decide +kernel
def bX11_placeTrouble_43 : List mz_E := [(43, .iconst 0, 0, 0, 0, 0, 0), (44, .goto 4, 0, 48, 0, 0, 0)]
theorem oX11_placeTrouble_43 : bX11_placeTrouble_43.all (mz_ok RX11 cX11_placeTrouble 3) = true := by decide +kernel
def bX11_placeTrouble_24 : List mz_E := [(24, .iconst 2, 0, 0, 0, 2, 0)]
theorem oX11_placeTrouble_24 : bX11_placeTrouble_24.all (mz_ok RX11 cX11_placeTrouble 3) = true := by decide +kernel
abbrev IX11_placeTrouble : mz_I := (yX11_placeTrouble, cX11_placeTrouble, 3, (some .int), 0, 1, 0, 0)
theorem kX11_placeTrouble : mz_okm IX11_placeTrouble 653 126 652 2 = true := by decide +kernel
theorem vX11_placeTrouble : mz_okV IX11_placeTrouble 652 2 = true := by decide +kernel
def fX11_placeTrouble (x1 : Int32) (x2 : Int32) (D : mz_D) : Option Int32 := (if (fX8_has x1) = 0 then (some (1 : Int32)) else (Option.bind (fX8_isMissing x1 D) fun q2 => (if q2 = 0 then (if x2 < 0 then (some (3 : Int32)) else (Option.bind (fX8_holds x1 x2 (1 : Int32) D) fun q5 => (if q5 = 0 then (some (3 : Int32)) else (some (0 : Int32))))) else (some (2 : Int32)))))
set_option maxHeartbeats 4000000 in
theorem mX11_placeTrouble (x1 : Int32) (x2 : Int32) (D : mz_D) (r : Int32) (h : fX11_placeTrouble x1 x2 D = some r) : mz_Met IX11_placeTrouble [.inr (.inr (some (0, 0))), .inl x1, .inl x2] D (some (.inl r), D) := by
  refine mz_Met.of (by decide +kernel) (Nat.le_of_ble_eq_true rfl) ?_
  show mz_Go IX11_placeTrouble (some (.inl r), D) 0 0 (0, [some (.inr (.inr (some (0, 0)))), some (.inl x1), some (.inl x2)], [], D)
  rw [fX11_placeTrouble] at h
  refine mz_Go.run (gs := [mz_kz 0 0 0]) (st' := (5, [some (.inr (.inr (some (0, 0)))), some (.inl x1), some (.inl x2)], [.inl x1, .inr (.inr (some (0, 4)))], D)) bX11_placeTrouble_0 oX11_placeTrouble_0 rfl ⟨rfl, trivial⟩ ?_
  refine mz_Go.callV (I := IX11_placeTrouble) (J := IX8_has) (as := [.inl x1]) (ci := 8) (g := 0) (o := 4) (idx := 77) (pl := 630) (rest := []) (mX8_has x1 D _ rfl) kX8_has vX8_has (by decide +kernel) (by decide +kernel) (by decide +kernel) rfl rfl ⟨rfl, rfl⟩ rfl rfl rfl rfl ?_
  refine mz_Go.run (gs := []) (st' := (if (fX8_has x1) = 0 then (11, [some (.inr (.inr (some (0, 0)))), some (.inl x1), some (.inl x2)], [], D) else (13, [some (.inr (.inr (some (0, 0)))), some (.inl x1), some (.inl x2)], [], D))) bX11_placeTrouble_8 oX11_placeTrouble_8 rfl trivial ?_
  refine mz_Go.ite (fun hc1 => ?_) (fun hc1 => ?_)
  · have h := mz_ifp hc1 h
    refine mz_Go.run (gs := []) (st' := (12, [some (.inr (.inr (some (0, 0)))), some (.inl x1), some (.inl x2)], [.inl (1 : Int32)], D)) bX11_placeTrouble_11 oX11_placeTrouble_11 rfl trivial ?_
    cases h
    exact mz_Go.reti (by decide +kernel) rfl ⟨Nat.le_refl _, Nat.le_refl _⟩ rfl
  · have h := mz_ifn hc1 h
    refine mz_Go.run (gs := [mz_kz 0 0 0]) (st' := (18, [some (.inr (.inr (some (0, 0)))), some (.inl x1), some (.inl x2)], [.inl x1, .inr (.inr (some (0, 4)))], D)) bX11_placeTrouble_13 oX11_placeTrouble_13 rfl ⟨rfl, trivial⟩ ?_
    obtain ⟨q2, hq2, h⟩ := mz_bd_some h
    refine mz_Go.callV (I := IX11_placeTrouble) (J := IX8_isMissing) (as := [.inl x1]) (ci := 8) (g := 0) (o := 4) (idx := 108) (pl := 654) (rest := []) (mX8_isMissing x1 D q2 hq2) kX8_isMissing vX8_isMissing (by decide +kernel) (by decide +kernel) (by decide +kernel) rfl rfl ⟨rfl, rfl⟩ rfl rfl rfl rfl ?_
    refine mz_Go.run (gs := []) (st' := (if q2 = 0 then (26, [some (.inr (.inr (some (0, 0)))), some (.inl x1), some (.inl x2)], [], D) else (24, [some (.inr (.inr (some (0, 0)))), some (.inl x1), some (.inl x2)], [], D))) bX11_placeTrouble_21 oX11_placeTrouble_21 rfl trivial ?_
    refine mz_Go.ite (fun hc3 => ?_) (fun hc3 => ?_)
    · have h := mz_ifp hc3 h
      refine mz_Go.run (gs := []) (st' := (if x2 < 0 then (47, [some (.inr (.inr (some (0, 0)))), some (.inl x1), some (.inl x2)], [], D) else (30, [some (.inr (.inr (some (0, 0)))), some (.inl x1), some (.inl x2)], [], D))) bX11_placeTrouble_26 oX11_placeTrouble_26 rfl trivial ?_
      refine mz_Go.ite (fun hc4 => ?_) (fun hc4 => ?_)
      · have h := mz_ifp hc4 h
        refine mz_Go.run (gs := []) (st' := (48, [some (.inr (.inr (some (0, 0)))), some (.inl x1), some (.inl x2)], [.inl (3 : Int32)], D)) bX11_placeTrouble_47 oX11_placeTrouble_47 rfl trivial ?_
        cases h
        exact mz_Go.reti (by decide +kernel) rfl ⟨Nat.le_refl _, Nat.le_refl _⟩ rfl
      · have h := mz_ifn hc4 h
        refine mz_Go.run (gs := [mz_kz 0 0 0]) (st' := (37, [some (.inr (.inr (some (0, 0)))), some (.inl x1), some (.inl x2)], [.inl (1 : Int32), .inl x2, .inl x1, .inr (.inr (some (0, 4)))], D)) bX11_placeTrouble_30 oX11_placeTrouble_30 rfl ⟨rfl, trivial⟩ ?_
        obtain ⟨q5, hq5, h⟩ := mz_bd_some h
        refine mz_Go.callV (I := IX11_placeTrouble) (J := IX8_holds) (as := [.inl x1, .inl x2, .inl (1 : Int32)]) (ci := 8) (g := 0) (o := 4) (idx := 114) (pl := 658) (rest := []) (mX8_holds x1 x2 (1 : Int32) D q5 hq5) kX8_holds vX8_holds (by decide +kernel) (by decide +kernel) (by decide +kernel) rfl rfl ⟨rfl, rfl⟩ rfl rfl rfl rfl ?_
        refine mz_Go.run (gs := []) (st' := (if q5 = 0 then (47, [some (.inr (.inr (some (0, 0)))), some (.inl x1), some (.inl x2)], [], D) else (43, [some (.inr (.inr (some (0, 0)))), some (.inl x1), some (.inl x2)], [], D))) bX11_placeTrouble_40 oX11_placeTrouble_40 rfl trivial ?_
        refine mz_Go.ite (fun hc6 => ?_) (fun hc6 => ?_)
        · have h := mz_ifp hc6 h
          refine mz_Go.run (gs := []) (st' := (48, [some (.inr (.inr (some (0, 0)))), some (.inl x1), some (.inl x2)], [.inl (3 : Int32)], D)) bX11_placeTrouble_47 oX11_placeTrouble_47 rfl trivial ?_
          cases h
          exact mz_Go.reti (by decide +kernel) rfl ⟨Nat.le_refl _, Nat.le_refl _⟩ rfl
        · have h := mz_ifn hc6 h
          refine mz_Go.run (gs := []) (st' := (48, [some (.inr (.inr (some (0, 0)))), some (.inl x1), some (.inl x2)], [.inl (0 : Int32)], D)) bX11_placeTrouble_43 oX11_placeTrouble_43 rfl trivial ?_
          cases h
          exact mz_Go.reti (by decide +kernel) rfl ⟨Nat.le_refl _, Nat.le_refl _⟩ rfl
    · have h := mz_ifn hc3 h
      refine mz_Go.run (gs := []) (st' := (25, [some (.inr (.inr (some (0, 0)))), some (.inl x1), some (.inl x2)], [.inl (2 : Int32)], D)) bX11_placeTrouble_24 oX11_placeTrouble_24 rfl trivial ?_
      cases h
      exact mz_Go.reti (by decide +kernel) rfl ⟨Nat.le_refl _, Nat.le_refl _⟩ rfl
