/-! ===== Bill.search: one level a dish ===== -/
abbrev Isr (n : Nat) : mz_I := (yX1_search, cX1_search, 4, none, 0, n + 2, 0, 0)
theorem ksr0 : mz_okm (Isr 0) 1155 136 1154 4 = true := by decide +kernel
theorem vsr0 : mz_okS (Isr 0) 1154 = true := by decide +kernel
theorem ksr (n : Nat) : mz_okm (Isr n) 1155 136 1154 4 = true := ksr0
theorem vsr (n : Nat) : mz_okS (Isr n) 1154 = true := vsr0
theorem lsr0 : mz_okL (Isr 0) (Isr 0) 83 1153 = true := by decide +kernel
theorem lsr (n k : Nat) : mz_okL (Isr n) (Isr k) 83 1153 = true := lsr0
theorem lsc0 : mz_okL (Isr 0) IX1_countSet 87 1156 = true := by decide +kernel
theorem lsc (n : Nat) : mz_okL (Isr n) IX1_countSet 87 1156 = true := lsc0
theorem rsr (n : Nat) : mz_okR (Isr (n + 1)) (Isr n) = true := by
  simp only [mz_okR, Bool.and_eq_true, Bool.or_eq_true]
  exact ⟨⟨Nat.ble_eq_true_of_le (by omega), Nat.ble_eq_true_of_le (by omega)⟩, Or.inl (Or.inl ⟨rfl, rfl⟩)⟩
theorem rsc (n : Nat) : mz_okR (Isr n) IX1_countSet = true := by
  simp only [mz_okR, Bool.and_eq_true, Bool.or_eq_true]
  exact ⟨⟨Nat.ble_eq_true_of_le (by omega), Nat.ble_eq_true_of_le (by omega)⟩, Or.inl (Or.inl ⟨rfl, rfl⟩)⟩
def fX1_sr : Nat → Nat → Int32 → Int32 → Int32 → mz_D → Option mz_D
  | 0 => fun _ _ _ _ _ => none
  | n + 1 => fun g x1 x2 x3 D => (if x2 = 0 then (Option.bind (fX1_countSet g x3 D) fun q => some q) else (if (D.1 g 109 0) ≤ x1 then some D else (if x2 ≤ 0 then some D else (mz_gd (mz_ix x1 17) (if (D.1 g 112 x1.toNatClampNeg) < x2 then some D else (mz_gd (mz_ix x1 16) (Option.bind (fX1_sr n g (x1 + (1 : Int32)) (x2 - (D.1 g 110 x1.toNatClampNeg)) (x3 ||| ((1 : Int32) <<< (x1 &&& 31))) D) fun q => Option.bind (fX1_sr n g (x1 + (1 : Int32)) x2 x3 q) fun q2 => some q2)))))))
set_option maxHeartbeats 4000000 in
theorem mX1_sr : ∀ (n g : Nat) (x1 x2 x3 : Int32) (D : mz_D) (hg0 : mz_tb g = true) (r : mz_D), fX1_sr n g x1 x2 x3 D = some r → mz_Met (Isr n) [.inr (.inr (some (g, 109))), .inl x1, .inl x2, .inl x3] D (none, r) := by
  intro n
  induction n with
  | zero =>
    intro g x1 x2 x3 D hg0 r h
    have h : (none : Option mz_D) = some r := h
    cases h
  | succ n ih =>
    intro g x1 x2 x3 D hg0 r h
    refine mz_Met.of (show plainFor yX1_search = true by decide +kernel) (Nat.le_of_ble_eq_true rfl) ?_
    show mz_Go (Isr (n + 1)) (none, r) 0 0 (0, [some (.inr (.inr (some (g, 109)))), some (.inl x1), some (.inl x2), some (.inl x3)], [], D)
    rw [fX1_sr] at h
    refine mz_Go.run (gs := []) (st' := (if x2 = 0 then (4, [some (.inr (.inr (some (g, 109)))), some (.inl x1), some (.inl x2), some (.inl x3)], [], D) else (12, [some (.inr (.inr (some (g, 109)))), some (.inl x1), some (.inl x2), some (.inl x3)], [], D))) [(0, .iload_n 2, 0, 0, 0, 0, 0), (1, .ifCond .ne 11, 0, 12, 0, 0, 0)] (show List.all _ (mz_ok RX1 cX1_search 4) = true by decide +kernel) rfl trivial ?_
    refine mz_Go.ite (fun hc => ?_) (fun hc => ?_)
    · have h := mz_ifp hc h
      refine mz_Go.run (gs := []) (st' := (6, [some (.inr (.inr (some (g, 109)))), some (.inl x1), some (.inl x2), some (.inl x3)], [.inl x3, .inr (.inr (some (g, 109)))], D)) [(4, .aload_n 0, 0, 0, 0, 0, 0), (5, .iload_n 3, 0, 0, 0, 0, 0)] (show List.all _ (mz_ok RX1 cX1_search 4) = true by decide +kernel) rfl trivial ?_
      obtain ⟨q, hq, h⟩ := mz_bd_some h
      refine mz_Go.callV (I := Isr (n + 1)) (J := IX1_countSet) (as := [.inl x3]) (ci := 1) (g := g) (o := 109) (idx := 87) (pl := 1156) (rest := []) (mX1_countSet g x3 D hg0 q hq) kX1_countSet vX1_countSet (lsc _) (rsc _) (show decode cX1_search 6 = .ok (.invokevirtual 87, 3) by decide +kernel) rfl rfl ⟨rfl, rfl⟩ rfl rfl hg0 rfl ?_
      refine mz_Go.run (gs := []) (st' := (63, [some (.inr (.inr (some (g, 109)))), some (.inl x1), some (.inl x2), some (.inl x3)], [], q)) [(9, .goto 54, 0, 63, 0, 0, 0)] (show List.all _ (mz_ok RX1 cX1_search 4) = true by decide +kernel) rfl trivial ?_
      cases h
      exact mz_Go.retv (show decode cX1_search 63 = .ok (.return_, 1) by decide +kernel) rfl ⟨Nat.le_refl _, Nat.le_refl _⟩ rfl
    · have h := mz_ifn hc h
      refine mz_Go.run (gs := [mz_kz 0 g 109]) (st' := (if (D.1 g 109 0) ≤ x1 then (63, [some (.inr (.inr (some (g, 109)))), some (.inl x1), some (.inl x2), some (.inl x3)], [], D) else (20, [some (.inr (.inr (some (g, 109)))), some (.inl x1), some (.inl x2), some (.inl x3)], [], D))) [(12, .iload_n 1, 0, 0, 0, 0, 0), (13, .aload_n 0, 0, 0, 0, 0, 0), (14, .getfield 21, 1, 0, 350, 0, 0), (17, .if_icmp .ge 46, 0, 63, 0, 0, 0)] (show List.all _ (mz_ok RX1 cX1_search 4) = true by decide +kernel) rfl ⟨hg0, trivial⟩ ?_
      refine mz_Go.ite (fun hc => ?_) (fun hc => ?_)
      · have h := mz_ifp hc h
        cases h
        exact mz_Go.retv (show decode cX1_search 63 = .ok (.return_, 1) by decide +kernel) rfl ⟨Nat.le_refl _, Nat.le_refl _⟩ rfl
      · have h := mz_ifn hc h
        refine mz_Go.run (gs := []) (st' := (if x2 ≤ 0 then (63, [some (.inr (.inr (some (g, 109)))), some (.inl x1), some (.inl x2), some (.inl x3)], [], D) else (24, [some (.inr (.inr (some (g, 109)))), some (.inl x1), some (.inl x2), some (.inl x3)], [], D))) [(20, .iload_n 2, 0, 0, 0, 0, 0), (21, .ifCond .le 42, 0, 63, 0, 0, 0)] (show List.all _ (mz_ok RX1 cX1_search 4) = true by decide +kernel) rfl trivial ?_
        refine mz_Go.ite (fun hc => ?_) (fun hc => ?_)
        · have h := mz_ifp hc h
          cases h
          exact mz_Go.retv (show decode cX1_search 63 = .ok (.return_, 1) by decide +kernel) rfl ⟨Nat.le_refl _, Nat.le_refl _⟩ rfl
        · have h := mz_ifn hc h
          obtain ⟨hb1, h⟩ := mz_gd_some h
          refine mz_Go.run (gs := [mz_kz 0 g 109, mz_kz 0 g 112, mz_ix x1 17]) (st' := (if (D.1 g 112 x1.toNatClampNeg) < x2 then (63, [some (.inr (.inr (some (g, 109)))), some (.inl x1), some (.inl x2), some (.inl x3)], [], D) else (34, [some (.inr (.inr (some (g, 109)))), some (.inl x1), some (.inl x2), some (.inl x3)], [], D))) [(24, .iload_n 2, 0, 0, 0, 0, 0), (25, .aload_n 0, 0, 0, 0, 0, 0), (26, .getfield 18, 1, 7, 367, 0, 0), (29, .iload_n 1, 0, 0, 0, 0, 0), (30, .iaload, 0, 0, 0, 0, 0), (31, .if_icmp .gt 32, 0, 63, 0, 0, 0)] (show List.all _ (mz_ok RX1 cX1_search 4) = true by decide +kernel) rfl ⟨hg0, hg0, hb1, trivial⟩ ?_
          refine mz_Go.ite (fun hc => ?_) (fun hc => ?_)
          · have h := mz_ifp hc h
            cases h
            exact mz_Go.retv (show decode cX1_search 63 = .ok (.return_, 1) by decide +kernel) rfl ⟨Nat.le_refl _, Nat.le_refl _⟩ rfl
          · have h := mz_ifn hc h
            obtain ⟨hb2, h⟩ := mz_gd_some h
            refine mz_Go.run (gs := [mz_kz 0 g 109, mz_kz 0 g 110, mz_ix x1 16]) (st' := (51, [some (.inr (.inr (some (g, 109)))), some (.inl x1), some (.inl x2), some (.inl x3)], [.inl (x3 ||| ((1 : Int32) <<< (x1 &&& 31))), .inl (x2 - (D.1 g 110 x1.toNatClampNeg)), .inl (x1 + (1 : Int32)), .inr (.inr (some (g, 109)))], D)) [(34, .aload_n 0, 0, 0, 0, 0, 0), (35, .iload_n 1, 0, 0, 0, 0, 0), (36, .iconst 1, 0, 0, 0, 1, 0), (37, .iadd, 0, 0, 0, 0, 0), (38, .iload_n 2, 0, 0, 0, 0, 0), (39, .aload_n 0, 0, 0, 0, 0, 0), (40, .getfield 9, 1, 2, 357, 0, 0), (43, .iload_n 1, 0, 0, 0, 0, 0), (44, .iaload, 0, 0, 0, 0, 0), (45, .isub, 0, 0, 0, 0, 0), (46, .iload_n 3, 0, 0, 0, 0, 0), (47, .iconst 1, 0, 0, 0, 1, 0), (48, .iload_n 1, 0, 0, 0, 0, 0), (49, .ishl, 0, 0, 0, 0, 0), (50, .ior, 0, 0, 0, 0, 0)] (show List.all _ (mz_ok RX1 cX1_search 4) = true by decide +kernel) rfl ⟨hg0, hg0, hb2, trivial⟩ ?_
            obtain ⟨q, hq, h⟩ := mz_bd_some h
            refine mz_Go.callS (I := Isr (n + 1)) (J := Isr n) (as := [.inr (.inr (some (g, 109))), .inl (x1 + (1 : Int32)), .inl (x2 - (D.1 g 110 x1.toNatClampNeg)), .inl (x3 ||| ((1 : Int32) <<< (x1 &&& 31)))]) (idx := 83) (pl := 1153) (rest := []) (ih g _ _ _ D hg0 q hq) (ksr n) (vsr n) (lsr _ _) (rsr n) (show decode cX1_search 51 = .ok (.invokestatic 83, 3) by decide +kernel) rfl rfl ⟨rfl, rfl⟩ rfl ?_
            refine mz_Go.run (gs := []) (st' := (60, [some (.inr (.inr (some (g, 109)))), some (.inl x1), some (.inl x2), some (.inl x3)], [.inl x3, .inl x2, .inl (x1 + (1 : Int32)), .inr (.inr (some (g, 109)))], q)) [(54, .aload_n 0, 0, 0, 0, 0, 0), (55, .iload_n 1, 0, 0, 0, 0, 0), (56, .iconst 1, 0, 0, 0, 1, 0), (57, .iadd, 0, 0, 0, 0, 0), (58, .iload_n 2, 0, 0, 0, 0, 0), (59, .iload_n 3, 0, 0, 0, 0, 0)] (show List.all _ (mz_ok RX1 cX1_search 4) = true by decide +kernel) rfl trivial ?_
            obtain ⟨q2, hq2, h⟩ := mz_bd_some h
            refine mz_Go.callS (I := Isr (n + 1)) (J := Isr n) (as := [.inr (.inr (some (g, 109))), .inl (x1 + (1 : Int32)), .inl x2, .inl x3]) (idx := 83) (pl := 1153) (rest := []) (ih g _ _ _ q hg0 q2 hq2) (ksr n) (vsr n) (lsr _ _) (rsr n) (show decode cX1_search 60 = .ok (.invokestatic 83, 3) by decide +kernel) rfl rfl ⟨rfl, rfl⟩ rfl ?_
            cases h
            exact mz_Go.retv (show decode cX1_search 63 = .ok (.return_, 1) by decide +kernel) rfl ⟨Nat.le_refl _, Nat.le_refl _⟩ rfl
abbrev IX1_search : mz_I := Isr 18
theorem kX1_search : mz_okm IX1_search 1155 136 1154 4 = true := ksr 18
theorem vX1_search : mz_okS IX1_search 1154 = true := vsr 18
def fX1_search (g0 : Nat) (x1 : Int32) (x2 : Int32) (x3 : Int32) (D : mz_D) : Option mz_D := fX1_sr 18 g0 x1 x2 x3 D
theorem mX1_search (g0 : Nat) (x1 : Int32) (x2 : Int32) (x3 : Int32) (D : mz_D) (hg0 : mz_tb g0 = true) (r : mz_D) (h : fX1_search g0 x1 x2 x3 D = some r) : mz_Met IX1_search [.inr (.inr (some (g0, 109))), .inl x1, .inl x2, .inl x3] D (none, r) := mX1_sr 18 g0 x1 x2 x3 D hg0 r h
