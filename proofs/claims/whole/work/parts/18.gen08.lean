def bX11_ends_0 : List mz_E := [(0, .aload_n 0, 0, 0, 0, 0, 0), (1, .iload_n 1, 0, 0, 0, 0, 0), (2, .iload_n 2, 0, 0, 0, 0, 0)]
theorem oX11_ends_0 : bX11_ends_0.all (mz_ok RX11 cX11_ends 5) = true := by decide +kernel
def bX11_ends_6 : List mz_E := [(6, .ifCond .eq 12, 0, 18, 0, 0, 0)]
theorem oX11_ends_6 : bX11_ends_6.all (mz_ok RX11 cX11_ends 5) = true := by decide +kernel
def bX11_ends_18 : List mz_E := [(18, .aload_n 0, 0, 0, 0, 0, 0), (19, .iconst 1, 0, 0, 0, 1, 0)]
theorem oX11_ends_18 : bX11_ends_18.all (mz_ok RX11 cX11_ends 5) = true := by decide +kernel
def bX11_ends_9 : List mz_E := [(9, .iload_n 3, 0, 0, 0, 0, 0), (10, .iload 4, 0, 0, 0, 0, 0)]
theorem oX11_ends_9 : bX11_ends_9.all (mz_ok RX11 cX11_ends 5) = true := by decide +kernel
def bX11_ends_15 : List mz_E := [(15, .ifCond .ne 9, 0, 24, 0, 0, 0)]
theorem oX11_ends_15 : bX11_ends_15.all (mz_ok RX11 cX11_ends 5) = true := by decide +kernel
def bX11_ends_24 : List mz_E := [(24, .aload_n 0, 0, 0, 0, 0, 0), (25, .aload_n 0, 0, 0, 0, 0, 0), (26, .iload_n 1, 0, 0, 0, 0, 0), (27, .iload_n 2, 0, 0, 0, 0, 0), (28, .iload_n 3, 0, 0, 0, 0, 0), (29, .iload 4, 0, 0, 0, 0, 0)]
theorem oX11_ends_24 : bX11_ends_24.all (mz_ok RX11 cX11_ends 5) = true := by decide +kernel
abbrev IX11_ends : mz_I := (yX11_ends, cX11_ends, 5, (some .int), 0, 2, 0, 0)
theorem kX11_ends : mz_okm IX11_ends 1442 126 1440 4 = true := by decide +kernel
theorem vX11_ends : mz_okV IX11_ends 1440 1441 = true := by decide +kernel
def fX11_ends (x1 : Int32) (x2 : Int32) (x3 : Int32) (x4 : Int32) (D : mz_D) : Option (Int32 × mz_D) := (if (fX11_areTwo x1 x2 D) = 0 then (some ((-1 : Int32), (mz_wi D 0 0 13 (1 : Int32)))) else (if (fX11_isGiftRow x3 x4) = 0 then (some ((-1 : Int32), (mz_wi D 0 0 13 (1 : Int32)))) else (Option.bind (fX11_giftsUntilEnd x1 x2 x3 x4 D) fun q3 => (some (q3, (mz_wi D 0 0 13 (0 : Int32)))))))
set_option maxHeartbeats 4000000 in
theorem mX11_ends (x1 : Int32) (x2 : Int32) (x3 : Int32) (x4 : Int32) (D : mz_D) (r : (Int32 × mz_D)) (h : fX11_ends x1 x2 x3 x4 D = some r) : mz_Met IX11_ends [.inr (.inr (some (0, 0))), .inl x1, .inl x2, .inl x3, .inl x4] D (some (.inl r.1), r.2) := by
  refine mz_Met.of (by decide +kernel) (Nat.le_of_ble_eq_true rfl) ?_
  show mz_Go IX11_ends (some (.inl r.1), r.2) 0 0 (0, [some (.inr (.inr (some (0, 0)))), some (.inl x1), some (.inl x2), some (.inl x3), some (.inl x4)], [], D)
  rw [fX11_ends] at h
  refine mz_Go.run (gs := []) (st' := (3, [some (.inr (.inr (some (0, 0)))), some (.inl x1), some (.inl x2), some (.inl x3), some (.inl x4)], [.inl x2, .inl x1, .inr (.inr (some (0, 0)))], D)) bX11_ends_0 oX11_ends_0 rfl trivial ?_
  refine mz_Go.callV (I := IX11_ends) (J := IX11_areTwo) (as := [.inl x1, .inl x2]) (ci := 11) (g := 0) (o := 0) (idx := 320) (pl := 1218) (rest := []) (mX11_areTwo x1 x2 D _ rfl) kX11_areTwo vX11_areTwo (by decide +kernel) (by decide +kernel) (by decide +kernel) rfl rfl ⟨rfl, rfl⟩ rfl rfl rfl rfl ?_
  refine mz_Go.run (gs := []) (st' := (if (fX11_areTwo x1 x2 D) = 0 then (18, [some (.inr (.inr (some (0, 0)))), some (.inl x1), some (.inl x2), some (.inl x3), some (.inl x4)], [], D) else (9, [some (.inr (.inr (some (0, 0)))), some (.inl x1), some (.inl x2), some (.inl x3), some (.inl x4)], [], D))) bX11_ends_6 oX11_ends_6 rfl trivial ?_
  refine mz_Go.ite (fun hc1 => ?_) (fun hc1 => ?_)
  · have h := mz_ifp hc1 h
    refine mz_Go.run (gs := []) (st' := (20, [some (.inr (.inr (some (0, 0)))), some (.inl x1), some (.inl x2), some (.inl x3), some (.inl x4)], [.inl (1 : Int32), .inr (.inr (some (0, 0)))], D)) bX11_ends_18 oX11_ends_18 rfl trivial ?_
    refine mz_Go.callV (I := IX11_ends) (J := IX11_refuse) (as := [.inl (1 : Int32)]) (ci := 11) (g := 0) (o := 0) (idx := 100) (pl := 673) (rest := []) (mX11_refuse (1 : Int32) D) kX11_refuse vX11_refuse (by decide +kernel) (by decide +kernel) (by decide +kernel) rfl rfl ⟨rfl, rfl⟩ rfl rfl rfl rfl ?_
    cases h
    exact mz_Go.reti (by decide +kernel) rfl ⟨Nat.le_refl _, Nat.le_refl _⟩ rfl
  · have h := mz_ifn hc1 h
    refine mz_Go.run (gs := []) (st' := (12, [some (.inr (.inr (some (0, 0)))), some (.inl x1), some (.inl x2), some (.inl x3), some (.inl x4)], [.inl x4, .inl x3], D)) bX11_ends_9 oX11_ends_9 rfl trivial ?_
    refine mz_Go.callS (I := IX11_ends) (J := IX11_isGiftRow) (as := [.inl x3, .inl x4]) (idx := 418) (pl := 1432) (rest := []) (mX11_isGiftRow x3 x4 D _ rfl) kX11_isGiftRow vX11_isGiftRow (by decide +kernel) (by decide +kernel) (by decide +kernel) rfl rfl ⟨rfl, rfl⟩ rfl ?_
    refine mz_Go.run (gs := []) (st' := (if (fX11_isGiftRow x3 x4) = 0 then (18, [some (.inr (.inr (some (0, 0)))), some (.inl x1), some (.inl x2), some (.inl x3), some (.inl x4)], [], D) else (24, [some (.inr (.inr (some (0, 0)))), some (.inl x1), some (.inl x2), some (.inl x3), some (.inl x4)], [], D))) bX11_ends_15 oX11_ends_15 rfl trivial ?_
    refine mz_Go.ite (fun hc2 => ?_) (fun hc2 => ?_)
    · have h := mz_ifp hc2 h
      refine mz_Go.run (gs := []) (st' := (20, [some (.inr (.inr (some (0, 0)))), some (.inl x1), some (.inl x2), some (.inl x3), some (.inl x4)], [.inl (1 : Int32), .inr (.inr (some (0, 0)))], D)) bX11_ends_18 oX11_ends_18 rfl trivial ?_
      refine mz_Go.callV (I := IX11_ends) (J := IX11_refuse) (as := [.inl (1 : Int32)]) (ci := 11) (g := 0) (o := 0) (idx := 100) (pl := 673) (rest := []) (mX11_refuse (1 : Int32) D) kX11_refuse vX11_refuse (by decide +kernel) (by decide +kernel) (by decide +kernel) rfl rfl ⟨rfl, rfl⟩ rfl rfl rfl rfl ?_
      cases h
      exact mz_Go.reti (by decide +kernel) rfl ⟨Nat.le_refl _, Nat.le_refl _⟩ rfl
    · have h := mz_ifn hc2 h
      refine mz_Go.run (gs := []) (st' := (31, [some (.inr (.inr (some (0, 0)))), some (.inl x1), some (.inl x2), some (.inl x3), some (.inl x4)], [.inl x4, .inl x3, .inl x2, .inl x1, .inr (.inr (some (0, 0))), .inr (.inr (some (0, 0)))], D)) bX11_ends_24 oX11_ends_24 rfl trivial ?_
      obtain ⟨q3, hq3, h⟩ := mz_bd_some h
      refine mz_Go.callV (I := IX11_ends) (J := IX11_giftsUntilEnd) (as := [.inl x1, .inl x2, .inl x3, .inl x4]) (ci := 11) (g := 0) (o := 0) (idx := 425) (pl := 1443) (rest := [.inr (.inr (some (0, 0)))]) (mX11_giftsUntilEnd x1 x2 x3 x4 D q3 hq3) kX11_giftsUntilEnd vX11_giftsUntilEnd (by decide +kernel) (by decide +kernel) (by decide +kernel) rfl rfl ⟨rfl, rfl⟩ rfl rfl rfl rfl ?_
      refine mz_Go.callV (I := IX11_ends) (J := IX11_answer) (as := [.inl q3]) (ci := 11) (g := 0) (o := 0) (idx := 160) (pl := 914) (rest := []) (mX11_answer q3 D) kX11_answer vX11_answer (by decide +kernel) (by decide +kernel) (by decide +kernel) rfl rfl ⟨rfl, rfl⟩ rfl rfl rfl rfl ?_
      cases h
      exact mz_Go.reti (by decide +kernel) rfl ⟨Nat.le_refl _, Nat.le_refl _⟩ rfl
def bX11_wasted_0 : List mz_E := [(0, .aload_n 0, 0, 0, 0, 0, 0), (1, .iload_n 1, 0, 0, 0, 0, 0), (2, .iload_n 2, 0, 0, 0, 0, 0)]
theorem oX11_wasted_0 : bX11_wasted_0.all (mz_ok RX11 cX11_wasted 9) = true := by decide +kernel
def bX11_wasted_6 : List mz_E := [(6, .ifCond .eq 12, 0, 18, 0, 0, 0)]
theorem oX11_wasted_6 : bX11_wasted_6.all (mz_ok RX11 cX11_wasted 9) = true := by decide +kernel
def bX11_wasted_18 : List mz_E := [(18, .aload_n 0, 0, 0, 0, 0, 0), (19, .iconst 1, 0, 0, 0, 1, 0)]
theorem oX11_wasted_18 : bX11_wasted_18.all (mz_ok RX11 cX11_wasted 9) = true := by decide +kernel
def bX11_wasted_9 : List mz_E := [(9, .iload_n 3, 0, 0, 0, 0, 0), (10, .iload 4, 0, 0, 0, 0, 0)]
theorem oX11_wasted_9 : bX11_wasted_9.all (mz_ok RX11 cX11_wasted 9) = true := by decide +kernel
def bX11_wasted_15 : List mz_E := [(15, .ifCond .ne 9, 0, 24, 0, 0, 0)]
theorem oX11_wasted_15 : bX11_wasted_15.all (mz_ok RX11 cX11_wasted 9) = true := by decide +kernel
def bX11_wasted_24 : List mz_E := [(24, .aload_n 0, 0, 0, 0, 0, 0), (25, .iload_n 1, 0, 0, 0, 0, 0), (26, .iload_n 2, 0, 0, 0, 0, 0), (27, .iload_n 3, 0, 0, 0, 0, 0), (28, .iload 4, 0, 0, 0, 0, 0)]
theorem oX11_wasted_24 : bX11_wasted_24.all (mz_ok RX11 cX11_wasted 9) = true := by decide +kernel
def bX11_wasted_33 : List mz_E := [(33, .istore 5, 0, 0, 0, 0, 0), (35, .iload_n 3, 0, 0, 0, 0, 0), (36, .istore 6, 0, 0, 0, 0, 0), (38, .iconst 0, 0, 0, 0, 0, 0), (39, .istore 7, 0, 0, 0, 0, 0), (41, .iconst 0, 0, 0, 0, 0, 0), (42, .istore 8, 0, 0, 0, 0, 0)]
theorem oX11_wasted_33 : bX11_wasted_33.all (mz_ok RX11 cX11_wasted 9) = true := by decide +kernel
def bX11_wasted_44 : List mz_E := [(44, .iload 8, 0, 0, 0, 0, 0), (46, .iload 5, 0, 0, 0, 0, 0), (48, .if_icmp .ge 25, 0, 73, 0, 0, 0)]
theorem oX11_wasted_44 : bX11_wasted_44.all (mz_ok RX11 cX11_wasted 9) = true := by decide +kernel
def bX11_wasted_73 : List mz_E := [(73, .aload_n 0, 0, 0, 0, 0, 0), (74, .iload 7, 0, 0, 0, 0, 0)]
theorem oX11_wasted_73 : bX11_wasted_73.all (mz_ok RX11 cX11_wasted 9) = true := by decide +kernel
def bX11_wasted_51 : List mz_E := [(51, .iload 7, 0, 0, 0, 0, 0), (53, .iload 6, 0, 0, 0, 0, 0), (55, .iadd, 0, 0, 0, 0, 0), (56, .istore 7, 0, 0, 0, 0, 0), (58, .iload 6, 0, 0, 0, 0, 0), (60, .iload 4, 0, 0, 0, 0, 0)]
theorem oX11_wasted_51 : bX11_wasted_51.all (mz_ok RX11 cX11_wasted 9) = true := by decide +kernel
def bX11_wasted_65 : List mz_E := [(65, .istore 6, 0, 0, 0, 0, 0), (67, .iinc 8 1, 0, 0, 0, 1, 0), (70, .goto (-26), 0, 44, 0, 0, 0)]
theorem oX11_wasted_65 : bX11_wasted_65.all (mz_ok RX11 cX11_wasted 9) = true := by decide +kernel
abbrev IX11_wasted : mz_I := (yX11_wasted, cX11_wasted, 9, (some .int), 0, 2, 0, 0)
theorem kX11_wasted : mz_okm IX11_wasted 1450 126 1448 4 = true := by decide +kernel
theorem vX11_wasted : mz_okV IX11_wasted 1448 1449 = true := by decide +kernel
def fX11_wasted_44 : Nat → Int32 → Int32 → Int32 → Int32 → Int32 → mz_D → Option (Int32 × mz_D)
  | 0 => fun _ _ _ _ _ _ => none
  | n + 1 => fun x4 x5 x6 x7 x8 D => (if x5 ≤ x8 then (some (x7, (mz_wi D 0 0 13 (0 : Int32)))) else ((fX11_wasted_44 n) x4 x5 ((x6 + ((x6 * x4) / (100 : Int32))) + (1 : Int32)) (x7 + x6) (x8 + (1 : Int32)) D))
set_option maxHeartbeats 4000000 in
theorem tX11_wasted_44 (r : (Int32 × mz_D)) : ∀ (n : Nat) (x4 : Int32) (x5 : Int32) (x6 : Int32) (x7 : Int32) (x8 : Int32) (D : mz_D), fX11_wasted_44 n x4 x5 x6 x7 x8 D = some r → mz_Go IX11_wasted (some (.inl r.1), r.2) 0 0 (44, [some (.inr (.inr (some (0, 0)))), none, none, none, some (.inl x4), some (.inl x5), some (.inl x6), some (.inl x7), some (.inl x8)], [], D) := by
  intro n
  induction n with
  | zero => intro x4 x5 x6 x7 x8 D h; have h : (none : Option (Int32 × mz_D)) = some r := h; cases h
  | succ n ih =>
    intro x4 x5 x6 x7 x8 D h
    rw [fX11_wasted_44] at h
    refine mz_Go.run (gs := []) (st' := (if x5 ≤ x8 then (73, [some (.inr (.inr (some (0, 0)))), none, none, none, some (.inl x4), some (.inl x5), some (.inl x6), some (.inl x7), some (.inl x8)], [], D) else (51, [some (.inr (.inr (some (0, 0)))), none, none, none, some (.inl x4), some (.inl x5), some (.inl x6), some (.inl x7), some (.inl x8)], [], D))) bX11_wasted_44 oX11_wasted_44 rfl trivial ?_
    refine mz_Go.ite (fun hc1 => ?_) (fun hc1 => ?_)
    · have h := mz_ifp hc1 h
      refine mz_Go.run (gs := []) (st' := (76, [some (.inr (.inr (some (0, 0)))), none, none, none, some (.inl x4), some (.inl x5), some (.inl x6), some (.inl x7), some (.inl x8)], [.inl x7, .inr (.inr (some (0, 0)))], D)) bX11_wasted_73 oX11_wasted_73 rfl trivial ?_
      refine mz_Go.callV (I := IX11_wasted) (J := IX11_answer) (as := [.inl x7]) (ci := 11) (g := 0) (o := 0) (idx := 160) (pl := 914) (rest := []) (mX11_answer x7 D) kX11_answer vX11_answer (by decide +kernel) (by decide +kernel) (by decide +kernel) rfl rfl ⟨rfl, rfl⟩ rfl rfl rfl rfl ?_
      cases h
      exact mz_Go.reti (by decide +kernel) rfl ⟨Nat.le_refl _, Nat.le_refl _⟩ rfl
    · have h := mz_ifn hc1 h
      refine mz_Go.run (gs := []) (st' := (62, [some (.inr (.inr (some (0, 0)))), none, none, none, some (.inl x4), some (.inl x5), some (.inl x6), some (.inl (x7 + x6)), some (.inl x8)], [.inl x4, .inl x6], D)) bX11_wasted_51 oX11_wasted_51 rfl trivial ?_
      refine mz_Go.callS (I := IX11_wasted) (J := IX11_nextGift) (as := [.inl x6, .inl x4]) (idx := 421) (pl := 1435) (rest := []) (mX11_nextGift x6 x4 D) kX11_nextGift vX11_nextGift (by decide +kernel) (by decide +kernel) (by decide +kernel) rfl rfl ⟨rfl, rfl⟩ rfl ?_
      refine mz_Go.run (gs := []) (st' := (44, [some (.inr (.inr (some (0, 0)))), none, none, none, some (.inl x4), some (.inl x5), some (.inl ((x6 + ((x6 * x4) / (100 : Int32))) + (1 : Int32))), some (.inl (x7 + x6)), some (.inl (x8 + (1 : Int32)))], [], D)) bX11_wasted_65 oX11_wasted_65 rfl trivial ?_
      exact mz_Go.drop [true, false, false, false, true, true, true, true, true] (ih x4 x5 ((x6 + ((x6 * x4) / (100 : Int32))) + (1 : Int32)) (x7 + x6) (x8 + (1 : Int32)) D h)
def fX11_wasted (x1 : Int32) (x2 : Int32) (x3 : Int32) (x4 : Int32) (D : mz_D) : Option (Int32 × mz_D) := (if (fX11_areTwo x1 x2 D) = 0 then (some ((-1 : Int32), (mz_wi D 0 0 13 (1 : Int32)))) else (if (fX11_isGiftRow x3 x4) = 0 then (some ((-1 : Int32), (mz_wi D 0 0 13 (1 : Int32)))) else (Option.bind (fX11_giftsUntilEnd x1 x2 x3 x4 D) fun q3 => (fX11_wasted_44 mz_N x4 q3 x3 (0 : Int32) (0 : Int32) D))))
set_option maxHeartbeats 4000000 in
theorem mX11_wasted (x1 : Int32) (x2 : Int32) (x3 : Int32) (x4 : Int32) (D : mz_D) (r : (Int32 × mz_D)) (h : fX11_wasted x1 x2 x3 x4 D = some r) : mz_Met IX11_wasted [.inr (.inr (some (0, 0))), .inl x1, .inl x2, .inl x3, .inl x4] D (some (.inl r.1), r.2) := by
  refine mz_Met.of (by decide +kernel) (Nat.le_of_ble_eq_true rfl) ?_
  show mz_Go IX11_wasted (some (.inl r.1), r.2) 0 0 (0, [some (.inr (.inr (some (0, 0)))), some (.inl x1), some (.inl x2), some (.inl x3), some (.inl x4), none, none, none, none], [], D)
  rw [fX11_wasted] at h
  refine mz_Go.run (gs := []) (st' := (3, [some (.inr (.inr (some (0, 0)))), some (.inl x1), some (.inl x2), some (.inl x3), some (.inl x4), none, none, none, none], [.inl x2, .inl x1, .inr (.inr (some (0, 0)))], D)) bX11_wasted_0 oX11_wasted_0 rfl trivial ?_
  refine mz_Go.callV (I := IX11_wasted) (J := IX11_areTwo) (as := [.inl x1, .inl x2]) (ci := 11) (g := 0) (o := 0) (idx := 320) (pl := 1218) (rest := []) (mX11_areTwo x1 x2 D _ rfl) kX11_areTwo vX11_areTwo (by decide +kernel) (by decide +kernel) (by decide +kernel) rfl rfl ⟨rfl, rfl⟩ rfl rfl rfl rfl ?_
  refine mz_Go.run (gs := []) (st' := (if (fX11_areTwo x1 x2 D) = 0 then (18, [some (.inr (.inr (some (0, 0)))), some (.inl x1), some (.inl x2), some (.inl x3), some (.inl x4), none, none, none, none], [], D) else (9, [some (.inr (.inr (some (0, 0)))), some (.inl x1), some (.inl x2), some (.inl x3), some (.inl x4), none, none, none, none], [], D))) bX11_wasted_6 oX11_wasted_6 rfl trivial ?_
  refine mz_Go.ite (fun hc1 => ?_) (fun hc1 => ?_)
  · have h := mz_ifp hc1 h
    refine mz_Go.run (gs := []) (st' := (20, [some (.inr (.inr (some (0, 0)))), some (.inl x1), some (.inl x2), some (.inl x3), some (.inl x4), none, none, none, none], [.inl (1 : Int32), .inr (.inr (some (0, 0)))], D)) bX11_wasted_18 oX11_wasted_18 rfl trivial ?_
    refine mz_Go.callV (I := IX11_wasted) (J := IX11_refuse) (as := [.inl (1 : Int32)]) (ci := 11) (g := 0) (o := 0) (idx := 100) (pl := 673) (rest := []) (mX11_refuse (1 : Int32) D) kX11_refuse vX11_refuse (by decide +kernel) (by decide +kernel) (by decide +kernel) rfl rfl ⟨rfl, rfl⟩ rfl rfl rfl rfl ?_
    cases h
    exact mz_Go.reti (by decide +kernel) rfl ⟨Nat.le_refl _, Nat.le_refl _⟩ rfl
  · have h := mz_ifn hc1 h
    refine mz_Go.run (gs := []) (st' := (12, [some (.inr (.inr (some (0, 0)))), some (.inl x1), some (.inl x2), some (.inl x3), some (.inl x4), none, none, none, none], [.inl x4, .inl x3], D)) bX11_wasted_9 oX11_wasted_9 rfl trivial ?_
    refine mz_Go.callS (I := IX11_wasted) (J := IX11_isGiftRow) (as := [.inl x3, .inl x4]) (idx := 418) (pl := 1432) (rest := []) (mX11_isGiftRow x3 x4 D _ rfl) kX11_isGiftRow vX11_isGiftRow (by decide +kernel) (by decide +kernel) (by decide +kernel) rfl rfl ⟨rfl, rfl⟩ rfl ?_
    refine mz_Go.run (gs := []) (st' := (if (fX11_isGiftRow x3 x4) = 0 then (18, [some (.inr (.inr (some (0, 0)))), some (.inl x1), some (.inl x2), some (.inl x3), some (.inl x4), none, none, none, none], [], D) else (24, [some (.inr (.inr (some (0, 0)))), some (.inl x1), some (.inl x2), some (.inl x3), some (.inl x4), none, none, none, none], [], D))) bX11_wasted_15 oX11_wasted_15 rfl trivial ?_
    refine mz_Go.ite (fun hc2 => ?_) (fun hc2 => ?_)
    · have h := mz_ifp hc2 h
      refine mz_Go.run (gs := []) (st' := (20, [some (.inr (.inr (some (0, 0)))), some (.inl x1), some (.inl x2), some (.inl x3), some (.inl x4), none, none, none, none], [.inl (1 : Int32), .inr (.inr (some (0, 0)))], D)) bX11_wasted_18 oX11_wasted_18 rfl trivial ?_
      refine mz_Go.callV (I := IX11_wasted) (J := IX11_refuse) (as := [.inl (1 : Int32)]) (ci := 11) (g := 0) (o := 0) (idx := 100) (pl := 673) (rest := []) (mX11_refuse (1 : Int32) D) kX11_refuse vX11_refuse (by decide +kernel) (by decide +kernel) (by decide +kernel) rfl rfl ⟨rfl, rfl⟩ rfl rfl rfl rfl ?_
      cases h
      exact mz_Go.reti (by decide +kernel) rfl ⟨Nat.le_refl _, Nat.le_refl _⟩ rfl
    · have h := mz_ifn hc2 h
      refine mz_Go.run (gs := []) (st' := (30, [some (.inr (.inr (some (0, 0)))), some (.inl x1), some (.inl x2), some (.inl x3), some (.inl x4), none, none, none, none], [.inl x4, .inl x3, .inl x2, .inl x1, .inr (.inr (some (0, 0)))], D)) bX11_wasted_24 oX11_wasted_24 rfl trivial ?_
      obtain ⟨q3, hq3, h⟩ := mz_bd_some h
      refine mz_Go.callV (I := IX11_wasted) (J := IX11_giftsUntilEnd) (as := [.inl x1, .inl x2, .inl x3, .inl x4]) (ci := 11) (g := 0) (o := 0) (idx := 425) (pl := 1443) (rest := []) (mX11_giftsUntilEnd x1 x2 x3 x4 D q3 hq3) kX11_giftsUntilEnd vX11_giftsUntilEnd (by decide +kernel) (by decide +kernel) (by decide +kernel) rfl rfl ⟨rfl, rfl⟩ rfl rfl rfl rfl ?_
      refine mz_Go.run (gs := []) (st' := (44, [some (.inr (.inr (some (0, 0)))), some (.inl x1), some (.inl x2), some (.inl x3), some (.inl x4), some (.inl q3), some (.inl x3), some (.inl (0 : Int32)), some (.inl (0 : Int32))], [], D)) bX11_wasted_33 oX11_wasted_33 rfl trivial ?_
      exact mz_Go.drop [true, false, false, false, true, true, true, true, true] (tX11_wasted_44 r mz_N x4 q3 x3 (0 : Int32) (0 : Int32) D h)
def bX11_gift_0 : List mz_E := [(0, .aload_n 0, 0, 0, 0, 0, 0), (1, .iload_n 1, 0, 0, 0, 0, 0), (2, .iload_n 2, 0, 0, 0, 0, 0)]
theorem oX11_gift_0 : bX11_gift_0.all (mz_ok RX11 cX11_gift 4) = true := by decide +kernel
def bX11_gift_6 : List mz_E := [(6, .ifCond .eq 15, 0, 21, 0, 0, 0)]
theorem oX11_gift_6 : bX11_gift_6.all (mz_ok RX11 cX11_gift 4) = true := by decide +kernel
def bX11_gift_21 : List mz_E := [(21, .aload_n 0, 0, 0, 0, 0, 0), (22, .iconst 1, 0, 0, 0, 1, 0)]
theorem oX11_gift_21 : bX11_gift_21.all (mz_ok RX11 cX11_gift 4) = true := by decide +kernel
def bX11_gift_9 : List mz_E := [(9, .iload_n 3, 0, 0, 0, 0, 0), (10, .iconst 1, 0, 0, 0, 1, 0), (11, .if_icmp .lt 10, 0, 21, 0, 0, 0)]
theorem oX11_gift_9 : bX11_gift_9.all (mz_ok RX11 cX11_gift 4) = true := by decide +kernel
def bX11_gift_14 : List mz_E := [(14, .iload_n 3, 0, 0, 0, 0, 0), (15, .sipush 9999, 0, 0, 0, 9999, 0), (18, .if_icmp .le 9, 0, 27, 0, 0, 0)]
theorem oX11_gift_14 : bX11_gift_14.all (mz_ok RX11 cX11_gift 4) = true := by decide +kernel
def bX11_gift_27 : List mz_E := [(27, .aload_n 0, 0, 0, 0, 0, 0), (28, .getfield 32, 11, 4, 563, 0, 0), (31, .iload_n 1, 0, 0, 0, 0, 0), (32, .iload_n 2, 0, 0, 0, 0, 0), (33, .iload_n 3, 0, 0, 0, 0, 0)]
theorem oX11_gift_27 : bX11_gift_27.all (mz_ok RX11 cX11_gift 4) = true := by decide +kernel
def bX11_gift_37 : List mz_E := [(37, .aload_n 0, 0, 0, 0, 0, 0), (38, .aload_n 0, 0, 0, 0, 0, 0), (39, .getfield 32, 11, 4, 563, 0, 0), (42, .getfield 349, 6, 2, 485, 0, 0), (45, .iload_n 2, 0, 0, 0, 0, 0), (46, .iload_n 1, 0, 0, 0, 0, 0)]
theorem oX11_gift_37 : bX11_gift_37.all (mz_ok RX11 cX11_gift 4) = true := by decide +kernel
abbrev IX11_gift : mz_I := (yX11_gift, cX11_gift, 4, (some .int), 0, 3, 0, 0)
theorem kX11_gift : mz_okm IX11_gift 1454 126 1452 3 = true := by decide +kernel
theorem vX11_gift : mz_okV IX11_gift 1452 1453 = true := by decide +kernel
def fX11_gift (x1 : Int32) (x2 : Int32) (x3 : Int32) (D : mz_D) : Option (Int32 × mz_D) := (if (fX11_areTwo x1 x2 D) = 0 then (some ((-1 : Int32), (mz_wi D 0 0 13 (1 : Int32)))) else (if x3 < (1 : Int32) then (some ((-1 : Int32), (mz_wi D 0 0 13 (1 : Int32)))) else (if x3 ≤ (9999 : Int32) then (Option.bind (fX6_give 1 x1 x2 x3 D) fun q4 => (Option.bind (fX2_get 1 x2 x1 q4) fun q5 => (some (q5, (mz_wi q4 0 0 13 (0 : Int32)))))) else (some ((-1 : Int32), (mz_wi D 0 0 13 (1 : Int32)))))))
set_option maxHeartbeats 4000000 in
theorem mX11_gift (x1 : Int32) (x2 : Int32) (x3 : Int32) (D : mz_D) (r : (Int32 × mz_D)) (h : fX11_gift x1 x2 x3 D = some r) : mz_Met IX11_gift [.inr (.inr (some (0, 0))), .inl x1, .inl x2, .inl x3] D (some (.inl r.1), r.2) := by
  refine mz_Met.of (by decide +kernel) (Nat.le_of_ble_eq_true rfl) ?_
  show mz_Go IX11_gift (some (.inl r.1), r.2) 0 0 (0, [some (.inr (.inr (some (0, 0)))), some (.inl x1), some (.inl x2), some (.inl x3)], [], D)
  rw [fX11_gift] at h
  refine mz_Go.run (gs := []) (st' := (3, [some (.inr (.inr (some (0, 0)))), some (.inl x1), some (.inl x2), some (.inl x3)], [.inl x2, .inl x1, .inr (.inr (some (0, 0)))], D)) bX11_gift_0 oX11_gift_0 rfl trivial ?_
  refine mz_Go.callV (I := IX11_gift) (J := IX11_areTwo) (as := [.inl x1, .inl x2]) (ci := 11) (g := 0) (o := 0) (idx := 320) (pl := 1218) (rest := []) (mX11_areTwo x1 x2 D _ rfl) kX11_areTwo vX11_areTwo (by decide +kernel) (by decide +kernel) (by decide +kernel) rfl rfl ⟨rfl, rfl⟩ rfl rfl rfl rfl ?_
  refine mz_Go.run (gs := []) (st' := (if (fX11_areTwo x1 x2 D) = 0 then (21, [some (.inr (.inr (some (0, 0)))), some (.inl x1), some (.inl x2), some (.inl x3)], [], D) else (9, [some (.inr (.inr (some (0, 0)))), some (.inl x1), some (.inl x2), some (.inl x3)], [], D))) bX11_gift_6 oX11_gift_6 rfl trivial ?_
  refine mz_Go.ite (fun hc1 => ?_) (fun hc1 => ?_)
  · have h := mz_ifp hc1 h
    refine mz_Go.run (gs := []) (st' := (23, [some (.inr (.inr (some (0, 0)))), some (.inl x1), some (.inl x2), some (.inl x3)], [.inl (1 : Int32), .inr (.inr (some (0, 0)))], D)) bX11_gift_21 oX11_gift_21 rfl trivial ?_
    refine mz_Go.callV (I := IX11_gift) (J := IX11_refuse) (as := [.inl (1 : Int32)]) (ci := 11) (g := 0) (o := 0) (idx := 100) (pl := 673) (rest := []) (mX11_refuse (1 : Int32) D) kX11_refuse vX11_refuse (by decide +kernel) (by decide +kernel) (by decide +kernel) rfl rfl ⟨rfl, rfl⟩ rfl rfl rfl rfl ?_
    cases h
    exact mz_Go.reti (by decide +kernel) rfl ⟨Nat.le_refl _, Nat.le_refl _⟩ rfl
  · have h := mz_ifn hc1 h
    refine mz_Go.run (gs := []) (st' := (if x3 < (1 : Int32) then (21, [some (.inr (.inr (some (0, 0)))), some (.inl x1), some (.inl x2), some (.inl x3)], [], D) else (14, [some (.inr (.inr (some (0, 0)))), some (.inl x1), some (.inl x2), some (.inl x3)], [], D))) bX11_gift_9 oX11_gift_9 rfl trivial ?_
    refine mz_Go.ite (fun hc2 => ?_) (fun hc2 => ?_)
    · have h := mz_ifp hc2 h
      refine mz_Go.run (gs := []) (st' := (23, [some (.inr (.inr (some (0, 0)))), some (.inl x1), some (.inl x2), some (.inl x3)], [.inl (1 : Int32), .inr (.inr (some (0, 0)))], D)) bX11_gift_21 oX11_gift_21 rfl trivial ?_
      refine mz_Go.callV (I := IX11_gift) (J := IX11_refuse) (as := [.inl (1 : Int32)]) (ci := 11) (g := 0) (o := 0) (idx := 100) (pl := 673) (rest := []) (mX11_refuse (1 : Int32) D) kX11_refuse vX11_refuse (by decide +kernel) (by decide +kernel) (by decide +kernel) rfl rfl ⟨rfl, rfl⟩ rfl rfl rfl rfl ?_
      cases h
      exact mz_Go.reti (by decide +kernel) rfl ⟨Nat.le_refl _, Nat.le_refl _⟩ rfl
    · have h := mz_ifn hc2 h
      refine mz_Go.run (gs := []) (st' := (if x3 ≤ (9999 : Int32) then (27, [some (.inr (.inr (some (0, 0)))), some (.inl x1), some (.inl x2), some (.inl x3)], [], D) else (21, [some (.inr (.inr (some (0, 0)))), some (.inl x1), some (.inl x2), some (.inl x3)], [], D))) bX11_gift_14 oX11_gift_14 rfl trivial ?_
      refine mz_Go.ite (fun hc3 => ?_) (fun hc3 => ?_)
      · have h := mz_ifp hc3 h
        refine mz_Go.run (gs := [mz_kz 0 0 0]) (st' := (34, [some (.inr (.inr (some (0, 0)))), some (.inl x1), some (.inl x2), some (.inl x3)], [.inl x3, .inl x2, .inl x1, .inr (.inr (some (1, 100)))], D)) bX11_gift_27 oX11_gift_27 rfl ⟨rfl, trivial⟩ ?_
        obtain ⟨q4, hq4, h⟩ := mz_bd_some h
        refine mz_Go.callV (I := IX11_gift) (J := IX6_give) (as := [.inl x1, .inl x2, .inl x3]) (ci := 6) (g := 1) (o := 100) (idx := 429) (pl := 1455) (rest := []) (mX6_give 1 x1 x2 x3 D rfl q4 hq4) kX6_give vX6_give (by decide +kernel) (by decide +kernel) (by decide +kernel) rfl rfl ⟨rfl, rfl⟩ rfl rfl rfl rfl ?_
        refine mz_Go.run (gs := [mz_kz 0 0 0, mz_kz 0 1 100]) (st' := (47, [some (.inr (.inr (some (0, 0)))), some (.inl x1), some (.inl x2), some (.inl x3)], [.inl x1, .inl x2, .inr (.inr (some (1, 113))), .inr (.inr (some (0, 0)))], q4)) bX11_gift_37 oX11_gift_37 rfl ⟨rfl, rfl, trivial⟩ ?_
        obtain ⟨q5, hq5, h⟩ := mz_bd_some h
        refine mz_Go.callV (I := IX11_gift) (J := IX2_get) (as := [.inl x2, .inl x1]) (ci := 2) (g := 1) (o := 113) (idx := 353) (pl := 1295) (rest := [.inr (.inr (some (0, 0)))]) (mX2_get 1 x2 x1 q4 rfl q5 hq5) kX2_get vX2_get (by decide +kernel) (by decide +kernel) (by decide +kernel) rfl rfl ⟨rfl, rfl⟩ rfl rfl rfl rfl ?_
        refine mz_Go.callV (I := IX11_gift) (J := IX11_answer) (as := [.inl q5]) (ci := 11) (g := 0) (o := 0) (idx := 160) (pl := 914) (rest := []) (mX11_answer q5 q4) kX11_answer vX11_answer (by decide +kernel) (by decide +kernel) (by decide +kernel) rfl rfl ⟨rfl, rfl⟩ rfl rfl rfl rfl ?_
        cases h
        exact mz_Go.reti (by decide +kernel) rfl ⟨Nat.le_refl _, Nat.le_refl _⟩ rfl
      · have h := mz_ifn hc3 h
        refine mz_Go.run (gs := []) (st' := (23, [some (.inr (.inr (some (0, 0)))), some (.inl x1), some (.inl x2), some (.inl x3)], [.inl (1 : Int32), .inr (.inr (some (0, 0)))], D)) bX11_gift_21 oX11_gift_21 rfl trivial ?_
        refine mz_Go.callV (I := IX11_gift) (J := IX11_refuse) (as := [.inl (1 : Int32)]) (ci := 11) (g := 0) (o := 0) (idx := 100) (pl := 673) (rest := []) (mX11_refuse (1 : Int32) D) kX11_refuse vX11_refuse (by decide +kernel) (by decide +kernel) (by decide +kernel) rfl rfl ⟨rfl, rfl⟩ rfl rfl rfl rfl ?_
        cases h
        exact mz_Go.reti (by decide +kernel) rfl ⟨Nat.le_refl _, Nat.le_refl _⟩ rfl
def bX11_addReceipt_0 : List mz_E := [(0, .aload_n 0, 0, 0, 0, 0, 0), (1, .getfield 32, 11, 4, 563, 0, 0), (4, .getfield 151, 6, 0, 477, 0, 0)]
theorem oX11_addReceipt_0 : bX11_addReceipt_0.all (mz_ok RX11 cX11_addReceipt 5) = true := by decide +kernel
def bX11_addReceipt_10 : List mz_E := [(10, .istore_n 3, 0, 0, 0, 0, 0), (11, .iconst 0, 0, 0, 0, 0, 0), (12, .istore 4, 0, 0, 0, 0, 0)]
theorem oX11_addReceipt_10 : bX11_addReceipt_10.all (mz_ok RX11 cX11_addReceipt 5) = true := by decide +kernel
def bX11_addReceipt_14 : List mz_E := [(14, .iload 4, 0, 0, 0, 0, 0), (16, .aload_n 0, 0, 0, 0, 0, 0), (17, .getfield 32, 11, 4, 563, 0, 0), (20, .getfield 151, 6, 0, 477, 0, 0), (23, .getfield 155, 4, 0, 290, 0, 0), (26, .if_icmp .ge 45, 0, 71, 0, 0, 0)]
theorem oX11_addReceipt_14 : bX11_addReceipt_14.all (mz_ok RX11 cX11_addReceipt 5) = true := by decide +kernel
def bX11_addReceipt_29 : List mz_E := [(29, .iload 4, 0, 0, 0, 0, 0), (31, .iload_n 1, 0, 0, 0, 0, 0), (32, .if_icmp .eq 33, 0, 65, 0, 0, 0)]
theorem oX11_addReceipt_29 : bX11_addReceipt_29.all (mz_ok RX11 cX11_addReceipt 5) = true := by decide +kernel
def bX11_addReceipt_65 : List mz_E := [(65, .iinc 4 1, 0, 0, 0, 1, 0), (68, .goto (-54), 0, 14, 0, 0, 0)]
theorem oX11_addReceipt_65 : bX11_addReceipt_65.all (mz_ok RX11 cX11_addReceipt 5) = true := by decide +kernel
def bX11_addReceipt_35 : List mz_E := [(35, .iload_n 3, 0, 0, 0, 0, 0), (36, .iload 4, 0, 0, 0, 0, 0)]
theorem oX11_addReceipt_35 : bX11_addReceipt_35.all (mz_ok RX11 cX11_addReceipt 5) = true := by decide +kernel
def bX11_addReceipt_41 : List mz_E := [(41, .ifCond .eq 24, 0, 65, 0, 0, 0)]
theorem oX11_addReceipt_41 : bX11_addReceipt_41.all (mz_ok RX11 cX11_addReceipt 5) = true := by decide +kernel
def bX11_addReceipt_44 : List mz_E := [(44, .aload_n 0, 0, 0, 0, 0, 0), (45, .getfield 54, 11, 11, 570, 0, 0), (48, .iload 4, 0, 0, 0, 0, 0), (50, .dup2, 0, 0, 0, 0, 0), (51, .iaload, 0, 0, 0, 0, 0), (52, .iload_n 2, 0, 0, 0, 0, 0), (53, .isub, 0, 0, 0, 0, 0), (54, .iastore, 0, 0, 0, 0, 0), (55, .aload_n 0, 0, 0, 0, 0, 0), (56, .getfield 54, 11, 11, 570, 0, 0), (59, .iload_n 1, 0, 0, 0, 0, 0), (60, .dup2, 0, 0, 0, 0, 0), (61, .iaload, 0, 0, 0, 0, 0), (62, .iload_n 2, 0, 0, 0, 0, 0), (63, .iadd, 0, 0, 0, 0, 0), (64, .iastore, 0, 0, 0, 0, 0), (65, .iinc 4 1, 0, 0, 0, 1, 0), (68, .goto (-54), 0, 14, 0, 0, 0)]
theorem oX11_addReceipt_44 : bX11_addReceipt_44.all (mz_ok RX11 cX11_addReceipt 5) = true := by decide +kernel
abbrev IX11_addReceipt : mz_I := (yX11_addReceipt, cX11_addReceipt, 5, none, 0, 2, 0, 0)
theorem kX11_addReceipt : mz_okm IX11_addReceipt 1473 126 1472 2 = true := by decide +kernel
theorem vX11_addReceipt : mz_okV IX11_addReceipt 1472 34 = true := by decide +kernel
def fX11_addReceipt_14 : Nat → Int32 → Int32 → Int32 → Int32 → mz_D → Option mz_D
  | 0 => fun _ _ _ _ _ => none
  | n + 1 => fun x1 x2 x3 x4 D => (if (D.1 1 101 0) ≤ x4 then (some D) else (if x4 = x1 then ((fX11_addReceipt_14 n) x1 x2 x3 (x4 + (1 : Int32)) D) else (if (fX11_isIn x3 x4) = 0 then ((fX11_addReceipt_14 n) x1 x2 x3 (x4 + (1 : Int32)) D) else (mz_gd (mz_ix x4 6) (mz_gd (mz_ix x1 6) ((fX11_addReceipt_14 n) x1 x2 x3 (x4 + (1 : Int32)) (mz_wi (mz_wi D 0 14 (x4).toNatClampNeg ((D.1 0 14 (x4).toNatClampNeg) - x2)) 0 14 (x1).toNatClampNeg (((mz_wi D 0 14 (x4).toNatClampNeg ((D.1 0 14 (x4).toNatClampNeg) - x2)).1 0 14 (x1).toNatClampNeg) + x2))))))))
set_option maxHeartbeats 4000000 in
theorem tX11_addReceipt_14 (r : mz_D) : ∀ (n : Nat) (x1 : Int32) (x2 : Int32) (x3 : Int32) (x4 : Int32) (D : mz_D), fX11_addReceipt_14 n x1 x2 x3 x4 D = some r → mz_Go IX11_addReceipt (none, r) 0 0 (14, [some (.inr (.inr (some (0, 0)))), some (.inl x1), some (.inl x2), some (.inl x3), some (.inl x4)], [], D) := by
  intro n
  induction n with
  | zero => intro x1 x2 x3 x4 D h; have h : (none : Option mz_D) = some r := h; cases h
  | succ n ih =>
    intro x1 x2 x3 x4 D h
    rw [fX11_addReceipt_14] at h
    refine mz_Go.run (gs := [mz_kz 0 0 0, mz_kz 0 1 100, mz_kz 0 1 101]) (st' := (if (D.1 1 101 0) ≤ x4 then (71, [some (.inr (.inr (some (0, 0)))), some (.inl x1), some (.inl x2), some (.inl x3), some (.inl x4)], [], D) else (29, [some (.inr (.inr (some (0, 0)))), some (.inl x1), some (.inl x2), some (.inl x3), some (.inl x4)], [], D))) bX11_addReceipt_14 oX11_addReceipt_14 rfl ⟨rfl, rfl, rfl, trivial⟩ ?_
    refine mz_Go.ite (fun hc1 => ?_) (fun hc1 => ?_)
    · have h := mz_ifp hc1 h
      cases h
      exact mz_Go.retv (by decide +kernel) rfl ⟨Nat.le_refl _, Nat.le_refl _⟩ rfl
    · have h := mz_ifn hc1 h
      refine mz_Go.run (gs := []) (st' := (if x4 = x1 then (65, [some (.inr (.inr (some (0, 0)))), some (.inl x1), some (.inl x2), some (.inl x3), some (.inl x4)], [], D) else (35, [some (.inr (.inr (some (0, 0)))), some (.inl x1), some (.inl x2), some (.inl x3), some (.inl x4)], [], D))) bX11_addReceipt_29 oX11_addReceipt_29 rfl trivial ?_
      refine mz_Go.ite (fun hc2 => ?_) (fun hc2 => ?_)
      · have h := mz_ifp hc2 h
        refine mz_Go.run (gs := []) (st' := (14, [some (.inr (.inr (some (0, 0)))), some (.inl x1), some (.inl x2), some (.inl x3), some (.inl (x4 + (1 : Int32)))], [], D)) bX11_addReceipt_65 oX11_addReceipt_65 rfl trivial ?_
        exact mz_Go.drop [true, true, true, true, true] (ih x1 x2 x3 (x4 + (1 : Int32)) D h)
      · have h := mz_ifn hc2 h
        refine mz_Go.run (gs := []) (st' := (38, [some (.inr (.inr (some (0, 0)))), some (.inl x1), some (.inl x2), some (.inl x3), some (.inl x4)], [.inl x4, .inl x3], D)) bX11_addReceipt_35 oX11_addReceipt_35 rfl trivial ?_
        refine mz_Go.callS (I := IX11_addReceipt) (J := IX11_isIn) (as := [.inl x3, .inl x4]) (idx := 337) (pl := 1266) (rest := []) (mX11_isIn x3 x4 D _ rfl) kX11_isIn vX11_isIn (by decide +kernel) (by decide +kernel) (by decide +kernel) rfl rfl ⟨rfl, rfl⟩ rfl ?_
        refine mz_Go.run (gs := []) (st' := (if (fX11_isIn x3 x4) = 0 then (65, [some (.inr (.inr (some (0, 0)))), some (.inl x1), some (.inl x2), some (.inl x3), some (.inl x4)], [], D) else (44, [some (.inr (.inr (some (0, 0)))), some (.inl x1), some (.inl x2), some (.inl x3), some (.inl x4)], [], D))) bX11_addReceipt_41 oX11_addReceipt_41 rfl trivial ?_
        refine mz_Go.ite (fun hc3 => ?_) (fun hc3 => ?_)
        · have h := mz_ifp hc3 h
          refine mz_Go.run (gs := []) (st' := (14, [some (.inr (.inr (some (0, 0)))), some (.inl x1), some (.inl x2), some (.inl x3), some (.inl (x4 + (1 : Int32)))], [], D)) bX11_addReceipt_65 oX11_addReceipt_65 rfl trivial ?_
          exact mz_Go.drop [true, true, true, true, true] (ih x1 x2 x3 (x4 + (1 : Int32)) D h)
        · have h := mz_ifn hc3 h
          obtain ⟨hb4, h⟩ := mz_gd_some h
          obtain ⟨hb5, h⟩ := mz_gd_some h
          refine mz_Go.run (gs := [mz_kz 0 0 0, mz_kz 0 0 14, mz_ix x4 6, mz_kz 0 0 14, mz_ix x4 6, mz_kz 0 0 0, mz_kz 0 0 14, mz_ix x1 6, mz_kz 0 0 14, mz_ix x1 6]) (st' := (14, [some (.inr (.inr (some (0, 0)))), some (.inl x1), some (.inl x2), some (.inl x3), some (.inl (x4 + (1 : Int32)))], [], (mz_wi (mz_wi D 0 14 (x4).toNatClampNeg ((D.1 0 14 (x4).toNatClampNeg) - x2)) 0 14 (x1).toNatClampNeg (((mz_wi D 0 14 (x4).toNatClampNeg ((D.1 0 14 (x4).toNatClampNeg) - x2)).1 0 14 (x1).toNatClampNeg) + x2)))) bX11_addReceipt_44 oX11_addReceipt_44 rfl ⟨rfl, rfl, hb4, rfl, hb4, rfl, rfl, hb5, rfl, hb5, trivial⟩ ?_
          exact mz_Go.drop [true, true, true, true, true] (ih x1 x2 x3 (x4 + (1 : Int32)) (mz_wi (mz_wi D 0 14 (x4).toNatClampNeg ((D.1 0 14 (x4).toNatClampNeg) - x2)) 0 14 (x1).toNatClampNeg (((mz_wi D 0 14 (x4).toNatClampNeg ((D.1 0 14 (x4).toNatClampNeg) - x2)).1 0 14 (x1).toNatClampNeg) + x2)) h)
def fX11_addReceipt (x1 : Int32) (x2 : Int32) (D : mz_D) : Option mz_D := (fX11_addReceipt_14 mz_N x1 x2 (fX4_heads 1 D) (0 : Int32) D)
set_option maxHeartbeats 4000000 in
theorem mX11_addReceipt (x1 : Int32) (x2 : Int32) (D : mz_D) (r : mz_D) (h : fX11_addReceipt x1 x2 D = some r) : mz_Met IX11_addReceipt [.inr (.inr (some (0, 0))), .inl x1, .inl x2] D (none, r) := by
  refine mz_Met.of (by decide +kernel) (Nat.le_of_ble_eq_true rfl) ?_
  show mz_Go IX11_addReceipt (none, r) 0 0 (0, [some (.inr (.inr (some (0, 0)))), some (.inl x1), some (.inl x2), none, none], [], D)
  rw [fX11_addReceipt] at h
  refine mz_Go.run (gs := [mz_kz 0 0 0, mz_kz 0 1 100]) (st' := (7, [some (.inr (.inr (some (0, 0)))), some (.inl x1), some (.inl x2), none, none], [.inr (.inr (some (1, 101)))], D)) bX11_addReceipt_0 oX11_addReceipt_0 rfl ⟨rfl, rfl, trivial⟩ ?_
  refine mz_Go.callV (I := IX11_addReceipt) (J := IX4_heads) (as := []) (ci := 4) (g := 1) (o := 101) (idx := 200) (pl := 1023) (rest := []) (mX4_heads 1 D rfl _ rfl) kX4_heads vX4_heads (by decide +kernel) (by decide +kernel) (by decide +kernel) rfl rfl ⟨rfl, rfl⟩ rfl rfl rfl rfl ?_
  refine mz_Go.run (gs := []) (st' := (14, [some (.inr (.inr (some (0, 0)))), some (.inl x1), some (.inl x2), some (.inl (fX4_heads 1 D)), some (.inl (0 : Int32))], [], D)) bX11_addReceipt_10 oX11_addReceipt_10 rfl trivial ?_
  exact mz_Go.drop [true, true, true, true, true] (tX11_addReceipt_14 r mz_N x1 x2 (fX4_heads 1 D) (0 : Int32) D h)
def bX11_receipts_0 : List mz_E := [(0, .aload_n 0, 0, 0, 0, 0, 0), (1, .getfield 32, 11, 4, 563, 0, 0), (4, .getfield 151, 6, 0, 477, 0, 0), (7, .getfield 155, 4, 0, 290, 0, 0), (10, .istore 5, 0, 0, 0, 0, 0), (12, .aload_n 0, 0, 0, 0, 0, 0), (13, .getfield 25, 11, 3, 562, 0, 0), (16, .iload_n 1, 0, 0, 0, 0, 0)]
theorem oX11_receipts_0 : bX11_receipts_0.all (mz_ok RX11 cX11_receipts 7) = true := by decide +kernel
def bX11_receipts_20 : List mz_E := [(20, .ifCond .eq 36, 0, 56, 0, 0, 0)]
theorem oX11_receipts_20 : bX11_receipts_20.all (mz_ok RX11 cX11_receipts 7) = true := by decide +kernel
def bX11_receipts_56 : List mz_E := [(56, .aload_n 0, 0, 0, 0, 0, 0), (57, .iconst 1, 0, 0, 0, 1, 0)]
theorem oX11_receipts_56 : bX11_receipts_56.all (mz_ok RX11 cX11_receipts 7) = true := by decide +kernel
def bX11_receipts_23 : List mz_E := [(23, .aload_n 0, 0, 0, 0, 0, 0), (24, .getfield 25, 11, 3, 562, 0, 0), (27, .iload 4, 0, 0, 0, 0, 0)]
theorem oX11_receipts_23 : bX11_receipts_23.all (mz_ok RX11 cX11_receipts 7) = true := by decide +kernel
def bX11_receipts_32 : List mz_E := [(32, .ifCond .eq 24, 0, 56, 0, 0, 0)]
theorem oX11_receipts_32 : bX11_receipts_32.all (mz_ok RX11 cX11_receipts 7) = true := by decide +kernel
def bX11_receipts_35 : List mz_E := [(35, .iload_n 3, 0, 0, 0, 0, 0), (36, .iconst 1, 0, 0, 0, 1, 0), (37, .if_icmp .lt 19, 0, 56, 0, 0, 0)]
theorem oX11_receipts_35 : bX11_receipts_35.all (mz_ok RX11 cX11_receipts 7) = true := by decide +kernel
def bX11_receipts_40 : List mz_E := [(40, .iload_n 3, 0, 0, 0, 0, 0), (41, .sipush 999, 0, 0, 0, 999, 0), (44, .if_icmp .gt 12, 0, 56, 0, 0, 0)]
theorem oX11_receipts_40 : bX11_receipts_40.all (mz_ok RX11 cX11_receipts 7) = true := by decide +kernel
def bX11_receipts_47 : List mz_E := [(47, .iload_n 2, 0, 0, 0, 0, 0), (48, .ifCond .lt 8, 0, 56, 0, 0, 0)]
theorem oX11_receipts_47 : bX11_receipts_47.all (mz_ok RX11 cX11_receipts 7) = true := by decide +kernel
def bX11_receipts_51 : List mz_E := [(51, .iload 5, 0, 0, 0, 0, 0), (53, .ifCond .ne 9, 0, 62, 0, 0, 0)]
theorem oX11_receipts_51 : bX11_receipts_51.all (mz_ok RX11 cX11_receipts 7) = true := by decide +kernel
def bX11_receipts_62 : List mz_E := [(62, .aload_n 0, 0, 0, 0, 0, 0), (63, .getfield 25, 11, 3, 562, 0, 0), (66, .iload_n 1, 0, 0, 0, 0, 0)]
theorem oX11_receipts_62 : bX11_receipts_62.all (mz_ok RX11 cX11_receipts 7) = true := by decide +kernel
def bX11_receipts_70 : List mz_E := [(70, .ifCond .ne 15, 0, 85, 0, 0, 0)]
theorem oX11_receipts_70 : bX11_receipts_70.all (mz_ok RX11 cX11_receipts 7) = true := by decide +kernel
def bX11_receipts_73 : List mz_E := [(73, .aload_n 0, 0, 0, 0, 0, 0), (74, .getfield 25, 11, 3, 562, 0, 0), (77, .iload 4, 0, 0, 0, 0, 0)]
theorem oX11_receipts_73 : bX11_receipts_73.all (mz_ok RX11 cX11_receipts 7) = true := by decide +kernel
def bX11_receipts_82 : List mz_E := [(82, .ifCond .eq 9, 0, 91, 0, 0, 0)]
theorem oX11_receipts_82 : bX11_receipts_82.all (mz_ok RX11 cX11_receipts 7) = true := by decide +kernel
def bX11_receipts_91 : List mz_E := [(91, .aload_n 0, 0, 0, 0, 0, 0), (92, .getfield 25, 11, 3, 562, 0, 0), (95, .iload_n 1, 0, 0, 0, 0, 0), (96, .iconst 0, 0, 0, 0, 0, 0), (97, .iload_n 2, 0, 0, 0, 0, 0)]
theorem oX11_receipts_91 : bX11_receipts_91.all (mz_ok RX11 cX11_receipts 7) = true := by decide +kernel
def bX11_receipts_101 : List mz_E := [(101, .ifCond .eq 18, 0, 119, 0, 0, 0)]
theorem oX11_receipts_101 : bX11_receipts_101.all (mz_ok RX11 cX11_receipts 7) = true := by decide +kernel
def bX11_receipts_119 : List mz_E := [(119, .aload_n 0, 0, 0, 0, 0, 0), (120, .iconst 3, 0, 0, 0, 3, 0)]
theorem oX11_receipts_119 : bX11_receipts_119.all (mz_ok RX11 cX11_receipts 7) = true := by decide +kernel
def bX11_receipts_104 : List mz_E := [(104, .aload_n 0, 0, 0, 0, 0, 0), (105, .getfield 25, 11, 3, 562, 0, 0), (108, .iload 4, 0, 0, 0, 0, 0), (110, .iconst 0, 0, 0, 0, 0, 0), (111, .iload 5, 0, 0, 0, 0, 0)]
theorem oX11_receipts_104 : bX11_receipts_104.all (mz_ok RX11 cX11_receipts 7) = true := by decide +kernel
def bX11_receipts_116 : List mz_E := [(116, .ifCond .ne 9, 0, 125, 0, 0, 0)]
theorem oX11_receipts_116 : bX11_receipts_116.all (mz_ok RX11 cX11_receipts 7) = true := by decide +kernel
def bX11_receipts_125 : List mz_E := [(125, .aload_n 0, 0, 0, 0, 0, 0), (126, .getfield 25, 11, 3, 562, 0, 0), (129, .iload_n 1, 0, 0, 0, 0, 0), (130, .iload_n 2, 0, 0, 0, 0, 0), (131, .lconst 0, 0, 0, 0, 0, 0), (132, .iload 5, 0, 0, 0, 0, 0), (134, .iconst 1, 0, 0, 0, 1, 0), (135, .isub, 0, 0, 0, 0, 0), (136, .i2l, 0, 0, 0, 0, 0)]
theorem oX11_receipts_125 : bX11_receipts_125.all (mz_ok RX11 cX11_receipts 7) = true := by decide +kernel
def bX11_receipts_140 : List mz_E := [(140, .ifCond .ne 9, 0, 149, 0, 0, 0)]
theorem oX11_receipts_140 : bX11_receipts_140.all (mz_ok RX11 cX11_receipts 7) = true := by decide +kernel
def bX11_receipts_143 : List mz_E := [(143, .aload_n 0, 0, 0, 0, 0, 0), (144, .iconst 5, 0, 0, 0, 5, 0)]
theorem oX11_receipts_143 : bX11_receipts_143.all (mz_ok RX11 cX11_receipts 7) = true := by decide +kernel
def bX11_receipts_149 : List mz_E := [(149, .aload_n 0, 0, 0, 0, 0, 0), (150, .getfield 54, 11, 11, 570, 0, 0), (153, .iconst 0, 0, 0, 0, 0, 0)]
theorem oX11_receipts_149 : bX11_receipts_149.all (mz_ok RX11 cX11_receipts 7) = true := by decide +kernel
def bX11_receipts_157 : List mz_E := [(157, .iconst 0, 0, 0, 0, 0, 0), (158, .istore 6, 0, 0, 0, 0, 0)]
theorem oX11_receipts_157 : bX11_receipts_157.all (mz_ok RX11 cX11_receipts 7) = true := by decide +kernel
def bX11_receipts_160 : List mz_E := [(160, .iload 6, 0, 0, 0, 0, 0), (162, .iload_n 2, 0, 0, 0, 0, 0), (163, .if_icmp .ge 25, 0, 188, 0, 0, 0)]
theorem oX11_receipts_160 : bX11_receipts_160.all (mz_ok RX11 cX11_receipts 7) = true := by decide +kernel
def bX11_receipts_188 : List mz_E := [(188, .iconst 0, 0, 0, 0, 0, 0), (189, .istore 6, 0, 0, 0, 0, 0)]
theorem oX11_receipts_188 : bX11_receipts_188.all (mz_ok RX11 cX11_receipts 7) = true := by decide +kernel
def bX11_receipts_191 : List mz_E := [(191, .iload 6, 0, 0, 0, 0, 0), (193, .iload 5, 0, 0, 0, 0, 0), (195, .if_icmp .ge 28, 0, 223, 0, 0, 0)]
theorem oX11_receipts_191 : bX11_receipts_191.all (mz_ok RX11 cX11_receipts 7) = true := by decide +kernel
def bX11_receipts_223 : List mz_E := [(223, .aload_n 0, 0, 0, 0, 0, 0), (224, .iload 5, 0, 0, 0, 0, 0)]
theorem oX11_receipts_223 : bX11_receipts_223.all (mz_ok RX11 cX11_receipts 7) = true := by decide +kernel
def bX11_receipts_198 : List mz_E := [(198, .aload_n 0, 0, 0, 0, 0, 0), (199, .getfield 25, 11, 3, 562, 0, 0), (202, .iload 4, 0, 0, 0, 0, 0), (204, .iload 6, 0, 0, 0, 0, 0), (206, .aload_n 0, 0, 0, 0, 0, 0), (207, .getfield 54, 11, 11, 570, 0, 0), (210, .iload 6, 0, 0, 0, 0, 0), (212, .iaload, 0, 0, 0, 0, 0), (213, .i2l, 0, 0, 0, 0, 0)]
theorem oX11_receipts_198 : bX11_receipts_198.all (mz_ok RX11 cX11_receipts 7) = true := by decide +kernel
def bX11_receipts_217 : List mz_E := [(217, .iinc 6 1, 0, 0, 0, 1, 0), (220, .goto (-29), 0, 191, 0, 0, 0)]
theorem oX11_receipts_217 : bX11_receipts_217.all (mz_ok RX11 cX11_receipts 7) = true := by decide +kernel
def bX11_receipts_166 : List mz_E := [(166, .aload_n 0, 0, 0, 0, 0, 0), (167, .aload_n 0, 0, 0, 0, 0, 0), (168, .getfield 25, 11, 3, 562, 0, 0), (171, .iload_n 1, 0, 0, 0, 0, 0), (172, .iload 6, 0, 0, 0, 0, 0)]
theorem oX11_receipts_166 : bX11_receipts_166.all (mz_ok RX11 cX11_receipts 7) = true := by decide +kernel
def bX11_receipts_177 : List mz_E := [(177, .l2i, 0, 0, 0, 0, 0), (178, .iload_n 3, 0, 0, 0, 0, 0)]
theorem oX11_receipts_177 : bX11_receipts_177.all (mz_ok RX11 cX11_receipts 7) = true := by decide +kernel
def bX11_receipts_182 : List mz_E := [(182, .iinc 6 1, 0, 0, 0, 1, 0), (185, .goto (-25), 0, 160, 0, 0, 0)]
theorem oX11_receipts_182 : bX11_receipts_182.all (mz_ok RX11 cX11_receipts 7) = true := by decide +kernel
def bX11_receipts_85 : List mz_E := [(85, .aload_n 0, 0, 0, 0, 0, 0), (86, .iconst 2, 0, 0, 0, 2, 0)]
theorem oX11_receipts_85 : bX11_receipts_85.all (mz_ok RX11 cX11_receipts 7) = true := by decide +kernel
abbrev IX11_receipts : mz_I := (yX11_receipts, cX11_receipts, 7, (some .int), 0, 3, 0, 0)
theorem kX11_receipts : mz_okm IX11_receipts 1463 126 1461 4 = true := by decide +kernel
theorem vX11_receipts : mz_okV IX11_receipts 1461 1462 = true := by decide +kernel
def fX11_receipts_191 : Nat → Int32 → Int32 → Int32 → mz_D → Option (Int32 × mz_D)
  | 0 => fun _ _ _ _ => none
  | n + 1 => fun x4 x5 x6 D => (if x5 ≤ x6 then (some (x5, (mz_wi D 0 0 13 (0 : Int32)))) else (mz_gd (mz_ix x6 6) (Option.bind (fX8_put x4 x6 ((D.1 0 14 (x6).toNatClampNeg)).toInt64 D) fun q3 => ((fX11_receipts_191 n) x4 x5 (x6 + (1 : Int32)) q3))))
set_option maxHeartbeats 4000000 in
theorem tX11_receipts_191 (r : (Int32 × mz_D)) : ∀ (n : Nat) (x4 : Int32) (x5 : Int32) (x6 : Int32) (D : mz_D), fX11_receipts_191 n x4 x5 x6 D = some r → mz_Go IX11_receipts (some (.inl r.1), r.2) 0 0 (191, [some (.inr (.inr (some (0, 0)))), none, none, none, some (.inl x4), some (.inl x5), some (.inl x6)], [], D) := by
  intro n
  induction n with
  | zero => intro x4 x5 x6 D h; have h : (none : Option (Int32 × mz_D)) = some r := h; cases h
  | succ n ih =>
    intro x4 x5 x6 D h
    rw [fX11_receipts_191] at h
    refine mz_Go.run (gs := []) (st' := (if x5 ≤ x6 then (223, [some (.inr (.inr (some (0, 0)))), none, none, none, some (.inl x4), some (.inl x5), some (.inl x6)], [], D) else (198, [some (.inr (.inr (some (0, 0)))), none, none, none, some (.inl x4), some (.inl x5), some (.inl x6)], [], D))) bX11_receipts_191 oX11_receipts_191 rfl trivial ?_
    refine mz_Go.ite (fun hc1 => ?_) (fun hc1 => ?_)
    · have h := mz_ifp hc1 h
      refine mz_Go.run (gs := []) (st' := (226, [some (.inr (.inr (some (0, 0)))), none, none, none, some (.inl x4), some (.inl x5), some (.inl x6)], [.inl x5, .inr (.inr (some (0, 0)))], D)) bX11_receipts_223 oX11_receipts_223 rfl trivial ?_
      refine mz_Go.callV (I := IX11_receipts) (J := IX11_answer) (as := [.inl x5]) (ci := 11) (g := 0) (o := 0) (idx := 160) (pl := 914) (rest := []) (mX11_answer x5 D) kX11_answer vX11_answer (by decide +kernel) (by decide +kernel) (by decide +kernel) rfl rfl ⟨rfl, rfl⟩ rfl rfl rfl rfl ?_
      cases h
      exact mz_Go.reti (by decide +kernel) rfl ⟨Nat.le_refl _, Nat.le_refl _⟩ rfl
    · have h := mz_ifn hc1 h
      obtain ⟨hb2, h⟩ := mz_gd_some h
      refine mz_Go.run (gs := [mz_kz 0 0 0, mz_kz 0 0 0, mz_kz 0 0 14, mz_ix x6 6]) (st' := (214, [some (.inr (.inr (some (0, 0)))), none, none, none, some (.inl x4), some (.inl x5), some (.inl x6)], [.inr (.inl ((D.1 0 14 (x6).toNatClampNeg)).toInt64), .inl x6, .inl x4, .inr (.inr (some (0, 4)))], D)) bX11_receipts_198 oX11_receipts_198 rfl ⟨rfl, rfl, rfl, hb2, trivial⟩ ?_
      obtain ⟨q3, hq3, h⟩ := mz_bd_some h
      refine mz_Go.callV (I := IX11_receipts) (J := IX8_put) (as := [.inl x4, .inl x6, .inr (.inl ((D.1 0 14 (x6).toNatClampNeg)).toInt64)]) (ci := 8) (g := 0) (o := 4) (idx := 96) (pl := 662) (rest := []) (mX8_put x4 x6 ((D.1 0 14 (x6).toNatClampNeg)).toInt64 D q3 hq3) kX8_put vX8_put (by decide +kernel) (by decide +kernel) (by decide +kernel) rfl rfl ⟨rfl, rfl⟩ rfl rfl rfl rfl ?_
      refine mz_Go.run (gs := []) (st' := (191, [some (.inr (.inr (some (0, 0)))), none, none, none, some (.inl x4), some (.inl x5), some (.inl (x6 + (1 : Int32)))], [], q3)) bX11_receipts_217 oX11_receipts_217 rfl trivial ?_
      exact mz_Go.drop [true, false, false, false, true, true, true] (ih x4 x5 (x6 + (1 : Int32)) q3 h)
def fX11_receipts_160 : Nat → Int32 → Int32 → Int32 → Int32 → Int32 → Int32 → mz_D → Option (Int32 × mz_D)
  | 0 => fun _ _ _ _ _ _ _ => none
  | n + 1 => fun x1 x2 x3 x4 x5 x6 D => (if x2 ≤ x6 then (fX11_receipts_191 mz_N x4 x5 (0 : Int32) D) else (Option.bind (fX8_get x1 x6 D) fun q2 => (Option.bind (fX11_addReceipt (q2).toInt32 x3 D) fun q3 => ((fX11_receipts_160 n) x1 x2 x3 x4 x5 (x6 + (1 : Int32)) q3))))
set_option maxHeartbeats 4000000 in
theorem tX11_receipts_160 (r : (Int32 × mz_D)) : ∀ (n : Nat) (x1 : Int32) (x2 : Int32) (x3 : Int32) (x4 : Int32) (x5 : Int32) (x6 : Int32) (D : mz_D), fX11_receipts_160 n x1 x2 x3 x4 x5 x6 D = some r → mz_Go IX11_receipts (some (.inl r.1), r.2) 0 0 (160, [some (.inr (.inr (some (0, 0)))), some (.inl x1), some (.inl x2), some (.inl x3), some (.inl x4), some (.inl x5), some (.inl x6)], [], D) := by
  intro n
  induction n with
  | zero => intro x1 x2 x3 x4 x5 x6 D h; have h : (none : Option (Int32 × mz_D)) = some r := h; cases h
  | succ n ih =>
    intro x1 x2 x3 x4 x5 x6 D h
    rw [fX11_receipts_160] at h
    refine mz_Go.run (gs := []) (st' := (if x2 ≤ x6 then (188, [some (.inr (.inr (some (0, 0)))), some (.inl x1), some (.inl x2), some (.inl x3), some (.inl x4), some (.inl x5), some (.inl x6)], [], D) else (166, [some (.inr (.inr (some (0, 0)))), some (.inl x1), some (.inl x2), some (.inl x3), some (.inl x4), some (.inl x5), some (.inl x6)], [], D))) bX11_receipts_160 oX11_receipts_160 rfl trivial ?_
    refine mz_Go.ite (fun hc1 => ?_) (fun hc1 => ?_)
    · have h := mz_ifp hc1 h
      refine mz_Go.run (gs := []) (st' := (191, [some (.inr (.inr (some (0, 0)))), some (.inl x1), some (.inl x2), some (.inl x3), some (.inl x4), some (.inl x5), some (.inl (0 : Int32))], [], D)) bX11_receipts_188 oX11_receipts_188 rfl trivial ?_
      exact mz_Go.drop [true, false, false, false, true, true, true] (tX11_receipts_191 r mz_N x4 x5 (0 : Int32) D h)
    · have h := mz_ifn hc1 h
      refine mz_Go.run (gs := [mz_kz 0 0 0]) (st' := (174, [some (.inr (.inr (some (0, 0)))), some (.inl x1), some (.inl x2), some (.inl x3), some (.inl x4), some (.inl x5), some (.inl x6)], [.inl x6, .inl x1, .inr (.inr (some (0, 4))), .inr (.inr (some (0, 0)))], D)) bX11_receipts_166 oX11_receipts_166 rfl ⟨rfl, trivial⟩ ?_
      obtain ⟨q2, hq2, h⟩ := mz_bd_some h
      refine mz_Go.callV (I := IX11_receipts) (J := IX8_get) (as := [.inl x1, .inl x6]) (ci := 8) (g := 0) (o := 4) (idx := 104) (pl := 677) (rest := [.inr (.inr (some (0, 0)))]) (mX8_get x1 x6 D q2 hq2) kX8_get vX8_get (by decide +kernel) (by decide +kernel) (by decide +kernel) rfl rfl ⟨rfl, rfl⟩ rfl rfl rfl rfl ?_
      refine mz_Go.run (gs := []) (st' := (179, [some (.inr (.inr (some (0, 0)))), some (.inl x1), some (.inl x2), some (.inl x3), some (.inl x4), some (.inl x5), some (.inl x6)], [.inl x3, .inl (q2).toInt32, .inr (.inr (some (0, 0)))], D)) bX11_receipts_177 oX11_receipts_177 rfl trivial ?_
      obtain ⟨q3, hq3, h⟩ := mz_bd_some h
      refine mz_Go.callV (I := IX11_receipts) (J := IX11_addReceipt) (as := [.inl (q2).toInt32, .inl x3]) (ci := 11) (g := 0) (o := 0) (idx := 442) (pl := 1470) (rest := []) (mX11_addReceipt (q2).toInt32 x3 D q3 hq3) kX11_addReceipt vX11_addReceipt (by decide +kernel) (by decide +kernel) (by decide +kernel) rfl rfl ⟨rfl, rfl⟩ rfl rfl rfl rfl ?_
      refine mz_Go.run (gs := []) (st' := (160, [some (.inr (.inr (some (0, 0)))), some (.inl x1), some (.inl x2), some (.inl x3), some (.inl x4), some (.inl x5), some (.inl (x6 + (1 : Int32)))], [], q3)) bX11_receipts_182 oX11_receipts_182 rfl trivial ?_
      exact mz_Go.drop [true, true, true, true, true, true, true] (ih x1 x2 x3 x4 x5 (x6 + (1 : Int32)) q3 h)
def fX11_receipts (x1 : Int32) (x2 : Int32) (x3 : Int32) (x4 : Int32) (D : mz_D) : Option (Int32 × mz_D) := (if (fX8_has x1) = 0 then (some ((-1 : Int32), (mz_wi D 0 0 13 (1 : Int32)))) else (if (fX8_has x4) = 0 then (some ((-1 : Int32), (mz_wi D 0 0 13 (1 : Int32)))) else (if x3 < (1 : Int32) then (some ((-1 : Int32), (mz_wi D 0 0 13 (1 : Int32)))) else (if (999 : Int32) < x3 then (some ((-1 : Int32), (mz_wi D 0 0 13 (1 : Int32)))) else (if x2 < 0 then (some ((-1 : Int32), (mz_wi D 0 0 13 (1 : Int32)))) else (if (D.1 1 101 0) = 0 then (some ((-1 : Int32), (mz_wi D 0 0 13 (1 : Int32)))) else (Option.bind (fX8_isMissing x1 D) fun q7 => (if q7 = 0 then (Option.bind (fX8_isMissing x4 D) fun q9 => (if q9 = 0 then (Option.bind (fX8_holds x1 (0 : Int32) x2 D) fun q11 => (if q11 = 0 then (some ((-1 : Int32), (mz_wi D 0 0 13 (3 : Int32)))) else (Option.bind (fX8_holds x4 (0 : Int32) (D.1 1 101 0) D) fun q13 => (if q13 = 0 then (some ((-1 : Int32), (mz_wi D 0 0 13 (3 : Int32)))) else (Option.bind (fX8_areWithin x1 x2 (0 : Int64) (((D.1 1 101 0) - (1 : Int32))).toInt64 D) fun q15 => (if q15 = 0 then (some ((-1 : Int32), (mz_wi D 0 0 13 (5 : Int32)))) else (Option.bind (fJ7_fill_53178_14 (0 : Int32) D) fun q17 => (fX11_receipts_160 mz_N x1 x2 x3 x4 (D.1 1 101 0) (0 : Int32) q17)))))))) else (some ((-1 : Int32), (mz_wi D 0 0 13 (2 : Int32)))))) else (some ((-1 : Int32), (mz_wi D 0 0 13 (2 : Int32))))))))))))
set_option maxHeartbeats 4000000 in
theorem mX11_receipts (x1 : Int32) (x2 : Int32) (x3 : Int32) (x4 : Int32) (D : mz_D) (r : (Int32 × mz_D)) (h : fX11_receipts x1 x2 x3 x4 D = some r) : mz_Met IX11_receipts [.inr (.inr (some (0, 0))), .inl x1, .inl x2, .inl x3, .inl x4] D (some (.inl r.1), r.2) := by
  refine mz_Met.of (by decide +kernel) (Nat.le_of_ble_eq_true rfl) ?_
  show mz_Go IX11_receipts (some (.inl r.1), r.2) 0 0 (0, [some (.inr (.inr (some (0, 0)))), some (.inl x1), some (.inl x2), some (.inl x3), some (.inl x4), none, none], [], D)
  rw [fX11_receipts] at h
  refine mz_Go.run (gs := [mz_kz 0 0 0, mz_kz 0 1 100, mz_kz 0 1 101, mz_kz 0 0 0]) (st' := (17, [some (.inr (.inr (some (0, 0)))), some (.inl x1), some (.inl x2), some (.inl x3), some (.inl x4), some (.inl (D.1 1 101 0)), none], [.inl x1, .inr (.inr (some (0, 4)))], D)) bX11_receipts_0 oX11_receipts_0 rfl ⟨rfl, rfl, rfl, rfl, trivial⟩ ?_
  refine mz_Go.callV (I := IX11_receipts) (J := IX8_has) (as := [.inl x1]) (ci := 8) (g := 0) (o := 4) (idx := 77) (pl := 630) (rest := []) (mX8_has x1 D _ rfl) kX8_has vX8_has (by decide +kernel) (by decide +kernel) (by decide +kernel) rfl rfl ⟨rfl, rfl⟩ rfl rfl rfl rfl ?_
  refine mz_Go.run (gs := []) (st' := (if (fX8_has x1) = 0 then (56, [some (.inr (.inr (some (0, 0)))), some (.inl x1), some (.inl x2), some (.inl x3), some (.inl x4), some (.inl (D.1 1 101 0)), none], [], D) else (23, [some (.inr (.inr (some (0, 0)))), some (.inl x1), some (.inl x2), some (.inl x3), some (.inl x4), some (.inl (D.1 1 101 0)), none], [], D))) bX11_receipts_20 oX11_receipts_20 rfl trivial ?_
  refine mz_Go.ite (fun hc1 => ?_) (fun hc1 => ?_)
  · have h := mz_ifp hc1 h
    refine mz_Go.run (gs := []) (st' := (58, [some (.inr (.inr (some (0, 0)))), some (.inl x1), some (.inl x2), some (.inl x3), some (.inl x4), some (.inl (D.1 1 101 0)), none], [.inl (1 : Int32), .inr (.inr (some (0, 0)))], D)) bX11_receipts_56 oX11_receipts_56 rfl trivial ?_
    refine mz_Go.callV (I := IX11_receipts) (J := IX11_refuse) (as := [.inl (1 : Int32)]) (ci := 11) (g := 0) (o := 0) (idx := 100) (pl := 673) (rest := []) (mX11_refuse (1 : Int32) D) kX11_refuse vX11_refuse (by decide +kernel) (by decide +kernel) (by decide +kernel) rfl rfl ⟨rfl, rfl⟩ rfl rfl rfl rfl ?_
    cases h
    exact mz_Go.reti (by decide +kernel) rfl ⟨Nat.le_refl _, Nat.le_refl _⟩ rfl
  · have h := mz_ifn hc1 h
    refine mz_Go.run (gs := [mz_kz 0 0 0]) (st' := (29, [some (.inr (.inr (some (0, 0)))), some (.inl x1), some (.inl x2), some (.inl x3), some (.inl x4), some (.inl (D.1 1 101 0)), none], [.inl x4, .inr (.inr (some (0, 4)))], D)) bX11_receipts_23 oX11_receipts_23 rfl ⟨rfl, trivial⟩ ?_
    refine mz_Go.callV (I := IX11_receipts) (J := IX8_has) (as := [.inl x4]) (ci := 8) (g := 0) (o := 4) (idx := 77) (pl := 630) (rest := []) (mX8_has x4 D _ rfl) kX8_has vX8_has (by decide +kernel) (by decide +kernel) (by decide +kernel) rfl rfl ⟨rfl, rfl⟩ rfl rfl rfl rfl ?_
    refine mz_Go.run (gs := []) (st' := (if (fX8_has x4) = 0 then (56, [some (.inr (.inr (some (0, 0)))), some (.inl x1), some (.inl x2), some (.inl x3), some (.inl x4), some (.inl (D.1 1 101 0)), none], [], D) else (35, [some (.inr (.inr (some (0, 0)))), some (.inl x1), some (.inl x2), some (.inl x3), some (.inl x4), some (.inl (D.1 1 101 0)), none], [], D))) bX11_receipts_32 oX11_receipts_32 rfl trivial ?_
    refine mz_Go.ite (fun hc2 => ?_) (fun hc2 => ?_)
    · have h := mz_ifp hc2 h
      refine mz_Go.run (gs := []) (st' := (58, [some (.inr (.inr (some (0, 0)))), some (.inl x1), some (.inl x2), some (.inl x3), some (.inl x4), some (.inl (D.1 1 101 0)), none], [.inl (1 : Int32), .inr (.inr (some (0, 0)))], D)) bX11_receipts_56 oX11_receipts_56 rfl trivial ?_
      refine mz_Go.callV (I := IX11_receipts) (J := IX11_refuse) (as := [.inl (1 : Int32)]) (ci := 11) (g := 0) (o := 0) (idx := 100) (pl := 673) (rest := []) (mX11_refuse (1 : Int32) D) kX11_refuse vX11_refuse (by decide +kernel) (by decide +kernel) (by decide +kernel) rfl rfl ⟨rfl, rfl⟩ rfl rfl rfl rfl ?_
      cases h
      exact mz_Go.reti (by decide +kernel) rfl ⟨Nat.le_refl _, Nat.le_refl _⟩ rfl
    · have h := mz_ifn hc2 h
      refine mz_Go.run (gs := []) (st' := (if x3 < (1 : Int32) then (56, [some (.inr (.inr (some (0, 0)))), some (.inl x1), some (.inl x2), some (.inl x3), some (.inl x4), some (.inl (D.1 1 101 0)), none], [], D) else (40, [some (.inr (.inr (some (0, 0)))), some (.inl x1), some (.inl x2), some (.inl x3), some (.inl x4), some (.inl (D.1 1 101 0)), none], [], D))) bX11_receipts_35 oX11_receipts_35 rfl trivial ?_
      refine mz_Go.ite (fun hc3 => ?_) (fun hc3 => ?_)
      · have h := mz_ifp hc3 h
        refine mz_Go.run (gs := []) (st' := (58, [some (.inr (.inr (some (0, 0)))), some (.inl x1), some (.inl x2), some (.inl x3), some (.inl x4), some (.inl (D.1 1 101 0)), none], [.inl (1 : Int32), .inr (.inr (some (0, 0)))], D)) bX11_receipts_56 oX11_receipts_56 rfl trivial ?_
        refine mz_Go.callV (I := IX11_receipts) (J := IX11_refuse) (as := [.inl (1 : Int32)]) (ci := 11) (g := 0) (o := 0) (idx := 100) (pl := 673) (rest := []) (mX11_refuse (1 : Int32) D) kX11_refuse vX11_refuse (by decide +kernel) (by decide +kernel) (by decide +kernel) rfl rfl ⟨rfl, rfl⟩ rfl rfl rfl rfl ?_
        cases h
        exact mz_Go.reti (by decide +kernel) rfl ⟨Nat.le_refl _, Nat.le_refl _⟩ rfl
      · have h := mz_ifn hc3 h
        refine mz_Go.run (gs := []) (st' := (if (999 : Int32) < x3 then (56, [some (.inr (.inr (some (0, 0)))), some (.inl x1), some (.inl x2), some (.inl x3), some (.inl x4), some (.inl (D.1 1 101 0)), none], [], D) else (47, [some (.inr (.inr (some (0, 0)))), some (.inl x1), some (.inl x2), some (.inl x3), some (.inl x4), some (.inl (D.1 1 101 0)), none], [], D))) bX11_receipts_40 oX11_receipts_40 rfl trivial ?_
        refine mz_Go.ite (fun hc4 => ?_) (fun hc4 => ?_)
        · have h := mz_ifp hc4 h
          refine mz_Go.run (gs := []) (st' := (58, [some (.inr (.inr (some (0, 0)))), some (.inl x1), some (.inl x2), some (.inl x3), some (.inl x4), some (.inl (D.1 1 101 0)), none], [.inl (1 : Int32), .inr (.inr (some (0, 0)))], D)) bX11_receipts_56 oX11_receipts_56 rfl trivial ?_
          refine mz_Go.callV (I := IX11_receipts) (J := IX11_refuse) (as := [.inl (1 : Int32)]) (ci := 11) (g := 0) (o := 0) (idx := 100) (pl := 673) (rest := []) (mX11_refuse (1 : Int32) D) kX11_refuse vX11_refuse (by decide +kernel) (by decide +kernel) (by decide +kernel) rfl rfl ⟨rfl, rfl⟩ rfl rfl rfl rfl ?_
          cases h
          exact mz_Go.reti (by decide +kernel) rfl ⟨Nat.le_refl _, Nat.le_refl _⟩ rfl
        · have h := mz_ifn hc4 h
          refine mz_Go.run (gs := []) (st' := (if x2 < 0 then (56, [some (.inr (.inr (some (0, 0)))), some (.inl x1), some (.inl x2), some (.inl x3), some (.inl x4), some (.inl (D.1 1 101 0)), none], [], D) else (51, [some (.inr (.inr (some (0, 0)))), some (.inl x1), some (.inl x2), some (.inl x3), some (.inl x4), some (.inl (D.1 1 101 0)), none], [], D))) bX11_receipts_47 oX11_receipts_47 rfl trivial ?_
          refine mz_Go.ite (fun hc5 => ?_) (fun hc5 => ?_)
          · have h := mz_ifp hc5 h
            refine mz_Go.run (gs := []) (st' := (58, [some (.inr (.inr (some (0, 0)))), some (.inl x1), some (.inl x2), some (.inl x3), some (.inl x4), some (.inl (D.1 1 101 0)), none], [.inl (1 : Int32), .inr (.inr (some (0, 0)))], D)) bX11_receipts_56 oX11_receipts_56 rfl trivial ?_
            refine mz_Go.callV (I := IX11_receipts) (J := IX11_refuse) (as := [.inl (1 : Int32)]) (ci := 11) (g := 0) (o := 0) (idx := 100) (pl := 673) (rest := []) (mX11_refuse (1 : Int32) D) kX11_refuse vX11_refuse (by decide +kernel) (by decide +kernel) (by decide +kernel) rfl rfl ⟨rfl, rfl⟩ rfl rfl rfl rfl ?_
            cases h
            exact mz_Go.reti (by decide +kernel) rfl ⟨Nat.le_refl _, Nat.le_refl _⟩ rfl
          · have h := mz_ifn hc5 h
            refine mz_Go.run (gs := []) (st' := (if (D.1 1 101 0) = 0 then (56, [some (.inr (.inr (some (0, 0)))), some (.inl x1), some (.inl x2), some (.inl x3), some (.inl x4), some (.inl (D.1 1 101 0)), none], [], D) else (62, [some (.inr (.inr (some (0, 0)))), some (.inl x1), some (.inl x2), some (.inl x3), some (.inl x4), some (.inl (D.1 1 101 0)), none], [], D))) bX11_receipts_51 oX11_receipts_51 rfl trivial ?_
            refine mz_Go.ite (fun hc6 => ?_) (fun hc6 => ?_)
            · have h := mz_ifp hc6 h
              refine mz_Go.run (gs := []) (st' := (58, [some (.inr (.inr (some (0, 0)))), some (.inl x1), some (.inl x2), some (.inl x3), some (.inl x4), some (.inl (D.1 1 101 0)), none], [.inl (1 : Int32), .inr (.inr (some (0, 0)))], D)) bX11_receipts_56 oX11_receipts_56 rfl trivial ?_
              refine mz_Go.callV (I := IX11_receipts) (J := IX11_refuse) (as := [.inl (1 : Int32)]) (ci := 11) (g := 0) (o := 0) (idx := 100) (pl := 673) (rest := []) (mX11_refuse (1 : Int32) D) kX11_refuse vX11_refuse (by decide +kernel) (by decide +kernel) (by decide +kernel) rfl rfl ⟨rfl, rfl⟩ rfl rfl rfl rfl ?_
              cases h
              exact mz_Go.reti (by decide +kernel) rfl ⟨Nat.le_refl _, Nat.le_refl _⟩ rfl
            · have h := mz_ifn hc6 h
              refine mz_Go.run (gs := [mz_kz 0 0 0]) (st' := (67, [some (.inr (.inr (some (0, 0)))), some (.inl x1), some (.inl x2), some (.inl x3), some (.inl x4), some (.inl (D.1 1 101 0)), none], [.inl x1, .inr (.inr (some (0, 4)))], D)) bX11_receipts_62 oX11_receipts_62 rfl ⟨rfl, trivial⟩ ?_
              obtain ⟨q7, hq7, h⟩ := mz_bd_some h
              refine mz_Go.callV (I := IX11_receipts) (J := IX8_isMissing) (as := [.inl x1]) (ci := 8) (g := 0) (o := 4) (idx := 108) (pl := 654) (rest := []) (mX8_isMissing x1 D q7 hq7) kX8_isMissing vX8_isMissing (by decide +kernel) (by decide +kernel) (by decide +kernel) rfl rfl ⟨rfl, rfl⟩ rfl rfl rfl rfl ?_
              refine mz_Go.run (gs := []) (st' := (if q7 = 0 then (73, [some (.inr (.inr (some (0, 0)))), some (.inl x1), some (.inl x2), some (.inl x3), some (.inl x4), some (.inl (D.1 1 101 0)), none], [], D) else (85, [some (.inr (.inr (some (0, 0)))), some (.inl x1), some (.inl x2), some (.inl x3), some (.inl x4), some (.inl (D.1 1 101 0)), none], [], D))) bX11_receipts_70 oX11_receipts_70 rfl trivial ?_
              refine mz_Go.ite (fun hc8 => ?_) (fun hc8 => ?_)
              · have h := mz_ifp hc8 h
                refine mz_Go.run (gs := [mz_kz 0 0 0]) (st' := (79, [some (.inr (.inr (some (0, 0)))), some (.inl x1), some (.inl x2), some (.inl x3), some (.inl x4), some (.inl (D.1 1 101 0)), none], [.inl x4, .inr (.inr (some (0, 4)))], D)) bX11_receipts_73 oX11_receipts_73 rfl ⟨rfl, trivial⟩ ?_
                obtain ⟨q9, hq9, h⟩ := mz_bd_some h
                refine mz_Go.callV (I := IX11_receipts) (J := IX8_isMissing) (as := [.inl x4]) (ci := 8) (g := 0) (o := 4) (idx := 108) (pl := 654) (rest := []) (mX8_isMissing x4 D q9 hq9) kX8_isMissing vX8_isMissing (by decide +kernel) (by decide +kernel) (by decide +kernel) rfl rfl ⟨rfl, rfl⟩ rfl rfl rfl rfl ?_
                refine mz_Go.run (gs := []) (st' := (if q9 = 0 then (91, [some (.inr (.inr (some (0, 0)))), some (.inl x1), some (.inl x2), some (.inl x3), some (.inl x4), some (.inl (D.1 1 101 0)), none], [], D) else (85, [some (.inr (.inr (some (0, 0)))), some (.inl x1), some (.inl x2), some (.inl x3), some (.inl x4), some (.inl (D.1 1 101 0)), none], [], D))) bX11_receipts_82 oX11_receipts_82 rfl trivial ?_
                refine mz_Go.ite (fun hc10 => ?_) (fun hc10 => ?_)
                · have h := mz_ifp hc10 h
                  refine mz_Go.run (gs := [mz_kz 0 0 0]) (st' := (98, [some (.inr (.inr (some (0, 0)))), some (.inl x1), some (.inl x2), some (.inl x3), some (.inl x4), some (.inl (D.1 1 101 0)), none], [.inl x2, .inl (0 : Int32), .inl x1, .inr (.inr (some (0, 4)))], D)) bX11_receipts_91 oX11_receipts_91 rfl ⟨rfl, trivial⟩ ?_
                  obtain ⟨q11, hq11, h⟩ := mz_bd_some h
                  refine mz_Go.callV (I := IX11_receipts) (J := IX8_holds) (as := [.inl x1, .inl (0 : Int32), .inl x2]) (ci := 8) (g := 0) (o := 4) (idx := 114) (pl := 658) (rest := []) (mX8_holds x1 (0 : Int32) x2 D q11 hq11) kX8_holds vX8_holds (by decide +kernel) (by decide +kernel) (by decide +kernel) rfl rfl ⟨rfl, rfl⟩ rfl rfl rfl rfl ?_
                  refine mz_Go.run (gs := []) (st' := (if q11 = 0 then (119, [some (.inr (.inr (some (0, 0)))), some (.inl x1), some (.inl x2), some (.inl x3), some (.inl x4), some (.inl (D.1 1 101 0)), none], [], D) else (104, [some (.inr (.inr (some (0, 0)))), some (.inl x1), some (.inl x2), some (.inl x3), some (.inl x4), some (.inl (D.1 1 101 0)), none], [], D))) bX11_receipts_101 oX11_receipts_101 rfl trivial ?_
                  refine mz_Go.ite (fun hc12 => ?_) (fun hc12 => ?_)
                  · have h := mz_ifp hc12 h
                    refine mz_Go.run (gs := []) (st' := (121, [some (.inr (.inr (some (0, 0)))), some (.inl x1), some (.inl x2), some (.inl x3), some (.inl x4), some (.inl (D.1 1 101 0)), none], [.inl (3 : Int32), .inr (.inr (some (0, 0)))], D)) bX11_receipts_119 oX11_receipts_119 rfl trivial ?_
                    refine mz_Go.callV (I := IX11_receipts) (J := IX11_refuse) (as := [.inl (3 : Int32)]) (ci := 11) (g := 0) (o := 0) (idx := 100) (pl := 673) (rest := []) (mX11_refuse (3 : Int32) D) kX11_refuse vX11_refuse (by decide +kernel) (by decide +kernel) (by decide +kernel) rfl rfl ⟨rfl, rfl⟩ rfl rfl rfl rfl ?_
                    cases h
                    exact mz_Go.reti (by decide +kernel) rfl ⟨Nat.le_refl _, Nat.le_refl _⟩ rfl
                  · have h := mz_ifn hc12 h
                    refine mz_Go.run (gs := [mz_kz 0 0 0]) (st' := (113, [some (.inr (.inr (some (0, 0)))), some (.inl x1), some (.inl x2), some (.inl x3), some (.inl x4), some (.inl (D.1 1 101 0)), none], [.inl (D.1 1 101 0), .inl (0 : Int32), .inl x4, .inr (.inr (some (0, 4)))], D)) bX11_receipts_104 oX11_receipts_104 rfl ⟨rfl, trivial⟩ ?_
                    obtain ⟨q13, hq13, h⟩ := mz_bd_some h
                    refine mz_Go.callV (I := IX11_receipts) (J := IX8_holds) (as := [.inl x4, .inl (0 : Int32), .inl (D.1 1 101 0)]) (ci := 8) (g := 0) (o := 4) (idx := 114) (pl := 658) (rest := []) (mX8_holds x4 (0 : Int32) (D.1 1 101 0) D q13 hq13) kX8_holds vX8_holds (by decide +kernel) (by decide +kernel) (by decide +kernel) rfl rfl ⟨rfl, rfl⟩ rfl rfl rfl rfl ?_
                    refine mz_Go.run (gs := []) (st' := (if q13 = 0 then (119, [some (.inr (.inr (some (0, 0)))), some (.inl x1), some (.inl x2), some (.inl x3), some (.inl x4), some (.inl (D.1 1 101 0)), none], [], D) else (125, [some (.inr (.inr (some (0, 0)))), some (.inl x1), some (.inl x2), some (.inl x3), some (.inl x4), some (.inl (D.1 1 101 0)), none], [], D))) bX11_receipts_116 oX11_receipts_116 rfl trivial ?_
                    refine mz_Go.ite (fun hc14 => ?_) (fun hc14 => ?_)
                    · have h := mz_ifp hc14 h
                      refine mz_Go.run (gs := []) (st' := (121, [some (.inr (.inr (some (0, 0)))), some (.inl x1), some (.inl x2), some (.inl x3), some (.inl x4), some (.inl (D.1 1 101 0)), none], [.inl (3 : Int32), .inr (.inr (some (0, 0)))], D)) bX11_receipts_119 oX11_receipts_119 rfl trivial ?_
                      refine mz_Go.callV (I := IX11_receipts) (J := IX11_refuse) (as := [.inl (3 : Int32)]) (ci := 11) (g := 0) (o := 0) (idx := 100) (pl := 673) (rest := []) (mX11_refuse (3 : Int32) D) kX11_refuse vX11_refuse (by decide +kernel) (by decide +kernel) (by decide +kernel) rfl rfl ⟨rfl, rfl⟩ rfl rfl rfl rfl ?_
                      cases h
                      exact mz_Go.reti (by decide +kernel) rfl ⟨Nat.le_refl _, Nat.le_refl _⟩ rfl
                    · have h := mz_ifn hc14 h
                      refine mz_Go.run (gs := [mz_kz 0 0 0]) (st' := (137, [some (.inr (.inr (some (0, 0)))), some (.inl x1), some (.inl x2), some (.inl x3), some (.inl x4), some (.inl (D.1 1 101 0)), none], [.inr (.inl (((D.1 1 101 0) - (1 : Int32))).toInt64), .inr (.inl (0 : Int64)), .inl x2, .inl x1, .inr (.inr (some (0, 4)))], D)) bX11_receipts_125 oX11_receipts_125 rfl ⟨rfl, trivial⟩ ?_
                      obtain ⟨q15, hq15, h⟩ := mz_bd_some h
                      refine mz_Go.callV (I := IX11_receipts) (J := IX8_areWithin) (as := [.inl x1, .inl x2, .inr (.inl (0 : Int64)), .inr (.inl (((D.1 1 101 0) - (1 : Int32))).toInt64)]) (ci := 8) (g := 0) (o := 4) (idx := 432) (pl := 1464) (rest := []) (mX8_areWithin x1 x2 (0 : Int64) (((D.1 1 101 0) - (1 : Int32))).toInt64 D q15 hq15) kX8_areWithin vX8_areWithin (by decide +kernel) (by decide +kernel) (by decide +kernel) rfl rfl ⟨rfl, rfl⟩ rfl rfl rfl rfl ?_
                      refine mz_Go.run (gs := []) (st' := (if q15 = 0 then (143, [some (.inr (.inr (some (0, 0)))), some (.inl x1), some (.inl x2), some (.inl x3), some (.inl x4), some (.inl (D.1 1 101 0)), none], [], D) else (149, [some (.inr (.inr (some (0, 0)))), some (.inl x1), some (.inl x2), some (.inl x3), some (.inl x4), some (.inl (D.1 1 101 0)), none], [], D))) bX11_receipts_140 oX11_receipts_140 rfl trivial ?_
                      refine mz_Go.ite (fun hc16 => ?_) (fun hc16 => ?_)
                      · have h := mz_ifp hc16 h
                        refine mz_Go.run (gs := []) (st' := (145, [some (.inr (.inr (some (0, 0)))), some (.inl x1), some (.inl x2), some (.inl x3), some (.inl x4), some (.inl (D.1 1 101 0)), none], [.inl (5 : Int32), .inr (.inr (some (0, 0)))], D)) bX11_receipts_143 oX11_receipts_143 rfl trivial ?_
                        refine mz_Go.callV (I := IX11_receipts) (J := IX11_refuse) (as := [.inl (5 : Int32)]) (ci := 11) (g := 0) (o := 0) (idx := 100) (pl := 673) (rest := []) (mX11_refuse (5 : Int32) D) kX11_refuse vX11_refuse (by decide +kernel) (by decide +kernel) (by decide +kernel) rfl rfl ⟨rfl, rfl⟩ rfl rfl rfl rfl ?_
                        cases h
                        exact mz_Go.reti (by decide +kernel) rfl ⟨Nat.le_refl _, Nat.le_refl _⟩ rfl
                      · have h := mz_ifn hc16 h
                        refine mz_Go.run (gs := [mz_kz 0 0 0]) (st' := (154, [some (.inr (.inr (some (0, 0)))), some (.inl x1), some (.inl x2), some (.inl x3), some (.inl x4), some (.inl (D.1 1 101 0)), none], [.inl (0 : Int32), .inr (.inr (some (0, 14)))], D)) bX11_receipts_149 oX11_receipts_149 rfl ⟨rfl, trivial⟩ ?_
                        obtain ⟨q17, hq17, h⟩ := mz_bd_some h
                        refine mz_Go.callS (I := IX11_receipts) (J := IJ7_fill_53178_14) (as := [.inr (.inr (some (0, 14))), .inl (0 : Int32)]) (idx := 436) (pl := 1469) (rest := []) (mJ7_fill_53178_14 (0 : Int32) D q17 hq17) kJ7_fill_53178_14 vJ7_fill_53178_14 (by decide +kernel) (by decide +kernel) (by decide +kernel) rfl rfl ⟨rfl, rfl⟩ rfl ?_
                        refine mz_Go.run (gs := []) (st' := (160, [some (.inr (.inr (some (0, 0)))), some (.inl x1), some (.inl x2), some (.inl x3), some (.inl x4), some (.inl (D.1 1 101 0)), some (.inl (0 : Int32))], [], q17)) bX11_receipts_157 oX11_receipts_157 rfl trivial ?_
                        exact mz_Go.drop [true, true, true, true, true, true, true] (tX11_receipts_160 r mz_N x1 x2 x3 x4 (D.1 1 101 0) (0 : Int32) q17 h)
                · have h := mz_ifn hc10 h
                  refine mz_Go.run (gs := []) (st' := (87, [some (.inr (.inr (some (0, 0)))), some (.inl x1), some (.inl x2), some (.inl x3), some (.inl x4), some (.inl (D.1 1 101 0)), none], [.inl (2 : Int32), .inr (.inr (some (0, 0)))], D)) bX11_receipts_85 oX11_receipts_85 rfl trivial ?_
                  refine mz_Go.callV (I := IX11_receipts) (J := IX11_refuse) (as := [.inl (2 : Int32)]) (ci := 11) (g := 0) (o := 0) (idx := 100) (pl := 673) (rest := []) (mX11_refuse (2 : Int32) D) kX11_refuse vX11_refuse (by decide +kernel) (by decide +kernel) (by decide +kernel) rfl rfl ⟨rfl, rfl⟩ rfl rfl rfl rfl ?_
                  cases h
                  exact mz_Go.reti (by decide +kernel) rfl ⟨Nat.le_refl _, Nat.le_refl _⟩ rfl
              · have h := mz_ifn hc8 h
                refine mz_Go.run (gs := []) (st' := (87, [some (.inr (.inr (some (0, 0)))), some (.inl x1), some (.inl x2), some (.inl x3), some (.inl x4), some (.inl (D.1 1 101 0)), none], [.inl (2 : Int32), .inr (.inr (some (0, 0)))], D)) bX11_receipts_85 oX11_receipts_85 rfl trivial ?_
                refine mz_Go.callV (I := IX11_receipts) (J := IX11_refuse) (as := [.inl (2 : Int32)]) (ci := 11) (g := 0) (o := 0) (idx := 100) (pl := 673) (rest := []) (mX11_refuse (2 : Int32) D) kX11_refuse vX11_refuse (by decide +kernel) (by decide +kernel) (by decide +kernel) rfl rfl ⟨rfl, rfl⟩ rfl rfl rfl rfl ?_
                cases h
                exact mz_Go.reti (by decide +kernel) rfl ⟨Nat.le_refl _, Nat.le_refl _⟩ rfl
def bJ9_abs_067f4_0 : List mz_E := [(0, .lload_n 0, 0, 0, 0, 0, 0), (1, .lconst 0, 0, 0, 0, 0, 0), (2, .lcmp, 0, 0, 0, 0, 0), (3, .ifCond .ge 8, 0, 11, 0, 0, 0)]
theorem oJ9_abs_067f4_0 : bJ9_abs_067f4_0.all (mz_ok RJ9 cJ9_abs_067f4 2) = true := by decide +kernel
def bJ9_abs_067f4_11 : List mz_E := [(11, .lload_n 0, 0, 0, 0, 0, 0)]
theorem oJ9_abs_067f4_11 : bJ9_abs_067f4_11.all (mz_ok RJ9 cJ9_abs_067f4 2) = true := by decide +kernel
def bJ9_abs_067f4_6 : List mz_E := [(6, .lload_n 0, 0, 0, 0, 0, 0), (7, .lneg, 0, 0, 0, 0, 0), (8, .goto 4, 0, 12, 0, 0, 0)]
theorem oJ9_abs_067f4_6 : bJ9_abs_067f4_6.all (mz_ok RJ9 cJ9_abs_067f4 2) = true := by decide +kernel
abbrev IJ9_abs_067f4 : mz_I := (yJ9_abs_067f4, cJ9_abs_067f4, 2, (some .long), 9, 0, 0, 0)
theorem kJ9_abs_067f4 : mz_okm IJ9_abs_067f4 1482 143 1481 1 = true := by decide +kernel
theorem vJ9_abs_067f4 : mz_okS IJ9_abs_067f4 1481 = true := by decide +kernel
def fJ9_abs_067f4 (y0 : Int64) : Int64 := (if 0 ≤ (lg_cmp y0 (0 : Int64)) then y0 else (-y0))
set_option maxHeartbeats 4000000 in
theorem mJ9_abs_067f4 (y0 : Int64) (D : mz_D) (r : Int64) (h : fJ9_abs_067f4 y0 = r) : mz_Met IJ9_abs_067f4 [.inr (.inl y0)] D (some (.inr (.inl r)), D) := by
  refine mz_Met.of (by decide +kernel) (Nat.le_of_ble_eq_true rfl) ?_
  show mz_Go IJ9_abs_067f4 (some (.inr (.inl r)), D) 0 0 (0, [some (.inr (.inl y0)), none], [], D)
  rw [fJ9_abs_067f4] at h
  refine mz_Go.run (gs := []) (st' := (if 0 ≤ (lg_cmp y0 (0 : Int64)) then (11, [some (.inr (.inl y0)), none], [], D) else (6, [some (.inr (.inl y0)), none], [], D))) bJ9_abs_067f4_0 oJ9_abs_067f4_0 rfl trivial ?_
  refine mz_Go.ite (fun hc1 => ?_) (fun hc1 => ?_)
  · have h := mz_ifp hc1 h
    refine mz_Go.run (gs := []) (st' := (12, [some (.inr (.inl y0)), none], [.inr (.inl y0)], D)) bJ9_abs_067f4_11 oJ9_abs_067f4_11 rfl trivial ?_
    subst h
    exact mz_Go.retl (by decide +kernel) rfl ⟨Nat.le_refl _, Nat.le_refl _⟩ rfl
  · have h := mz_ifn hc1 h
    refine mz_Go.run (gs := []) (st' := (12, [some (.inr (.inl y0)), none], [.inr (.inl (-y0))], D)) bJ9_abs_067f4_6 oJ9_abs_067f4_6 rfl trivial ?_
    subst h
    exact mz_Go.retl (by decide +kernel) rfl ⟨Nat.le_refl _, Nat.le_refl _⟩ rfl
def bX11_remembers_0 : List mz_E := [(0, .aload_n 0, 0, 0, 0, 0, 0), (1, .getfield 32, 11, 4, 563, 0, 0), (4, .getfield 151, 6, 0, 477, 0, 0), (7, .getfield 155, 4, 0, 290, 0, 0), (10, .istore_n 2, 0, 0, 0, 0, 0), (11, .aload_n 0, 0, 0, 0, 0, 0), (12, .getfield 25, 11, 3, 562, 0, 0), (15, .iload_n 1, 0, 0, 0, 0, 0)]
theorem oX11_remembers_0 : bX11_remembers_0.all (mz_ok RX11 cX11_remembers 9) = true := by decide +kernel
def bX11_remembers_19 : List mz_E := [(19, .ifCond .ne 9, 0, 28, 0, 0, 0)]
theorem oX11_remembers_19 : bX11_remembers_19.all (mz_ok RX11 cX11_remembers 9) = true := by decide +kernel
def bX11_remembers_22 : List mz_E := [(22, .aload_n 0, 0, 0, 0, 0, 0), (23, .iconst 1, 0, 0, 0, 1, 0)]
theorem oX11_remembers_22 : bX11_remembers_22.all (mz_ok RX11 cX11_remembers 9) = true := by decide +kernel
def bX11_remembers_28 : List mz_E := [(28, .aload_n 0, 0, 0, 0, 0, 0), (29, .getfield 25, 11, 3, 562, 0, 0), (32, .iload_n 1, 0, 0, 0, 0, 0)]
theorem oX11_remembers_28 : bX11_remembers_28.all (mz_ok RX11 cX11_remembers 9) = true := by decide +kernel
def bX11_remembers_36 : List mz_E := [(36, .ifCond .eq 9, 0, 45, 0, 0, 0)]
theorem oX11_remembers_36 : bX11_remembers_36.all (mz_ok RX11 cX11_remembers 9) = true := by decide +kernel
def bX11_remembers_45 : List mz_E := [(45, .aload_n 0, 0, 0, 0, 0, 0), (46, .getfield 25, 11, 3, 562, 0, 0), (49, .iload_n 1, 0, 0, 0, 0, 0), (50, .iconst 0, 0, 0, 0, 0, 0), (51, .iload_n 2, 0, 0, 0, 0, 0)]
theorem oX11_remembers_45 : bX11_remembers_45.all (mz_ok RX11 cX11_remembers 9) = true := by decide +kernel
def bX11_remembers_55 : List mz_E := [(55, .ifCond .ne 9, 0, 64, 0, 0, 0)]
theorem oX11_remembers_55 : bX11_remembers_55.all (mz_ok RX11 cX11_remembers 9) = true := by decide +kernel
def bX11_remembers_58 : List mz_E := [(58, .aload_n 0, 0, 0, 0, 0, 0), (59, .iconst 3, 0, 0, 0, 3, 0)]
theorem oX11_remembers_58 : bX11_remembers_58.all (mz_ok RX11 cX11_remembers 9) = true := by decide +kernel
def bX11_remembers_64 : List mz_E := [(64, .aload_n 0, 0, 0, 0, 0, 0), (65, .getfield 25, 11, 3, 562, 0, 0), (68, .iload_n 1, 0, 0, 0, 0, 0), (69, .iload_n 2, 0, 0, 0, 0, 0), (70, .ldc2_w 445, 0, 0, 1478, 0, -9999999), (73, .ldc2_w 447, 0, 0, 1479, 0, 9999999)]
theorem oX11_remembers_64 : bX11_remembers_64.all (mz_ok RX11 cX11_remembers 9) = true := by decide +kernel
def bX11_remembers_79 : List mz_E := [(79, .ifCond .ne 9, 0, 88, 0, 0, 0)]
theorem oX11_remembers_79 : bX11_remembers_79.all (mz_ok RX11 cX11_remembers 9) = true := by decide +kernel
def bX11_remembers_82 : List mz_E := [(82, .aload_n 0, 0, 0, 0, 0, 0), (83, .iconst 5, 0, 0, 0, 5, 0)]
theorem oX11_remembers_82 : bX11_remembers_82.all (mz_ok RX11 cX11_remembers 9) = true := by decide +kernel
def bX11_remembers_88 : List mz_E := [(88, .iconst (-1), 0, 0, 0, -1, 0), (89, .istore_n 3, 0, 0, 0, 0, 0), (90, .lconst 0, 0, 0, 0, 0, 0), (91, .lstore 4, 0, 0, 0, 0, 0), (93, .iconst 0, 0, 0, 0, 0, 0), (94, .istore 6, 0, 0, 0, 0, 0)]
theorem oX11_remembers_88 : bX11_remembers_88.all (mz_ok RX11 cX11_remembers 9) = true := by decide +kernel
def bX11_remembers_96 : List mz_E := [(96, .iload 6, 0, 0, 0, 0, 0), (98, .iload_n 2, 0, 0, 0, 0, 0), (99, .if_icmp .ge 53, 0, 152, 0, 0, 0)]
theorem oX11_remembers_96 : bX11_remembers_96.all (mz_ok RX11 cX11_remembers 9) = true := by decide +kernel
def bX11_remembers_152 : List mz_E := [(152, .aload_n 0, 0, 0, 0, 0, 0), (153, .iload_n 3, 0, 0, 0, 0, 0)]
theorem oX11_remembers_152 : bX11_remembers_152.all (mz_ok RX11 cX11_remembers 9) = true := by decide +kernel
def bX11_remembers_102 : List mz_E := [(102, .aload_n 0, 0, 0, 0, 0, 0), (103, .getfield 25, 11, 3, 562, 0, 0), (106, .iload_n 1, 0, 0, 0, 0, 0), (107, .iload 6, 0, 0, 0, 0, 0)]
theorem oX11_remembers_102 : bX11_remembers_102.all (mz_ok RX11 cX11_remembers 9) = true := by decide +kernel
def bX11_remembers_112 : List mz_E := [(112, .aload_n 0, 0, 0, 0, 0, 0), (113, .getfield 32, 11, 4, 563, 0, 0), (116, .getfield 349, 6, 2, 485, 0, 0), (119, .iload 6, 0, 0, 0, 0, 0)]
theorem oX11_remembers_112 : bX11_remembers_112.all (mz_ok RX11 cX11_remembers 9) = true := by decide +kernel
def bX11_remembers_124 : List mz_E := [(124, .i2l, 0, 0, 0, 0, 0), (125, .lsub, 0, 0, 0, 0, 0)]
theorem oX11_remembers_124 : bX11_remembers_124.all (mz_ok RX11 cX11_remembers 9) = true := by decide +kernel
def bX11_remembers_129 : List mz_E := [(129, .lstore 7, 0, 0, 0, 0, 0), (131, .lload 7, 0, 0, 0, 0, 0), (133, .lload 4, 0, 0, 0, 0, 0), (135, .lcmp, 0, 0, 0, 0, 0), (136, .ifCond .le 10, 0, 146, 0, 0, 0)]
theorem oX11_remembers_129 : bX11_remembers_129.all (mz_ok RX11 cX11_remembers 9) = true := by decide +kernel
def bX11_remembers_146 : List mz_E := [(146, .iinc 6 1, 0, 0, 0, 1, 0), (149, .goto (-53), 0, 96, 0, 0, 0)]
theorem oX11_remembers_146 : bX11_remembers_146.all (mz_ok RX11 cX11_remembers 9) = true := by decide +kernel
def bX11_remembers_139 : List mz_E := [(139, .iload 6, 0, 0, 0, 0, 0), (141, .istore_n 3, 0, 0, 0, 0, 0), (142, .lload 7, 0, 0, 0, 0, 0), (144, .lstore 4, 0, 0, 0, 0, 0), (146, .iinc 6 1, 0, 0, 0, 1, 0), (149, .goto (-53), 0, 96, 0, 0, 0)]
theorem oX11_remembers_139 : bX11_remembers_139.all (mz_ok RX11 cX11_remembers 9) = true := by decide +kernel
def bX11_remembers_39 : List mz_E := [(39, .aload_n 0, 0, 0, 0, 0, 0), (40, .iconst 2, 0, 0, 0, 2, 0)]
theorem oX11_remembers_39 : bX11_remembers_39.all (mz_ok RX11 cX11_remembers 9) = true := by decide +kernel
abbrev IX11_remembers : mz_I := (yX11_remembers, cX11_remembers, 9, (some .int), 0, 2, 0, 0)
theorem kX11_remembers : mz_okm IX11_remembers 1477 126 1475 1 = true := by decide +kernel
theorem vX11_remembers : mz_okV IX11_remembers 1475 1476 = true := by decide +kernel
def fX11_remembers_96 : Nat → Int32 → Int32 → Int32 → Int64 → Int32 → mz_D → Option (Int32 × mz_D)
  | 0 => fun _ _ _ _ _ _ => none
  | n + 1 => fun x1 x2 x3 y4 x6 D => (if x2 ≤ x6 then (Option.bind (fX11_answerIfAny x3 D) fun q2 => (some (q2.1, q2.2))) else (Option.bind (fX8_get x1 x6 D) fun q3 => (Option.bind (fX2_balanceOf 1 x6 D) fun q4 => (if (lg_cmp (fJ9_abs_067f4 (q3 - (q4).toInt64)) y4) ≤ 0 then ((fX11_remembers_96 n) x1 x2 x3 y4 (x6 + (1 : Int32)) D) else ((fX11_remembers_96 n) x1 x2 x6 (fJ9_abs_067f4 (q3 - (q4).toInt64)) (x6 + (1 : Int32)) D)))))
set_option maxHeartbeats 4000000 in
theorem tX11_remembers_96 (r : (Int32 × mz_D)) : ∀ (n : Nat) (x1 : Int32) (x2 : Int32) (x3 : Int32) (y4 : Int64) (x6 : Int32) (D : mz_D), fX11_remembers_96 n x1 x2 x3 y4 x6 D = some r → mz_Go IX11_remembers (some (.inl r.1), r.2) 0 0 (96, [some (.inr (.inr (some (0, 0)))), some (.inl x1), some (.inl x2), some (.inl x3), some (.inr (.inl y4)), none, some (.inl x6), none, none], [], D) := by
  intro n
  induction n with
  | zero => intro x1 x2 x3 y4 x6 D h; have h : (none : Option (Int32 × mz_D)) = some r := h; cases h
  | succ n ih =>
    intro x1 x2 x3 y4 x6 D h
    rw [fX11_remembers_96] at h
    refine mz_Go.run (gs := []) (st' := (if x2 ≤ x6 then (152, [some (.inr (.inr (some (0, 0)))), some (.inl x1), some (.inl x2), some (.inl x3), some (.inr (.inl y4)), none, some (.inl x6), none, none], [], D) else (102, [some (.inr (.inr (some (0, 0)))), some (.inl x1), some (.inl x2), some (.inl x3), some (.inr (.inl y4)), none, some (.inl x6), none, none], [], D))) bX11_remembers_96 oX11_remembers_96 rfl trivial ?_
    refine mz_Go.ite (fun hc1 => ?_) (fun hc1 => ?_)
    · have h := mz_ifp hc1 h
      refine mz_Go.run (gs := []) (st' := (154, [some (.inr (.inr (some (0, 0)))), some (.inl x1), some (.inl x2), some (.inl x3), some (.inr (.inl y4)), none, some (.inl x6), none, none], [.inl x3, .inr (.inr (some (0, 0)))], D)) bX11_remembers_152 oX11_remembers_152 rfl trivial ?_
      obtain ⟨q2, hq2, h⟩ := mz_bd_some h
      refine mz_Go.callV (I := IX11_remembers) (J := IX11_answerIfAny) (as := [.inl x3]) (ci := 11) (g := 0) (o := 0) (idx := 245) (pl := 1046) (rest := []) (mX11_answerIfAny x3 D q2 hq2) kX11_answerIfAny vX11_answerIfAny (by decide +kernel) (by decide +kernel) (by decide +kernel) rfl rfl ⟨rfl, rfl⟩ rfl rfl rfl rfl ?_
      cases h
      exact mz_Go.reti (by decide +kernel) rfl ⟨Nat.le_refl _, Nat.le_refl _⟩ rfl
    · have h := mz_ifn hc1 h
      refine mz_Go.run (gs := [mz_kz 0 0 0]) (st' := (109, [some (.inr (.inr (some (0, 0)))), some (.inl x1), some (.inl x2), some (.inl x3), some (.inr (.inl y4)), none, some (.inl x6), none, none], [.inl x6, .inl x1, .inr (.inr (some (0, 4)))], D)) bX11_remembers_102 oX11_remembers_102 rfl ⟨rfl, trivial⟩ ?_
      obtain ⟨q3, hq3, h⟩ := mz_bd_some h
      refine mz_Go.callV (I := IX11_remembers) (J := IX8_get) (as := [.inl x1, .inl x6]) (ci := 8) (g := 0) (o := 4) (idx := 104) (pl := 677) (rest := []) (mX8_get x1 x6 D q3 hq3) kX8_get vX8_get (by decide +kernel) (by decide +kernel) (by decide +kernel) rfl rfl ⟨rfl, rfl⟩ rfl rfl rfl rfl ?_
      refine mz_Go.run (gs := [mz_kz 0 0 0, mz_kz 0 1 100]) (st' := (121, [some (.inr (.inr (some (0, 0)))), some (.inl x1), some (.inl x2), some (.inl x3), some (.inr (.inl y4)), none, some (.inl x6), none, none], [.inl x6, .inr (.inr (some (1, 113))), .inr (.inl q3)], D)) bX11_remembers_112 oX11_remembers_112 rfl ⟨rfl, rfl, trivial⟩ ?_
      obtain ⟨q4, hq4, h⟩ := mz_bd_some h
      refine mz_Go.callV (I := IX11_remembers) (J := IX2_balanceOf) (as := [.inl x6]) (ci := 2) (g := 1) (o := 113) (idx := 359) (pl := 1305) (rest := [.inr (.inl q3)]) (mX2_balanceOf 1 x6 D rfl q4 hq4) kX2_balanceOf vX2_balanceOf (by decide +kernel) (by decide +kernel) (by decide +kernel) rfl rfl ⟨rfl, rfl⟩ rfl rfl rfl rfl ?_
      refine mz_Go.run (gs := []) (st' := (126, [some (.inr (.inr (some (0, 0)))), some (.inl x1), some (.inl x2), some (.inl x3), some (.inr (.inl y4)), none, some (.inl x6), none, none], [.inr (.inl (q3 - (q4).toInt64))], D)) bX11_remembers_124 oX11_remembers_124 rfl trivial ?_
      refine mz_Go.callS (I := IX11_remembers) (J := IJ9_abs_067f4) (as := [.inr (.inl (q3 - (q4).toInt64))]) (idx := 449) (pl := 1480) (rest := []) (mJ9_abs_067f4 (q3 - (q4).toInt64) D _ rfl) kJ9_abs_067f4 vJ9_abs_067f4 (by decide +kernel) (by decide +kernel) (by decide +kernel) rfl rfl ⟨rfl, rfl⟩ rfl ?_
      refine mz_Go.run (gs := []) (st' := (if (lg_cmp (fJ9_abs_067f4 (q3 - (q4).toInt64)) y4) ≤ 0 then (146, [some (.inr (.inr (some (0, 0)))), some (.inl x1), some (.inl x2), some (.inl x3), some (.inr (.inl y4)), none, some (.inl x6), some (.inr (.inl (fJ9_abs_067f4 (q3 - (q4).toInt64)))), none], [], D) else (139, [some (.inr (.inr (some (0, 0)))), some (.inl x1), some (.inl x2), some (.inl x3), some (.inr (.inl y4)), none, some (.inl x6), some (.inr (.inl (fJ9_abs_067f4 (q3 - (q4).toInt64)))), none], [], D))) bX11_remembers_129 oX11_remembers_129 rfl trivial ?_
      refine mz_Go.ite (fun hc5 => ?_) (fun hc5 => ?_)
      · have h := mz_ifp hc5 h
        refine mz_Go.run (gs := []) (st' := (96, [some (.inr (.inr (some (0, 0)))), some (.inl x1), some (.inl x2), some (.inl x3), some (.inr (.inl y4)), none, some (.inl (x6 + (1 : Int32))), some (.inr (.inl (fJ9_abs_067f4 (q3 - (q4).toInt64)))), none], [], D)) bX11_remembers_146 oX11_remembers_146 rfl trivial ?_
        exact mz_Go.drop [true, true, true, true, true, false, true, false, false] (ih x1 x2 x3 y4 (x6 + (1 : Int32)) D h)
      · have h := mz_ifn hc5 h
        refine mz_Go.run (gs := []) (st' := (96, [some (.inr (.inr (some (0, 0)))), some (.inl x1), some (.inl x2), some (.inl x6), some (.inr (.inl (fJ9_abs_067f4 (q3 - (q4).toInt64)))), none, some (.inl (x6 + (1 : Int32))), some (.inr (.inl (fJ9_abs_067f4 (q3 - (q4).toInt64)))), none], [], D)) bX11_remembers_139 oX11_remembers_139 rfl trivial ?_
        exact mz_Go.drop [true, true, true, true, true, false, true, false, false] (ih x1 x2 x6 (fJ9_abs_067f4 (q3 - (q4).toInt64)) (x6 + (1 : Int32)) D h)
def fX11_remembers (x1 : Int32) (D : mz_D) : Option (Int32 × mz_D) := (if (fX8_has x1) = 0 then (some ((-1 : Int32), (mz_wi D 0 0 13 (1 : Int32)))) else (Option.bind (fX8_isMissing x1 D) fun q2 => (if q2 = 0 then (Option.bind (fX8_holds x1 (0 : Int32) (D.1 1 101 0) D) fun q4 => (if q4 = 0 then (some ((-1 : Int32), (mz_wi D 0 0 13 (3 : Int32)))) else (Option.bind (fX8_areWithin x1 (D.1 1 101 0) (-9999999 : Int64) (9999999 : Int64) D) fun q6 => (if q6 = 0 then (some ((-1 : Int32), (mz_wi D 0 0 13 (5 : Int32)))) else (fX11_remembers_96 mz_N x1 (D.1 1 101 0) (-1 : Int32) (0 : Int64) (0 : Int32) D))))) else (some ((-1 : Int32), (mz_wi D 0 0 13 (2 : Int32)))))))
set_option maxHeartbeats 4000000 in
theorem mX11_remembers (x1 : Int32) (D : mz_D) (r : (Int32 × mz_D)) (h : fX11_remembers x1 D = some r) : mz_Met IX11_remembers [.inr (.inr (some (0, 0))), .inl x1] D (some (.inl r.1), r.2) := by
  refine mz_Met.of (by decide +kernel) (Nat.le_of_ble_eq_true rfl) ?_
  show mz_Go IX11_remembers (some (.inl r.1), r.2) 0 0 (0, [some (.inr (.inr (some (0, 0)))), some (.inl x1), none, none, none, none, none, none, none], [], D)
  rw [fX11_remembers] at h
  refine mz_Go.run (gs := [mz_kz 0 0 0, mz_kz 0 1 100, mz_kz 0 1 101, mz_kz 0 0 0]) (st' := (16, [some (.inr (.inr (some (0, 0)))), some (.inl x1), some (.inl (D.1 1 101 0)), none, none, none, none, none, none], [.inl x1, .inr (.inr (some (0, 4)))], D)) bX11_remembers_0 oX11_remembers_0 rfl ⟨rfl, rfl, rfl, rfl, trivial⟩ ?_
  refine mz_Go.callV (I := IX11_remembers) (J := IX8_has) (as := [.inl x1]) (ci := 8) (g := 0) (o := 4) (idx := 77) (pl := 630) (rest := []) (mX8_has x1 D _ rfl) kX8_has vX8_has (by decide +kernel) (by decide +kernel) (by decide +kernel) rfl rfl ⟨rfl, rfl⟩ rfl rfl rfl rfl ?_
  refine mz_Go.run (gs := []) (st' := (if (fX8_has x1) = 0 then (22, [some (.inr (.inr (some (0, 0)))), some (.inl x1), some (.inl (D.1 1 101 0)), none, none, none, none, none, none], [], D) else (28, [some (.inr (.inr (some (0, 0)))), some (.inl x1), some (.inl (D.1 1 101 0)), none, none, none, none, none, none], [], D))) bX11_remembers_19 oX11_remembers_19 rfl trivial ?_
  refine mz_Go.ite (fun hc1 => ?_) (fun hc1 => ?_)
  · have h := mz_ifp hc1 h
    refine mz_Go.run (gs := []) (st' := (24, [some (.inr (.inr (some (0, 0)))), some (.inl x1), some (.inl (D.1 1 101 0)), none, none, none, none, none, none], [.inl (1 : Int32), .inr (.inr (some (0, 0)))], D)) bX11_remembers_22 oX11_remembers_22 rfl trivial ?_
    refine mz_Go.callV (I := IX11_remembers) (J := IX11_refuse) (as := [.inl (1 : Int32)]) (ci := 11) (g := 0) (o := 0) (idx := 100) (pl := 673) (rest := []) (mX11_refuse (1 : Int32) D) kX11_refuse vX11_refuse (by decide +kernel) (by decide +kernel) (by decide +kernel) rfl rfl ⟨rfl, rfl⟩ rfl rfl rfl rfl ?_
    cases h
    exact mz_Go.reti (by decide +kernel) rfl ⟨Nat.le_refl _, Nat.le_refl _⟩ rfl
  · have h := mz_ifn hc1 h
    refine mz_Go.run (gs := [mz_kz 0 0 0]) (st' := (33, [some (.inr (.inr (some (0, 0)))), some (.inl x1), some (.inl (D.1 1 101 0)), none, none, none, none, none, none], [.inl x1, .inr (.inr (some (0, 4)))], D)) bX11_remembers_28 oX11_remembers_28 rfl ⟨rfl, trivial⟩ ?_
    obtain ⟨q2, hq2, h⟩ := mz_bd_some h
    refine mz_Go.callV (I := IX11_remembers) (J := IX8_isMissing) (as := [.inl x1]) (ci := 8) (g := 0) (o := 4) (idx := 108) (pl := 654) (rest := []) (mX8_isMissing x1 D q2 hq2) kX8_isMissing vX8_isMissing (by decide +kernel) (by decide +kernel) (by decide +kernel) rfl rfl ⟨rfl, rfl⟩ rfl rfl rfl rfl ?_
    refine mz_Go.run (gs := []) (st' := (if q2 = 0 then (45, [some (.inr (.inr (some (0, 0)))), some (.inl x1), some (.inl (D.1 1 101 0)), none, none, none, none, none, none], [], D) else (39, [some (.inr (.inr (some (0, 0)))), some (.inl x1), some (.inl (D.1 1 101 0)), none, none, none, none, none, none], [], D))) bX11_remembers_36 oX11_remembers_36 rfl trivial ?_
    refine mz_Go.ite (fun hc3 => ?_) (fun hc3 => ?_)
    · have h := mz_ifp hc3 h
      refine mz_Go.run (gs := [mz_kz 0 0 0]) (st' := (52, [some (.inr (.inr (some (0, 0)))), some (.inl x1), some (.inl (D.1 1 101 0)), none, none, none, none, none, none], [.inl (D.1 1 101 0), .inl (0 : Int32), .inl x1, .inr (.inr (some (0, 4)))], D)) bX11_remembers_45 oX11_remembers_45 rfl ⟨rfl, trivial⟩ ?_
      obtain ⟨q4, hq4, h⟩ := mz_bd_some h
      refine mz_Go.callV (I := IX11_remembers) (J := IX8_holds) (as := [.inl x1, .inl (0 : Int32), .inl (D.1 1 101 0)]) (ci := 8) (g := 0) (o := 4) (idx := 114) (pl := 658) (rest := []) (mX8_holds x1 (0 : Int32) (D.1 1 101 0) D q4 hq4) kX8_holds vX8_holds (by decide +kernel) (by decide +kernel) (by decide +kernel) rfl rfl ⟨rfl, rfl⟩ rfl rfl rfl rfl ?_
      refine mz_Go.run (gs := []) (st' := (if q4 = 0 then (58, [some (.inr (.inr (some (0, 0)))), some (.inl x1), some (.inl (D.1 1 101 0)), none, none, none, none, none, none], [], D) else (64, [some (.inr (.inr (some (0, 0)))), some (.inl x1), some (.inl (D.1 1 101 0)), none, none, none, none, none, none], [], D))) bX11_remembers_55 oX11_remembers_55 rfl trivial ?_
      refine mz_Go.ite (fun hc5 => ?_) (fun hc5 => ?_)
      · have h := mz_ifp hc5 h
        refine mz_Go.run (gs := []) (st' := (60, [some (.inr (.inr (some (0, 0)))), some (.inl x1), some (.inl (D.1 1 101 0)), none, none, none, none, none, none], [.inl (3 : Int32), .inr (.inr (some (0, 0)))], D)) bX11_remembers_58 oX11_remembers_58 rfl trivial ?_
        refine mz_Go.callV (I := IX11_remembers) (J := IX11_refuse) (as := [.inl (3 : Int32)]) (ci := 11) (g := 0) (o := 0) (idx := 100) (pl := 673) (rest := []) (mX11_refuse (3 : Int32) D) kX11_refuse vX11_refuse (by decide +kernel) (by decide +kernel) (by decide +kernel) rfl rfl ⟨rfl, rfl⟩ rfl rfl rfl rfl ?_
        cases h
        exact mz_Go.reti (by decide +kernel) rfl ⟨Nat.le_refl _, Nat.le_refl _⟩ rfl
      · have h := mz_ifn hc5 h
        refine mz_Go.run (gs := [mz_kz 0 0 0]) (st' := (76, [some (.inr (.inr (some (0, 0)))), some (.inl x1), some (.inl (D.1 1 101 0)), none, none, none, none, none, none], [.inr (.inl (9999999 : Int64)), .inr (.inl (-9999999 : Int64)), .inl (D.1 1 101 0), .inl x1, .inr (.inr (some (0, 4)))], D)) bX11_remembers_64 oX11_remembers_64 rfl ⟨rfl, trivial⟩ ?_
        obtain ⟨q6, hq6, h⟩ := mz_bd_some h
        refine mz_Go.callV (I := IX11_remembers) (J := IX8_areWithin) (as := [.inl x1, .inl (D.1 1 101 0), .inr (.inl (-9999999 : Int64)), .inr (.inl (9999999 : Int64))]) (ci := 8) (g := 0) (o := 4) (idx := 432) (pl := 1464) (rest := []) (mX8_areWithin x1 (D.1 1 101 0) (-9999999 : Int64) (9999999 : Int64) D q6 hq6) kX8_areWithin vX8_areWithin (by decide +kernel) (by decide +kernel) (by decide +kernel) rfl rfl ⟨rfl, rfl⟩ rfl rfl rfl rfl ?_
        refine mz_Go.run (gs := []) (st' := (if q6 = 0 then (82, [some (.inr (.inr (some (0, 0)))), some (.inl x1), some (.inl (D.1 1 101 0)), none, none, none, none, none, none], [], D) else (88, [some (.inr (.inr (some (0, 0)))), some (.inl x1), some (.inl (D.1 1 101 0)), none, none, none, none, none, none], [], D))) bX11_remembers_79 oX11_remembers_79 rfl trivial ?_
        refine mz_Go.ite (fun hc7 => ?_) (fun hc7 => ?_)
        · have h := mz_ifp hc7 h
          refine mz_Go.run (gs := []) (st' := (84, [some (.inr (.inr (some (0, 0)))), some (.inl x1), some (.inl (D.1 1 101 0)), none, none, none, none, none, none], [.inl (5 : Int32), .inr (.inr (some (0, 0)))], D)) bX11_remembers_82 oX11_remembers_82 rfl trivial ?_
          refine mz_Go.callV (I := IX11_remembers) (J := IX11_refuse) (as := [.inl (5 : Int32)]) (ci := 11) (g := 0) (o := 0) (idx := 100) (pl := 673) (rest := []) (mX11_refuse (5 : Int32) D) kX11_refuse vX11_refuse (by decide +kernel) (by decide +kernel) (by decide +kernel) rfl rfl ⟨rfl, rfl⟩ rfl rfl rfl rfl ?_
          cases h
          exact mz_Go.reti (by decide +kernel) rfl ⟨Nat.le_refl _, Nat.le_refl _⟩ rfl
        · have h := mz_ifn hc7 h
          refine mz_Go.run (gs := []) (st' := (96, [some (.inr (.inr (some (0, 0)))), some (.inl x1), some (.inl (D.1 1 101 0)), some (.inl (-1 : Int32)), some (.inr (.inl (0 : Int64))), none, some (.inl (0 : Int32)), none, none], [], D)) bX11_remembers_88 oX11_remembers_88 rfl trivial ?_
          exact mz_Go.drop [true, true, true, true, true, false, true, false, false] (tX11_remembers_96 r mz_N x1 (D.1 1 101 0) (-1 : Int32) (0 : Int64) (0 : Int32) D h)
    · have h := mz_ifn hc3 h
      refine mz_Go.run (gs := []) (st' := (41, [some (.inr (.inr (some (0, 0)))), some (.inl x1), some (.inl (D.1 1 101 0)), none, none, none, none, none, none], [.inl (2 : Int32), .inr (.inr (some (0, 0)))], D)) bX11_remembers_39 oX11_remembers_39 rfl trivial ?_
      refine mz_Go.callV (I := IX11_remembers) (J := IX11_refuse) (as := [.inl (2 : Int32)]) (ci := 11) (g := 0) (o := 0) (idx := 100) (pl := 673) (rest := []) (mX11_refuse (2 : Int32) D) kX11_refuse vX11_refuse (by decide +kernel) (by decide +kernel) (by decide +kernel) rfl rfl ⟨rfl, rfl⟩ rfl rfl rfl rfl ?_
      cases h
      exact mz_Go.reti (by decide +kernel) rfl ⟨Nat.le_refl _, Nat.le_refl _⟩ rfl
def bX3_tellTo_0 : List mz_E := [(0, .aload_n 1, 0, 0, 0, 0, 0), (1, .iconst 0, 0, 0, 0, 0, 0), (2, .aload_n 0, 0, 0, 0, 0, 0), (3, .getfield 21, 3, 1, 523, 0, 0), (6, .iastore, 0, 0, 0, 0, 0), (7, .aload_n 1, 0, 0, 0, 0, 0), (8, .iconst 1, 0, 0, 0, 1, 0), (9, .aload_n 0, 0, 0, 0, 0, 0), (10, .getfield 25, 3, 2, 524, 0, 0), (13, .iastore, 0, 0, 0, 0, 0), (14, .aload_n 1, 0, 0, 0, 0, 0), (15, .iconst 2, 0, 0, 0, 2, 0), (16, .aload_n 0, 0, 0, 0, 0, 0), (17, .getfield 28, 3, 3, 525, 0, 0), (20, .iastore, 0, 0, 0, 0, 0), (21, .aload_n 1, 0, 0, 0, 0, 0), (22, .iconst 3, 0, 0, 0, 3, 0), (23, .aload_n 0, 0, 0, 0, 0, 0), (24, .getfield 31, 3, 4, 526, 0, 0), (27, .iastore, 0, 0, 0, 0, 0), (28, .aload_n 1, 0, 0, 0, 0, 0), (29, .iconst 4, 0, 0, 0, 4, 0), (30, .aload_n 0, 0, 0, 0, 0, 0), (31, .getfield 34, 3, 5, 527, 0, 0), (34, .ifCond .eq 7, 0, 41, 0, 0, 0)]
theorem oX3_tellTo_0 : bX3_tellTo_0.all (mz_ok RX3 cX3_tellTo 2) = true := by decide +kernel
def bX3_tellTo_41 : List mz_E := [(41, .iconst 0, 0, 0, 0, 0, 0), (42, .iastore, 0, 0, 0, 0, 0)]
theorem oX3_tellTo_41 : bX3_tellTo_41.all (mz_ok RX3 cX3_tellTo 2) = true := by decide +kernel
def bX3_tellTo_37 : List mz_E := [(37, .iconst 1, 0, 0, 0, 1, 0), (38, .goto 4, 0, 42, 0, 0, 0), (42, .iastore, 0, 0, 0, 0, 0)]
theorem oX3_tellTo_37 : bX3_tellTo_37.all (mz_ok RX3 cX3_tellTo 2) = true := by decide +kernel
abbrev IX3_tellTo_13 : mz_I := (yX3_tellTo, cX3_tellTo, 2, none, 0, 0, 0, 0)
theorem kX3_tellTo_13 : mz_okm IX3_tellTo_13 1549 140 1547 1 = true := by decide +kernel
theorem vX3_tellTo_13 : mz_okV IX3_tellTo_13 1547 1548 = true := by decide +kernel
def fX3_tellTo_13 (D : mz_D) : Option mz_D := (if (D.1 0 9 5) = 0 then (some (mz_wi (mz_wi (mz_wi (mz_wi (mz_wi D 0 13 ((0 : Int32)).toNatClampNeg (D.1 0 9 1)) 0 13 ((1 : Int32)).toNatClampNeg (D.1 0 9 2)) 0 13 ((2 : Int32)).toNatClampNeg (D.1 0 9 3)) 0 13 ((3 : Int32)).toNatClampNeg (D.1 0 9 4)) 0 13 ((4 : Int32)).toNatClampNeg (0 : Int32))) else (some (mz_wi (mz_wi (mz_wi (mz_wi (mz_wi D 0 13 ((0 : Int32)).toNatClampNeg (D.1 0 9 1)) 0 13 ((1 : Int32)).toNatClampNeg (D.1 0 9 2)) 0 13 ((2 : Int32)).toNatClampNeg (D.1 0 9 3)) 0 13 ((3 : Int32)).toNatClampNeg (D.1 0 9 4)) 0 13 ((4 : Int32)).toNatClampNeg (1 : Int32))))
set_option maxHeartbeats 4000000 in
theorem mX3_tellTo_13 (D : mz_D) (r : mz_D) (h : fX3_tellTo_13 D = some r) : mz_Met IX3_tellTo_13 [.inr (.inr (some (0, 9))), .inr (.inr (some (0, 13)))] D (none, r) := by
  refine mz_Met.of (by decide +kernel) (Nat.le_of_ble_eq_true rfl) ?_
  show mz_Go IX3_tellTo_13 (none, r) 0 0 (0, [some (.inr (.inr (some (0, 9)))), some (.inr (.inr (some (0, 13))))], [], D)
  rw [fX3_tellTo_13] at h
  refine mz_Go.run (gs := [mz_kz 0 0 9, mz_kz 0 0 13, mz_ix (0 : Int32) 5, mz_kz 0 0 9, mz_kz 0 0 13, mz_ix (1 : Int32) 5, mz_kz 0 0 9, mz_kz 0 0 13, mz_ix (2 : Int32) 5, mz_kz 0 0 9, mz_kz 0 0 13, mz_ix (3 : Int32) 5, mz_kz 0 0 9]) (st' := (if (D.1 0 9 5) = 0 then (41, [some (.inr (.inr (some (0, 9)))), some (.inr (.inr (some (0, 13))))], [.inl (4 : Int32), .inr (.inr (some (0, 13)))], (mz_wi (mz_wi (mz_wi (mz_wi D 0 13 ((0 : Int32)).toNatClampNeg (D.1 0 9 1)) 0 13 ((1 : Int32)).toNatClampNeg (D.1 0 9 2)) 0 13 ((2 : Int32)).toNatClampNeg (D.1 0 9 3)) 0 13 ((3 : Int32)).toNatClampNeg (D.1 0 9 4))) else (37, [some (.inr (.inr (some (0, 9)))), some (.inr (.inr (some (0, 13))))], [.inl (4 : Int32), .inr (.inr (some (0, 13)))], (mz_wi (mz_wi (mz_wi (mz_wi D 0 13 ((0 : Int32)).toNatClampNeg (D.1 0 9 1)) 0 13 ((1 : Int32)).toNatClampNeg (D.1 0 9 2)) 0 13 ((2 : Int32)).toNatClampNeg (D.1 0 9 3)) 0 13 ((3 : Int32)).toNatClampNeg (D.1 0 9 4))))) bX3_tellTo_0 oX3_tellTo_0 rfl ⟨rfl, rfl, (by decide), rfl, rfl, (by decide), rfl, rfl, (by decide), rfl, rfl, (by decide), rfl, trivial⟩ ?_
  refine mz_Go.ite (fun hc1 => ?_) (fun hc1 => ?_)
  · have h := mz_ifp hc1 h
    refine mz_Go.run (gs := [mz_kz 0 0 13, mz_ix (4 : Int32) 5]) (st' := (43, [some (.inr (.inr (some (0, 9)))), some (.inr (.inr (some (0, 13))))], [], (mz_wi (mz_wi (mz_wi (mz_wi (mz_wi D 0 13 ((0 : Int32)).toNatClampNeg (D.1 0 9 1)) 0 13 ((1 : Int32)).toNatClampNeg (D.1 0 9 2)) 0 13 ((2 : Int32)).toNatClampNeg (D.1 0 9 3)) 0 13 ((3 : Int32)).toNatClampNeg (D.1 0 9 4)) 0 13 ((4 : Int32)).toNatClampNeg (0 : Int32)))) bX3_tellTo_41 oX3_tellTo_41 rfl ⟨rfl, (by decide), trivial⟩ ?_
    cases h
    exact mz_Go.retv (by decide +kernel) rfl ⟨Nat.le_refl _, Nat.le_refl _⟩ rfl
  · have h := mz_ifn hc1 h
    refine mz_Go.run (gs := [mz_kz 0 0 13, mz_ix (4 : Int32) 5]) (st' := (43, [some (.inr (.inr (some (0, 9)))), some (.inr (.inr (some (0, 13))))], [], (mz_wi (mz_wi (mz_wi (mz_wi (mz_wi D 0 13 ((0 : Int32)).toNatClampNeg (D.1 0 9 1)) 0 13 ((1 : Int32)).toNatClampNeg (D.1 0 9 2)) 0 13 ((2 : Int32)).toNatClampNeg (D.1 0 9 3)) 0 13 ((3 : Int32)).toNatClampNeg (D.1 0 9 4)) 0 13 ((4 : Int32)).toNatClampNeg (1 : Int32)))) bX3_tellTo_37 oX3_tellTo_37 rfl ⟨rfl, (by decide), trivial⟩ ?_
    cases h
    exact mz_Go.retv (by decide +kernel) rfl ⟨Nat.le_refl _, Nat.le_refl _⟩ rfl
def bX11_live_0 : List mz_E := [(0, .iload_n 1, 0, 0, 0, 0, 0), (1, .ifCond .lt 10, 0, 11, 0, 0, 0)]
theorem oX11_live_0 : bX11_live_0.all (mz_ok RX11 cX11_live 2) = true := by decide +kernel
def bX11_live_11 : List mz_E := [(11, .aload_n 0, 0, 0, 0, 0, 0), (12, .iconst 1, 0, 0, 0, 1, 0)]
theorem oX11_live_11 : bX11_live_11.all (mz_ok RX11 cX11_live 2) = true := by decide +kernel
def bX11_live_4 : List mz_E := [(4, .iload_n 1, 0, 0, 0, 0, 0), (5, .sipush 9999, 0, 0, 0, 9999, 0), (8, .if_icmp .le 9, 0, 17, 0, 0, 0)]
theorem oX11_live_4 : bX11_live_4.all (mz_ok RX11 cX11_live 2) = true := by decide +kernel
def bX11_live_17 : List mz_E := [(17, .aload_n 0, 0, 0, 0, 0, 0), (18, .getfield 32, 11, 4, 563, 0, 0), (21, .getfield 163, 6, 4, 492, 0, 0), (24, .getfield 453, 9, 0, 429, 0, 0), (27, .ifCond .ne 10, 0, 37, 0, 0, 0)]
theorem oX11_live_17 : bX11_live_17.all (mz_ok RX11 cX11_live 2) = true := by decide +kernel
def bX11_live_30 : List mz_E := [(30, .aload_n 0, 0, 0, 0, 0, 0), (31, .bipush 6, 0, 0, 0, 6, 0)]
theorem oX11_live_30 : bX11_live_30.all (mz_ok RX11 cX11_live 2) = true := by decide +kernel
def bX11_live_37 : List mz_E := [(37, .aload_n 0, 0, 0, 0, 0, 0), (38, .getfield 46, 11, 8, 567, 0, 0), (41, .aload_n 0, 0, 0, 0, 0, 0), (42, .getfield 32, 11, 4, 563, 0, 0), (45, .iload_n 1, 0, 0, 0, 0, 0)]
theorem oX11_live_37 : bX11_live_37.all (mz_ok RX11 cX11_live 2) = true := by decide +kernel
def bX11_live_49 : List mz_E := [(49, .aload_n 0, 0, 0, 0, 0, 0), (50, .getfield 46, 11, 8, 567, 0, 0), (53, .aload_n 0, 0, 0, 0, 0, 0), (54, .getfield 50, 11, 9, 568, 0, 0)]
theorem oX11_live_49 : bX11_live_49.all (mz_ok RX11 cX11_live 2) = true := by decide +kernel
def bX11_live_60 : List mz_E := [(60, .aload_n 0, 0, 0, 0, 0, 0), (61, .iconst 1, 0, 0, 0, 1, 0), (62, .putfield 465, 11, 10, 569, 0, 0), (65, .aload_n 0, 0, 0, 0, 0, 0), (66, .aload_n 0, 0, 0, 0, 0, 0), (67, .getfield 46, 11, 8, 567, 0, 0), (70, .getfield 468, 3, 0, 522, 0, 0)]
theorem oX11_live_60 : bX11_live_60.all (mz_ok RX11 cX11_live 2) = true := by decide +kernel
abbrev IX11_live : mz_I := (yX11_live, cX11_live, 2, (some .int), 0, 6, 0, 0)
theorem kX11_live : mz_okm IX11_live 1486 126 1484 1 = true := by decide +kernel
theorem vX11_live : mz_okV IX11_live 1484 1485 = true := by decide +kernel
def fX11_live (x1 : Int32) (D : mz_D) : Option (Int32 × mz_D) := (if x1 < 0 then (some ((-1 : Int32), (mz_wi D 0 0 13 (1 : Int32)))) else (if x1 ≤ (9999 : Int32) then (if (D.1 1 119 0) = 0 then (some ((-1 : Int32), (mz_wi D 0 0 13 (6 : Int32)))) else (Option.bind (fX3_run 1 x1 D) fun q4 => (Option.bind (fX3_tellTo_13 q4) fun q5 => (some ((q5.1 0 9 0), (mz_wi (mz_wi q5 0 0 10 (1 : Int32)) 0 0 13 (0 : Int32))))))) else (some ((-1 : Int32), (mz_wi D 0 0 13 (1 : Int32))))))
set_option maxHeartbeats 4000000 in
theorem mX11_live (x1 : Int32) (D : mz_D) (r : (Int32 × mz_D)) (h : fX11_live x1 D = some r) : mz_Met IX11_live [.inr (.inr (some (0, 0))), .inl x1] D (some (.inl r.1), r.2) := by
  refine mz_Met.of (by decide +kernel) (Nat.le_of_ble_eq_true rfl) ?_
  show mz_Go IX11_live (some (.inl r.1), r.2) 0 0 (0, [some (.inr (.inr (some (0, 0)))), some (.inl x1)], [], D)
  rw [fX11_live] at h
  refine mz_Go.run (gs := []) (st' := (if x1 < 0 then (11, [some (.inr (.inr (some (0, 0)))), some (.inl x1)], [], D) else (4, [some (.inr (.inr (some (0, 0)))), some (.inl x1)], [], D))) bX11_live_0 oX11_live_0 rfl trivial ?_
  refine mz_Go.ite (fun hc1 => ?_) (fun hc1 => ?_)
  · have h := mz_ifp hc1 h
    refine mz_Go.run (gs := []) (st' := (13, [some (.inr (.inr (some (0, 0)))), some (.inl x1)], [.inl (1 : Int32), .inr (.inr (some (0, 0)))], D)) bX11_live_11 oX11_live_11 rfl trivial ?_
    refine mz_Go.callV (I := IX11_live) (J := IX11_refuse) (as := [.inl (1 : Int32)]) (ci := 11) (g := 0) (o := 0) (idx := 100) (pl := 673) (rest := []) (mX11_refuse (1 : Int32) D) kX11_refuse vX11_refuse (by decide +kernel) (by decide +kernel) (by decide +kernel) rfl rfl ⟨rfl, rfl⟩ rfl rfl rfl rfl ?_
    cases h
    exact mz_Go.reti (by decide +kernel) rfl ⟨Nat.le_refl _, Nat.le_refl _⟩ rfl
  · have h := mz_ifn hc1 h
    refine mz_Go.run (gs := []) (st' := (if x1 ≤ (9999 : Int32) then (17, [some (.inr (.inr (some (0, 0)))), some (.inl x1)], [], D) else (11, [some (.inr (.inr (some (0, 0)))), some (.inl x1)], [], D))) bX11_live_4 oX11_live_4 rfl trivial ?_
    refine mz_Go.ite (fun hc2 => ?_) (fun hc2 => ?_)
    · have h := mz_ifp hc2 h
      refine mz_Go.run (gs := [mz_kz 0 0 0, mz_kz 0 1 100, mz_kz 0 1 119]) (st' := (if (D.1 1 119 0) = 0 then (30, [some (.inr (.inr (some (0, 0)))), some (.inl x1)], [], D) else (37, [some (.inr (.inr (some (0, 0)))), some (.inl x1)], [], D))) bX11_live_17 oX11_live_17 rfl ⟨rfl, rfl, rfl, trivial⟩ ?_
      refine mz_Go.ite (fun hc3 => ?_) (fun hc3 => ?_)
      · have h := mz_ifp hc3 h
        refine mz_Go.run (gs := []) (st' := (33, [some (.inr (.inr (some (0, 0)))), some (.inl x1)], [.inl (6 : Int32), .inr (.inr (some (0, 0)))], D)) bX11_live_30 oX11_live_30 rfl trivial ?_
        refine mz_Go.callV (I := IX11_live) (J := IX11_refuse) (as := [.inl (6 : Int32)]) (ci := 11) (g := 0) (o := 0) (idx := 100) (pl := 673) (rest := []) (mX11_refuse (6 : Int32) D) kX11_refuse vX11_refuse (by decide +kernel) (by decide +kernel) (by decide +kernel) rfl rfl ⟨rfl, rfl⟩ rfl rfl rfl rfl ?_
        cases h
        exact mz_Go.reti (by decide +kernel) rfl ⟨Nat.le_refl _, Nat.le_refl _⟩ rfl
      · have h := mz_ifn hc3 h
        refine mz_Go.run (gs := [mz_kz 0 0 0, mz_kz 0 0 0]) (st' := (46, [some (.inr (.inr (some (0, 0)))), some (.inl x1)], [.inl x1, .inr (.inr (some (1, 100))), .inr (.inr (some (0, 9)))], D)) bX11_live_37 oX11_live_37 rfl ⟨rfl, rfl, trivial⟩ ?_
        obtain ⟨q4, hq4, h⟩ := mz_bd_some h
        refine mz_Go.callV (I := IX11_live) (J := IX3_run) (as := [.inr (.inr (some (1, 100))), .inl x1]) (ci := 3) (g := 0) (o := 9) (idx := 457) (pl := 1487) (rest := []) (mX3_run 1 x1 D rfl q4 hq4) kX3_run vX3_run (by decide +kernel) (by decide +kernel) (by decide +kernel) rfl rfl ⟨rfl, rfl⟩ rfl rfl rfl rfl ?_
        refine mz_Go.run (gs := [mz_kz 0 0 0, mz_kz 0 0 0]) (st' := (57, [some (.inr (.inr (some (0, 0)))), some (.inl x1)], [.inr (.inr (some (0, 13))), .inr (.inr (some (0, 9)))], q4)) bX11_live_49 oX11_live_49 rfl ⟨rfl, rfl, trivial⟩ ?_
        obtain ⟨q5, hq5, h⟩ := mz_bd_some h
        refine mz_Go.callV (I := IX11_live) (J := IX3_tellTo_13) (as := [.inr (.inr (some (0, 13)))]) (ci := 3) (g := 0) (o := 9) (idx := 461) (pl := 1546) (rest := []) (mX3_tellTo_13 q4 q5 hq5) kX3_tellTo_13 vX3_tellTo_13 (by decide +kernel) (by decide +kernel) (by decide +kernel) rfl rfl ⟨rfl, rfl⟩ rfl rfl rfl rfl ?_
        refine mz_Go.run (gs := [mz_kz 0 0 0, mz_bo (1 : Int32), mz_kz 0 0 0, mz_kz 0 0 9]) (st' := (73, [some (.inr (.inr (some (0, 0)))), some (.inl x1)], [.inl (q5.1 0 9 0), .inr (.inr (some (0, 0)))], (mz_wi q5 0 0 10 (1 : Int32)))) bX11_live_60 oX11_live_60 rfl ⟨rfl, (by decide), rfl, rfl, trivial⟩ ?_
        refine mz_Go.callV (I := IX11_live) (J := IX11_answer) (as := [.inl (q5.1 0 9 0)]) (ci := 11) (g := 0) (o := 0) (idx := 160) (pl := 914) (rest := []) (mX11_answer (q5.1 0 9 0) (mz_wi q5 0 0 10 (1 : Int32))) kX11_answer vX11_answer (by decide +kernel) (by decide +kernel) (by decide +kernel) rfl rfl ⟨rfl, rfl⟩ rfl rfl rfl rfl ?_
        cases h
        exact mz_Go.reti (by decide +kernel) rfl ⟨Nat.le_refl _, Nat.le_refl _⟩ rfl
    · have h := mz_ifn hc2 h
      refine mz_Go.run (gs := []) (st' := (13, [some (.inr (.inr (some (0, 0)))), some (.inl x1)], [.inl (1 : Int32), .inr (.inr (some (0, 0)))], D)) bX11_live_11 oX11_live_11 rfl trivial ?_
      refine mz_Go.callV (I := IX11_live) (J := IX11_refuse) (as := [.inl (1 : Int32)]) (ci := 11) (g := 0) (o := 0) (idx := 100) (pl := 673) (rest := []) (mX11_refuse (1 : Int32) D) kX11_refuse vX11_refuse (by decide +kernel) (by decide +kernel) (by decide +kernel) rfl rfl ⟨rfl, rfl⟩ rfl rfl rfl rfl ?_
      cases h
      exact mz_Go.reti (by decide +kernel) rfl ⟨Nat.le_refl _, Nat.le_refl _⟩ rfl
def bX11_lived_0 : List mz_E := [(0, .iload_n 1, 0, 0, 0, 0, 0), (1, .ifCond .lt 8, 0, 9, 0, 0, 0)]
theorem oX11_lived_0 : bX11_lived_0.all (mz_ok RX11 cX11_lived 2) = true := by decide +kernel
def bX11_lived_9 : List mz_E := [(9, .aload_n 0, 0, 0, 0, 0, 0), (10, .iconst 1, 0, 0, 0, 1, 0)]
theorem oX11_lived_9 : bX11_lived_9.all (mz_ok RX11 cX11_lived 2) = true := by decide +kernel
def bX11_lived_4 : List mz_E := [(4, .iload_n 1, 0, 0, 0, 0, 0), (5, .iconst 5, 0, 0, 0, 5, 0), (6, .if_icmp .lt 9, 0, 15, 0, 0, 0)]
theorem oX11_lived_4 : bX11_lived_4.all (mz_ok RX11 cX11_lived 2) = true := by decide +kernel
def bX11_lived_15 : List mz_E := [(15, .aload_n 0, 0, 0, 0, 0, 0), (16, .getfield 465, 11, 10, 569, 0, 0), (19, .ifCond .eq 16, 0, 35, 0, 0, 0)]
theorem oX11_lived_15 : bX11_lived_15.all (mz_ok RX11 cX11_lived 2) = true := by decide +kernel
def bX11_lived_35 : List mz_E := [(35, .aload_n 0, 0, 0, 0, 0, 0), (36, .bipush 6, 0, 0, 0, 6, 0)]
theorem oX11_lived_35 : bX11_lived_35.all (mz_ok RX11 cX11_lived 2) = true := by decide +kernel
def bX11_lived_22 : List mz_E := [(22, .aload_n 0, 0, 0, 0, 0, 0), (23, .aload_n 0, 0, 0, 0, 0, 0), (24, .getfield 50, 11, 9, 568, 0, 0), (27, .iload_n 1, 0, 0, 0, 0, 0), (28, .iaload, 0, 0, 0, 0, 0)]
theorem oX11_lived_22 : bX11_lived_22.all (mz_ok RX11 cX11_lived 2) = true := by decide +kernel
def bX11_lived_32 : List mz_E := [(32, .goto 9, 0, 41, 0, 0, 0)]
theorem oX11_lived_32 : bX11_lived_32.all (mz_ok RX11 cX11_lived 2) = true := by decide +kernel
abbrev IX11_lived : mz_I := (yX11_lived, cX11_lived, 2, (some .int), 0, 1, 0, 0)
theorem kX11_lived : mz_okm IX11_lived 1553 126 1551 1 = true := by decide +kernel
theorem vX11_lived : mz_okV IX11_lived 1551 1552 = true := by decide +kernel
def fX11_lived (x1 : Int32) (D : mz_D) : Option (Int32 × mz_D) := (if x1 < 0 then (some ((-1 : Int32), (mz_wi D 0 0 13 (1 : Int32)))) else (if x1 < (5 : Int32) then (if (D.1 0 0 10) = 0 then (some ((-1 : Int32), (mz_wi D 0 0 13 (6 : Int32)))) else (mz_gd (mz_ix x1 5) (some ((D.1 0 13 (x1).toNatClampNeg), (mz_wi D 0 0 13 (0 : Int32)))))) else (some ((-1 : Int32), (mz_wi D 0 0 13 (1 : Int32))))))
set_option maxHeartbeats 4000000 in
theorem mX11_lived (x1 : Int32) (D : mz_D) (r : (Int32 × mz_D)) (h : fX11_lived x1 D = some r) : mz_Met IX11_lived [.inr (.inr (some (0, 0))), .inl x1] D (some (.inl r.1), r.2) := by
  refine mz_Met.of (by decide +kernel) (Nat.le_of_ble_eq_true rfl) ?_
  show mz_Go IX11_lived (some (.inl r.1), r.2) 0 0 (0, [some (.inr (.inr (some (0, 0)))), some (.inl x1)], [], D)
  rw [fX11_lived] at h
  refine mz_Go.run (gs := []) (st' := (if x1 < 0 then (9, [some (.inr (.inr (some (0, 0)))), some (.inl x1)], [], D) else (4, [some (.inr (.inr (some (0, 0)))), some (.inl x1)], [], D))) bX11_lived_0 oX11_lived_0 rfl trivial ?_
  refine mz_Go.ite (fun hc1 => ?_) (fun hc1 => ?_)
  · have h := mz_ifp hc1 h
    refine mz_Go.run (gs := []) (st' := (11, [some (.inr (.inr (some (0, 0)))), some (.inl x1)], [.inl (1 : Int32), .inr (.inr (some (0, 0)))], D)) bX11_lived_9 oX11_lived_9 rfl trivial ?_
    refine mz_Go.callV (I := IX11_lived) (J := IX11_refuse) (as := [.inl (1 : Int32)]) (ci := 11) (g := 0) (o := 0) (idx := 100) (pl := 673) (rest := []) (mX11_refuse (1 : Int32) D) kX11_refuse vX11_refuse (by decide +kernel) (by decide +kernel) (by decide +kernel) rfl rfl ⟨rfl, rfl⟩ rfl rfl rfl rfl ?_
    cases h
    exact mz_Go.reti (by decide +kernel) rfl ⟨Nat.le_refl _, Nat.le_refl _⟩ rfl
  · have h := mz_ifn hc1 h
    refine mz_Go.run (gs := []) (st' := (if x1 < (5 : Int32) then (15, [some (.inr (.inr (some (0, 0)))), some (.inl x1)], [], D) else (9, [some (.inr (.inr (some (0, 0)))), some (.inl x1)], [], D))) bX11_lived_4 oX11_lived_4 rfl trivial ?_
    refine mz_Go.ite (fun hc2 => ?_) (fun hc2 => ?_)
    · have h := mz_ifp hc2 h
      refine mz_Go.run (gs := [mz_kz 0 0 0]) (st' := (if (D.1 0 0 10) = 0 then (35, [some (.inr (.inr (some (0, 0)))), some (.inl x1)], [], D) else (22, [some (.inr (.inr (some (0, 0)))), some (.inl x1)], [], D))) bX11_lived_15 oX11_lived_15 rfl ⟨rfl, trivial⟩ ?_
      refine mz_Go.ite (fun hc3 => ?_) (fun hc3 => ?_)
      · have h := mz_ifp hc3 h
        refine mz_Go.run (gs := []) (st' := (38, [some (.inr (.inr (some (0, 0)))), some (.inl x1)], [.inl (6 : Int32), .inr (.inr (some (0, 0)))], D)) bX11_lived_35 oX11_lived_35 rfl trivial ?_
        refine mz_Go.callV (I := IX11_lived) (J := IX11_refuse) (as := [.inl (6 : Int32)]) (ci := 11) (g := 0) (o := 0) (idx := 100) (pl := 673) (rest := []) (mX11_refuse (6 : Int32) D) kX11_refuse vX11_refuse (by decide +kernel) (by decide +kernel) (by decide +kernel) rfl rfl ⟨rfl, rfl⟩ rfl rfl rfl rfl ?_
        cases h
        exact mz_Go.reti (by decide +kernel) rfl ⟨Nat.le_refl _, Nat.le_refl _⟩ rfl
      · have h := mz_ifn hc3 h
        obtain ⟨hb4, h⟩ := mz_gd_some h
        refine mz_Go.run (gs := [mz_kz 0 0 0, mz_kz 0 0 13, mz_ix x1 5]) (st' := (29, [some (.inr (.inr (some (0, 0)))), some (.inl x1)], [.inl (D.1 0 13 (x1).toNatClampNeg), .inr (.inr (some (0, 0)))], D)) bX11_lived_22 oX11_lived_22 rfl ⟨rfl, rfl, hb4, trivial⟩ ?_
        refine mz_Go.callV (I := IX11_lived) (J := IX11_answer) (as := [.inl (D.1 0 13 (x1).toNatClampNeg)]) (ci := 11) (g := 0) (o := 0) (idx := 160) (pl := 914) (rest := []) (mX11_answer (D.1 0 13 (x1).toNatClampNeg) D) kX11_answer vX11_answer (by decide +kernel) (by decide +kernel) (by decide +kernel) rfl rfl ⟨rfl, rfl⟩ rfl rfl rfl rfl ?_
        refine mz_Go.run (gs := []) (st' := (41, [some (.inr (.inr (some (0, 0)))), some (.inl x1)], [.inl (D.1 0 13 (x1).toNatClampNeg)], (mz_wi D 0 0 13 (0 : Int32)))) bX11_lived_32 oX11_lived_32 rfl trivial ?_
        cases h
        exact mz_Go.reti (by decide +kernel) rfl ⟨Nat.le_refl _, Nat.le_refl _⟩ rfl
    · have h := mz_ifn hc2 h
      refine mz_Go.run (gs := []) (st' := (11, [some (.inr (.inr (some (0, 0)))), some (.inl x1)], [.inl (1 : Int32), .inr (.inr (some (0, 0)))], D)) bX11_lived_9 oX11_lived_9 rfl trivial ?_
      refine mz_Go.callV (I := IX11_lived) (J := IX11_refuse) (as := [.inl (1 : Int32)]) (ci := 11) (g := 0) (o := 0) (idx := 100) (pl := 673) (rest := []) (mX11_refuse (1 : Int32) D) kX11_refuse vX11_refuse (by decide +kernel) (by decide +kernel) (by decide +kernel) rfl rfl ⟨rfl, rfl⟩ rfl rfl rfl rfl ?_
      cases h
      exact mz_Go.reti (by decide +kernel) rfl ⟨Nat.le_refl _, Nat.le_refl _⟩ rfl
def bX11_mean_0 : List mz_E := [(0, .aload_n 0, 0, 0, 0, 0, 0), (1, .getfield 32, 11, 4, 563, 0, 0), (4, .getfield 151, 6, 0, 477, 0, 0), (7, .iload_n 1, 0, 0, 0, 0, 0)]
theorem oX11_mean_0 : bX11_mean_0.all (mz_ok RX11 cX11_mean 7) = true := by decide +kernel
def bX11_mean_11 : List mz_E := [(11, .ifCond .eq 27, 0, 38, 0, 0, 0)]
theorem oX11_mean_11 : bX11_mean_11.all (mz_ok RX11 cX11_mean 7) = true := by decide +kernel
def bX11_mean_38 : List mz_E := [(38, .aload_n 0, 0, 0, 0, 0, 0), (39, .iconst 1, 0, 0, 0, 1, 0)]
theorem oX11_mean_38 : bX11_mean_38.all (mz_ok RX11 cX11_mean 7) = true := by decide +kernel
def bX11_mean_14 : List mz_E := [(14, .iload_n 3, 0, 0, 0, 0, 0), (15, .iconst 1, 0, 0, 0, 1, 0), (16, .if_icmp .lt 22, 0, 38, 0, 0, 0)]
theorem oX11_mean_14 : bX11_mean_14.all (mz_ok RX11 cX11_mean 7) = true := by decide +kernel
def bX11_mean_19 : List mz_E := [(19, .iload_n 3, 0, 0, 0, 0, 0), (20, .bipush 20, 0, 0, 0, 20, 0), (22, .if_icmp .gt 16, 0, 38, 0, 0, 0)]
theorem oX11_mean_19 : bX11_mean_19.all (mz_ok RX11 cX11_mean 7) = true := by decide +kernel
def bX11_mean_25 : List mz_E := [(25, .iload_n 2, 0, 0, 0, 0, 0), (26, .ifCond .lt 12, 0, 38, 0, 0, 0)]
theorem oX11_mean_25 : bX11_mean_25.all (mz_ok RX11 cX11_mean 7) = true := by decide +kernel
def bX11_mean_29 : List mz_E := [(29, .iload_n 2, 0, 0, 0, 0, 0), (30, .sipush 10000, 0, 0, 0, 10000, 0), (33, .iload_n 3, 0, 0, 0, 0, 0), (34, .isub, 0, 0, 0, 0, 0), (35, .if_icmp .le 9, 0, 44, 0, 0, 0)]
theorem oX11_mean_29 : bX11_mean_29.all (mz_ok RX11 cX11_mean 7) = true := by decide +kernel
def bX11_mean_44 : List mz_E := [(44, .aload_n 0, 0, 0, 0, 0, 0), (45, .getfield 32, 11, 4, 563, 0, 0), (48, .getfield 163, 6, 4, 492, 0, 0), (51, .getfield 453, 9, 0, 429, 0, 0), (54, .ifCond .ne 10, 0, 64, 0, 0, 0)]
theorem oX11_mean_44 : bX11_mean_44.all (mz_ok RX11 cX11_mean 7) = true := by decide +kernel
def bX11_mean_57 : List mz_E := [(57, .aload_n 0, 0, 0, 0, 0, 0), (58, .bipush 6, 0, 0, 0, 6, 0)]
theorem oX11_mean_57 : bX11_mean_57.all (mz_ok RX11 cX11_mean 7) = true := by decide +kernel
def bX11_mean_64 : List mz_E := [(64, .lconst 0, 0, 0, 0, 0, 0), (65, .lstore 4, 0, 0, 0, 0, 0), (67, .iconst 0, 0, 0, 0, 0, 0), (68, .istore 6, 0, 0, 0, 0, 0)]
theorem oX11_mean_64 : bX11_mean_64.all (mz_ok RX11 cX11_mean 7) = true := by decide +kernel
def bX11_mean_70 : List mz_E := [(70, .iload 6, 0, 0, 0, 0, 0), (72, .iload_n 3, 0, 0, 0, 0, 0), (73, .if_icmp .ge 53, 0, 126, 0, 0, 0)]
theorem oX11_mean_70 : bX11_mean_70.all (mz_ok RX11 cX11_mean 7) = true := by decide +kernel
def bX11_mean_126 : List mz_E := [(126, .aload_n 0, 0, 0, 0, 0, 0), (127, .lload 4, 0, 0, 0, 0, 0), (129, .iload_n 3, 0, 0, 0, 0, 0), (130, .i2l, 0, 0, 0, 0, 0)]
theorem oX11_mean_126 : bX11_mean_126.all (mz_ok RX11 cX11_mean 7) = true := by decide +kernel
def bX11_mean_76 : List mz_E := [(76, .aload_n 0, 0, 0, 0, 0, 0), (77, .getfield 36, 11, 5, 564, 0, 0), (80, .aload_n 0, 0, 0, 0, 0, 0), (81, .getfield 32, 11, 4, 563, 0, 0)]
theorem oX11_mean_76 : bX11_mean_76.all (mz_ok RX11 cX11_mean 7) = true := by decide +kernel
def bX11_mean_87 : List mz_E := [(87, .aload_n 0, 0, 0, 0, 0, 0), (88, .getfield 46, 11, 8, 567, 0, 0), (91, .aload_n 0, 0, 0, 0, 0, 0), (92, .getfield 36, 11, 5, 564, 0, 0), (95, .iload_n 2, 0, 0, 0, 0, 0), (96, .iload 6, 0, 0, 0, 0, 0), (98, .iadd, 0, 0, 0, 0, 0)]
theorem oX11_mean_87 : bX11_mean_87.all (mz_ok RX11 cX11_mean 7) = true := by decide +kernel
def bX11_mean_102 : List mz_E := [(102, .lload 4, 0, 0, 0, 0, 0), (104, .aload_n 0, 0, 0, 0, 0, 0), (105, .getfield 36, 11, 5, 564, 0, 0), (108, .getfield 151, 6, 0, 477, 0, 0), (111, .getfield 248, 4, 9, 322, 0, 0), (114, .iload_n 1, 0, 0, 0, 0, 0), (115, .iaload, 0, 0, 0, 0, 0), (116, .i2l, 0, 0, 0, 0, 0), (117, .ladd, 0, 0, 0, 0, 0), (118, .lstore 4, 0, 0, 0, 0, 0), (120, .iinc 6 1, 0, 0, 0, 1, 0), (123, .goto (-53), 0, 70, 0, 0, 0)]
theorem oX11_mean_102 : bX11_mean_102.all (mz_ok RX11 cX11_mean 7) = true := by decide +kernel
abbrev IX11_mean : mz_I := (yX11_mean, cX11_mean, 7, (some .boolean), 0, 6, 0, 0)
theorem kX11_mean : mz_okm IX11_mean 1557 126 1555 3 = true := by decide +kernel
theorem vX11_mean : mz_okV IX11_mean 1555 1556 = true := by decide +kernel
def fX11_mean_70 : Nat → Int32 → Int32 → Int32 → Int64 → Int32 → mz_D → Option (Int32 × mz_D)
  | 0 => fun _ _ _ _ _ _ => none
  | n + 1 => fun x1 x2 x3 y4 x6 D => (if x3 ≤ x6 then (Option.bind (fX11_tell y4 (x3).toInt64 D) fun q2 => (mz_gd (mz_bo q2.1) (some (q2.1, q2.2)))) else (Option.bind (fX6_copyFrom 2 1 D) fun q4 => (Option.bind (fX3_run 2 (x2 + x6) q4) fun q5 => (mz_gd (mz_ix x1 6) ((fX11_mean_70 n) x1 x2 x3 (y4 + ((q5.1 2 108 (x1).toNatClampNeg)).toInt64) (x6 + (1 : Int32)) q5)))))
set_option maxHeartbeats 4000000 in
theorem tX11_mean_70 (r : (Int32 × mz_D)) : ∀ (n : Nat) (x1 : Int32) (x2 : Int32) (x3 : Int32) (y4 : Int64) (x6 : Int32) (D : mz_D), fX11_mean_70 n x1 x2 x3 y4 x6 D = some r → mz_Go IX11_mean (some (.inl r.1), r.2) 0 0 (70, [some (.inr (.inr (some (0, 0)))), some (.inl x1), some (.inl x2), some (.inl x3), some (.inr (.inl y4)), none, some (.inl x6)], [], D) := by
  intro n
  induction n with
  | zero => intro x1 x2 x3 y4 x6 D h; have h : (none : Option (Int32 × mz_D)) = some r := h; cases h
  | succ n ih =>
    intro x1 x2 x3 y4 x6 D h
    rw [fX11_mean_70] at h
    refine mz_Go.run (gs := []) (st' := (if x3 ≤ x6 then (126, [some (.inr (.inr (some (0, 0)))), some (.inl x1), some (.inl x2), some (.inl x3), some (.inr (.inl y4)), none, some (.inl x6)], [], D) else (76, [some (.inr (.inr (some (0, 0)))), some (.inl x1), some (.inl x2), some (.inl x3), some (.inr (.inl y4)), none, some (.inl x6)], [], D))) bX11_mean_70 oX11_mean_70 rfl trivial ?_
    refine mz_Go.ite (fun hc1 => ?_) (fun hc1 => ?_)
    · have h := mz_ifp hc1 h
      refine mz_Go.run (gs := []) (st' := (131, [some (.inr (.inr (some (0, 0)))), some (.inl x1), some (.inl x2), some (.inl x3), some (.inr (.inl y4)), none, some (.inl x6)], [.inr (.inl (x3).toInt64), .inr (.inl y4), .inr (.inr (some (0, 0)))], D)) bX11_mean_126 oX11_mean_126 rfl trivial ?_
      obtain ⟨q2, hq2, h⟩ := mz_bd_some h
      refine mz_Go.callV (I := IX11_mean) (J := IX11_tell) (as := [.inr (.inl y4), .inr (.inl (x3).toInt64)]) (ci := 11) (g := 0) (o := 0) (idx := 314) (pl := 1232) (rest := []) (mX11_tell y4 (x3).toInt64 D q2 hq2) kX11_tell vX11_tell (by decide +kernel) (by decide +kernel) (by decide +kernel) rfl rfl ⟨rfl, rfl⟩ rfl rfl rfl rfl ?_
      obtain ⟨hb3, h⟩ := mz_gd_some h
      cases h
      exact mz_Go.retz (by decide +kernel) rfl ⟨Nat.le_refl _, Nat.le_refl _⟩ hb3 rfl
    · have h := mz_ifn hc1 h
      refine mz_Go.run (gs := [mz_kz 0 0 0, mz_kz 0 0 0]) (st' := (84, [some (.inr (.inr (some (0, 0)))), some (.inl x1), some (.inl x2), some (.inl x3), some (.inr (.inl y4)), none, some (.inl x6)], [.inr (.inr (some (1, 100))), .inr (.inr (some (2, 100)))], D)) bX11_mean_76 oX11_mean_76 rfl ⟨rfl, rfl, trivial⟩ ?_
      obtain ⟨q4, hq4, h⟩ := mz_bd_some h
      refine mz_Go.callV (I := IX11_mean) (J := IX6_copyFrom) (as := [.inr (.inr (some (1, 100)))]) (ci := 6) (g := 2) (o := 100) (idx := 147) (pl := 880) (rest := []) (mX6_copyFrom 2 1 D rfl rfl q4 hq4) kX6_copyFrom vX6_copyFrom (by decide +kernel) (by decide +kernel) (by decide +kernel) rfl rfl ⟨rfl, rfl⟩ rfl rfl rfl rfl ?_
      refine mz_Go.run (gs := [mz_kz 0 0 0, mz_kz 0 0 0]) (st' := (99, [some (.inr (.inr (some (0, 0)))), some (.inl x1), some (.inl x2), some (.inl x3), some (.inr (.inl y4)), none, some (.inl x6)], [.inl (x2 + x6), .inr (.inr (some (2, 100))), .inr (.inr (some (0, 9)))], q4)) bX11_mean_87 oX11_mean_87 rfl ⟨rfl, rfl, trivial⟩ ?_
      obtain ⟨q5, hq5, h⟩ := mz_bd_some h
      refine mz_Go.callV (I := IX11_mean) (J := IX3_run) (as := [.inr (.inr (some (2, 100))), .inl (x2 + x6)]) (ci := 3) (g := 0) (o := 9) (idx := 457) (pl := 1487) (rest := []) (mX3_run 2 (x2 + x6) q4 rfl q5 hq5) kX3_run vX3_run (by decide +kernel) (by decide +kernel) (by decide +kernel) rfl rfl ⟨rfl, rfl⟩ rfl rfl rfl rfl ?_
      obtain ⟨hb6, h⟩ := mz_gd_some h
      refine mz_Go.run (gs := [mz_kz 0 0 0, mz_kz 0 2 100, mz_kz 0 2 101, mz_kz 0 2 108, mz_ix x1 6]) (st' := (70, [some (.inr (.inr (some (0, 0)))), some (.inl x1), some (.inl x2), some (.inl x3), some (.inr (.inl (y4 + ((q5.1 2 108 (x1).toNatClampNeg)).toInt64))), none, some (.inl (x6 + (1 : Int32)))], [], q5)) bX11_mean_102 oX11_mean_102 rfl ⟨rfl, rfl, rfl, rfl, hb6, trivial⟩ ?_
      exact mz_Go.drop [true, true, true, true, true, false, true] (ih x1 x2 x3 (y4 + ((q5.1 2 108 (x1).toNatClampNeg)).toInt64) (x6 + (1 : Int32)) q5 h)
def fX11_mean (x1 : Int32) (x2 : Int32) (x3 : Int32) (D : mz_D) : Option (Int32 × mz_D) := (if (fX4_has 1 x1 D) = 0 then (some ((0 : Int32), (mz_wi D 0 0 13 (1 : Int32)))) else (if x3 < (1 : Int32) then (some ((0 : Int32), (mz_wi D 0 0 13 (1 : Int32)))) else (if (20 : Int32) < x3 then (some ((0 : Int32), (mz_wi D 0 0 13 (1 : Int32)))) else (if x2 < 0 then (some ((0 : Int32), (mz_wi D 0 0 13 (1 : Int32)))) else (if x2 ≤ ((10000 : Int32) - x3) then (if (D.1 1 119 0) = 0 then (some ((0 : Int32), (mz_wi D 0 0 13 (6 : Int32)))) else (fX11_mean_70 mz_N x1 x2 x3 (0 : Int64) (0 : Int32) D)) else (some ((0 : Int32), (mz_wi D 0 0 13 (1 : Int32)))))))))
set_option maxHeartbeats 4000000 in
theorem mX11_mean (x1 : Int32) (x2 : Int32) (x3 : Int32) (D : mz_D) (r : (Int32 × mz_D)) (h : fX11_mean x1 x2 x3 D = some r) : mz_Met IX11_mean [.inr (.inr (some (0, 0))), .inl x1, .inl x2, .inl x3] D (some (.inl r.1), r.2) := by
  refine mz_Met.of (by decide +kernel) (Nat.le_of_ble_eq_true rfl) ?_
  show mz_Go IX11_mean (some (.inl r.1), r.2) 0 0 (0, [some (.inr (.inr (some (0, 0)))), some (.inl x1), some (.inl x2), some (.inl x3), none, none, none], [], D)
  rw [fX11_mean] at h
  refine mz_Go.run (gs := [mz_kz 0 0 0, mz_kz 0 1 100]) (st' := (8, [some (.inr (.inr (some (0, 0)))), some (.inl x1), some (.inl x2), some (.inl x3), none, none, none], [.inl x1, .inr (.inr (some (1, 101)))], D)) bX11_mean_0 oX11_mean_0 rfl ⟨rfl, rfl, trivial⟩ ?_
  refine mz_Go.callV (I := IX11_mean) (J := IX4_has) (as := [.inl x1]) (ci := 4) (g := 1) (o := 101) (idx := 229) (pl := 1042) (rest := []) (mX4_has 1 x1 D rfl _ rfl) kX4_has vX4_has (by decide +kernel) (by decide +kernel) (by decide +kernel) rfl rfl ⟨rfl, rfl⟩ rfl rfl rfl rfl ?_
  refine mz_Go.run (gs := []) (st' := (if (fX4_has 1 x1 D) = 0 then (38, [some (.inr (.inr (some (0, 0)))), some (.inl x1), some (.inl x2), some (.inl x3), none, none, none], [], D) else (14, [some (.inr (.inr (some (0, 0)))), some (.inl x1), some (.inl x2), some (.inl x3), none, none, none], [], D))) bX11_mean_11 oX11_mean_11 rfl trivial ?_
  refine mz_Go.ite (fun hc1 => ?_) (fun hc1 => ?_)
  · have h := mz_ifp hc1 h
    refine mz_Go.run (gs := []) (st' := (40, [some (.inr (.inr (some (0, 0)))), some (.inl x1), some (.inl x2), some (.inl x3), none, none, none], [.inl (1 : Int32), .inr (.inr (some (0, 0)))], D)) bX11_mean_38 oX11_mean_38 rfl trivial ?_
    refine mz_Go.callV (I := IX11_mean) (J := IX11_deny) (as := [.inl (1 : Int32)]) (ci := 11) (g := 0) (o := 0) (idx := 81) (pl := 634) (rest := []) (mX11_deny (1 : Int32) D) kX11_deny vX11_deny (by decide +kernel) (by decide +kernel) (by decide +kernel) rfl rfl ⟨rfl, rfl⟩ rfl rfl rfl rfl ?_
    cases h
    exact mz_Go.retz (by decide +kernel) rfl ⟨Nat.le_refl _, Nat.le_refl _⟩ (by decide) rfl
  · have h := mz_ifn hc1 h
    refine mz_Go.run (gs := []) (st' := (if x3 < (1 : Int32) then (38, [some (.inr (.inr (some (0, 0)))), some (.inl x1), some (.inl x2), some (.inl x3), none, none, none], [], D) else (19, [some (.inr (.inr (some (0, 0)))), some (.inl x1), some (.inl x2), some (.inl x3), none, none, none], [], D))) bX11_mean_14 oX11_mean_14 rfl trivial ?_
    refine mz_Go.ite (fun hc2 => ?_) (fun hc2 => ?_)
    · have h := mz_ifp hc2 h
      refine mz_Go.run (gs := []) (st' := (40, [some (.inr (.inr (some (0, 0)))), some (.inl x1), some (.inl x2), some (.inl x3), none, none, none], [.inl (1 : Int32), .inr (.inr (some (0, 0)))], D)) bX11_mean_38 oX11_mean_38 rfl trivial ?_
      refine mz_Go.callV (I := IX11_mean) (J := IX11_deny) (as := [.inl (1 : Int32)]) (ci := 11) (g := 0) (o := 0) (idx := 81) (pl := 634) (rest := []) (mX11_deny (1 : Int32) D) kX11_deny vX11_deny (by decide +kernel) (by decide +kernel) (by decide +kernel) rfl rfl ⟨rfl, rfl⟩ rfl rfl rfl rfl ?_
      cases h
      exact mz_Go.retz (by decide +kernel) rfl ⟨Nat.le_refl _, Nat.le_refl _⟩ (by decide) rfl
    · have h := mz_ifn hc2 h
      refine mz_Go.run (gs := []) (st' := (if (20 : Int32) < x3 then (38, [some (.inr (.inr (some (0, 0)))), some (.inl x1), some (.inl x2), some (.inl x3), none, none, none], [], D) else (25, [some (.inr (.inr (some (0, 0)))), some (.inl x1), some (.inl x2), some (.inl x3), none, none, none], [], D))) bX11_mean_19 oX11_mean_19 rfl trivial ?_
      refine mz_Go.ite (fun hc3 => ?_) (fun hc3 => ?_)
      · have h := mz_ifp hc3 h
        refine mz_Go.run (gs := []) (st' := (40, [some (.inr (.inr (some (0, 0)))), some (.inl x1), some (.inl x2), some (.inl x3), none, none, none], [.inl (1 : Int32), .inr (.inr (some (0, 0)))], D)) bX11_mean_38 oX11_mean_38 rfl trivial ?_
        refine mz_Go.callV (I := IX11_mean) (J := IX11_deny) (as := [.inl (1 : Int32)]) (ci := 11) (g := 0) (o := 0) (idx := 81) (pl := 634) (rest := []) (mX11_deny (1 : Int32) D) kX11_deny vX11_deny (by decide +kernel) (by decide +kernel) (by decide +kernel) rfl rfl ⟨rfl, rfl⟩ rfl rfl rfl rfl ?_
        cases h
        exact mz_Go.retz (by decide +kernel) rfl ⟨Nat.le_refl _, Nat.le_refl _⟩ (by decide) rfl
      · have h := mz_ifn hc3 h
        refine mz_Go.run (gs := []) (st' := (if x2 < 0 then (38, [some (.inr (.inr (some (0, 0)))), some (.inl x1), some (.inl x2), some (.inl x3), none, none, none], [], D) else (29, [some (.inr (.inr (some (0, 0)))), some (.inl x1), some (.inl x2), some (.inl x3), none, none, none], [], D))) bX11_mean_25 oX11_mean_25 rfl trivial ?_
        refine mz_Go.ite (fun hc4 => ?_) (fun hc4 => ?_)
        · have h := mz_ifp hc4 h
          refine mz_Go.run (gs := []) (st' := (40, [some (.inr (.inr (some (0, 0)))), some (.inl x1), some (.inl x2), some (.inl x3), none, none, none], [.inl (1 : Int32), .inr (.inr (some (0, 0)))], D)) bX11_mean_38 oX11_mean_38 rfl trivial ?_
          refine mz_Go.callV (I := IX11_mean) (J := IX11_deny) (as := [.inl (1 : Int32)]) (ci := 11) (g := 0) (o := 0) (idx := 81) (pl := 634) (rest := []) (mX11_deny (1 : Int32) D) kX11_deny vX11_deny (by decide +kernel) (by decide +kernel) (by decide +kernel) rfl rfl ⟨rfl, rfl⟩ rfl rfl rfl rfl ?_
          cases h
          exact mz_Go.retz (by decide +kernel) rfl ⟨Nat.le_refl _, Nat.le_refl _⟩ (by decide) rfl
        · have h := mz_ifn hc4 h
          refine mz_Go.run (gs := []) (st' := (if x2 ≤ ((10000 : Int32) - x3) then (44, [some (.inr (.inr (some (0, 0)))), some (.inl x1), some (.inl x2), some (.inl x3), none, none, none], [], D) else (38, [some (.inr (.inr (some (0, 0)))), some (.inl x1), some (.inl x2), some (.inl x3), none, none, none], [], D))) bX11_mean_29 oX11_mean_29 rfl trivial ?_
          refine mz_Go.ite (fun hc5 => ?_) (fun hc5 => ?_)
          · have h := mz_ifp hc5 h
            refine mz_Go.run (gs := [mz_kz 0 0 0, mz_kz 0 1 100, mz_kz 0 1 119]) (st' := (if (D.1 1 119 0) = 0 then (57, [some (.inr (.inr (some (0, 0)))), some (.inl x1), some (.inl x2), some (.inl x3), none, none, none], [], D) else (64, [some (.inr (.inr (some (0, 0)))), some (.inl x1), some (.inl x2), some (.inl x3), none, none, none], [], D))) bX11_mean_44 oX11_mean_44 rfl ⟨rfl, rfl, rfl, trivial⟩ ?_
            refine mz_Go.ite (fun hc6 => ?_) (fun hc6 => ?_)
            · have h := mz_ifp hc6 h
              refine mz_Go.run (gs := []) (st' := (60, [some (.inr (.inr (some (0, 0)))), some (.inl x1), some (.inl x2), some (.inl x3), none, none, none], [.inl (6 : Int32), .inr (.inr (some (0, 0)))], D)) bX11_mean_57 oX11_mean_57 rfl trivial ?_
              refine mz_Go.callV (I := IX11_mean) (J := IX11_deny) (as := [.inl (6 : Int32)]) (ci := 11) (g := 0) (o := 0) (idx := 81) (pl := 634) (rest := []) (mX11_deny (6 : Int32) D) kX11_deny vX11_deny (by decide +kernel) (by decide +kernel) (by decide +kernel) rfl rfl ⟨rfl, rfl⟩ rfl rfl rfl rfl ?_
              cases h
              exact mz_Go.retz (by decide +kernel) rfl ⟨Nat.le_refl _, Nat.le_refl _⟩ (by decide) rfl
            · have h := mz_ifn hc6 h
              refine mz_Go.run (gs := []) (st' := (70, [some (.inr (.inr (some (0, 0)))), some (.inl x1), some (.inl x2), some (.inl x3), some (.inr (.inl (0 : Int64))), none, some (.inl (0 : Int32))], [], D)) bX11_mean_64 oX11_mean_64 rfl trivial ?_
              exact mz_Go.drop [true, true, true, true, true, false, true] (tX11_mean_70 r mz_N x1 x2 x3 (0 : Int64) (0 : Int32) D h)
          · have h := mz_ifn hc5 h
            refine mz_Go.run (gs := []) (st' := (40, [some (.inr (.inr (some (0, 0)))), some (.inl x1), some (.inl x2), some (.inl x3), none, none, none], [.inl (1 : Int32), .inr (.inr (some (0, 0)))], D)) bX11_mean_38 oX11_mean_38 rfl trivial ?_
            refine mz_Go.callV (I := IX11_mean) (J := IX11_deny) (as := [.inl (1 : Int32)]) (ci := 11) (g := 0) (o := 0) (idx := 81) (pl := 634) (rest := []) (mX11_deny (1 : Int32) D) kX11_deny vX11_deny (by decide +kernel) (by decide +kernel) (by decide +kernel) rfl rfl ⟨rfl, rfl⟩ rfl rfl rfl rfl ?_
            cases h
            exact mz_Go.retz (by decide +kernel) rfl ⟨Nat.le_refl _, Nat.le_refl _⟩ (by decide) rfl
def bX11_mark_0 : List mz_E := [(0, .aload_n 0, 0, 0, 0, 0, 0), (1, .getfield 471, 11, 7, 566, 0, 0), (4, .iconst 3, 0, 0, 0, 3, 0), (5, .if_icmp .lt 9, 0, 14, 0, 0, 0)]
theorem oX11_mark_0 : bX11_mark_0.all (mz_ok RX11 cX11_mark 1) = true := by decide +kernel
def bX11_mark_14 : List mz_E := [(14, .aload_n 0, 0, 0, 0, 0, 0), (15, .getfield 39, 11, 6, 565, 0, 0), (18, .aload_n 0, 0, 0, 0, 0, 0), (19, .getfield 471, 11, 7, 566, 0, 0)]
theorem oX11_mark_14 : bX11_mark_14.all (mz_ok RX11 cX11_mark 1) = true := by decide +kernel
def bX11_mark_23 : List mz_E := [(23, .aload_n 0, 0, 0, 0, 0, 0), (24, .getfield 32, 11, 4, 563, 0, 0)]
theorem oX11_mark_23 : bX11_mark_23.all (mz_ok RX11 cX11_mark 1) = true := by decide +kernel
def bX11_mark_30 : List mz_E := [(30, .aload_n 0, 0, 0, 0, 0, 0), (31, .dup, 0, 0, 0, 0, 0), (32, .getfield 471, 11, 7, 566, 0, 0), (35, .iconst 1, 0, 0, 0, 1, 0), (36, .iadd, 0, 0, 0, 0, 0), (37, .putfield 471, 11, 7, 566, 0, 0), (40, .aload_n 0, 0, 0, 0, 0, 0), (41, .aload_n 0, 0, 0, 0, 0, 0), (42, .getfield 471, 11, 7, 566, 0, 0)]
theorem oX11_mark_30 : bX11_mark_30.all (mz_ok RX11 cX11_mark 1) = true := by decide +kernel
def bX11_mark_8 : List mz_E := [(8, .aload_n 0, 0, 0, 0, 0, 0), (9, .iconst 4, 0, 0, 0, 4, 0)]
theorem oX11_mark_8 : bX11_mark_8.all (mz_ok RX11 cX11_mark 1) = true := by decide +kernel
abbrev IX11_mark : mz_I := (yX11_mark, cX11_mark, 1, (some .int), 0, 4, 0, 0)
theorem kX11_mark : mz_okm IX11_mark 1561 126 1559 0 = true := by decide +kernel
theorem vX11_mark : mz_okV IX11_mark 1559 1560 = true := by decide +kernel
def fX11_mark (D : mz_D) : Option (Int32 × mz_D) := (if (D.1 0 0 7) < (3 : Int32) then (mz_gd (mz_ix (D.1 0 0 7) 3) (Option.bind (fX6_copyFrom (3 + ((D.1 0 0 7)).toNatClampNeg) 1 D) fun q3 => (some (((q3.1 0 0 7) + (1 : Int32)), (mz_wi (mz_wi q3 0 0 7 ((q3.1 0 0 7) + (1 : Int32))) 0 0 13 (0 : Int32)))))) else (some ((-1 : Int32), (mz_wi D 0 0 13 (4 : Int32)))))
set_option maxHeartbeats 4000000 in
theorem mX11_mark (D : mz_D) (r : (Int32 × mz_D)) (h : fX11_mark D = some r) : mz_Met IX11_mark [.inr (.inr (some (0, 0)))] D (some (.inl r.1), r.2) := by
  refine mz_Met.of (by decide +kernel) (Nat.le_of_ble_eq_true rfl) ?_
  show mz_Go IX11_mark (some (.inl r.1), r.2) 0 0 (0, [some (.inr (.inr (some (0, 0))))], [], D)
  rw [fX11_mark] at h
  refine mz_Go.run (gs := [mz_kz 0 0 0]) (st' := (if (D.1 0 0 7) < (3 : Int32) then (14, [some (.inr (.inr (some (0, 0))))], [], D) else (8, [some (.inr (.inr (some (0, 0))))], [], D))) bX11_mark_0 oX11_mark_0 rfl ⟨rfl, trivial⟩ ?_
  refine mz_Go.ite (fun hc1 => ?_) (fun hc1 => ?_)
  · have h := mz_ifp hc1 h
    refine mz_Go.run (gs := [mz_kz 0 0 0, mz_kz 0 0 0]) (st' := (22, [some (.inr (.inr (some (0, 0))))], [.inl (D.1 0 0 7), .inr (.inr (some (0, 8)))], D)) bX11_mark_14 oX11_mark_14 rfl ⟨rfl, rfl, trivial⟩ ?_
    obtain ⟨hb2, h⟩ := mz_gd_some h
    refine mz_Go.aal8 (I := IX11_mark) (by decide +kernel) rfl hb2 ?_
    refine mz_Go.run (gs := [mz_kz 0 0 0]) (st' := (27, [some (.inr (.inr (some (0, 0))))], [.inr (.inr (some (1, 100))), .inr (.inr (some ((3 + ((D.1 0 0 7)).toNatClampNeg), 100)))], D)) bX11_mark_23 oX11_mark_23 rfl ⟨rfl, trivial⟩ ?_
    obtain ⟨q3, hq3, h⟩ := mz_bd_some h
    refine mz_Go.callV (I := IX11_mark) (J := IX6_copyFrom) (as := [.inr (.inr (some (1, 100)))]) (ci := 6) (g := (3 + ((D.1 0 0 7)).toNatClampNeg)) (o := 100) (idx := 147) (pl := 880) (rest := []) (mX6_copyFrom (3 + ((D.1 0 0 7)).toNatClampNeg) 1 D (mz_tb8 hb2) rfl q3 hq3) kX6_copyFrom vX6_copyFrom (by decide +kernel) (by decide +kernel) (by decide +kernel) rfl rfl ⟨rfl, rfl⟩ rfl rfl (mz_tb8 hb2) rfl ?_
    refine mz_Go.run (gs := [mz_kz 0 0 0, mz_kz 0 0 0, mz_kz 0 0 0]) (st' := (45, [some (.inr (.inr (some (0, 0))))], [.inl ((q3.1 0 0 7) + (1 : Int32)), .inr (.inr (some (0, 0)))], (mz_wi q3 0 0 7 ((q3.1 0 0 7) + (1 : Int32))))) bX11_mark_30 oX11_mark_30 rfl ⟨rfl, rfl, rfl, trivial⟩ ?_
    refine mz_Go.callV (I := IX11_mark) (J := IX11_answer) (as := [.inl ((q3.1 0 0 7) + (1 : Int32))]) (ci := 11) (g := 0) (o := 0) (idx := 160) (pl := 914) (rest := []) (mX11_answer ((q3.1 0 0 7) + (1 : Int32)) (mz_wi q3 0 0 7 ((q3.1 0 0 7) + (1 : Int32)))) kX11_answer vX11_answer (by decide +kernel) (by decide +kernel) (by decide +kernel) rfl rfl ⟨rfl, rfl⟩ rfl rfl rfl rfl ?_
    cases h
    exact mz_Go.reti (by decide +kernel) rfl ⟨Nat.le_refl _, Nat.le_refl _⟩ rfl
  · have h := mz_ifn hc1 h
    refine mz_Go.run (gs := []) (st' := (10, [some (.inr (.inr (some (0, 0))))], [.inl (4 : Int32), .inr (.inr (some (0, 0)))], D)) bX11_mark_8 oX11_mark_8 rfl trivial ?_
    refine mz_Go.callV (I := IX11_mark) (J := IX11_refuse) (as := [.inl (4 : Int32)]) (ci := 11) (g := 0) (o := 0) (idx := 100) (pl := 673) (rest := []) (mX11_refuse (4 : Int32) D) kX11_refuse vX11_refuse (by decide +kernel) (by decide +kernel) (by decide +kernel) rfl rfl ⟨rfl, rfl⟩ rfl rfl rfl rfl ?_
    cases h
    exact mz_Go.reti (by decide +kernel) rfl ⟨Nat.le_refl _, Nat.le_refl _⟩ rfl
def bX11_back_0 : List mz_E := [(0, .aload_n 0, 0, 0, 0, 0, 0), (1, .getfield 471, 11, 7, 566, 0, 0), (4, .ifCond .gt 10, 0, 14, 0, 0, 0)]
theorem oX11_back_0 : bX11_back_0.all (mz_ok RX11 cX11_back 1) = true := by decide +kernel
def bX11_back_14 : List mz_E := [(14, .aload_n 0, 0, 0, 0, 0, 0), (15, .dup, 0, 0, 0, 0, 0), (16, .getfield 471, 11, 7, 566, 0, 0), (19, .iconst 1, 0, 0, 0, 1, 0), (20, .isub, 0, 0, 0, 0, 0), (21, .putfield 471, 11, 7, 566, 0, 0), (24, .aload_n 0, 0, 0, 0, 0, 0), (25, .getfield 32, 11, 4, 563, 0, 0), (28, .aload_n 0, 0, 0, 0, 0, 0), (29, .getfield 39, 11, 6, 565, 0, 0), (32, .aload_n 0, 0, 0, 0, 0, 0), (33, .getfield 471, 11, 7, 566, 0, 0)]
theorem oX11_back_14 : bX11_back_14.all (mz_ok RX11 cX11_back 1) = true := by decide +kernel
def bX11_back_40 : List mz_E := [(40, .aload_n 0, 0, 0, 0, 0, 0), (41, .aload_n 0, 0, 0, 0, 0, 0), (42, .getfield 471, 11, 7, 566, 0, 0)]
theorem oX11_back_40 : bX11_back_40.all (mz_ok RX11 cX11_back 1) = true := by decide +kernel
def bX11_back_7 : List mz_E := [(7, .aload_n 0, 0, 0, 0, 0, 0), (8, .bipush 6, 0, 0, 0, 6, 0)]
theorem oX11_back_7 : bX11_back_7.all (mz_ok RX11 cX11_back 1) = true := by decide +kernel
abbrev IX11_back : mz_I := (yX11_back, cX11_back, 1, (some .int), 0, 4, 0, 0)
theorem kX11_back : mz_okm IX11_back 1565 126 1563 0 = true := by decide +kernel
theorem vX11_back : mz_okV IX11_back 1563 1564 = true := by decide +kernel
def fX11_back (D : mz_D) : Option (Int32 × mz_D) := (if 0 < (D.1 0 0 7) then (mz_gd (mz_ix ((D.1 0 0 7) - (1 : Int32)) 3) (Option.bind (fX6_copyFrom 1 (3 + (((D.1 0 0 7) - (1 : Int32))).toNatClampNeg) (mz_wi D 0 0 7 ((D.1 0 0 7) - (1 : Int32)))) fun q3 => (some ((q3.1 0 0 7), (mz_wi q3 0 0 13 (0 : Int32)))))) else (some ((-1 : Int32), (mz_wi D 0 0 13 (6 : Int32)))))
set_option maxHeartbeats 4000000 in
theorem mX11_back (D : mz_D) (r : (Int32 × mz_D)) (h : fX11_back D = some r) : mz_Met IX11_back [.inr (.inr (some (0, 0)))] D (some (.inl r.1), r.2) := by
  refine mz_Met.of (by decide +kernel) (Nat.le_of_ble_eq_true rfl) ?_
  show mz_Go IX11_back (some (.inl r.1), r.2) 0 0 (0, [some (.inr (.inr (some (0, 0))))], [], D)
  rw [fX11_back] at h
  refine mz_Go.run (gs := [mz_kz 0 0 0]) (st' := (if 0 < (D.1 0 0 7) then (14, [some (.inr (.inr (some (0, 0))))], [], D) else (7, [some (.inr (.inr (some (0, 0))))], [], D))) bX11_back_0 oX11_back_0 rfl ⟨rfl, trivial⟩ ?_
  refine mz_Go.ite (fun hc1 => ?_) (fun hc1 => ?_)
  · have h := mz_ifp hc1 h
    refine mz_Go.run (gs := [mz_kz 0 0 0, mz_kz 0 0 0, mz_kz 0 0 0, mz_kz 0 0 0, mz_kz 0 0 0]) (st' := (36, [some (.inr (.inr (some (0, 0))))], [.inl ((D.1 0 0 7) - (1 : Int32)), .inr (.inr (some (0, 8))), .inr (.inr (some (1, 100)))], (mz_wi D 0 0 7 ((D.1 0 0 7) - (1 : Int32))))) bX11_back_14 oX11_back_14 rfl ⟨rfl, rfl, rfl, rfl, rfl, trivial⟩ ?_
    obtain ⟨hb2, h⟩ := mz_gd_some h
    refine mz_Go.aal8 (I := IX11_back) (by decide +kernel) rfl hb2 ?_
    obtain ⟨q3, hq3, h⟩ := mz_bd_some h
    refine mz_Go.callV (I := IX11_back) (J := IX6_copyFrom) (as := [.inr (.inr (some ((3 + (((D.1 0 0 7) - (1 : Int32))).toNatClampNeg), 100)))]) (ci := 6) (g := 1) (o := 100) (idx := 147) (pl := 880) (rest := []) (mX6_copyFrom 1 (3 + (((D.1 0 0 7) - (1 : Int32))).toNatClampNeg) (mz_wi D 0 0 7 ((D.1 0 0 7) - (1 : Int32))) rfl (mz_tb8 hb2) q3 hq3) kX6_copyFrom vX6_copyFrom (by decide +kernel) (by decide +kernel) (by decide +kernel) rfl rfl ⟨rfl, rfl⟩ rfl rfl rfl rfl ?_
    refine mz_Go.run (gs := [mz_kz 0 0 0]) (st' := (45, [some (.inr (.inr (some (0, 0))))], [.inl (q3.1 0 0 7), .inr (.inr (some (0, 0)))], q3)) bX11_back_40 oX11_back_40 rfl ⟨rfl, trivial⟩ ?_
    refine mz_Go.callV (I := IX11_back) (J := IX11_answer) (as := [.inl (q3.1 0 0 7)]) (ci := 11) (g := 0) (o := 0) (idx := 160) (pl := 914) (rest := []) (mX11_answer (q3.1 0 0 7) q3) kX11_answer vX11_answer (by decide +kernel) (by decide +kernel) (by decide +kernel) rfl rfl ⟨rfl, rfl⟩ rfl rfl rfl rfl ?_
    cases h
    exact mz_Go.reti (by decide +kernel) rfl ⟨Nat.le_refl _, Nat.le_refl _⟩ rfl
  · have h := mz_ifn hc1 h
    refine mz_Go.run (gs := []) (st' := (10, [some (.inr (.inr (some (0, 0))))], [.inl (6 : Int32), .inr (.inr (some (0, 0)))], D)) bX11_back_7 oX11_back_7 rfl trivial ?_
    refine mz_Go.callV (I := IX11_back) (J := IX11_refuse) (as := [.inl (6 : Int32)]) (ci := 11) (g := 0) (o := 0) (idx := 100) (pl := 673) (rest := []) (mX11_refuse (6 : Int32) D) kX11_refuse vX11_refuse (by decide +kernel) (by decide +kernel) (by decide +kernel) rfl rfl ⟨rfl, rfl⟩ rfl rfl rfl rfl ?_
    cases h
    exact mz_Go.reti (by decide +kernel) rfl ⟨Nat.le_refl _, Nat.le_refl _⟩ rfl
def bX11_hearFault_0 : List mz_E := [(0, .aload_n 0, 0, 0, 0, 0, 0), (1, .iload_n 1, 0, 0, 0, 0, 0), (2, .ifCond .eq 7, 0, 9, 0, 0, 0)]
theorem oX11_hearFault_0 : bX11_hearFault_0.all (mz_ok RX11 cX11_hearFault 2) = true := by decide +kernel
def bX11_hearFault_9 : List mz_E := [(9, .aload_n 0, 0, 0, 0, 0, 0), (10, .getfield 18, 11, 2, 561, 0, 0), (13, .getfield 478, 5, 0, 215, 0, 0)]
theorem oX11_hearFault_9 : bX11_hearFault_9.all (mz_ok RX11 cX11_hearFault 2) = true := by decide +kernel
def bX11_hearFault_16 : List mz_E := [(16, .putfield 64, 11, 16, 575, 0, 0), (19, .aload_n 0, 0, 0, 0, 0, 0), (20, .iload_n 1, 0, 0, 0, 0, 0), (21, .ifCond .eq 7, 0, 28, 0, 0, 0)]
theorem oX11_hearFault_16 : bX11_hearFault_16.all (mz_ok RX11 cX11_hearFault 2) = true := by decide +kernel
def bX11_hearFault_28 : List mz_E := [(28, .aload_n 0, 0, 0, 0, 0, 0), (29, .getfield 18, 11, 2, 561, 0, 0), (32, .getfield 479, 5, 1, 217, 0, 0), (35, .putfield 68, 11, 17, 576, 0, 0), (38, .iload_n 1, 0, 0, 0, 0, 0)]
theorem oX11_hearFault_28 : bX11_hearFault_28.all (mz_ok RX11 cX11_hearFault 2) = true := by decide +kernel
def bX11_hearFault_24 : List mz_E := [(24, .iconst (-1), 0, 0, 0, -1, 0), (25, .goto 10, 0, 35, 0, 0, 0), (35, .putfield 68, 11, 17, 576, 0, 0), (38, .iload_n 1, 0, 0, 0, 0, 0)]
theorem oX11_hearFault_24 : bX11_hearFault_24.all (mz_ok RX11 cX11_hearFault 2) = true := by decide +kernel
def bX11_hearFault_5 : List mz_E := [(5, .iconst 0, 0, 0, 0, 0, 0), (6, .goto 10, 0, 16, 0, 0, 0)]
theorem oX11_hearFault_5 : bX11_hearFault_5.all (mz_ok RX11 cX11_hearFault 2) = true := by decide +kernel
abbrev IX11_hearFault : mz_I := (yX11_hearFault, cX11_hearFault, 2, (some .boolean), 0, 0, 0, 0)
theorem kX11_hearFault : mz_okm IX11_hearFault 879 126 878 1 = true := by decide +kernel
theorem vX11_hearFault : mz_okV IX11_hearFault 878 14 = true := by decide +kernel
def fX11_hearFault_16 (x1 : Int32) (s0 : Int32) (D : mz_D) : Option (Int32 × mz_D) := (if x1 = 0 then (mz_gd (mz_bo x1) (some (x1, (mz_wi (mz_wi D 0 0 16 s0) 0 0 17 (D.1 0 2 1))))) else (mz_gd (mz_bo x1) (some (x1, (mz_wi (mz_wi D 0 0 16 s0) 0 0 17 (-1 : Int32))))))
set_option maxHeartbeats 4000000 in
theorem tX11_hearFault_16 (r : (Int32 × mz_D)) : ∀ (x1 : Int32) (s0 : Int32) (D : mz_D), fX11_hearFault_16 x1 s0 D = some r → mz_Go IX11_hearFault (some (.inl r.1), r.2) 0 0 (16, [some (.inr (.inr (some (0, 0)))), some (.inl x1)], [.inl s0, .inr (.inr (some (0, 0)))], D) := by
  intro x1 s0 D h
  rw [fX11_hearFault_16] at h
  refine mz_Go.run (gs := [mz_kz 0 0 0]) (st' := (if x1 = 0 then (28, [some (.inr (.inr (some (0, 0)))), some (.inl x1)], [.inr (.inr (some (0, 0)))], (mz_wi D 0 0 16 s0)) else (24, [some (.inr (.inr (some (0, 0)))), some (.inl x1)], [.inr (.inr (some (0, 0)))], (mz_wi D 0 0 16 s0)))) bX11_hearFault_16 oX11_hearFault_16 rfl ⟨rfl, trivial⟩ ?_
  refine mz_Go.ite (fun hc1 => ?_) (fun hc1 => ?_)
  · have h := mz_ifp hc1 h
    refine mz_Go.run (gs := [mz_kz 0 0 0, mz_kz 0 0 2, mz_kz 0 0 0]) (st' := (39, [some (.inr (.inr (some (0, 0)))), some (.inl x1)], [.inl x1], (mz_wi (mz_wi D 0 0 16 s0) 0 0 17 (D.1 0 2 1)))) bX11_hearFault_28 oX11_hearFault_28 rfl ⟨rfl, rfl, rfl, trivial⟩ ?_
    obtain ⟨hb2, h⟩ := mz_gd_some h
    cases h
    exact mz_Go.retz (by decide +kernel) rfl ⟨Nat.le_refl _, Nat.le_refl _⟩ hb2 rfl
  · have h := mz_ifn hc1 h
    refine mz_Go.run (gs := [mz_kz 0 0 0]) (st' := (39, [some (.inr (.inr (some (0, 0)))), some (.inl x1)], [.inl x1], (mz_wi (mz_wi D 0 0 16 s0) 0 0 17 (-1 : Int32)))) bX11_hearFault_24 oX11_hearFault_24 rfl ⟨rfl, trivial⟩ ?_
    obtain ⟨hb3, h⟩ := mz_gd_some h
    cases h
    exact mz_Go.retz (by decide +kernel) rfl ⟨Nat.le_refl _, Nat.le_refl _⟩ hb3 rfl
def fX11_hearFault (x1 : Int32) (D : mz_D) : Option (Int32 × mz_D) := (if x1 = 0 then (fX11_hearFault_16 x1 (D.1 0 2 0) D) else (fX11_hearFault_16 x1 (0 : Int32) D))
set_option maxHeartbeats 4000000 in
theorem mX11_hearFault (x1 : Int32) (D : mz_D) (r : (Int32 × mz_D)) (h : fX11_hearFault x1 D = some r) : mz_Met IX11_hearFault [.inr (.inr (some (0, 0))), .inl x1] D (some (.inl r.1), r.2) := by
  refine mz_Met.of (by decide +kernel) (Nat.le_of_ble_eq_true rfl) ?_
  show mz_Go IX11_hearFault (some (.inl r.1), r.2) 0 0 (0, [some (.inr (.inr (some (0, 0)))), some (.inl x1)], [], D)
  rw [fX11_hearFault] at h
  refine mz_Go.run (gs := []) (st' := (if x1 = 0 then (9, [some (.inr (.inr (some (0, 0)))), some (.inl x1)], [.inr (.inr (some (0, 0)))], D) else (5, [some (.inr (.inr (some (0, 0)))), some (.inl x1)], [.inr (.inr (some (0, 0)))], D))) bX11_hearFault_0 oX11_hearFault_0 rfl trivial ?_
  refine mz_Go.ite (fun hc1 => ?_) (fun hc1 => ?_)
  · have h := mz_ifp hc1 h
    refine mz_Go.run (gs := [mz_kz 0 0 0, mz_kz 0 0 2]) (st' := (16, [some (.inr (.inr (some (0, 0)))), some (.inl x1)], [.inl (D.1 0 2 0), .inr (.inr (some (0, 0)))], D)) bX11_hearFault_9 oX11_hearFault_9 rfl ⟨rfl, rfl, trivial⟩ ?_
    exact mz_Go.drop [true, true] (tX11_hearFault_16 r x1 (D.1 0 2 0) D h)
  · have h := mz_ifn hc1 h
    refine mz_Go.run (gs := []) (st' := (16, [some (.inr (.inr (some (0, 0)))), some (.inl x1)], [.inl (0 : Int32), .inr (.inr (some (0, 0)))], D)) bX11_hearFault_5 oX11_hearFault_5 rfl trivial ?_
    exact mz_Go.drop [true, true] (tX11_hearFault_16 r x1 (0 : Int32) D h)
def bX12_plain_0 : List mz_E := [(0, .iconst 0, 0, 0, 0, 0, 0), (1, .istore_n 2, 0, 0, 0, 0, 0)]
theorem oX12_plain_0 : bX12_plain_0.all (mz_ok RX12 cX12_plain 3) = true := by decide +kernel
def bX12_plain_2 : List mz_E := [(2, .iload_n 2, 0, 0, 0, 0, 0), (3, .sipush 500, 0, 0, 0, 500, 0), (6, .if_icmp .ge 18, 0, 24, 0, 0, 0)]
theorem oX12_plain_2 : bX12_plain_2.all (mz_ok RX12 cX12_plain 3) = true := by decide +kernel
def bX12_plain_24 : List mz_E := [(24, .aload_n 0, 0, 0, 0, 0, 0), (25, .getfield 7, 12, 0, 1576, 0, 0), (28, .iload_n 1, 0, 0, 0, 0, 0), (29, .bipush 9, 0, 0, 0, 9, 0), (31, .iadd, 0, 0, 0, 0, 0), (32, .iconst (-1), 0, 0, 0, -1, 0), (33, .iastore, 0, 0, 0, 0, 0)]
theorem oX12_plain_24 : bX12_plain_24.all (mz_ok RX12 cX12_plain 3) = true := by decide +kernel
def bX12_plain_9 : List mz_E := [(9, .aload_n 0, 0, 0, 0, 0, 0), (10, .getfield 7, 12, 0, 1576, 0, 0), (13, .iload_n 1, 0, 0, 0, 0, 0), (14, .iload_n 2, 0, 0, 0, 0, 0), (15, .iadd, 0, 0, 0, 0, 0), (16, .iconst 0, 0, 0, 0, 0, 0), (17, .iastore, 0, 0, 0, 0, 0), (18, .iinc 2 1, 0, 0, 0, 1, 0), (21, .goto (-19), 0, 2, 0, 0, 0)]
theorem oX12_plain_9 : bX12_plain_9.all (mz_ok RX12 cX12_plain 3) = true := by decide +kernel
abbrev IX12_plain : mz_I := (yX12_plain, cX12_plain, 3, none, 0, 0, 0, 0)
theorem kX12_plain : mz_okm IX12_plain 1575 141 1574 1 = true := by decide +kernel
theorem vX12_plain : mz_okV IX12_plain 1574 46 = true := by decide +kernel
def fX12_plain_2 : Nat → Int32 → Int32 → mz_D → Option mz_D
  | 0 => fun _ _ _ => none
  | n + 1 => fun x1 x2 D => (if (500 : Int32) ≤ x2 then (mz_gd (mz_ix (x1 + (9 : Int32)) 3000) (some (mz_wi D 0 201 ((x1 + (9 : Int32))).toNatClampNeg (-1 : Int32)))) else (mz_gd (mz_ix (x1 + x2) 3000) ((fX12_plain_2 n) x1 (x2 + (1 : Int32)) (mz_wi D 0 201 ((x1 + x2)).toNatClampNeg (0 : Int32)))))
set_option maxHeartbeats 4000000 in
theorem tX12_plain_2 (r : mz_D) : ∀ (n : Nat) (x1 : Int32) (x2 : Int32) (D : mz_D), fX12_plain_2 n x1 x2 D = some r → mz_Go IX12_plain (none, r) 0 0 (2, [some (.inr (.inr (some (0, 200)))), some (.inl x1), some (.inl x2)], [], D) := by
  intro n
  induction n with
  | zero => intro x1 x2 D h; have h : (none : Option mz_D) = some r := h; cases h
  | succ n ih =>
    intro x1 x2 D h
    rw [fX12_plain_2] at h
    refine mz_Go.run (gs := []) (st' := (if (500 : Int32) ≤ x2 then (24, [some (.inr (.inr (some (0, 200)))), some (.inl x1), some (.inl x2)], [], D) else (9, [some (.inr (.inr (some (0, 200)))), some (.inl x1), some (.inl x2)], [], D))) bX12_plain_2 oX12_plain_2 rfl trivial ?_
    refine mz_Go.ite (fun hc1 => ?_) (fun hc1 => ?_)
    · have h := mz_ifp hc1 h
      obtain ⟨hb2, h⟩ := mz_gd_some h
      refine mz_Go.run (gs := [mz_kz 0 0 200, mz_kz 0 0 201, mz_ix (x1 + (9 : Int32)) 3000]) (st' := (34, [some (.inr (.inr (some (0, 200)))), some (.inl x1), some (.inl x2)], [], (mz_wi D 0 201 ((x1 + (9 : Int32))).toNatClampNeg (-1 : Int32)))) bX12_plain_24 oX12_plain_24 rfl ⟨rfl, rfl, hb2, trivial⟩ ?_
      cases h
      exact mz_Go.retv (by decide +kernel) rfl ⟨Nat.le_refl _, Nat.le_refl _⟩ rfl
    · have h := mz_ifn hc1 h
      obtain ⟨hb3, h⟩ := mz_gd_some h
      refine mz_Go.run (gs := [mz_kz 0 0 200, mz_kz 0 0 201, mz_ix (x1 + x2) 3000]) (st' := (2, [some (.inr (.inr (some (0, 200)))), some (.inl x1), some (.inl (x2 + (1 : Int32)))], [], (mz_wi D 0 201 ((x1 + x2)).toNatClampNeg (0 : Int32)))) bX12_plain_9 oX12_plain_9 rfl ⟨rfl, rfl, hb3, trivial⟩ ?_
      exact mz_Go.drop [true, true, true] (ih x1 (x2 + (1 : Int32)) (mz_wi D 0 201 ((x1 + x2)).toNatClampNeg (0 : Int32)) h)
def fX12_plain (x1 : Int32) (D : mz_D) : Option mz_D := (fX12_plain_2 mz_N x1 (0 : Int32) D)
set_option maxHeartbeats 4000000 in
theorem mX12_plain (x1 : Int32) (D : mz_D) (r : mz_D) (h : fX12_plain x1 D = some r) : mz_Met IX12_plain [.inr (.inr (some (0, 200))), .inl x1] D (none, r) := by
  refine mz_Met.of (by decide +kernel) (Nat.le_of_ble_eq_true rfl) ?_
  show mz_Go IX12_plain (none, r) 0 0 (0, [some (.inr (.inr (some (0, 200)))), some (.inl x1), none], [], D)
  rw [fX12_plain] at h
  refine mz_Go.run (gs := []) (st' := (2, [some (.inr (.inr (some (0, 200)))), some (.inl x1), some (.inl (0 : Int32))], [], D)) bX12_plain_0 oX12_plain_0 rfl trivial ?_
  exact mz_Go.drop [true, true, true] (tX12_plain_2 r mz_N x1 (0 : Int32) D h)
def bX12_status_0 : List mz_E := [(0, .aload_n 0, 0, 0, 0, 0, 0), (1, .getfield 69, 12, 2, 1578, 0, 0)]
theorem oX12_status_0 : bX12_status_0.all (mz_ok RX12 cX12_status 1) = true := by decide +kernel
abbrev IX12_status : mz_I := (yX12_status, cX12_status, 1, (some .int), 0, 0, 0, 0)
theorem kX12_status : mz_okm IX12_status 1685 141 1683 0 = true := by decide +kernel
theorem vX12_status : mz_okV IX12_status 1683 1684 = true := by decide +kernel
theorem mX12_status (D : mz_D) : mz_Met IX12_status [.inr (.inr (some (0, 200)))] D (some (.inl (D.1 0 200 2)), D) := by
  refine mz_Met.of (by decide +kernel) (Nat.le_of_ble_eq_true rfl) ?_
  show mz_Go IX12_status (some (.inl (D.1 0 200 2)), D) 0 0 (0, [some (.inr (.inr (some (0, 200))))], [], D)
  refine mz_Go.run (gs := [mz_kz 0 0 200]) (st' := (4, [some (.inr (.inr (some (0, 200))))], [.inl (D.1 0 200 2)], D)) bX12_status_0 oX12_status_0 rfl ⟨rfl, trivial⟩ ?_
  exact mz_Go.reti (by decide +kernel) rfl ⟨Nat.le_refl _, Nat.le_refl _⟩ rfl
def bX12_top_0 : List mz_E := [(0, .aload_n 0, 0, 0, 0, 0, 0), (1, .getfield 72, 12, 3, 1579, 0, 0)]
theorem oX12_top_0 : bX12_top_0.all (mz_ok RX12 cX12_top 1) = true := by decide +kernel
abbrev IX12_top : mz_I := (yX12_top, cX12_top, 1, (some .long), 0, 0, 0, 0)
theorem kX12_top : mz_okm IX12_top 1689 141 1687 0 = true := by decide +kernel
theorem vX12_top : mz_okV IX12_top 1687 1688 = true := by decide +kernel
theorem mX12_top (D : mz_D) : mz_Met IX12_top [.inr (.inr (some (0, 200)))] D (some (.inr (.inl (D.2 0 200 3))), D) := by
  refine mz_Met.of (by decide +kernel) (Nat.le_of_ble_eq_true rfl) ?_
  show mz_Go IX12_top (some (.inr (.inl (D.2 0 200 3))), D) 0 0 (0, [some (.inr (.inr (some (0, 200))))], [], D)
  refine mz_Go.run (gs := [mz_kz 0 0 200]) (st' := (4, [some (.inr (.inr (some (0, 200))))], [.inr (.inl (D.2 0 200 3))], D)) bX12_top_0 oX12_top_0 rfl ⟨rfl, trivial⟩ ?_
  exact mz_Go.retl (by decide +kernel) rfl ⟨Nat.le_refl _, Nat.le_refl _⟩ rfl
def bX12_bottom_0 : List mz_E := [(0, .aload_n 0, 0, 0, 0, 0, 0), (1, .getfield 17, 12, 4, 1580, 0, 0)]
theorem oX12_bottom_0 : bX12_bottom_0.all (mz_ok RX12 cX12_bottom 1) = true := by decide +kernel
abbrev IX12_bottom : mz_I := (yX12_bottom, cX12_bottom, 1, (some .long), 0, 0, 0, 0)
theorem kX12_bottom : mz_okm IX12_bottom 1693 141 1691 0 = true := by decide +kernel
theorem vX12_bottom : mz_okV IX12_bottom 1691 1692 = true := by decide +kernel
theorem mX12_bottom (D : mz_D) : mz_Met IX12_bottom [.inr (.inr (some (0, 200)))] D (some (.inr (.inl (D.2 0 200 4))), D) := by
  refine mz_Met.of (by decide +kernel) (Nat.le_of_ble_eq_true rfl) ?_
  show mz_Go IX12_bottom (some (.inr (.inl (D.2 0 200 4))), D) 0 0 (0, [some (.inr (.inr (some (0, 200))))], [], D)
  refine mz_Go.run (gs := [mz_kz 0 0 200]) (st' := (4, [some (.inr (.inr (some (0, 200))))], [.inr (.inl (D.2 0 200 4))], D)) bX12_bottom_0 oX12_bottom_0 rfl ⟨rfl, trivial⟩ ?_
  exact mz_Go.retl (by decide +kernel) rfl ⟨Nat.le_refl _, Nat.le_refl _⟩ rfl
def bX12_is_0 : List mz_E := [(0, .aload_n 0, 0, 0, 0, 0, 0), (1, .iload_n 1, 0, 0, 0, 0, 0), (2, .putfield 69, 12, 2, 1578, 0, 0), (5, .iload_n 1, 0, 0, 0, 0, 0), (6, .ifCond .ne 7, 0, 13, 0, 0, 0)]
theorem oX12_is_0 : bX12_is_0.all (mz_ok RX12 cX12_is 2) = true := by decide +kernel
def bX12_is_9 : List mz_E := [(9, .iconst 1, 0, 0, 0, 1, 0), (10, .goto 4, 0, 14, 0, 0, 0)]
theorem oX12_is_9 : bX12_is_9.all (mz_ok RX12 cX12_is 2) = true := by decide +kernel
def bX12_is_13 : List mz_E := [(13, .iconst 0, 0, 0, 0, 0, 0)]
theorem oX12_is_13 : bX12_is_13.all (mz_ok RX12 cX12_is 2) = true := by decide +kernel
abbrev IX12_is : mz_I := (yX12_is, cX12_is, 2, (some .boolean), 0, 0, 0, 0)
theorem kX12_is : mz_okm IX12_is 1704 141 1703 1 = true := by decide +kernel
theorem vX12_is : mz_okV IX12_is 1703 47 = true := by decide +kernel
def fX12_is (x1 : Int32) (D : mz_D) : Option (Int32 × mz_D) := (if x1 = 0 then (some ((1 : Int32), (mz_wi D 0 200 2 x1))) else (some ((0 : Int32), (mz_wi D 0 200 2 x1))))
set_option maxHeartbeats 4000000 in
theorem mX12_is (x1 : Int32) (D : mz_D) (r : (Int32 × mz_D)) (h : fX12_is x1 D = some r) : mz_Met IX12_is [.inr (.inr (some (0, 200))), .inl x1] D (some (.inl r.1), r.2) := by
  refine mz_Met.of (by decide +kernel) (Nat.le_of_ble_eq_true rfl) ?_
  show mz_Go IX12_is (some (.inl r.1), r.2) 0 0 (0, [some (.inr (.inr (some (0, 200)))), some (.inl x1)], [], D)
  rw [fX12_is] at h
  refine mz_Go.run (gs := [mz_kz 0 0 200]) (st' := (if x1 = 0 then (9, [some (.inr (.inr (some (0, 200)))), some (.inl x1)], [], (mz_wi D 0 200 2 x1)) else (13, [some (.inr (.inr (some (0, 200)))), some (.inl x1)], [], (mz_wi D 0 200 2 x1)))) bX12_is_0 oX12_is_0 rfl ⟨rfl, trivial⟩ ?_
  refine mz_Go.ite (fun hc1 => ?_) (fun hc1 => ?_)
  · have h := mz_ifp hc1 h
    refine mz_Go.run (gs := []) (st' := (14, [some (.inr (.inr (some (0, 200)))), some (.inl x1)], [.inl (1 : Int32)], (mz_wi D 0 200 2 x1))) bX12_is_9 oX12_is_9 rfl trivial ?_
    cases h
    exact mz_Go.retz (by decide +kernel) rfl ⟨Nat.le_refl _, Nat.le_refl _⟩ (by decide) rfl
  · have h := mz_ifn hc1 h
    refine mz_Go.run (gs := []) (st' := (14, [some (.inr (.inr (some (0, 200)))), some (.inl x1)], [.inl (0 : Int32)], (mz_wi D 0 200 2 x1))) bX12_is_13 oX12_is_13 rfl trivial ?_
    cases h
    exact mz_Go.retz (by decide +kernel) rfl ⟨Nat.le_refl _, Nat.le_refl _⟩ (by decide) rfl
def bX12_refuse_0 : List mz_E := [(0, .aload_n 0, 0, 0, 0, 0, 0), (1, .iload_n 1, 0, 0, 0, 0, 0), (2, .putfield 69, 12, 2, 1578, 0, 0), (5, .iconst (-1), 0, 0, 0, -1, 0)]
theorem oX12_refuse_0 : bX12_refuse_0.all (mz_ok RX12 cX12_refuse 2) = true := by decide +kernel
abbrev IX12_refuse : mz_I := (yX12_refuse, cX12_refuse, 2, (some .int), 0, 0, 0, 0)
theorem kX12_refuse : mz_okm IX12_refuse 1764 141 1763 1 = true := by decide +kernel
theorem vX12_refuse : mz_okV IX12_refuse 1763 53 = true := by decide +kernel
theorem mX12_refuse (x1 : Int32) (D : mz_D) : mz_Met IX12_refuse [.inr (.inr (some (0, 200))), .inl x1] D (some (.inl (-1 : Int32)), (mz_wi D 0 200 2 x1)) := by
  refine mz_Met.of (by decide +kernel) (Nat.le_of_ble_eq_true rfl) ?_
  show mz_Go IX12_refuse (some (.inl (-1 : Int32)), (mz_wi D 0 200 2 x1)) 0 0 (0, [some (.inr (.inr (some (0, 200)))), some (.inl x1)], [], D)
  refine mz_Go.run (gs := [mz_kz 0 0 200]) (st' := (6, [some (.inr (.inr (some (0, 200)))), some (.inl x1)], [.inl (-1 : Int32)], (mz_wi D 0 200 2 x1))) bX12_refuse_0 oX12_refuse_0 rfl ⟨rfl, trivial⟩ ?_
  exact mz_Go.reti (by decide +kernel) rfl ⟨Nat.le_refl _, Nat.le_refl _⟩ rfl
def bX12_gives_0 : List mz_E := [(0, .aload_n 0, 0, 0, 0, 0, 0), (1, .iconst 0, 0, 0, 0, 0, 0), (2, .putfield 69, 12, 2, 1578, 0, 0), (5, .iload_n 1, 0, 0, 0, 0, 0)]
theorem oX12_gives_0 : bX12_gives_0.all (mz_ok RX12 cX12_gives 2) = true := by decide +kernel
abbrev IX12_gives : mz_I := (yX12_gives, cX12_gives, 2, (some .int), 0, 0, 0, 0)
theorem kX12_gives : mz_okm IX12_gives 1847 141 1846 1 = true := by decide +kernel
theorem vX12_gives : mz_okV IX12_gives 1846 73 = true := by decide +kernel
theorem mX12_gives (x1 : Int32) (D : mz_D) : mz_Met IX12_gives [.inr (.inr (some (0, 200))), .inl x1] D (some (.inl x1), (mz_wi D 0 200 2 (0 : Int32))) := by
  refine mz_Met.of (by decide +kernel) (Nat.le_of_ble_eq_true rfl) ?_
  show mz_Go IX12_gives (some (.inl x1), (mz_wi D 0 200 2 (0 : Int32))) 0 0 (0, [some (.inr (.inr (some (0, 200)))), some (.inl x1)], [], D)
  refine mz_Go.run (gs := [mz_kz 0 0 200]) (st' := (6, [some (.inr (.inr (some (0, 200)))), some (.inl x1)], [.inl x1], (mz_wi D 0 200 2 (0 : Int32)))) bX12_gives_0 oX12_gives_0 rfl ⟨rfl, trivial⟩ ?_
  exact mz_Go.reti (by decide +kernel) rfl ⟨Nat.le_refl _, Nat.le_refl _⟩ rfl
def bX12_orNone_0 : List mz_E := [(0, .iload_n 1, 0, 0, 0, 0, 0), (1, .iconst (-1), 0, 0, 0, -1, 0), (2, .if_icmp .ne 12, 0, 14, 0, 0, 0)]
theorem oX12_orNone_0 : bX12_orNone_0.all (mz_ok RX12 cX12_orNone 2) = true := by decide +kernel
def bX12_orNone_5 : List mz_E := [(5, .aload_n 0, 0, 0, 0, 0, 0), (6, .bipush 6, 0, 0, 0, 6, 0)]
theorem oX12_orNone_5 : bX12_orNone_5.all (mz_ok RX12 cX12_orNone 2) = true := by decide +kernel
def bX12_orNone_11 : List mz_E := [(11, .goto 8, 0, 19, 0, 0, 0)]
theorem oX12_orNone_11 : bX12_orNone_11.all (mz_ok RX12 cX12_orNone 2) = true := by decide +kernel
def bX12_orNone_14 : List mz_E := [(14, .aload_n 0, 0, 0, 0, 0, 0), (15, .iload_n 1, 0, 0, 0, 0, 0)]
theorem oX12_orNone_14 : bX12_orNone_14.all (mz_ok RX12 cX12_orNone 2) = true := by decide +kernel
abbrev IX12_orNone : mz_I := (yX12_orNone, cX12_orNone, 2, (some .int), 0, 1, 0, 0)
theorem kX12_orNone : mz_okm IX12_orNone 1909 141 1908 1 = true := by decide +kernel
theorem vX12_orNone : mz_okV IX12_orNone 1908 84 = true := by decide +kernel
def fX12_orNone (x1 : Int32) (D : mz_D) : Option (Int32 × mz_D) := (if x1 = (-1 : Int32) then (some ((-1 : Int32), (mz_wi D 0 200 2 (6 : Int32)))) else (some (x1, (mz_wi D 0 200 2 (0 : Int32)))))
set_option maxHeartbeats 4000000 in
theorem mX12_orNone (x1 : Int32) (D : mz_D) (r : (Int32 × mz_D)) (h : fX12_orNone x1 D = some r) : mz_Met IX12_orNone [.inr (.inr (some (0, 200))), .inl x1] D (some (.inl r.1), r.2) := by
  refine mz_Met.of (by decide +kernel) (Nat.le_of_ble_eq_true rfl) ?_
  show mz_Go IX12_orNone (some (.inl r.1), r.2) 0 0 (0, [some (.inr (.inr (some (0, 200)))), some (.inl x1)], [], D)
  rw [fX12_orNone] at h
  refine mz_Go.run (gs := []) (st' := (if x1 = (-1 : Int32) then (5, [some (.inr (.inr (some (0, 200)))), some (.inl x1)], [], D) else (14, [some (.inr (.inr (some (0, 200)))), some (.inl x1)], [], D))) bX12_orNone_0 oX12_orNone_0 rfl trivial ?_
  refine mz_Go.ite (fun hc1 => ?_) (fun hc1 => ?_)
  · have h := mz_ifp hc1 h
    refine mz_Go.run (gs := []) (st' := (8, [some (.inr (.inr (some (0, 200)))), some (.inl x1)], [.inl (6 : Int32), .inr (.inr (some (0, 200)))], D)) bX12_orNone_5 oX12_orNone_5 rfl trivial ?_
    refine mz_Go.callV (I := IX12_orNone) (J := IX12_refuse) (as := [.inl (6 : Int32)]) (ci := 12) (g := 0) (o := 200) (idx := 75) (pl := 1761) (rest := []) (mX12_refuse (6 : Int32) D) kX12_refuse vX12_refuse (by decide +kernel) (by decide +kernel) (by decide +kernel) rfl rfl ⟨rfl, rfl⟩ rfl rfl rfl rfl ?_
    refine mz_Go.run (gs := []) (st' := (19, [some (.inr (.inr (some (0, 200)))), some (.inl x1)], [.inl (-1 : Int32)], (mz_wi D 0 200 2 (6 : Int32)))) bX12_orNone_11 oX12_orNone_11 rfl trivial ?_
    cases h
    exact mz_Go.reti (by decide +kernel) rfl ⟨Nat.le_refl _, Nat.le_refl _⟩ rfl
  · have h := mz_ifn hc1 h
    refine mz_Go.run (gs := []) (st' := (16, [some (.inr (.inr (some (0, 200)))), some (.inl x1)], [.inl x1, .inr (.inr (some (0, 200)))], D)) bX12_orNone_14 oX12_orNone_14 rfl trivial ?_
    refine mz_Go.callV (I := IX12_orNone) (J := IX12_gives) (as := [.inl x1]) (ci := 12) (g := 0) (o := 200) (idx := 79) (pl := 1844) (rest := []) (mX12_gives x1 D) kX12_gives vX12_gives (by decide +kernel) (by decide +kernel) (by decide +kernel) rfl rfl ⟨rfl, rfl⟩ rfl rfl rfl rfl ?_
    cases h
    exact mz_Go.reti (by decide +kernel) rfl ⟨Nat.le_refl _, Nat.le_refl _⟩ rfl
def bX12_tellsBy_0 : List mz_E := [(0, .lload_n 1, 0, 0, 0, 0, 0), (1, .lstore 5, 0, 0, 0, 0, 0), (3, .lload_n 3, 0, 0, 0, 0, 0), (4, .lstore 7, 0, 0, 0, 0, 0)]
theorem oX12_tellsBy_0 : bX12_tellsBy_0.all (mz_ok RX12 cX12_tellsBy 11) = true := by decide +kernel
def bX12_tellsBy_6 : List mz_E := [(6, .lload 7, 0, 0, 0, 0, 0), (8, .lconst 0, 0, 0, 0, 0, 0), (9, .lcmp, 0, 0, 0, 0, 0), (10, .ifCond .eq 21, 0, 31, 0, 0, 0)]
theorem oX12_tellsBy_6 : bX12_tellsBy_6.all (mz_ok RX12 cX12_tellsBy 11) = true := by decide +kernel
def bX12_tellsBy_31 : List mz_E := [(31, .aload_n 0, 0, 0, 0, 0, 0), (32, .lload_n 1, 0, 0, 0, 0, 0), (33, .lload 5, 0, 0, 0, 0, 0), (35, .ldiv, 0, 0, 0, 0, 0), (36, .putfield 72, 12, 3, 1579, 0, 0), (39, .aload_n 0, 0, 0, 0, 0, 0), (40, .lload_n 3, 0, 0, 0, 0, 0), (41, .lload 5, 0, 0, 0, 0, 0), (43, .ldiv, 0, 0, 0, 0, 0), (44, .putfield 17, 12, 4, 1580, 0, 0), (47, .aload_n 0, 0, 0, 0, 0, 0), (48, .iconst 0, 0, 0, 0, 0, 0)]
theorem oX12_tellsBy_31 : bX12_tellsBy_31.all (mz_ok RX12 cX12_tellsBy 11) = true := by decide +kernel
def bX12_tellsBy_13 : List mz_E := [(13, .lload 5, 0, 0, 0, 0, 0), (15, .lload 7, 0, 0, 0, 0, 0), (17, .lrem, 0, 0, 0, 0, 0), (18, .lstore 9, 0, 0, 0, 0, 0), (20, .lload 7, 0, 0, 0, 0, 0), (22, .lstore 5, 0, 0, 0, 0, 0), (24, .lload 9, 0, 0, 0, 0, 0), (26, .lstore 7, 0, 0, 0, 0, 0), (28, .goto (-22), 0, 6, 0, 0, 0)]
theorem oX12_tellsBy_13 : bX12_tellsBy_13.all (mz_ok RX12 cX12_tellsBy 11) = true := by decide +kernel
abbrev IX12_tellsBy : mz_I := (yX12_tellsBy, cX12_tellsBy, 11, (some .boolean), 0, 1, 0, 0)
theorem kX12_tellsBy : mz_okm IX12_tellsBy 2059 141 2058 2 = true := by decide +kernel
theorem vX12_tellsBy : mz_okV IX12_tellsBy 2058 100 = true := by decide +kernel
def fX12_tellsBy_6 : Nat → Int64 → Int64 → Int64 → Int64 → mz_D → Option (Int32 × mz_D)
  | 0 => fun _ _ _ _ _ => none
  | n + 1 => fun y1 y3 y5 y7 D => (if (lg_cmp y7 (0 : Int64)) = 0 then (mz_gd (mz_nzl y5) (Option.bind (fX12_is (0 : Int32) (mz_wg (mz_wg D 0 200 3 (y1 / y5)) 0 200 4 (y3 / y5))) fun q3 => (mz_gd (mz_bo q3.1) (some (q3.1, q3.2))))) else (mz_gd (mz_nzl y7) ((fX12_tellsBy_6 n) y1 y3 y7 (y5 - y5 / y7 * y7) D)))
set_option maxHeartbeats 4000000 in
theorem tX12_tellsBy_6 (r : (Int32 × mz_D)) : ∀ (n : Nat) (y1 : Int64) (y3 : Int64) (y5 : Int64) (y7 : Int64) (D : mz_D), fX12_tellsBy_6 n y1 y3 y5 y7 D = some r → mz_Go IX12_tellsBy (some (.inl r.1), r.2) 0 0 (6, [some (.inr (.inr (some (0, 200)))), some (.inr (.inl y1)), none, some (.inr (.inl y3)), none, some (.inr (.inl y5)), none, some (.inr (.inl y7)), none, none, none], [], D) := by
  intro n
  induction n with
  | zero => intro y1 y3 y5 y7 D h; have h : (none : Option (Int32 × mz_D)) = some r := h; cases h
  | succ n ih =>
    intro y1 y3 y5 y7 D h
    rw [fX12_tellsBy_6] at h
    refine mz_Go.run (gs := []) (st' := (if (lg_cmp y7 (0 : Int64)) = 0 then (31, [some (.inr (.inr (some (0, 200)))), some (.inr (.inl y1)), none, some (.inr (.inl y3)), none, some (.inr (.inl y5)), none, some (.inr (.inl y7)), none, none, none], [], D) else (13, [some (.inr (.inr (some (0, 200)))), some (.inr (.inl y1)), none, some (.inr (.inl y3)), none, some (.inr (.inl y5)), none, some (.inr (.inl y7)), none, none, none], [], D))) bX12_tellsBy_6 oX12_tellsBy_6 rfl trivial ?_
    refine mz_Go.ite (fun hc1 => ?_) (fun hc1 => ?_)
    · have h := mz_ifp hc1 h
      obtain ⟨hb2, h⟩ := mz_gd_some h
      refine mz_Go.run (gs := [mz_nzl y5, mz_kz 0 0 200, mz_nzl y5, mz_kz 0 0 200]) (st' := (49, [some (.inr (.inr (some (0, 200)))), some (.inr (.inl y1)), none, some (.inr (.inl y3)), none, some (.inr (.inl y5)), none, some (.inr (.inl y7)), none, none, none], [.inl (0 : Int32), .inr (.inr (some (0, 200)))], (mz_wg (mz_wg D 0 200 3 (y1 / y5)) 0 200 4 (y3 / y5)))) bX12_tellsBy_31 oX12_tellsBy_31 rfl ⟨hb2, rfl, hb2, rfl, trivial⟩ ?_
      obtain ⟨q3, hq3, h⟩ := mz_bd_some h
      refine mz_Go.callV (I := IX12_tellsBy) (J := IX12_is) (as := [.inl (0 : Int32)]) (ci := 12) (g := 0) (o := 200) (idx := 82) (pl := 1701) (rest := []) (mX12_is (0 : Int32) (mz_wg (mz_wg D 0 200 3 (y1 / y5)) 0 200 4 (y3 / y5)) q3 hq3) kX12_is vX12_is (by decide +kernel) (by decide +kernel) (by decide +kernel) rfl rfl ⟨rfl, rfl⟩ rfl rfl rfl rfl ?_
      obtain ⟨hb4, h⟩ := mz_gd_some h
      cases h
      exact mz_Go.retz (by decide +kernel) rfl ⟨Nat.le_refl _, Nat.le_refl _⟩ hb4 rfl
    · have h := mz_ifn hc1 h
      obtain ⟨hb5, h⟩ := mz_gd_some h
      refine mz_Go.run (gs := [mz_nzl y7]) (st' := (6, [some (.inr (.inr (some (0, 200)))), some (.inr (.inl y1)), none, some (.inr (.inl y3)), none, some (.inr (.inl y7)), none, some (.inr (.inl (y5 - y5 / y7 * y7))), none, some (.inr (.inl (y5 - y5 / y7 * y7))), none], [], D)) bX12_tellsBy_13 oX12_tellsBy_13 rfl ⟨hb5, trivial⟩ ?_
      exact mz_Go.drop [true, true, false, true, false, true, false, true, false, false, false] (ih y1 y3 y7 (y5 - y5 / y7 * y7) D h)
def fX12_tellsBy (y1 : Int64) (y3 : Int64) (D : mz_D) : Option (Int32 × mz_D) := (fX12_tellsBy_6 mz_N y1 y3 y1 y3 D)
set_option maxHeartbeats 4000000 in
theorem mX12_tellsBy (y1 : Int64) (y3 : Int64) (D : mz_D) (r : (Int32 × mz_D)) (h : fX12_tellsBy y1 y3 D = some r) : mz_Met IX12_tellsBy [.inr (.inr (some (0, 200))), .inr (.inl y1), .inr (.inl y3)] D (some (.inl r.1), r.2) := by
  refine mz_Met.of (by decide +kernel) (Nat.le_of_ble_eq_true rfl) ?_
  show mz_Go IX12_tellsBy (some (.inl r.1), r.2) 0 0 (0, [some (.inr (.inr (some (0, 200)))), some (.inr (.inl y1)), none, some (.inr (.inl y3)), none, none, none, none, none, none, none], [], D)
  rw [fX12_tellsBy] at h
  refine mz_Go.run (gs := []) (st' := (6, [some (.inr (.inr (some (0, 200)))), some (.inr (.inl y1)), none, some (.inr (.inl y3)), none, some (.inr (.inl y1)), none, some (.inr (.inl y3)), none, none, none], [], D)) bX12_tellsBy_0 oX12_tellsBy_0 rfl trivial ?_
  exact mz_Go.drop [true, true, false, true, false, true, false, true, false, false, false] (tX12_tellsBy_6 r mz_N y1 y3 y1 y3 D h)
def bX12_isTray_0 : List mz_E := [(0, .iload_n 0, 0, 0, 0, 0, 0), (1, .ifCond .lt 12, 0, 13, 0, 0, 0)]
theorem oX12_isTray_0 : bX12_isTray_0.all (mz_ok RX12 cX12_isTray 1) = true := by decide +kernel
def bX12_isTray_13 : List mz_E := [(13, .iconst 0, 0, 0, 0, 0, 0)]
theorem oX12_isTray_13 : bX12_isTray_13.all (mz_ok RX12 cX12_isTray 1) = true := by decide +kernel
def bX12_isTray_4 : List mz_E := [(4, .iload_n 0, 0, 0, 0, 0, 0), (5, .iconst 4, 0, 0, 0, 4, 0), (6, .if_icmp .ge 7, 0, 13, 0, 0, 0)]
theorem oX12_isTray_4 : bX12_isTray_4.all (mz_ok RX12 cX12_isTray 1) = true := by decide +kernel
def bX12_isTray_9 : List mz_E := [(9, .iconst 1, 0, 0, 0, 1, 0), (10, .goto 4, 0, 14, 0, 0, 0)]
theorem oX12_isTray_9 : bX12_isTray_9.all (mz_ok RX12 cX12_isTray 1) = true := by decide +kernel
abbrev IX12_isTray : mz_I := (yX12_isTray, cX12_isTray, 1, (some .boolean), 9, 0, 0, 0)
theorem kX12_isTray : mz_okm IX12_isTray 1700 141 1699 1 = true := by decide +kernel
theorem vX12_isTray : mz_okS IX12_isTray 1699 = true := by decide +kernel
def fX12_isTray (x0 : Int32) : Int32 := (if x0 < 0 then (0 : Int32) else (if (4 : Int32) ≤ x0 then (0 : Int32) else (1 : Int32)))
set_option maxHeartbeats 4000000 in
theorem mX12_isTray (x0 : Int32) (D : mz_D) (r : Int32) (h : fX12_isTray x0 = r) : mz_Met IX12_isTray [.inl x0] D (some (.inl r), D) := by
  refine mz_Met.of (by decide +kernel) (Nat.le_of_ble_eq_true rfl) ?_
  show mz_Go IX12_isTray (some (.inl r), D) 0 0 (0, [some (.inl x0)], [], D)
  rw [fX12_isTray] at h
  refine mz_Go.run (gs := []) (st' := (if x0 < 0 then (13, [some (.inl x0)], [], D) else (4, [some (.inl x0)], [], D))) bX12_isTray_0 oX12_isTray_0 rfl trivial ?_
  refine mz_Go.ite (fun hc1 => ?_) (fun hc1 => ?_)
  · have h := mz_ifp hc1 h
    refine mz_Go.run (gs := []) (st' := (14, [some (.inl x0)], [.inl (0 : Int32)], D)) bX12_isTray_13 oX12_isTray_13 rfl trivial ?_
    subst h
    exact mz_Go.retz (by decide +kernel) rfl ⟨Nat.le_refl _, Nat.le_refl _⟩ (by decide) rfl
  · have h := mz_ifn hc1 h
    refine mz_Go.run (gs := []) (st' := (if (4 : Int32) ≤ x0 then (13, [some (.inl x0)], [], D) else (9, [some (.inl x0)], [], D))) bX12_isTray_4 oX12_isTray_4 rfl trivial ?_
    refine mz_Go.ite (fun hc2 => ?_) (fun hc2 => ?_)
    · have h := mz_ifp hc2 h
      refine mz_Go.run (gs := []) (st' := (14, [some (.inl x0)], [.inl (0 : Int32)], D)) bX12_isTray_13 oX12_isTray_13 rfl trivial ?_
      subst h
      exact mz_Go.retz (by decide +kernel) rfl ⟨Nat.le_refl _, Nat.le_refl _⟩ (by decide) rfl
    · have h := mz_ifn hc2 h
      refine mz_Go.run (gs := []) (st' := (14, [some (.inl x0)], [.inl (1 : Int32)], D)) bX12_isTray_9 oX12_isTray_9 rfl trivial ?_
      subst h
      exact mz_Go.retz (by decide +kernel) rfl ⟨Nat.le_refl _, Nat.le_refl _⟩ (by decide) rfl
def bX12_cut_0 : List mz_E := [(0, .iload_n 2, 0, 0, 0, 0, 0), (1, .ifCond .ne 10, 0, 11, 0, 0, 0)]
theorem oX12_cut_0 : bX12_cut_0.all (mz_ok RX12 cX12_cut 3) = true := by decide +kernel
def bX12_cut_4 : List mz_E := [(4, .lload_n 0, 0, 0, 0, 0, 0), (5, .l2i, 0, 0, 0, 0, 0), (6, .i2b, 0, 0, 0, 0, 0), (7, .i2l, 0, 0, 0, 0, 0), (8, .goto 27, 0, 35, 0, 0, 0)]
theorem oX12_cut_4 : bX12_cut_4.all (mz_ok RX12 cX12_cut 3) = true := by decide +kernel
def bX12_cut_11 : List mz_E := [(11, .iload_n 2, 0, 0, 0, 0, 0), (12, .iconst 1, 0, 0, 0, 1, 0), (13, .if_icmp .ne 10, 0, 23, 0, 0, 0)]
theorem oX12_cut_11 : bX12_cut_11.all (mz_ok RX12 cX12_cut 3) = true := by decide +kernel
def bX12_cut_16 : List mz_E := [(16, .lload_n 0, 0, 0, 0, 0, 0), (17, .l2i, 0, 0, 0, 0, 0), (18, .i2s, 0, 0, 0, 0, 0), (19, .i2l, 0, 0, 0, 0, 0), (20, .goto 15, 0, 35, 0, 0, 0)]
theorem oX12_cut_16 : bX12_cut_16.all (mz_ok RX12 cX12_cut 3) = true := by decide +kernel
def bX12_cut_23 : List mz_E := [(23, .iload_n 2, 0, 0, 0, 0, 0), (24, .iconst 2, 0, 0, 0, 2, 0), (25, .if_icmp .ne 9, 0, 34, 0, 0, 0)]
theorem oX12_cut_23 : bX12_cut_23.all (mz_ok RX12 cX12_cut 3) = true := by decide +kernel
def bX12_cut_28 : List mz_E := [(28, .lload_n 0, 0, 0, 0, 0, 0), (29, .l2i, 0, 0, 0, 0, 0), (30, .i2l, 0, 0, 0, 0, 0), (31, .goto 4, 0, 35, 0, 0, 0)]
theorem oX12_cut_28 : bX12_cut_28.all (mz_ok RX12 cX12_cut 3) = true := by decide +kernel
def bX12_cut_34 : List mz_E := [(34, .lload_n 0, 0, 0, 0, 0, 0)]
theorem oX12_cut_34 : bX12_cut_34.all (mz_ok RX12 cX12_cut 3) = true := by decide +kernel
abbrev IX12_cut : mz_I := (yX12_cut, cX12_cut, 3, (some .long), 9, 0, 0, 0)
theorem kX12_cut : mz_okm IX12_cut 1715 141 1714 2 = true := by decide +kernel
theorem vX12_cut : mz_okS IX12_cut 1714 = true := by decide +kernel
def fX12_cut (y0 : Int64) (x2 : Int32) : Int64 := (if x2 = 0 then (((y0).toInt32).toInt8.toInt32).toInt64 else (if x2 = (1 : Int32) then (((y0).toInt32).toInt16.toInt32).toInt64 else (if x2 = (2 : Int32) then ((y0).toInt32).toInt64 else y0)))
set_option maxHeartbeats 4000000 in
theorem mX12_cut (y0 : Int64) (x2 : Int32) (D : mz_D) (r : Int64) (h : fX12_cut y0 x2 = r) : mz_Met IX12_cut [.inr (.inl y0), .inl x2] D (some (.inr (.inl r)), D) := by
  refine mz_Met.of (by decide +kernel) (Nat.le_of_ble_eq_true rfl) ?_
  show mz_Go IX12_cut (some (.inr (.inl r)), D) 0 0 (0, [some (.inr (.inl y0)), none, some (.inl x2)], [], D)
  rw [fX12_cut] at h
  refine mz_Go.run (gs := []) (st' := (if x2 = 0 then (4, [some (.inr (.inl y0)), none, some (.inl x2)], [], D) else (11, [some (.inr (.inl y0)), none, some (.inl x2)], [], D))) bX12_cut_0 oX12_cut_0 rfl trivial ?_
  refine mz_Go.ite (fun hc1 => ?_) (fun hc1 => ?_)
  · have h := mz_ifp hc1 h
    refine mz_Go.run (gs := []) (st' := (35, [some (.inr (.inl y0)), none, some (.inl x2)], [.inr (.inl (((y0).toInt32).toInt8.toInt32).toInt64)], D)) bX12_cut_4 oX12_cut_4 rfl trivial ?_
    subst h
    exact mz_Go.retl (by decide +kernel) rfl ⟨Nat.le_refl _, Nat.le_refl _⟩ rfl
  · have h := mz_ifn hc1 h
    refine mz_Go.run (gs := []) (st' := (if x2 = (1 : Int32) then (16, [some (.inr (.inl y0)), none, some (.inl x2)], [], D) else (23, [some (.inr (.inl y0)), none, some (.inl x2)], [], D))) bX12_cut_11 oX12_cut_11 rfl trivial ?_
    refine mz_Go.ite (fun hc2 => ?_) (fun hc2 => ?_)
    · have h := mz_ifp hc2 h
      refine mz_Go.run (gs := []) (st' := (35, [some (.inr (.inl y0)), none, some (.inl x2)], [.inr (.inl (((y0).toInt32).toInt16.toInt32).toInt64)], D)) bX12_cut_16 oX12_cut_16 rfl trivial ?_
      subst h
      exact mz_Go.retl (by decide +kernel) rfl ⟨Nat.le_refl _, Nat.le_refl _⟩ rfl
    · have h := mz_ifn hc2 h
      refine mz_Go.run (gs := []) (st' := (if x2 = (2 : Int32) then (28, [some (.inr (.inl y0)), none, some (.inl x2)], [], D) else (34, [some (.inr (.inl y0)), none, some (.inl x2)], [], D))) bX12_cut_23 oX12_cut_23 rfl trivial ?_
      refine mz_Go.ite (fun hc3 => ?_) (fun hc3 => ?_)
      · have h := mz_ifp hc3 h
        refine mz_Go.run (gs := []) (st' := (35, [some (.inr (.inl y0)), none, some (.inl x2)], [.inr (.inl ((y0).toInt32).toInt64)], D)) bX12_cut_28 oX12_cut_28 rfl trivial ?_
        subst h
        exact mz_Go.retl (by decide +kernel) rfl ⟨Nat.le_refl _, Nat.le_refl _⟩ rfl
      · have h := mz_ifn hc3 h
        refine mz_Go.run (gs := []) (st' := (35, [some (.inr (.inl y0)), none, some (.inl x2)], [.inr (.inl y0)], D)) bX12_cut_34 oX12_cut_34 rfl trivial ?_
        subst h
        exact mz_Go.retl (by decide +kernel) rfl ⟨Nat.le_refl _, Nat.le_refl _⟩ rfl
def bX12_tray_0 : List mz_E := [(0, .iload_n 1, 0, 0, 0, 0, 0)]
theorem oX12_tray_0 : bX12_tray_0.all (mz_ok RX12 cX12_tray 5) = true := by decide +kernel
def bX12_tray_4 : List mz_E := [(4, .ifCond .eq 22, 0, 26, 0, 0, 0)]
theorem oX12_tray_4 : bX12_tray_4.all (mz_ok RX12 cX12_tray 5) = true := by decide +kernel
def bX12_tray_26 : List mz_E := [(26, .aload_n 0, 0, 0, 0, 0, 0), (27, .iconst 1, 0, 0, 0, 1, 0)]
theorem oX12_tray_26 : bX12_tray_26.all (mz_ok RX12 cX12_tray 5) = true := by decide +kernel
def bX12_tray_7 : List mz_E := [(7, .iload_n 2, 0, 0, 0, 0, 0), (8, .ifCond .lt 18, 0, 26, 0, 0, 0)]
theorem oX12_tray_7 : bX12_tray_7.all (mz_ok RX12 cX12_tray 5) = true := by decide +kernel
def bX12_tray_11 : List mz_E := [(11, .iload_n 2, 0, 0, 0, 0, 0), (12, .iconst 3, 0, 0, 0, 3, 0), (13, .if_icmp .gt 13, 0, 26, 0, 0, 0)]
theorem oX12_tray_11 : bX12_tray_11.all (mz_ok RX12 cX12_tray 5) = true := by decide +kernel
def bX12_tray_16 : List mz_E := [(16, .iload_n 3, 0, 0, 0, 0, 0), (17, .ifCond .lt 9, 0, 26, 0, 0, 0)]
theorem oX12_tray_16 : bX12_tray_16.all (mz_ok RX12 cX12_tray 5) = true := by decide +kernel
def bX12_tray_20 : List mz_E := [(20, .iload_n 3, 0, 0, 0, 0, 0), (21, .bipush 60, 0, 0, 0, 60, 0), (23, .if_icmp .le 9, 0, 32, 0, 0, 0)]
theorem oX12_tray_20 : bX12_tray_20.all (mz_ok RX12 cX12_tray 5) = true := by decide +kernel
def bX12_tray_32 : List mz_E := [(32, .aload_n 0, 0, 0, 0, 0, 0), (33, .getfield 21, 12, 5, 1581, 0, 0), (36, .iload_n 1, 0, 0, 0, 0, 0), (37, .iload_n 2, 0, 0, 0, 0, 0), (38, .iastore, 0, 0, 0, 0, 0), (39, .aload_n 0, 0, 0, 0, 0, 0), (40, .getfield 24, 12, 6, 1582, 0, 0), (43, .iload_n 1, 0, 0, 0, 0, 0), (44, .iload_n 3, 0, 0, 0, 0, 0), (45, .iastore, 0, 0, 0, 0, 0), (46, .iconst 0, 0, 0, 0, 0, 0), (47, .istore 4, 0, 0, 0, 0, 0)]
theorem oX12_tray_32 : bX12_tray_32.all (mz_ok RX12 cX12_tray 5) = true := by decide +kernel
def bX12_tray_49 : List mz_E := [(49, .iload 4, 0, 0, 0, 0, 0), (51, .iload_n 3, 0, 0, 0, 0, 0), (52, .if_icmp .ge 22, 0, 74, 0, 0, 0)]
theorem oX12_tray_49 : bX12_tray_49.all (mz_ok RX12 cX12_tray 5) = true := by decide +kernel
def bX12_tray_74 : List mz_E := [(74, .aload_n 0, 0, 0, 0, 0, 0), (75, .iconst 0, 0, 0, 0, 0, 0)]
theorem oX12_tray_74 : bX12_tray_74.all (mz_ok RX12 cX12_tray 5) = true := by decide +kernel
def bX12_tray_55 : List mz_E := [(55, .aload_n 0, 0, 0, 0, 0, 0), (56, .getfield 27, 12, 7, 1583, 0, 0), (59, .bipush 60, 0, 0, 0, 60, 0), (61, .iload_n 1, 0, 0, 0, 0, 0), (62, .imul, 0, 0, 0, 0, 0), (63, .iload 4, 0, 0, 0, 0, 0), (65, .iadd, 0, 0, 0, 0, 0), (66, .lconst 0, 0, 0, 0, 0, 0), (67, .lastore, 0, 0, 0, 0, 0), (68, .iinc 4 1, 0, 0, 0, 1, 0), (71, .goto (-22), 0, 49, 0, 0, 0)]
theorem oX12_tray_55 : bX12_tray_55.all (mz_ok RX12 cX12_tray 5) = true := by decide +kernel
abbrev IX12_tray : mz_I := (yX12_tray, cX12_tray, 5, (some .boolean), 0, 1, 0, 0)
theorem kX12_tray : mz_okm IX12_tray 1697 141 1695 3 = true := by decide +kernel
theorem vX12_tray : mz_okV IX12_tray 1695 1696 = true := by decide +kernel
def fX12_tray_26 (D : mz_D) : Option (Int32 × mz_D) := (Option.bind (fX12_is (1 : Int32) D) fun q1 => (mz_gd (mz_bo q1.1) (some (q1.1, q1.2))))
set_option maxHeartbeats 4000000 in
theorem tX12_tray_26 (r : (Int32 × mz_D)) : ∀ (D : mz_D), fX12_tray_26 D = some r → mz_Go IX12_tray (some (.inl r.1), r.2) 0 0 (26, [some (.inr (.inr (some (0, 200)))), none, none, none, none], [], D) := by
  intro D h
  rw [fX12_tray_26] at h
  refine mz_Go.run (gs := []) (st' := (28, [some (.inr (.inr (some (0, 200)))), none, none, none, none], [.inl (1 : Int32), .inr (.inr (some (0, 200)))], D)) bX12_tray_26 oX12_tray_26 rfl trivial ?_
  obtain ⟨q1, hq1, h⟩ := mz_bd_some h
  refine mz_Go.callV (I := IX12_tray) (J := IX12_is) (as := [.inl (1 : Int32)]) (ci := 12) (g := 0) (o := 200) (idx := 82) (pl := 1701) (rest := []) (mX12_is (1 : Int32) D q1 hq1) kX12_is vX12_is (by decide +kernel) (by decide +kernel) (by decide +kernel) rfl rfl ⟨rfl, rfl⟩ rfl rfl rfl rfl ?_
  obtain ⟨hb2, h⟩ := mz_gd_some h
  cases h
  exact mz_Go.retz (by decide +kernel) rfl ⟨Nat.le_refl _, Nat.le_refl _⟩ hb2 rfl
def fX12_tray_49 : Nat → Int32 → Int32 → Int32 → mz_D → Option (Int32 × mz_D)
  | 0 => fun _ _ _ _ => none
  | n + 1 => fun x1 x3 x4 D => (if x3 ≤ x4 then (Option.bind (fX12_is (0 : Int32) D) fun q2 => (mz_gd (mz_bo q2.1) (some (q2.1, q2.2)))) else (mz_gd (mz_ix (((60 : Int32) * x1) + x4) 240) ((fX12_tray_49 n) x1 x3 (x4 + (1 : Int32)) (mz_wg D 0 205 ((((60 : Int32) * x1) + x4)).toNatClampNeg (0 : Int64)))))
set_option maxHeartbeats 4000000 in
theorem tX12_tray_49 (r : (Int32 × mz_D)) : ∀ (n : Nat) (x1 : Int32) (x3 : Int32) (x4 : Int32) (D : mz_D), fX12_tray_49 n x1 x3 x4 D = some r → mz_Go IX12_tray (some (.inl r.1), r.2) 0 0 (49, [some (.inr (.inr (some (0, 200)))), some (.inl x1), none, some (.inl x3), some (.inl x4)], [], D) := by
  intro n
  induction n with
  | zero => intro x1 x3 x4 D h; have h : (none : Option (Int32 × mz_D)) = some r := h; cases h
  | succ n ih =>
    intro x1 x3 x4 D h
    rw [fX12_tray_49] at h
    refine mz_Go.run (gs := []) (st' := (if x3 ≤ x4 then (74, [some (.inr (.inr (some (0, 200)))), some (.inl x1), none, some (.inl x3), some (.inl x4)], [], D) else (55, [some (.inr (.inr (some (0, 200)))), some (.inl x1), none, some (.inl x3), some (.inl x4)], [], D))) bX12_tray_49 oX12_tray_49 rfl trivial ?_
    refine mz_Go.ite (fun hc1 => ?_) (fun hc1 => ?_)
    · have h := mz_ifp hc1 h
      refine mz_Go.run (gs := []) (st' := (76, [some (.inr (.inr (some (0, 200)))), some (.inl x1), none, some (.inl x3), some (.inl x4)], [.inl (0 : Int32), .inr (.inr (some (0, 200)))], D)) bX12_tray_74 oX12_tray_74 rfl trivial ?_
      obtain ⟨q2, hq2, h⟩ := mz_bd_some h
      refine mz_Go.callV (I := IX12_tray) (J := IX12_is) (as := [.inl (0 : Int32)]) (ci := 12) (g := 0) (o := 200) (idx := 82) (pl := 1701) (rest := []) (mX12_is (0 : Int32) D q2 hq2) kX12_is vX12_is (by decide +kernel) (by decide +kernel) (by decide +kernel) rfl rfl ⟨rfl, rfl⟩ rfl rfl rfl rfl ?_
      obtain ⟨hb3, h⟩ := mz_gd_some h
      cases h
      exact mz_Go.retz (by decide +kernel) rfl ⟨Nat.le_refl _, Nat.le_refl _⟩ hb3 rfl
    · have h := mz_ifn hc1 h
      obtain ⟨hb4, h⟩ := mz_gd_some h
      refine mz_Go.run (gs := [mz_kz 0 0 200, mz_kz 0 0 205, mz_ix (((60 : Int32) * x1) + x4) 240]) (st' := (49, [some (.inr (.inr (some (0, 200)))), some (.inl x1), none, some (.inl x3), some (.inl (x4 + (1 : Int32)))], [], (mz_wg D 0 205 ((((60 : Int32) * x1) + x4)).toNatClampNeg (0 : Int64)))) bX12_tray_55 oX12_tray_55 rfl ⟨rfl, rfl, hb4, trivial⟩ ?_
      exact mz_Go.drop [true, true, false, true, true] (ih x1 x3 (x4 + (1 : Int32)) (mz_wg D 0 205 ((((60 : Int32) * x1) + x4)).toNatClampNeg (0 : Int64)) h)
def fX12_tray (x1 : Int32) (x2 : Int32) (x3 : Int32) (D : mz_D) : Option (Int32 × mz_D) := (if (fX12_isTray x1) = 0 then (fX12_tray_26 D) else (if x2 < 0 then (fX12_tray_26 D) else (if (3 : Int32) < x2 then (fX12_tray_26 D) else (if x3 < 0 then (fX12_tray_26 D) else (if x3 ≤ (60 : Int32) then (mz_gd (mz_ix x1 4) (fX12_tray_49 mz_N x1 x3 (0 : Int32) (mz_wi (mz_wi D 0 203 (x1).toNatClampNeg x2) 0 204 (x1).toNatClampNeg x3))) else (fX12_tray_26 D))))))
set_option maxHeartbeats 4000000 in
theorem mX12_tray (x1 : Int32) (x2 : Int32) (x3 : Int32) (D : mz_D) (r : (Int32 × mz_D)) (h : fX12_tray x1 x2 x3 D = some r) : mz_Met IX12_tray [.inr (.inr (some (0, 200))), .inl x1, .inl x2, .inl x3] D (some (.inl r.1), r.2) := by
  refine mz_Met.of (by decide +kernel) (Nat.le_of_ble_eq_true rfl) ?_
  show mz_Go IX12_tray (some (.inl r.1), r.2) 0 0 (0, [some (.inr (.inr (some (0, 200)))), some (.inl x1), some (.inl x2), some (.inl x3), none], [], D)
  rw [fX12_tray] at h
  refine mz_Go.run (gs := []) (st' := (1, [some (.inr (.inr (some (0, 200)))), some (.inl x1), some (.inl x2), some (.inl x3), none], [.inl x1], D)) bX12_tray_0 oX12_tray_0 rfl trivial ?_
  refine mz_Go.callS (I := IX12_tray) (J := IX12_isTray) (as := [.inl x1]) (idx := 86) (pl := 1698) (rest := []) (mX12_isTray x1 D _ rfl) kX12_isTray vX12_isTray (by decide +kernel) (by decide +kernel) (by decide +kernel) rfl rfl ⟨rfl, rfl⟩ rfl ?_
  refine mz_Go.run (gs := []) (st' := (if (fX12_isTray x1) = 0 then (26, [some (.inr (.inr (some (0, 200)))), some (.inl x1), some (.inl x2), some (.inl x3), none], [], D) else (7, [some (.inr (.inr (some (0, 200)))), some (.inl x1), some (.inl x2), some (.inl x3), none], [], D))) bX12_tray_4 oX12_tray_4 rfl trivial ?_
  refine mz_Go.ite (fun hc1 => ?_) (fun hc1 => ?_)
  · have h := mz_ifp hc1 h
    exact mz_Go.drop [true, false, false, false, false] (tX12_tray_26 r D h)
  · have h := mz_ifn hc1 h
    refine mz_Go.run (gs := []) (st' := (if x2 < 0 then (26, [some (.inr (.inr (some (0, 200)))), some (.inl x1), some (.inl x2), some (.inl x3), none], [], D) else (11, [some (.inr (.inr (some (0, 200)))), some (.inl x1), some (.inl x2), some (.inl x3), none], [], D))) bX12_tray_7 oX12_tray_7 rfl trivial ?_
    refine mz_Go.ite (fun hc2 => ?_) (fun hc2 => ?_)
    · have h := mz_ifp hc2 h
      exact mz_Go.drop [true, false, false, false, false] (tX12_tray_26 r D h)
    · have h := mz_ifn hc2 h
      refine mz_Go.run (gs := []) (st' := (if (3 : Int32) < x2 then (26, [some (.inr (.inr (some (0, 200)))), some (.inl x1), some (.inl x2), some (.inl x3), none], [], D) else (16, [some (.inr (.inr (some (0, 200)))), some (.inl x1), some (.inl x2), some (.inl x3), none], [], D))) bX12_tray_11 oX12_tray_11 rfl trivial ?_
      refine mz_Go.ite (fun hc3 => ?_) (fun hc3 => ?_)
      · have h := mz_ifp hc3 h
        exact mz_Go.drop [true, false, false, false, false] (tX12_tray_26 r D h)
      · have h := mz_ifn hc3 h
        refine mz_Go.run (gs := []) (st' := (if x3 < 0 then (26, [some (.inr (.inr (some (0, 200)))), some (.inl x1), some (.inl x2), some (.inl x3), none], [], D) else (20, [some (.inr (.inr (some (0, 200)))), some (.inl x1), some (.inl x2), some (.inl x3), none], [], D))) bX12_tray_16 oX12_tray_16 rfl trivial ?_
        refine mz_Go.ite (fun hc4 => ?_) (fun hc4 => ?_)
        · have h := mz_ifp hc4 h
          exact mz_Go.drop [true, false, false, false, false] (tX12_tray_26 r D h)
        · have h := mz_ifn hc4 h
          refine mz_Go.run (gs := []) (st' := (if x3 ≤ (60 : Int32) then (32, [some (.inr (.inr (some (0, 200)))), some (.inl x1), some (.inl x2), some (.inl x3), none], [], D) else (26, [some (.inr (.inr (some (0, 200)))), some (.inl x1), some (.inl x2), some (.inl x3), none], [], D))) bX12_tray_20 oX12_tray_20 rfl trivial ?_
          refine mz_Go.ite (fun hc5 => ?_) (fun hc5 => ?_)
          · have h := mz_ifp hc5 h
            obtain ⟨hb6, h⟩ := mz_gd_some h
            refine mz_Go.run (gs := [mz_kz 0 0 200, mz_kz 0 0 203, mz_ix x1 4, mz_kz 0 0 200, mz_kz 0 0 204, mz_ix x1 4]) (st' := (49, [some (.inr (.inr (some (0, 200)))), some (.inl x1), some (.inl x2), some (.inl x3), some (.inl (0 : Int32))], [], (mz_wi (mz_wi D 0 203 (x1).toNatClampNeg x2) 0 204 (x1).toNatClampNeg x3))) bX12_tray_32 oX12_tray_32 rfl ⟨rfl, rfl, hb6, rfl, rfl, hb6, trivial⟩ ?_
            exact mz_Go.drop [true, true, false, true, true] (tX12_tray_49 r mz_N x1 x3 (0 : Int32) (mz_wi (mz_wi D 0 203 (x1).toNatClampNeg x2) 0 204 (x1).toNatClampNeg x3) h)
          · have h := mz_ifn hc5 h
            exact mz_Go.drop [true, false, false, false, false] (tX12_tray_26 r D h)
