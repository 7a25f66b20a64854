def bX11_sorest_0 : List mz_E := [(0, .iconst (-1), 0, 0, 0, -1, 0), (1, .istore_n 1, 0, 0, 0, 0, 0), (2, .iconst 0, 0, 0, 0, 0, 0), (3, .istore_n 2, 0, 0, 0, 0, 0), (4, .iconst 0, 0, 0, 0, 0, 0), (5, .istore_n 3, 0, 0, 0, 0, 0)]
theorem oX11_sorest_0 : bX11_sorest_0.all (mz_ok RX11 cX11_sorest 5) = true := by decide +kernel
def bX11_sorest_6 : List mz_E := [(6, .iload_n 3, 0, 0, 0, 0, 0), (7, .aload_n 0, 0, 0, 0, 0, 0), (8, .getfield 32, 11, 4, 563, 0, 0), (11, .getfield 151, 6, 0, 477, 0, 0), (14, .getfield 155, 4, 0, 290, 0, 0), (17, .if_icmp .ge 35, 0, 52, 0, 0, 0)]
theorem oX11_sorest_6 : bX11_sorest_6.all (mz_ok RX11 cX11_sorest 5) = true := by decide +kernel
def bX11_sorest_52 : List mz_E := [(52, .aload_n 0, 0, 0, 0, 0, 0), (53, .iload_n 1, 0, 0, 0, 0, 0)]
theorem oX11_sorest_52 : bX11_sorest_52.all (mz_ok RX11 cX11_sorest 5) = true := by decide +kernel
def bX11_sorest_20 : List mz_E := [(20, .aload_n 0, 0, 0, 0, 0, 0), (21, .getfield 32, 11, 4, 563, 0, 0), (24, .iload_n 3, 0, 0, 0, 0, 0)]
theorem oX11_sorest_20 : bX11_sorest_20.all (mz_ok RX11 cX11_sorest 5) = true := by decide +kernel
def bX11_sorest_28 : List mz_E := [(28, .istore 4, 0, 0, 0, 0, 0), (30, .iload_n 1, 0, 0, 0, 0, 0), (31, .iconst (-1), 0, 0, 0, -1, 0), (32, .if_icmp .eq 9, 0, 41, 0, 0, 0)]
theorem oX11_sorest_28 : bX11_sorest_28.all (mz_ok RX11 cX11_sorest 5) = true := by decide +kernel
def bX11_sorest_41 : List mz_E := [(41, .iload_n 3, 0, 0, 0, 0, 0), (42, .istore_n 1, 0, 0, 0, 0, 0), (43, .iload 4, 0, 0, 0, 0, 0), (45, .istore_n 2, 0, 0, 0, 0, 0), (46, .iinc 3 1, 0, 0, 0, 1, 0), (49, .goto (-43), 0, 6, 0, 0, 0)]
theorem oX11_sorest_41 : bX11_sorest_41.all (mz_ok RX11 cX11_sorest 5) = true := by decide +kernel
def bX11_sorest_35 : List mz_E := [(35, .iload 4, 0, 0, 0, 0, 0), (37, .iload_n 2, 0, 0, 0, 0, 0), (38, .if_icmp .le 8, 0, 46, 0, 0, 0)]
theorem oX11_sorest_35 : bX11_sorest_35.all (mz_ok RX11 cX11_sorest 5) = true := by decide +kernel
def bX11_sorest_46 : List mz_E := [(46, .iinc 3 1, 0, 0, 0, 1, 0), (49, .goto (-43), 0, 6, 0, 0, 0)]
theorem oX11_sorest_46 : bX11_sorest_46.all (mz_ok RX11 cX11_sorest 5) = true := by decide +kernel
abbrev IX11_sorest : mz_I := (yX11_sorest, cX11_sorest, 5, (some .int), 0, 2, 0, 0)
theorem kX11_sorest : mz_okm IX11_sorest 1290 126 1288 0 = true := by decide +kernel
theorem vX11_sorest : mz_okV IX11_sorest 1288 1289 = true := by decide +kernel
def fX11_sorest_41 (k6 : Int32 → Int32 → Int32 → mz_D → Option (Int32 × mz_D)) (x3 : Int32) (x4 : Int32) (D : mz_D) : Option (Int32 × mz_D) := (k6 x3 x4 (x3 + (1 : Int32)) D)
set_option maxHeartbeats 4000000 in
theorem tX11_sorest_41 (r : (Int32 × mz_D)) (k6 : Int32 → Int32 → Int32 → mz_D → Option (Int32 × mz_D)) (hk6 : ∀ (x1 : Int32) (x2 : Int32) (x3 : Int32) (D : mz_D), k6 x1 x2 x3 D = some r → mz_Go IX11_sorest (some (.inl r.1), r.2) 0 0 (6, [some (.inr (.inr (some (0, 0)))), some (.inl x1), some (.inl x2), some (.inl x3), none], [], D)) : ∀ (x3 : Int32) (x4 : Int32) (D : mz_D), fX11_sorest_41 k6 x3 x4 D = some r → mz_Go IX11_sorest (some (.inl r.1), r.2) 0 0 (41, [some (.inr (.inr (some (0, 0)))), none, none, some (.inl x3), some (.inl x4)], [], D) := by
  intro x3 x4 D h
  rw [fX11_sorest_41] at h
  refine mz_Go.run (gs := []) (st' := (6, [some (.inr (.inr (some (0, 0)))), some (.inl x3), some (.inl x4), some (.inl (x3 + (1 : Int32))), some (.inl x4)], [], D)) bX11_sorest_41 oX11_sorest_41 rfl trivial ?_
  exact mz_Go.drop [true, true, true, true, false] (hk6 x3 x4 (x3 + (1 : Int32)) D h)
def fX11_sorest_6 : Nat → Int32 → Int32 → Int32 → mz_D → Option (Int32 × mz_D)
  | 0 => fun _ _ _ _ => none
  | n + 1 => fun x1 x2 x3 D => (if (D.1 1 101 0) ≤ x3 then (Option.bind (fX11_answerIfAny x1 D) fun q2 => (some (q2.1, q2.2))) else (Option.bind (fX6_regretOf 1 x3 D) fun q3 => (if x1 = (-1 : Int32) then (fX11_sorest_41 (fX11_sorest_6 n) x3 q3 D) else (if q3 ≤ x2 then ((fX11_sorest_6 n) x1 x2 (x3 + (1 : Int32)) D) else (fX11_sorest_41 (fX11_sorest_6 n) x3 q3 D)))))
set_option maxHeartbeats 4000000 in
theorem tX11_sorest_6 (r : (Int32 × mz_D)) : ∀ (n : Nat) (x1 : Int32) (x2 : Int32) (x3 : Int32) (D : mz_D), fX11_sorest_6 n x1 x2 x3 D = some r → mz_Go IX11_sorest (some (.inl r.1), r.2) 0 0 (6, [some (.inr (.inr (some (0, 0)))), some (.inl x1), some (.inl x2), some (.inl x3), none], [], D) := by
  intro n
  induction n with
  | zero => intro x1 x2 x3 D h; have h : (none : Option (Int32 × mz_D)) = some r := h; cases h
  | succ n ih =>
    intro x1 x2 x3 D h
    rw [fX11_sorest_6] at h
    refine mz_Go.run (gs := [mz_kz 0 0 0, mz_kz 0 1 100, mz_kz 0 1 101]) (st' := (if (D.1 1 101 0) ≤ x3 then (52, [some (.inr (.inr (some (0, 0)))), some (.inl x1), some (.inl x2), some (.inl x3), none], [], D) else (20, [some (.inr (.inr (some (0, 0)))), some (.inl x1), some (.inl x2), some (.inl x3), none], [], D))) bX11_sorest_6 oX11_sorest_6 rfl ⟨rfl, rfl, rfl, trivial⟩ ?_
    refine mz_Go.ite (fun hc1 => ?_) (fun hc1 => ?_)
    · have h := mz_ifp hc1 h
      refine mz_Go.run (gs := []) (st' := (54, [some (.inr (.inr (some (0, 0)))), some (.inl x1), some (.inl x2), some (.inl x3), none], [.inl x1, .inr (.inr (some (0, 0)))], D)) bX11_sorest_52 oX11_sorest_52 rfl trivial ?_
      obtain ⟨q2, hq2, h⟩ := mz_bd_some h
      refine mz_Go.callV (I := IX11_sorest) (J := IX11_answerIfAny) (as := [.inl x1]) (ci := 11) (g := 0) (o := 0) (idx := 245) (pl := 1046) (rest := []) (mX11_answerIfAny x1 D q2 hq2) kX11_answerIfAny vX11_answerIfAny (by decide +kernel) (by decide +kernel) (by decide +kernel) rfl rfl ⟨rfl, rfl⟩ rfl rfl rfl rfl ?_
      cases h
      exact mz_Go.reti (by decide +kernel) rfl ⟨Nat.le_refl _, Nat.le_refl _⟩ rfl
    · have h := mz_ifn hc1 h
      refine mz_Go.run (gs := [mz_kz 0 0 0]) (st' := (25, [some (.inr (.inr (some (0, 0)))), some (.inl x1), some (.inl x2), some (.inl x3), none], [.inl x3, .inr (.inr (some (1, 100)))], D)) bX11_sorest_20 oX11_sorest_20 rfl ⟨rfl, trivial⟩ ?_
      obtain ⟨q3, hq3, h⟩ := mz_bd_some h
      refine mz_Go.callV (I := IX11_sorest) (J := IX6_regretOf) (as := [.inl x3]) (ci := 6) (g := 1) (o := 100) (idx := 346) (pl := 1282) (rest := []) (mX6_regretOf 1 x3 D rfl q3 hq3) kX6_regretOf vX6_regretOf (by decide +kernel) (by decide +kernel) (by decide +kernel) rfl rfl ⟨rfl, rfl⟩ rfl rfl rfl rfl ?_
      refine mz_Go.run (gs := []) (st' := (if x1 = (-1 : Int32) then (41, [some (.inr (.inr (some (0, 0)))), some (.inl x1), some (.inl x2), some (.inl x3), some (.inl q3)], [], D) else (35, [some (.inr (.inr (some (0, 0)))), some (.inl x1), some (.inl x2), some (.inl x3), some (.inl q3)], [], D))) bX11_sorest_28 oX11_sorest_28 rfl trivial ?_
      refine mz_Go.ite (fun hc4 => ?_) (fun hc4 => ?_)
      · have h := mz_ifp hc4 h
        exact mz_Go.drop [true, false, false, true, true] (tX11_sorest_41 r (fX11_sorest_6 n) ih x3 q3 D h)
      · have h := mz_ifn hc4 h
        refine mz_Go.run (gs := []) (st' := (if q3 ≤ x2 then (46, [some (.inr (.inr (some (0, 0)))), some (.inl x1), some (.inl x2), some (.inl x3), some (.inl q3)], [], D) else (41, [some (.inr (.inr (some (0, 0)))), some (.inl x1), some (.inl x2), some (.inl x3), some (.inl q3)], [], D))) bX11_sorest_35 oX11_sorest_35 rfl trivial ?_
        refine mz_Go.ite (fun hc5 => ?_) (fun hc5 => ?_)
        · have h := mz_ifp hc5 h
          refine mz_Go.run (gs := []) (st' := (6, [some (.inr (.inr (some (0, 0)))), some (.inl x1), some (.inl x2), some (.inl (x3 + (1 : Int32))), some (.inl q3)], [], D)) bX11_sorest_46 oX11_sorest_46 rfl trivial ?_
          exact mz_Go.drop [true, true, true, true, false] (ih x1 x2 (x3 + (1 : Int32)) D h)
        · have h := mz_ifn hc5 h
          exact mz_Go.drop [true, false, false, true, true] (tX11_sorest_41 r (fX11_sorest_6 n) ih x3 q3 D h)
def fX11_sorest (D : mz_D) : Option (Int32 × mz_D) := (fX11_sorest_6 mz_N (-1 : Int32) (0 : Int32) (0 : Int32) D)
set_option maxHeartbeats 4000000 in
theorem mX11_sorest (D : mz_D) (r : (Int32 × mz_D)) (h : fX11_sorest D = some r) : mz_Met IX11_sorest [.inr (.inr (some (0, 0)))] D (some (.inl r.1), r.2) := by
  refine mz_Met.of (by decide +kernel) (Nat.le_of_ble_eq_true rfl) ?_
  show mz_Go IX11_sorest (some (.inl r.1), r.2) 0 0 (0, [some (.inr (.inr (some (0, 0)))), none, none, none, none], [], D)
  rw [fX11_sorest] at h
  refine mz_Go.run (gs := []) (st' := (6, [some (.inr (.inr (some (0, 0)))), some (.inl (-1 : Int32)), some (.inl (0 : Int32)), some (.inl (0 : Int32)), none], [], D)) bX11_sorest_0 oX11_sorest_0 rfl trivial ?_
  exact mz_Go.drop [true, true, true, true, false] (tX11_sorest_6 r mz_N (-1 : Int32) (0 : Int32) (0 : Int32) D h)
def bX11_owes_0 : List mz_E := [(0, .aload_n 0, 0, 0, 0, 0, 0), (1, .iload_n 1, 0, 0, 0, 0, 0), (2, .iload_n 2, 0, 0, 0, 0, 0)]
theorem oX11_owes_0 : bX11_owes_0.all (mz_ok RX11 cX11_owes 3) = true := by decide +kernel
def bX11_owes_6 : List mz_E := [(6, .ifCond .eq 22, 0, 28, 0, 0, 0)]
theorem oX11_owes_6 : bX11_owes_6.all (mz_ok RX11 cX11_owes 3) = true := by decide +kernel
def bX11_owes_28 : List mz_E := [(28, .aload_n 0, 0, 0, 0, 0, 0), (29, .iconst 1, 0, 0, 0, 1, 0)]
theorem oX11_owes_28 : bX11_owes_28.all (mz_ok RX11 cX11_owes 3) = true := by decide +kernel
def bX11_owes_9 : List mz_E := [(9, .aload_n 0, 0, 0, 0, 0, 0), (10, .aload_n 0, 0, 0, 0, 0, 0), (11, .getfield 32, 11, 4, 563, 0, 0), (14, .getfield 349, 6, 2, 485, 0, 0), (17, .iload_n 1, 0, 0, 0, 0, 0), (18, .iload_n 2, 0, 0, 0, 0, 0)]
theorem oX11_owes_9 : bX11_owes_9.all (mz_ok RX11 cX11_owes 3) = true := by decide +kernel
def bX11_owes_25 : List mz_E := [(25, .goto 8, 0, 33, 0, 0, 0)]
theorem oX11_owes_25 : bX11_owes_25.all (mz_ok RX11 cX11_owes 3) = true := by decide +kernel
abbrev IX11_owes : mz_I := (yX11_owes, cX11_owes, 3, (some .int), 0, 2, 0, 0)
theorem kX11_owes : mz_okm IX11_owes 1294 126 1292 2 = true := by decide +kernel
theorem vX11_owes : mz_okV IX11_owes 1292 1293 = true := by decide +kernel
def fX11_owes (x1 : Int32) (x2 : Int32) (D : mz_D) : Option (Int32 × mz_D) := (if (fX11_areTwo x1 x2 D) = 0 then (some ((-1 : Int32), (mz_wi D 0 0 13 (1 : Int32)))) else (Option.bind (fX2_get 1 x1 x2 D) fun q2 => (some (q2, (mz_wi D 0 0 13 (0 : Int32))))))
set_option maxHeartbeats 4000000 in
theorem mX11_owes (x1 : Int32) (x2 : Int32) (D : mz_D) (r : (Int32 × mz_D)) (h : fX11_owes x1 x2 D = some r) : mz_Met IX11_owes [.inr (.inr (some (0, 0))), .inl x1, .inl x2] D (some (.inl r.1), r.2) := by
  refine mz_Met.of (by decide +kernel) (Nat.le_of_ble_eq_true rfl) ?_
  show mz_Go IX11_owes (some (.inl r.1), r.2) 0 0 (0, [some (.inr (.inr (some (0, 0)))), some (.inl x1), some (.inl x2)], [], D)
  rw [fX11_owes] at h
  refine mz_Go.run (gs := []) (st' := (3, [some (.inr (.inr (some (0, 0)))), some (.inl x1), some (.inl x2)], [.inl x2, .inl x1, .inr (.inr (some (0, 0)))], D)) bX11_owes_0 oX11_owes_0 rfl trivial ?_
  refine mz_Go.callV (I := IX11_owes) (J := IX11_areTwo) (as := [.inl x1, .inl x2]) (ci := 11) (g := 0) (o := 0) (idx := 320) (pl := 1218) (rest := []) (mX11_areTwo x1 x2 D _ rfl) kX11_areTwo vX11_areTwo (by decide +kernel) (by decide +kernel) (by decide +kernel) rfl rfl ⟨rfl, rfl⟩ rfl rfl rfl rfl ?_
  refine mz_Go.run (gs := []) (st' := (if (fX11_areTwo x1 x2 D) = 0 then (28, [some (.inr (.inr (some (0, 0)))), some (.inl x1), some (.inl x2)], [], D) else (9, [some (.inr (.inr (some (0, 0)))), some (.inl x1), some (.inl x2)], [], D))) bX11_owes_6 oX11_owes_6 rfl trivial ?_
  refine mz_Go.ite (fun hc1 => ?_) (fun hc1 => ?_)
  · have h := mz_ifp hc1 h
    refine mz_Go.run (gs := []) (st' := (30, [some (.inr (.inr (some (0, 0)))), some (.inl x1), some (.inl x2)], [.inl (1 : Int32), .inr (.inr (some (0, 0)))], D)) bX11_owes_28 oX11_owes_28 rfl trivial ?_
    refine mz_Go.callV (I := IX11_owes) (J := IX11_refuse) (as := [.inl (1 : Int32)]) (ci := 11) (g := 0) (o := 0) (idx := 100) (pl := 673) (rest := []) (mX11_refuse (1 : Int32) D) kX11_refuse vX11_refuse (by decide +kernel) (by decide +kernel) (by decide +kernel) rfl rfl ⟨rfl, rfl⟩ rfl rfl rfl rfl ?_
    cases h
    exact mz_Go.reti (by decide +kernel) rfl ⟨Nat.le_refl _, Nat.le_refl _⟩ rfl
  · have h := mz_ifn hc1 h
    refine mz_Go.run (gs := [mz_kz 0 0 0, mz_kz 0 1 100]) (st' := (19, [some (.inr (.inr (some (0, 0)))), some (.inl x1), some (.inl x2)], [.inl x2, .inl x1, .inr (.inr (some (1, 113))), .inr (.inr (some (0, 0)))], D)) bX11_owes_9 oX11_owes_9 rfl ⟨rfl, rfl, trivial⟩ ?_
    obtain ⟨q2, hq2, h⟩ := mz_bd_some h
    refine mz_Go.callV (I := IX11_owes) (J := IX2_get) (as := [.inl x1, .inl x2]) (ci := 2) (g := 1) (o := 113) (idx := 353) (pl := 1295) (rest := [.inr (.inr (some (0, 0)))]) (mX2_get 1 x1 x2 D rfl q2 hq2) kX2_get vX2_get (by decide +kernel) (by decide +kernel) (by decide +kernel) rfl rfl ⟨rfl, rfl⟩ rfl rfl rfl rfl ?_
    refine mz_Go.callV (I := IX11_owes) (J := IX11_answer) (as := [.inl q2]) (ci := 11) (g := 0) (o := 0) (idx := 160) (pl := 914) (rest := []) (mX11_answer q2 D) kX11_answer vX11_answer (by decide +kernel) (by decide +kernel) (by decide +kernel) rfl rfl ⟨rfl, rfl⟩ rfl rfl rfl rfl ?_
    refine mz_Go.run (gs := []) (st' := (33, [some (.inr (.inr (some (0, 0)))), some (.inl x1), some (.inl x2)], [.inl q2], (mz_wi D 0 0 13 (0 : Int32)))) bX11_owes_25 oX11_owes_25 rfl trivial ?_
    cases h
    exact mz_Go.reti (by decide +kernel) rfl ⟨Nat.le_refl _, Nat.le_refl _⟩ rfl
def bX11_lend_0 : List mz_E := [(0, .aload_n 0, 0, 0, 0, 0, 0), (1, .iload_n 1, 0, 0, 0, 0, 0), (2, .iload_n 2, 0, 0, 0, 0, 0)]
theorem oX11_lend_0 : bX11_lend_0.all (mz_ok RX11 cX11_lend 4) = true := by decide +kernel
def bX11_lend_6 : List mz_E := [(6, .ifCond .eq 15, 0, 21, 0, 0, 0)]
theorem oX11_lend_6 : bX11_lend_6.all (mz_ok RX11 cX11_lend 4) = true := by decide +kernel
def bX11_lend_21 : List mz_E := [(21, .aload_n 0, 0, 0, 0, 0, 0), (22, .iconst 1, 0, 0, 0, 1, 0)]
theorem oX11_lend_21 : bX11_lend_21.all (mz_ok RX11 cX11_lend 4) = true := by decide +kernel
def bX11_lend_9 : List mz_E := [(9, .iload_n 3, 0, 0, 0, 0, 0), (10, .iconst 1, 0, 0, 0, 1, 0), (11, .if_icmp .lt 10, 0, 21, 0, 0, 0)]
theorem oX11_lend_9 : bX11_lend_9.all (mz_ok RX11 cX11_lend 4) = true := by decide +kernel
def bX11_lend_14 : List mz_E := [(14, .iload_n 3, 0, 0, 0, 0, 0), (15, .sipush 9999, 0, 0, 0, 9999, 0), (18, .if_icmp .le 9, 0, 27, 0, 0, 0)]
theorem oX11_lend_14 : bX11_lend_14.all (mz_ok RX11 cX11_lend 4) = true := by decide +kernel
def bX11_lend_27 : List mz_E := [(27, .aload_n 0, 0, 0, 0, 0, 0), (28, .getfield 32, 11, 4, 563, 0, 0), (31, .getfield 349, 6, 2, 485, 0, 0), (34, .iload_n 2, 0, 0, 0, 0, 0), (35, .iload_n 1, 0, 0, 0, 0, 0), (36, .iload_n 3, 0, 0, 0, 0, 0)]
theorem oX11_lend_27 : bX11_lend_27.all (mz_ok RX11 cX11_lend 4) = true := by decide +kernel
def bX11_lend_40 : List mz_E := [(40, .ifCond .ne 10, 0, 50, 0, 0, 0)]
theorem oX11_lend_40 : bX11_lend_40.all (mz_ok RX11 cX11_lend 4) = true := by decide +kernel
def bX11_lend_43 : List mz_E := [(43, .aload_n 0, 0, 0, 0, 0, 0), (44, .bipush 7, 0, 0, 0, 7, 0)]
theorem oX11_lend_43 : bX11_lend_43.all (mz_ok RX11 cX11_lend 4) = true := by decide +kernel
def bX11_lend_50 : List mz_E := [(50, .aload_n 0, 0, 0, 0, 0, 0), (51, .aload_n 0, 0, 0, 0, 0, 0), (52, .getfield 32, 11, 4, 563, 0, 0), (55, .getfield 349, 6, 2, 485, 0, 0), (58, .iload_n 2, 0, 0, 0, 0, 0), (59, .iload_n 1, 0, 0, 0, 0, 0)]
theorem oX11_lend_50 : bX11_lend_50.all (mz_ok RX11 cX11_lend 4) = true := by decide +kernel
abbrev IX11_lend : mz_I := (yX11_lend, cX11_lend, 4, (some .int), 0, 2, 0, 0)
theorem kX11_lend : mz_okm IX11_lend 1299 126 1297 3 = true := by decide +kernel
theorem vX11_lend : mz_okV IX11_lend 1297 1298 = true := by decide +kernel
def fX11_lend (x1 : Int32) (x2 : Int32) (x3 : Int32) (D : mz_D) : Option (Int32 × mz_D) := (if (fX11_areTwo x1 x2 D) = 0 then (some ((-1 : Int32), (mz_wi D 0 0 13 (1 : Int32)))) else (if x3 < (1 : Int32) then (some ((-1 : Int32), (mz_wi D 0 0 13 (1 : Int32)))) else (if x3 ≤ (9999 : Int32) then (Option.bind (fX2_add 1 x2 x1 x3 D) fun q4 => (if q4.1 = 0 then (some ((-1 : Int32), (mz_wi q4.2 0 0 13 (7 : Int32)))) else (Option.bind (fX2_get 1 x2 x1 q4.2) fun q6 => (some (q6, (mz_wi q4.2 0 0 13 (0 : Int32))))))) else (some ((-1 : Int32), (mz_wi D 0 0 13 (1 : Int32)))))))
set_option maxHeartbeats 4000000 in
theorem mX11_lend (x1 : Int32) (x2 : Int32) (x3 : Int32) (D : mz_D) (r : (Int32 × mz_D)) (h : fX11_lend x1 x2 x3 D = some r) : mz_Met IX11_lend [.inr (.inr (some (0, 0))), .inl x1, .inl x2, .inl x3] D (some (.inl r.1), r.2) := by
  refine mz_Met.of (by decide +kernel) (Nat.le_of_ble_eq_true rfl) ?_
  show mz_Go IX11_lend (some (.inl r.1), r.2) 0 0 (0, [some (.inr (.inr (some (0, 0)))), some (.inl x1), some (.inl x2), some (.inl x3)], [], D)
  rw [fX11_lend] at h
  refine mz_Go.run (gs := []) (st' := (3, [some (.inr (.inr (some (0, 0)))), some (.inl x1), some (.inl x2), some (.inl x3)], [.inl x2, .inl x1, .inr (.inr (some (0, 0)))], D)) bX11_lend_0 oX11_lend_0 rfl trivial ?_
  refine mz_Go.callV (I := IX11_lend) (J := IX11_areTwo) (as := [.inl x1, .inl x2]) (ci := 11) (g := 0) (o := 0) (idx := 320) (pl := 1218) (rest := []) (mX11_areTwo x1 x2 D _ rfl) kX11_areTwo vX11_areTwo (by decide +kernel) (by decide +kernel) (by decide +kernel) rfl rfl ⟨rfl, rfl⟩ rfl rfl rfl rfl ?_
  refine mz_Go.run (gs := []) (st' := (if (fX11_areTwo x1 x2 D) = 0 then (21, [some (.inr (.inr (some (0, 0)))), some (.inl x1), some (.inl x2), some (.inl x3)], [], D) else (9, [some (.inr (.inr (some (0, 0)))), some (.inl x1), some (.inl x2), some (.inl x3)], [], D))) bX11_lend_6 oX11_lend_6 rfl trivial ?_
  refine mz_Go.ite (fun hc1 => ?_) (fun hc1 => ?_)
  · have h := mz_ifp hc1 h
    refine mz_Go.run (gs := []) (st' := (23, [some (.inr (.inr (some (0, 0)))), some (.inl x1), some (.inl x2), some (.inl x3)], [.inl (1 : Int32), .inr (.inr (some (0, 0)))], D)) bX11_lend_21 oX11_lend_21 rfl trivial ?_
    refine mz_Go.callV (I := IX11_lend) (J := IX11_refuse) (as := [.inl (1 : Int32)]) (ci := 11) (g := 0) (o := 0) (idx := 100) (pl := 673) (rest := []) (mX11_refuse (1 : Int32) D) kX11_refuse vX11_refuse (by decide +kernel) (by decide +kernel) (by decide +kernel) rfl rfl ⟨rfl, rfl⟩ rfl rfl rfl rfl ?_
    cases h
    exact mz_Go.reti (by decide +kernel) rfl ⟨Nat.le_refl _, Nat.le_refl _⟩ rfl
  · have h := mz_ifn hc1 h
    refine mz_Go.run (gs := []) (st' := (if x3 < (1 : Int32) then (21, [some (.inr (.inr (some (0, 0)))), some (.inl x1), some (.inl x2), some (.inl x3)], [], D) else (14, [some (.inr (.inr (some (0, 0)))), some (.inl x1), some (.inl x2), some (.inl x3)], [], D))) bX11_lend_9 oX11_lend_9 rfl trivial ?_
    refine mz_Go.ite (fun hc2 => ?_) (fun hc2 => ?_)
    · have h := mz_ifp hc2 h
      refine mz_Go.run (gs := []) (st' := (23, [some (.inr (.inr (some (0, 0)))), some (.inl x1), some (.inl x2), some (.inl x3)], [.inl (1 : Int32), .inr (.inr (some (0, 0)))], D)) bX11_lend_21 oX11_lend_21 rfl trivial ?_
      refine mz_Go.callV (I := IX11_lend) (J := IX11_refuse) (as := [.inl (1 : Int32)]) (ci := 11) (g := 0) (o := 0) (idx := 100) (pl := 673) (rest := []) (mX11_refuse (1 : Int32) D) kX11_refuse vX11_refuse (by decide +kernel) (by decide +kernel) (by decide +kernel) rfl rfl ⟨rfl, rfl⟩ rfl rfl rfl rfl ?_
      cases h
      exact mz_Go.reti (by decide +kernel) rfl ⟨Nat.le_refl _, Nat.le_refl _⟩ rfl
    · have h := mz_ifn hc2 h
      refine mz_Go.run (gs := []) (st' := (if x3 ≤ (9999 : Int32) then (27, [some (.inr (.inr (some (0, 0)))), some (.inl x1), some (.inl x2), some (.inl x3)], [], D) else (21, [some (.inr (.inr (some (0, 0)))), some (.inl x1), some (.inl x2), some (.inl x3)], [], D))) bX11_lend_14 oX11_lend_14 rfl trivial ?_
      refine mz_Go.ite (fun hc3 => ?_) (fun hc3 => ?_)
      · have h := mz_ifp hc3 h
        refine mz_Go.run (gs := [mz_kz 0 0 0, mz_kz 0 1 100]) (st' := (37, [some (.inr (.inr (some (0, 0)))), some (.inl x1), some (.inl x2), some (.inl x3)], [.inl x3, .inl x1, .inl x2, .inr (.inr (some (1, 113)))], D)) bX11_lend_27 oX11_lend_27 rfl ⟨rfl, rfl, trivial⟩ ?_
        obtain ⟨q4, hq4, h⟩ := mz_bd_some h
        refine mz_Go.callV (I := IX11_lend) (J := IX2_add) (as := [.inl x2, .inl x1, .inl x3]) (ci := 2) (g := 1) (o := 113) (idx := 357) (pl := 1300) (rest := []) (mX2_add 1 x2 x1 x3 D rfl q4 hq4) kX2_add vX2_add (by decide +kernel) (by decide +kernel) (by decide +kernel) rfl rfl ⟨rfl, rfl⟩ rfl rfl rfl rfl ?_
        refine mz_Go.run (gs := []) (st' := (if q4.1 = 0 then (43, [some (.inr (.inr (some (0, 0)))), some (.inl x1), some (.inl x2), some (.inl x3)], [], q4.2) else (50, [some (.inr (.inr (some (0, 0)))), some (.inl x1), some (.inl x2), some (.inl x3)], [], q4.2))) bX11_lend_40 oX11_lend_40 rfl trivial ?_
        refine mz_Go.ite (fun hc5 => ?_) (fun hc5 => ?_)
        · have h := mz_ifp hc5 h
          refine mz_Go.run (gs := []) (st' := (46, [some (.inr (.inr (some (0, 0)))), some (.inl x1), some (.inl x2), some (.inl x3)], [.inl (7 : Int32), .inr (.inr (some (0, 0)))], q4.2)) bX11_lend_43 oX11_lend_43 rfl trivial ?_
          refine mz_Go.callV (I := IX11_lend) (J := IX11_refuse) (as := [.inl (7 : Int32)]) (ci := 11) (g := 0) (o := 0) (idx := 100) (pl := 673) (rest := []) (mX11_refuse (7 : Int32) q4.2) kX11_refuse vX11_refuse (by decide +kernel) (by decide +kernel) (by decide +kernel) rfl rfl ⟨rfl, rfl⟩ rfl rfl rfl rfl ?_
          cases h
          exact mz_Go.reti (by decide +kernel) rfl ⟨Nat.le_refl _, Nat.le_refl _⟩ rfl
        · have h := mz_ifn hc5 h
          refine mz_Go.run (gs := [mz_kz 0 0 0, mz_kz 0 1 100]) (st' := (60, [some (.inr (.inr (some (0, 0)))), some (.inl x1), some (.inl x2), some (.inl x3)], [.inl x1, .inl x2, .inr (.inr (some (1, 113))), .inr (.inr (some (0, 0)))], q4.2)) bX11_lend_50 oX11_lend_50 rfl ⟨rfl, rfl, trivial⟩ ?_
          obtain ⟨q6, hq6, h⟩ := mz_bd_some h
          refine mz_Go.callV (I := IX11_lend) (J := IX2_get) (as := [.inl x2, .inl x1]) (ci := 2) (g := 1) (o := 113) (idx := 353) (pl := 1295) (rest := [.inr (.inr (some (0, 0)))]) (mX2_get 1 x2 x1 q4.2 rfl q6 hq6) kX2_get vX2_get (by decide +kernel) (by decide +kernel) (by decide +kernel) rfl rfl ⟨rfl, rfl⟩ rfl rfl rfl rfl ?_
          refine mz_Go.callV (I := IX11_lend) (J := IX11_answer) (as := [.inl q6]) (ci := 11) (g := 0) (o := 0) (idx := 160) (pl := 914) (rest := []) (mX11_answer q6 q4.2) kX11_answer vX11_answer (by decide +kernel) (by decide +kernel) (by decide +kernel) rfl rfl ⟨rfl, rfl⟩ rfl rfl rfl rfl ?_
          cases h
          exact mz_Go.reti (by decide +kernel) rfl ⟨Nat.le_refl _, Nat.le_refl _⟩ rfl
      · have h := mz_ifn hc3 h
        refine mz_Go.run (gs := []) (st' := (23, [some (.inr (.inr (some (0, 0)))), some (.inl x1), some (.inl x2), some (.inl x3)], [.inl (1 : Int32), .inr (.inr (some (0, 0)))], D)) bX11_lend_21 oX11_lend_21 rfl trivial ?_
        refine mz_Go.callV (I := IX11_lend) (J := IX11_refuse) (as := [.inl (1 : Int32)]) (ci := 11) (g := 0) (o := 0) (idx := 100) (pl := 673) (rest := []) (mX11_refuse (1 : Int32) D) kX11_refuse vX11_refuse (by decide +kernel) (by decide +kernel) (by decide +kernel) rfl rfl ⟨rfl, rfl⟩ rfl rfl rfl rfl ?_
        cases h
        exact mz_Go.reti (by decide +kernel) rfl ⟨Nat.le_refl _, Nat.le_refl _⟩ rfl
def bX11_balance_0 : List mz_E := [(0, .aload_n 0, 0, 0, 0, 0, 0), (1, .getfield 32, 11, 4, 563, 0, 0), (4, .getfield 151, 6, 0, 477, 0, 0), (7, .iload_n 1, 0, 0, 0, 0, 0)]
theorem oX11_balance_0 : bX11_balance_0.all (mz_ok RX11 cX11_balance 2) = true := by decide +kernel
def bX11_balance_11 : List mz_E := [(11, .ifCond .eq 21, 0, 32, 0, 0, 0)]
theorem oX11_balance_11 : bX11_balance_11.all (mz_ok RX11 cX11_balance 2) = true := by decide +kernel
def bX11_balance_32 : List mz_E := [(32, .aload_n 0, 0, 0, 0, 0, 0), (33, .iconst 1, 0, 0, 0, 1, 0)]
theorem oX11_balance_32 : bX11_balance_32.all (mz_ok RX11 cX11_balance 2) = true := by decide +kernel
def bX11_balance_14 : List mz_E := [(14, .aload_n 0, 0, 0, 0, 0, 0), (15, .aload_n 0, 0, 0, 0, 0, 0), (16, .getfield 32, 11, 4, 563, 0, 0), (19, .getfield 349, 6, 2, 485, 0, 0), (22, .iload_n 1, 0, 0, 0, 0, 0)]
theorem oX11_balance_14 : bX11_balance_14.all (mz_ok RX11 cX11_balance 2) = true := by decide +kernel
def bX11_balance_29 : List mz_E := [(29, .goto 8, 0, 37, 0, 0, 0)]
theorem oX11_balance_29 : bX11_balance_29.all (mz_ok RX11 cX11_balance 2) = true := by decide +kernel
abbrev IX11_balance : mz_I := (yX11_balance, cX11_balance, 2, (some .int), 0, 1, 0, 0)
theorem kX11_balance : mz_okm IX11_balance 1304 126 1302 1 = true := by decide +kernel
theorem vX11_balance : mz_okV IX11_balance 1302 1303 = true := by decide +kernel
def fX11_balance (x1 : Int32) (D : mz_D) : Option (Int32 × mz_D) := (if (fX4_has 1 x1 D) = 0 then (some ((-1 : Int32), (mz_wi D 0 0 13 (1 : Int32)))) else (Option.bind (fX2_balanceOf 1 x1 D) fun q2 => (some (q2, (mz_wi D 0 0 13 (0 : Int32))))))
set_option maxHeartbeats 4000000 in
theorem mX11_balance (x1 : Int32) (D : mz_D) (r : (Int32 × mz_D)) (h : fX11_balance x1 D = some r) : mz_Met IX11_balance [.inr (.inr (some (0, 0))), .inl x1] D (some (.inl r.1), r.2) := by
  refine mz_Met.of (by decide +kernel) (Nat.le_of_ble_eq_true rfl) ?_
  show mz_Go IX11_balance (some (.inl r.1), r.2) 0 0 (0, [some (.inr (.inr (some (0, 0)))), some (.inl x1)], [], D)
  rw [fX11_balance] at h
  refine mz_Go.run (gs := [mz_kz 0 0 0, mz_kz 0 1 100]) (st' := (8, [some (.inr (.inr (some (0, 0)))), some (.inl x1)], [.inl x1, .inr (.inr (some (1, 101)))], D)) bX11_balance_0 oX11_balance_0 rfl ⟨rfl, rfl, trivial⟩ ?_
  refine mz_Go.callV (I := IX11_balance) (J := IX4_has) (as := [.inl x1]) (ci := 4) (g := 1) (o := 101) (idx := 229) (pl := 1042) (rest := []) (mX4_has 1 x1 D rfl _ rfl) kX4_has vX4_has (by decide +kernel) (by decide +kernel) (by decide +kernel) rfl rfl ⟨rfl, rfl⟩ rfl rfl rfl rfl ?_
  refine mz_Go.run (gs := []) (st' := (if (fX4_has 1 x1 D) = 0 then (32, [some (.inr (.inr (some (0, 0)))), some (.inl x1)], [], D) else (14, [some (.inr (.inr (some (0, 0)))), some (.inl x1)], [], D))) bX11_balance_11 oX11_balance_11 rfl trivial ?_
  refine mz_Go.ite (fun hc1 => ?_) (fun hc1 => ?_)
  · have h := mz_ifp hc1 h
    refine mz_Go.run (gs := []) (st' := (34, [some (.inr (.inr (some (0, 0)))), some (.inl x1)], [.inl (1 : Int32), .inr (.inr (some (0, 0)))], D)) bX11_balance_32 oX11_balance_32 rfl trivial ?_
    refine mz_Go.callV (I := IX11_balance) (J := IX11_refuse) (as := [.inl (1 : Int32)]) (ci := 11) (g := 0) (o := 0) (idx := 100) (pl := 673) (rest := []) (mX11_refuse (1 : Int32) D) kX11_refuse vX11_refuse (by decide +kernel) (by decide +kernel) (by decide +kernel) rfl rfl ⟨rfl, rfl⟩ rfl rfl rfl rfl ?_
    cases h
    exact mz_Go.reti (by decide +kernel) rfl ⟨Nat.le_refl _, Nat.le_refl _⟩ rfl
  · have h := mz_ifn hc1 h
    refine mz_Go.run (gs := [mz_kz 0 0 0, mz_kz 0 1 100]) (st' := (23, [some (.inr (.inr (some (0, 0)))), some (.inl x1)], [.inl x1, .inr (.inr (some (1, 113))), .inr (.inr (some (0, 0)))], D)) bX11_balance_14 oX11_balance_14 rfl ⟨rfl, rfl, trivial⟩ ?_
    obtain ⟨q2, hq2, h⟩ := mz_bd_some h
    refine mz_Go.callV (I := IX11_balance) (J := IX2_balanceOf) (as := [.inl x1]) (ci := 2) (g := 1) (o := 113) (idx := 359) (pl := 1305) (rest := [.inr (.inr (some (0, 0)))]) (mX2_balanceOf 1 x1 D rfl q2 hq2) kX2_balanceOf vX2_balanceOf (by decide +kernel) (by decide +kernel) (by decide +kernel) rfl rfl ⟨rfl, rfl⟩ rfl rfl rfl rfl ?_
    refine mz_Go.callV (I := IX11_balance) (J := IX11_answer) (as := [.inl q2]) (ci := 11) (g := 0) (o := 0) (idx := 160) (pl := 914) (rest := []) (mX11_answer q2 D) kX11_answer vX11_answer (by decide +kernel) (by decide +kernel) (by decide +kernel) rfl rfl ⟨rfl, rfl⟩ rfl rfl rfl rfl ?_
    refine mz_Go.run (gs := []) (st' := (37, [some (.inr (.inr (some (0, 0)))), some (.inl x1)], [.inl q2], (mz_wi D 0 0 13 (0 : Int32)))) bX11_balance_29 oX11_balance_29 rfl trivial ?_
    cases h
    exact mz_Go.reti (by decide +kernel) rfl ⟨Nat.le_refl _, Nat.le_refl _⟩ rfl
def bX11_quits_0 : List mz_E := [(0, .aload_n 0, 0, 0, 0, 0, 0), (1, .iload_n 1, 0, 0, 0, 0, 0), (2, .iload_n 2, 0, 0, 0, 0, 0)]
theorem oX11_quits_0 : bX11_quits_0.all (mz_ok RX11 cX11_quits 4) = true := by decide +kernel
def bX11_quits_6 : List mz_E := [(6, .ifCond .ne 9, 0, 15, 0, 0, 0)]
theorem oX11_quits_6 : bX11_quits_6.all (mz_ok RX11 cX11_quits 4) = true := by decide +kernel
def bX11_quits_9 : List mz_E := [(9, .aload_n 0, 0, 0, 0, 0, 0), (10, .iconst 1, 0, 0, 0, 1, 0)]
theorem oX11_quits_9 : bX11_quits_9.all (mz_ok RX11 cX11_quits 4) = true := by decide +kernel
def bX11_quits_15 : List mz_E := [(15, .aload_n 0, 0, 0, 0, 0, 0), (16, .getfield 32, 11, 4, 563, 0, 0), (19, .getfield 349, 6, 2, 485, 0, 0), (22, .iload_n 1, 0, 0, 0, 0, 0), (23, .iload_n 2, 0, 0, 0, 0, 0)]
theorem oX11_quits_15 : bX11_quits_15.all (mz_ok RX11 cX11_quits 4) = true := by decide +kernel
def bX11_quits_27 : List mz_E := [(27, .aload_n 0, 0, 0, 0, 0, 0), (28, .getfield 32, 11, 4, 563, 0, 0), (31, .getfield 349, 6, 2, 485, 0, 0), (34, .iload_n 2, 0, 0, 0, 0, 0), (35, .iload_n 1, 0, 0, 0, 0, 0)]
theorem oX11_quits_27 : bX11_quits_27.all (mz_ok RX11 cX11_quits 4) = true := by decide +kernel
def bX11_quits_42 : List mz_E := [(42, .istore_n 3, 0, 0, 0, 0, 0), (43, .aload_n 0, 0, 0, 0, 0, 0), (44, .getfield 32, 11, 4, 563, 0, 0), (47, .getfield 349, 6, 2, 485, 0, 0), (50, .iload_n 1, 0, 0, 0, 0, 0), (51, .iload_n 2, 0, 0, 0, 0, 0), (52, .iload_n 3, 0, 0, 0, 0, 0)]
theorem oX11_quits_42 : bX11_quits_42.all (mz_ok RX11 cX11_quits 4) = true := by decide +kernel
def bX11_quits_56 : List mz_E := [(56, .aload_n 0, 0, 0, 0, 0, 0), (57, .getfield 32, 11, 4, 563, 0, 0), (60, .getfield 349, 6, 2, 485, 0, 0), (63, .iload_n 2, 0, 0, 0, 0, 0), (64, .iload_n 1, 0, 0, 0, 0, 0), (65, .iload_n 3, 0, 0, 0, 0, 0)]
theorem oX11_quits_56 : bX11_quits_56.all (mz_ok RX11 cX11_quits 4) = true := by decide +kernel
def bX11_quits_69 : List mz_E := [(69, .aload_n 0, 0, 0, 0, 0, 0), (70, .iload_n 3, 0, 0, 0, 0, 0)]
theorem oX11_quits_69 : bX11_quits_69.all (mz_ok RX11 cX11_quits 4) = true := by decide +kernel
abbrev IX11_quits : mz_I := (yX11_quits, cX11_quits, 4, (some .int), 0, 2, 0, 0)
theorem kX11_quits : mz_okm IX11_quits 1309 126 1307 2 = true := by decide +kernel
theorem vX11_quits : mz_okV IX11_quits 1307 1308 = true := by decide +kernel
def fX11_quits (x1 : Int32) (x2 : Int32) (D : mz_D) : Option (Int32 × mz_D) := (if (fX11_areTwo x1 x2 D) = 0 then (some ((-1 : Int32), (mz_wi D 0 0 13 (1 : Int32)))) else (Option.bind (fX2_get 1 x1 x2 D) fun q2 => (Option.bind (fX2_get 1 x2 x1 D) fun q3 => (Option.bind (fX2_lower 1 x1 x2 (fJ9_min_7cf53 q2 q3) D) fun q4 => (Option.bind (fX2_lower 1 x2 x1 (fJ9_min_7cf53 q2 q3) q4) fun q5 => (some ((fJ9_min_7cf53 q2 q3), (mz_wi q5 0 0 13 (0 : Int32)))))))))
set_option maxHeartbeats 4000000 in
theorem mX11_quits (x1 : Int32) (x2 : Int32) (D : mz_D) (r : (Int32 × mz_D)) (h : fX11_quits x1 x2 D = some r) : mz_Met IX11_quits [.inr (.inr (some (0, 0))), .inl x1, .inl x2] D (some (.inl r.1), r.2) := by
  refine mz_Met.of (by decide +kernel) (Nat.le_of_ble_eq_true rfl) ?_
  show mz_Go IX11_quits (some (.inl r.1), r.2) 0 0 (0, [some (.inr (.inr (some (0, 0)))), some (.inl x1), some (.inl x2), none], [], D)
  rw [fX11_quits] at h
  refine mz_Go.run (gs := []) (st' := (3, [some (.inr (.inr (some (0, 0)))), some (.inl x1), some (.inl x2), none], [.inl x2, .inl x1, .inr (.inr (some (0, 0)))], D)) bX11_quits_0 oX11_quits_0 rfl trivial ?_
  refine mz_Go.callV (I := IX11_quits) (J := IX11_areTwo) (as := [.inl x1, .inl x2]) (ci := 11) (g := 0) (o := 0) (idx := 320) (pl := 1218) (rest := []) (mX11_areTwo x1 x2 D _ rfl) kX11_areTwo vX11_areTwo (by decide +kernel) (by decide +kernel) (by decide +kernel) rfl rfl ⟨rfl, rfl⟩ rfl rfl rfl rfl ?_
  refine mz_Go.run (gs := []) (st' := (if (fX11_areTwo x1 x2 D) = 0 then (9, [some (.inr (.inr (some (0, 0)))), some (.inl x1), some (.inl x2), none], [], D) else (15, [some (.inr (.inr (some (0, 0)))), some (.inl x1), some (.inl x2), none], [], D))) bX11_quits_6 oX11_quits_6 rfl trivial ?_
  refine mz_Go.ite (fun hc1 => ?_) (fun hc1 => ?_)
  · have h := mz_ifp hc1 h
    refine mz_Go.run (gs := []) (st' := (11, [some (.inr (.inr (some (0, 0)))), some (.inl x1), some (.inl x2), none], [.inl (1 : Int32), .inr (.inr (some (0, 0)))], D)) bX11_quits_9 oX11_quits_9 rfl trivial ?_
    refine mz_Go.callV (I := IX11_quits) (J := IX11_refuse) (as := [.inl (1 : Int32)]) (ci := 11) (g := 0) (o := 0) (idx := 100) (pl := 673) (rest := []) (mX11_refuse (1 : Int32) D) kX11_refuse vX11_refuse (by decide +kernel) (by decide +kernel) (by decide +kernel) rfl rfl ⟨rfl, rfl⟩ rfl rfl rfl rfl ?_
    cases h
    exact mz_Go.reti (by decide +kernel) rfl ⟨Nat.le_refl _, Nat.le_refl _⟩ rfl
  · have h := mz_ifn hc1 h
    refine mz_Go.run (gs := [mz_kz 0 0 0, mz_kz 0 1 100]) (st' := (24, [some (.inr (.inr (some (0, 0)))), some (.inl x1), some (.inl x2), none], [.inl x2, .inl x1, .inr (.inr (some (1, 113)))], D)) bX11_quits_15 oX11_quits_15 rfl ⟨rfl, rfl, trivial⟩ ?_
    obtain ⟨q2, hq2, h⟩ := mz_bd_some h
    refine mz_Go.callV (I := IX11_quits) (J := IX2_get) (as := [.inl x1, .inl x2]) (ci := 2) (g := 1) (o := 113) (idx := 353) (pl := 1295) (rest := []) (mX2_get 1 x1 x2 D rfl q2 hq2) kX2_get vX2_get (by decide +kernel) (by decide +kernel) (by decide +kernel) rfl rfl ⟨rfl, rfl⟩ rfl rfl rfl rfl ?_
    refine mz_Go.run (gs := [mz_kz 0 0 0, mz_kz 0 1 100]) (st' := (36, [some (.inr (.inr (some (0, 0)))), some (.inl x1), some (.inl x2), none], [.inl x1, .inl x2, .inr (.inr (some (1, 113))), .inl q2], D)) bX11_quits_27 oX11_quits_27 rfl ⟨rfl, rfl, trivial⟩ ?_
    obtain ⟨q3, hq3, h⟩ := mz_bd_some h
    refine mz_Go.callV (I := IX11_quits) (J := IX2_get) (as := [.inl x2, .inl x1]) (ci := 2) (g := 1) (o := 113) (idx := 353) (pl := 1295) (rest := [.inl q2]) (mX2_get 1 x2 x1 D rfl q3 hq3) kX2_get vX2_get (by decide +kernel) (by decide +kernel) (by decide +kernel) rfl rfl ⟨rfl, rfl⟩ rfl rfl rfl rfl ?_
    refine mz_Go.callS (I := IX11_quits) (J := IJ9_min_7cf53) (as := [.inl q2, .inl q3]) (idx := 362) (pl := 892) (rest := []) (mJ9_min_7cf53 q2 q3 D _ rfl) kJ9_min_7cf53 vJ9_min_7cf53 (by decide +kernel) (by decide +kernel) (by decide +kernel) rfl rfl ⟨rfl, rfl⟩ rfl ?_
    refine mz_Go.run (gs := [mz_kz 0 0 0, mz_kz 0 1 100]) (st' := (53, [some (.inr (.inr (some (0, 0)))), some (.inl x1), some (.inl x2), some (.inl (fJ9_min_7cf53 q2 q3))], [.inl (fJ9_min_7cf53 q2 q3), .inl x2, .inl x1, .inr (.inr (some (1, 113)))], D)) bX11_quits_42 oX11_quits_42 rfl ⟨rfl, rfl, trivial⟩ ?_
    obtain ⟨q4, hq4, h⟩ := mz_bd_some h
    refine mz_Go.callV (I := IX11_quits) (J := IX2_lower) (as := [.inl x1, .inl x2, .inl (fJ9_min_7cf53 q2 q3)]) (ci := 2) (g := 1) (o := 113) (idx := 367) (pl := 1310) (rest := []) (mX2_lower 1 x1 x2 (fJ9_min_7cf53 q2 q3) D rfl q4 hq4) kX2_lower vX2_lower (by decide +kernel) (by decide +kernel) (by decide +kernel) rfl rfl ⟨rfl, rfl⟩ rfl rfl rfl rfl ?_
    refine mz_Go.run (gs := [mz_kz 0 0 0, mz_kz 0 1 100]) (st' := (66, [some (.inr (.inr (some (0, 0)))), some (.inl x1), some (.inl x2), some (.inl (fJ9_min_7cf53 q2 q3))], [.inl (fJ9_min_7cf53 q2 q3), .inl x1, .inl x2, .inr (.inr (some (1, 113)))], q4)) bX11_quits_56 oX11_quits_56 rfl ⟨rfl, rfl, trivial⟩ ?_
    obtain ⟨q5, hq5, h⟩ := mz_bd_some h
    refine mz_Go.callV (I := IX11_quits) (J := IX2_lower) (as := [.inl x2, .inl x1, .inl (fJ9_min_7cf53 q2 q3)]) (ci := 2) (g := 1) (o := 113) (idx := 367) (pl := 1310) (rest := []) (mX2_lower 1 x2 x1 (fJ9_min_7cf53 q2 q3) q4 rfl q5 hq5) kX2_lower vX2_lower (by decide +kernel) (by decide +kernel) (by decide +kernel) rfl rfl ⟨rfl, rfl⟩ rfl rfl rfl rfl ?_
    refine mz_Go.run (gs := []) (st' := (71, [some (.inr (.inr (some (0, 0)))), some (.inl x1), some (.inl x2), some (.inl (fJ9_min_7cf53 q2 q3))], [.inl (fJ9_min_7cf53 q2 q3), .inr (.inr (some (0, 0)))], q5)) bX11_quits_69 oX11_quits_69 rfl trivial ?_
    refine mz_Go.callV (I := IX11_quits) (J := IX11_answer) (as := [.inl (fJ9_min_7cf53 q2 q3)]) (ci := 11) (g := 0) (o := 0) (idx := 160) (pl := 914) (rest := []) (mX11_answer (fJ9_min_7cf53 q2 q3) q5) kX11_answer vX11_answer (by decide +kernel) (by decide +kernel) (by decide +kernel) rfl rfl ⟨rfl, rfl⟩ rfl rfl rfl rfl ?_
    cases h
    exact mz_Go.reti (by decide +kernel) rfl ⟨Nat.le_refl _, Nat.le_refl _⟩ rfl
def bX11_settle_0 : List mz_E := [(0, .aload_n 0, 0, 0, 0, 0, 0), (1, .aload_n 0, 0, 0, 0, 0, 0), (2, .getfield 32, 11, 4, 563, 0, 0), (5, .getfield 349, 6, 2, 485, 0, 0), (8, .aload_n 0, 0, 0, 0, 0, 0), (9, .getfield 32, 11, 4, 563, 0, 0), (12, .getfield 151, 6, 0, 477, 0, 0), (15, .getfield 155, 4, 0, 290, 0, 0)]
theorem oX11_settle_0 : bX11_settle_0.all (mz_ok RX11 cX11_settle 1) = true := by decide +kernel
abbrev IX11_settle : mz_I := (yX11_settle, cX11_settle, 1, (some .int), 0, 3, 0, 0)
theorem kX11_settle : mz_okm IX11_settle 1320 126 1318 0 = true := by decide +kernel
theorem vX11_settle : mz_okV IX11_settle 1318 1319 = true := by decide +kernel
def fX11_settle (D : mz_D) : Option (Int32 × mz_D) := (Option.bind (fX2_fewestPayings 1 (D.1 1 101 0) D) fun q1 => (some (q1.1, (mz_wi q1.2 0 0 13 (0 : Int32)))))
set_option maxHeartbeats 4000000 in
theorem mX11_settle (D : mz_D) (r : (Int32 × mz_D)) (h : fX11_settle D = some r) : mz_Met IX11_settle [.inr (.inr (some (0, 0)))] D (some (.inl r.1), r.2) := by
  refine mz_Met.of (by decide +kernel) (Nat.le_of_ble_eq_true rfl) ?_
  show mz_Go IX11_settle (some (.inl r.1), r.2) 0 0 (0, [some (.inr (.inr (some (0, 0))))], [], D)
  rw [fX11_settle] at h
  refine mz_Go.run (gs := [mz_kz 0 0 0, mz_kz 0 1 100, mz_kz 0 0 0, mz_kz 0 1 100, mz_kz 0 1 101]) (st' := (18, [some (.inr (.inr (some (0, 0))))], [.inl (D.1 1 101 0), .inr (.inr (some (1, 113))), .inr (.inr (some (0, 0)))], D)) bX11_settle_0 oX11_settle_0 rfl ⟨rfl, rfl, rfl, rfl, rfl, trivial⟩ ?_
  obtain ⟨q1, hq1, h⟩ := mz_bd_some h
  refine mz_Go.callV (I := IX11_settle) (J := IX2_fewestPayings) (as := [.inl (D.1 1 101 0)]) (ci := 2) (g := 1) (o := 113) (idx := 370) (pl := 1321) (rest := [.inr (.inr (some (0, 0)))]) (mX2_fewestPayings 1 (D.1 1 101 0) D rfl q1 hq1) kX2_fewestPayings vX2_fewestPayings (by decide +kernel) (by decide +kernel) (by decide +kernel) rfl rfl ⟨rfl, rfl⟩ rfl rfl rfl rfl ?_
  refine mz_Go.callV (I := IX11_settle) (J := IX11_answer) (as := [.inl q1.1]) (ci := 11) (g := 0) (o := 0) (idx := 160) (pl := 914) (rest := []) (mX11_answer q1.1 q1.2) kX11_answer vX11_answer (by decide +kernel) (by decide +kernel) (by decide +kernel) rfl rfl ⟨rfl, rfl⟩ rfl rfl rfl rfl ?_
  cases h
  exact mz_Go.reti (by decide +kernel) rfl ⟨Nat.le_refl _, Nat.le_refl _⟩ rfl
def bX11_ties_0 : List mz_E := [(0, .aload_n 0, 0, 0, 0, 0, 0), (1, .aload_n 0, 0, 0, 0, 0, 0), (2, .getfield 32, 11, 4, 563, 0, 0), (5, .getfield 349, 6, 2, 485, 0, 0)]
theorem oX11_ties_0 : bX11_ties_0.all (mz_ok RX11 cX11_ties 1) = true := by decide +kernel
abbrev IX11_ties : mz_I := (yX11_ties, cX11_ties, 1, (some .int), 0, 2, 0, 0)
theorem kX11_ties : mz_okm IX11_ties 1334 126 1332 0 = true := by decide +kernel
theorem vX11_ties : mz_okV IX11_ties 1332 1333 = true := by decide +kernel
def fX11_ties (D : mz_D) : Option (Int32 × mz_D) := (Option.bind (fX2_countTies 1 D) fun q1 => (some (q1, (mz_wi D 0 0 13 (0 : Int32)))))
set_option maxHeartbeats 4000000 in
theorem mX11_ties (D : mz_D) (r : (Int32 × mz_D)) (h : fX11_ties D = some r) : mz_Met IX11_ties [.inr (.inr (some (0, 0)))] D (some (.inl r.1), r.2) := by
  refine mz_Met.of (by decide +kernel) (Nat.le_of_ble_eq_true rfl) ?_
  show mz_Go IX11_ties (some (.inl r.1), r.2) 0 0 (0, [some (.inr (.inr (some (0, 0))))], [], D)
  rw [fX11_ties] at h
  refine mz_Go.run (gs := [mz_kz 0 0 0, mz_kz 0 1 100]) (st' := (8, [some (.inr (.inr (some (0, 0))))], [.inr (.inr (some (1, 113))), .inr (.inr (some (0, 0)))], D)) bX11_ties_0 oX11_ties_0 rfl ⟨rfl, rfl, trivial⟩ ?_
  obtain ⟨q1, hq1, h⟩ := mz_bd_some h
  refine mz_Go.callV (I := IX11_ties) (J := IX2_countTies) (as := []) (ci := 2) (g := 1) (o := 113) (idx := 373) (pl := 1335) (rest := [.inr (.inr (some (0, 0)))]) (mX2_countTies 1 D rfl q1 hq1) kX2_countTies vX2_countTies (by decide +kernel) (by decide +kernel) (by decide +kernel) rfl rfl ⟨rfl, rfl⟩ rfl rfl rfl rfl ?_
  refine mz_Go.callV (I := IX11_ties) (J := IX11_answer) (as := [.inl q1]) (ci := 11) (g := 0) (o := 0) (idx := 160) (pl := 914) (rest := []) (mX11_answer q1 D) kX11_answer vX11_answer (by decide +kernel) (by decide +kernel) (by decide +kernel) rfl rfl ⟨rfl, rfl⟩ rfl rfl rfl rfl ?_
  cases h
  exact mz_Go.reti (by decide +kernel) rfl ⟨Nat.le_refl _, Nat.le_refl _⟩ rfl
def bX11_firstLeast_0 : List mz_E := [(0, .iload_n 1, 0, 0, 0, 0, 0), (1, .ifCond .le 7, 0, 8, 0, 0, 0)]
theorem oX11_firstLeast_0 : bX11_firstLeast_0.all (mz_ok RX11 cX11_firstLeast 4) = true := by decide +kernel
def bX11_firstLeast_8 : List mz_E := [(8, .iconst (-1), 0, 0, 0, -1, 0), (9, .istore_n 2, 0, 0, 0, 0, 0), (10, .iconst 1, 0, 0, 0, 1, 0), (11, .istore_n 3, 0, 0, 0, 0, 0)]
theorem oX11_firstLeast_8 : bX11_firstLeast_8.all (mz_ok RX11 cX11_firstLeast 4) = true := by decide +kernel
def bX11_firstLeast_12 : List mz_E := [(12, .iload_n 3, 0, 0, 0, 0, 0), (13, .iload_n 1, 0, 0, 0, 0, 0), (14, .if_icmp .ge 26, 0, 40, 0, 0, 0)]
theorem oX11_firstLeast_12 : bX11_firstLeast_12.all (mz_ok RX11 cX11_firstLeast 4) = true := by decide +kernel
def bX11_firstLeast_40 : List mz_E := [(40, .iload_n 2, 0, 0, 0, 0, 0)]
theorem oX11_firstLeast_40 : bX11_firstLeast_40.all (mz_ok RX11 cX11_firstLeast 4) = true := by decide +kernel
def bX11_firstLeast_17 : List mz_E := [(17, .iload_n 3, 0, 0, 0, 0, 0), (18, .aload_n 0, 0, 0, 0, 0, 0), (19, .arraylength, 0, 0, 0, 0, 0), (20, .if_icmp .ge 20, 0, 40, 0, 0, 0)]
theorem oX11_firstLeast_17 : bX11_firstLeast_17.all (mz_ok RX11 cX11_firstLeast 4) = true := by decide +kernel
def bX11_firstLeast_23 : List mz_E := [(23, .aload_n 0, 0, 0, 0, 0, 0), (24, .iload_n 3, 0, 0, 0, 0, 0), (25, .iaload, 0, 0, 0, 0, 0), (26, .aload_n 0, 0, 0, 0, 0, 0), (27, .iload_n 2, 0, 0, 0, 0, 0), (28, .iaload, 0, 0, 0, 0, 0), (29, .if_icmp .ge 5, 0, 34, 0, 0, 0)]
theorem oX11_firstLeast_23 : bX11_firstLeast_23.all (mz_ok RX11 cX11_firstLeast 4) = true := by decide +kernel
def bX11_firstLeast_34 : List mz_E := [(34, .iinc 3 1, 0, 0, 0, 1, 0), (37, .goto (-25), 0, 12, 0, 0, 0)]
theorem oX11_firstLeast_34 : bX11_firstLeast_34.all (mz_ok RX11 cX11_firstLeast 4) = true := by decide +kernel
def bX11_firstLeast_32 : List mz_E := [(32, .iload_n 3, 0, 0, 0, 0, 0), (33, .istore_n 2, 0, 0, 0, 0, 0), (34, .iinc 3 1, 0, 0, 0, 1, 0), (37, .goto (-25), 0, 12, 0, 0, 0)]
theorem oX11_firstLeast_32 : bX11_firstLeast_32.all (mz_ok RX11 cX11_firstLeast 4) = true := by decide +kernel
def bX11_firstLeast_4 : List mz_E := [(4, .iconst 0, 0, 0, 0, 0, 0), (5, .goto 4, 0, 9, 0, 0, 0), (9, .istore_n 2, 0, 0, 0, 0, 0), (10, .iconst 1, 0, 0, 0, 1, 0), (11, .istore_n 3, 0, 0, 0, 0, 0)]
theorem oX11_firstLeast_4 : bX11_firstLeast_4.all (mz_ok RX11 cX11_firstLeast 4) = true := by decide +kernel
abbrev IX11_firstLeast_115 : mz_I := (yX11_firstLeast, cX11_firstLeast, 4, (some .int), 0, 0, 0, 0)
theorem kX11_firstLeast_115 : mz_okm IX11_firstLeast_115 1346 126 1345 2 = true := by decide +kernel
theorem vX11_firstLeast_115 : mz_okS IX11_firstLeast_115 1345 = true := by decide +kernel
def fX11_firstLeast_115_12 (g0 : Nat) (D : mz_D) : Nat → Int32 → Int32 → Int32 → Option Int32
  | 0 => fun _ _ _ => none
  | n + 1 => fun x1 x2 x3 => (if x1 ≤ x3 then (some x2) else (if (Int32.ofNat 6) ≤ x3 then (some x2) else (mz_gd (mz_ix x3 6) (mz_gd (mz_ix x2 6) (if (D.1 g0 115 (x2).toNatClampNeg) ≤ (D.1 g0 115 (x3).toNatClampNeg) then ((fX11_firstLeast_115_12 g0 D n) x1 x2 (x3 + (1 : Int32))) else ((fX11_firstLeast_115_12 g0 D n) x1 x3 (x3 + (1 : Int32))))))))
set_option maxHeartbeats 4000000 in
theorem tX11_firstLeast_115_12 (g0 : Nat) (D : mz_D) (hg0 : mz_tb g0 = true) (r : Int32) : ∀ (n : Nat) (x1 : Int32) (x2 : Int32) (x3 : Int32), fX11_firstLeast_115_12 g0 D n x1 x2 x3 = some r → mz_Go IX11_firstLeast_115 (some (.inl r), D) 0 0 (12, [some (.inr (.inr (some (g0, 115)))), some (.inl x1), some (.inl x2), some (.inl x3)], [], D) := by
  intro n
  induction n with
  | zero => intro x1 x2 x3 h; have h : (none : Option Int32) = some r := h; cases h
  | succ n ih =>
    intro x1 x2 x3 h
    rw [fX11_firstLeast_115_12] at h
    refine mz_Go.run (gs := []) (st' := (if x1 ≤ x3 then (40, [some (.inr (.inr (some (g0, 115)))), some (.inl x1), some (.inl x2), some (.inl x3)], [], D) else (17, [some (.inr (.inr (some (g0, 115)))), some (.inl x1), some (.inl x2), some (.inl x3)], [], D))) bX11_firstLeast_12 oX11_firstLeast_12 rfl trivial ?_
    refine mz_Go.ite (fun hc1 => ?_) (fun hc1 => ?_)
    · have h := mz_ifp hc1 h
      refine mz_Go.run (gs := []) (st' := (41, [some (.inr (.inr (some (g0, 115)))), some (.inl x1), some (.inl x2), some (.inl x3)], [.inl x2], D)) bX11_firstLeast_40 oX11_firstLeast_40 rfl trivial ?_
      cases h
      exact mz_Go.reti (by decide +kernel) rfl ⟨Nat.le_refl _, Nat.le_refl _⟩ rfl
    · have h := mz_ifn hc1 h
      refine mz_Go.run (gs := [mz_kz 0 g0 115]) (st' := (if (Int32.ofNat 6) ≤ x3 then (40, [some (.inr (.inr (some (g0, 115)))), some (.inl x1), some (.inl x2), some (.inl x3)], [], D) else (23, [some (.inr (.inr (some (g0, 115)))), some (.inl x1), some (.inl x2), some (.inl x3)], [], D))) bX11_firstLeast_17 oX11_firstLeast_17 rfl ⟨hg0, trivial⟩ ?_
      refine mz_Go.ite (fun hc2 => ?_) (fun hc2 => ?_)
      · have h := mz_ifp hc2 h
        refine mz_Go.run (gs := []) (st' := (41, [some (.inr (.inr (some (g0, 115)))), some (.inl x1), some (.inl x2), some (.inl x3)], [.inl x2], D)) bX11_firstLeast_40 oX11_firstLeast_40 rfl trivial ?_
        cases h
        exact mz_Go.reti (by decide +kernel) rfl ⟨Nat.le_refl _, Nat.le_refl _⟩ rfl
      · have h := mz_ifn hc2 h
        obtain ⟨hb3, h⟩ := mz_gd_some h
        obtain ⟨hb4, h⟩ := mz_gd_some h
        refine mz_Go.run (gs := [mz_kz 0 g0 115, mz_ix x3 6, mz_kz 0 g0 115, mz_ix x2 6]) (st' := (if (D.1 g0 115 (x2).toNatClampNeg) ≤ (D.1 g0 115 (x3).toNatClampNeg) then (34, [some (.inr (.inr (some (g0, 115)))), some (.inl x1), some (.inl x2), some (.inl x3)], [], D) else (32, [some (.inr (.inr (some (g0, 115)))), some (.inl x1), some (.inl x2), some (.inl x3)], [], D))) bX11_firstLeast_23 oX11_firstLeast_23 rfl ⟨hg0, hb3, hg0, hb4, trivial⟩ ?_
        refine mz_Go.ite (fun hc5 => ?_) (fun hc5 => ?_)
        · have h := mz_ifp hc5 h
          refine mz_Go.run (gs := []) (st' := (12, [some (.inr (.inr (some (g0, 115)))), some (.inl x1), some (.inl x2), some (.inl (x3 + (1 : Int32)))], [], D)) bX11_firstLeast_34 oX11_firstLeast_34 rfl trivial ?_
          exact mz_Go.drop [true, true, true, true] (ih x1 x2 (x3 + (1 : Int32)) h)
        · have h := mz_ifn hc5 h
          refine mz_Go.run (gs := []) (st' := (12, [some (.inr (.inr (some (g0, 115)))), some (.inl x1), some (.inl x3), some (.inl (x3 + (1 : Int32)))], [], D)) bX11_firstLeast_32 oX11_firstLeast_32 rfl trivial ?_
          exact mz_Go.drop [true, true, true, true] (ih x1 x3 (x3 + (1 : Int32)) h)
def fX11_firstLeast_115 (g0 : Nat) (x1 : Int32) (D : mz_D) : Option Int32 := (if x1 ≤ 0 then (fX11_firstLeast_115_12 g0 D mz_N x1 (-1 : Int32) (1 : Int32)) else (fX11_firstLeast_115_12 g0 D mz_N x1 (0 : Int32) (1 : Int32)))
set_option maxHeartbeats 4000000 in
theorem mX11_firstLeast_115 (g0 : Nat) (x1 : Int32) (D : mz_D) (hg0 : mz_tb g0 = true) (r : Int32) (h : fX11_firstLeast_115 g0 x1 D = some r) : mz_Met IX11_firstLeast_115 [.inr (.inr (some (g0, 115))), .inl x1] D (some (.inl r), D) := by
  refine mz_Met.of (by decide +kernel) (Nat.le_of_ble_eq_true rfl) ?_
  show mz_Go IX11_firstLeast_115 (some (.inl r), D) 0 0 (0, [some (.inr (.inr (some (g0, 115)))), some (.inl x1), none, none], [], D)
  rw [fX11_firstLeast_115] at h
  refine mz_Go.run (gs := []) (st' := (if x1 ≤ 0 then (8, [some (.inr (.inr (some (g0, 115)))), some (.inl x1), none, none], [], D) else (4, [some (.inr (.inr (some (g0, 115)))), some (.inl x1), none, none], [], D))) bX11_firstLeast_0 oX11_firstLeast_0 rfl trivial ?_
  refine mz_Go.ite (fun hc1 => ?_) (fun hc1 => ?_)
  · have h := mz_ifp hc1 h
    refine mz_Go.run (gs := []) (st' := (12, [some (.inr (.inr (some (g0, 115)))), some (.inl x1), some (.inl (-1 : Int32)), some (.inl (1 : Int32))], [], D)) bX11_firstLeast_8 oX11_firstLeast_8 rfl trivial ?_
    exact mz_Go.drop [true, true, true, true] (tX11_firstLeast_115_12 g0 D hg0 r mz_N x1 (-1 : Int32) (1 : Int32) h)
  · have h := mz_ifn hc1 h
    refine mz_Go.run (gs := []) (st' := (12, [some (.inr (.inr (some (g0, 115)))), some (.inl x1), some (.inl (0 : Int32)), some (.inl (1 : Int32))], [], D)) bX11_firstLeast_4 oX11_firstLeast_4 rfl trivial ?_
    exact mz_Go.drop [true, true, true, true] (tX11_firstLeast_115_12 g0 D hg0 r mz_N x1 (0 : Int32) (1 : Int32) h)
abbrev IX11_firstGreatest_115 : mz_I := (yX11_firstGreatest, cX11_firstGreatest, 4, (some .int), 0, 0, 0, 0)
theorem kX11_firstGreatest_115 : mz_okm IX11_firstGreatest_115 1120 126 1119 2 = true := by decide +kernel
theorem vX11_firstGreatest_115 : mz_okS IX11_firstGreatest_115 1119 = true := by decide +kernel
def fX11_firstGreatest_115_12 (g0 : Nat) (D : mz_D) : Nat → Int32 → Int32 → Int32 → Option Int32
  | 0 => fun _ _ _ => none
  | n + 1 => fun x1 x2 x3 => (if x1 ≤ x3 then (some x2) else (if (Int32.ofNat 6) ≤ x3 then (some x2) else (mz_gd (mz_ix x3 6) (mz_gd (mz_ix x2 6) (if (D.1 g0 115 (x3).toNatClampNeg) ≤ (D.1 g0 115 (x2).toNatClampNeg) then ((fX11_firstGreatest_115_12 g0 D n) x1 x2 (x3 + (1 : Int32))) else ((fX11_firstGreatest_115_12 g0 D n) x1 x3 (x3 + (1 : Int32))))))))
set_option maxHeartbeats 4000000 in
theorem tX11_firstGreatest_115_12 (g0 : Nat) (D : mz_D) (hg0 : mz_tb g0 = true) (r : Int32) : ∀ (n : Nat) (x1 : Int32) (x2 : Int32) (x3 : Int32), fX11_firstGreatest_115_12 g0 D n x1 x2 x3 = some r → mz_Go IX11_firstGreatest_115 (some (.inl r), D) 0 0 (12, [some (.inr (.inr (some (g0, 115)))), some (.inl x1), some (.inl x2), some (.inl x3)], [], D) := by
  intro n
  induction n with
  | zero => intro x1 x2 x3 h; have h : (none : Option Int32) = some r := h; cases h
  | succ n ih =>
    intro x1 x2 x3 h
    rw [fX11_firstGreatest_115_12] at h
    refine mz_Go.run (gs := []) (st' := (if x1 ≤ x3 then (40, [some (.inr (.inr (some (g0, 115)))), some (.inl x1), some (.inl x2), some (.inl x3)], [], D) else (17, [some (.inr (.inr (some (g0, 115)))), some (.inl x1), some (.inl x2), some (.inl x3)], [], D))) bX11_firstGreatest_12 oX11_firstGreatest_12 rfl trivial ?_
    refine mz_Go.ite (fun hc1 => ?_) (fun hc1 => ?_)
    · have h := mz_ifp hc1 h
      refine mz_Go.run (gs := []) (st' := (41, [some (.inr (.inr (some (g0, 115)))), some (.inl x1), some (.inl x2), some (.inl x3)], [.inl x2], D)) bX11_firstGreatest_40 oX11_firstGreatest_40 rfl trivial ?_
      cases h
      exact mz_Go.reti (by decide +kernel) rfl ⟨Nat.le_refl _, Nat.le_refl _⟩ rfl
    · have h := mz_ifn hc1 h
      refine mz_Go.run (gs := [mz_kz 0 g0 115]) (st' := (if (Int32.ofNat 6) ≤ x3 then (40, [some (.inr (.inr (some (g0, 115)))), some (.inl x1), some (.inl x2), some (.inl x3)], [], D) else (23, [some (.inr (.inr (some (g0, 115)))), some (.inl x1), some (.inl x2), some (.inl x3)], [], D))) bX11_firstGreatest_17 oX11_firstGreatest_17 rfl ⟨hg0, trivial⟩ ?_
      refine mz_Go.ite (fun hc2 => ?_) (fun hc2 => ?_)
      · have h := mz_ifp hc2 h
        refine mz_Go.run (gs := []) (st' := (41, [some (.inr (.inr (some (g0, 115)))), some (.inl x1), some (.inl x2), some (.inl x3)], [.inl x2], D)) bX11_firstGreatest_40 oX11_firstGreatest_40 rfl trivial ?_
        cases h
        exact mz_Go.reti (by decide +kernel) rfl ⟨Nat.le_refl _, Nat.le_refl _⟩ rfl
      · have h := mz_ifn hc2 h
        obtain ⟨hb3, h⟩ := mz_gd_some h
        obtain ⟨hb4, h⟩ := mz_gd_some h
        refine mz_Go.run (gs := [mz_kz 0 g0 115, mz_ix x3 6, mz_kz 0 g0 115, mz_ix x2 6]) (st' := (if (D.1 g0 115 (x3).toNatClampNeg) ≤ (D.1 g0 115 (x2).toNatClampNeg) then (34, [some (.inr (.inr (some (g0, 115)))), some (.inl x1), some (.inl x2), some (.inl x3)], [], D) else (32, [some (.inr (.inr (some (g0, 115)))), some (.inl x1), some (.inl x2), some (.inl x3)], [], D))) bX11_firstGreatest_23 oX11_firstGreatest_23 rfl ⟨hg0, hb3, hg0, hb4, trivial⟩ ?_
        refine mz_Go.ite (fun hc5 => ?_) (fun hc5 => ?_)
        · have h := mz_ifp hc5 h
          refine mz_Go.run (gs := []) (st' := (12, [some (.inr (.inr (some (g0, 115)))), some (.inl x1), some (.inl x2), some (.inl (x3 + (1 : Int32)))], [], D)) bX11_firstGreatest_34 oX11_firstGreatest_34 rfl trivial ?_
          exact mz_Go.drop [true, true, true, true] (ih x1 x2 (x3 + (1 : Int32)) h)
        · have h := mz_ifn hc5 h
          refine mz_Go.run (gs := []) (st' := (12, [some (.inr (.inr (some (g0, 115)))), some (.inl x1), some (.inl x3), some (.inl (x3 + (1 : Int32)))], [], D)) bX11_firstGreatest_32 oX11_firstGreatest_32 rfl trivial ?_
          exact mz_Go.drop [true, true, true, true] (ih x1 x3 (x3 + (1 : Int32)) h)
def fX11_firstGreatest_115 (g0 : Nat) (x1 : Int32) (D : mz_D) : Option Int32 := (if x1 ≤ 0 then (fX11_firstGreatest_115_12 g0 D mz_N x1 (-1 : Int32) (1 : Int32)) else (fX11_firstGreatest_115_12 g0 D mz_N x1 (0 : Int32) (1 : Int32)))
set_option maxHeartbeats 4000000 in
theorem mX11_firstGreatest_115 (g0 : Nat) (x1 : Int32) (D : mz_D) (hg0 : mz_tb g0 = true) (r : Int32) (h : fX11_firstGreatest_115 g0 x1 D = some r) : mz_Met IX11_firstGreatest_115 [.inr (.inr (some (g0, 115))), .inl x1] D (some (.inl r), D) := by
  refine mz_Met.of (by decide +kernel) (Nat.le_of_ble_eq_true rfl) ?_
  show mz_Go IX11_firstGreatest_115 (some (.inl r), D) 0 0 (0, [some (.inr (.inr (some (g0, 115)))), some (.inl x1), none, none], [], D)
  rw [fX11_firstGreatest_115] at h
  refine mz_Go.run (gs := []) (st' := (if x1 ≤ 0 then (8, [some (.inr (.inr (some (g0, 115)))), some (.inl x1), none, none], [], D) else (4, [some (.inr (.inr (some (g0, 115)))), some (.inl x1), none, none], [], D))) bX11_firstGreatest_0 oX11_firstGreatest_0 rfl trivial ?_
  refine mz_Go.ite (fun hc1 => ?_) (fun hc1 => ?_)
  · have h := mz_ifp hc1 h
    refine mz_Go.run (gs := []) (st' := (12, [some (.inr (.inr (some (g0, 115)))), some (.inl x1), some (.inl (-1 : Int32)), some (.inl (1 : Int32))], [], D)) bX11_firstGreatest_8 oX11_firstGreatest_8 rfl trivial ?_
    exact mz_Go.drop [true, true, true, true] (tX11_firstGreatest_115_12 g0 D hg0 r mz_N x1 (-1 : Int32) (1 : Int32) h)
  · have h := mz_ifn hc1 h
    refine mz_Go.run (gs := []) (st' := (12, [some (.inr (.inr (some (g0, 115)))), some (.inl x1), some (.inl (0 : Int32)), some (.inl (1 : Int32))], [], D)) bX11_firstGreatest_4 oX11_firstGreatest_4 rfl trivial ?_
    exact mz_Go.drop [true, true, true, true] (tX11_firstGreatest_115_12 g0 D hg0 r mz_N x1 (0 : Int32) (1 : Int32) h)
def bX11_extreme_0 : List mz_E := [(0, .iload_n 1, 0, 0, 0, 0, 0), (1, .ifCond .lt 8, 0, 9, 0, 0, 0)]
theorem oX11_extreme_0 : bX11_extreme_0.all (mz_ok RX11 cX11_extreme 4) = true := by decide +kernel
def bX11_extreme_9 : List mz_E := [(9, .aload_n 0, 0, 0, 0, 0, 0), (10, .iconst 1, 0, 0, 0, 1, 0)]
theorem oX11_extreme_9 : bX11_extreme_9.all (mz_ok RX11 cX11_extreme 4) = true := by decide +kernel
def bX11_extreme_4 : List mz_E := [(4, .iload_n 1, 0, 0, 0, 0, 0), (5, .iconst 1, 0, 0, 0, 1, 0), (6, .if_icmp .le 9, 0, 15, 0, 0, 0)]
theorem oX11_extreme_4 : bX11_extreme_4.all (mz_ok RX11 cX11_extreme 4) = true := by decide +kernel
def bX11_extreme_15 : List mz_E := [(15, .aload_n 0, 0, 0, 0, 0, 0), (16, .getfield 32, 11, 4, 563, 0, 0), (19, .getfield 151, 6, 0, 477, 0, 0), (22, .getfield 155, 4, 0, 290, 0, 0), (25, .istore_n 2, 0, 0, 0, 0, 0), (26, .aload_n 0, 0, 0, 0, 0, 0), (27, .getfield 32, 11, 4, 563, 0, 0), (30, .getfield 349, 6, 2, 485, 0, 0)]
theorem oX11_extreme_15 : bX11_extreme_15.all (mz_ok RX11 cX11_extreme 4) = true := by decide +kernel
def bX11_extreme_36 : List mz_E := [(36, .astore_n 3, 0, 0, 0, 0, 0), (37, .aload_n 0, 0, 0, 0, 0, 0), (38, .iload_n 1, 0, 0, 0, 0, 0), (39, .ifCond .ne 11, 0, 50, 0, 0, 0)]
theorem oX11_extreme_36 : bX11_extreme_36.all (mz_ok RX11 cX11_extreme 4) = true := by decide +kernel
def bX11_extreme_42 : List mz_E := [(42, .aload_n 3, 0, 0, 0, 0, 0), (43, .iload_n 2, 0, 0, 0, 0, 0)]
theorem oX11_extreme_42 : bX11_extreme_42.all (mz_ok RX11 cX11_extreme 4) = true := by decide +kernel
def bX11_extreme_47 : List mz_E := [(47, .goto 8, 0, 55, 0, 0, 0)]
theorem oX11_extreme_47 : bX11_extreme_47.all (mz_ok RX11 cX11_extreme 4) = true := by decide +kernel
def bX11_extreme_50 : List mz_E := [(50, .aload_n 3, 0, 0, 0, 0, 0), (51, .iload_n 2, 0, 0, 0, 0, 0)]
theorem oX11_extreme_50 : bX11_extreme_50.all (mz_ok RX11 cX11_extreme 4) = true := by decide +kernel
abbrev IX11_extreme : mz_I := (yX11_extreme, cX11_extreme, 4, (some .int), 0, 2, 0, 0)
theorem kX11_extreme : mz_okm IX11_extreme 1342 126 1340 1 = true := by decide +kernel
theorem vX11_extreme : mz_okV IX11_extreme 1340 1341 = true := by decide +kernel
def fX11_extreme_55 (s0 : Int32) (D : mz_D) : Option (Int32 × mz_D) := (Option.bind (fX11_answerIfAny s0 D) fun q1 => (some (q1.1, q1.2)))
set_option maxHeartbeats 4000000 in
theorem tX11_extreme_55 (r : (Int32 × mz_D)) : ∀ (s0 : Int32) (D : mz_D), fX11_extreme_55 s0 D = some r → mz_Go IX11_extreme (some (.inl r.1), r.2) 0 0 (55, [none, none, none, none], [.inl s0, .inr (.inr (some (0, 0)))], D) := by
  intro s0 D h
  rw [fX11_extreme_55] at h
  obtain ⟨q1, hq1, h⟩ := mz_bd_some h
  refine mz_Go.callV (I := IX11_extreme) (J := IX11_answerIfAny) (as := [.inl s0]) (ci := 11) (g := 0) (o := 0) (idx := 245) (pl := 1046) (rest := []) (mX11_answerIfAny s0 D q1 hq1) kX11_answerIfAny vX11_answerIfAny (by decide +kernel) (by decide +kernel) (by decide +kernel) rfl rfl ⟨rfl, rfl⟩ rfl rfl rfl rfl ?_
  cases h
  exact mz_Go.reti (by decide +kernel) rfl ⟨Nat.le_refl _, Nat.le_refl _⟩ rfl
def fX11_extreme (x1 : Int32) (D : mz_D) : Option (Int32 × mz_D) := (if x1 < 0 then (some ((-1 : Int32), (mz_wi D 0 0 13 (1 : Int32)))) else (if x1 ≤ (1 : Int32) then (Option.bind (fX2_weigh 1 D) fun q3 => (if x1 = 0 then (Option.bind (fX11_firstLeast_115 1 (D.1 1 101 0) q3) fun q5 => (fX11_extreme_55 q5 q3)) else (Option.bind (fX11_firstGreatest_115 1 (D.1 1 101 0) q3) fun q6 => (fX11_extreme_55 q6 q3)))) else (some ((-1 : Int32), (mz_wi D 0 0 13 (1 : Int32))))))
set_option maxHeartbeats 4000000 in
theorem mX11_extreme (x1 : Int32) (D : mz_D) (r : (Int32 × mz_D)) (h : fX11_extreme x1 D = some r) : mz_Met IX11_extreme [.inr (.inr (some (0, 0))), .inl x1] D (some (.inl r.1), r.2) := by
  refine mz_Met.of (by decide +kernel) (Nat.le_of_ble_eq_true rfl) ?_
  show mz_Go IX11_extreme (some (.inl r.1), r.2) 0 0 (0, [some (.inr (.inr (some (0, 0)))), some (.inl x1), none, none], [], D)
  rw [fX11_extreme] at h
  refine mz_Go.run (gs := []) (st' := (if x1 < 0 then (9, [some (.inr (.inr (some (0, 0)))), some (.inl x1), none, none], [], D) else (4, [some (.inr (.inr (some (0, 0)))), some (.inl x1), none, none], [], D))) bX11_extreme_0 oX11_extreme_0 rfl trivial ?_
  refine mz_Go.ite (fun hc1 => ?_) (fun hc1 => ?_)
  · have h := mz_ifp hc1 h
    refine mz_Go.run (gs := []) (st' := (11, [some (.inr (.inr (some (0, 0)))), some (.inl x1), none, none], [.inl (1 : Int32), .inr (.inr (some (0, 0)))], D)) bX11_extreme_9 oX11_extreme_9 rfl trivial ?_
    refine mz_Go.callV (I := IX11_extreme) (J := IX11_refuse) (as := [.inl (1 : Int32)]) (ci := 11) (g := 0) (o := 0) (idx := 100) (pl := 673) (rest := []) (mX11_refuse (1 : Int32) D) kX11_refuse vX11_refuse (by decide +kernel) (by decide +kernel) (by decide +kernel) rfl rfl ⟨rfl, rfl⟩ rfl rfl rfl rfl ?_
    cases h
    exact mz_Go.reti (by decide +kernel) rfl ⟨Nat.le_refl _, Nat.le_refl _⟩ rfl
  · have h := mz_ifn hc1 h
    refine mz_Go.run (gs := []) (st' := (if x1 ≤ (1 : Int32) then (15, [some (.inr (.inr (some (0, 0)))), some (.inl x1), none, none], [], D) else (9, [some (.inr (.inr (some (0, 0)))), some (.inl x1), none, none], [], D))) bX11_extreme_4 oX11_extreme_4 rfl trivial ?_
    refine mz_Go.ite (fun hc2 => ?_) (fun hc2 => ?_)
    · have h := mz_ifp hc2 h
      refine mz_Go.run (gs := [mz_kz 0 0 0, mz_kz 0 1 100, mz_kz 0 1 101, mz_kz 0 0 0, mz_kz 0 1 100]) (st' := (33, [some (.inr (.inr (some (0, 0)))), some (.inl x1), some (.inl (D.1 1 101 0)), none], [.inr (.inr (some (1, 113)))], D)) bX11_extreme_15 oX11_extreme_15 rfl ⟨rfl, rfl, rfl, rfl, rfl, trivial⟩ ?_
      obtain ⟨q3, hq3, h⟩ := mz_bd_some h
      refine mz_Go.callV (I := IX11_extreme) (J := IX2_weigh) (as := []) (ci := 2) (g := 1) (o := 113) (idx := 376) (pl := 1343) (rest := []) (mX2_weigh 1 D rfl q3 hq3) kX2_weigh vX2_weigh (by decide +kernel) (by decide +kernel) (by decide +kernel) rfl rfl ⟨rfl, rfl⟩ rfl rfl rfl rfl ?_
      refine mz_Go.run (gs := []) (st' := (if x1 = 0 then (42, [some (.inr (.inr (some (0, 0)))), some (.inl x1), some (.inl (D.1 1 101 0)), some (.inr (.inr (some (1, 115))))], [.inr (.inr (some (0, 0)))], q3) else (50, [some (.inr (.inr (some (0, 0)))), some (.inl x1), some (.inl (D.1 1 101 0)), some (.inr (.inr (some (1, 115))))], [.inr (.inr (some (0, 0)))], q3))) bX11_extreme_36 oX11_extreme_36 rfl trivial ?_
      refine mz_Go.ite (fun hc4 => ?_) (fun hc4 => ?_)
      · have h := mz_ifp hc4 h
        refine mz_Go.run (gs := []) (st' := (44, [some (.inr (.inr (some (0, 0)))), some (.inl x1), some (.inl (D.1 1 101 0)), some (.inr (.inr (some (1, 115))))], [.inl (D.1 1 101 0), .inr (.inr (some (1, 115))), .inr (.inr (some (0, 0)))], q3)) bX11_extreme_42 oX11_extreme_42 rfl trivial ?_
        obtain ⟨q5, hq5, h⟩ := mz_bd_some h
        refine mz_Go.callS (I := IX11_extreme) (J := IX11_firstLeast_115) (as := [.inr (.inr (some (1, 115))), .inl (D.1 1 101 0)]) (idx := 380) (pl := 1344) (rest := [.inr (.inr (some (0, 0)))]) (mX11_firstLeast_115 1 (D.1 1 101 0) q3 rfl q5 hq5) kX11_firstLeast_115 vX11_firstLeast_115 (by decide +kernel) (by decide +kernel) (by decide +kernel) rfl rfl ⟨rfl, rfl⟩ rfl ?_
        refine mz_Go.run (gs := []) (st' := (55, [some (.inr (.inr (some (0, 0)))), some (.inl x1), some (.inl (D.1 1 101 0)), some (.inr (.inr (some (1, 115))))], [.inl q5, .inr (.inr (some (0, 0)))], q3)) bX11_extreme_47 oX11_extreme_47 rfl trivial ?_
        exact mz_Go.drop [false, false, false, false] (tX11_extreme_55 r q5 q3 h)
      · have h := mz_ifn hc4 h
        refine mz_Go.run (gs := []) (st' := (52, [some (.inr (.inr (some (0, 0)))), some (.inl x1), some (.inl (D.1 1 101 0)), some (.inr (.inr (some (1, 115))))], [.inl (D.1 1 101 0), .inr (.inr (some (1, 115))), .inr (.inr (some (0, 0)))], q3)) bX11_extreme_50 oX11_extreme_50 rfl trivial ?_
        obtain ⟨q6, hq6, h⟩ := mz_bd_some h
        refine mz_Go.callS (I := IX11_extreme) (J := IX11_firstGreatest_115) (as := [.inr (.inr (some (1, 115))), .inl (D.1 1 101 0)]) (idx := 271) (pl := 1118) (rest := [.inr (.inr (some (0, 0)))]) (mX11_firstGreatest_115 1 (D.1 1 101 0) q3 rfl q6 hq6) kX11_firstGreatest_115 vX11_firstGreatest_115 (by decide +kernel) (by decide +kernel) (by decide +kernel) rfl rfl ⟨rfl, rfl⟩ rfl ?_
        exact mz_Go.drop [false, false, false, false] (tX11_extreme_55 r q6 q3 h)
    · have h := mz_ifn hc2 h
      refine mz_Go.run (gs := []) (st' := (11, [some (.inr (.inr (some (0, 0)))), some (.inl x1), none, none], [.inl (1 : Int32), .inr (.inr (some (0, 0)))], D)) bX11_extreme_9 oX11_extreme_9 rfl trivial ?_
      refine mz_Go.callV (I := IX11_extreme) (J := IX11_refuse) (as := [.inl (1 : Int32)]) (ci := 11) (g := 0) (o := 0) (idx := 100) (pl := 673) (rest := []) (mX11_refuse (1 : Int32) D) kX11_refuse vX11_refuse (by decide +kernel) (by decide +kernel) (by decide +kernel) rfl rfl ⟨rfl, rfl⟩ rfl rfl rfl rfl ?_
      cases h
      exact mz_Go.reti (by decide +kernel) rfl ⟨Nat.le_refl _, Nat.le_refl _⟩ rfl
def bX2_settles_0 : List mz_E := [(0, .aload_n 0, 0, 0, 0, 0, 0)]
theorem oX2_settles_0 : bX2_settles_0.all (mz_ok RX2 cX2_settles 7) = true := by decide +kernel
def bX2_settles_4 : List mz_E := [(4, .iconst 0, 0, 0, 0, 0, 0), (5, .istore_n 3, 0, 0, 0, 0, 0)]
theorem oX2_settles_4 : bX2_settles_4.all (mz_ok RX2 cX2_settles 7) = true := by decide +kernel
def bX2_settles_6 : List mz_E := [(6, .iload_n 3, 0, 0, 0, 0, 0), (7, .bipush 6, 0, 0, 0, 6, 0), (9, .if_icmp .ge 95, 0, 104, 0, 0, 0)]
theorem oX2_settles_6 : bX2_settles_6.all (mz_ok RX2 cX2_settles 7) = true := by decide +kernel
def bX2_settles_104 : List mz_E := [(104, .iconst 1, 0, 0, 0, 1, 0)]
theorem oX2_settles_104 : bX2_settles_104.all (mz_ok RX2 cX2_settles 7) = true := by decide +kernel
def bX2_settles_12 : List mz_E := [(12, .aload_n 1, 0, 0, 0, 0, 0), (13, .iload_n 2, 0, 0, 0, 0, 0)]
theorem oX2_settles_12 : bX2_settles_12.all (mz_ok RX2 cX2_settles 7) = true := by decide +kernel
def bX2_settles_17 : List mz_E := [(17, .istore 4, 0, 0, 0, 0, 0), (19, .aload_n 1, 0, 0, 0, 0, 0), (20, .iload_n 2, 0, 0, 0, 0, 0)]
theorem oX2_settles_17 : bX2_settles_17.all (mz_ok RX2 cX2_settles 7) = true := by decide +kernel
def bX2_settles_24 : List mz_E := [(24, .istore 5, 0, 0, 0, 0, 0), (26, .iload 4, 0, 0, 0, 0, 0), (28, .iconst (-1), 0, 0, 0, -1, 0), (29, .if_icmp .eq 16, 0, 45, 0, 0, 0)]
theorem oX2_settles_24 : bX2_settles_24.all (mz_ok RX2 cX2_settles 7) = true := by decide +kernel
def bX2_settles_45 : List mz_E := [(45, .iconst 1, 0, 0, 0, 1, 0)]
theorem oX2_settles_45 : bX2_settles_45.all (mz_ok RX2 cX2_settles 7) = true := by decide +kernel
def bX2_settles_32 : List mz_E := [(32, .iload 5, 0, 0, 0, 0, 0), (34, .iconst (-1), 0, 0, 0, -1, 0), (35, .if_icmp .eq 10, 0, 45, 0, 0, 0)]
theorem oX2_settles_32 : bX2_settles_32.all (mz_ok RX2 cX2_settles 7) = true := by decide +kernel
def bX2_settles_38 : List mz_E := [(38, .aload_n 1, 0, 0, 0, 0, 0), (39, .iload 5, 0, 0, 0, 0, 0), (41, .iaload, 0, 0, 0, 0, 0), (42, .ifCond .gt 5, 0, 47, 0, 0, 0)]
theorem oX2_settles_38 : bX2_settles_38.all (mz_ok RX2 cX2_settles 7) = true := by decide +kernel
def bX2_settles_47 : List mz_E := [(47, .aload_n 1, 0, 0, 0, 0, 0), (48, .iload 4, 0, 0, 0, 0, 0), (50, .iaload, 0, 0, 0, 0, 0), (51, .ineg, 0, 0, 0, 0, 0), (52, .aload_n 1, 0, 0, 0, 0, 0), (53, .iload 5, 0, 0, 0, 0, 0), (55, .iaload, 0, 0, 0, 0, 0)]
theorem oX2_settles_47 : bX2_settles_47.all (mz_ok RX2 cX2_settles 7) = true := by decide +kernel
def bX2_settles_59 : List mz_E := [(59, .istore 6, 0, 0, 0, 0, 0), (61, .iload 6, 0, 0, 0, 0, 0), (63, .ldc 31, 0, 0, 1177, 999999, 0), (65, .if_icmp .le 5, 0, 70, 0, 0, 0)]
theorem oX2_settles_59 : bX2_settles_59.all (mz_ok RX2 cX2_settles 7) = true := by decide +kernel
def bX2_settles_70 : List mz_E := [(70, .aload_n 0, 0, 0, 0, 0, 0), (71, .iload 4, 0, 0, 0, 0, 0), (73, .iload 5, 0, 0, 0, 0, 0), (75, .iload 6, 0, 0, 0, 0, 0)]
theorem oX2_settles_70 : bX2_settles_70.all (mz_ok RX2 cX2_settles 7) = true := by decide +kernel
def bX2_settles_80 : List mz_E := [(80, .aload_n 1, 0, 0, 0, 0, 0), (81, .iload 4, 0, 0, 0, 0, 0), (83, .dup2, 0, 0, 0, 0, 0), (84, .iaload, 0, 0, 0, 0, 0), (85, .iload 6, 0, 0, 0, 0, 0), (87, .iadd, 0, 0, 0, 0, 0), (88, .iastore, 0, 0, 0, 0, 0), (89, .aload_n 1, 0, 0, 0, 0, 0), (90, .iload 5, 0, 0, 0, 0, 0), (92, .dup2, 0, 0, 0, 0, 0), (93, .iaload, 0, 0, 0, 0, 0), (94, .iload 6, 0, 0, 0, 0, 0), (96, .isub, 0, 0, 0, 0, 0), (97, .iastore, 0, 0, 0, 0, 0), (98, .iinc 3 1, 0, 0, 0, 1, 0), (101, .goto (-95), 0, 6, 0, 0, 0)]
theorem oX2_settles_80 : bX2_settles_80.all (mz_ok RX2 cX2_settles 7) = true := by decide +kernel
def bX2_settles_68 : List mz_E := [(68, .iconst 0, 0, 0, 0, 0, 0)]
theorem oX2_settles_68 : bX2_settles_68.all (mz_ok RX2 cX2_settles 7) = true := by decide +kernel
abbrev IX2_settles_115 : mz_I := (yX2_settles, cX2_settles, 7, (some .boolean), 0, 2, 0, 0)
theorem kX2_settles_115 : mz_okm IX2_settles_115 1354 137 1352 2 = true := by decide +kernel
theorem vX2_settles_115 : mz_okV IX2_settles_115 1352 1353 = true := by decide +kernel
def fX2_settles_115_6 (g0 : Nat) (g1 : Nat) : Nat → Int32 → Int32 → mz_D → Option (Int32 × mz_D)
  | 0 => fun _ _ _ => none
  | n + 1 => fun x2 x3 D => (if (6 : Int32) ≤ x3 then (some ((1 : Int32), D)) else (Option.bind (fX11_firstLeast_115 g1 x2 D) fun q2 => (Option.bind (fX11_firstGreatest_115 g1 x2 D) fun q3 => (if q2 = (-1 : Int32) then (some ((1 : Int32), D)) else (if q3 = (-1 : Int32) then (some ((1 : Int32), D)) else (mz_gd (mz_ix q3 6) (if 0 < (D.1 g1 115 (q3).toNatClampNeg) then (mz_gd (mz_ix q2 6) (if (fJ9_min_7cf53 (-(D.1 g1 115 (q2).toNatClampNeg)) (D.1 g1 115 (q3).toNatClampNeg)) ≤ (999999 : Int32) then (Option.bind (fX2_put g0 q2 q3 (fJ9_min_7cf53 (-(D.1 g1 115 (q2).toNatClampNeg)) (D.1 g1 115 (q3).toNatClampNeg)) D) fun q10 => ((fX2_settles_115_6 g0 g1 n) x2 (x3 + (1 : Int32)) (mz_wi (mz_wi q10 g1 115 (q2).toNatClampNeg ((q10.1 g1 115 (q2).toNatClampNeg) + (fJ9_min_7cf53 (-(D.1 g1 115 (q2).toNatClampNeg)) (D.1 g1 115 (q3).toNatClampNeg)))) g1 115 (q3).toNatClampNeg (((mz_wi q10 g1 115 (q2).toNatClampNeg ((q10.1 g1 115 (q2).toNatClampNeg) + (fJ9_min_7cf53 (-(D.1 g1 115 (q2).toNatClampNeg)) (D.1 g1 115 (q3).toNatClampNeg)))).1 g1 115 (q3).toNatClampNeg) - (fJ9_min_7cf53 (-(D.1 g1 115 (q2).toNatClampNeg)) (D.1 g1 115 (q3).toNatClampNeg)))))) else (some ((0 : Int32), D)))) else (some ((1 : Int32), D)))))))))
set_option maxHeartbeats 4000000 in
theorem tX2_settles_115_6 (g0 : Nat) (g1 : Nat) (hg0 : mz_tb g0 = true) (hg1 : mz_tb g1 = true) (r : (Int32 × mz_D)) : ∀ (n : Nat) (x2 : Int32) (x3 : Int32) (D : mz_D), fX2_settles_115_6 g0 g1 n x2 x3 D = some r → mz_Go IX2_settles_115 (some (.inl r.1), r.2) 0 0 (6, [some (.inr (.inr (some (g0, 113)))), some (.inr (.inr (some (g1, 115)))), some (.inl x2), some (.inl x3), none, none, none], [], D) := by
  intro n
  induction n with
  | zero => intro x2 x3 D h; have h : (none : Option (Int32 × mz_D)) = some r := h; cases h
  | succ n ih =>
    intro x2 x3 D h
    rw [fX2_settles_115_6] at h
    refine mz_Go.run (gs := []) (st' := (if (6 : Int32) ≤ x3 then (104, [some (.inr (.inr (some (g0, 113)))), some (.inr (.inr (some (g1, 115)))), some (.inl x2), some (.inl x3), none, none, none], [], D) else (12, [some (.inr (.inr (some (g0, 113)))), some (.inr (.inr (some (g1, 115)))), some (.inl x2), some (.inl x3), none, none, none], [], D))) bX2_settles_6 oX2_settles_6 rfl trivial ?_
    refine mz_Go.ite (fun hc1 => ?_) (fun hc1 => ?_)
    · have h := mz_ifp hc1 h
      refine mz_Go.run (gs := []) (st' := (105, [some (.inr (.inr (some (g0, 113)))), some (.inr (.inr (some (g1, 115)))), some (.inl x2), some (.inl x3), none, none, none], [.inl (1 : Int32)], D)) bX2_settles_104 oX2_settles_104 rfl trivial ?_
      cases h
      exact mz_Go.retz (by decide +kernel) rfl ⟨Nat.le_refl _, Nat.le_refl _⟩ (by decide) rfl
    · have h := mz_ifn hc1 h
      refine mz_Go.run (gs := []) (st' := (14, [some (.inr (.inr (some (g0, 113)))), some (.inr (.inr (some (g1, 115)))), some (.inl x2), some (.inl x3), none, none, none], [.inl x2, .inr (.inr (some (g1, 115)))], D)) bX2_settles_12 oX2_settles_12 rfl trivial ?_
      obtain ⟨q2, hq2, h⟩ := mz_bd_some h
      refine mz_Go.callSN (I := IX2_settles_115) (J := IX11_firstLeast_115) (as := [.inr (.inr (some (g1, 115))), .inl x2]) (idx := 64) (pl := 1356) (rest := []) (mX11_firstLeast_115 g1 x2 D hg1 q2 hq2) kX11_firstLeast_115 vX11_firstLeast_115 (by decide +kernel) (by decide +kernel) (by decide +kernel) rfl rfl ⟨rfl, rfl⟩ rfl ?_
      refine mz_Go.run (gs := []) (st' := (21, [some (.inr (.inr (some (g0, 113)))), some (.inr (.inr (some (g1, 115)))), some (.inl x2), some (.inl x3), some (.inl q2), none, none], [.inl x2, .inr (.inr (some (g1, 115)))], D)) bX2_settles_17 oX2_settles_17 rfl trivial ?_
      obtain ⟨q3, hq3, h⟩ := mz_bd_some h
      refine mz_Go.callSN (I := IX2_settles_115) (J := IX11_firstGreatest_115) (as := [.inr (.inr (some (g1, 115))), .inl x2]) (idx := 68) (pl := 1357) (rest := []) (mX11_firstGreatest_115 g1 x2 D hg1 q3 hq3) kX11_firstGreatest_115 vX11_firstGreatest_115 (by decide +kernel) (by decide +kernel) (by decide +kernel) rfl rfl ⟨rfl, rfl⟩ rfl ?_
      refine mz_Go.run (gs := []) (st' := (if q2 = (-1 : Int32) then (45, [some (.inr (.inr (some (g0, 113)))), some (.inr (.inr (some (g1, 115)))), some (.inl x2), some (.inl x3), some (.inl q2), some (.inl q3), none], [], D) else (32, [some (.inr (.inr (some (g0, 113)))), some (.inr (.inr (some (g1, 115)))), some (.inl x2), some (.inl x3), some (.inl q2), some (.inl q3), none], [], D))) bX2_settles_24 oX2_settles_24 rfl trivial ?_
      refine mz_Go.ite (fun hc4 => ?_) (fun hc4 => ?_)
      · have h := mz_ifp hc4 h
        refine mz_Go.run (gs := []) (st' := (46, [some (.inr (.inr (some (g0, 113)))), some (.inr (.inr (some (g1, 115)))), some (.inl x2), some (.inl x3), some (.inl q2), some (.inl q3), none], [.inl (1 : Int32)], D)) bX2_settles_45 oX2_settles_45 rfl trivial ?_
        cases h
        exact mz_Go.retz (by decide +kernel) rfl ⟨Nat.le_refl _, Nat.le_refl _⟩ (by decide) rfl
      · have h := mz_ifn hc4 h
        refine mz_Go.run (gs := []) (st' := (if q3 = (-1 : Int32) then (45, [some (.inr (.inr (some (g0, 113)))), some (.inr (.inr (some (g1, 115)))), some (.inl x2), some (.inl x3), some (.inl q2), some (.inl q3), none], [], D) else (38, [some (.inr (.inr (some (g0, 113)))), some (.inr (.inr (some (g1, 115)))), some (.inl x2), some (.inl x3), some (.inl q2), some (.inl q3), none], [], D))) bX2_settles_32 oX2_settles_32 rfl trivial ?_
        refine mz_Go.ite (fun hc5 => ?_) (fun hc5 => ?_)
        · have h := mz_ifp hc5 h
          refine mz_Go.run (gs := []) (st' := (46, [some (.inr (.inr (some (g0, 113)))), some (.inr (.inr (some (g1, 115)))), some (.inl x2), some (.inl x3), some (.inl q2), some (.inl q3), none], [.inl (1 : Int32)], D)) bX2_settles_45 oX2_settles_45 rfl trivial ?_
          cases h
          exact mz_Go.retz (by decide +kernel) rfl ⟨Nat.le_refl _, Nat.le_refl _⟩ (by decide) rfl
        · have h := mz_ifn hc5 h
          obtain ⟨hb6, h⟩ := mz_gd_some h
          refine mz_Go.run (gs := [mz_kz 0 g1 115, mz_ix q3 6]) (st' := (if 0 < (D.1 g1 115 (q3).toNatClampNeg) then (47, [some (.inr (.inr (some (g0, 113)))), some (.inr (.inr (some (g1, 115)))), some (.inl x2), some (.inl x3), some (.inl q2), some (.inl q3), none], [], D) else (45, [some (.inr (.inr (some (g0, 113)))), some (.inr (.inr (some (g1, 115)))), some (.inl x2), some (.inl x3), some (.inl q2), some (.inl q3), none], [], D))) bX2_settles_38 oX2_settles_38 rfl ⟨hg1, hb6, trivial⟩ ?_
          refine mz_Go.ite (fun hc7 => ?_) (fun hc7 => ?_)
          · have h := mz_ifp hc7 h
            obtain ⟨hb8, h⟩ := mz_gd_some h
            refine mz_Go.run (gs := [mz_kz 0 g1 115, mz_ix q2 6, mz_kz 0 g1 115, mz_ix q3 6]) (st' := (56, [some (.inr (.inr (some (g0, 113)))), some (.inr (.inr (some (g1, 115)))), some (.inl x2), some (.inl x3), some (.inl q2), some (.inl q3), none], [.inl (D.1 g1 115 (q3).toNatClampNeg), .inl (-(D.1 g1 115 (q2).toNatClampNeg))], D)) bX2_settles_47 oX2_settles_47 rfl ⟨hg1, hb8, hg1, hb6, trivial⟩ ?_
            refine mz_Go.callS (I := IX2_settles_115) (J := IJ9_min_7cf53) (as := [.inl (-(D.1 g1 115 (q2).toNatClampNeg)), .inl (D.1 g1 115 (q3).toNatClampNeg)]) (idx := 71) (pl := 1358) (rest := []) (mJ9_min_7cf53 (-(D.1 g1 115 (q2).toNatClampNeg)) (D.1 g1 115 (q3).toNatClampNeg) D _ rfl) kJ9_min_7cf53 vJ9_min_7cf53 (by decide +kernel) (by decide +kernel) (by decide +kernel) rfl rfl ⟨rfl, rfl⟩ rfl ?_
            refine mz_Go.run (gs := []) (st' := (if (fJ9_min_7cf53 (-(D.1 g1 115 (q2).toNatClampNeg)) (D.1 g1 115 (q3).toNatClampNeg)) ≤ (999999 : Int32) then (70, [some (.inr (.inr (some (g0, 113)))), some (.inr (.inr (some (g1, 115)))), some (.inl x2), some (.inl x3), some (.inl q2), some (.inl q3), some (.inl (fJ9_min_7cf53 (-(D.1 g1 115 (q2).toNatClampNeg)) (D.1 g1 115 (q3).toNatClampNeg)))], [], D) else (68, [some (.inr (.inr (some (g0, 113)))), some (.inr (.inr (some (g1, 115)))), some (.inl x2), some (.inl x3), some (.inl q2), some (.inl q3), some (.inl (fJ9_min_7cf53 (-(D.1 g1 115 (q2).toNatClampNeg)) (D.1 g1 115 (q3).toNatClampNeg)))], [], D))) bX2_settles_59 oX2_settles_59 rfl trivial ?_
            refine mz_Go.ite (fun hc9 => ?_) (fun hc9 => ?_)
            · have h := mz_ifp hc9 h
              refine mz_Go.run (gs := []) (st' := (77, [some (.inr (.inr (some (g0, 113)))), some (.inr (.inr (some (g1, 115)))), some (.inl x2), some (.inl x3), some (.inl q2), some (.inl q3), some (.inl (fJ9_min_7cf53 (-(D.1 g1 115 (q2).toNatClampNeg)) (D.1 g1 115 (q3).toNatClampNeg)))], [.inl (fJ9_min_7cf53 (-(D.1 g1 115 (q2).toNatClampNeg)) (D.1 g1 115 (q3).toNatClampNeg)), .inl q3, .inl q2, .inr (.inr (some (g0, 113)))], D)) bX2_settles_70 oX2_settles_70 rfl trivial ?_
              obtain ⟨q10, hq10, h⟩ := mz_bd_some h
              refine mz_Go.callV (I := IX2_settles_115) (J := IX2_put) (as := [.inl q2, .inl q3, .inl (fJ9_min_7cf53 (-(D.1 g1 115 (q2).toNatClampNeg)) (D.1 g1 115 (q3).toNatClampNeg))]) (ci := 2) (g := g0) (o := 113) (idx := 40) (pl := 1187) (rest := []) (mX2_put g0 q2 q3 (fJ9_min_7cf53 (-(D.1 g1 115 (q2).toNatClampNeg)) (D.1 g1 115 (q3).toNatClampNeg)) D hg0 q10 hq10) kX2_put vX2_put (by decide +kernel) (by decide +kernel) (by decide +kernel) rfl rfl ⟨rfl, rfl⟩ rfl rfl hg0 rfl ?_
              refine mz_Go.run (gs := [mz_kz 0 g1 115, mz_ix q2 6, mz_kz 0 g1 115, mz_ix q2 6, mz_kz 0 g1 115, mz_ix q3 6, mz_kz 0 g1 115, mz_ix q3 6]) (st' := (6, [some (.inr (.inr (some (g0, 113)))), some (.inr (.inr (some (g1, 115)))), some (.inl x2), some (.inl (x3 + (1 : Int32))), some (.inl q2), some (.inl q3), some (.inl (fJ9_min_7cf53 (-(D.1 g1 115 (q2).toNatClampNeg)) (D.1 g1 115 (q3).toNatClampNeg)))], [], (mz_wi (mz_wi q10 g1 115 (q2).toNatClampNeg ((q10.1 g1 115 (q2).toNatClampNeg) + (fJ9_min_7cf53 (-(D.1 g1 115 (q2).toNatClampNeg)) (D.1 g1 115 (q3).toNatClampNeg)))) g1 115 (q3).toNatClampNeg (((mz_wi q10 g1 115 (q2).toNatClampNeg ((q10.1 g1 115 (q2).toNatClampNeg) + (fJ9_min_7cf53 (-(D.1 g1 115 (q2).toNatClampNeg)) (D.1 g1 115 (q3).toNatClampNeg)))).1 g1 115 (q3).toNatClampNeg) - (fJ9_min_7cf53 (-(D.1 g1 115 (q2).toNatClampNeg)) (D.1 g1 115 (q3).toNatClampNeg)))))) bX2_settles_80 oX2_settles_80 rfl ⟨hg1, hb8, hg1, hb8, hg1, hb6, hg1, hb6, trivial⟩ ?_
              exact mz_Go.drop [true, true, true, true, false, false, false] (ih x2 (x3 + (1 : Int32)) (mz_wi (mz_wi q10 g1 115 (q2).toNatClampNeg ((q10.1 g1 115 (q2).toNatClampNeg) + (fJ9_min_7cf53 (-(D.1 g1 115 (q2).toNatClampNeg)) (D.1 g1 115 (q3).toNatClampNeg)))) g1 115 (q3).toNatClampNeg (((mz_wi q10 g1 115 (q2).toNatClampNeg ((q10.1 g1 115 (q2).toNatClampNeg) + (fJ9_min_7cf53 (-(D.1 g1 115 (q2).toNatClampNeg)) (D.1 g1 115 (q3).toNatClampNeg)))).1 g1 115 (q3).toNatClampNeg) - (fJ9_min_7cf53 (-(D.1 g1 115 (q2).toNatClampNeg)) (D.1 g1 115 (q3).toNatClampNeg)))) h)
            · have h := mz_ifn hc9 h
              refine mz_Go.run (gs := []) (st' := (69, [some (.inr (.inr (some (g0, 113)))), some (.inr (.inr (some (g1, 115)))), some (.inl x2), some (.inl x3), some (.inl q2), some (.inl q3), some (.inl (fJ9_min_7cf53 (-(D.1 g1 115 (q2).toNatClampNeg)) (D.1 g1 115 (q3).toNatClampNeg)))], [.inl (0 : Int32)], D)) bX2_settles_68 oX2_settles_68 rfl trivial ?_
              cases h
              exact mz_Go.retz (by decide +kernel) rfl ⟨Nat.le_refl _, Nat.le_refl _⟩ (by decide) rfl
          · have h := mz_ifn hc7 h
            refine mz_Go.run (gs := []) (st' := (46, [some (.inr (.inr (some (g0, 113)))), some (.inr (.inr (some (g1, 115)))), some (.inl x2), some (.inl x3), some (.inl q2), some (.inl q3), none], [.inl (1 : Int32)], D)) bX2_settles_45 oX2_settles_45 rfl trivial ?_
            cases h
            exact mz_Go.retz (by decide +kernel) rfl ⟨Nat.le_refl _, Nat.le_refl _⟩ (by decide) rfl
def fX2_settles_115 (g0 : Nat) (g1 : Nat) (x2 : Int32) (D : mz_D) : Option (Int32 × mz_D) := (Option.bind (fX2_clear g0 D) fun q1 => (fX2_settles_115_6 g0 g1 mz_N x2 (0 : Int32) q1))
set_option maxHeartbeats 4000000 in
theorem mX2_settles_115 (g0 : Nat) (g1 : Nat) (x2 : Int32) (D : mz_D) (hg0 : mz_tb g0 = true) (hg1 : mz_tb g1 = true) (r : (Int32 × mz_D)) (h : fX2_settles_115 g0 g1 x2 D = some r) : mz_Met IX2_settles_115 [.inr (.inr (some (g0, 113))), .inr (.inr (some (g1, 115))), .inl x2] D (some (.inl r.1), r.2) := by
  refine mz_Met.of (by decide +kernel) (Nat.le_of_ble_eq_true rfl) ?_
  show mz_Go IX2_settles_115 (some (.inl r.1), r.2) 0 0 (0, [some (.inr (.inr (some (g0, 113)))), some (.inr (.inr (some (g1, 115)))), some (.inl x2), none, none, none, none], [], D)
  rw [fX2_settles_115] at h
  refine mz_Go.run (gs := []) (st' := (1, [some (.inr (.inr (some (g0, 113)))), some (.inr (.inr (some (g1, 115)))), some (.inl x2), none, none, none, none], [.inr (.inr (some (g0, 113)))], D)) bX2_settles_0 oX2_settles_0 rfl trivial ?_
  obtain ⟨q1, hq1, h⟩ := mz_bd_some h
  refine mz_Go.callV (I := IX2_settles_115) (J := IX2_clear) (as := []) (ci := 2) (g := g0) (o := 113) (idx := 61) (pl := 1355) (rest := []) (mX2_clear g0 D hg0 q1 hq1) kX2_clear vX2_clear (by decide +kernel) (by decide +kernel) (by decide +kernel) rfl rfl ⟨rfl, rfl⟩ rfl rfl hg0 rfl ?_
  refine mz_Go.run (gs := []) (st' := (6, [some (.inr (.inr (some (g0, 113)))), some (.inr (.inr (some (g1, 115)))), some (.inl x2), some (.inl (0 : Int32)), none, none, none], [], q1)) bX2_settles_4 oX2_settles_4 rfl trivial ?_
  exact mz_Go.drop [true, true, true, true, false, false, false] (tX2_settles_115_6 g0 g1 hg0 hg1 r mz_N x2 (0 : Int32) q1 h)
def bX11_simplify_0 : List mz_E := [(0, .aload_n 0, 0, 0, 0, 0, 0), (1, .getfield 36, 11, 5, 564, 0, 0), (4, .getfield 349, 6, 2, 485, 0, 0), (7, .aload_n 0, 0, 0, 0, 0, 0), (8, .getfield 32, 11, 4, 563, 0, 0), (11, .getfield 349, 6, 2, 485, 0, 0)]
theorem oX11_simplify_0 : bX11_simplify_0.all (mz_ok RX11 cX11_simplify 1) = true := by decide +kernel
def bX11_simplify_17 : List mz_E := [(17, .aload_n 0, 0, 0, 0, 0, 0), (18, .getfield 32, 11, 4, 563, 0, 0), (21, .getfield 151, 6, 0, 477, 0, 0), (24, .getfield 155, 4, 0, 290, 0, 0)]
theorem oX11_simplify_17 : bX11_simplify_17.all (mz_ok RX11 cX11_simplify 1) = true := by decide +kernel
def bX11_simplify_30 : List mz_E := [(30, .ifCond .ne 10, 0, 40, 0, 0, 0)]
theorem oX11_simplify_30 : bX11_simplify_30.all (mz_ok RX11 cX11_simplify 1) = true := by decide +kernel
def bX11_simplify_33 : List mz_E := [(33, .aload_n 0, 0, 0, 0, 0, 0), (34, .bipush 7, 0, 0, 0, 7, 0)]
theorem oX11_simplify_33 : bX11_simplify_33.all (mz_ok RX11 cX11_simplify 1) = true := by decide +kernel
def bX11_simplify_40 : List mz_E := [(40, .aload_n 0, 0, 0, 0, 0, 0), (41, .getfield 32, 11, 4, 563, 0, 0), (44, .getfield 349, 6, 2, 485, 0, 0), (47, .aload_n 0, 0, 0, 0, 0, 0), (48, .getfield 36, 11, 5, 564, 0, 0), (51, .getfield 349, 6, 2, 485, 0, 0)]
theorem oX11_simplify_40 : bX11_simplify_40.all (mz_ok RX11 cX11_simplify 1) = true := by decide +kernel
def bX11_simplify_57 : List mz_E := [(57, .aload_n 0, 0, 0, 0, 0, 0), (58, .aload_n 0, 0, 0, 0, 0, 0), (59, .getfield 32, 11, 4, 563, 0, 0), (62, .getfield 349, 6, 2, 485, 0, 0)]
theorem oX11_simplify_57 : bX11_simplify_57.all (mz_ok RX11 cX11_simplify 1) = true := by decide +kernel
abbrev IX11_simplify : mz_I := (yX11_simplify, cX11_simplify, 1, (some .int), 0, 3, 0, 0)
theorem kX11_simplify : mz_okm IX11_simplify 1350 126 1348 0 = true := by decide +kernel
theorem vX11_simplify : mz_okV IX11_simplify 1348 1349 = true := by decide +kernel
def fX11_simplify (D : mz_D) : Option (Int32 × mz_D) := (Option.bind (fX2_weigh 1 D) fun q1 => (Option.bind (fX2_settles_115 2 1 (q1.1 1 101 0) q1) fun q2 => (if q2.1 = 0 then (some ((-1 : Int32), (mz_wi q2.2 0 0 13 (7 : Int32)))) else (Option.bind (fX2_copyFrom 1 2 q2.2) fun q4 => (Option.bind (fX2_countTies 1 q4) fun q5 => (some (q5, (mz_wi q4 0 0 13 (0 : Int32)))))))))
set_option maxHeartbeats 4000000 in
theorem mX11_simplify (D : mz_D) (r : (Int32 × mz_D)) (h : fX11_simplify D = some r) : mz_Met IX11_simplify [.inr (.inr (some (0, 0)))] D (some (.inl r.1), r.2) := by
  refine mz_Met.of (by decide +kernel) (Nat.le_of_ble_eq_true rfl) ?_
  show mz_Go IX11_simplify (some (.inl r.1), r.2) 0 0 (0, [some (.inr (.inr (some (0, 0))))], [], D)
  rw [fX11_simplify] at h
  refine mz_Go.run (gs := [mz_kz 0 0 0, mz_kz 0 2 100, mz_kz 0 0 0, mz_kz 0 1 100]) (st' := (14, [some (.inr (.inr (some (0, 0))))], [.inr (.inr (some (1, 113))), .inr (.inr (some (2, 113)))], D)) bX11_simplify_0 oX11_simplify_0 rfl ⟨rfl, rfl, rfl, rfl, trivial⟩ ?_
  obtain ⟨q1, hq1, h⟩ := mz_bd_some h
  refine mz_Go.callV (I := IX11_simplify) (J := IX2_weigh) (as := []) (ci := 2) (g := 1) (o := 113) (idx := 376) (pl := 1343) (rest := [.inr (.inr (some (2, 113)))]) (mX2_weigh 1 D rfl q1 hq1) kX2_weigh vX2_weigh (by decide +kernel) (by decide +kernel) (by decide +kernel) rfl rfl ⟨rfl, rfl⟩ rfl rfl rfl rfl ?_
  refine mz_Go.run (gs := [mz_kz 0 0 0, mz_kz 0 1 100, mz_kz 0 1 101]) (st' := (27, [some (.inr (.inr (some (0, 0))))], [.inl (q1.1 1 101 0), .inr (.inr (some (1, 115))), .inr (.inr (some (2, 113)))], q1)) bX11_simplify_17 oX11_simplify_17 rfl ⟨rfl, rfl, rfl, trivial⟩ ?_
  obtain ⟨q2, hq2, h⟩ := mz_bd_some h
  refine mz_Go.callV (I := IX11_simplify) (J := IX2_settles_115) (as := [.inr (.inr (some (1, 115))), .inl (q1.1 1 101 0)]) (ci := 2) (g := 2) (o := 113) (idx := 383) (pl := 1351) (rest := []) (mX2_settles_115 2 1 (q1.1 1 101 0) q1 rfl rfl q2 hq2) kX2_settles_115 vX2_settles_115 (by decide +kernel) (by decide +kernel) (by decide +kernel) rfl rfl ⟨rfl, rfl⟩ rfl rfl rfl rfl ?_
  refine mz_Go.run (gs := []) (st' := (if q2.1 = 0 then (33, [some (.inr (.inr (some (0, 0))))], [], q2.2) else (40, [some (.inr (.inr (some (0, 0))))], [], q2.2))) bX11_simplify_30 oX11_simplify_30 rfl trivial ?_
  refine mz_Go.ite (fun hc3 => ?_) (fun hc3 => ?_)
  · have h := mz_ifp hc3 h
    refine mz_Go.run (gs := []) (st' := (36, [some (.inr (.inr (some (0, 0))))], [.inl (7 : Int32), .inr (.inr (some (0, 0)))], q2.2)) bX11_simplify_33 oX11_simplify_33 rfl trivial ?_
    refine mz_Go.callV (I := IX11_simplify) (J := IX11_refuse) (as := [.inl (7 : Int32)]) (ci := 11) (g := 0) (o := 0) (idx := 100) (pl := 673) (rest := []) (mX11_refuse (7 : Int32) q2.2) kX11_refuse vX11_refuse (by decide +kernel) (by decide +kernel) (by decide +kernel) rfl rfl ⟨rfl, rfl⟩ rfl rfl rfl rfl ?_
    cases h
    exact mz_Go.reti (by decide +kernel) rfl ⟨Nat.le_refl _, Nat.le_refl _⟩ rfl
  · have h := mz_ifn hc3 h
    refine mz_Go.run (gs := [mz_kz 0 0 0, mz_kz 0 1 100, mz_kz 0 0 0, mz_kz 0 2 100]) (st' := (54, [some (.inr (.inr (some (0, 0))))], [.inr (.inr (some (2, 113))), .inr (.inr (some (1, 113)))], q2.2)) bX11_simplify_40 oX11_simplify_40 rfl ⟨rfl, rfl, rfl, rfl, trivial⟩ ?_
    obtain ⟨q4, hq4, h⟩ := mz_bd_some h
    refine mz_Go.callV (I := IX11_simplify) (J := IX2_copyFrom) (as := [.inr (.inr (some (2, 113)))]) (ci := 2) (g := 1) (o := 113) (idx := 387) (pl := 1359) (rest := []) (mX2_copyFrom 1 2 q2.2 rfl rfl q4 hq4) kX2_copyFrom vX2_copyFrom (by decide +kernel) (by decide +kernel) (by decide +kernel) rfl rfl ⟨rfl, rfl⟩ rfl rfl rfl rfl ?_
    refine mz_Go.run (gs := [mz_kz 0 0 0, mz_kz 0 1 100]) (st' := (65, [some (.inr (.inr (some (0, 0))))], [.inr (.inr (some (1, 113))), .inr (.inr (some (0, 0)))], q4)) bX11_simplify_57 oX11_simplify_57 rfl ⟨rfl, rfl, trivial⟩ ?_
    obtain ⟨q5, hq5, h⟩ := mz_bd_some h
    refine mz_Go.callV (I := IX11_simplify) (J := IX2_countTies) (as := []) (ci := 2) (g := 1) (o := 113) (idx := 373) (pl := 1335) (rest := [.inr (.inr (some (0, 0)))]) (mX2_countTies 1 q4 rfl q5 hq5) kX2_countTies vX2_countTies (by decide +kernel) (by decide +kernel) (by decide +kernel) rfl rfl ⟨rfl, rfl⟩ rfl rfl rfl rfl ?_
    refine mz_Go.callV (I := IX11_simplify) (J := IX11_answer) (as := [.inl q5]) (ci := 11) (g := 0) (o := 0) (idx := 160) (pl := 914) (rest := []) (mX11_answer q5 q4) kX11_answer vX11_answer (by decide +kernel) (by decide +kernel) (by decide +kernel) rfl rfl ⟨rfl, rfl⟩ rfl rfl rfl rfl ?_
    cases h
    exact mz_Go.reti (by decide +kernel) rfl ⟨Nat.le_refl _, Nat.le_refl _⟩ rfl
def bX11_chain_0 : List mz_E := [(0, .aload_n 0, 0, 0, 0, 0, 0), (1, .getfield 32, 11, 4, 563, 0, 0), (4, .getfield 151, 6, 0, 477, 0, 0), (7, .iload_n 1, 0, 0, 0, 0, 0)]
theorem oX11_chain_0 : bX11_chain_0.all (mz_ok RX11 cX11_chain 5) = true := by decide +kernel
def bX11_chain_11 : List mz_E := [(11, .ifCond .ne 9, 0, 20, 0, 0, 0)]
theorem oX11_chain_11 : bX11_chain_11.all (mz_ok RX11 cX11_chain 5) = true := by decide +kernel
def bX11_chain_14 : List mz_E := [(14, .aload_n 0, 0, 0, 0, 0, 0), (15, .iconst 1, 0, 0, 0, 1, 0)]
theorem oX11_chain_14 : bX11_chain_14.all (mz_ok RX11 cX11_chain 5) = true := by decide +kernel
def bX11_chain_20 : List mz_E := [(20, .iconst 1, 0, 0, 0, 1, 0), (21, .iload_n 1, 0, 0, 0, 0, 0), (22, .ishl, 0, 0, 0, 0, 0), (23, .istore_n 2, 0, 0, 0, 0, 0), (24, .iconst 0, 0, 0, 0, 0, 0), (25, .istore_n 3, 0, 0, 0, 0, 0)]
theorem oX11_chain_20 : bX11_chain_20.all (mz_ok RX11 cX11_chain 5) = true := by decide +kernel
def bX11_chain_26 : List mz_E := [(26, .iload_n 3, 0, 0, 0, 0, 0), (27, .bipush 6, 0, 0, 0, 6, 0), (29, .if_icmp .ge 49, 0, 78, 0, 0, 0)]
theorem oX11_chain_26 : bX11_chain_26.all (mz_ok RX11 cX11_chain 5) = true := by decide +kernel
def bX11_chain_78 : List mz_E := [(78, .aload_n 0, 0, 0, 0, 0, 0), (79, .iload_n 2, 0, 0, 0, 0, 0), (80, .iconst 1, 0, 0, 0, 1, 0), (81, .iload_n 1, 0, 0, 0, 0, 0), (82, .ishl, 0, 0, 0, 0, 0), (83, .iconst (-1), 0, 0, 0, -1, 0), (84, .ixor, 0, 0, 0, 0, 0), (85, .iand, 0, 0, 0, 0, 0)]
theorem oX11_chain_78 : bX11_chain_78.all (mz_ok RX11 cX11_chain 5) = true := by decide +kernel
def bX11_chain_32 : List mz_E := [(32, .iconst 0, 0, 0, 0, 0, 0), (33, .istore 4, 0, 0, 0, 0, 0)]
theorem oX11_chain_32 : bX11_chain_32.all (mz_ok RX11 cX11_chain 5) = true := by decide +kernel
def bX11_chain_35 : List mz_E := [(35, .iload 4, 0, 0, 0, 0, 0), (37, .bipush 6, 0, 0, 0, 6, 0), (39, .if_icmp .ge 33, 0, 72, 0, 0, 0)]
theorem oX11_chain_35 : bX11_chain_35.all (mz_ok RX11 cX11_chain 5) = true := by decide +kernel
def bX11_chain_72 : List mz_E := [(72, .iinc 3 1, 0, 0, 0, 1, 0), (75, .goto (-49), 0, 26, 0, 0, 0)]
theorem oX11_chain_72 : bX11_chain_72.all (mz_ok RX11 cX11_chain 5) = true := by decide +kernel
def bX11_chain_42 : List mz_E := [(42, .iload_n 2, 0, 0, 0, 0, 0), (43, .iload 4, 0, 0, 0, 0, 0)]
theorem oX11_chain_42 : bX11_chain_42.all (mz_ok RX11 cX11_chain 5) = true := by decide +kernel
def bX11_chain_48 : List mz_E := [(48, .ifCond .eq 18, 0, 66, 0, 0, 0)]
theorem oX11_chain_48 : bX11_chain_48.all (mz_ok RX11 cX11_chain 5) = true := by decide +kernel
def bX11_chain_66 : List mz_E := [(66, .iinc 4 1, 0, 0, 0, 1, 0), (69, .goto (-34), 0, 35, 0, 0, 0)]
theorem oX11_chain_66 : bX11_chain_66.all (mz_ok RX11 cX11_chain 5) = true := by decide +kernel
def bX11_chain_51 : List mz_E := [(51, .iload_n 2, 0, 0, 0, 0, 0), (52, .aload_n 0, 0, 0, 0, 0, 0), (53, .getfield 32, 11, 4, 563, 0, 0), (56, .getfield 349, 6, 2, 485, 0, 0), (59, .iload 4, 0, 0, 0, 0, 0)]
theorem oX11_chain_51 : bX11_chain_51.all (mz_ok RX11 cX11_chain 5) = true := by decide +kernel
def bX11_chain_64 : List mz_E := [(64, .ior, 0, 0, 0, 0, 0), (65, .istore_n 2, 0, 0, 0, 0, 0), (66, .iinc 4 1, 0, 0, 0, 1, 0), (69, .goto (-34), 0, 35, 0, 0, 0)]
theorem oX11_chain_64 : bX11_chain_64.all (mz_ok RX11 cX11_chain 5) = true := by decide +kernel
abbrev IX11_chain : mz_I := (yX11_chain, cX11_chain, 5, (some .int), 0, 2, 0, 0)
theorem kX11_chain : mz_okm IX11_chain 1363 126 1361 1 = true := by decide +kernel
theorem vX11_chain : mz_okV IX11_chain 1361 1362 = true := by decide +kernel
def fX11_chain_35 (k26 : Int32 → Int32 → Int32 → mz_D → Option (Int32 × mz_D)) : Nat → Int32 → Int32 → Int32 → Int32 → mz_D → Option (Int32 × mz_D)
  | 0 => fun _ _ _ _ _ => none
  | n + 1 => fun x1 x2 x3 x4 D => (if (6 : Int32) ≤ x4 then (k26 x1 x2 (x3 + (1 : Int32)) D) else (if (fX11_isIn x2 x4) = 0 then ((fX11_chain_35 k26 n) x1 x2 x3 (x4 + (1 : Int32)) D) else (Option.bind (fX2_creditorsOf 1 x4 D) fun q3 => ((fX11_chain_35 k26 n) x1 (x2 ||| q3) x3 (x4 + (1 : Int32)) D))))
set_option maxHeartbeats 4000000 in
theorem tX11_chain_35 (r : (Int32 × mz_D)) (k26 : Int32 → Int32 → Int32 → mz_D → Option (Int32 × mz_D)) (hk26 : ∀ (x1 : Int32) (x2 : Int32) (x3 : Int32) (D : mz_D), k26 x1 x2 x3 D = some r → mz_Go IX11_chain (some (.inl r.1), r.2) 0 0 (26, [some (.inr (.inr (some (0, 0)))), some (.inl x1), some (.inl x2), some (.inl x3), none], [], D)) : ∀ (n : Nat) (x1 : Int32) (x2 : Int32) (x3 : Int32) (x4 : Int32) (D : mz_D), fX11_chain_35 k26 n x1 x2 x3 x4 D = some r → mz_Go IX11_chain (some (.inl r.1), r.2) 0 0 (35, [some (.inr (.inr (some (0, 0)))), some (.inl x1), some (.inl x2), some (.inl x3), some (.inl x4)], [], D) := by
  intro n
  induction n with
  | zero => intro x1 x2 x3 x4 D h; have h : (none : Option (Int32 × mz_D)) = some r := h; cases h
  | succ n ih =>
    intro x1 x2 x3 x4 D h
    rw [fX11_chain_35] at h
    refine mz_Go.run (gs := []) (st' := (if (6 : Int32) ≤ x4 then (72, [some (.inr (.inr (some (0, 0)))), some (.inl x1), some (.inl x2), some (.inl x3), some (.inl x4)], [], D) else (42, [some (.inr (.inr (some (0, 0)))), some (.inl x1), some (.inl x2), some (.inl x3), some (.inl x4)], [], D))) bX11_chain_35 oX11_chain_35 rfl trivial ?_
    refine mz_Go.ite (fun hc1 => ?_) (fun hc1 => ?_)
    · have h := mz_ifp hc1 h
      refine mz_Go.run (gs := []) (st' := (26, [some (.inr (.inr (some (0, 0)))), some (.inl x1), some (.inl x2), some (.inl (x3 + (1 : Int32))), some (.inl x4)], [], D)) bX11_chain_72 oX11_chain_72 rfl trivial ?_
      exact mz_Go.drop [true, true, true, true, false] (hk26 x1 x2 (x3 + (1 : Int32)) D h)
    · have h := mz_ifn hc1 h
      refine mz_Go.run (gs := []) (st' := (45, [some (.inr (.inr (some (0, 0)))), some (.inl x1), some (.inl x2), some (.inl x3), some (.inl x4)], [.inl x4, .inl x2], D)) bX11_chain_42 oX11_chain_42 rfl trivial ?_
      refine mz_Go.callS (I := IX11_chain) (J := IX11_isIn) (as := [.inl x2, .inl x4]) (idx := 337) (pl := 1266) (rest := []) (mX11_isIn x2 x4 D _ rfl) kX11_isIn vX11_isIn (by decide +kernel) (by decide +kernel) (by decide +kernel) rfl rfl ⟨rfl, rfl⟩ rfl ?_
      refine mz_Go.run (gs := []) (st' := (if (fX11_isIn x2 x4) = 0 then (66, [some (.inr (.inr (some (0, 0)))), some (.inl x1), some (.inl x2), some (.inl x3), some (.inl x4)], [], D) else (51, [some (.inr (.inr (some (0, 0)))), some (.inl x1), some (.inl x2), some (.inl x3), some (.inl x4)], [], D))) bX11_chain_48 oX11_chain_48 rfl trivial ?_
      refine mz_Go.ite (fun hc2 => ?_) (fun hc2 => ?_)
      · have h := mz_ifp hc2 h
        refine mz_Go.run (gs := []) (st' := (35, [some (.inr (.inr (some (0, 0)))), some (.inl x1), some (.inl x2), some (.inl x3), some (.inl (x4 + (1 : Int32)))], [], D)) bX11_chain_66 oX11_chain_66 rfl trivial ?_
        exact mz_Go.drop [true, true, true, true, true] (ih x1 x2 x3 (x4 + (1 : Int32)) D h)
      · have h := mz_ifn hc2 h
        refine mz_Go.run (gs := [mz_kz 0 0 0, mz_kz 0 1 100]) (st' := (61, [some (.inr (.inr (some (0, 0)))), some (.inl x1), some (.inl x2), some (.inl x3), some (.inl x4)], [.inl x4, .inr (.inr (some (1, 113))), .inl x2], D)) bX11_chain_51 oX11_chain_51 rfl ⟨rfl, rfl, trivial⟩ ?_
        obtain ⟨q3, hq3, h⟩ := mz_bd_some h
        refine mz_Go.callV (I := IX11_chain) (J := IX2_creditorsOf) (as := [.inl x4]) (ci := 2) (g := 1) (o := 113) (idx := 390) (pl := 1364) (rest := [.inl x2]) (mX2_creditorsOf 1 x4 D rfl q3 hq3) kX2_creditorsOf vX2_creditorsOf (by decide +kernel) (by decide +kernel) (by decide +kernel) rfl rfl ⟨rfl, rfl⟩ rfl rfl rfl rfl ?_
        refine mz_Go.run (gs := []) (st' := (35, [some (.inr (.inr (some (0, 0)))), some (.inl x1), some (.inl (x2 ||| q3)), some (.inl x3), some (.inl (x4 + (1 : Int32)))], [], D)) bX11_chain_64 oX11_chain_64 rfl trivial ?_
        exact mz_Go.drop [true, true, true, true, true] (ih x1 (x2 ||| q3) x3 (x4 + (1 : Int32)) D h)
def fX11_chain_26 : Nat → Int32 → Int32 → Int32 → mz_D → Option (Int32 × mz_D)
  | 0 => fun _ _ _ _ => none
  | n + 1 => fun x1 x2 x3 D => (if (6 : Int32) ≤ x3 then (some ((x2 &&& (((1 : Int32) <<< (x1 &&& 31)) ^^^ (-1 : Int32))), (mz_wi D 0 0 13 (0 : Int32)))) else (fX11_chain_35 (fX11_chain_26 n) mz_N x1 x2 x3 (0 : Int32) D))
set_option maxHeartbeats 4000000 in
theorem tX11_chain_26 (r : (Int32 × mz_D)) : ∀ (n : Nat) (x1 : Int32) (x2 : Int32) (x3 : Int32) (D : mz_D), fX11_chain_26 n x1 x2 x3 D = some r → mz_Go IX11_chain (some (.inl r.1), r.2) 0 0 (26, [some (.inr (.inr (some (0, 0)))), some (.inl x1), some (.inl x2), some (.inl x3), none], [], D) := by
  intro n
  induction n with
  | zero => intro x1 x2 x3 D h; have h : (none : Option (Int32 × mz_D)) = some r := h; cases h
  | succ n ih =>
    intro x1 x2 x3 D h
    rw [fX11_chain_26] at h
    refine mz_Go.run (gs := []) (st' := (if (6 : Int32) ≤ x3 then (78, [some (.inr (.inr (some (0, 0)))), some (.inl x1), some (.inl x2), some (.inl x3), none], [], D) else (32, [some (.inr (.inr (some (0, 0)))), some (.inl x1), some (.inl x2), some (.inl x3), none], [], D))) bX11_chain_26 oX11_chain_26 rfl trivial ?_
    refine mz_Go.ite (fun hc1 => ?_) (fun hc1 => ?_)
    · have h := mz_ifp hc1 h
      refine mz_Go.run (gs := []) (st' := (86, [some (.inr (.inr (some (0, 0)))), some (.inl x1), some (.inl x2), some (.inl x3), none], [.inl (x2 &&& (((1 : Int32) <<< (x1 &&& 31)) ^^^ (-1 : Int32))), .inr (.inr (some (0, 0)))], D)) bX11_chain_78 oX11_chain_78 rfl trivial ?_
      refine mz_Go.callV (I := IX11_chain) (J := IX11_answer) (as := [.inl (x2 &&& (((1 : Int32) <<< (x1 &&& 31)) ^^^ (-1 : Int32)))]) (ci := 11) (g := 0) (o := 0) (idx := 160) (pl := 914) (rest := []) (mX11_answer (x2 &&& (((1 : Int32) <<< (x1 &&& 31)) ^^^ (-1 : Int32))) D) kX11_answer vX11_answer (by decide +kernel) (by decide +kernel) (by decide +kernel) rfl rfl ⟨rfl, rfl⟩ rfl rfl rfl rfl ?_
      cases h
      exact mz_Go.reti (by decide +kernel) rfl ⟨Nat.le_refl _, Nat.le_refl _⟩ rfl
    · have h := mz_ifn hc1 h
      refine mz_Go.run (gs := []) (st' := (35, [some (.inr (.inr (some (0, 0)))), some (.inl x1), some (.inl x2), some (.inl x3), some (.inl (0 : Int32))], [], D)) bX11_chain_32 oX11_chain_32 rfl trivial ?_
      exact mz_Go.drop [true, true, true, true, true] (tX11_chain_35 r (fX11_chain_26 n) ih mz_N x1 x2 x3 (0 : Int32) D h)
def fX11_chain (x1 : Int32) (D : mz_D) : Option (Int32 × mz_D) := (if (fX4_has 1 x1 D) = 0 then (some ((-1 : Int32), (mz_wi D 0 0 13 (1 : Int32)))) else (fX11_chain_26 mz_N x1 ((1 : Int32) <<< (x1 &&& 31)) (0 : Int32) D))
set_option maxHeartbeats 4000000 in
theorem mX11_chain (x1 : Int32) (D : mz_D) (r : (Int32 × mz_D)) (h : fX11_chain x1 D = some r) : mz_Met IX11_chain [.inr (.inr (some (0, 0))), .inl x1] D (some (.inl r.1), r.2) := by
  refine mz_Met.of (by decide +kernel) (Nat.le_of_ble_eq_true rfl) ?_
  show mz_Go IX11_chain (some (.inl r.1), r.2) 0 0 (0, [some (.inr (.inr (some (0, 0)))), some (.inl x1), none, none, none], [], D)
  rw [fX11_chain] at h
  refine mz_Go.run (gs := [mz_kz 0 0 0, mz_kz 0 1 100]) (st' := (8, [some (.inr (.inr (some (0, 0)))), some (.inl x1), none, none, none], [.inl x1, .inr (.inr (some (1, 101)))], D)) bX11_chain_0 oX11_chain_0 rfl ⟨rfl, rfl, trivial⟩ ?_
  refine mz_Go.callV (I := IX11_chain) (J := IX4_has) (as := [.inl x1]) (ci := 4) (g := 1) (o := 101) (idx := 229) (pl := 1042) (rest := []) (mX4_has 1 x1 D rfl _ rfl) kX4_has vX4_has (by decide +kernel) (by decide +kernel) (by decide +kernel) rfl rfl ⟨rfl, rfl⟩ rfl rfl rfl rfl ?_
  refine mz_Go.run (gs := []) (st' := (if (fX4_has 1 x1 D) = 0 then (14, [some (.inr (.inr (some (0, 0)))), some (.inl x1), none, none, none], [], D) else (20, [some (.inr (.inr (some (0, 0)))), some (.inl x1), none, none, none], [], D))) bX11_chain_11 oX11_chain_11 rfl trivial ?_
  refine mz_Go.ite (fun hc1 => ?_) (fun hc1 => ?_)
  · have h := mz_ifp hc1 h
    refine mz_Go.run (gs := []) (st' := (16, [some (.inr (.inr (some (0, 0)))), some (.inl x1), none, none, none], [.inl (1 : Int32), .inr (.inr (some (0, 0)))], D)) bX11_chain_14 oX11_chain_14 rfl trivial ?_
    refine mz_Go.callV (I := IX11_chain) (J := IX11_refuse) (as := [.inl (1 : Int32)]) (ci := 11) (g := 0) (o := 0) (idx := 100) (pl := 673) (rest := []) (mX11_refuse (1 : Int32) D) kX11_refuse vX11_refuse (by decide +kernel) (by decide +kernel) (by decide +kernel) rfl rfl ⟨rfl, rfl⟩ rfl rfl rfl rfl ?_
    cases h
    exact mz_Go.reti (by decide +kernel) rfl ⟨Nat.le_refl _, Nat.le_refl _⟩ rfl
  · have h := mz_ifn hc1 h
    refine mz_Go.run (gs := []) (st' := (26, [some (.inr (.inr (some (0, 0)))), some (.inl x1), some (.inl ((1 : Int32) <<< (x1 &&& 31))), some (.inl (0 : Int32)), none], [], D)) bX11_chain_20 oX11_chain_20 rfl trivial ?_
    exact mz_Go.drop [true, true, true, true, false] (tX11_chain_26 r mz_N x1 ((1 : Int32) <<< (x1 &&& 31)) (0 : Int32) D h)
def bX11_isHeadPrice_0 : List mz_E := [(0, .iload_n 0, 0, 0, 0, 0, 0), (1, .iconst 1, 0, 0, 0, 1, 0), (2, .if_icmp .lt 13, 0, 15, 0, 0, 0)]
theorem oX11_isHeadPrice_0 : bX11_isHeadPrice_0.all (mz_ok RX11 cX11_isHeadPrice 1) = true := by decide +kernel
def bX11_isHeadPrice_15 : List mz_E := [(15, .iconst 0, 0, 0, 0, 0, 0)]
theorem oX11_isHeadPrice_15 : bX11_isHeadPrice_15.all (mz_ok RX11 cX11_isHeadPrice 1) = true := by decide +kernel
def bX11_isHeadPrice_5 : List mz_E := [(5, .iload_n 0, 0, 0, 0, 0, 0), (6, .bipush 99, 0, 0, 0, 99, 0), (8, .if_icmp .gt 7, 0, 15, 0, 0, 0)]
theorem oX11_isHeadPrice_5 : bX11_isHeadPrice_5.all (mz_ok RX11 cX11_isHeadPrice 1) = true := by decide +kernel
def bX11_isHeadPrice_11 : List mz_E := [(11, .iconst 1, 0, 0, 0, 1, 0), (12, .goto 4, 0, 16, 0, 0, 0)]
theorem oX11_isHeadPrice_11 : bX11_isHeadPrice_11.all (mz_ok RX11 cX11_isHeadPrice 1) = true := by decide +kernel
abbrev IX11_isHeadPrice : mz_I := (yX11_isHeadPrice, cX11_isHeadPrice, 1, (some .boolean), 9, 0, 0, 0)
theorem kX11_isHeadPrice : mz_okm IX11_isHeadPrice 1374 126 1373 1 = true := by decide +kernel
theorem vX11_isHeadPrice : mz_okS IX11_isHeadPrice 1373 = true := by decide +kernel
def fX11_isHeadPrice (x0 : Int32) : Int32 := (if x0 < (1 : Int32) then (0 : Int32) else (if (99 : Int32) < x0 then (0 : Int32) else (1 : Int32)))
set_option maxHeartbeats 4000000 in
theorem mX11_isHeadPrice (x0 : Int32) (D : mz_D) (r : Int32) (h : fX11_isHeadPrice x0 = r) : mz_Met IX11_isHeadPrice [.inl x0] D (some (.inl r), D) := by
  refine mz_Met.of (by decide +kernel) (Nat.le_of_ble_eq_true rfl) ?_
  show mz_Go IX11_isHeadPrice (some (.inl r), D) 0 0 (0, [some (.inl x0)], [], D)
  rw [fX11_isHeadPrice] at h
  refine mz_Go.run (gs := []) (st' := (if x0 < (1 : Int32) then (15, [some (.inl x0)], [], D) else (5, [some (.inl x0)], [], D))) bX11_isHeadPrice_0 oX11_isHeadPrice_0 rfl trivial ?_
  refine mz_Go.ite (fun hc1 => ?_) (fun hc1 => ?_)
  · have h := mz_ifp hc1 h
    refine mz_Go.run (gs := []) (st' := (16, [some (.inl x0)], [.inl (0 : Int32)], D)) bX11_isHeadPrice_15 oX11_isHeadPrice_15 rfl trivial ?_
    subst h
    exact mz_Go.retz (by decide +kernel) rfl ⟨Nat.le_refl _, Nat.le_refl _⟩ (by decide) rfl
  · have h := mz_ifn hc1 h
    refine mz_Go.run (gs := []) (st' := (if (99 : Int32) < x0 then (15, [some (.inl x0)], [], D) else (11, [some (.inl x0)], [], D))) bX11_isHeadPrice_5 oX11_isHeadPrice_5 rfl trivial ?_
    refine mz_Go.ite (fun hc2 => ?_) (fun hc2 => ?_)
    · have h := mz_ifp hc2 h
      refine mz_Go.run (gs := []) (st' := (16, [some (.inl x0)], [.inl (0 : Int32)], D)) bX11_isHeadPrice_15 oX11_isHeadPrice_15 rfl trivial ?_
      subst h
      exact mz_Go.retz (by decide +kernel) rfl ⟨Nat.le_refl _, Nat.le_refl _⟩ (by decide) rfl
    · have h := mz_ifn hc2 h
      refine mz_Go.run (gs := []) (st' := (16, [some (.inl x0)], [.inl (1 : Int32)], D)) bX11_isHeadPrice_11 oX11_isHeadPrice_11 rfl trivial ?_
      subst h
      exact mz_Go.retz (by decide +kernel) rfl ⟨Nat.le_refl _, Nat.le_refl _⟩ (by decide) rfl
def bX11_even_0 : List mz_E := [(0, .iload_n 1, 0, 0, 0, 0, 0)]
theorem oX11_even_0 : bX11_even_0.all (mz_ok RX11 cX11_even 2) = true := by decide +kernel
def bX11_even_4 : List mz_E := [(4, .ifCond .eq 18, 0, 22, 0, 0, 0)]
theorem oX11_even_4 : bX11_even_4.all (mz_ok RX11 cX11_even 2) = true := by decide +kernel
def bX11_even_22 : List mz_E := [(22, .aload_n 0, 0, 0, 0, 0, 0), (23, .iconst 1, 0, 0, 0, 1, 0)]
theorem oX11_even_22 : bX11_even_22.all (mz_ok RX11 cX11_even 2) = true := by decide +kernel
def bX11_even_7 : List mz_E := [(7, .aload_n 0, 0, 0, 0, 0, 0), (8, .aload_n 0, 0, 0, 0, 0, 0), (9, .getfield 32, 11, 4, 563, 0, 0), (12, .iload_n 1, 0, 0, 0, 0, 0)]
theorem oX11_even_7 : bX11_even_7.all (mz_ok RX11 cX11_even 2) = true := by decide +kernel
def bX11_even_19 : List mz_E := [(19, .goto 8, 0, 27, 0, 0, 0)]
theorem oX11_even_19 : bX11_even_19.all (mz_ok RX11 cX11_even 2) = true := by decide +kernel
abbrev IX11_even : mz_I := (yX11_even, cX11_even, 2, (some .int), 0, 5, 0, 0)
theorem kX11_even : mz_okm IX11_even 1371 126 1369 1 = true := by decide +kernel
theorem vX11_even : mz_okV IX11_even 1369 1370 = true := by decide +kernel
def fX11_even (x1 : Int32) (D : mz_D) : Option (Int32 × mz_D) := (if (fX11_isHeadPrice x1) = 0 then (some ((-1 : Int32), (mz_wi D 0 0 13 (1 : Int32)))) else (Option.bind (fX6_fewestDinners 1 x1 D) fun q2 => (Option.bind (fX11_answerIfAny q2 D) fun q3 => (some (q3.1, q3.2)))))
set_option maxHeartbeats 4000000 in
theorem mX11_even (x1 : Int32) (D : mz_D) (r : (Int32 × mz_D)) (h : fX11_even x1 D = some r) : mz_Met IX11_even [.inr (.inr (some (0, 0))), .inl x1] D (some (.inl r.1), r.2) := by
  refine mz_Met.of (by decide +kernel) (Nat.le_of_ble_eq_true rfl) ?_
  show mz_Go IX11_even (some (.inl r.1), r.2) 0 0 (0, [some (.inr (.inr (some (0, 0)))), some (.inl x1)], [], D)
  rw [fX11_even] at h
  refine mz_Go.run (gs := []) (st' := (1, [some (.inr (.inr (some (0, 0)))), some (.inl x1)], [.inl x1], D)) bX11_even_0 oX11_even_0 rfl trivial ?_
  refine mz_Go.callS (I := IX11_even) (J := IX11_isHeadPrice) (as := [.inl x1]) (idx := 393) (pl := 1372) (rest := []) (mX11_isHeadPrice x1 D _ rfl) kX11_isHeadPrice vX11_isHeadPrice (by decide +kernel) (by decide +kernel) (by decide +kernel) rfl rfl ⟨rfl, rfl⟩ rfl ?_
  refine mz_Go.run (gs := []) (st' := (if (fX11_isHeadPrice x1) = 0 then (22, [some (.inr (.inr (some (0, 0)))), some (.inl x1)], [], D) else (7, [some (.inr (.inr (some (0, 0)))), some (.inl x1)], [], D))) bX11_even_4 oX11_even_4 rfl trivial ?_
  refine mz_Go.ite (fun hc1 => ?_) (fun hc1 => ?_)
  · have h := mz_ifp hc1 h
    refine mz_Go.run (gs := []) (st' := (24, [some (.inr (.inr (some (0, 0)))), some (.inl x1)], [.inl (1 : Int32), .inr (.inr (some (0, 0)))], D)) bX11_even_22 oX11_even_22 rfl trivial ?_
    refine mz_Go.callV (I := IX11_even) (J := IX11_refuse) (as := [.inl (1 : Int32)]) (ci := 11) (g := 0) (o := 0) (idx := 100) (pl := 673) (rest := []) (mX11_refuse (1 : Int32) D) kX11_refuse vX11_refuse (by decide +kernel) (by decide +kernel) (by decide +kernel) rfl rfl ⟨rfl, rfl⟩ rfl rfl rfl rfl ?_
    cases h
    exact mz_Go.reti (by decide +kernel) rfl ⟨Nat.le_refl _, Nat.le_refl _⟩ rfl
  · have h := mz_ifn hc1 h
    refine mz_Go.run (gs := [mz_kz 0 0 0]) (st' := (13, [some (.inr (.inr (some (0, 0)))), some (.inl x1)], [.inl x1, .inr (.inr (some (1, 100))), .inr (.inr (some (0, 0)))], D)) bX11_even_7 oX11_even_7 rfl ⟨rfl, trivial⟩ ?_
    obtain ⟨q2, hq2, h⟩ := mz_bd_some h
    refine mz_Go.callV (I := IX11_even) (J := IX6_fewestDinners) (as := [.inl x1]) (ci := 6) (g := 1) (o := 100) (idx := 396) (pl := 1375) (rest := [.inr (.inr (some (0, 0)))]) (mX6_fewestDinners 1 x1 D rfl q2 hq2) kX6_fewestDinners vX6_fewestDinners (by decide +kernel) (by decide +kernel) (by decide +kernel) rfl rfl ⟨rfl, rfl⟩ rfl rfl rfl rfl ?_
    obtain ⟨q3, hq3, h⟩ := mz_bd_some h
    refine mz_Go.callV (I := IX11_even) (J := IX11_answerIfAny) (as := [.inl q2]) (ci := 11) (g := 0) (o := 0) (idx := 245) (pl := 1046) (rest := []) (mX11_answerIfAny q2 D q3 hq3) kX11_answerIfAny vX11_answerIfAny (by decide +kernel) (by decide +kernel) (by decide +kernel) rfl rfl ⟨rfl, rfl⟩ rfl rfl rfl rfl ?_
    refine mz_Go.run (gs := []) (st' := (27, [some (.inr (.inr (some (0, 0)))), some (.inl x1)], [.inl q3.1], q3.2)) bX11_even_19 oX11_even_19 rfl trivial ?_
    cases h
    exact mz_Go.reti (by decide +kernel) rfl ⟨Nat.le_refl _, Nat.le_refl _⟩ rfl
def bX11_evenBy_0 : List mz_E := [(0, .iload_n 1, 0, 0, 0, 0, 0)]
theorem oX11_evenBy_0 : bX11_evenBy_0.all (mz_ok RX11 cX11_evenBy 4) = true := by decide +kernel
def bX11_evenBy_4 : List mz_E := [(4, .ifCond .eq 17, 0, 21, 0, 0, 0)]
theorem oX11_evenBy_4 : bX11_evenBy_4.all (mz_ok RX11 cX11_evenBy 4) = true := by decide +kernel
def bX11_evenBy_21 : List mz_E := [(21, .aload_n 0, 0, 0, 0, 0, 0), (22, .iconst 1, 0, 0, 0, 1, 0)]
theorem oX11_evenBy_21 : bX11_evenBy_21.all (mz_ok RX11 cX11_evenBy 4) = true := by decide +kernel
def bX11_evenBy_7 : List mz_E := [(7, .aload_n 0, 0, 0, 0, 0, 0), (8, .getfield 32, 11, 4, 563, 0, 0), (11, .getfield 151, 6, 0, 477, 0, 0), (14, .iload_n 2, 0, 0, 0, 0, 0)]
theorem oX11_evenBy_7 : bX11_evenBy_7.all (mz_ok RX11 cX11_evenBy 4) = true := by decide +kernel
def bX11_evenBy_18 : List mz_E := [(18, .ifCond .ne 9, 0, 27, 0, 0, 0)]
theorem oX11_evenBy_18 : bX11_evenBy_18.all (mz_ok RX11 cX11_evenBy 4) = true := by decide +kernel
def bX11_evenBy_27 : List mz_E := [(27, .aload_n 0, 0, 0, 0, 0, 0), (28, .getfield 32, 11, 4, 563, 0, 0), (31, .iload_n 1, 0, 0, 0, 0, 0)]
theorem oX11_evenBy_27 : bX11_evenBy_27.all (mz_ok RX11 cX11_evenBy 4) = true := by decide +kernel
def bX11_evenBy_35 : List mz_E := [(35, .istore_n 3, 0, 0, 0, 0, 0), (36, .iload_n 3, 0, 0, 0, 0, 0), (37, .iconst (-1), 0, 0, 0, -1, 0), (38, .if_icmp .ne 10, 0, 48, 0, 0, 0)]
theorem oX11_evenBy_35 : bX11_evenBy_35.all (mz_ok RX11 cX11_evenBy 4) = true := by decide +kernel
def bX11_evenBy_41 : List mz_E := [(41, .aload_n 0, 0, 0, 0, 0, 0), (42, .bipush 6, 0, 0, 0, 6, 0)]
theorem oX11_evenBy_41 : bX11_evenBy_41.all (mz_ok RX11 cX11_evenBy 4) = true := by decide +kernel
def bX11_evenBy_48 : List mz_E := [(48, .aload_n 0, 0, 0, 0, 0, 0), (49, .aload_n 0, 0, 0, 0, 0, 0), (50, .getfield 32, 11, 4, 563, 0, 0), (53, .getfield 151, 6, 0, 477, 0, 0)]
theorem oX11_evenBy_48 : bX11_evenBy_48.all (mz_ok RX11 cX11_evenBy 4) = true := by decide +kernel
def bX11_evenBy_59 : List mz_E := [(59, .iload_n 2, 0, 0, 0, 0, 0)]
theorem oX11_evenBy_59 : bX11_evenBy_59.all (mz_ok RX11 cX11_evenBy 4) = true := by decide +kernel
def bX11_evenBy_63 : List mz_E := [(63, .ifCond .eq 16, 0, 79, 0, 0, 0)]
theorem oX11_evenBy_63 : bX11_evenBy_63.all (mz_ok RX11 cX11_evenBy 4) = true := by decide +kernel
def bX11_evenBy_79 : List mz_E := [(79, .iconst 0, 0, 0, 0, 0, 0)]
theorem oX11_evenBy_79 : bX11_evenBy_79.all (mz_ok RX11 cX11_evenBy 4) = true := by decide +kernel
def bX11_evenBy_66 : List mz_E := [(66, .aload_n 0, 0, 0, 0, 0, 0), (67, .getfield 32, 11, 4, 563, 0, 0), (70, .iload_n 1, 0, 0, 0, 0, 0), (71, .iload_n 3, 0, 0, 0, 0, 0), (72, .iload_n 2, 0, 0, 0, 0, 0)]
theorem oX11_evenBy_66 : bX11_evenBy_66.all (mz_ok RX11 cX11_evenBy 4) = true := by decide +kernel
def bX11_evenBy_76 : List mz_E := [(76, .goto 4, 0, 80, 0, 0, 0)]
theorem oX11_evenBy_76 : bX11_evenBy_76.all (mz_ok RX11 cX11_evenBy 4) = true := by decide +kernel
abbrev IX11_evenBy : mz_I := (yX11_evenBy, cX11_evenBy, 4, (some .int), 0, 5, 0, 0)
theorem kX11_evenBy : mz_okm IX11_evenBy 1391 126 1389 2 = true := by decide +kernel
theorem vX11_evenBy : mz_okV IX11_evenBy 1389 1390 = true := by decide +kernel
def fX11_evenBy (x1 : Int32) (x2 : Int32) (D : mz_D) : Option (Int32 × mz_D) := (if (fX11_isHeadPrice x1) = 0 then (some ((-1 : Int32), (mz_wi D 0 0 13 (1 : Int32)))) else (if (fX4_has 1 x2 D) = 0 then (some ((-1 : Int32), (mz_wi D 0 0 13 (1 : Int32)))) else (Option.bind (fX6_fewestDinners 1 x1 D) fun q3 => (if q3 = (-1 : Int32) then (some ((-1 : Int32), (mz_wi D 0 0 13 (6 : Int32)))) else (if (fX11_isIn (fX4_heads 1 D) x2) = 0 then (some ((0 : Int32), (mz_wi D 0 0 13 (0 : Int32)))) else (Option.bind (fX6_dinnersBy 1 x1 q3 x2 D) fun q6 => (some (q6, (mz_wi D 0 0 13 (0 : Int32))))))))))
set_option maxHeartbeats 4000000 in
theorem mX11_evenBy (x1 : Int32) (x2 : Int32) (D : mz_D) (r : (Int32 × mz_D)) (h : fX11_evenBy x1 x2 D = some r) : mz_Met IX11_evenBy [.inr (.inr (some (0, 0))), .inl x1, .inl x2] D (some (.inl r.1), r.2) := by
  refine mz_Met.of (by decide +kernel) (Nat.le_of_ble_eq_true rfl) ?_
  show mz_Go IX11_evenBy (some (.inl r.1), r.2) 0 0 (0, [some (.inr (.inr (some (0, 0)))), some (.inl x1), some (.inl x2), none], [], D)
  rw [fX11_evenBy] at h
  refine mz_Go.run (gs := []) (st' := (1, [some (.inr (.inr (some (0, 0)))), some (.inl x1), some (.inl x2), none], [.inl x1], D)) bX11_evenBy_0 oX11_evenBy_0 rfl trivial ?_
  refine mz_Go.callS (I := IX11_evenBy) (J := IX11_isHeadPrice) (as := [.inl x1]) (idx := 393) (pl := 1372) (rest := []) (mX11_isHeadPrice x1 D _ rfl) kX11_isHeadPrice vX11_isHeadPrice (by decide +kernel) (by decide +kernel) (by decide +kernel) rfl rfl ⟨rfl, rfl⟩ rfl ?_
  refine mz_Go.run (gs := []) (st' := (if (fX11_isHeadPrice x1) = 0 then (21, [some (.inr (.inr (some (0, 0)))), some (.inl x1), some (.inl x2), none], [], D) else (7, [some (.inr (.inr (some (0, 0)))), some (.inl x1), some (.inl x2), none], [], D))) bX11_evenBy_4 oX11_evenBy_4 rfl trivial ?_
  refine mz_Go.ite (fun hc1 => ?_) (fun hc1 => ?_)
  · have h := mz_ifp hc1 h
    refine mz_Go.run (gs := []) (st' := (23, [some (.inr (.inr (some (0, 0)))), some (.inl x1), some (.inl x2), none], [.inl (1 : Int32), .inr (.inr (some (0, 0)))], D)) bX11_evenBy_21 oX11_evenBy_21 rfl trivial ?_
    refine mz_Go.callV (I := IX11_evenBy) (J := IX11_refuse) (as := [.inl (1 : Int32)]) (ci := 11) (g := 0) (o := 0) (idx := 100) (pl := 673) (rest := []) (mX11_refuse (1 : Int32) D) kX11_refuse vX11_refuse (by decide +kernel) (by decide +kernel) (by decide +kernel) rfl rfl ⟨rfl, rfl⟩ rfl rfl rfl rfl ?_
    cases h
    exact mz_Go.reti (by decide +kernel) rfl ⟨Nat.le_refl _, Nat.le_refl _⟩ rfl
  · have h := mz_ifn hc1 h
    refine mz_Go.run (gs := [mz_kz 0 0 0, mz_kz 0 1 100]) (st' := (15, [some (.inr (.inr (some (0, 0)))), some (.inl x1), some (.inl x2), none], [.inl x2, .inr (.inr (some (1, 101)))], D)) bX11_evenBy_7 oX11_evenBy_7 rfl ⟨rfl, rfl, trivial⟩ ?_
    refine mz_Go.callV (I := IX11_evenBy) (J := IX4_has) (as := [.inl x2]) (ci := 4) (g := 1) (o := 101) (idx := 229) (pl := 1042) (rest := []) (mX4_has 1 x2 D rfl _ rfl) kX4_has vX4_has (by decide +kernel) (by decide +kernel) (by decide +kernel) rfl rfl ⟨rfl, rfl⟩ rfl rfl rfl rfl ?_
    refine mz_Go.run (gs := []) (st' := (if (fX4_has 1 x2 D) = 0 then (21, [some (.inr (.inr (some (0, 0)))), some (.inl x1), some (.inl x2), none], [], D) else (27, [some (.inr (.inr (some (0, 0)))), some (.inl x1), some (.inl x2), none], [], D))) bX11_evenBy_18 oX11_evenBy_18 rfl trivial ?_
    refine mz_Go.ite (fun hc2 => ?_) (fun hc2 => ?_)
    · have h := mz_ifp hc2 h
      refine mz_Go.run (gs := []) (st' := (23, [some (.inr (.inr (some (0, 0)))), some (.inl x1), some (.inl x2), none], [.inl (1 : Int32), .inr (.inr (some (0, 0)))], D)) bX11_evenBy_21 oX11_evenBy_21 rfl trivial ?_
      refine mz_Go.callV (I := IX11_evenBy) (J := IX11_refuse) (as := [.inl (1 : Int32)]) (ci := 11) (g := 0) (o := 0) (idx := 100) (pl := 673) (rest := []) (mX11_refuse (1 : Int32) D) kX11_refuse vX11_refuse (by decide +kernel) (by decide +kernel) (by decide +kernel) rfl rfl ⟨rfl, rfl⟩ rfl rfl rfl rfl ?_
      cases h
      exact mz_Go.reti (by decide +kernel) rfl ⟨Nat.le_refl _, Nat.le_refl _⟩ rfl
    · have h := mz_ifn hc2 h
      refine mz_Go.run (gs := [mz_kz 0 0 0]) (st' := (32, [some (.inr (.inr (some (0, 0)))), some (.inl x1), some (.inl x2), none], [.inl x1, .inr (.inr (some (1, 100)))], D)) bX11_evenBy_27 oX11_evenBy_27 rfl ⟨rfl, trivial⟩ ?_
      obtain ⟨q3, hq3, h⟩ := mz_bd_some h
      refine mz_Go.callV (I := IX11_evenBy) (J := IX6_fewestDinners) (as := [.inl x1]) (ci := 6) (g := 1) (o := 100) (idx := 396) (pl := 1375) (rest := []) (mX6_fewestDinners 1 x1 D rfl q3 hq3) kX6_fewestDinners vX6_fewestDinners (by decide +kernel) (by decide +kernel) (by decide +kernel) rfl rfl ⟨rfl, rfl⟩ rfl rfl rfl rfl ?_
      refine mz_Go.run (gs := []) (st' := (if q3 = (-1 : Int32) then (41, [some (.inr (.inr (some (0, 0)))), some (.inl x1), some (.inl x2), some (.inl q3)], [], D) else (48, [some (.inr (.inr (some (0, 0)))), some (.inl x1), some (.inl x2), some (.inl q3)], [], D))) bX11_evenBy_35 oX11_evenBy_35 rfl trivial ?_
      refine mz_Go.ite (fun hc4 => ?_) (fun hc4 => ?_)
      · have h := mz_ifp hc4 h
        refine mz_Go.run (gs := []) (st' := (44, [some (.inr (.inr (some (0, 0)))), some (.inl x1), some (.inl x2), some (.inl q3)], [.inl (6 : Int32), .inr (.inr (some (0, 0)))], D)) bX11_evenBy_41 oX11_evenBy_41 rfl trivial ?_
        refine mz_Go.callV (I := IX11_evenBy) (J := IX11_refuse) (as := [.inl (6 : Int32)]) (ci := 11) (g := 0) (o := 0) (idx := 100) (pl := 673) (rest := []) (mX11_refuse (6 : Int32) D) kX11_refuse vX11_refuse (by decide +kernel) (by decide +kernel) (by decide +kernel) rfl rfl ⟨rfl, rfl⟩ rfl rfl rfl rfl ?_
        cases h
        exact mz_Go.reti (by decide +kernel) rfl ⟨Nat.le_refl _, Nat.le_refl _⟩ rfl
      · have h := mz_ifn hc4 h
        refine mz_Go.run (gs := [mz_kz 0 0 0, mz_kz 0 1 100]) (st' := (56, [some (.inr (.inr (some (0, 0)))), some (.inl x1), some (.inl x2), some (.inl q3)], [.inr (.inr (some (1, 101))), .inr (.inr (some (0, 0)))], D)) bX11_evenBy_48 oX11_evenBy_48 rfl ⟨rfl, rfl, trivial⟩ ?_
        refine mz_Go.callV (I := IX11_evenBy) (J := IX4_heads) (as := []) (ci := 4) (g := 1) (o := 101) (idx := 200) (pl := 1023) (rest := [.inr (.inr (some (0, 0)))]) (mX4_heads 1 D rfl _ rfl) kX4_heads vX4_heads (by decide +kernel) (by decide +kernel) (by decide +kernel) rfl rfl ⟨rfl, rfl⟩ rfl rfl rfl rfl ?_
        refine mz_Go.run (gs := []) (st' := (60, [some (.inr (.inr (some (0, 0)))), some (.inl x1), some (.inl x2), some (.inl q3)], [.inl x2, .inl (fX4_heads 1 D), .inr (.inr (some (0, 0)))], D)) bX11_evenBy_59 oX11_evenBy_59 rfl trivial ?_
        refine mz_Go.callS (I := IX11_evenBy) (J := IX11_isIn) (as := [.inl (fX4_heads 1 D), .inl x2]) (idx := 337) (pl := 1266) (rest := [.inr (.inr (some (0, 0)))]) (mX11_isIn (fX4_heads 1 D) x2 D _ rfl) kX11_isIn vX11_isIn (by decide +kernel) (by decide +kernel) (by decide +kernel) rfl rfl ⟨rfl, rfl⟩ rfl ?_
        refine mz_Go.run (gs := []) (st' := (if (fX11_isIn (fX4_heads 1 D) x2) = 0 then (79, [some (.inr (.inr (some (0, 0)))), some (.inl x1), some (.inl x2), some (.inl q3)], [.inr (.inr (some (0, 0)))], D) else (66, [some (.inr (.inr (some (0, 0)))), some (.inl x1), some (.inl x2), some (.inl q3)], [.inr (.inr (some (0, 0)))], D))) bX11_evenBy_63 oX11_evenBy_63 rfl trivial ?_
        refine mz_Go.ite (fun hc5 => ?_) (fun hc5 => ?_)
        · have h := mz_ifp hc5 h
          refine mz_Go.run (gs := []) (st' := (80, [some (.inr (.inr (some (0, 0)))), some (.inl x1), some (.inl x2), some (.inl q3)], [.inl (0 : Int32), .inr (.inr (some (0, 0)))], D)) bX11_evenBy_79 oX11_evenBy_79 rfl trivial ?_
          refine mz_Go.callV (I := IX11_evenBy) (J := IX11_answer) (as := [.inl (0 : Int32)]) (ci := 11) (g := 0) (o := 0) (idx := 160) (pl := 914) (rest := []) (mX11_answer (0 : Int32) D) kX11_answer vX11_answer (by decide +kernel) (by decide +kernel) (by decide +kernel) rfl rfl ⟨rfl, rfl⟩ rfl rfl rfl rfl ?_
          cases h
          exact mz_Go.reti (by decide +kernel) rfl ⟨Nat.le_refl _, Nat.le_refl _⟩ rfl
        · have h := mz_ifn hc5 h
          refine mz_Go.run (gs := [mz_kz 0 0 0]) (st' := (73, [some (.inr (.inr (some (0, 0)))), some (.inl x1), some (.inl x2), some (.inl q3)], [.inl x2, .inl q3, .inl x1, .inr (.inr (some (1, 100))), .inr (.inr (some (0, 0)))], D)) bX11_evenBy_66 oX11_evenBy_66 rfl ⟨rfl, trivial⟩ ?_
          obtain ⟨q6, hq6, h⟩ := mz_bd_some h
          refine mz_Go.callV (I := IX11_evenBy) (J := IX6_dinnersBy) (as := [.inl x1, .inl q3, .inl x2]) (ci := 6) (g := 1) (o := 100) (idx := 399) (pl := 1392) (rest := [.inr (.inr (some (0, 0)))]) (mX6_dinnersBy 1 x1 q3 x2 D rfl q6 hq6) kX6_dinnersBy vX6_dinnersBy (by decide +kernel) (by decide +kernel) (by decide +kernel) rfl rfl ⟨rfl, rfl⟩ rfl rfl rfl rfl ?_
          refine mz_Go.run (gs := []) (st' := (80, [some (.inr (.inr (some (0, 0)))), some (.inl x1), some (.inl x2), some (.inl q3)], [.inl q6, .inr (.inr (some (0, 0)))], D)) bX11_evenBy_76 oX11_evenBy_76 rfl trivial ?_
          refine mz_Go.callV (I := IX11_evenBy) (J := IX11_answer) (as := [.inl q6]) (ci := 11) (g := 0) (o := 0) (idx := 160) (pl := 914) (rest := []) (mX11_answer q6 D) kX11_answer vX11_answer (by decide +kernel) (by decide +kernel) (by decide +kernel) rfl rfl ⟨rfl, rfl⟩ rfl rfl rfl rfl ?_
          cases h
          exact mz_Go.reti (by decide +kernel) rfl ⟨Nat.le_refl _, Nat.le_refl _⟩ rfl
def bX11_comes_0 : List mz_E := [(0, .aload_n 0, 0, 0, 0, 0, 0), (1, .getfield 32, 11, 4, 563, 0, 0), (4, .getfield 151, 6, 0, 477, 0, 0), (7, .iload_n 1, 0, 0, 0, 0, 0)]
theorem oX11_comes_0 : bX11_comes_0.all (mz_ok RX11 cX11_comes 3) = true := by decide +kernel
def bX11_comes_11 : List mz_E := [(11, .ifCond .eq 12, 0, 23, 0, 0, 0)]
theorem oX11_comes_11 : bX11_comes_11.all (mz_ok RX11 cX11_comes 3) = true := by decide +kernel
def bX11_comes_23 : List mz_E := [(23, .aload_n 0, 0, 0, 0, 0, 0), (24, .iconst 1, 0, 0, 0, 1, 0)]
theorem oX11_comes_23 : bX11_comes_23.all (mz_ok RX11 cX11_comes 3) = true := by decide +kernel
def bX11_comes_14 : List mz_E := [(14, .iload_n 2, 0, 0, 0, 0, 0), (15, .ifCond .lt 8, 0, 23, 0, 0, 0)]
theorem oX11_comes_14 : bX11_comes_14.all (mz_ok RX11 cX11_comes 3) = true := by decide +kernel
def bX11_comes_18 : List mz_E := [(18, .iload_n 2, 0, 0, 0, 0, 0), (19, .iconst 1, 0, 0, 0, 1, 0), (20, .if_icmp .le 9, 0, 29, 0, 0, 0)]
theorem oX11_comes_18 : bX11_comes_18.all (mz_ok RX11 cX11_comes 3) = true := by decide +kernel
def bX11_comes_29 : List mz_E := [(29, .aload_n 0, 0, 0, 0, 0, 0), (30, .getfield 32, 11, 4, 563, 0, 0), (33, .getfield 211, 6, 3, 489, 0, 0), (36, .getfield 226, 0, 0, 409, 0, 0), (39, .iload_n 1, 0, 0, 0, 0, 0)]
theorem oX11_comes_29 : bX11_comes_29.all (mz_ok RX11 cX11_comes 3) = true := by decide +kernel
def bX11_comes_43 : List mz_E := [(43, .iload_n 2, 0, 0, 0, 0, 0), (44, .iconst 1, 0, 0, 0, 1, 0), (45, .if_icmp .ne 7, 0, 52, 0, 0, 0)]
theorem oX11_comes_43 : bX11_comes_43.all (mz_ok RX11 cX11_comes 3) = true := by decide +kernel
def bX11_comes_48 : List mz_E := [(48, .iconst 1, 0, 0, 0, 1, 0), (49, .goto 4, 0, 53, 0, 0, 0)]
theorem oX11_comes_48 : bX11_comes_48.all (mz_ok RX11 cX11_comes 3) = true := by decide +kernel
def bX11_comes_53 : List mz_E := [(53, .if_icmp .ne 10, 0, 63, 0, 0, 0)]
theorem oX11_comes_53 : bX11_comes_53.all (mz_ok RX11 cX11_comes 3) = true := by decide +kernel
def bX11_comes_56 : List mz_E := [(56, .aload_n 0, 0, 0, 0, 0, 0), (57, .bipush 7, 0, 0, 0, 7, 0)]
theorem oX11_comes_56 : bX11_comes_56.all (mz_ok RX11 cX11_comes 3) = true := by decide +kernel
def bX11_comes_63 : List mz_E := [(63, .aload_n 0, 0, 0, 0, 0, 0), (64, .getfield 32, 11, 4, 563, 0, 0), (67, .getfield 211, 6, 3, 489, 0, 0), (70, .dup, 0, 0, 0, 0, 0), (71, .getfield 226, 0, 0, 409, 0, 0), (74, .iconst 1, 0, 0, 0, 1, 0), (75, .iload_n 1, 0, 0, 0, 0, 0), (76, .ishl, 0, 0, 0, 0, 0), (77, .ixor, 0, 0, 0, 0, 0), (78, .putfield 226, 0, 0, 409, 0, 0), (81, .aload_n 0, 0, 0, 0, 0, 0), (82, .aload_n 0, 0, 0, 0, 0, 0), (83, .getfield 32, 11, 4, 563, 0, 0), (86, .getfield 211, 6, 3, 489, 0, 0), (89, .getfield 226, 0, 0, 409, 0, 0)]
theorem oX11_comes_63 : bX11_comes_63.all (mz_ok RX11 cX11_comes 3) = true := by decide +kernel
def bX11_comes_52 : List mz_E := [(52, .iconst 0, 0, 0, 0, 0, 0)]
theorem oX11_comes_52 : bX11_comes_52.all (mz_ok RX11 cX11_comes 3) = true := by decide +kernel
abbrev IX11_comes : mz_I := (yX11_comes, cX11_comes, 3, (some .int), 0, 1, 0, 0)
theorem kX11_comes : mz_okm IX11_comes 1396 126 1394 2 = true := by decide +kernel
theorem vX11_comes : mz_okV IX11_comes 1394 1395 = true := by decide +kernel
def fX11_comes_53 (x1 : Int32) (s0 : Int32) (s1 : Int32) (D : mz_D) : Option (Int32 × mz_D) := (if s1 = s0 then (some ((-1 : Int32), (mz_wi D 0 0 13 (7 : Int32)))) else (some ((fJ6_bitCount_0f7a4 ((mz_wi D 1 117 0 ((D.1 1 117 0) ^^^ ((1 : Int32) <<< (x1 &&& 31)))).1 1 117 0)), (mz_wi (mz_wi D 1 117 0 ((D.1 1 117 0) ^^^ ((1 : Int32) <<< (x1 &&& 31)))) 0 0 13 (0 : Int32)))))
set_option maxHeartbeats 4000000 in
theorem tX11_comes_53 (r : (Int32 × mz_D)) : ∀ (x1 : Int32) (s0 : Int32) (s1 : Int32) (D : mz_D), fX11_comes_53 x1 s0 s1 D = some r → mz_Go IX11_comes (some (.inl r.1), r.2) 0 0 (53, [some (.inr (.inr (some (0, 0)))), some (.inl x1), none], [.inl s0, .inl s1], D) := by
  intro x1 s0 s1 D h
  rw [fX11_comes_53] at h
  refine mz_Go.run (gs := []) (st' := (if s1 = s0 then (56, [some (.inr (.inr (some (0, 0)))), some (.inl x1), none], [], D) else (63, [some (.inr (.inr (some (0, 0)))), some (.inl x1), none], [], D))) bX11_comes_53 oX11_comes_53 rfl trivial ?_
  refine mz_Go.ite (fun hc1 => ?_) (fun hc1 => ?_)
  · have h := mz_ifp hc1 h
    refine mz_Go.run (gs := []) (st' := (59, [some (.inr (.inr (some (0, 0)))), some (.inl x1), none], [.inl (7 : Int32), .inr (.inr (some (0, 0)))], D)) bX11_comes_56 oX11_comes_56 rfl trivial ?_
    refine mz_Go.callV (I := IX11_comes) (J := IX11_refuse) (as := [.inl (7 : Int32)]) (ci := 11) (g := 0) (o := 0) (idx := 100) (pl := 673) (rest := []) (mX11_refuse (7 : Int32) D) kX11_refuse vX11_refuse (by decide +kernel) (by decide +kernel) (by decide +kernel) rfl rfl ⟨rfl, rfl⟩ rfl rfl rfl rfl ?_
    cases h
    exact mz_Go.reti (by decide +kernel) rfl ⟨Nat.le_refl _, Nat.le_refl _⟩ rfl
  · have h := mz_ifn hc1 h
    refine mz_Go.run (gs := [mz_kz 0 0 0, mz_kz 0 1 100, mz_kz 0 1 117, mz_kz 0 1 117, mz_kz 0 0 0, mz_kz 0 1 100, mz_kz 0 1 117]) (st' := (92, [some (.inr (.inr (some (0, 0)))), some (.inl x1), none], [.inl ((mz_wi D 1 117 0 ((D.1 1 117 0) ^^^ ((1 : Int32) <<< (x1 &&& 31)))).1 1 117 0), .inr (.inr (some (0, 0)))], (mz_wi D 1 117 0 ((D.1 1 117 0) ^^^ ((1 : Int32) <<< (x1 &&& 31)))))) bX11_comes_63 oX11_comes_63 rfl ⟨rfl, rfl, rfl, rfl, rfl, rfl, rfl, trivial⟩ ?_
    refine mz_Go.callS (I := IX11_comes) (J := IJ6_bitCount_0f7a4) (as := [.inl ((mz_wi D 1 117 0 ((D.1 1 117 0) ^^^ ((1 : Int32) <<< (x1 &&& 31)))).1 1 117 0)]) (idx := 203) (pl := 1028) (rest := [.inr (.inr (some (0, 0)))]) (mJ6_bitCount_0f7a4 ((mz_wi D 1 117 0 ((D.1 1 117 0) ^^^ ((1 : Int32) <<< (x1 &&& 31)))).1 1 117 0) (mz_wi D 1 117 0 ((D.1 1 117 0) ^^^ ((1 : Int32) <<< (x1 &&& 31)))) _ rfl) kJ6_bitCount_0f7a4 vJ6_bitCount_0f7a4 (by decide +kernel) (by decide +kernel) (by decide +kernel) rfl rfl ⟨rfl, rfl⟩ rfl ?_
    refine mz_Go.callV (I := IX11_comes) (J := IX11_answer) (as := [.inl (fJ6_bitCount_0f7a4 ((mz_wi D 1 117 0 ((D.1 1 117 0) ^^^ ((1 : Int32) <<< (x1 &&& 31)))).1 1 117 0))]) (ci := 11) (g := 0) (o := 0) (idx := 160) (pl := 914) (rest := []) (mX11_answer (fJ6_bitCount_0f7a4 ((mz_wi D 1 117 0 ((D.1 1 117 0) ^^^ ((1 : Int32) <<< (x1 &&& 31)))).1 1 117 0)) (mz_wi D 1 117 0 ((D.1 1 117 0) ^^^ ((1 : Int32) <<< (x1 &&& 31))))) kX11_answer vX11_answer (by decide +kernel) (by decide +kernel) (by decide +kernel) rfl rfl ⟨rfl, rfl⟩ rfl rfl rfl rfl ?_
    cases h
    exact mz_Go.reti (by decide +kernel) rfl ⟨Nat.le_refl _, Nat.le_refl _⟩ rfl
def fX11_comes (x1 : Int32) (x2 : Int32) (D : mz_D) : Option (Int32 × mz_D) := (if (fX4_has 1 x1 D) = 0 then (some ((-1 : Int32), (mz_wi D 0 0 13 (1 : Int32)))) else (if x2 < 0 then (some ((-1 : Int32), (mz_wi D 0 0 13 (1 : Int32)))) else (if x2 ≤ (1 : Int32) then (if x2 = (1 : Int32) then (fX11_comes_53 x1 (1 : Int32) (fX11_isIn (D.1 1 117 0) x1) D) else (fX11_comes_53 x1 (0 : Int32) (fX11_isIn (D.1 1 117 0) x1) D)) else (some ((-1 : Int32), (mz_wi D 0 0 13 (1 : Int32)))))))
set_option maxHeartbeats 4000000 in
theorem mX11_comes (x1 : Int32) (x2 : Int32) (D : mz_D) (r : (Int32 × mz_D)) (h : fX11_comes x1 x2 D = some r) : mz_Met IX11_comes [.inr (.inr (some (0, 0))), .inl x1, .inl x2] D (some (.inl r.1), r.2) := by
  refine mz_Met.of (by decide +kernel) (Nat.le_of_ble_eq_true rfl) ?_
  show mz_Go IX11_comes (some (.inl r.1), r.2) 0 0 (0, [some (.inr (.inr (some (0, 0)))), some (.inl x1), some (.inl x2)], [], D)
  rw [fX11_comes] at h
  refine mz_Go.run (gs := [mz_kz 0 0 0, mz_kz 0 1 100]) (st' := (8, [some (.inr (.inr (some (0, 0)))), some (.inl x1), some (.inl x2)], [.inl x1, .inr (.inr (some (1, 101)))], D)) bX11_comes_0 oX11_comes_0 rfl ⟨rfl, rfl, trivial⟩ ?_
  refine mz_Go.callV (I := IX11_comes) (J := IX4_has) (as := [.inl x1]) (ci := 4) (g := 1) (o := 101) (idx := 229) (pl := 1042) (rest := []) (mX4_has 1 x1 D rfl _ rfl) kX4_has vX4_has (by decide +kernel) (by decide +kernel) (by decide +kernel) rfl rfl ⟨rfl, rfl⟩ rfl rfl rfl rfl ?_
  refine mz_Go.run (gs := []) (st' := (if (fX4_has 1 x1 D) = 0 then (23, [some (.inr (.inr (some (0, 0)))), some (.inl x1), some (.inl x2)], [], D) else (14, [some (.inr (.inr (some (0, 0)))), some (.inl x1), some (.inl x2)], [], D))) bX11_comes_11 oX11_comes_11 rfl trivial ?_
  refine mz_Go.ite (fun hc1 => ?_) (fun hc1 => ?_)
  · have h := mz_ifp hc1 h
    refine mz_Go.run (gs := []) (st' := (25, [some (.inr (.inr (some (0, 0)))), some (.inl x1), some (.inl x2)], [.inl (1 : Int32), .inr (.inr (some (0, 0)))], D)) bX11_comes_23 oX11_comes_23 rfl trivial ?_
    refine mz_Go.callV (I := IX11_comes) (J := IX11_refuse) (as := [.inl (1 : Int32)]) (ci := 11) (g := 0) (o := 0) (idx := 100) (pl := 673) (rest := []) (mX11_refuse (1 : Int32) D) kX11_refuse vX11_refuse (by decide +kernel) (by decide +kernel) (by decide +kernel) rfl rfl ⟨rfl, rfl⟩ rfl rfl rfl rfl ?_
    cases h
    exact mz_Go.reti (by decide +kernel) rfl ⟨Nat.le_refl _, Nat.le_refl _⟩ rfl
  · have h := mz_ifn hc1 h
    refine mz_Go.run (gs := []) (st' := (if x2 < 0 then (23, [some (.inr (.inr (some (0, 0)))), some (.inl x1), some (.inl x2)], [], D) else (18, [some (.inr (.inr (some (0, 0)))), some (.inl x1), some (.inl x2)], [], D))) bX11_comes_14 oX11_comes_14 rfl trivial ?_
    refine mz_Go.ite (fun hc2 => ?_) (fun hc2 => ?_)
    · have h := mz_ifp hc2 h
      refine mz_Go.run (gs := []) (st' := (25, [some (.inr (.inr (some (0, 0)))), some (.inl x1), some (.inl x2)], [.inl (1 : Int32), .inr (.inr (some (0, 0)))], D)) bX11_comes_23 oX11_comes_23 rfl trivial ?_
      refine mz_Go.callV (I := IX11_comes) (J := IX11_refuse) (as := [.inl (1 : Int32)]) (ci := 11) (g := 0) (o := 0) (idx := 100) (pl := 673) (rest := []) (mX11_refuse (1 : Int32) D) kX11_refuse vX11_refuse (by decide +kernel) (by decide +kernel) (by decide +kernel) rfl rfl ⟨rfl, rfl⟩ rfl rfl rfl rfl ?_
      cases h
      exact mz_Go.reti (by decide +kernel) rfl ⟨Nat.le_refl _, Nat.le_refl _⟩ rfl
    · have h := mz_ifn hc2 h
      refine mz_Go.run (gs := []) (st' := (if x2 ≤ (1 : Int32) then (29, [some (.inr (.inr (some (0, 0)))), some (.inl x1), some (.inl x2)], [], D) else (23, [some (.inr (.inr (some (0, 0)))), some (.inl x1), some (.inl x2)], [], D))) bX11_comes_18 oX11_comes_18 rfl trivial ?_
      refine mz_Go.ite (fun hc3 => ?_) (fun hc3 => ?_)
      · have h := mz_ifp hc3 h
        refine mz_Go.run (gs := [mz_kz 0 0 0, mz_kz 0 1 100, mz_kz 0 1 117]) (st' := (40, [some (.inr (.inr (some (0, 0)))), some (.inl x1), some (.inl x2)], [.inl x1, .inl (D.1 1 117 0)], D)) bX11_comes_29 oX11_comes_29 rfl ⟨rfl, rfl, rfl, trivial⟩ ?_
        refine mz_Go.callS (I := IX11_comes) (J := IX11_isIn) (as := [.inl (D.1 1 117 0), .inl x1]) (idx := 337) (pl := 1266) (rest := []) (mX11_isIn (D.1 1 117 0) x1 D _ rfl) kX11_isIn vX11_isIn (by decide +kernel) (by decide +kernel) (by decide +kernel) rfl rfl ⟨rfl, rfl⟩ rfl ?_
        refine mz_Go.run (gs := []) (st' := (if x2 = (1 : Int32) then (48, [some (.inr (.inr (some (0, 0)))), some (.inl x1), some (.inl x2)], [.inl (fX11_isIn (D.1 1 117 0) x1)], D) else (52, [some (.inr (.inr (some (0, 0)))), some (.inl x1), some (.inl x2)], [.inl (fX11_isIn (D.1 1 117 0) x1)], D))) bX11_comes_43 oX11_comes_43 rfl trivial ?_
        refine mz_Go.ite (fun hc4 => ?_) (fun hc4 => ?_)
        · have h := mz_ifp hc4 h
          refine mz_Go.run (gs := []) (st' := (53, [some (.inr (.inr (some (0, 0)))), some (.inl x1), some (.inl x2)], [.inl (1 : Int32), .inl (fX11_isIn (D.1 1 117 0) x1)], D)) bX11_comes_48 oX11_comes_48 rfl trivial ?_
          exact mz_Go.drop [true, true, false] (tX11_comes_53 r x1 (1 : Int32) (fX11_isIn (D.1 1 117 0) x1) D h)
        · have h := mz_ifn hc4 h
          refine mz_Go.run (gs := []) (st' := (53, [some (.inr (.inr (some (0, 0)))), some (.inl x1), some (.inl x2)], [.inl (0 : Int32), .inl (fX11_isIn (D.1 1 117 0) x1)], D)) bX11_comes_52 oX11_comes_52 rfl trivial ?_
          exact mz_Go.drop [true, true, false] (tX11_comes_53 r x1 (0 : Int32) (fX11_isIn (D.1 1 117 0) x1) D h)
      · have h := mz_ifn hc3 h
        refine mz_Go.run (gs := []) (st' := (25, [some (.inr (.inr (some (0, 0)))), some (.inl x1), some (.inl x2)], [.inl (1 : Int32), .inr (.inr (some (0, 0)))], D)) bX11_comes_23 oX11_comes_23 rfl trivial ?_
        refine mz_Go.callV (I := IX11_comes) (J := IX11_refuse) (as := [.inl (1 : Int32)]) (ci := 11) (g := 0) (o := 0) (idx := 100) (pl := 673) (rest := []) (mX11_refuse (1 : Int32) D) kX11_refuse vX11_refuse (by decide +kernel) (by decide +kernel) (by decide +kernel) rfl rfl ⟨rfl, rfl⟩ rfl rfl rfl rfl ?_
        cases h
        exact mz_Go.reti (by decide +kernel) rfl ⟨Nat.le_refl _, Nat.le_refl _⟩ rfl
def bX11_buys_0 : List mz_E := [(0, .aload_n 0, 0, 0, 0, 0, 0), (1, .aload_n 0, 0, 0, 0, 0, 0), (2, .getfield 32, 11, 4, 563, 0, 0), (5, .getfield 211, 6, 3, 489, 0, 0)]
theorem oX11_buys_0 : bX11_buys_0.all (mz_ok RX11 cX11_buys 1) = true := by decide +kernel
abbrev IX11_buys : mz_I := (yX11_buys, cX11_buys, 1, (some .int), 0, 2, 0, 0)
theorem kX11_buys : mz_okm IX11_buys 1400 126 1398 0 = true := by decide +kernel
theorem vX11_buys : mz_okV IX11_buys 1398 1399 = true := by decide +kernel
def fX11_buys (D : mz_D) : Option (Int32 × mz_D) := (Option.bind (fX0_buyer 1 D) fun q1 => (Option.bind (fX11_answerIfAny q1 D) fun q2 => (some (q2.1, q2.2))))
set_option maxHeartbeats 4000000 in
theorem mX11_buys (D : mz_D) (r : (Int32 × mz_D)) (h : fX11_buys D = some r) : mz_Met IX11_buys [.inr (.inr (some (0, 0)))] D (some (.inl r.1), r.2) := by
  refine mz_Met.of (by decide +kernel) (Nat.le_of_ble_eq_true rfl) ?_
  show mz_Go IX11_buys (some (.inl r.1), r.2) 0 0 (0, [some (.inr (.inr (some (0, 0))))], [], D)
  rw [fX11_buys] at h
  refine mz_Go.run (gs := [mz_kz 0 0 0, mz_kz 0 1 100]) (st' := (8, [some (.inr (.inr (some (0, 0))))], [.inr (.inr (some (1, 117))), .inr (.inr (some (0, 0)))], D)) bX11_buys_0 oX11_buys_0 rfl ⟨rfl, rfl, trivial⟩ ?_
  obtain ⟨q1, hq1, h⟩ := mz_bd_some h
  refine mz_Go.callV (I := IX11_buys) (J := IX0_buyer) (as := []) (ci := 0) (g := 1) (o := 117) (idx := 403) (pl := 1401) (rest := [.inr (.inr (some (0, 0)))]) (mX0_buyer 1 D rfl q1 hq1) kX0_buyer vX0_buyer (by decide +kernel) (by decide +kernel) (by decide +kernel) rfl rfl ⟨rfl, rfl⟩ rfl rfl rfl rfl ?_
  obtain ⟨q2, hq2, h⟩ := mz_bd_some h
  refine mz_Go.callV (I := IX11_buys) (J := IX11_answerIfAny) (as := [.inl q1]) (ci := 11) (g := 0) (o := 0) (idx := 245) (pl := 1046) (rest := []) (mX11_answerIfAny q1 D q2 hq2) kX11_answerIfAny vX11_answerIfAny (by decide +kernel) (by decide +kernel) (by decide +kernel) rfl rfl ⟨rfl, rfl⟩ rfl rfl rfl rfl ?_
  cases h
  exact mz_Go.reti (by decide +kernel) rfl ⟨Nat.le_refl _, Nat.le_refl _⟩ rfl
def bX11_round_0 : List mz_E := [(0, .aload_n 0, 0, 0, 0, 0, 0), (1, .aload_n 0, 0, 0, 0, 0, 0), (2, .getfield 32, 11, 4, 563, 0, 0), (5, .getfield 211, 6, 3, 489, 0, 0)]
theorem oX11_round_0 : bX11_round_0.all (mz_ok RX11 cX11_round 1) = true := by decide +kernel
abbrev IX11_round : mz_I := (yX11_round, cX11_round, 1, (some .int), 0, 3, 0, 0)
theorem kX11_round : mz_okm IX11_round 1409 126 1407 0 = true := by decide +kernel
theorem vX11_round : mz_okV IX11_round 1407 1408 = true := by decide +kernel
def fX11_round (D : mz_D) : Option (Int32 × mz_D) := (Option.bind (fX0_serve 1 D) fun q1 => (Option.bind (fX11_answerIfAny q1.1 q1.2) fun q2 => (some (q2.1, q2.2))))
set_option maxHeartbeats 4000000 in
theorem mX11_round (D : mz_D) (r : (Int32 × mz_D)) (h : fX11_round D = some r) : mz_Met IX11_round [.inr (.inr (some (0, 0)))] D (some (.inl r.1), r.2) := by
  refine mz_Met.of (by decide +kernel) (Nat.le_of_ble_eq_true rfl) ?_
  show mz_Go IX11_round (some (.inl r.1), r.2) 0 0 (0, [some (.inr (.inr (some (0, 0))))], [], D)
  rw [fX11_round] at h
  refine mz_Go.run (gs := [mz_kz 0 0 0, mz_kz 0 1 100]) (st' := (8, [some (.inr (.inr (some (0, 0))))], [.inr (.inr (some (1, 117))), .inr (.inr (some (0, 0)))], D)) bX11_round_0 oX11_round_0 rfl ⟨rfl, rfl, trivial⟩ ?_
  obtain ⟨q1, hq1, h⟩ := mz_bd_some h
  refine mz_Go.callV (I := IX11_round) (J := IX0_serve) (as := []) (ci := 0) (g := 1) (o := 117) (idx := 406) (pl := 1410) (rest := [.inr (.inr (some (0, 0)))]) (mX0_serve 1 D rfl q1 hq1) kX0_serve vX0_serve (by decide +kernel) (by decide +kernel) (by decide +kernel) rfl rfl ⟨rfl, rfl⟩ rfl rfl rfl rfl ?_
  obtain ⟨q2, hq2, h⟩ := mz_bd_some h
  refine mz_Go.callV (I := IX11_round) (J := IX11_answerIfAny) (as := [.inl q1.1]) (ci := 11) (g := 0) (o := 0) (idx := 245) (pl := 1046) (rest := []) (mX11_answerIfAny q1.1 q1.2 q2 hq2) kX11_answerIfAny vX11_answerIfAny (by decide +kernel) (by decide +kernel) (by decide +kernel) rfl rfl ⟨rfl, rfl⟩ rfl rfl rfl rfl ?_
  cases h
  exact mz_Go.reti (by decide +kernel) rfl ⟨Nat.le_refl _, Nat.le_refl _⟩ rfl
def bX11_drinks_0 : List mz_E := [(0, .aload_n 0, 0, 0, 0, 0, 0), (1, .getfield 32, 11, 4, 563, 0, 0), (4, .getfield 151, 6, 0, 477, 0, 0), (7, .iload_n 1, 0, 0, 0, 0, 0)]
theorem oX11_drinks_0 : bX11_drinks_0.all (mz_ok RX11 cX11_drinks 2) = true := by decide +kernel
def bX11_drinks_11 : List mz_E := [(11, .ifCond .eq 22, 0, 33, 0, 0, 0)]
theorem oX11_drinks_11 : bX11_drinks_11.all (mz_ok RX11 cX11_drinks 2) = true := by decide +kernel
def bX11_drinks_33 : List mz_E := [(33, .aload_n 0, 0, 0, 0, 0, 0), (34, .iconst 1, 0, 0, 0, 1, 0)]
theorem oX11_drinks_33 : bX11_drinks_33.all (mz_ok RX11 cX11_drinks 2) = true := by decide +kernel
def bX11_drinks_14 : List mz_E := [(14, .aload_n 0, 0, 0, 0, 0, 0), (15, .aload_n 0, 0, 0, 0, 0, 0), (16, .getfield 32, 11, 4, 563, 0, 0), (19, .getfield 211, 6, 3, 489, 0, 0), (22, .getfield 409, 0, 2, 413, 0, 0), (25, .iload_n 1, 0, 0, 0, 0, 0), (26, .iaload, 0, 0, 0, 0, 0)]
theorem oX11_drinks_14 : bX11_drinks_14.all (mz_ok RX11 cX11_drinks 2) = true := by decide +kernel
def bX11_drinks_30 : List mz_E := [(30, .goto 8, 0, 38, 0, 0, 0)]
theorem oX11_drinks_30 : bX11_drinks_30.all (mz_ok RX11 cX11_drinks 2) = true := by decide +kernel
abbrev IX11_drinks : mz_I := (yX11_drinks, cX11_drinks, 2, (some .int), 0, 1, 0, 0)
theorem kX11_drinks : mz_okm IX11_drinks 1418 126 1416 1 = true := by decide +kernel
theorem vX11_drinks : mz_okV IX11_drinks 1416 1417 = true := by decide +kernel
def fX11_drinks (x1 : Int32) (D : mz_D) : Option (Int32 × mz_D) := (if (fX4_has 1 x1 D) = 0 then (some ((-1 : Int32), (mz_wi D 0 0 13 (1 : Int32)))) else (mz_gd (mz_ix x1 6) (some ((D.1 1 118 (x1).toNatClampNeg), (mz_wi D 0 0 13 (0 : Int32))))))
set_option maxHeartbeats 4000000 in
theorem mX11_drinks (x1 : Int32) (D : mz_D) (r : (Int32 × mz_D)) (h : fX11_drinks x1 D = some r) : mz_Met IX11_drinks [.inr (.inr (some (0, 0))), .inl x1] D (some (.inl r.1), r.2) := by
  refine mz_Met.of (by decide +kernel) (Nat.le_of_ble_eq_true rfl) ?_
  show mz_Go IX11_drinks (some (.inl r.1), r.2) 0 0 (0, [some (.inr (.inr (some (0, 0)))), some (.inl x1)], [], D)
  rw [fX11_drinks] at h
  refine mz_Go.run (gs := [mz_kz 0 0 0, mz_kz 0 1 100]) (st' := (8, [some (.inr (.inr (some (0, 0)))), some (.inl x1)], [.inl x1, .inr (.inr (some (1, 101)))], D)) bX11_drinks_0 oX11_drinks_0 rfl ⟨rfl, rfl, trivial⟩ ?_
  refine mz_Go.callV (I := IX11_drinks) (J := IX4_has) (as := [.inl x1]) (ci := 4) (g := 1) (o := 101) (idx := 229) (pl := 1042) (rest := []) (mX4_has 1 x1 D rfl _ rfl) kX4_has vX4_has (by decide +kernel) (by decide +kernel) (by decide +kernel) rfl rfl ⟨rfl, rfl⟩ rfl rfl rfl rfl ?_
  refine mz_Go.run (gs := []) (st' := (if (fX4_has 1 x1 D) = 0 then (33, [some (.inr (.inr (some (0, 0)))), some (.inl x1)], [], D) else (14, [some (.inr (.inr (some (0, 0)))), some (.inl x1)], [], D))) bX11_drinks_11 oX11_drinks_11 rfl trivial ?_
  refine mz_Go.ite (fun hc1 => ?_) (fun hc1 => ?_)
  · have h := mz_ifp hc1 h
    refine mz_Go.run (gs := []) (st' := (35, [some (.inr (.inr (some (0, 0)))), some (.inl x1)], [.inl (1 : Int32), .inr (.inr (some (0, 0)))], D)) bX11_drinks_33 oX11_drinks_33 rfl trivial ?_
    refine mz_Go.callV (I := IX11_drinks) (J := IX11_refuse) (as := [.inl (1 : Int32)]) (ci := 11) (g := 0) (o := 0) (idx := 100) (pl := 673) (rest := []) (mX11_refuse (1 : Int32) D) kX11_refuse vX11_refuse (by decide +kernel) (by decide +kernel) (by decide +kernel) rfl rfl ⟨rfl, rfl⟩ rfl rfl rfl rfl ?_
    cases h
    exact mz_Go.reti (by decide +kernel) rfl ⟨Nat.le_refl _, Nat.le_refl _⟩ rfl
  · have h := mz_ifn hc1 h
    obtain ⟨hb2, h⟩ := mz_gd_some h
    refine mz_Go.run (gs := [mz_kz 0 0 0, mz_kz 0 1 100, mz_kz 0 1 117, mz_kz 0 1 118, mz_ix x1 6]) (st' := (27, [some (.inr (.inr (some (0, 0)))), some (.inl x1)], [.inl (D.1 1 118 (x1).toNatClampNeg), .inr (.inr (some (0, 0)))], D)) bX11_drinks_14 oX11_drinks_14 rfl ⟨rfl, rfl, rfl, rfl, hb2, trivial⟩ ?_
    refine mz_Go.callV (I := IX11_drinks) (J := IX11_answer) (as := [.inl (D.1 1 118 (x1).toNatClampNeg)]) (ci := 11) (g := 0) (o := 0) (idx := 160) (pl := 914) (rest := []) (mX11_answer (D.1 1 118 (x1).toNatClampNeg) D) kX11_answer vX11_answer (by decide +kernel) (by decide +kernel) (by decide +kernel) rfl rfl ⟨rfl, rfl⟩ rfl rfl rfl rfl ?_
    refine mz_Go.run (gs := []) (st' := (38, [some (.inr (.inr (some (0, 0)))), some (.inl x1)], [.inl (D.1 1 118 (x1).toNatClampNeg)], (mz_wi D 0 0 13 (0 : Int32)))) bX11_drinks_30 oX11_drinks_30 rfl trivial ?_
    cases h
    exact mz_Go.reti (by decide +kernel) rfl ⟨Nat.le_refl _, Nat.le_refl _⟩ rfl
def bX11_evenRounds_0 : List mz_E := [(0, .aload_n 0, 0, 0, 0, 0, 0), (1, .getfield 36, 11, 5, 564, 0, 0), (4, .getfield 211, 6, 3, 489, 0, 0), (7, .astore_n 1, 0, 0, 0, 0, 0), (8, .aload_n 1, 0, 0, 0, 0, 0), (9, .aload_n 0, 0, 0, 0, 0, 0), (10, .getfield 32, 11, 4, 563, 0, 0), (13, .getfield 211, 6, 3, 489, 0, 0)]
theorem oX11_evenRounds_0 : bX11_evenRounds_0.all (mz_ok RX11 cX11_evenRounds 3) = true := by decide +kernel
def bX11_evenRounds_19 : List mz_E := [(19, .iconst 0, 0, 0, 0, 0, 0), (20, .istore_n 2, 0, 0, 0, 0, 0)]
theorem oX11_evenRounds_19 : bX11_evenRounds_19.all (mz_ok RX11 cX11_evenRounds 3) = true := by decide +kernel
def bX11_evenRounds_21 : List mz_E := [(21, .iload_n 2, 0, 0, 0, 0, 0), (22, .bipush 60, 0, 0, 0, 60, 0), (24, .if_icmp .gt 34, 0, 58, 0, 0, 0)]
theorem oX11_evenRounds_21 : bX11_evenRounds_21.all (mz_ok RX11 cX11_evenRounds 3) = true := by decide +kernel
def bX11_evenRounds_58 : List mz_E := [(58, .aload_n 0, 0, 0, 0, 0, 0), (59, .bipush 6, 0, 0, 0, 6, 0)]
theorem oX11_evenRounds_58 : bX11_evenRounds_58.all (mz_ok RX11 cX11_evenRounds 3) = true := by decide +kernel
def bX11_evenRounds_27 : List mz_E := [(27, .aload_n 1, 0, 0, 0, 0, 0), (28, .getfield 226, 0, 0, 409, 0, 0), (31, .ifCond .eq 27, 0, 58, 0, 0, 0)]
theorem oX11_evenRounds_27 : bX11_evenRounds_27.all (mz_ok RX11 cX11_evenRounds 3) = true := by decide +kernel
def bX11_evenRounds_34 : List mz_E := [(34, .aload_n 1, 0, 0, 0, 0, 0)]
theorem oX11_evenRounds_34 : bX11_evenRounds_34.all (mz_ok RX11 cX11_evenRounds 3) = true := by decide +kernel
def bX11_evenRounds_38 : List mz_E := [(38, .ifCond .eq 9, 0, 47, 0, 0, 0)]
theorem oX11_evenRounds_38 : bX11_evenRounds_38.all (mz_ok RX11 cX11_evenRounds 3) = true := by decide +kernel
def bX11_evenRounds_47 : List mz_E := [(47, .aload_n 1, 0, 0, 0, 0, 0)]
theorem oX11_evenRounds_47 : bX11_evenRounds_47.all (mz_ok RX11 cX11_evenRounds 3) = true := by decide +kernel
def bX11_evenRounds_51 : List mz_E := [(51, .pop, 0, 0, 0, 0, 0), (52, .iinc 2 1, 0, 0, 0, 1, 0), (55, .goto (-34), 0, 21, 0, 0, 0)]
theorem oX11_evenRounds_51 : bX11_evenRounds_51.all (mz_ok RX11 cX11_evenRounds 3) = true := by decide +kernel
def bX11_evenRounds_41 : List mz_E := [(41, .aload_n 0, 0, 0, 0, 0, 0), (42, .iload_n 2, 0, 0, 0, 0, 0)]
theorem oX11_evenRounds_41 : bX11_evenRounds_41.all (mz_ok RX11 cX11_evenRounds 3) = true := by decide +kernel
abbrev IX11_evenRounds : mz_I := (yX11_evenRounds, cX11_evenRounds, 3, (some .int), 0, 3, 0, 0)
theorem kX11_evenRounds : mz_okm IX11_evenRounds 1422 126 1420 0 = true := by decide +kernel
theorem vX11_evenRounds : mz_okV IX11_evenRounds 1420 1421 = true := by decide +kernel
def fX11_evenRounds_21 : Nat → Int32 → mz_D → Option (Int32 × mz_D)
  | 0 => fun _ _ => none
  | n + 1 => fun x2 D => (if (60 : Int32) < x2 then (some ((-1 : Int32), (mz_wi D 0 0 13 (6 : Int32)))) else (if (D.1 2 117 0) = 0 then (some ((-1 : Int32), (mz_wi D 0 0 13 (6 : Int32)))) else (Option.bind (fX0_isEven 2 D) fun q3 => (if q3 = 0 then (Option.bind (fX0_serve 2 D) fun q5 => ((fX11_evenRounds_21 n) (x2 + (1 : Int32)) q5.2)) else (some (x2, (mz_wi D 0 0 13 (0 : Int32))))))))
set_option maxHeartbeats 4000000 in
theorem tX11_evenRounds_21 (r : (Int32 × mz_D)) : ∀ (n : Nat) (x2 : Int32) (D : mz_D), fX11_evenRounds_21 n x2 D = some r → mz_Go IX11_evenRounds (some (.inl r.1), r.2) 0 0 (21, [some (.inr (.inr (some (0, 0)))), some (.inr (.inr (some (2, 117)))), some (.inl x2)], [], D) := by
  intro n
  induction n with
  | zero => intro x2 D h; have h : (none : Option (Int32 × mz_D)) = some r := h; cases h
  | succ n ih =>
    intro x2 D h
    rw [fX11_evenRounds_21] at h
    refine mz_Go.run (gs := []) (st' := (if (60 : Int32) < x2 then (58, [some (.inr (.inr (some (0, 0)))), some (.inr (.inr (some (2, 117)))), some (.inl x2)], [], D) else (27, [some (.inr (.inr (some (0, 0)))), some (.inr (.inr (some (2, 117)))), some (.inl x2)], [], D))) bX11_evenRounds_21 oX11_evenRounds_21 rfl trivial ?_
    refine mz_Go.ite (fun hc1 => ?_) (fun hc1 => ?_)
    · have h := mz_ifp hc1 h
      refine mz_Go.run (gs := []) (st' := (61, [some (.inr (.inr (some (0, 0)))), some (.inr (.inr (some (2, 117)))), some (.inl x2)], [.inl (6 : Int32), .inr (.inr (some (0, 0)))], D)) bX11_evenRounds_58 oX11_evenRounds_58 rfl trivial ?_
      refine mz_Go.callV (I := IX11_evenRounds) (J := IX11_refuse) (as := [.inl (6 : Int32)]) (ci := 11) (g := 0) (o := 0) (idx := 100) (pl := 673) (rest := []) (mX11_refuse (6 : Int32) D) kX11_refuse vX11_refuse (by decide +kernel) (by decide +kernel) (by decide +kernel) rfl rfl ⟨rfl, rfl⟩ rfl rfl rfl rfl ?_
      cases h
      exact mz_Go.reti (by decide +kernel) rfl ⟨Nat.le_refl _, Nat.le_refl _⟩ rfl
    · have h := mz_ifn hc1 h
      refine mz_Go.run (gs := [mz_kz 0 2 117]) (st' := (if (D.1 2 117 0) = 0 then (58, [some (.inr (.inr (some (0, 0)))), some (.inr (.inr (some (2, 117)))), some (.inl x2)], [], D) else (34, [some (.inr (.inr (some (0, 0)))), some (.inr (.inr (some (2, 117)))), some (.inl x2)], [], D))) bX11_evenRounds_27 oX11_evenRounds_27 rfl ⟨rfl, trivial⟩ ?_
      refine mz_Go.ite (fun hc2 => ?_) (fun hc2 => ?_)
      · have h := mz_ifp hc2 h
        refine mz_Go.run (gs := []) (st' := (61, [some (.inr (.inr (some (0, 0)))), some (.inr (.inr (some (2, 117)))), some (.inl x2)], [.inl (6 : Int32), .inr (.inr (some (0, 0)))], D)) bX11_evenRounds_58 oX11_evenRounds_58 rfl trivial ?_
        refine mz_Go.callV (I := IX11_evenRounds) (J := IX11_refuse) (as := [.inl (6 : Int32)]) (ci := 11) (g := 0) (o := 0) (idx := 100) (pl := 673) (rest := []) (mX11_refuse (6 : Int32) D) kX11_refuse vX11_refuse (by decide +kernel) (by decide +kernel) (by decide +kernel) rfl rfl ⟨rfl, rfl⟩ rfl rfl rfl rfl ?_
        cases h
        exact mz_Go.reti (by decide +kernel) rfl ⟨Nat.le_refl _, Nat.le_refl _⟩ rfl
      · have h := mz_ifn hc2 h
        refine mz_Go.run (gs := []) (st' := (35, [some (.inr (.inr (some (0, 0)))), some (.inr (.inr (some (2, 117)))), some (.inl x2)], [.inr (.inr (some (2, 117)))], D)) bX11_evenRounds_34 oX11_evenRounds_34 rfl trivial ?_
        obtain ⟨q3, hq3, h⟩ := mz_bd_some h
        refine mz_Go.callV (I := IX11_evenRounds) (J := IX0_isEven) (as := []) (ci := 0) (g := 2) (o := 117) (idx := 415) (pl := 1424) (rest := []) (mX0_isEven 2 D rfl q3 hq3) kX0_isEven vX0_isEven (by decide +kernel) (by decide +kernel) (by decide +kernel) rfl rfl ⟨rfl, rfl⟩ rfl rfl rfl rfl ?_
        refine mz_Go.run (gs := []) (st' := (if q3 = 0 then (47, [some (.inr (.inr (some (0, 0)))), some (.inr (.inr (some (2, 117)))), some (.inl x2)], [], D) else (41, [some (.inr (.inr (some (0, 0)))), some (.inr (.inr (some (2, 117)))), some (.inl x2)], [], D))) bX11_evenRounds_38 oX11_evenRounds_38 rfl trivial ?_
        refine mz_Go.ite (fun hc4 => ?_) (fun hc4 => ?_)
        · have h := mz_ifp hc4 h
          refine mz_Go.run (gs := []) (st' := (48, [some (.inr (.inr (some (0, 0)))), some (.inr (.inr (some (2, 117)))), some (.inl x2)], [.inr (.inr (some (2, 117)))], D)) bX11_evenRounds_47 oX11_evenRounds_47 rfl trivial ?_
          obtain ⟨q5, hq5, h⟩ := mz_bd_some h
          refine mz_Go.callV (I := IX11_evenRounds) (J := IX0_serve) (as := []) (ci := 0) (g := 2) (o := 117) (idx := 406) (pl := 1410) (rest := []) (mX0_serve 2 D rfl q5 hq5) kX0_serve vX0_serve (by decide +kernel) (by decide +kernel) (by decide +kernel) rfl rfl ⟨rfl, rfl⟩ rfl rfl rfl rfl ?_
          refine mz_Go.run (gs := []) (st' := (21, [some (.inr (.inr (some (0, 0)))), some (.inr (.inr (some (2, 117)))), some (.inl (x2 + (1 : Int32)))], [], q5.2)) bX11_evenRounds_51 oX11_evenRounds_51 rfl trivial ?_
          exact mz_Go.drop [true, true, true] (ih (x2 + (1 : Int32)) q5.2 h)
        · have h := mz_ifn hc4 h
          refine mz_Go.run (gs := []) (st' := (43, [some (.inr (.inr (some (0, 0)))), some (.inr (.inr (some (2, 117)))), some (.inl x2)], [.inl x2, .inr (.inr (some (0, 0)))], D)) bX11_evenRounds_41 oX11_evenRounds_41 rfl trivial ?_
          refine mz_Go.callV (I := IX11_evenRounds) (J := IX11_answer) (as := [.inl x2]) (ci := 11) (g := 0) (o := 0) (idx := 160) (pl := 914) (rest := []) (mX11_answer x2 D) kX11_answer vX11_answer (by decide +kernel) (by decide +kernel) (by decide +kernel) rfl rfl ⟨rfl, rfl⟩ rfl rfl rfl rfl ?_
          cases h
          exact mz_Go.reti (by decide +kernel) rfl ⟨Nat.le_refl _, Nat.le_refl _⟩ rfl
def fX11_evenRounds (D : mz_D) : Option (Int32 × mz_D) := (Option.bind (fX0_copyFrom 2 1 D) fun q1 => (fX11_evenRounds_21 mz_N (0 : Int32) q1))
set_option maxHeartbeats 4000000 in
theorem mX11_evenRounds (D : mz_D) (r : (Int32 × mz_D)) (h : fX11_evenRounds D = some r) : mz_Met IX11_evenRounds [.inr (.inr (some (0, 0)))] D (some (.inl r.1), r.2) := by
  refine mz_Met.of (by decide +kernel) (Nat.le_of_ble_eq_true rfl) ?_
  show mz_Go IX11_evenRounds (some (.inl r.1), r.2) 0 0 (0, [some (.inr (.inr (some (0, 0)))), none, none], [], D)
  rw [fX11_evenRounds] at h
  refine mz_Go.run (gs := [mz_kz 0 0 0, mz_kz 0 2 100, mz_kz 0 0 0, mz_kz 0 1 100]) (st' := (16, [some (.inr (.inr (some (0, 0)))), some (.inr (.inr (some (2, 117)))), none], [.inr (.inr (some (1, 117))), .inr (.inr (some (2, 117)))], D)) bX11_evenRounds_0 oX11_evenRounds_0 rfl ⟨rfl, rfl, rfl, rfl, trivial⟩ ?_
  obtain ⟨q1, hq1, h⟩ := mz_bd_some h
  refine mz_Go.callV (I := IX11_evenRounds) (J := IX0_copyFrom) (as := [.inr (.inr (some (1, 117)))]) (ci := 0) (g := 2) (o := 117) (idx := 412) (pl := 1423) (rest := []) (mX0_copyFrom 2 1 D rfl rfl q1 hq1) kX0_copyFrom vX0_copyFrom (by decide +kernel) (by decide +kernel) (by decide +kernel) rfl rfl ⟨rfl, rfl⟩ rfl rfl rfl rfl ?_
  refine mz_Go.run (gs := []) (st' := (21, [some (.inr (.inr (some (0, 0)))), some (.inr (.inr (some (2, 117)))), some (.inl (0 : Int32))], [], q1)) bX11_evenRounds_19 oX11_evenRounds_19 rfl trivial ?_
  exact mz_Go.drop [true, true, true] (tX11_evenRounds_21 r mz_N (0 : Int32) q1 h)
def bX11_isGiftRow_0 : List mz_E := [(0, .iload_n 0, 0, 0, 0, 0, 0), (1, .iconst 1, 0, 0, 0, 1, 0), (2, .if_icmp .lt 24, 0, 26, 0, 0, 0)]
theorem oX11_isGiftRow_0 : bX11_isGiftRow_0.all (mz_ok RX11 cX11_isGiftRow 2) = true := by decide +kernel
def bX11_isGiftRow_26 : List mz_E := [(26, .iconst 0, 0, 0, 0, 0, 0)]
theorem oX11_isGiftRow_26 : bX11_isGiftRow_26.all (mz_ok RX11 cX11_isGiftRow 2) = true := by decide +kernel
def bX11_isGiftRow_5 : List mz_E := [(5, .iload_n 0, 0, 0, 0, 0, 0), (6, .sipush 999, 0, 0, 0, 999, 0), (9, .if_icmp .gt 17, 0, 26, 0, 0, 0)]
theorem oX11_isGiftRow_5 : bX11_isGiftRow_5.all (mz_ok RX11 cX11_isGiftRow 2) = true := by decide +kernel
def bX11_isGiftRow_12 : List mz_E := [(12, .iload_n 1, 0, 0, 0, 0, 0), (13, .ifCond .lt 13, 0, 26, 0, 0, 0)]
theorem oX11_isGiftRow_12 : bX11_isGiftRow_12.all (mz_ok RX11 cX11_isGiftRow 2) = true := by decide +kernel
def bX11_isGiftRow_16 : List mz_E := [(16, .iload_n 1, 0, 0, 0, 0, 0), (17, .bipush 100, 0, 0, 0, 100, 0), (19, .if_icmp .gt 7, 0, 26, 0, 0, 0)]
theorem oX11_isGiftRow_16 : bX11_isGiftRow_16.all (mz_ok RX11 cX11_isGiftRow 2) = true := by decide +kernel
def bX11_isGiftRow_22 : List mz_E := [(22, .iconst 1, 0, 0, 0, 1, 0), (23, .goto 4, 0, 27, 0, 0, 0)]
theorem oX11_isGiftRow_22 : bX11_isGiftRow_22.all (mz_ok RX11 cX11_isGiftRow 2) = true := by decide +kernel
abbrev IX11_isGiftRow : mz_I := (yX11_isGiftRow, cX11_isGiftRow, 2, (some .boolean), 9, 0, 0, 0)
theorem kX11_isGiftRow : mz_okm IX11_isGiftRow 1434 126 1433 2 = true := by decide +kernel
theorem vX11_isGiftRow : mz_okS IX11_isGiftRow 1433 = true := by decide +kernel
def fX11_isGiftRow (x0 : Int32) (x1 : Int32) : Int32 := (if x0 < (1 : Int32) then (0 : Int32) else (if (999 : Int32) < x0 then (0 : Int32) else (if x1 < 0 then (0 : Int32) else (if (100 : Int32) < x1 then (0 : Int32) else (1 : Int32)))))
set_option maxHeartbeats 4000000 in
theorem mX11_isGiftRow (x0 : Int32) (x1 : Int32) (D : mz_D) (r : Int32) (h : fX11_isGiftRow x0 x1 = r) : mz_Met IX11_isGiftRow [.inl x0, .inl x1] D (some (.inl r), D) := by
  refine mz_Met.of (by decide +kernel) (Nat.le_of_ble_eq_true rfl) ?_
  show mz_Go IX11_isGiftRow (some (.inl r), D) 0 0 (0, [some (.inl x0), some (.inl x1)], [], D)
  rw [fX11_isGiftRow] at h
  refine mz_Go.run (gs := []) (st' := (if x0 < (1 : Int32) then (26, [some (.inl x0), some (.inl x1)], [], D) else (5, [some (.inl x0), some (.inl x1)], [], D))) bX11_isGiftRow_0 oX11_isGiftRow_0 rfl trivial ?_
  refine mz_Go.ite (fun hc1 => ?_) (fun hc1 => ?_)
  · have h := mz_ifp hc1 h
    refine mz_Go.run (gs := []) (st' := (27, [some (.inl x0), some (.inl x1)], [.inl (0 : Int32)], D)) bX11_isGiftRow_26 oX11_isGiftRow_26 rfl trivial ?_
    subst h
    exact mz_Go.retz (by decide +kernel) rfl ⟨Nat.le_refl _, Nat.le_refl _⟩ (by decide) rfl
  · have h := mz_ifn hc1 h
    refine mz_Go.run (gs := []) (st' := (if (999 : Int32) < x0 then (26, [some (.inl x0), some (.inl x1)], [], D) else (12, [some (.inl x0), some (.inl x1)], [], D))) bX11_isGiftRow_5 oX11_isGiftRow_5 rfl trivial ?_
    refine mz_Go.ite (fun hc2 => ?_) (fun hc2 => ?_)
    · have h := mz_ifp hc2 h
      refine mz_Go.run (gs := []) (st' := (27, [some (.inl x0), some (.inl x1)], [.inl (0 : Int32)], D)) bX11_isGiftRow_26 oX11_isGiftRow_26 rfl trivial ?_
      subst h
      exact mz_Go.retz (by decide +kernel) rfl ⟨Nat.le_refl _, Nat.le_refl _⟩ (by decide) rfl
    · have h := mz_ifn hc2 h
      refine mz_Go.run (gs := []) (st' := (if x1 < 0 then (26, [some (.inl x0), some (.inl x1)], [], D) else (16, [some (.inl x0), some (.inl x1)], [], D))) bX11_isGiftRow_12 oX11_isGiftRow_12 rfl trivial ?_
      refine mz_Go.ite (fun hc3 => ?_) (fun hc3 => ?_)
      · have h := mz_ifp hc3 h
        refine mz_Go.run (gs := []) (st' := (27, [some (.inl x0), some (.inl x1)], [.inl (0 : Int32)], D)) bX11_isGiftRow_26 oX11_isGiftRow_26 rfl trivial ?_
        subst h
        exact mz_Go.retz (by decide +kernel) rfl ⟨Nat.le_refl _, Nat.le_refl _⟩ (by decide) rfl
      · have h := mz_ifn hc3 h
        refine mz_Go.run (gs := []) (st' := (if (100 : Int32) < x1 then (26, [some (.inl x0), some (.inl x1)], [], D) else (22, [some (.inl x0), some (.inl x1)], [], D))) bX11_isGiftRow_16 oX11_isGiftRow_16 rfl trivial ?_
        refine mz_Go.ite (fun hc4 => ?_) (fun hc4 => ?_)
        · have h := mz_ifp hc4 h
          refine mz_Go.run (gs := []) (st' := (27, [some (.inl x0), some (.inl x1)], [.inl (0 : Int32)], D)) bX11_isGiftRow_26 oX11_isGiftRow_26 rfl trivial ?_
          subst h
          exact mz_Go.retz (by decide +kernel) rfl ⟨Nat.le_refl _, Nat.le_refl _⟩ (by decide) rfl
        · have h := mz_ifn hc4 h
          refine mz_Go.run (gs := []) (st' := (27, [some (.inl x0), some (.inl x1)], [.inl (1 : Int32)], D)) bX11_isGiftRow_22 oX11_isGiftRow_22 rfl trivial ?_
          subst h
          exact mz_Go.retz (by decide +kernel) rfl ⟨Nat.le_refl _, Nat.le_refl _⟩ (by decide) rfl
def bX11_nextGift_0 : List mz_E := [(0, .iload_n 0, 0, 0, 0, 0, 0), (1, .iload_n 0, 0, 0, 0, 0, 0), (2, .iload_n 1, 0, 0, 0, 0, 0), (3, .imul, 0, 0, 0, 0, 0), (4, .bipush 100, 0, 0, 0, 100, 0), (6, .idiv, 0, 0, 0, 0, 0), (7, .iadd, 0, 0, 0, 0, 0), (8, .iconst 1, 0, 0, 0, 1, 0), (9, .iadd, 0, 0, 0, 0, 0)]
theorem oX11_nextGift_0 : bX11_nextGift_0.all (mz_ok RX11 cX11_nextGift 2) = true := by decide +kernel
abbrev IX11_nextGift : mz_I := (yX11_nextGift, cX11_nextGift, 2, (some .int), 9, 0, 0, 0)
theorem kX11_nextGift : mz_okm IX11_nextGift 1437 126 1436 2 = true := by decide +kernel
theorem vX11_nextGift : mz_okS IX11_nextGift 1436 = true := by decide +kernel
theorem mX11_nextGift (x0 : Int32) (x1 : Int32) (D : mz_D) : mz_Met IX11_nextGift [.inl x0, .inl x1] D (some (.inl ((x0 + ((x0 * x1) / (100 : Int32))) + (1 : Int32))), D) := by
  refine mz_Met.of (by decide +kernel) (Nat.le_of_ble_eq_true rfl) ?_
  show mz_Go IX11_nextGift (some (.inl ((x0 + ((x0 * x1) / (100 : Int32))) + (1 : Int32))), D) 0 0 (0, [some (.inl x0), some (.inl x1)], [], D)
  refine mz_Go.run (gs := [mz_nz (100 : Int32)]) (st' := (10, [some (.inl x0), some (.inl x1)], [.inl ((x0 + ((x0 * x1) / (100 : Int32))) + (1 : Int32))], D)) bX11_nextGift_0 oX11_nextGift_0 rfl ⟨(by decide), trivial⟩ ?_
  exact mz_Go.reti (by decide +kernel) rfl ⟨Nat.le_refl _, Nat.le_refl _⟩ rfl
def bX11_giftAt_0 : List mz_E := [(0, .iload_n 1, 0, 0, 0, 0, 0), (1, .iload_n 2, 0, 0, 0, 0, 0)]
theorem oX11_giftAt_0 : bX11_giftAt_0.all (mz_ok RX11 cX11_giftAt 6) = true := by decide +kernel
def bX11_giftAt_5 : List mz_E := [(5, .ifCond .eq 13, 0, 18, 0, 0, 0)]
theorem oX11_giftAt_5 : bX11_giftAt_5.all (mz_ok RX11 cX11_giftAt 6) = true := by decide +kernel
def bX11_giftAt_18 : List mz_E := [(18, .aload_n 0, 0, 0, 0, 0, 0), (19, .iconst 1, 0, 0, 0, 1, 0)]
theorem oX11_giftAt_18 : bX11_giftAt_18.all (mz_ok RX11 cX11_giftAt 6) = true := by decide +kernel
def bX11_giftAt_8 : List mz_E := [(8, .iload_n 3, 0, 0, 0, 0, 0), (9, .ifCond .lt 9, 0, 18, 0, 0, 0)]
theorem oX11_giftAt_8 : bX11_giftAt_8.all (mz_ok RX11 cX11_giftAt 6) = true := by decide +kernel
def bX11_giftAt_12 : List mz_E := [(12, .iload_n 3, 0, 0, 0, 0, 0), (13, .bipush 60, 0, 0, 0, 60, 0), (15, .if_icmp .le 9, 0, 24, 0, 0, 0)]
theorem oX11_giftAt_12 : bX11_giftAt_12.all (mz_ok RX11 cX11_giftAt 6) = true := by decide +kernel
def bX11_giftAt_24 : List mz_E := [(24, .iload_n 1, 0, 0, 0, 0, 0), (25, .istore 4, 0, 0, 0, 0, 0), (27, .iconst 0, 0, 0, 0, 0, 0), (28, .istore 5, 0, 0, 0, 0, 0)]
theorem oX11_giftAt_24 : bX11_giftAt_24.all (mz_ok RX11 cX11_giftAt 6) = true := by decide +kernel
def bX11_giftAt_30 : List mz_E := [(30, .iload 5, 0, 0, 0, 0, 0), (32, .iload_n 3, 0, 0, 0, 0, 0), (33, .if_icmp .ge 32, 0, 65, 0, 0, 0)]
theorem oX11_giftAt_30 : bX11_giftAt_30.all (mz_ok RX11 cX11_giftAt 6) = true := by decide +kernel
def bX11_giftAt_65 : List mz_E := [(65, .aload_n 0, 0, 0, 0, 0, 0), (66, .iload 4, 0, 0, 0, 0, 0)]
theorem oX11_giftAt_65 : bX11_giftAt_65.all (mz_ok RX11 cX11_giftAt 6) = true := by decide +kernel
def bX11_giftAt_36 : List mz_E := [(36, .iload 4, 0, 0, 0, 0, 0), (38, .iload_n 2, 0, 0, 0, 0, 0)]
theorem oX11_giftAt_36 : bX11_giftAt_36.all (mz_ok RX11 cX11_giftAt 6) = true := by decide +kernel
def bX11_giftAt_42 : List mz_E := [(42, .istore 4, 0, 0, 0, 0, 0), (44, .iload 4, 0, 0, 0, 0, 0), (46, .ldc_w 424, 0, 0, 1438, 999999, 0), (49, .if_icmp .le 10, 0, 59, 0, 0, 0)]
theorem oX11_giftAt_42 : bX11_giftAt_42.all (mz_ok RX11 cX11_giftAt 6) = true := by decide +kernel
def bX11_giftAt_59 : List mz_E := [(59, .iinc 5 1, 0, 0, 0, 1, 0), (62, .goto (-32), 0, 30, 0, 0, 0)]
theorem oX11_giftAt_59 : bX11_giftAt_59.all (mz_ok RX11 cX11_giftAt 6) = true := by decide +kernel
def bX11_giftAt_52 : List mz_E := [(52, .aload_n 0, 0, 0, 0, 0, 0), (53, .bipush 7, 0, 0, 0, 7, 0)]
theorem oX11_giftAt_52 : bX11_giftAt_52.all (mz_ok RX11 cX11_giftAt 6) = true := by decide +kernel
abbrev IX11_giftAt : mz_I := (yX11_giftAt, cX11_giftAt, 6, (some .int), 0, 1, 0, 0)
theorem kX11_giftAt : mz_okm IX11_giftAt 1431 126 1429 3 = true := by decide +kernel
theorem vX11_giftAt : mz_okV IX11_giftAt 1429 1430 = true := by decide +kernel
def fX11_giftAt_30 : Nat → Int32 → Int32 → Int32 → Int32 → mz_D → Option (Int32 × mz_D)
  | 0 => fun _ _ _ _ _ => none
  | n + 1 => fun x2 x3 x4 x5 D => (if x3 ≤ x5 then (some (x4, (mz_wi D 0 0 13 (0 : Int32)))) else (if ((x4 + ((x4 * x2) / (100 : Int32))) + (1 : Int32)) ≤ (999999 : Int32) then ((fX11_giftAt_30 n) x2 x3 ((x4 + ((x4 * x2) / (100 : Int32))) + (1 : Int32)) (x5 + (1 : Int32)) D) else (some ((-1 : Int32), (mz_wi D 0 0 13 (7 : Int32))))))
set_option maxHeartbeats 4000000 in
theorem tX11_giftAt_30 (r : (Int32 × mz_D)) : ∀ (n : Nat) (x2 : Int32) (x3 : Int32) (x4 : Int32) (x5 : Int32) (D : mz_D), fX11_giftAt_30 n x2 x3 x4 x5 D = some r → mz_Go IX11_giftAt (some (.inl r.1), r.2) 0 0 (30, [some (.inr (.inr (some (0, 0)))), none, some (.inl x2), some (.inl x3), some (.inl x4), some (.inl x5)], [], D) := by
  intro n
  induction n with
  | zero => intro x2 x3 x4 x5 D h; have h : (none : Option (Int32 × mz_D)) = some r := h; cases h
  | succ n ih =>
    intro x2 x3 x4 x5 D h
    rw [fX11_giftAt_30] at h
    refine mz_Go.run (gs := []) (st' := (if x3 ≤ x5 then (65, [some (.inr (.inr (some (0, 0)))), none, some (.inl x2), some (.inl x3), some (.inl x4), some (.inl x5)], [], D) else (36, [some (.inr (.inr (some (0, 0)))), none, some (.inl x2), some (.inl x3), some (.inl x4), some (.inl x5)], [], D))) bX11_giftAt_30 oX11_giftAt_30 rfl trivial ?_
    refine mz_Go.ite (fun hc1 => ?_) (fun hc1 => ?_)
    · have h := mz_ifp hc1 h
      refine mz_Go.run (gs := []) (st' := (68, [some (.inr (.inr (some (0, 0)))), none, some (.inl x2), some (.inl x3), some (.inl x4), some (.inl x5)], [.inl x4, .inr (.inr (some (0, 0)))], D)) bX11_giftAt_65 oX11_giftAt_65 rfl trivial ?_
      refine mz_Go.callV (I := IX11_giftAt) (J := IX11_answer) (as := [.inl x4]) (ci := 11) (g := 0) (o := 0) (idx := 160) (pl := 914) (rest := []) (mX11_answer x4 D) kX11_answer vX11_answer (by decide +kernel) (by decide +kernel) (by decide +kernel) rfl rfl ⟨rfl, rfl⟩ rfl rfl rfl rfl ?_
      cases h
      exact mz_Go.reti (by decide +kernel) rfl ⟨Nat.le_refl _, Nat.le_refl _⟩ rfl
    · have h := mz_ifn hc1 h
      refine mz_Go.run (gs := []) (st' := (39, [some (.inr (.inr (some (0, 0)))), none, some (.inl x2), some (.inl x3), some (.inl x4), some (.inl x5)], [.inl x2, .inl x4], D)) bX11_giftAt_36 oX11_giftAt_36 rfl trivial ?_
      refine mz_Go.callS (I := IX11_giftAt) (J := IX11_nextGift) (as := [.inl x4, .inl x2]) (idx := 421) (pl := 1435) (rest := []) (mX11_nextGift x4 x2 D) kX11_nextGift vX11_nextGift (by decide +kernel) (by decide +kernel) (by decide +kernel) rfl rfl ⟨rfl, rfl⟩ rfl ?_
      refine mz_Go.run (gs := []) (st' := (if ((x4 + ((x4 * x2) / (100 : Int32))) + (1 : Int32)) ≤ (999999 : Int32) then (59, [some (.inr (.inr (some (0, 0)))), none, some (.inl x2), some (.inl x3), some (.inl ((x4 + ((x4 * x2) / (100 : Int32))) + (1 : Int32))), some (.inl x5)], [], D) else (52, [some (.inr (.inr (some (0, 0)))), none, some (.inl x2), some (.inl x3), some (.inl ((x4 + ((x4 * x2) / (100 : Int32))) + (1 : Int32))), some (.inl x5)], [], D))) bX11_giftAt_42 oX11_giftAt_42 rfl trivial ?_
      refine mz_Go.ite (fun hc2 => ?_) (fun hc2 => ?_)
      · have h := mz_ifp hc2 h
        refine mz_Go.run (gs := []) (st' := (30, [some (.inr (.inr (some (0, 0)))), none, some (.inl x2), some (.inl x3), some (.inl ((x4 + ((x4 * x2) / (100 : Int32))) + (1 : Int32))), some (.inl (x5 + (1 : Int32)))], [], D)) bX11_giftAt_59 oX11_giftAt_59 rfl trivial ?_
        exact mz_Go.drop [true, false, true, true, true, true] (ih x2 x3 ((x4 + ((x4 * x2) / (100 : Int32))) + (1 : Int32)) (x5 + (1 : Int32)) D h)
      · have h := mz_ifn hc2 h
        refine mz_Go.run (gs := []) (st' := (55, [some (.inr (.inr (some (0, 0)))), none, some (.inl x2), some (.inl x3), some (.inl ((x4 + ((x4 * x2) / (100 : Int32))) + (1 : Int32))), some (.inl x5)], [.inl (7 : Int32), .inr (.inr (some (0, 0)))], D)) bX11_giftAt_52 oX11_giftAt_52 rfl trivial ?_
        refine mz_Go.callV (I := IX11_giftAt) (J := IX11_refuse) (as := [.inl (7 : Int32)]) (ci := 11) (g := 0) (o := 0) (idx := 100) (pl := 673) (rest := []) (mX11_refuse (7 : Int32) D) kX11_refuse vX11_refuse (by decide +kernel) (by decide +kernel) (by decide +kernel) rfl rfl ⟨rfl, rfl⟩ rfl rfl rfl rfl ?_
        cases h
        exact mz_Go.reti (by decide +kernel) rfl ⟨Nat.le_refl _, Nat.le_refl _⟩ rfl
def fX11_giftAt (x1 : Int32) (x2 : Int32) (x3 : Int32) (D : mz_D) : Option (Int32 × mz_D) := (if (fX11_isGiftRow x1 x2) = 0 then (some ((-1 : Int32), (mz_wi D 0 0 13 (1 : Int32)))) else (if x3 < 0 then (some ((-1 : Int32), (mz_wi D 0 0 13 (1 : Int32)))) else (if x3 ≤ (60 : Int32) then (fX11_giftAt_30 mz_N x2 x3 x1 (0 : Int32) D) else (some ((-1 : Int32), (mz_wi D 0 0 13 (1 : Int32)))))))
set_option maxHeartbeats 4000000 in
theorem mX11_giftAt (x1 : Int32) (x2 : Int32) (x3 : Int32) (D : mz_D) (r : (Int32 × mz_D)) (h : fX11_giftAt x1 x2 x3 D = some r) : mz_Met IX11_giftAt [.inr (.inr (some (0, 0))), .inl x1, .inl x2, .inl x3] D (some (.inl r.1), r.2) := by
  refine mz_Met.of (by decide +kernel) (Nat.le_of_ble_eq_true rfl) ?_
  show mz_Go IX11_giftAt (some (.inl r.1), r.2) 0 0 (0, [some (.inr (.inr (some (0, 0)))), some (.inl x1), some (.inl x2), some (.inl x3), none, none], [], D)
  rw [fX11_giftAt] at h
  refine mz_Go.run (gs := []) (st' := (2, [some (.inr (.inr (some (0, 0)))), some (.inl x1), some (.inl x2), some (.inl x3), none, none], [.inl x2, .inl x1], D)) bX11_giftAt_0 oX11_giftAt_0 rfl trivial ?_
  refine mz_Go.callS (I := IX11_giftAt) (J := IX11_isGiftRow) (as := [.inl x1, .inl x2]) (idx := 418) (pl := 1432) (rest := []) (mX11_isGiftRow x1 x2 D _ rfl) kX11_isGiftRow vX11_isGiftRow (by decide +kernel) (by decide +kernel) (by decide +kernel) rfl rfl ⟨rfl, rfl⟩ rfl ?_
  refine mz_Go.run (gs := []) (st' := (if (fX11_isGiftRow x1 x2) = 0 then (18, [some (.inr (.inr (some (0, 0)))), some (.inl x1), some (.inl x2), some (.inl x3), none, none], [], D) else (8, [some (.inr (.inr (some (0, 0)))), some (.inl x1), some (.inl x2), some (.inl x3), none, none], [], D))) bX11_giftAt_5 oX11_giftAt_5 rfl trivial ?_
  refine mz_Go.ite (fun hc1 => ?_) (fun hc1 => ?_)
  · have h := mz_ifp hc1 h
    refine mz_Go.run (gs := []) (st' := (20, [some (.inr (.inr (some (0, 0)))), some (.inl x1), some (.inl x2), some (.inl x3), none, none], [.inl (1 : Int32), .inr (.inr (some (0, 0)))], D)) bX11_giftAt_18 oX11_giftAt_18 rfl trivial ?_
    refine mz_Go.callV (I := IX11_giftAt) (J := IX11_refuse) (as := [.inl (1 : Int32)]) (ci := 11) (g := 0) (o := 0) (idx := 100) (pl := 673) (rest := []) (mX11_refuse (1 : Int32) D) kX11_refuse vX11_refuse (by decide +kernel) (by decide +kernel) (by decide +kernel) rfl rfl ⟨rfl, rfl⟩ rfl rfl rfl rfl ?_
    cases h
    exact mz_Go.reti (by decide +kernel) rfl ⟨Nat.le_refl _, Nat.le_refl _⟩ rfl
  · have h := mz_ifn hc1 h
    refine mz_Go.run (gs := []) (st' := (if x3 < 0 then (18, [some (.inr (.inr (some (0, 0)))), some (.inl x1), some (.inl x2), some (.inl x3), none, none], [], D) else (12, [some (.inr (.inr (some (0, 0)))), some (.inl x1), some (.inl x2), some (.inl x3), none, none], [], D))) bX11_giftAt_8 oX11_giftAt_8 rfl trivial ?_
    refine mz_Go.ite (fun hc2 => ?_) (fun hc2 => ?_)
    · have h := mz_ifp hc2 h
      refine mz_Go.run (gs := []) (st' := (20, [some (.inr (.inr (some (0, 0)))), some (.inl x1), some (.inl x2), some (.inl x3), none, none], [.inl (1 : Int32), .inr (.inr (some (0, 0)))], D)) bX11_giftAt_18 oX11_giftAt_18 rfl trivial ?_
      refine mz_Go.callV (I := IX11_giftAt) (J := IX11_refuse) (as := [.inl (1 : Int32)]) (ci := 11) (g := 0) (o := 0) (idx := 100) (pl := 673) (rest := []) (mX11_refuse (1 : Int32) D) kX11_refuse vX11_refuse (by decide +kernel) (by decide +kernel) (by decide +kernel) rfl rfl ⟨rfl, rfl⟩ rfl rfl rfl rfl ?_
      cases h
      exact mz_Go.reti (by decide +kernel) rfl ⟨Nat.le_refl _, Nat.le_refl _⟩ rfl
    · have h := mz_ifn hc2 h
      refine mz_Go.run (gs := []) (st' := (if x3 ≤ (60 : Int32) then (24, [some (.inr (.inr (some (0, 0)))), some (.inl x1), some (.inl x2), some (.inl x3), none, none], [], D) else (18, [some (.inr (.inr (some (0, 0)))), some (.inl x1), some (.inl x2), some (.inl x3), none, none], [], D))) bX11_giftAt_12 oX11_giftAt_12 rfl trivial ?_
      refine mz_Go.ite (fun hc3 => ?_) (fun hc3 => ?_)
      · have h := mz_ifp hc3 h
        refine mz_Go.run (gs := []) (st' := (30, [some (.inr (.inr (some (0, 0)))), some (.inl x1), some (.inl x2), some (.inl x3), some (.inl x1), some (.inl (0 : Int32))], [], D)) bX11_giftAt_24 oX11_giftAt_24 rfl trivial ?_
        exact mz_Go.drop [true, false, true, true, true, true] (tX11_giftAt_30 r mz_N x2 x3 x1 (0 : Int32) D h)
      · have h := mz_ifn hc3 h
        refine mz_Go.run (gs := []) (st' := (20, [some (.inr (.inr (some (0, 0)))), some (.inl x1), some (.inl x2), some (.inl x3), none, none], [.inl (1 : Int32), .inr (.inr (some (0, 0)))], D)) bX11_giftAt_18 oX11_giftAt_18 rfl trivial ?_
        refine mz_Go.callV (I := IX11_giftAt) (J := IX11_refuse) (as := [.inl (1 : Int32)]) (ci := 11) (g := 0) (o := 0) (idx := 100) (pl := 673) (rest := []) (mX11_refuse (1 : Int32) D) kX11_refuse vX11_refuse (by decide +kernel) (by decide +kernel) (by decide +kernel) rfl rfl ⟨rfl, rfl⟩ rfl rfl rfl rfl ?_
        cases h
        exact mz_Go.reti (by decide +kernel) rfl ⟨Nat.le_refl _, Nat.le_refl _⟩ rfl
def bX11_giftsUntilEnd_0 : List mz_E := [(0, .aload_n 0, 0, 0, 0, 0, 0), (1, .getfield 32, 11, 4, 563, 0, 0), (4, .getfield 151, 6, 0, 477, 0, 0), (7, .getfield 239, 4, 7, 315, 0, 0), (10, .astore 5, 0, 0, 0, 0, 0), (12, .iload_n 3, 0, 0, 0, 0, 0), (13, .istore 6, 0, 0, 0, 0, 0), (15, .iconst 0, 0, 0, 0, 0, 0), (16, .istore 7, 0, 0, 0, 0, 0)]
theorem oX11_giftsUntilEnd_0 : bX11_giftsUntilEnd_0.all (mz_ok RX11 cX11_giftsUntilEnd 8) = true := by decide +kernel
def bX11_giftsUntilEnd_18 : List mz_E := [(18, .iload 7, 0, 0, 0, 0, 0), (20, .sipush 1000, 0, 0, 0, 1000, 0), (23, .if_icmp .ge 38, 0, 61, 0, 0, 0)]
theorem oX11_giftsUntilEnd_18 : bX11_giftsUntilEnd_18.all (mz_ok RX11 cX11_giftsUntilEnd 8) = true := by decide +kernel
def bX11_giftsUntilEnd_61 : List mz_E := [(61, .iload 7, 0, 0, 0, 0, 0)]
theorem oX11_giftsUntilEnd_61 : bX11_giftsUntilEnd_61.all (mz_ok RX11 cX11_giftsUntilEnd 8) = true := by decide +kernel
def bX11_giftsUntilEnd_26 : List mz_E := [(26, .iload 6, 0, 0, 0, 0, 0), (28, .aload 5, 0, 0, 0, 0, 0), (30, .iload 7, 0, 0, 0, 0, 0), (32, .iconst 2, 0, 0, 0, 2, 0), (33, .irem, 0, 0, 0, 0, 0), (34, .ifCond .ne 7, 0, 41, 0, 0, 0)]
theorem oX11_giftsUntilEnd_26 : bX11_giftsUntilEnd_26.all (mz_ok RX11 cX11_giftsUntilEnd 8) = true := by decide +kernel
def bX11_giftsUntilEnd_37 : List mz_E := [(37, .iload_n 1, 0, 0, 0, 0, 0), (38, .goto 4, 0, 42, 0, 0, 0)]
theorem oX11_giftsUntilEnd_37 : bX11_giftsUntilEnd_37.all (mz_ok RX11 cX11_giftsUntilEnd 8) = true := by decide +kernel
def bX11_giftsUntilEnd_42 : List mz_E := [(42, .iaload, 0, 0, 0, 0, 0), (43, .if_icmp .gt 18, 0, 61, 0, 0, 0)]
theorem oX11_giftsUntilEnd_42 : bX11_giftsUntilEnd_42.all (mz_ok RX11 cX11_giftsUntilEnd 8) = true := by decide +kernel
def bX11_giftsUntilEnd_46 : List mz_E := [(46, .iload 6, 0, 0, 0, 0, 0), (48, .iload 4, 0, 0, 0, 0, 0)]
theorem oX11_giftsUntilEnd_46 : bX11_giftsUntilEnd_46.all (mz_ok RX11 cX11_giftsUntilEnd 8) = true := by decide +kernel
def bX11_giftsUntilEnd_53 : List mz_E := [(53, .istore 6, 0, 0, 0, 0, 0), (55, .iinc 7 1, 0, 0, 0, 1, 0), (58, .goto (-40), 0, 18, 0, 0, 0)]
theorem oX11_giftsUntilEnd_53 : bX11_giftsUntilEnd_53.all (mz_ok RX11 cX11_giftsUntilEnd 8) = true := by decide +kernel
def bX11_giftsUntilEnd_41 : List mz_E := [(41, .iload_n 2, 0, 0, 0, 0, 0)]
theorem oX11_giftsUntilEnd_41 : bX11_giftsUntilEnd_41.all (mz_ok RX11 cX11_giftsUntilEnd 8) = true := by decide +kernel
abbrev IX11_giftsUntilEnd : mz_I := (yX11_giftsUntilEnd, cX11_giftsUntilEnd, 8, (some .int), 0, 1, 0, 0)
theorem kX11_giftsUntilEnd : mz_okm IX11_giftsUntilEnd 1446 126 1445 4 = true := by decide +kernel
theorem vX11_giftsUntilEnd : mz_okV IX11_giftsUntilEnd 1445 33 = true := by decide +kernel
def fX11_giftsUntilEnd_42 (D : mz_D) (k18 : Int32 → Int32 → Int32 → Int32 → Int32 → Option Int32) (x1 : Int32) (x2 : Int32) (x4 : Int32) (x6 : Int32) (x7 : Int32) (s0 : Int32) (s2 : Int32) : Option Int32 := (mz_gd (mz_ix s0 6) (if (D.1 1 106 (s0).toNatClampNeg) < s2 then (some x7) else (k18 x1 x2 x4 ((x6 + ((x6 * x4) / (100 : Int32))) + (1 : Int32)) (x7 + (1 : Int32)))))
set_option maxHeartbeats 4000000 in
theorem tX11_giftsUntilEnd_42 (D : mz_D) (r : Int32) (k18 : Int32 → Int32 → Int32 → Int32 → Int32 → Option Int32) (hk18 : ∀ (x1 : Int32) (x2 : Int32) (x4 : Int32) (x6 : Int32) (x7 : Int32), k18 x1 x2 x4 x6 x7 = some r → mz_Go IX11_giftsUntilEnd (some (.inl r), D) 0 0 (18, [none, some (.inl x1), some (.inl x2), none, some (.inl x4), some (.inr (.inr (some (1, 106)))), some (.inl x6), some (.inl x7)], [], D)) : ∀ (x1 : Int32) (x2 : Int32) (x4 : Int32) (x6 : Int32) (x7 : Int32) (s0 : Int32) (s2 : Int32), fX11_giftsUntilEnd_42 D k18 x1 x2 x4 x6 x7 s0 s2 = some r → mz_Go IX11_giftsUntilEnd (some (.inl r), D) 0 0 (42, [none, some (.inl x1), some (.inl x2), none, some (.inl x4), some (.inr (.inr (some (1, 106)))), some (.inl x6), some (.inl x7)], [.inl s0, .inr (.inr (some (1, 106))), .inl s2], D) := by
  intro x1 x2 x4 x6 x7 s0 s2 h
  rw [fX11_giftsUntilEnd_42] at h
  obtain ⟨hb1, h⟩ := mz_gd_some h
  refine mz_Go.run (gs := [mz_kz 0 1 106, mz_ix s0 6]) (st' := (if (D.1 1 106 (s0).toNatClampNeg) < s2 then (61, [none, some (.inl x1), some (.inl x2), none, some (.inl x4), some (.inr (.inr (some (1, 106)))), some (.inl x6), some (.inl x7)], [], D) else (46, [none, some (.inl x1), some (.inl x2), none, some (.inl x4), some (.inr (.inr (some (1, 106)))), some (.inl x6), some (.inl x7)], [], D))) bX11_giftsUntilEnd_42 oX11_giftsUntilEnd_42 rfl ⟨rfl, hb1, trivial⟩ ?_
  refine mz_Go.ite (fun hc2 => ?_) (fun hc2 => ?_)
  · have h := mz_ifp hc2 h
    refine mz_Go.run (gs := []) (st' := (63, [none, some (.inl x1), some (.inl x2), none, some (.inl x4), some (.inr (.inr (some (1, 106)))), some (.inl x6), some (.inl x7)], [.inl x7], D)) bX11_giftsUntilEnd_61 oX11_giftsUntilEnd_61 rfl trivial ?_
    cases h
    exact mz_Go.reti (by decide +kernel) rfl ⟨Nat.le_refl _, Nat.le_refl _⟩ rfl
  · have h := mz_ifn hc2 h
    refine mz_Go.run (gs := []) (st' := (50, [none, some (.inl x1), some (.inl x2), none, some (.inl x4), some (.inr (.inr (some (1, 106)))), some (.inl x6), some (.inl x7)], [.inl x4, .inl x6], D)) bX11_giftsUntilEnd_46 oX11_giftsUntilEnd_46 rfl trivial ?_
    refine mz_Go.callS (I := IX11_giftsUntilEnd) (J := IX11_nextGift) (as := [.inl x6, .inl x4]) (idx := 421) (pl := 1435) (rest := []) (mX11_nextGift x6 x4 D) kX11_nextGift vX11_nextGift (by decide +kernel) (by decide +kernel) (by decide +kernel) rfl rfl ⟨rfl, rfl⟩ rfl ?_
    refine mz_Go.run (gs := []) (st' := (18, [none, some (.inl x1), some (.inl x2), none, some (.inl x4), some (.inr (.inr (some (1, 106)))), some (.inl ((x6 + ((x6 * x4) / (100 : Int32))) + (1 : Int32))), some (.inl (x7 + (1 : Int32)))], [], D)) bX11_giftsUntilEnd_53 oX11_giftsUntilEnd_53 rfl trivial ?_
    exact mz_Go.drop [false, true, true, false, true, true, true, true] (hk18 x1 x2 x4 ((x6 + ((x6 * x4) / (100 : Int32))) + (1 : Int32)) (x7 + (1 : Int32)) h)
def fX11_giftsUntilEnd_18 (D : mz_D) : Nat → Int32 → Int32 → Int32 → Int32 → Int32 → Option Int32
  | 0 => fun _ _ _ _ _ => none
  | n + 1 => fun x1 x2 x4 x6 x7 => (if (1000 : Int32) ≤ x7 then (some x7) else (if (x7 - x7 / (2 : Int32) * (2 : Int32)) = 0 then (fX11_giftsUntilEnd_42 D (fX11_giftsUntilEnd_18 D n) x1 x2 x4 x6 x7 x1 x6) else (fX11_giftsUntilEnd_42 D (fX11_giftsUntilEnd_18 D n) x1 x2 x4 x6 x7 x2 x6)))
set_option maxHeartbeats 4000000 in
theorem tX11_giftsUntilEnd_18 (D : mz_D) (r : Int32) : ∀ (n : Nat) (x1 : Int32) (x2 : Int32) (x4 : Int32) (x6 : Int32) (x7 : Int32), fX11_giftsUntilEnd_18 D n x1 x2 x4 x6 x7 = some r → mz_Go IX11_giftsUntilEnd (some (.inl r), D) 0 0 (18, [none, some (.inl x1), some (.inl x2), none, some (.inl x4), some (.inr (.inr (some (1, 106)))), some (.inl x6), some (.inl x7)], [], D) := by
  intro n
  induction n with
  | zero => intro x1 x2 x4 x6 x7 h; have h : (none : Option Int32) = some r := h; cases h
  | succ n ih =>
    intro x1 x2 x4 x6 x7 h
    rw [fX11_giftsUntilEnd_18] at h
    refine mz_Go.run (gs := []) (st' := (if (1000 : Int32) ≤ x7 then (61, [none, some (.inl x1), some (.inl x2), none, some (.inl x4), some (.inr (.inr (some (1, 106)))), some (.inl x6), some (.inl x7)], [], D) else (26, [none, some (.inl x1), some (.inl x2), none, some (.inl x4), some (.inr (.inr (some (1, 106)))), some (.inl x6), some (.inl x7)], [], D))) bX11_giftsUntilEnd_18 oX11_giftsUntilEnd_18 rfl trivial ?_
    refine mz_Go.ite (fun hc1 => ?_) (fun hc1 => ?_)
    · have h := mz_ifp hc1 h
      refine mz_Go.run (gs := []) (st' := (63, [none, some (.inl x1), some (.inl x2), none, some (.inl x4), some (.inr (.inr (some (1, 106)))), some (.inl x6), some (.inl x7)], [.inl x7], D)) bX11_giftsUntilEnd_61 oX11_giftsUntilEnd_61 rfl trivial ?_
      cases h
      exact mz_Go.reti (by decide +kernel) rfl ⟨Nat.le_refl _, Nat.le_refl _⟩ rfl
    · have h := mz_ifn hc1 h
      refine mz_Go.run (gs := [mz_nz (2 : Int32)]) (st' := (if (x7 - x7 / (2 : Int32) * (2 : Int32)) = 0 then (37, [none, some (.inl x1), some (.inl x2), none, some (.inl x4), some (.inr (.inr (some (1, 106)))), some (.inl x6), some (.inl x7)], [.inr (.inr (some (1, 106))), .inl x6], D) else (41, [none, some (.inl x1), some (.inl x2), none, some (.inl x4), some (.inr (.inr (some (1, 106)))), some (.inl x6), some (.inl x7)], [.inr (.inr (some (1, 106))), .inl x6], D))) bX11_giftsUntilEnd_26 oX11_giftsUntilEnd_26 rfl ⟨(by decide), trivial⟩ ?_
      refine mz_Go.ite (fun hc2 => ?_) (fun hc2 => ?_)
      · have h := mz_ifp hc2 h
        refine mz_Go.run (gs := []) (st' := (42, [none, some (.inl x1), some (.inl x2), none, some (.inl x4), some (.inr (.inr (some (1, 106)))), some (.inl x6), some (.inl x7)], [.inl x1, .inr (.inr (some (1, 106))), .inl x6], D)) bX11_giftsUntilEnd_37 oX11_giftsUntilEnd_37 rfl trivial ?_
        exact mz_Go.drop [false, true, true, false, true, true, true, true] (tX11_giftsUntilEnd_42 D r (fX11_giftsUntilEnd_18 D n) ih x1 x2 x4 x6 x7 x1 x6 h)
      · have h := mz_ifn hc2 h
        refine mz_Go.run (gs := []) (st' := (42, [none, some (.inl x1), some (.inl x2), none, some (.inl x4), some (.inr (.inr (some (1, 106)))), some (.inl x6), some (.inl x7)], [.inl x2, .inr (.inr (some (1, 106))), .inl x6], D)) bX11_giftsUntilEnd_41 oX11_giftsUntilEnd_41 rfl trivial ?_
        exact mz_Go.drop [false, true, true, false, true, true, true, true] (tX11_giftsUntilEnd_42 D r (fX11_giftsUntilEnd_18 D n) ih x1 x2 x4 x6 x7 x2 x6 h)
def fX11_giftsUntilEnd (x1 : Int32) (x2 : Int32) (x3 : Int32) (x4 : Int32) (D : mz_D) : Option Int32 := (fX11_giftsUntilEnd_18 D mz_N x1 x2 x4 x3 (0 : Int32))
set_option maxHeartbeats 4000000 in
theorem mX11_giftsUntilEnd (x1 : Int32) (x2 : Int32) (x3 : Int32) (x4 : Int32) (D : mz_D) (r : Int32) (h : fX11_giftsUntilEnd x1 x2 x3 x4 D = some r) : mz_Met IX11_giftsUntilEnd [.inr (.inr (some (0, 0))), .inl x1, .inl x2, .inl x3, .inl x4] D (some (.inl r), D) := by
  refine mz_Met.of (by decide +kernel) (Nat.le_of_ble_eq_true rfl) ?_
  show mz_Go IX11_giftsUntilEnd (some (.inl r), D) 0 0 (0, [some (.inr (.inr (some (0, 0)))), some (.inl x1), some (.inl x2), some (.inl x3), some (.inl x4), none, none, none], [], D)
  rw [fX11_giftsUntilEnd] at h
  refine mz_Go.run (gs := [mz_kz 0 0 0, mz_kz 0 1 100, mz_kz 0 1 101]) (st' := (18, [some (.inr (.inr (some (0, 0)))), some (.inl x1), some (.inl x2), some (.inl x3), some (.inl x4), some (.inr (.inr (some (1, 106)))), some (.inl x3), some (.inl (0 : Int32))], [], D)) bX11_giftsUntilEnd_0 oX11_giftsUntilEnd_0 rfl ⟨rfl, rfl, rfl, trivial⟩ ?_
  exact mz_Go.drop [false, true, true, false, true, true, true, true] (tX11_giftsUntilEnd_18 D r mz_N x1 x2 x4 x3 (0 : Int32) h)
