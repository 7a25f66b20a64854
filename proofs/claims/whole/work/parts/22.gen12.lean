def bX12_easyOn_0 : List mz_E := [(0, .aload_n 0, 0, 0, 0, 0, 0), (1, .iload_n 1, 0, 0, 0, 0, 0)]
theorem oX12_easyOn_0 : bX12_easyOn_0.all (mz_ok RX12 cX12_easyOn 4) = true := by decide +kernel
def bX12_easyOn_5 : List mz_E := [(5, .ifCond .ne 9, 0, 14, 0, 0, 0)]
theorem oX12_easyOn_5 : bX12_easyOn_5.all (mz_ok RX12 cX12_easyOn 4) = true := by decide +kernel
def bX12_easyOn_8 : List mz_E := [(8, .aload_n 0, 0, 0, 0, 0, 0), (9, .iconst 1, 0, 0, 0, 1, 0)]
theorem oX12_easyOn_8 : bX12_easyOn_8.all (mz_ok RX12 cX12_easyOn 4) = true := by decide +kernel
def bX12_easyOn_14 : List mz_E := [(14, .iconst (-1), 0, 0, 0, -1, 0), (15, .istore_n 2, 0, 0, 0, 0, 0), (16, .iconst 0, 0, 0, 0, 0, 0), (17, .istore_n 3, 0, 0, 0, 0, 0)]
theorem oX12_easyOn_14 : bX12_easyOn_14.all (mz_ok RX12 cX12_easyOn 4) = true := by decide +kernel
def bX12_easyOn_18 : List mz_E := [(18, .iload_n 3, 0, 0, 0, 0, 0), (19, .aload_n 0, 0, 0, 0, 0, 0), (20, .getfield 7, 12, 0, 1576, 0, 0), (23, .iconst 0, 0, 0, 0, 0, 0), (24, .iaload, 0, 0, 0, 0, 0), (25, .if_icmp .ge 62, 0, 87, 0, 0, 0)]
theorem oX12_easyOn_18 : bX12_easyOn_18.all (mz_ok RX12 cX12_easyOn 4) = true := by decide +kernel
def bX12_easyOn_87 : List mz_E := [(87, .aload_n 0, 0, 0, 0, 0, 0), (88, .iload_n 2, 0, 0, 0, 0, 0)]
theorem oX12_easyOn_87 : bX12_easyOn_87.all (mz_ok RX12 cX12_easyOn 4) = true := by decide +kernel
def bX12_easyOn_28 : List mz_E := [(28, .iload_n 3, 0, 0, 0, 0, 0), (29, .iload_n 1, 0, 0, 0, 0, 0), (30, .if_icmp .eq 51, 0, 81, 0, 0, 0)]
theorem oX12_easyOn_28 : bX12_easyOn_28.all (mz_ok RX12 cX12_easyOn 4) = true := by decide +kernel
def bX12_easyOn_81 : List mz_E := [(81, .iinc 3 1, 0, 0, 0, 1, 0), (84, .goto (-66), 0, 18, 0, 0, 0)]
theorem oX12_easyOn_81 : bX12_easyOn_81.all (mz_ok RX12 cX12_easyOn 4) = true := by decide +kernel
def bX12_easyOn_33 : List mz_E := [(33, .aload_n 0, 0, 0, 0, 0, 0), (34, .iload_n 1, 0, 0, 0, 0, 0), (35, .iload_n 3, 0, 0, 0, 0, 0)]
theorem oX12_easyOn_33 : bX12_easyOn_33.all (mz_ok RX12 cX12_easyOn 4) = true := by decide +kernel
def bX12_easyOn_39 : List mz_E := [(39, .ifCond .eq 6, 0, 45, 0, 0, 0)]
theorem oX12_easyOn_39 : bX12_easyOn_39.all (mz_ok RX12 cX12_easyOn 4) = true := by decide +kernel
def bX12_easyOn_45 : List mz_E := [(45, .iload_n 2, 0, 0, 0, 0, 0), (46, .iconst (-1), 0, 0, 0, -1, 0), (47, .if_icmp .eq 32, 0, 79, 0, 0, 0)]
theorem oX12_easyOn_45 : bX12_easyOn_45.all (mz_ok RX12 cX12_easyOn 4) = true := by decide +kernel
def bX12_easyOn_79 : List mz_E := [(79, .iload_n 3, 0, 0, 0, 0, 0), (80, .istore_n 2, 0, 0, 0, 0, 0), (81, .iinc 3 1, 0, 0, 0, 1, 0), (84, .goto (-66), 0, 18, 0, 0, 0)]
theorem oX12_easyOn_79 : bX12_easyOn_79.all (mz_ok RX12 cX12_easyOn 4) = true := by decide +kernel
def bX12_easyOn_50 : List mz_E := [(50, .aload_n 0, 0, 0, 0, 0, 0), (51, .iload_n 1, 0, 0, 0, 0, 0), (52, .iload_n 3, 0, 0, 0, 0, 0)]
theorem oX12_easyOn_50 : bX12_easyOn_50.all (mz_ok RX12 cX12_easyOn 4) = true := by decide +kernel
def bX12_easyOn_56 : List mz_E := [(56, .aload_n 0, 0, 0, 0, 0, 0), (57, .iload_n 1, 0, 0, 0, 0, 0), (58, .iload_n 2, 0, 0, 0, 0, 0)]
theorem oX12_easyOn_56 : bX12_easyOn_56.all (mz_ok RX12 cX12_easyOn 4) = true := by decide +kernel
def bX12_easyOn_62 : List mz_E := [(62, .imul, 0, 0, 0, 0, 0), (63, .aload_n 0, 0, 0, 0, 0, 0), (64, .iload_n 1, 0, 0, 0, 0, 0), (65, .iload_n 2, 0, 0, 0, 0, 0)]
theorem oX12_easyOn_62 : bX12_easyOn_62.all (mz_ok RX12 cX12_easyOn 4) = true := by decide +kernel
def bX12_easyOn_69 : List mz_E := [(69, .aload_n 0, 0, 0, 0, 0, 0), (70, .iload_n 1, 0, 0, 0, 0, 0), (71, .iload_n 3, 0, 0, 0, 0, 0)]
theorem oX12_easyOn_69 : bX12_easyOn_69.all (mz_ok RX12 cX12_easyOn 4) = true := by decide +kernel
def bX12_easyOn_75 : List mz_E := [(75, .imul, 0, 0, 0, 0, 0), (76, .if_icmp .ge 5, 0, 81, 0, 0, 0)]
theorem oX12_easyOn_75 : bX12_easyOn_75.all (mz_ok RX12 cX12_easyOn 4) = true := by decide +kernel
def bX12_easyOn_42 : List mz_E := [(42, .goto 39, 0, 81, 0, 0, 0), (81, .iinc 3 1, 0, 0, 0, 1, 0), (84, .goto (-66), 0, 18, 0, 0, 0)]
theorem oX12_easyOn_42 : bX12_easyOn_42.all (mz_ok RX12 cX12_easyOn 4) = true := by decide +kernel
abbrev IX12_easyOn : mz_I := (yX12_easyOn, cX12_easyOn, 4, (some .int), 0, 3, 0, 0)
theorem kX12_easyOn : mz_okm IX12_easyOn 2081 141 2079 1 = true := by decide +kernel
theorem vX12_easyOn : mz_okV IX12_easyOn 2079 2080 = true := by decide +kernel
def fX12_easyOn_79 (k18 : Int32 → Int32 → Int32 → mz_D → Option (Int32 × mz_D)) (x1 : Int32) (x3 : Int32) (D : mz_D) : Option (Int32 × mz_D) := (k18 x1 x3 (x3 + (1 : Int32)) D)
set_option maxHeartbeats 4000000 in
theorem tX12_easyOn_79 (r : (Int32 × mz_D)) (k18 : Int32 → Int32 → Int32 → mz_D → Option (Int32 × mz_D)) (hk18 : ∀ (x1 : Int32) (x2 : Int32) (x3 : Int32) (D : mz_D), k18 x1 x2 x3 D = some r → mz_Go IX12_easyOn (some (.inl r.1), r.2) 0 0 (18, [some (.inr (.inr (some (0, 200)))), some (.inl x1), some (.inl x2), some (.inl x3)], [], D)) : ∀ (x1 : Int32) (x3 : Int32) (D : mz_D), fX12_easyOn_79 k18 x1 x3 D = some r → mz_Go IX12_easyOn (some (.inl r.1), r.2) 0 0 (79, [some (.inr (.inr (some (0, 200)))), some (.inl x1), none, some (.inl x3)], [], D) := by
  intro x1 x3 D h
  rw [fX12_easyOn_79] at h
  refine mz_Go.run (gs := []) (st' := (18, [some (.inr (.inr (some (0, 200)))), some (.inl x1), some (.inl x3), some (.inl (x3 + (1 : Int32)))], [], D)) bX12_easyOn_79 oX12_easyOn_79 rfl trivial ?_
  exact mz_Go.drop [true, true, true, true] (hk18 x1 x3 (x3 + (1 : Int32)) D h)
def fX12_easyOn_18 : Nat → Int32 → Int32 → Int32 → mz_D → Option (Int32 × mz_D)
  | 0 => fun _ _ _ _ => none
  | n + 1 => fun x1 x2 x3 D => (if (D.1 0 201 ((0 : Int32)).toNatClampNeg) ≤ x3 then (Option.bind (fX12_orNone x2 D) fun q2 => (some (q2.1, q2.2))) else (if x3 = x1 then ((fX12_easyOn_18 n) x1 x2 (x3 + (1 : Int32)) D) else (Option.bind (fX12_isEndless x1 x3 D) fun q4 => (if q4 = 0 then (if x2 = (-1 : Int32) then (fX12_easyOn_79 (fX12_easyOn_18 n) x1 x3 D) else (Option.bind (fX12_first x1 x3 D) fun q7 => (Option.bind (fX12_behind x1 x2 D) fun q8 => (Option.bind (fX12_first x1 x2 D) fun q9 => (Option.bind (fX12_behind x1 x3 D) fun q10 => (if (q9 * q10) ≤ (q7 * q8) then ((fX12_easyOn_18 n) x1 x2 (x3 + (1 : Int32)) D) else (fX12_easyOn_79 (fX12_easyOn_18 n) x1 x3 D))))))) else ((fX12_easyOn_18 n) x1 x2 (x3 + (1 : Int32)) D)))))
set_option maxHeartbeats 4000000 in
theorem tX12_easyOn_18 (r : (Int32 × mz_D)) : ∀ (n : Nat) (x1 : Int32) (x2 : Int32) (x3 : Int32) (D : mz_D), fX12_easyOn_18 n x1 x2 x3 D = some r → mz_Go IX12_easyOn (some (.inl r.1), r.2) 0 0 (18, [some (.inr (.inr (some (0, 200)))), some (.inl x1), some (.inl x2), some (.inl x3)], [], D) := by
  intro n
  induction n with
  | zero => intro x1 x2 x3 D h; have h : (none : Option (Int32 × mz_D)) = some r := h; cases h
  | succ n ih =>
    intro x1 x2 x3 D h
    rw [fX12_easyOn_18] at h
    refine mz_Go.run (gs := [mz_kz 0 0 200, mz_kz 0 0 201, mz_ix (0 : Int32) 3000]) (st' := (if (D.1 0 201 ((0 : Int32)).toNatClampNeg) ≤ x3 then (87, [some (.inr (.inr (some (0, 200)))), some (.inl x1), some (.inl x2), some (.inl x3)], [], D) else (28, [some (.inr (.inr (some (0, 200)))), some (.inl x1), some (.inl x2), some (.inl x3)], [], D))) bX12_easyOn_18 oX12_easyOn_18 rfl ⟨rfl, rfl, (by decide), trivial⟩ ?_
    refine mz_Go.ite (fun hc1 => ?_) (fun hc1 => ?_)
    · have h := mz_ifp hc1 h
      refine mz_Go.run (gs := []) (st' := (89, [some (.inr (.inr (some (0, 200)))), some (.inl x1), some (.inl x2), some (.inl x3)], [.inl x2, .inr (.inr (some (0, 200)))], D)) bX12_easyOn_87 oX12_easyOn_87 rfl trivial ?_
      obtain ⟨q2, hq2, h⟩ := mz_bd_some h
      refine mz_Go.callV (I := IX12_easyOn) (J := IX12_orNone) (as := [.inl x2]) (ci := 12) (g := 0) (o := 200) (idx := 291) (pl := 1906) (rest := []) (mX12_orNone x2 D q2 hq2) kX12_orNone vX12_orNone (by decide +kernel) (by decide +kernel) (by decide +kernel) rfl rfl ⟨rfl, rfl⟩ rfl rfl rfl rfl ?_
      cases h
      exact mz_Go.reti (by decide +kernel) rfl ⟨Nat.le_refl _, Nat.le_refl _⟩ rfl
    · have h := mz_ifn hc1 h
      refine mz_Go.run (gs := []) (st' := (if x3 = x1 then (81, [some (.inr (.inr (some (0, 200)))), some (.inl x1), some (.inl x2), some (.inl x3)], [], D) else (33, [some (.inr (.inr (some (0, 200)))), some (.inl x1), some (.inl x2), some (.inl x3)], [], D))) bX12_easyOn_28 oX12_easyOn_28 rfl trivial ?_
      refine mz_Go.ite (fun hc3 => ?_) (fun hc3 => ?_)
      · have h := mz_ifp hc3 h
        refine mz_Go.run (gs := []) (st' := (18, [some (.inr (.inr (some (0, 200)))), some (.inl x1), some (.inl x2), some (.inl (x3 + (1 : Int32)))], [], D)) bX12_easyOn_81 oX12_easyOn_81 rfl trivial ?_
        exact mz_Go.drop [true, true, true, true] (ih x1 x2 (x3 + (1 : Int32)) D h)
      · have h := mz_ifn hc3 h
        refine mz_Go.run (gs := []) (st' := (36, [some (.inr (.inr (some (0, 200)))), some (.inl x1), some (.inl x2), some (.inl x3)], [.inl x3, .inl x1, .inr (.inr (some (0, 200)))], D)) bX12_easyOn_33 oX12_easyOn_33 rfl trivial ?_
        obtain ⟨q4, hq4, h⟩ := mz_bd_some h
        refine mz_Go.callV (I := IX12_easyOn) (J := IX12_isEndless) (as := [.inl x1, .inl x3]) (ci := 12) (g := 0) (o := 200) (idx := 334) (pl := 2040) (rest := []) (mX12_isEndless x1 x3 D q4 hq4) kX12_isEndless vX12_isEndless (by decide +kernel) (by decide +kernel) (by decide +kernel) rfl rfl ⟨rfl, rfl⟩ rfl rfl rfl rfl ?_
        refine mz_Go.run (gs := []) (st' := (if q4 = 0 then (45, [some (.inr (.inr (some (0, 200)))), some (.inl x1), some (.inl x2), some (.inl x3)], [], D) else (42, [some (.inr (.inr (some (0, 200)))), some (.inl x1), some (.inl x2), some (.inl x3)], [], D))) bX12_easyOn_39 oX12_easyOn_39 rfl trivial ?_
        refine mz_Go.ite (fun hc5 => ?_) (fun hc5 => ?_)
        · have h := mz_ifp hc5 h
          refine mz_Go.run (gs := []) (st' := (if x2 = (-1 : Int32) then (79, [some (.inr (.inr (some (0, 200)))), some (.inl x1), some (.inl x2), some (.inl x3)], [], D) else (50, [some (.inr (.inr (some (0, 200)))), some (.inl x1), some (.inl x2), some (.inl x3)], [], D))) bX12_easyOn_45 oX12_easyOn_45 rfl trivial ?_
          refine mz_Go.ite (fun hc6 => ?_) (fun hc6 => ?_)
          · have h := mz_ifp hc6 h
            exact mz_Go.drop [true, true, false, true] (tX12_easyOn_79 r (fX12_easyOn_18 n) ih x1 x3 D h)
          · have h := mz_ifn hc6 h
            refine mz_Go.run (gs := []) (st' := (53, [some (.inr (.inr (some (0, 200)))), some (.inl x1), some (.inl x2), some (.inl x3)], [.inl x3, .inl x1, .inr (.inr (some (0, 200)))], D)) bX12_easyOn_50 oX12_easyOn_50 rfl trivial ?_
            obtain ⟨q7, hq7, h⟩ := mz_bd_some h
            refine mz_Go.callV (I := IX12_easyOn) (J := IX12_first) (as := [.inl x1, .inl x3]) (ci := 12) (g := 0) (o := 200) (idx := 337) (pl := 2048) (rest := []) (mX12_first x1 x3 D q7 hq7) kX12_first vX12_first (by decide +kernel) (by decide +kernel) (by decide +kernel) rfl rfl ⟨rfl, rfl⟩ rfl rfl rfl rfl ?_
            refine mz_Go.run (gs := []) (st' := (59, [some (.inr (.inr (some (0, 200)))), some (.inl x1), some (.inl x2), some (.inl x3)], [.inl x2, .inl x1, .inr (.inr (some (0, 200))), .inl q7], D)) bX12_easyOn_56 oX12_easyOn_56 rfl trivial ?_
            obtain ⟨q8, hq8, h⟩ := mz_bd_some h
            refine mz_Go.callV (I := IX12_easyOn) (J := IX12_behind) (as := [.inl x1, .inl x2]) (ci := 12) (g := 0) (o := 200) (idx := 340) (pl := 2052) (rest := [.inl q7]) (mX12_behind x1 x2 D q8 hq8) kX12_behind vX12_behind (by decide +kernel) (by decide +kernel) (by decide +kernel) rfl rfl ⟨rfl, rfl⟩ rfl rfl rfl rfl ?_
            refine mz_Go.run (gs := []) (st' := (66, [some (.inr (.inr (some (0, 200)))), some (.inl x1), some (.inl x2), some (.inl x3)], [.inl x2, .inl x1, .inr (.inr (some (0, 200))), .inl (q7 * q8)], D)) bX12_easyOn_62 oX12_easyOn_62 rfl trivial ?_
            obtain ⟨q9, hq9, h⟩ := mz_bd_some h
            refine mz_Go.callV (I := IX12_easyOn) (J := IX12_first) (as := [.inl x1, .inl x2]) (ci := 12) (g := 0) (o := 200) (idx := 337) (pl := 2048) (rest := [.inl (q7 * q8)]) (mX12_first x1 x2 D q9 hq9) kX12_first vX12_first (by decide +kernel) (by decide +kernel) (by decide +kernel) rfl rfl ⟨rfl, rfl⟩ rfl rfl rfl rfl ?_
            refine mz_Go.run (gs := []) (st' := (72, [some (.inr (.inr (some (0, 200)))), some (.inl x1), some (.inl x2), some (.inl x3)], [.inl x3, .inl x1, .inr (.inr (some (0, 200))), .inl q9, .inl (q7 * q8)], D)) bX12_easyOn_69 oX12_easyOn_69 rfl trivial ?_
            obtain ⟨q10, hq10, h⟩ := mz_bd_some h
            refine mz_Go.callV (I := IX12_easyOn) (J := IX12_behind) (as := [.inl x1, .inl x3]) (ci := 12) (g := 0) (o := 200) (idx := 340) (pl := 2052) (rest := [.inl q9, .inl (q7 * q8)]) (mX12_behind x1 x3 D q10 hq10) kX12_behind vX12_behind (by decide +kernel) (by decide +kernel) (by decide +kernel) rfl rfl ⟨rfl, rfl⟩ rfl rfl rfl rfl ?_
            refine mz_Go.run (gs := []) (st' := (if (q9 * q10) ≤ (q7 * q8) then (81, [some (.inr (.inr (some (0, 200)))), some (.inl x1), some (.inl x2), some (.inl x3)], [], D) else (79, [some (.inr (.inr (some (0, 200)))), some (.inl x1), some (.inl x2), some (.inl x3)], [], D))) bX12_easyOn_75 oX12_easyOn_75 rfl trivial ?_
            refine mz_Go.ite (fun hc11 => ?_) (fun hc11 => ?_)
            · have h := mz_ifp hc11 h
              refine mz_Go.run (gs := []) (st' := (18, [some (.inr (.inr (some (0, 200)))), some (.inl x1), some (.inl x2), some (.inl (x3 + (1 : Int32)))], [], D)) bX12_easyOn_81 oX12_easyOn_81 rfl trivial ?_
              exact mz_Go.drop [true, true, true, true] (ih x1 x2 (x3 + (1 : Int32)) D h)
            · have h := mz_ifn hc11 h
              exact mz_Go.drop [true, true, false, true] (tX12_easyOn_79 r (fX12_easyOn_18 n) ih x1 x3 D h)
        · have h := mz_ifn hc5 h
          refine mz_Go.run (gs := []) (st' := (18, [some (.inr (.inr (some (0, 200)))), some (.inl x1), some (.inl x2), some (.inl (x3 + (1 : Int32)))], [], D)) bX12_easyOn_42 oX12_easyOn_42 rfl trivial ?_
          exact mz_Go.drop [true, true, true, true] (ih x1 x2 (x3 + (1 : Int32)) D h)
def fX12_easyOn (x1 : Int32) (D : mz_D) : Option (Int32 × mz_D) := (if (fX12_isPerson x1 D) = 0 then (some ((-1 : Int32), (mz_wi D 0 200 2 (1 : Int32)))) else (fX12_easyOn_18 mz_N x1 (-1 : Int32) (0 : Int32) D))
set_option maxHeartbeats 4000000 in
theorem mX12_easyOn (x1 : Int32) (D : mz_D) (r : (Int32 × mz_D)) (h : fX12_easyOn x1 D = some r) : mz_Met IX12_easyOn [.inr (.inr (some (0, 200))), .inl x1] D (some (.inl r.1), r.2) := by
  refine mz_Met.of (by decide +kernel) (Nat.le_of_ble_eq_true rfl) ?_
  show mz_Go IX12_easyOn (some (.inl r.1), r.2) 0 0 (0, [some (.inr (.inr (some (0, 200)))), some (.inl x1), none, none], [], D)
  rw [fX12_easyOn] at h
  refine mz_Go.run (gs := []) (st' := (2, [some (.inr (.inr (some (0, 200)))), some (.inl x1), none, none], [.inl x1, .inr (.inr (some (0, 200)))], D)) bX12_easyOn_0 oX12_easyOn_0 rfl trivial ?_
  refine mz_Go.callV (I := IX12_easyOn) (J := IX12_isPerson) (as := [.inl x1]) (ci := 12) (g := 0) (o := 200) (idx := 248) (pl := 1902) (rest := []) (mX12_isPerson x1 D _ rfl) kX12_isPerson vX12_isPerson (by decide +kernel) (by decide +kernel) (by decide +kernel) rfl rfl ⟨rfl, rfl⟩ rfl rfl rfl rfl ?_
  refine mz_Go.run (gs := []) (st' := (if (fX12_isPerson x1 D) = 0 then (8, [some (.inr (.inr (some (0, 200)))), some (.inl x1), none, none], [], D) else (14, [some (.inr (.inr (some (0, 200)))), some (.inl x1), none, none], [], D))) bX12_easyOn_5 oX12_easyOn_5 rfl trivial ?_
  refine mz_Go.ite (fun hc1 => ?_) (fun hc1 => ?_)
  · have h := mz_ifp hc1 h
    refine mz_Go.run (gs := []) (st' := (10, [some (.inr (.inr (some (0, 200)))), some (.inl x1), none, none], [.inl (1 : Int32), .inr (.inr (some (0, 200)))], D)) bX12_easyOn_8 oX12_easyOn_8 rfl trivial ?_
    refine mz_Go.callV (I := IX12_easyOn) (J := IX12_refuse) (as := [.inl (1 : Int32)]) (ci := 12) (g := 0) (o := 200) (idx := 75) (pl := 1761) (rest := []) (mX12_refuse (1 : Int32) D) kX12_refuse vX12_refuse (by decide +kernel) (by decide +kernel) (by decide +kernel) rfl rfl ⟨rfl, rfl⟩ rfl rfl rfl rfl ?_
    cases h
    exact mz_Go.reti (by decide +kernel) rfl ⟨Nat.le_refl _, Nat.le_refl _⟩ rfl
  · have h := mz_ifn hc1 h
    refine mz_Go.run (gs := []) (st' := (18, [some (.inr (.inr (some (0, 200)))), some (.inl x1), some (.inl (-1 : Int32)), some (.inl (0 : Int32))], [], D)) bX12_easyOn_14 oX12_easyOn_14 rfl trivial ?_
    exact mz_Go.drop [true, true, true, true] (tX12_easyOn_18 r mz_N x1 (-1 : Int32) (0 : Int32) D h)
def bX12_regretOf_0 : List mz_E := [(0, .aload_n 0, 0, 0, 0, 0, 0), (1, .getfield 7, 12, 0, 1576, 0, 0), (4, .iload_n 1, 0, 0, 0, 0, 0)]
theorem oX12_regretOf_0 : bX12_regretOf_0.all (mz_ok RX12 cX12_regretOf 2) = true := by decide +kernel
def bX12_regretOf_8 : List mz_E := [(8, .iconst 2, 0, 0, 0, 2, 0), (9, .iadd, 0, 0, 0, 0, 0), (10, .iaload, 0, 0, 0, 0, 0), (11, .aload_n 0, 0, 0, 0, 0, 0)]
theorem oX12_regretOf_8 : bX12_regretOf_8.all (mz_ok RX12 cX12_regretOf 2) = true := by decide +kernel
def bX12_regretOf_15 : List mz_E := [(15, .aload_n 0, 0, 0, 0, 0, 0), (16, .getfield 7, 12, 0, 1576, 0, 0), (19, .iload_n 1, 0, 0, 0, 0, 0)]
theorem oX12_regretOf_15 : bX12_regretOf_15.all (mz_ok RX12 cX12_regretOf 2) = true := by decide +kernel
def bX12_regretOf_23 : List mz_E := [(23, .iconst 5, 0, 0, 0, 5, 0), (24, .iadd, 0, 0, 0, 0, 0), (25, .iaload, 0, 0, 0, 0, 0), (26, .isub, 0, 0, 0, 0, 0), (27, .imul, 0, 0, 0, 0, 0), (28, .aload_n 0, 0, 0, 0, 0, 0), (29, .iload_n 1, 0, 0, 0, 0, 0)]
theorem oX12_regretOf_23 : bX12_regretOf_23.all (mz_ok RX12 cX12_regretOf 2) = true := by decide +kernel
def bX12_regretOf_33 : List mz_E := [(33, .isub, 0, 0, 0, 0, 0)]
theorem oX12_regretOf_33 : bX12_regretOf_33.all (mz_ok RX12 cX12_regretOf 2) = true := by decide +kernel
abbrev IX12_regretOf : mz_I := (yX12_regretOf, cX12_regretOf, 2, (some .int), 0, 2, 0, 0)
theorem kX12_regretOf : mz_okm IX12_regretOf 2089 141 2088 1 = true := by decide +kernel
theorem vX12_regretOf : mz_okV IX12_regretOf 2088 102 = true := by decide +kernel
def fX12_regretOf (x1 : Int32) (D : mz_D) : Option Int32 := (mz_gd (mz_ix (((12 : Int32) + ((8 : Int32) * x1)) + (2 : Int32)) 3000) (Option.bind (fX12_paidByAll D) fun q2 => (mz_gd (mz_ix (((12 : Int32) + ((8 : Int32) * x1)) + (5 : Int32)) 3000) (Option.bind (fX12_balanceOf x1 D) fun q4 => (some (((D.1 0 201 ((((12 : Int32) + ((8 : Int32) * x1)) + (2 : Int32))).toNatClampNeg) * (q2 - (D.1 0 201 ((((12 : Int32) + ((8 : Int32) * x1)) + (5 : Int32))).toNatClampNeg))) - q4))))))
set_option maxHeartbeats 4000000 in
theorem mX12_regretOf (x1 : Int32) (D : mz_D) (r : Int32) (h : fX12_regretOf x1 D = some r) : mz_Met IX12_regretOf [.inr (.inr (some (0, 200))), .inl x1] D (some (.inl r), D) := by
  refine mz_Met.of (by decide +kernel) (Nat.le_of_ble_eq_true rfl) ?_
  show mz_Go IX12_regretOf (some (.inl r), D) 0 0 (0, [some (.inr (.inr (some (0, 200)))), some (.inl x1)], [], D)
  rw [fX12_regretOf] at h
  refine mz_Go.run (gs := [mz_kz 0 0 200]) (st' := (5, [some (.inr (.inr (some (0, 200)))), some (.inl x1)], [.inl x1, .inr (.inr (some (0, 201)))], D)) bX12_regretOf_0 oX12_regretOf_0 rfl ⟨rfl, trivial⟩ ?_
  refine mz_Go.callS (I := IX12_regretOf) (J := IX12_personRow) (as := [.inl x1]) (idx := 267) (pl := 1895) (rest := [.inr (.inr (some (0, 201)))]) (mX12_personRow x1 D) kX12_personRow vX12_personRow (by decide +kernel) (by decide +kernel) (by decide +kernel) rfl rfl ⟨rfl, rfl⟩ rfl ?_
  obtain ⟨hb1, h⟩ := mz_gd_some h
  refine mz_Go.run (gs := [mz_kz 0 0 201, mz_ix (((12 : Int32) + ((8 : Int32) * x1)) + (2 : Int32)) 3000]) (st' := (12, [some (.inr (.inr (some (0, 200)))), some (.inl x1)], [.inr (.inr (some (0, 200))), .inl (D.1 0 201 ((((12 : Int32) + ((8 : Int32) * x1)) + (2 : Int32))).toNatClampNeg)], D)) bX12_regretOf_8 oX12_regretOf_8 rfl ⟨rfl, hb1, trivial⟩ ?_
  obtain ⟨q2, hq2, h⟩ := mz_bd_some h
  refine mz_Go.callV (I := IX12_regretOf) (J := IX12_paidByAll) (as := []) (ci := 12) (g := 0) (o := 200) (idx := 288) (pl := 1891) (rest := [.inl (D.1 0 201 ((((12 : Int32) + ((8 : Int32) * x1)) + (2 : Int32))).toNatClampNeg)]) (mX12_paidByAll D q2 hq2) kX12_paidByAll vX12_paidByAll (by decide +kernel) (by decide +kernel) (by decide +kernel) rfl rfl ⟨rfl, rfl⟩ rfl rfl rfl rfl ?_
  refine mz_Go.run (gs := [mz_kz 0 0 200]) (st' := (20, [some (.inr (.inr (some (0, 200)))), some (.inl x1)], [.inl x1, .inr (.inr (some (0, 201))), .inl q2, .inl (D.1 0 201 ((((12 : Int32) + ((8 : Int32) * x1)) + (2 : Int32))).toNatClampNeg)], D)) bX12_regretOf_15 oX12_regretOf_15 rfl ⟨rfl, trivial⟩ ?_
  refine mz_Go.callS (I := IX12_regretOf) (J := IX12_personRow) (as := [.inl x1]) (idx := 267) (pl := 1895) (rest := [.inr (.inr (some (0, 201))), .inl q2, .inl (D.1 0 201 ((((12 : Int32) + ((8 : Int32) * x1)) + (2 : Int32))).toNatClampNeg)]) (mX12_personRow x1 D) kX12_personRow vX12_personRow (by decide +kernel) (by decide +kernel) (by decide +kernel) rfl rfl ⟨rfl, rfl⟩ rfl ?_
  obtain ⟨hb3, h⟩ := mz_gd_some h
  refine mz_Go.run (gs := [mz_kz 0 0 201, mz_ix (((12 : Int32) + ((8 : Int32) * x1)) + (5 : Int32)) 3000]) (st' := (30, [some (.inr (.inr (some (0, 200)))), some (.inl x1)], [.inl x1, .inr (.inr (some (0, 200))), .inl ((D.1 0 201 ((((12 : Int32) + ((8 : Int32) * x1)) + (2 : Int32))).toNatClampNeg) * (q2 - (D.1 0 201 ((((12 : Int32) + ((8 : Int32) * x1)) + (5 : Int32))).toNatClampNeg)))], D)) bX12_regretOf_23 oX12_regretOf_23 rfl ⟨rfl, hb3, trivial⟩ ?_
  obtain ⟨q4, hq4, h⟩ := mz_bd_some h
  refine mz_Go.callV (I := IX12_regretOf) (J := IX12_balanceOf) (as := [.inl x1]) (ci := 12) (g := 0) (o := 200) (idx := 319) (pl := 2024) (rest := [.inl ((D.1 0 201 ((((12 : Int32) + ((8 : Int32) * x1)) + (2 : Int32))).toNatClampNeg) * (q2 - (D.1 0 201 ((((12 : Int32) + ((8 : Int32) * x1)) + (5 : Int32))).toNatClampNeg)))]) (mX12_balanceOf x1 D q4 hq4) kX12_balanceOf vX12_balanceOf (by decide +kernel) (by decide +kernel) (by decide +kernel) rfl rfl ⟨rfl, rfl⟩ rfl rfl rfl rfl ?_
  refine mz_Go.run (gs := []) (st' := (34, [some (.inr (.inr (some (0, 200)))), some (.inl x1)], [.inl (((D.1 0 201 ((((12 : Int32) + ((8 : Int32) * x1)) + (2 : Int32))).toNatClampNeg) * (q2 - (D.1 0 201 ((((12 : Int32) + ((8 : Int32) * x1)) + (5 : Int32))).toNatClampNeg))) - q4)], D)) bX12_regretOf_33 oX12_regretOf_33 rfl trivial ?_
  cases h
  exact mz_Go.reti (by decide +kernel) rfl ⟨Nat.le_refl _, Nat.le_refl _⟩ rfl
def bX12_regret_0 : List mz_E := [(0, .aload_n 0, 0, 0, 0, 0, 0), (1, .iload_n 1, 0, 0, 0, 0, 0)]
theorem oX12_regret_0 : bX12_regret_0.all (mz_ok RX12 cX12_regret 2) = true := by decide +kernel
def bX12_regret_5 : List mz_E := [(5, .ifCond .eq 15, 0, 20, 0, 0, 0)]
theorem oX12_regret_5 : bX12_regret_5.all (mz_ok RX12 cX12_regret 2) = true := by decide +kernel
def bX12_regret_20 : List mz_E := [(20, .aload_n 0, 0, 0, 0, 0, 0), (21, .iconst 1, 0, 0, 0, 1, 0)]
theorem oX12_regret_20 : bX12_regret_20.all (mz_ok RX12 cX12_regret 2) = true := by decide +kernel
def bX12_regret_8 : List mz_E := [(8, .aload_n 0, 0, 0, 0, 0, 0), (9, .aload_n 0, 0, 0, 0, 0, 0), (10, .iload_n 1, 0, 0, 0, 0, 0)]
theorem oX12_regret_8 : bX12_regret_8.all (mz_ok RX12 cX12_regret 2) = true := by decide +kernel
def bX12_regret_17 : List mz_E := [(17, .goto 8, 0, 25, 0, 0, 0)]
theorem oX12_regret_17 : bX12_regret_17.all (mz_ok RX12 cX12_regret 2) = true := by decide +kernel
abbrev IX12_regret : mz_I := (yX12_regret, cX12_regret, 2, (some .int), 0, 3, 0, 0)
theorem kX12_regret : mz_okm IX12_regret 2085 141 2083 1 = true := by decide +kernel
theorem vX12_regret : mz_okV IX12_regret 2083 2084 = true := by decide +kernel
def fX12_regret (x1 : Int32) (D : mz_D) : Option (Int32 × mz_D) := (if (fX12_isPerson x1 D) = 0 then (some ((-1 : Int32), (mz_wi D 0 200 2 (1 : Int32)))) else (Option.bind (fX12_regretOf x1 D) fun q2 => (some (q2, (mz_wi D 0 200 2 (0 : Int32))))))
set_option maxHeartbeats 4000000 in
theorem mX12_regret (x1 : Int32) (D : mz_D) (r : (Int32 × mz_D)) (h : fX12_regret x1 D = some r) : mz_Met IX12_regret [.inr (.inr (some (0, 200))), .inl x1] D (some (.inl r.1), r.2) := by
  refine mz_Met.of (by decide +kernel) (Nat.le_of_ble_eq_true rfl) ?_
  show mz_Go IX12_regret (some (.inl r.1), r.2) 0 0 (0, [some (.inr (.inr (some (0, 200)))), some (.inl x1)], [], D)
  rw [fX12_regret] at h
  refine mz_Go.run (gs := []) (st' := (2, [some (.inr (.inr (some (0, 200)))), some (.inl x1)], [.inl x1, .inr (.inr (some (0, 200)))], D)) bX12_regret_0 oX12_regret_0 rfl trivial ?_
  refine mz_Go.callV (I := IX12_regret) (J := IX12_isPerson) (as := [.inl x1]) (ci := 12) (g := 0) (o := 200) (idx := 248) (pl := 1902) (rest := []) (mX12_isPerson x1 D _ rfl) kX12_isPerson vX12_isPerson (by decide +kernel) (by decide +kernel) (by decide +kernel) rfl rfl ⟨rfl, rfl⟩ rfl rfl rfl rfl ?_
  refine mz_Go.run (gs := []) (st' := (if (fX12_isPerson x1 D) = 0 then (20, [some (.inr (.inr (some (0, 200)))), some (.inl x1)], [], D) else (8, [some (.inr (.inr (some (0, 200)))), some (.inl x1)], [], D))) bX12_regret_5 oX12_regret_5 rfl trivial ?_
  refine mz_Go.ite (fun hc1 => ?_) (fun hc1 => ?_)
  · have h := mz_ifp hc1 h
    refine mz_Go.run (gs := []) (st' := (22, [some (.inr (.inr (some (0, 200)))), some (.inl x1)], [.inl (1 : Int32), .inr (.inr (some (0, 200)))], D)) bX12_regret_20 oX12_regret_20 rfl trivial ?_
    refine mz_Go.callV (I := IX12_regret) (J := IX12_refuse) (as := [.inl (1 : Int32)]) (ci := 12) (g := 0) (o := 200) (idx := 75) (pl := 1761) (rest := []) (mX12_refuse (1 : Int32) D) kX12_refuse vX12_refuse (by decide +kernel) (by decide +kernel) (by decide +kernel) rfl rfl ⟨rfl, rfl⟩ rfl rfl rfl rfl ?_
    cases h
    exact mz_Go.reti (by decide +kernel) rfl ⟨Nat.le_refl _, Nat.le_refl _⟩ rfl
  · have h := mz_ifn hc1 h
    refine mz_Go.run (gs := []) (st' := (11, [some (.inr (.inr (some (0, 200)))), some (.inl x1)], [.inl x1, .inr (.inr (some (0, 200))), .inr (.inr (some (0, 200)))], D)) bX12_regret_8 oX12_regret_8 rfl trivial ?_
    obtain ⟨q2, hq2, h⟩ := mz_bd_some h
    refine mz_Go.callV (I := IX12_regret) (J := IX12_regretOf) (as := [.inl x1]) (ci := 12) (g := 0) (o := 200) (idx := 354) (pl := 2086) (rest := [.inr (.inr (some (0, 200)))]) (mX12_regretOf x1 D q2 hq2) kX12_regretOf vX12_regretOf (by decide +kernel) (by decide +kernel) (by decide +kernel) rfl rfl ⟨rfl, rfl⟩ rfl rfl rfl rfl ?_
    refine mz_Go.callV (I := IX12_regret) (J := IX12_gives) (as := [.inl q2]) (ci := 12) (g := 0) (o := 200) (idx := 79) (pl := 1844) (rest := []) (mX12_gives q2 D) kX12_gives vX12_gives (by decide +kernel) (by decide +kernel) (by decide +kernel) rfl rfl ⟨rfl, rfl⟩ rfl rfl rfl rfl ?_
    refine mz_Go.run (gs := []) (st' := (25, [some (.inr (.inr (some (0, 200)))), some (.inl x1)], [.inl q2], (mz_wi D 0 200 2 (0 : Int32)))) bX12_regret_17 oX12_regret_17 rfl trivial ?_
    cases h
    exact mz_Go.reti (by decide +kernel) rfl ⟨Nat.le_refl _, Nat.le_refl _⟩ rfl
def bX12_sorest_0 : List mz_E := [(0, .iconst (-1), 0, 0, 0, -1, 0), (1, .istore_n 1, 0, 0, 0, 0, 0), (2, .iconst 0, 0, 0, 0, 0, 0), (3, .istore_n 2, 0, 0, 0, 0, 0)]
theorem oX12_sorest_0 : bX12_sorest_0.all (mz_ok RX12 cX12_sorest 3) = true := by decide +kernel
def bX12_sorest_4 : List mz_E := [(4, .iload_n 2, 0, 0, 0, 0, 0), (5, .aload_n 0, 0, 0, 0, 0, 0), (6, .getfield 7, 12, 0, 1576, 0, 0), (9, .iconst 0, 0, 0, 0, 0, 0), (10, .iaload, 0, 0, 0, 0, 0), (11, .if_icmp .ge 29, 0, 40, 0, 0, 0)]
theorem oX12_sorest_4 : bX12_sorest_4.all (mz_ok RX12 cX12_sorest 3) = true := by decide +kernel
def bX12_sorest_40 : List mz_E := [(40, .aload_n 0, 0, 0, 0, 0, 0), (41, .iload_n 1, 0, 0, 0, 0, 0)]
theorem oX12_sorest_40 : bX12_sorest_40.all (mz_ok RX12 cX12_sorest 3) = true := by decide +kernel
def bX12_sorest_14 : List mz_E := [(14, .iload_n 1, 0, 0, 0, 0, 0), (15, .iconst (-1), 0, 0, 0, -1, 0), (16, .if_icmp .eq 16, 0, 32, 0, 0, 0)]
theorem oX12_sorest_14 : bX12_sorest_14.all (mz_ok RX12 cX12_sorest 3) = true := by decide +kernel
def bX12_sorest_32 : List mz_E := [(32, .iload_n 2, 0, 0, 0, 0, 0), (33, .istore_n 1, 0, 0, 0, 0, 0), (34, .iinc 2 1, 0, 0, 0, 1, 0), (37, .goto (-33), 0, 4, 0, 0, 0)]
theorem oX12_sorest_32 : bX12_sorest_32.all (mz_ok RX12 cX12_sorest 3) = true := by decide +kernel
def bX12_sorest_19 : List mz_E := [(19, .aload_n 0, 0, 0, 0, 0, 0), (20, .iload_n 2, 0, 0, 0, 0, 0)]
theorem oX12_sorest_19 : bX12_sorest_19.all (mz_ok RX12 cX12_sorest 3) = true := by decide +kernel
def bX12_sorest_24 : List mz_E := [(24, .aload_n 0, 0, 0, 0, 0, 0), (25, .iload_n 1, 0, 0, 0, 0, 0)]
theorem oX12_sorest_24 : bX12_sorest_24.all (mz_ok RX12 cX12_sorest 3) = true := by decide +kernel
def bX12_sorest_29 : List mz_E := [(29, .if_icmp .le 5, 0, 34, 0, 0, 0)]
theorem oX12_sorest_29 : bX12_sorest_29.all (mz_ok RX12 cX12_sorest 3) = true := by decide +kernel
def bX12_sorest_34 : List mz_E := [(34, .iinc 2 1, 0, 0, 0, 1, 0), (37, .goto (-33), 0, 4, 0, 0, 0)]
theorem oX12_sorest_34 : bX12_sorest_34.all (mz_ok RX12 cX12_sorest 3) = true := by decide +kernel
abbrev IX12_sorest : mz_I := (yX12_sorest, cX12_sorest, 3, (some .int), 0, 3, 0, 0)
theorem kX12_sorest : mz_okm IX12_sorest 2093 141 2091 0 = true := by decide +kernel
theorem vX12_sorest : mz_okV IX12_sorest 2091 2092 = true := by decide +kernel
def fX12_sorest_32 (k4 : Int32 → Int32 → mz_D → Option (Int32 × mz_D)) (x2 : Int32) (D : mz_D) : Option (Int32 × mz_D) := (k4 x2 (x2 + (1 : Int32)) D)
set_option maxHeartbeats 4000000 in
theorem tX12_sorest_32 (r : (Int32 × mz_D)) (k4 : Int32 → Int32 → mz_D → Option (Int32 × mz_D)) (hk4 : ∀ (x1 : Int32) (x2 : Int32) (D : mz_D), k4 x1 x2 D = some r → mz_Go IX12_sorest (some (.inl r.1), r.2) 0 0 (4, [some (.inr (.inr (some (0, 200)))), some (.inl x1), some (.inl x2)], [], D)) : ∀ (x2 : Int32) (D : mz_D), fX12_sorest_32 k4 x2 D = some r → mz_Go IX12_sorest (some (.inl r.1), r.2) 0 0 (32, [some (.inr (.inr (some (0, 200)))), none, some (.inl x2)], [], D) := by
  intro x2 D h
  rw [fX12_sorest_32] at h
  refine mz_Go.run (gs := []) (st' := (4, [some (.inr (.inr (some (0, 200)))), some (.inl x2), some (.inl (x2 + (1 : Int32)))], [], D)) bX12_sorest_32 oX12_sorest_32 rfl trivial ?_
  exact mz_Go.drop [true, true, true] (hk4 x2 (x2 + (1 : Int32)) D h)
def fX12_sorest_4 : Nat → Int32 → Int32 → mz_D → Option (Int32 × mz_D)
  | 0 => fun _ _ _ => none
  | n + 1 => fun x1 x2 D => (if (D.1 0 201 ((0 : Int32)).toNatClampNeg) ≤ x2 then (Option.bind (fX12_orNone x1 D) fun q2 => (some (q2.1, q2.2))) else (if x1 = (-1 : Int32) then (fX12_sorest_32 (fX12_sorest_4 n) x2 D) else (Option.bind (fX12_regretOf x2 D) fun q4 => (Option.bind (fX12_regretOf x1 D) fun q5 => (if q4 ≤ q5 then ((fX12_sorest_4 n) x1 (x2 + (1 : Int32)) D) else (fX12_sorest_32 (fX12_sorest_4 n) x2 D))))))
set_option maxHeartbeats 4000000 in
theorem tX12_sorest_4 (r : (Int32 × mz_D)) : ∀ (n : Nat) (x1 : Int32) (x2 : Int32) (D : mz_D), fX12_sorest_4 n x1 x2 D = some r → mz_Go IX12_sorest (some (.inl r.1), r.2) 0 0 (4, [some (.inr (.inr (some (0, 200)))), some (.inl x1), some (.inl x2)], [], D) := by
  intro n
  induction n with
  | zero => intro x1 x2 D h; have h : (none : Option (Int32 × mz_D)) = some r := h; cases h
  | succ n ih =>
    intro x1 x2 D h
    rw [fX12_sorest_4] at h
    refine mz_Go.run (gs := [mz_kz 0 0 200, mz_kz 0 0 201, mz_ix (0 : Int32) 3000]) (st' := (if (D.1 0 201 ((0 : Int32)).toNatClampNeg) ≤ x2 then (40, [some (.inr (.inr (some (0, 200)))), some (.inl x1), some (.inl x2)], [], D) else (14, [some (.inr (.inr (some (0, 200)))), some (.inl x1), some (.inl x2)], [], D))) bX12_sorest_4 oX12_sorest_4 rfl ⟨rfl, rfl, (by decide), trivial⟩ ?_
    refine mz_Go.ite (fun hc1 => ?_) (fun hc1 => ?_)
    · have h := mz_ifp hc1 h
      refine mz_Go.run (gs := []) (st' := (42, [some (.inr (.inr (some (0, 200)))), some (.inl x1), some (.inl x2)], [.inl x1, .inr (.inr (some (0, 200)))], D)) bX12_sorest_40 oX12_sorest_40 rfl trivial ?_
      obtain ⟨q2, hq2, h⟩ := mz_bd_some h
      refine mz_Go.callV (I := IX12_sorest) (J := IX12_orNone) (as := [.inl x1]) (ci := 12) (g := 0) (o := 200) (idx := 291) (pl := 1906) (rest := []) (mX12_orNone x1 D q2 hq2) kX12_orNone vX12_orNone (by decide +kernel) (by decide +kernel) (by decide +kernel) rfl rfl ⟨rfl, rfl⟩ rfl rfl rfl rfl ?_
      cases h
      exact mz_Go.reti (by decide +kernel) rfl ⟨Nat.le_refl _, Nat.le_refl _⟩ rfl
    · have h := mz_ifn hc1 h
      refine mz_Go.run (gs := []) (st' := (if x1 = (-1 : Int32) then (32, [some (.inr (.inr (some (0, 200)))), some (.inl x1), some (.inl x2)], [], D) else (19, [some (.inr (.inr (some (0, 200)))), some (.inl x1), some (.inl x2)], [], D))) bX12_sorest_14 oX12_sorest_14 rfl trivial ?_
      refine mz_Go.ite (fun hc3 => ?_) (fun hc3 => ?_)
      · have h := mz_ifp hc3 h
        exact mz_Go.drop [true, false, true] (tX12_sorest_32 r (fX12_sorest_4 n) ih x2 D h)
      · have h := mz_ifn hc3 h
        refine mz_Go.run (gs := []) (st' := (21, [some (.inr (.inr (some (0, 200)))), some (.inl x1), some (.inl x2)], [.inl x2, .inr (.inr (some (0, 200)))], D)) bX12_sorest_19 oX12_sorest_19 rfl trivial ?_
        obtain ⟨q4, hq4, h⟩ := mz_bd_some h
        refine mz_Go.callV (I := IX12_sorest) (J := IX12_regretOf) (as := [.inl x2]) (ci := 12) (g := 0) (o := 200) (idx := 354) (pl := 2086) (rest := []) (mX12_regretOf x2 D q4 hq4) kX12_regretOf vX12_regretOf (by decide +kernel) (by decide +kernel) (by decide +kernel) rfl rfl ⟨rfl, rfl⟩ rfl rfl rfl rfl ?_
        refine mz_Go.run (gs := []) (st' := (26, [some (.inr (.inr (some (0, 200)))), some (.inl x1), some (.inl x2)], [.inl x1, .inr (.inr (some (0, 200))), .inl q4], D)) bX12_sorest_24 oX12_sorest_24 rfl trivial ?_
        obtain ⟨q5, hq5, h⟩ := mz_bd_some h
        refine mz_Go.callV (I := IX12_sorest) (J := IX12_regretOf) (as := [.inl x1]) (ci := 12) (g := 0) (o := 200) (idx := 354) (pl := 2086) (rest := [.inl q4]) (mX12_regretOf x1 D q5 hq5) kX12_regretOf vX12_regretOf (by decide +kernel) (by decide +kernel) (by decide +kernel) rfl rfl ⟨rfl, rfl⟩ rfl rfl rfl rfl ?_
        refine mz_Go.run (gs := []) (st' := (if q4 ≤ q5 then (34, [some (.inr (.inr (some (0, 200)))), some (.inl x1), some (.inl x2)], [], D) else (32, [some (.inr (.inr (some (0, 200)))), some (.inl x1), some (.inl x2)], [], D))) bX12_sorest_29 oX12_sorest_29 rfl trivial ?_
        refine mz_Go.ite (fun hc6 => ?_) (fun hc6 => ?_)
        · have h := mz_ifp hc6 h
          refine mz_Go.run (gs := []) (st' := (4, [some (.inr (.inr (some (0, 200)))), some (.inl x1), some (.inl (x2 + (1 : Int32)))], [], D)) bX12_sorest_34 oX12_sorest_34 rfl trivial ?_
          exact mz_Go.drop [true, true, true] (ih x1 (x2 + (1 : Int32)) D h)
        · have h := mz_ifn hc6 h
          exact mz_Go.drop [true, false, true] (tX12_sorest_32 r (fX12_sorest_4 n) ih x2 D h)
def fX12_sorest (D : mz_D) : Option (Int32 × mz_D) := (fX12_sorest_4 mz_N (-1 : Int32) (0 : Int32) D)
set_option maxHeartbeats 4000000 in
theorem mX12_sorest (D : mz_D) (r : (Int32 × mz_D)) (h : fX12_sorest D = some r) : mz_Met IX12_sorest [.inr (.inr (some (0, 200)))] D (some (.inl r.1), r.2) := by
  refine mz_Met.of (by decide +kernel) (Nat.le_of_ble_eq_true rfl) ?_
  show mz_Go IX12_sorest (some (.inl r.1), r.2) 0 0 (0, [some (.inr (.inr (some (0, 200)))), none, none], [], D)
  rw [fX12_sorest] at h
  refine mz_Go.run (gs := []) (st' := (4, [some (.inr (.inr (some (0, 200)))), some (.inl (-1 : Int32)), some (.inl (0 : Int32))], [], D)) bX12_sorest_0 oX12_sorest_0 rfl trivial ?_
  exact mz_Go.drop [true, true, true] (tX12_sorest_4 r mz_N (-1 : Int32) (0 : Int32) D h)
def bX12_owes_0 : List mz_E := [(0, .aload_n 0, 0, 0, 0, 0, 0), (1, .iload_n 1, 0, 0, 0, 0, 0), (2, .iload_n 2, 0, 0, 0, 0, 0)]
theorem oX12_owes_0 : bX12_owes_0.all (mz_ok RX12 cX12_owes 3) = true := by decide +kernel
def bX12_owes_6 : List mz_E := [(6, .ifCond .eq 20, 0, 26, 0, 0, 0)]
theorem oX12_owes_6 : bX12_owes_6.all (mz_ok RX12 cX12_owes 3) = true := by decide +kernel
def bX12_owes_26 : List mz_E := [(26, .aload_n 0, 0, 0, 0, 0, 0), (27, .iconst 1, 0, 0, 0, 1, 0)]
theorem oX12_owes_26 : bX12_owes_26.all (mz_ok RX12 cX12_owes 3) = true := by decide +kernel
def bX12_owes_9 : List mz_E := [(9, .aload_n 0, 0, 0, 0, 0, 0), (10, .aload_n 0, 0, 0, 0, 0, 0), (11, .getfield 7, 12, 0, 1576, 0, 0), (14, .iload_n 1, 0, 0, 0, 0, 0), (15, .iload_n 2, 0, 0, 0, 0, 0)]
theorem oX12_owes_9 : bX12_owes_9.all (mz_ok RX12 cX12_owes 3) = true := by decide +kernel
def bX12_owes_19 : List mz_E := [(19, .iaload, 0, 0, 0, 0, 0)]
theorem oX12_owes_19 : bX12_owes_19.all (mz_ok RX12 cX12_owes 3) = true := by decide +kernel
def bX12_owes_23 : List mz_E := [(23, .goto 8, 0, 31, 0, 0, 0)]
theorem oX12_owes_23 : bX12_owes_23.all (mz_ok RX12 cX12_owes 3) = true := by decide +kernel
abbrev IX12_owes : mz_I := (yX12_owes, cX12_owes, 3, (some .int), 0, 2, 0, 0)
theorem kX12_owes : mz_okm IX12_owes 2097 141 2095 2 = true := by decide +kernel
theorem vX12_owes : mz_okV IX12_owes 2095 2096 = true := by decide +kernel
def fX12_owes (x1 : Int32) (x2 : Int32) (D : mz_D) : Option (Int32 × mz_D) := (if (fX12_areTwo x1 x2 D) = 0 then (some ((-1 : Int32), (mz_wi D 0 200 2 (1 : Int32)))) else (mz_gd (mz_ix (((92 : Int32) + ((6 : Int32) * x1)) + x2) 3000) (some ((D.1 0 201 ((((92 : Int32) + ((6 : Int32) * x1)) + x2)).toNatClampNeg), (mz_wi D 0 200 2 (0 : Int32))))))
set_option maxHeartbeats 4000000 in
theorem mX12_owes (x1 : Int32) (x2 : Int32) (D : mz_D) (r : (Int32 × mz_D)) (h : fX12_owes x1 x2 D = some r) : mz_Met IX12_owes [.inr (.inr (some (0, 200))), .inl x1, .inl x2] D (some (.inl r.1), r.2) := by
  refine mz_Met.of (by decide +kernel) (Nat.le_of_ble_eq_true rfl) ?_
  show mz_Go IX12_owes (some (.inl r.1), r.2) 0 0 (0, [some (.inr (.inr (some (0, 200)))), some (.inl x1), some (.inl x2)], [], D)
  rw [fX12_owes] at h
  refine mz_Go.run (gs := []) (st' := (3, [some (.inr (.inr (some (0, 200)))), some (.inl x1), some (.inl x2)], [.inl x2, .inl x1, .inr (.inr (some (0, 200)))], D)) bX12_owes_0 oX12_owes_0 rfl trivial ?_
  refine mz_Go.callV (I := IX12_owes) (J := IX12_areTwo) (as := [.inl x1, .inl x2]) (ci := 12) (g := 0) (o := 200) (idx := 331) (pl := 2036) (rest := []) (mX12_areTwo x1 x2 D _ rfl) kX12_areTwo vX12_areTwo (by decide +kernel) (by decide +kernel) (by decide +kernel) rfl rfl ⟨rfl, rfl⟩ rfl rfl rfl rfl ?_
  refine mz_Go.run (gs := []) (st' := (if (fX12_areTwo x1 x2 D) = 0 then (26, [some (.inr (.inr (some (0, 200)))), some (.inl x1), some (.inl x2)], [], D) else (9, [some (.inr (.inr (some (0, 200)))), some (.inl x1), some (.inl x2)], [], D))) bX12_owes_6 oX12_owes_6 rfl trivial ?_
  refine mz_Go.ite (fun hc1 => ?_) (fun hc1 => ?_)
  · have h := mz_ifp hc1 h
    refine mz_Go.run (gs := []) (st' := (28, [some (.inr (.inr (some (0, 200)))), some (.inl x1), some (.inl x2)], [.inl (1 : Int32), .inr (.inr (some (0, 200)))], D)) bX12_owes_26 oX12_owes_26 rfl trivial ?_
    refine mz_Go.callV (I := IX12_owes) (J := IX12_refuse) (as := [.inl (1 : Int32)]) (ci := 12) (g := 0) (o := 200) (idx := 75) (pl := 1761) (rest := []) (mX12_refuse (1 : Int32) D) kX12_refuse vX12_refuse (by decide +kernel) (by decide +kernel) (by decide +kernel) rfl rfl ⟨rfl, rfl⟩ rfl rfl rfl rfl ?_
    cases h
    exact mz_Go.reti (by decide +kernel) rfl ⟨Nat.le_refl _, Nat.le_refl _⟩ rfl
  · have h := mz_ifn hc1 h
    refine mz_Go.run (gs := [mz_kz 0 0 200]) (st' := (16, [some (.inr (.inr (some (0, 200)))), some (.inl x1), some (.inl x2)], [.inl x2, .inl x1, .inr (.inr (some (0, 201))), .inr (.inr (some (0, 200)))], D)) bX12_owes_9 oX12_owes_9 rfl ⟨rfl, trivial⟩ ?_
    refine mz_Go.callS (I := IX12_owes) (J := IX12_debtRow) (as := [.inl x1, .inl x2]) (idx := 312) (pl := 2008) (rest := [.inr (.inr (some (0, 201))), .inr (.inr (some (0, 200)))]) (mX12_debtRow x1 x2 D) kX12_debtRow vX12_debtRow (by decide +kernel) (by decide +kernel) (by decide +kernel) rfl rfl ⟨rfl, rfl⟩ rfl ?_
    obtain ⟨hb2, h⟩ := mz_gd_some h
    refine mz_Go.run (gs := [mz_kz 0 0 201, mz_ix (((92 : Int32) + ((6 : Int32) * x1)) + x2) 3000]) (st' := (20, [some (.inr (.inr (some (0, 200)))), some (.inl x1), some (.inl x2)], [.inl (D.1 0 201 ((((92 : Int32) + ((6 : Int32) * x1)) + x2)).toNatClampNeg), .inr (.inr (some (0, 200)))], D)) bX12_owes_19 oX12_owes_19 rfl ⟨rfl, hb2, trivial⟩ ?_
    refine mz_Go.callV (I := IX12_owes) (J := IX12_gives) (as := [.inl (D.1 0 201 ((((92 : Int32) + ((6 : Int32) * x1)) + x2)).toNatClampNeg)]) (ci := 12) (g := 0) (o := 200) (idx := 79) (pl := 1844) (rest := []) (mX12_gives (D.1 0 201 ((((92 : Int32) + ((6 : Int32) * x1)) + x2)).toNatClampNeg) D) kX12_gives vX12_gives (by decide +kernel) (by decide +kernel) (by decide +kernel) rfl rfl ⟨rfl, rfl⟩ rfl rfl rfl rfl ?_
    refine mz_Go.run (gs := []) (st' := (31, [some (.inr (.inr (some (0, 200)))), some (.inl x1), some (.inl x2)], [.inl (D.1 0 201 ((((92 : Int32) + ((6 : Int32) * x1)) + x2)).toNatClampNeg)], (mz_wi D 0 200 2 (0 : Int32)))) bX12_owes_23 oX12_owes_23 rfl trivial ?_
    cases h
    exact mz_Go.reti (by decide +kernel) rfl ⟨Nat.le_refl _, Nat.le_refl _⟩ rfl
def bX12_lends_0 : List mz_E := [(0, .aload_n 0, 0, 0, 0, 0, 0), (1, .getfield 7, 12, 0, 1576, 0, 0), (4, .iload_n 2, 0, 0, 0, 0, 0), (5, .iload_n 1, 0, 0, 0, 0, 0)]
theorem oX12_lends_0 : bX12_lends_0.all (mz_ok RX12 cX12_lends 4) = true := by decide +kernel
def bX12_lends_9 : List mz_E := [(9, .iaload, 0, 0, 0, 0, 0), (10, .iload_n 3, 0, 0, 0, 0, 0), (11, .iadd, 0, 0, 0, 0, 0), (12, .ldc_w 315, 0, 0, 2011, 999999, 0), (15, .if_icmp .le 5, 0, 20, 0, 0, 0)]
theorem oX12_lends_9 : bX12_lends_9.all (mz_ok RX12 cX12_lends 4) = true := by decide +kernel
def bX12_lends_20 : List mz_E := [(20, .aload_n 0, 0, 0, 0, 0, 0), (21, .getfield 7, 12, 0, 1576, 0, 0), (24, .iload_n 2, 0, 0, 0, 0, 0), (25, .iload_n 1, 0, 0, 0, 0, 0)]
theorem oX12_lends_20 : bX12_lends_20.all (mz_ok RX12 cX12_lends 4) = true := by decide +kernel
def bX12_lends_29 : List mz_E := [(29, .dup2, 0, 0, 0, 0, 0), (30, .iaload, 0, 0, 0, 0, 0), (31, .iload_n 3, 0, 0, 0, 0, 0), (32, .iadd, 0, 0, 0, 0, 0), (33, .iastore, 0, 0, 0, 0, 0), (34, .iconst 1, 0, 0, 0, 1, 0)]
theorem oX12_lends_29 : bX12_lends_29.all (mz_ok RX12 cX12_lends 4) = true := by decide +kernel
def bX12_lends_18 : List mz_E := [(18, .iconst 0, 0, 0, 0, 0, 0)]
theorem oX12_lends_18 : bX12_lends_18.all (mz_ok RX12 cX12_lends 4) = true := by decide +kernel
abbrev IX12_lends : mz_I := (yX12_lends, cX12_lends, 4, (some .boolean), 0, 1, 0, 0)
theorem kX12_lends : mz_okm IX12_lends 2105 141 2104 3 = true := by decide +kernel
theorem vX12_lends : mz_okV IX12_lends 2104 103 = true := by decide +kernel
def fX12_lends (x1 : Int32) (x2 : Int32) (x3 : Int32) (D : mz_D) : Option (Int32 × mz_D) := (mz_gd (mz_ix (((92 : Int32) + ((6 : Int32) * x2)) + x1) 3000) (if ((D.1 0 201 ((((92 : Int32) + ((6 : Int32) * x2)) + x1)).toNatClampNeg) + x3) ≤ (999999 : Int32) then (some ((1 : Int32), (mz_wi D 0 201 ((((92 : Int32) + ((6 : Int32) * x2)) + x1)).toNatClampNeg ((D.1 0 201 ((((92 : Int32) + ((6 : Int32) * x2)) + x1)).toNatClampNeg) + x3)))) else (some ((0 : Int32), D))))
set_option maxHeartbeats 4000000 in
theorem mX12_lends (x1 : Int32) (x2 : Int32) (x3 : Int32) (D : mz_D) (r : (Int32 × mz_D)) (h : fX12_lends x1 x2 x3 D = some r) : mz_Met IX12_lends [.inr (.inr (some (0, 200))), .inl x1, .inl x2, .inl x3] D (some (.inl r.1), r.2) := by
  refine mz_Met.of (by decide +kernel) (Nat.le_of_ble_eq_true rfl) ?_
  show mz_Go IX12_lends (some (.inl r.1), r.2) 0 0 (0, [some (.inr (.inr (some (0, 200)))), some (.inl x1), some (.inl x2), some (.inl x3)], [], D)
  rw [fX12_lends] at h
  refine mz_Go.run (gs := [mz_kz 0 0 200]) (st' := (6, [some (.inr (.inr (some (0, 200)))), some (.inl x1), some (.inl x2), some (.inl x3)], [.inl x1, .inl x2, .inr (.inr (some (0, 201)))], D)) bX12_lends_0 oX12_lends_0 rfl ⟨rfl, trivial⟩ ?_
  refine mz_Go.callS (I := IX12_lends) (J := IX12_debtRow) (as := [.inl x2, .inl x1]) (idx := 312) (pl := 2008) (rest := [.inr (.inr (some (0, 201)))]) (mX12_debtRow x2 x1 D) kX12_debtRow vX12_debtRow (by decide +kernel) (by decide +kernel) (by decide +kernel) rfl rfl ⟨rfl, rfl⟩ rfl ?_
  obtain ⟨hb1, h⟩ := mz_gd_some h
  refine mz_Go.run (gs := [mz_kz 0 0 201, mz_ix (((92 : Int32) + ((6 : Int32) * x2)) + x1) 3000]) (st' := (if ((D.1 0 201 ((((92 : Int32) + ((6 : Int32) * x2)) + x1)).toNatClampNeg) + x3) ≤ (999999 : Int32) then (20, [some (.inr (.inr (some (0, 200)))), some (.inl x1), some (.inl x2), some (.inl x3)], [], D) else (18, [some (.inr (.inr (some (0, 200)))), some (.inl x1), some (.inl x2), some (.inl x3)], [], D))) bX12_lends_9 oX12_lends_9 rfl ⟨rfl, hb1, trivial⟩ ?_
  refine mz_Go.ite (fun hc2 => ?_) (fun hc2 => ?_)
  · have h := mz_ifp hc2 h
    refine mz_Go.run (gs := [mz_kz 0 0 200]) (st' := (26, [some (.inr (.inr (some (0, 200)))), some (.inl x1), some (.inl x2), some (.inl x3)], [.inl x1, .inl x2, .inr (.inr (some (0, 201)))], D)) bX12_lends_20 oX12_lends_20 rfl ⟨rfl, trivial⟩ ?_
    refine mz_Go.callS (I := IX12_lends) (J := IX12_debtRow) (as := [.inl x2, .inl x1]) (idx := 312) (pl := 2008) (rest := [.inr (.inr (some (0, 201)))]) (mX12_debtRow x2 x1 D) kX12_debtRow vX12_debtRow (by decide +kernel) (by decide +kernel) (by decide +kernel) rfl rfl ⟨rfl, rfl⟩ rfl ?_
    refine mz_Go.run (gs := [mz_kz 0 0 201, mz_ix (((92 : Int32) + ((6 : Int32) * x2)) + x1) 3000, mz_kz 0 0 201, mz_ix (((92 : Int32) + ((6 : Int32) * x2)) + x1) 3000]) (st' := (35, [some (.inr (.inr (some (0, 200)))), some (.inl x1), some (.inl x2), some (.inl x3)], [.inl (1 : Int32)], (mz_wi D 0 201 ((((92 : Int32) + ((6 : Int32) * x2)) + x1)).toNatClampNeg ((D.1 0 201 ((((92 : Int32) + ((6 : Int32) * x2)) + x1)).toNatClampNeg) + x3)))) bX12_lends_29 oX12_lends_29 rfl ⟨rfl, hb1, rfl, hb1, trivial⟩ ?_
    cases h
    exact mz_Go.retz (by decide +kernel) rfl ⟨Nat.le_refl _, Nat.le_refl _⟩ (by decide) rfl
  · have h := mz_ifn hc2 h
    refine mz_Go.run (gs := []) (st' := (19, [some (.inr (.inr (some (0, 200)))), some (.inl x1), some (.inl x2), some (.inl x3)], [.inl (0 : Int32)], D)) bX12_lends_18 oX12_lends_18 rfl trivial ?_
    cases h
    exact mz_Go.retz (by decide +kernel) rfl ⟨Nat.le_refl _, Nat.le_refl _⟩ (by decide) rfl
def bX12_lend_0 : List mz_E := [(0, .aload_n 0, 0, 0, 0, 0, 0), (1, .iload_n 1, 0, 0, 0, 0, 0), (2, .iload_n 2, 0, 0, 0, 0, 0)]
theorem oX12_lend_0 : bX12_lend_0.all (mz_ok RX12 cX12_lend 4) = true := by decide +kernel
def bX12_lend_6 : List mz_E := [(6, .ifCond .eq 15, 0, 21, 0, 0, 0)]
theorem oX12_lend_6 : bX12_lend_6.all (mz_ok RX12 cX12_lend 4) = true := by decide +kernel
def bX12_lend_21 : List mz_E := [(21, .aload_n 0, 0, 0, 0, 0, 0), (22, .iconst 1, 0, 0, 0, 1, 0)]
theorem oX12_lend_21 : bX12_lend_21.all (mz_ok RX12 cX12_lend 4) = true := by decide +kernel
def bX12_lend_9 : List mz_E := [(9, .iload_n 3, 0, 0, 0, 0, 0), (10, .i2l, 0, 0, 0, 0, 0), (11, .lconst 1, 0, 0, 0, 0, 1), (12, .ldc2_w 308, 0, 0, 1994, 0, 9999)]
theorem oX12_lend_9 : bX12_lend_9.all (mz_ok RX12 cX12_lend 4) = true := by decide +kernel
def bX12_lend_18 : List mz_E := [(18, .ifCond .ne 9, 0, 27, 0, 0, 0)]
theorem oX12_lend_18 : bX12_lend_18.all (mz_ok RX12 cX12_lend 4) = true := by decide +kernel
def bX12_lend_27 : List mz_E := [(27, .aload_n 0, 0, 0, 0, 0, 0), (28, .iload_n 1, 0, 0, 0, 0, 0), (29, .iload_n 2, 0, 0, 0, 0, 0), (30, .iload_n 3, 0, 0, 0, 0, 0)]
theorem oX12_lend_27 : bX12_lend_27.all (mz_ok RX12 cX12_lend 4) = true := by decide +kernel
def bX12_lend_34 : List mz_E := [(34, .ifCond .eq 20, 0, 54, 0, 0, 0)]
theorem oX12_lend_34 : bX12_lend_34.all (mz_ok RX12 cX12_lend 4) = true := by decide +kernel
def bX12_lend_54 : List mz_E := [(54, .aload_n 0, 0, 0, 0, 0, 0), (55, .bipush 7, 0, 0, 0, 7, 0)]
theorem oX12_lend_54 : bX12_lend_54.all (mz_ok RX12 cX12_lend 4) = true := by decide +kernel
def bX12_lend_37 : List mz_E := [(37, .aload_n 0, 0, 0, 0, 0, 0), (38, .aload_n 0, 0, 0, 0, 0, 0), (39, .getfield 7, 12, 0, 1576, 0, 0), (42, .iload_n 2, 0, 0, 0, 0, 0), (43, .iload_n 1, 0, 0, 0, 0, 0)]
theorem oX12_lend_37 : bX12_lend_37.all (mz_ok RX12 cX12_lend 4) = true := by decide +kernel
def bX12_lend_47 : List mz_E := [(47, .iaload, 0, 0, 0, 0, 0)]
theorem oX12_lend_47 : bX12_lend_47.all (mz_ok RX12 cX12_lend 4) = true := by decide +kernel
def bX12_lend_51 : List mz_E := [(51, .goto 9, 0, 60, 0, 0, 0)]
theorem oX12_lend_51 : bX12_lend_51.all (mz_ok RX12 cX12_lend 4) = true := by decide +kernel
abbrev IX12_lend : mz_I := (yX12_lend, cX12_lend, 4, (some .int), 0, 2, 0, 0)
theorem kX12_lend : mz_okm IX12_lend 2101 141 2099 3 = true := by decide +kernel
theorem vX12_lend : mz_okV IX12_lend 2099 2100 = true := by decide +kernel
def fX12_lend (x1 : Int32) (x2 : Int32) (x3 : Int32) (D : mz_D) : Option (Int32 × mz_D) := (if (fX12_areTwo x1 x2 D) = 0 then (some ((-1 : Int32), (mz_wi D 0 200 2 (1 : Int32)))) else (if (fX12_isFrom (x3).toInt64 (1 : Int64) (9999 : Int64)) = 0 then (some ((-1 : Int32), (mz_wi D 0 200 2 (1 : Int32)))) else (Option.bind (fX12_lends x1 x2 x3 D) fun q3 => (if q3.1 = 0 then (some ((-1 : Int32), (mz_wi q3.2 0 200 2 (7 : Int32)))) else (mz_gd (mz_ix (((92 : Int32) + ((6 : Int32) * x2)) + x1) 3000) (some ((q3.2.1 0 201 ((((92 : Int32) + ((6 : Int32) * x2)) + x1)).toNatClampNeg), (mz_wi q3.2 0 200 2 (0 : Int32)))))))))
set_option maxHeartbeats 4000000 in
theorem mX12_lend (x1 : Int32) (x2 : Int32) (x3 : Int32) (D : mz_D) (r : (Int32 × mz_D)) (h : fX12_lend x1 x2 x3 D = some r) : mz_Met IX12_lend [.inr (.inr (some (0, 200))), .inl x1, .inl x2, .inl x3] D (some (.inl r.1), r.2) := by
  refine mz_Met.of (by decide +kernel) (Nat.le_of_ble_eq_true rfl) ?_
  show mz_Go IX12_lend (some (.inl r.1), r.2) 0 0 (0, [some (.inr (.inr (some (0, 200)))), some (.inl x1), some (.inl x2), some (.inl x3)], [], D)
  rw [fX12_lend] at h
  refine mz_Go.run (gs := []) (st' := (3, [some (.inr (.inr (some (0, 200)))), some (.inl x1), some (.inl x2), some (.inl x3)], [.inl x2, .inl x1, .inr (.inr (some (0, 200)))], D)) bX12_lend_0 oX12_lend_0 rfl trivial ?_
  refine mz_Go.callV (I := IX12_lend) (J := IX12_areTwo) (as := [.inl x1, .inl x2]) (ci := 12) (g := 0) (o := 200) (idx := 331) (pl := 2036) (rest := []) (mX12_areTwo x1 x2 D _ rfl) kX12_areTwo vX12_areTwo (by decide +kernel) (by decide +kernel) (by decide +kernel) rfl rfl ⟨rfl, rfl⟩ rfl rfl rfl rfl ?_
  refine mz_Go.run (gs := []) (st' := (if (fX12_areTwo x1 x2 D) = 0 then (21, [some (.inr (.inr (some (0, 200)))), some (.inl x1), some (.inl x2), some (.inl x3)], [], D) else (9, [some (.inr (.inr (some (0, 200)))), some (.inl x1), some (.inl x2), some (.inl x3)], [], D))) bX12_lend_6 oX12_lend_6 rfl trivial ?_
  refine mz_Go.ite (fun hc1 => ?_) (fun hc1 => ?_)
  · have h := mz_ifp hc1 h
    refine mz_Go.run (gs := []) (st' := (23, [some (.inr (.inr (some (0, 200)))), some (.inl x1), some (.inl x2), some (.inl x3)], [.inl (1 : Int32), .inr (.inr (some (0, 200)))], D)) bX12_lend_21 oX12_lend_21 rfl trivial ?_
    refine mz_Go.callV (I := IX12_lend) (J := IX12_refuse) (as := [.inl (1 : Int32)]) (ci := 12) (g := 0) (o := 200) (idx := 75) (pl := 1761) (rest := []) (mX12_refuse (1 : Int32) D) kX12_refuse vX12_refuse (by decide +kernel) (by decide +kernel) (by decide +kernel) rfl rfl ⟨rfl, rfl⟩ rfl rfl rfl rfl ?_
    cases h
    exact mz_Go.reti (by decide +kernel) rfl ⟨Nat.le_refl _, Nat.le_refl _⟩ rfl
  · have h := mz_ifn hc1 h
    refine mz_Go.run (gs := []) (st' := (15, [some (.inr (.inr (some (0, 200)))), some (.inl x1), some (.inl x2), some (.inl x3)], [.inr (.inl (9999 : Int64)), .inr (.inl (1 : Int64)), .inr (.inl (x3).toInt64)], D)) bX12_lend_9 oX12_lend_9 rfl trivial ?_
    refine mz_Go.callS (I := IX12_lend) (J := IX12_isFrom) (as := [.inr (.inl (x3).toInt64), .inr (.inl (1 : Int64)), .inr (.inl (9999 : Int64))]) (idx := 302) (pl := 1974) (rest := []) (mX12_isFrom (x3).toInt64 (1 : Int64) (9999 : Int64) D _ rfl) kX12_isFrom vX12_isFrom (by decide +kernel) (by decide +kernel) (by decide +kernel) rfl rfl ⟨rfl, rfl⟩ rfl ?_
    refine mz_Go.run (gs := []) (st' := (if (fX12_isFrom (x3).toInt64 (1 : Int64) (9999 : Int64)) = 0 then (21, [some (.inr (.inr (some (0, 200)))), some (.inl x1), some (.inl x2), some (.inl x3)], [], D) else (27, [some (.inr (.inr (some (0, 200)))), some (.inl x1), some (.inl x2), some (.inl x3)], [], D))) bX12_lend_18 oX12_lend_18 rfl trivial ?_
    refine mz_Go.ite (fun hc2 => ?_) (fun hc2 => ?_)
    · have h := mz_ifp hc2 h
      refine mz_Go.run (gs := []) (st' := (23, [some (.inr (.inr (some (0, 200)))), some (.inl x1), some (.inl x2), some (.inl x3)], [.inl (1 : Int32), .inr (.inr (some (0, 200)))], D)) bX12_lend_21 oX12_lend_21 rfl trivial ?_
      refine mz_Go.callV (I := IX12_lend) (J := IX12_refuse) (as := [.inl (1 : Int32)]) (ci := 12) (g := 0) (o := 200) (idx := 75) (pl := 1761) (rest := []) (mX12_refuse (1 : Int32) D) kX12_refuse vX12_refuse (by decide +kernel) (by decide +kernel) (by decide +kernel) rfl rfl ⟨rfl, rfl⟩ rfl rfl rfl rfl ?_
      cases h
      exact mz_Go.reti (by decide +kernel) rfl ⟨Nat.le_refl _, Nat.le_refl _⟩ rfl
    · have h := mz_ifn hc2 h
      refine mz_Go.run (gs := []) (st' := (31, [some (.inr (.inr (some (0, 200)))), some (.inl x1), some (.inl x2), some (.inl x3)], [.inl x3, .inl x2, .inl x1, .inr (.inr (some (0, 200)))], D)) bX12_lend_27 oX12_lend_27 rfl trivial ?_
      obtain ⟨q3, hq3, h⟩ := mz_bd_some h
      refine mz_Go.callV (I := IX12_lend) (J := IX12_lends) (as := [.inl x1, .inl x2, .inl x3]) (ci := 12) (g := 0) (o := 200) (idx := 357) (pl := 2102) (rest := []) (mX12_lends x1 x2 x3 D q3 hq3) kX12_lends vX12_lends (by decide +kernel) (by decide +kernel) (by decide +kernel) rfl rfl ⟨rfl, rfl⟩ rfl rfl rfl rfl ?_
      refine mz_Go.run (gs := []) (st' := (if q3.1 = 0 then (54, [some (.inr (.inr (some (0, 200)))), some (.inl x1), some (.inl x2), some (.inl x3)], [], q3.2) else (37, [some (.inr (.inr (some (0, 200)))), some (.inl x1), some (.inl x2), some (.inl x3)], [], q3.2))) bX12_lend_34 oX12_lend_34 rfl trivial ?_
      refine mz_Go.ite (fun hc4 => ?_) (fun hc4 => ?_)
      · have h := mz_ifp hc4 h
        refine mz_Go.run (gs := []) (st' := (57, [some (.inr (.inr (some (0, 200)))), some (.inl x1), some (.inl x2), some (.inl x3)], [.inl (7 : Int32), .inr (.inr (some (0, 200)))], q3.2)) bX12_lend_54 oX12_lend_54 rfl trivial ?_
        refine mz_Go.callV (I := IX12_lend) (J := IX12_refuse) (as := [.inl (7 : Int32)]) (ci := 12) (g := 0) (o := 200) (idx := 75) (pl := 1761) (rest := []) (mX12_refuse (7 : Int32) q3.2) kX12_refuse vX12_refuse (by decide +kernel) (by decide +kernel) (by decide +kernel) rfl rfl ⟨rfl, rfl⟩ rfl rfl rfl rfl ?_
        cases h
        exact mz_Go.reti (by decide +kernel) rfl ⟨Nat.le_refl _, Nat.le_refl _⟩ rfl
      · have h := mz_ifn hc4 h
        refine mz_Go.run (gs := [mz_kz 0 0 200]) (st' := (44, [some (.inr (.inr (some (0, 200)))), some (.inl x1), some (.inl x2), some (.inl x3)], [.inl x1, .inl x2, .inr (.inr (some (0, 201))), .inr (.inr (some (0, 200)))], q3.2)) bX12_lend_37 oX12_lend_37 rfl ⟨rfl, trivial⟩ ?_
        refine mz_Go.callS (I := IX12_lend) (J := IX12_debtRow) (as := [.inl x2, .inl x1]) (idx := 312) (pl := 2008) (rest := [.inr (.inr (some (0, 201))), .inr (.inr (some (0, 200)))]) (mX12_debtRow x2 x1 q3.2) kX12_debtRow vX12_debtRow (by decide +kernel) (by decide +kernel) (by decide +kernel) rfl rfl ⟨rfl, rfl⟩ rfl ?_
        obtain ⟨hb5, h⟩ := mz_gd_some h
        refine mz_Go.run (gs := [mz_kz 0 0 201, mz_ix (((92 : Int32) + ((6 : Int32) * x2)) + x1) 3000]) (st' := (48, [some (.inr (.inr (some (0, 200)))), some (.inl x1), some (.inl x2), some (.inl x3)], [.inl (q3.2.1 0 201 ((((92 : Int32) + ((6 : Int32) * x2)) + x1)).toNatClampNeg), .inr (.inr (some (0, 200)))], q3.2)) bX12_lend_47 oX12_lend_47 rfl ⟨rfl, hb5, trivial⟩ ?_
        refine mz_Go.callV (I := IX12_lend) (J := IX12_gives) (as := [.inl (q3.2.1 0 201 ((((92 : Int32) + ((6 : Int32) * x2)) + x1)).toNatClampNeg)]) (ci := 12) (g := 0) (o := 200) (idx := 79) (pl := 1844) (rest := []) (mX12_gives (q3.2.1 0 201 ((((92 : Int32) + ((6 : Int32) * x2)) + x1)).toNatClampNeg) q3.2) kX12_gives vX12_gives (by decide +kernel) (by decide +kernel) (by decide +kernel) rfl rfl ⟨rfl, rfl⟩ rfl rfl rfl rfl ?_
        refine mz_Go.run (gs := []) (st' := (60, [some (.inr (.inr (some (0, 200)))), some (.inl x1), some (.inl x2), some (.inl x3)], [.inl (q3.2.1 0 201 ((((92 : Int32) + ((6 : Int32) * x2)) + x1)).toNatClampNeg)], (mz_wi q3.2 0 200 2 (0 : Int32)))) bX12_lend_51 oX12_lend_51 rfl trivial ?_
        cases h
        exact mz_Go.reti (by decide +kernel) rfl ⟨Nat.le_refl _, Nat.le_refl _⟩ rfl
def bX12_balance_0 : List mz_E := [(0, .aload_n 0, 0, 0, 0, 0, 0), (1, .iload_n 1, 0, 0, 0, 0, 0)]
theorem oX12_balance_0 : bX12_balance_0.all (mz_ok RX12 cX12_balance 2) = true := by decide +kernel
def bX12_balance_5 : List mz_E := [(5, .ifCond .eq 15, 0, 20, 0, 0, 0)]
theorem oX12_balance_5 : bX12_balance_5.all (mz_ok RX12 cX12_balance 2) = true := by decide +kernel
def bX12_balance_20 : List mz_E := [(20, .aload_n 0, 0, 0, 0, 0, 0), (21, .iconst 1, 0, 0, 0, 1, 0)]
theorem oX12_balance_20 : bX12_balance_20.all (mz_ok RX12 cX12_balance 2) = true := by decide +kernel
def bX12_balance_8 : List mz_E := [(8, .aload_n 0, 0, 0, 0, 0, 0), (9, .aload_n 0, 0, 0, 0, 0, 0), (10, .iload_n 1, 0, 0, 0, 0, 0)]
theorem oX12_balance_8 : bX12_balance_8.all (mz_ok RX12 cX12_balance 2) = true := by decide +kernel
def bX12_balance_17 : List mz_E := [(17, .goto 8, 0, 25, 0, 0, 0)]
theorem oX12_balance_17 : bX12_balance_17.all (mz_ok RX12 cX12_balance 2) = true := by decide +kernel
abbrev IX12_balance : mz_I := (yX12_balance, cX12_balance, 2, (some .int), 0, 2, 0, 0)
theorem kX12_balance : mz_okm IX12_balance 2109 141 2107 1 = true := by decide +kernel
theorem vX12_balance : mz_okV IX12_balance 2107 2108 = true := by decide +kernel
def fX12_balance (x1 : Int32) (D : mz_D) : Option (Int32 × mz_D) := (if (fX12_isPerson x1 D) = 0 then (some ((-1 : Int32), (mz_wi D 0 200 2 (1 : Int32)))) else (Option.bind (fX12_balanceOf x1 D) fun q2 => (some (q2, (mz_wi D 0 200 2 (0 : Int32))))))
set_option maxHeartbeats 4000000 in
theorem mX12_balance (x1 : Int32) (D : mz_D) (r : (Int32 × mz_D)) (h : fX12_balance x1 D = some r) : mz_Met IX12_balance [.inr (.inr (some (0, 200))), .inl x1] D (some (.inl r.1), r.2) := by
  refine mz_Met.of (by decide +kernel) (Nat.le_of_ble_eq_true rfl) ?_
  show mz_Go IX12_balance (some (.inl r.1), r.2) 0 0 (0, [some (.inr (.inr (some (0, 200)))), some (.inl x1)], [], D)
  rw [fX12_balance] at h
  refine mz_Go.run (gs := []) (st' := (2, [some (.inr (.inr (some (0, 200)))), some (.inl x1)], [.inl x1, .inr (.inr (some (0, 200)))], D)) bX12_balance_0 oX12_balance_0 rfl trivial ?_
  refine mz_Go.callV (I := IX12_balance) (J := IX12_isPerson) (as := [.inl x1]) (ci := 12) (g := 0) (o := 200) (idx := 248) (pl := 1902) (rest := []) (mX12_isPerson x1 D _ rfl) kX12_isPerson vX12_isPerson (by decide +kernel) (by decide +kernel) (by decide +kernel) rfl rfl ⟨rfl, rfl⟩ rfl rfl rfl rfl ?_
  refine mz_Go.run (gs := []) (st' := (if (fX12_isPerson x1 D) = 0 then (20, [some (.inr (.inr (some (0, 200)))), some (.inl x1)], [], D) else (8, [some (.inr (.inr (some (0, 200)))), some (.inl x1)], [], D))) bX12_balance_5 oX12_balance_5 rfl trivial ?_
  refine mz_Go.ite (fun hc1 => ?_) (fun hc1 => ?_)
  · have h := mz_ifp hc1 h
    refine mz_Go.run (gs := []) (st' := (22, [some (.inr (.inr (some (0, 200)))), some (.inl x1)], [.inl (1 : Int32), .inr (.inr (some (0, 200)))], D)) bX12_balance_20 oX12_balance_20 rfl trivial ?_
    refine mz_Go.callV (I := IX12_balance) (J := IX12_refuse) (as := [.inl (1 : Int32)]) (ci := 12) (g := 0) (o := 200) (idx := 75) (pl := 1761) (rest := []) (mX12_refuse (1 : Int32) D) kX12_refuse vX12_refuse (by decide +kernel) (by decide +kernel) (by decide +kernel) rfl rfl ⟨rfl, rfl⟩ rfl rfl rfl rfl ?_
    cases h
    exact mz_Go.reti (by decide +kernel) rfl ⟨Nat.le_refl _, Nat.le_refl _⟩ rfl
  · have h := mz_ifn hc1 h
    refine mz_Go.run (gs := []) (st' := (11, [some (.inr (.inr (some (0, 200)))), some (.inl x1)], [.inl x1, .inr (.inr (some (0, 200))), .inr (.inr (some (0, 200)))], D)) bX12_balance_8 oX12_balance_8 rfl trivial ?_
    obtain ⟨q2, hq2, h⟩ := mz_bd_some h
    refine mz_Go.callV (I := IX12_balance) (J := IX12_balanceOf) (as := [.inl x1]) (ci := 12) (g := 0) (o := 200) (idx := 319) (pl := 2024) (rest := [.inr (.inr (some (0, 200)))]) (mX12_balanceOf x1 D q2 hq2) kX12_balanceOf vX12_balanceOf (by decide +kernel) (by decide +kernel) (by decide +kernel) rfl rfl ⟨rfl, rfl⟩ rfl rfl rfl rfl ?_
    refine mz_Go.callV (I := IX12_balance) (J := IX12_gives) (as := [.inl q2]) (ci := 12) (g := 0) (o := 200) (idx := 79) (pl := 1844) (rest := []) (mX12_gives q2 D) kX12_gives vX12_gives (by decide +kernel) (by decide +kernel) (by decide +kernel) rfl rfl ⟨rfl, rfl⟩ rfl rfl rfl rfl ?_
    refine mz_Go.run (gs := []) (st' := (25, [some (.inr (.inr (some (0, 200)))), some (.inl x1)], [.inl q2], (mz_wi D 0 200 2 (0 : Int32)))) bX12_balance_17 oX12_balance_17 rfl trivial ?_
    cases h
    exact mz_Go.reti (by decide +kernel) rfl ⟨Nat.le_refl _, Nat.le_refl _⟩ rfl
def bX12_quits_0 : List mz_E := [(0, .aload_n 0, 0, 0, 0, 0, 0), (1, .iload_n 1, 0, 0, 0, 0, 0), (2, .iload_n 2, 0, 0, 0, 0, 0)]
theorem oX12_quits_0 : bX12_quits_0.all (mz_ok RX12 cX12_quits 4) = true := by decide +kernel
def bX12_quits_6 : List mz_E := [(6, .ifCond .ne 9, 0, 15, 0, 0, 0)]
theorem oX12_quits_6 : bX12_quits_6.all (mz_ok RX12 cX12_quits 4) = true := by decide +kernel
def bX12_quits_9 : List mz_E := [(9, .aload_n 0, 0, 0, 0, 0, 0), (10, .iconst 1, 0, 0, 0, 1, 0)]
theorem oX12_quits_9 : bX12_quits_9.all (mz_ok RX12 cX12_quits 4) = true := by decide +kernel
def bX12_quits_15 : List mz_E := [(15, .aload_n 0, 0, 0, 0, 0, 0), (16, .getfield 7, 12, 0, 1576, 0, 0), (19, .iload_n 1, 0, 0, 0, 0, 0), (20, .iload_n 2, 0, 0, 0, 0, 0)]
theorem oX12_quits_15 : bX12_quits_15.all (mz_ok RX12 cX12_quits 4) = true := by decide +kernel
def bX12_quits_24 : List mz_E := [(24, .iaload, 0, 0, 0, 0, 0), (25, .aload_n 0, 0, 0, 0, 0, 0), (26, .getfield 7, 12, 0, 1576, 0, 0), (29, .iload_n 2, 0, 0, 0, 0, 0), (30, .iload_n 1, 0, 0, 0, 0, 0)]
theorem oX12_quits_24 : bX12_quits_24.all (mz_ok RX12 cX12_quits 4) = true := by decide +kernel
def bX12_quits_34 : List mz_E := [(34, .iaload, 0, 0, 0, 0, 0)]
theorem oX12_quits_34 : bX12_quits_34.all (mz_ok RX12 cX12_quits 4) = true := by decide +kernel
def bX12_quits_38 : List mz_E := [(38, .istore_n 3, 0, 0, 0, 0, 0), (39, .aload_n 0, 0, 0, 0, 0, 0), (40, .getfield 7, 12, 0, 1576, 0, 0), (43, .iload_n 1, 0, 0, 0, 0, 0), (44, .iload_n 2, 0, 0, 0, 0, 0)]
theorem oX12_quits_38 : bX12_quits_38.all (mz_ok RX12 cX12_quits 4) = true := by decide +kernel
def bX12_quits_48 : List mz_E := [(48, .dup2, 0, 0, 0, 0, 0), (49, .iaload, 0, 0, 0, 0, 0), (50, .iload_n 3, 0, 0, 0, 0, 0), (51, .isub, 0, 0, 0, 0, 0), (52, .iastore, 0, 0, 0, 0, 0), (53, .aload_n 0, 0, 0, 0, 0, 0), (54, .getfield 7, 12, 0, 1576, 0, 0), (57, .iload_n 2, 0, 0, 0, 0, 0), (58, .iload_n 1, 0, 0, 0, 0, 0)]
theorem oX12_quits_48 : bX12_quits_48.all (mz_ok RX12 cX12_quits 4) = true := by decide +kernel
def bX12_quits_62 : List mz_E := [(62, .dup2, 0, 0, 0, 0, 0), (63, .iaload, 0, 0, 0, 0, 0), (64, .iload_n 3, 0, 0, 0, 0, 0), (65, .isub, 0, 0, 0, 0, 0), (66, .iastore, 0, 0, 0, 0, 0), (67, .aload_n 0, 0, 0, 0, 0, 0), (68, .iload_n 3, 0, 0, 0, 0, 0)]
theorem oX12_quits_62 : bX12_quits_62.all (mz_ok RX12 cX12_quits 4) = true := by decide +kernel
abbrev IX12_quits : mz_I := (yX12_quits, cX12_quits, 4, (some .int), 0, 2, 0, 0)
theorem kX12_quits : mz_okm IX12_quits 2113 141 2111 2 = true := by decide +kernel
theorem vX12_quits : mz_okV IX12_quits 2111 2112 = true := by decide +kernel
def fX12_quits (x1 : Int32) (x2 : Int32) (D : mz_D) : Option (Int32 × mz_D) := (if (fX12_areTwo x1 x2 D) = 0 then (some ((-1 : Int32), (mz_wi D 0 200 2 (1 : Int32)))) else (mz_gd (mz_ix (((92 : Int32) + ((6 : Int32) * x1)) + x2) 3000) (mz_gd (mz_ix (((92 : Int32) + ((6 : Int32) * x2)) + x1) 3000) (some ((fJ9_min_7cf53 (D.1 0 201 ((((92 : Int32) + ((6 : Int32) * x1)) + x2)).toNatClampNeg) (D.1 0 201 ((((92 : Int32) + ((6 : Int32) * x2)) + x1)).toNatClampNeg)), (mz_wi (mz_wi (mz_wi D 0 201 ((((92 : Int32) + ((6 : Int32) * x1)) + x2)).toNatClampNeg ((D.1 0 201 ((((92 : Int32) + ((6 : Int32) * x1)) + x2)).toNatClampNeg) - (fJ9_min_7cf53 (D.1 0 201 ((((92 : Int32) + ((6 : Int32) * x1)) + x2)).toNatClampNeg) (D.1 0 201 ((((92 : Int32) + ((6 : Int32) * x2)) + x1)).toNatClampNeg)))) 0 201 ((((92 : Int32) + ((6 : Int32) * x2)) + x1)).toNatClampNeg (((mz_wi D 0 201 ((((92 : Int32) + ((6 : Int32) * x1)) + x2)).toNatClampNeg ((D.1 0 201 ((((92 : Int32) + ((6 : Int32) * x1)) + x2)).toNatClampNeg) - (fJ9_min_7cf53 (D.1 0 201 ((((92 : Int32) + ((6 : Int32) * x1)) + x2)).toNatClampNeg) (D.1 0 201 ((((92 : Int32) + ((6 : Int32) * x2)) + x1)).toNatClampNeg)))).1 0 201 ((((92 : Int32) + ((6 : Int32) * x2)) + x1)).toNatClampNeg) - (fJ9_min_7cf53 (D.1 0 201 ((((92 : Int32) + ((6 : Int32) * x1)) + x2)).toNatClampNeg) (D.1 0 201 ((((92 : Int32) + ((6 : Int32) * x2)) + x1)).toNatClampNeg)))) 0 200 2 (0 : Int32)))))))
set_option maxHeartbeats 4000000 in
theorem mX12_quits (x1 : Int32) (x2 : Int32) (D : mz_D) (r : (Int32 × mz_D)) (h : fX12_quits x1 x2 D = some r) : mz_Met IX12_quits [.inr (.inr (some (0, 200))), .inl x1, .inl x2] D (some (.inl r.1), r.2) := by
  refine mz_Met.of (by decide +kernel) (Nat.le_of_ble_eq_true rfl) ?_
  show mz_Go IX12_quits (some (.inl r.1), r.2) 0 0 (0, [some (.inr (.inr (some (0, 200)))), some (.inl x1), some (.inl x2), none], [], D)
  rw [fX12_quits] at h
  refine mz_Go.run (gs := []) (st' := (3, [some (.inr (.inr (some (0, 200)))), some (.inl x1), some (.inl x2), none], [.inl x2, .inl x1, .inr (.inr (some (0, 200)))], D)) bX12_quits_0 oX12_quits_0 rfl trivial ?_
  refine mz_Go.callV (I := IX12_quits) (J := IX12_areTwo) (as := [.inl x1, .inl x2]) (ci := 12) (g := 0) (o := 200) (idx := 331) (pl := 2036) (rest := []) (mX12_areTwo x1 x2 D _ rfl) kX12_areTwo vX12_areTwo (by decide +kernel) (by decide +kernel) (by decide +kernel) rfl rfl ⟨rfl, rfl⟩ rfl rfl rfl rfl ?_
  refine mz_Go.run (gs := []) (st' := (if (fX12_areTwo x1 x2 D) = 0 then (9, [some (.inr (.inr (some (0, 200)))), some (.inl x1), some (.inl x2), none], [], D) else (15, [some (.inr (.inr (some (0, 200)))), some (.inl x1), some (.inl x2), none], [], D))) bX12_quits_6 oX12_quits_6 rfl trivial ?_
  refine mz_Go.ite (fun hc1 => ?_) (fun hc1 => ?_)
  · have h := mz_ifp hc1 h
    refine mz_Go.run (gs := []) (st' := (11, [some (.inr (.inr (some (0, 200)))), some (.inl x1), some (.inl x2), none], [.inl (1 : Int32), .inr (.inr (some (0, 200)))], D)) bX12_quits_9 oX12_quits_9 rfl trivial ?_
    refine mz_Go.callV (I := IX12_quits) (J := IX12_refuse) (as := [.inl (1 : Int32)]) (ci := 12) (g := 0) (o := 200) (idx := 75) (pl := 1761) (rest := []) (mX12_refuse (1 : Int32) D) kX12_refuse vX12_refuse (by decide +kernel) (by decide +kernel) (by decide +kernel) rfl rfl ⟨rfl, rfl⟩ rfl rfl rfl rfl ?_
    cases h
    exact mz_Go.reti (by decide +kernel) rfl ⟨Nat.le_refl _, Nat.le_refl _⟩ rfl
  · have h := mz_ifn hc1 h
    refine mz_Go.run (gs := [mz_kz 0 0 200]) (st' := (21, [some (.inr (.inr (some (0, 200)))), some (.inl x1), some (.inl x2), none], [.inl x2, .inl x1, .inr (.inr (some (0, 201)))], D)) bX12_quits_15 oX12_quits_15 rfl ⟨rfl, trivial⟩ ?_
    refine mz_Go.callS (I := IX12_quits) (J := IX12_debtRow) (as := [.inl x1, .inl x2]) (idx := 312) (pl := 2008) (rest := [.inr (.inr (some (0, 201)))]) (mX12_debtRow x1 x2 D) kX12_debtRow vX12_debtRow (by decide +kernel) (by decide +kernel) (by decide +kernel) rfl rfl ⟨rfl, rfl⟩ rfl ?_
    obtain ⟨hb2, h⟩ := mz_gd_some h
    refine mz_Go.run (gs := [mz_kz 0 0 201, mz_ix (((92 : Int32) + ((6 : Int32) * x1)) + x2) 3000, mz_kz 0 0 200]) (st' := (31, [some (.inr (.inr (some (0, 200)))), some (.inl x1), some (.inl x2), none], [.inl x1, .inl x2, .inr (.inr (some (0, 201))), .inl (D.1 0 201 ((((92 : Int32) + ((6 : Int32) * x1)) + x2)).toNatClampNeg)], D)) bX12_quits_24 oX12_quits_24 rfl ⟨rfl, hb2, rfl, trivial⟩ ?_
    refine mz_Go.callS (I := IX12_quits) (J := IX12_debtRow) (as := [.inl x2, .inl x1]) (idx := 312) (pl := 2008) (rest := [.inr (.inr (some (0, 201))), .inl (D.1 0 201 ((((92 : Int32) + ((6 : Int32) * x1)) + x2)).toNatClampNeg)]) (mX12_debtRow x2 x1 D) kX12_debtRow vX12_debtRow (by decide +kernel) (by decide +kernel) (by decide +kernel) rfl rfl ⟨rfl, rfl⟩ rfl ?_
    obtain ⟨hb3, h⟩ := mz_gd_some h
    refine mz_Go.run (gs := [mz_kz 0 0 201, mz_ix (((92 : Int32) + ((6 : Int32) * x2)) + x1) 3000]) (st' := (35, [some (.inr (.inr (some (0, 200)))), some (.inl x1), some (.inl x2), none], [.inl (D.1 0 201 ((((92 : Int32) + ((6 : Int32) * x2)) + x1)).toNatClampNeg), .inl (D.1 0 201 ((((92 : Int32) + ((6 : Int32) * x1)) + x2)).toNatClampNeg)], D)) bX12_quits_34 oX12_quits_34 rfl ⟨rfl, hb3, trivial⟩ ?_
    refine mz_Go.callS (I := IX12_quits) (J := IJ9_min_7cf53) (as := [.inl (D.1 0 201 ((((92 : Int32) + ((6 : Int32) * x1)) + x2)).toNatClampNeg), .inl (D.1 0 201 ((((92 : Int32) + ((6 : Int32) * x2)) + x1)).toNatClampNeg)]) (idx := 130) (pl := 1760) (rest := []) (mJ9_min_7cf53 (D.1 0 201 ((((92 : Int32) + ((6 : Int32) * x1)) + x2)).toNatClampNeg) (D.1 0 201 ((((92 : Int32) + ((6 : Int32) * x2)) + x1)).toNatClampNeg) D _ rfl) kJ9_min_7cf53 vJ9_min_7cf53 (by decide +kernel) (by decide +kernel) (by decide +kernel) rfl rfl ⟨rfl, rfl⟩ rfl ?_
    refine mz_Go.run (gs := [mz_kz 0 0 200]) (st' := (45, [some (.inr (.inr (some (0, 200)))), some (.inl x1), some (.inl x2), some (.inl (fJ9_min_7cf53 (D.1 0 201 ((((92 : Int32) + ((6 : Int32) * x1)) + x2)).toNatClampNeg) (D.1 0 201 ((((92 : Int32) + ((6 : Int32) * x2)) + x1)).toNatClampNeg)))], [.inl x2, .inl x1, .inr (.inr (some (0, 201)))], D)) bX12_quits_38 oX12_quits_38 rfl ⟨rfl, trivial⟩ ?_
    refine mz_Go.callS (I := IX12_quits) (J := IX12_debtRow) (as := [.inl x1, .inl x2]) (idx := 312) (pl := 2008) (rest := [.inr (.inr (some (0, 201)))]) (mX12_debtRow x1 x2 D) kX12_debtRow vX12_debtRow (by decide +kernel) (by decide +kernel) (by decide +kernel) rfl rfl ⟨rfl, rfl⟩ rfl ?_
    refine mz_Go.run (gs := [mz_kz 0 0 201, mz_ix (((92 : Int32) + ((6 : Int32) * x1)) + x2) 3000, mz_kz 0 0 201, mz_ix (((92 : Int32) + ((6 : Int32) * x1)) + x2) 3000, mz_kz 0 0 200]) (st' := (59, [some (.inr (.inr (some (0, 200)))), some (.inl x1), some (.inl x2), some (.inl (fJ9_min_7cf53 (D.1 0 201 ((((92 : Int32) + ((6 : Int32) * x1)) + x2)).toNatClampNeg) (D.1 0 201 ((((92 : Int32) + ((6 : Int32) * x2)) + x1)).toNatClampNeg)))], [.inl x1, .inl x2, .inr (.inr (some (0, 201)))], (mz_wi D 0 201 ((((92 : Int32) + ((6 : Int32) * x1)) + x2)).toNatClampNeg ((D.1 0 201 ((((92 : Int32) + ((6 : Int32) * x1)) + x2)).toNatClampNeg) - (fJ9_min_7cf53 (D.1 0 201 ((((92 : Int32) + ((6 : Int32) * x1)) + x2)).toNatClampNeg) (D.1 0 201 ((((92 : Int32) + ((6 : Int32) * x2)) + x1)).toNatClampNeg)))))) bX12_quits_48 oX12_quits_48 rfl ⟨rfl, hb2, rfl, hb2, rfl, trivial⟩ ?_
    refine mz_Go.callS (I := IX12_quits) (J := IX12_debtRow) (as := [.inl x2, .inl x1]) (idx := 312) (pl := 2008) (rest := [.inr (.inr (some (0, 201)))]) (mX12_debtRow x2 x1 (mz_wi D 0 201 ((((92 : Int32) + ((6 : Int32) * x1)) + x2)).toNatClampNeg ((D.1 0 201 ((((92 : Int32) + ((6 : Int32) * x1)) + x2)).toNatClampNeg) - (fJ9_min_7cf53 (D.1 0 201 ((((92 : Int32) + ((6 : Int32) * x1)) + x2)).toNatClampNeg) (D.1 0 201 ((((92 : Int32) + ((6 : Int32) * x2)) + x1)).toNatClampNeg))))) kX12_debtRow vX12_debtRow (by decide +kernel) (by decide +kernel) (by decide +kernel) rfl rfl ⟨rfl, rfl⟩ rfl ?_
    refine mz_Go.run (gs := [mz_kz 0 0 201, mz_ix (((92 : Int32) + ((6 : Int32) * x2)) + x1) 3000, mz_kz 0 0 201, mz_ix (((92 : Int32) + ((6 : Int32) * x2)) + x1) 3000]) (st' := (69, [some (.inr (.inr (some (0, 200)))), some (.inl x1), some (.inl x2), some (.inl (fJ9_min_7cf53 (D.1 0 201 ((((92 : Int32) + ((6 : Int32) * x1)) + x2)).toNatClampNeg) (D.1 0 201 ((((92 : Int32) + ((6 : Int32) * x2)) + x1)).toNatClampNeg)))], [.inl (fJ9_min_7cf53 (D.1 0 201 ((((92 : Int32) + ((6 : Int32) * x1)) + x2)).toNatClampNeg) (D.1 0 201 ((((92 : Int32) + ((6 : Int32) * x2)) + x1)).toNatClampNeg)), .inr (.inr (some (0, 200)))], (mz_wi (mz_wi D 0 201 ((((92 : Int32) + ((6 : Int32) * x1)) + x2)).toNatClampNeg ((D.1 0 201 ((((92 : Int32) + ((6 : Int32) * x1)) + x2)).toNatClampNeg) - (fJ9_min_7cf53 (D.1 0 201 ((((92 : Int32) + ((6 : Int32) * x1)) + x2)).toNatClampNeg) (D.1 0 201 ((((92 : Int32) + ((6 : Int32) * x2)) + x1)).toNatClampNeg)))) 0 201 ((((92 : Int32) + ((6 : Int32) * x2)) + x1)).toNatClampNeg (((mz_wi D 0 201 ((((92 : Int32) + ((6 : Int32) * x1)) + x2)).toNatClampNeg ((D.1 0 201 ((((92 : Int32) + ((6 : Int32) * x1)) + x2)).toNatClampNeg) - (fJ9_min_7cf53 (D.1 0 201 ((((92 : Int32) + ((6 : Int32) * x1)) + x2)).toNatClampNeg) (D.1 0 201 ((((92 : Int32) + ((6 : Int32) * x2)) + x1)).toNatClampNeg)))).1 0 201 ((((92 : Int32) + ((6 : Int32) * x2)) + x1)).toNatClampNeg) - (fJ9_min_7cf53 (D.1 0 201 ((((92 : Int32) + ((6 : Int32) * x1)) + x2)).toNatClampNeg) (D.1 0 201 ((((92 : Int32) + ((6 : Int32) * x2)) + x1)).toNatClampNeg)))))) bX12_quits_62 oX12_quits_62 rfl ⟨rfl, hb3, rfl, hb3, trivial⟩ ?_
    refine mz_Go.callV (I := IX12_quits) (J := IX12_gives) (as := [.inl (fJ9_min_7cf53 (D.1 0 201 ((((92 : Int32) + ((6 : Int32) * x1)) + x2)).toNatClampNeg) (D.1 0 201 ((((92 : Int32) + ((6 : Int32) * x2)) + x1)).toNatClampNeg))]) (ci := 12) (g := 0) (o := 200) (idx := 79) (pl := 1844) (rest := []) (mX12_gives (fJ9_min_7cf53 (D.1 0 201 ((((92 : Int32) + ((6 : Int32) * x1)) + x2)).toNatClampNeg) (D.1 0 201 ((((92 : Int32) + ((6 : Int32) * x2)) + x1)).toNatClampNeg)) (mz_wi (mz_wi D 0 201 ((((92 : Int32) + ((6 : Int32) * x1)) + x2)).toNatClampNeg ((D.1 0 201 ((((92 : Int32) + ((6 : Int32) * x1)) + x2)).toNatClampNeg) - (fJ9_min_7cf53 (D.1 0 201 ((((92 : Int32) + ((6 : Int32) * x1)) + x2)).toNatClampNeg) (D.1 0 201 ((((92 : Int32) + ((6 : Int32) * x2)) + x1)).toNatClampNeg)))) 0 201 ((((92 : Int32) + ((6 : Int32) * x2)) + x1)).toNatClampNeg (((mz_wi D 0 201 ((((92 : Int32) + ((6 : Int32) * x1)) + x2)).toNatClampNeg ((D.1 0 201 ((((92 : Int32) + ((6 : Int32) * x1)) + x2)).toNatClampNeg) - (fJ9_min_7cf53 (D.1 0 201 ((((92 : Int32) + ((6 : Int32) * x1)) + x2)).toNatClampNeg) (D.1 0 201 ((((92 : Int32) + ((6 : Int32) * x2)) + x1)).toNatClampNeg)))).1 0 201 ((((92 : Int32) + ((6 : Int32) * x2)) + x1)).toNatClampNeg) - (fJ9_min_7cf53 (D.1 0 201 ((((92 : Int32) + ((6 : Int32) * x1)) + x2)).toNatClampNeg) (D.1 0 201 ((((92 : Int32) + ((6 : Int32) * x2)) + x1)).toNatClampNeg))))) kX12_gives vX12_gives (by decide +kernel) (by decide +kernel) (by decide +kernel) rfl rfl ⟨rfl, rfl⟩ rfl rfl rfl rfl ?_
    cases h
    exact mz_Go.reti (by decide +kernel) rfl ⟨Nat.le_refl _, Nat.le_refl _⟩ rfl
def bX12_settle_0 : List mz_E := [(0, .iconst 0, 0, 0, 0, 0, 0), (1, .istore_n 1, 0, 0, 0, 0, 0), (2, .iconst 0, 0, 0, 0, 0, 0), (3, .istore_n 2, 0, 0, 0, 0, 0)]
theorem oX12_settle_0 : bX12_settle_0.all (mz_ok RX12 cX12_settle 5) = true := by decide +kernel
def bX12_settle_4 : List mz_E := [(4, .iload_n 2, 0, 0, 0, 0, 0), (5, .aload_n 0, 0, 0, 0, 0, 0), (6, .getfield 7, 12, 0, 1576, 0, 0), (9, .iconst 0, 0, 0, 0, 0, 0), (10, .iaload, 0, 0, 0, 0, 0), (11, .if_icmp .ge 27, 0, 38, 0, 0, 0)]
theorem oX12_settle_4 : bX12_settle_4.all (mz_ok RX12 cX12_settle 5) = true := by decide +kernel
def bX12_settle_38 : List mz_E := [(38, .iconst 0, 0, 0, 0, 0, 0), (39, .istore_n 2, 0, 0, 0, 0, 0)]
theorem oX12_settle_38 : bX12_settle_38.all (mz_ok RX12 cX12_settle 5) = true := by decide +kernel
def bX12_settle_40 : List mz_E := [(40, .iload_n 2, 0, 0, 0, 0, 0), (41, .iload_n 1, 0, 0, 0, 0, 0), (42, .if_icmp .gt 118, 0, 160, 0, 0, 0)]
theorem oX12_settle_40 : bX12_settle_40.all (mz_ok RX12 cX12_settle 5) = true := by decide +kernel
def bX12_settle_160 : List mz_E := [(160, .aload_n 0, 0, 0, 0, 0, 0), (161, .iload_n 1, 0, 0, 0, 0, 0)]
theorem oX12_settle_160 : bX12_settle_160.all (mz_ok RX12 cX12_settle 5) = true := by decide +kernel
def bX12_settle_165 : List mz_E := [(165, .aload_n 0, 0, 0, 0, 0, 0), (166, .getfield 47, 12, 24, 1600, 0, 0), (169, .iload_n 1, 0, 0, 0, 0, 0), (170, .iaload, 0, 0, 0, 0, 0), (171, .isub, 0, 0, 0, 0, 0)]
theorem oX12_settle_165 : bX12_settle_165.all (mz_ok RX12 cX12_settle 5) = true := by decide +kernel
def bX12_settle_45 : List mz_E := [(45, .aload_n 0, 0, 0, 0, 0, 0), (46, .getfield 47, 12, 24, 1600, 0, 0), (49, .iload_n 2, 0, 0, 0, 0, 0), (50, .iconst 0, 0, 0, 0, 0, 0), (51, .iastore, 0, 0, 0, 0, 0), (52, .iload_n 2, 0, 0, 0, 0, 0), (53, .iload_n 1, 0, 0, 0, 0, 0), (54, .iconst (-1), 0, 0, 0, -1, 0), (55, .ixor, 0, 0, 0, 0, 0), (56, .iand, 0, 0, 0, 0, 0), (57, .ifCond .ne 97, 0, 154, 0, 0, 0)]
theorem oX12_settle_45 : bX12_settle_45.all (mz_ok RX12 cX12_settle 5) = true := by decide +kernel
def bX12_settle_60 : List mz_E := [(60, .iload_n 2, 0, 0, 0, 0, 0), (61, .ifCond .ne 6, 0, 67, 0, 0, 0)]
theorem oX12_settle_60 : bX12_settle_60.all (mz_ok RX12 cX12_settle 5) = true := by decide +kernel
def bX12_settle_64 : List mz_E := [(64, .goto 90, 0, 154, 0, 0, 0), (154, .iinc 2 1, 0, 0, 0, 1, 0), (157, .goto (-117), 0, 40, 0, 0, 0)]
theorem oX12_settle_64 : bX12_settle_64.all (mz_ok RX12 cX12_settle 5) = true := by decide +kernel
def bX12_settle_67 : List mz_E := [(67, .iconst 0, 0, 0, 0, 0, 0), (68, .istore_n 3, 0, 0, 0, 0, 0), (69, .iconst 0, 0, 0, 0, 0, 0), (70, .istore 4, 0, 0, 0, 0, 0)]
theorem oX12_settle_67 : bX12_settle_67.all (mz_ok RX12 cX12_settle 5) = true := by decide +kernel
def bX12_settle_72 : List mz_E := [(72, .iload 4, 0, 0, 0, 0, 0), (74, .aload_n 0, 0, 0, 0, 0, 0), (75, .getfield 7, 12, 0, 1576, 0, 0), (78, .iconst 0, 0, 0, 0, 0, 0), (79, .iaload, 0, 0, 0, 0, 0), (80, .if_icmp .ge 56, 0, 136, 0, 0, 0)]
theorem oX12_settle_72 : bX12_settle_72.all (mz_ok RX12 cX12_settle 5) = true := by decide +kernel
def bX12_settle_136 : List mz_E := [(136, .aload_n 0, 0, 0, 0, 0, 0), (137, .getfield 47, 12, 24, 1600, 0, 0), (140, .iload_n 2, 0, 0, 0, 0, 0), (141, .dup2, 0, 0, 0, 0, 0), (142, .iaload, 0, 0, 0, 0, 0), (143, .iload_n 3, 0, 0, 0, 0, 0), (144, .ifCond .ne 7, 0, 151, 0, 0, 0)]
theorem oX12_settle_136 : bX12_settle_136.all (mz_ok RX12 cX12_settle 5) = true := by decide +kernel
def bX12_settle_147 : List mz_E := [(147, .iconst 1, 0, 0, 0, 1, 0), (148, .goto 4, 0, 152, 0, 0, 0)]
theorem oX12_settle_147 : bX12_settle_147.all (mz_ok RX12 cX12_settle 5) = true := by decide +kernel
def bX12_settle_152 : List mz_E := [(152, .iadd, 0, 0, 0, 0, 0), (153, .iastore, 0, 0, 0, 0, 0), (154, .iinc 2 1, 0, 0, 0, 1, 0), (157, .goto (-117), 0, 40, 0, 0, 0)]
theorem oX12_settle_152 : bX12_settle_152.all (mz_ok RX12 cX12_settle 5) = true := by decide +kernel
def bX12_settle_151 : List mz_E := [(151, .iconst 0, 0, 0, 0, 0, 0)]
theorem oX12_settle_151 : bX12_settle_151.all (mz_ok RX12 cX12_settle 5) = true := by decide +kernel
def bX12_settle_83 : List mz_E := [(83, .aload_n 0, 0, 0, 0, 0, 0), (84, .iload_n 2, 0, 0, 0, 0, 0), (85, .iload 4, 0, 0, 0, 0, 0)]
theorem oX12_settle_83 : bX12_settle_83.all (mz_ok RX12 cX12_settle 5) = true := by decide +kernel
def bX12_settle_90 : List mz_E := [(90, .ifCond .eq 40, 0, 130, 0, 0, 0)]
theorem oX12_settle_90 : bX12_settle_90.all (mz_ok RX12 cX12_settle 5) = true := by decide +kernel
def bX12_settle_130 : List mz_E := [(130, .iinc 4 1, 0, 0, 0, 1, 0), (133, .goto (-61), 0, 72, 0, 0, 0)]
theorem oX12_settle_130 : bX12_settle_130.all (mz_ok RX12 cX12_settle 5) = true := by decide +kernel
def bX12_settle_93 : List mz_E := [(93, .iload_n 3, 0, 0, 0, 0, 0), (94, .aload_n 0, 0, 0, 0, 0, 0), (95, .iload 4, 0, 0, 0, 0, 0)]
theorem oX12_settle_93 : bX12_settle_93.all (mz_ok RX12 cX12_settle 5) = true := by decide +kernel
def bX12_settle_100 : List mz_E := [(100, .iadd, 0, 0, 0, 0, 0), (101, .istore_n 3, 0, 0, 0, 0, 0), (102, .aload_n 0, 0, 0, 0, 0, 0), (103, .getfield 47, 12, 24, 1600, 0, 0), (106, .iload_n 2, 0, 0, 0, 0, 0), (107, .aload_n 0, 0, 0, 0, 0, 0), (108, .getfield 47, 12, 24, 1600, 0, 0), (111, .iload_n 2, 0, 0, 0, 0, 0), (112, .iaload, 0, 0, 0, 0, 0), (113, .aload_n 0, 0, 0, 0, 0, 0), (114, .getfield 47, 12, 24, 1600, 0, 0), (117, .iload_n 2, 0, 0, 0, 0, 0), (118, .iconst 1, 0, 0, 0, 1, 0), (119, .iload 4, 0, 0, 0, 0, 0), (121, .ishl, 0, 0, 0, 0, 0), (122, .iconst (-1), 0, 0, 0, -1, 0), (123, .ixor, 0, 0, 0, 0, 0), (124, .iand, 0, 0, 0, 0, 0), (125, .iaload, 0, 0, 0, 0, 0)]
theorem oX12_settle_100 : bX12_settle_100.all (mz_ok RX12 cX12_settle 5) = true := by decide +kernel
def bX12_settle_129 : List mz_E := [(129, .iastore, 0, 0, 0, 0, 0), (130, .iinc 4 1, 0, 0, 0, 1, 0), (133, .goto (-61), 0, 72, 0, 0, 0)]
theorem oX12_settle_129 : bX12_settle_129.all (mz_ok RX12 cX12_settle 5) = true := by decide +kernel
def bX12_settle_154 : List mz_E := [(154, .iinc 2 1, 0, 0, 0, 1, 0), (157, .goto (-117), 0, 40, 0, 0, 0)]
theorem oX12_settle_154 : bX12_settle_154.all (mz_ok RX12 cX12_settle 5) = true := by decide +kernel
def bX12_settle_14 : List mz_E := [(14, .iload_n 1, 0, 0, 0, 0, 0), (15, .aload_n 0, 0, 0, 0, 0, 0), (16, .iload_n 2, 0, 0, 0, 0, 0)]
theorem oX12_settle_14 : bX12_settle_14.all (mz_ok RX12 cX12_settle 5) = true := by decide +kernel
def bX12_settle_20 : List mz_E := [(20, .ifCond .eq 9, 0, 29, 0, 0, 0)]
theorem oX12_settle_20 : bX12_settle_20.all (mz_ok RX12 cX12_settle 5) = true := by decide +kernel
def bX12_settle_29 : List mz_E := [(29, .iconst 0, 0, 0, 0, 0, 0)]
theorem oX12_settle_29 : bX12_settle_29.all (mz_ok RX12 cX12_settle 5) = true := by decide +kernel
def bX12_settle_30 : List mz_E := [(30, .ior, 0, 0, 0, 0, 0), (31, .istore_n 1, 0, 0, 0, 0, 0), (32, .iinc 2 1, 0, 0, 0, 1, 0), (35, .goto (-31), 0, 4, 0, 0, 0)]
theorem oX12_settle_30 : bX12_settle_30.all (mz_ok RX12 cX12_settle 5) = true := by decide +kernel
def bX12_settle_23 : List mz_E := [(23, .iconst 1, 0, 0, 0, 1, 0), (24, .iload_n 2, 0, 0, 0, 0, 0), (25, .ishl, 0, 0, 0, 0, 0), (26, .goto 4, 0, 30, 0, 0, 0)]
theorem oX12_settle_23 : bX12_settle_23.all (mz_ok RX12 cX12_settle 5) = true := by decide +kernel
abbrev IX12_settle : mz_I := (yX12_settle, cX12_settle, 5, (some .int), 0, 2, 0, 0)
theorem kX12_settle : mz_okm IX12_settle 2117 141 2115 0 = true := by decide +kernel
theorem vX12_settle : mz_okV IX12_settle 2115 2116 = true := by decide +kernel
def fX12_settle_152 (k40 : Int32 → Int32 → mz_D → Option (Int32 × mz_D)) (x1 : Int32) (x2 : Int32) (s0 : Int32) (s1 : Int32) (s2 : Int32) (D : mz_D) : Option (Int32 × mz_D) := (mz_gd (mz_ix s2 64) (k40 x1 (x2 + (1 : Int32)) (mz_wi D 0 209 (s2).toNatClampNeg (s1 + s0))))
set_option maxHeartbeats 4000000 in
theorem tX12_settle_152 (r : (Int32 × mz_D)) (k40 : Int32 → Int32 → mz_D → Option (Int32 × mz_D)) (hk40 : ∀ (x1 : Int32) (x2 : Int32) (D : mz_D), k40 x1 x2 D = some r → mz_Go IX12_settle (some (.inl r.1), r.2) 0 0 (40, [some (.inr (.inr (some (0, 200)))), some (.inl x1), some (.inl x2), none, none], [], D)) : ∀ (x1 : Int32) (x2 : Int32) (s0 : Int32) (s1 : Int32) (s2 : Int32) (D : mz_D), fX12_settle_152 k40 x1 x2 s0 s1 s2 D = some r → mz_Go IX12_settle (some (.inl r.1), r.2) 0 0 (152, [some (.inr (.inr (some (0, 200)))), some (.inl x1), some (.inl x2), none, none], [.inl s0, .inl s1, .inl s2, .inr (.inr (some (0, 209)))], D) := by
  intro x1 x2 s0 s1 s2 D h
  rw [fX12_settle_152] at h
  obtain ⟨hb1, h⟩ := mz_gd_some h
  refine mz_Go.run (gs := [mz_kz 0 0 209, mz_ix s2 64]) (st' := (40, [some (.inr (.inr (some (0, 200)))), some (.inl x1), some (.inl (x2 + (1 : Int32))), none, none], [], (mz_wi D 0 209 (s2).toNatClampNeg (s1 + s0)))) bX12_settle_152 oX12_settle_152 rfl ⟨rfl, hb1, trivial⟩ ?_
  exact mz_Go.drop [true, true, true, false, false] (hk40 x1 (x2 + (1 : Int32)) (mz_wi D 0 209 (s2).toNatClampNeg (s1 + s0)) h)
def fX12_settle_72 (k40 : Int32 → Int32 → mz_D → Option (Int32 × mz_D)) : Nat → Int32 → Int32 → Int32 → Int32 → mz_D → Option (Int32 × mz_D)
  | 0 => fun _ _ _ _ _ => none
  | n + 1 => fun x1 x2 x3 x4 D => (if (D.1 0 201 ((0 : Int32)).toNatClampNeg) ≤ x4 then (mz_gd (mz_ix x2 64) (if x3 = 0 then (fX12_settle_152 k40 x1 x2 (1 : Int32) (D.1 0 209 (x2).toNatClampNeg) x2 D) else (fX12_settle_152 k40 x1 x2 (0 : Int32) (D.1 0 209 (x2).toNatClampNeg) x2 D))) else (if (fX12_isIn x2 x4) = 0 then ((fX12_settle_72 k40 n) x1 x2 x3 (x4 + (1 : Int32)) D) else (Option.bind (fX12_balanceOf x4 D) fun q5 => (mz_gd (mz_ix x2 64) (mz_gd (mz_ix (x2 &&& (((1 : Int32) <<< (x4 &&& 31)) ^^^ (-1 : Int32))) 64) ((fX12_settle_72 k40 n) x1 x2 (x3 + q5) (x4 + (1 : Int32)) (mz_wi D 0 209 (x2).toNatClampNeg (fJ9_max_7cf53 (D.1 0 209 (x2).toNatClampNeg) (D.1 0 209 ((x2 &&& (((1 : Int32) <<< (x4 &&& 31)) ^^^ (-1 : Int32)))).toNatClampNeg)))))))))
set_option maxHeartbeats 4000000 in
theorem tX12_settle_72 (r : (Int32 × mz_D)) (k40 : Int32 → Int32 → mz_D → Option (Int32 × mz_D)) (hk40 : ∀ (x1 : Int32) (x2 : Int32) (D : mz_D), k40 x1 x2 D = some r → mz_Go IX12_settle (some (.inl r.1), r.2) 0 0 (40, [some (.inr (.inr (some (0, 200)))), some (.inl x1), some (.inl x2), none, none], [], D)) : ∀ (n : Nat) (x1 : Int32) (x2 : Int32) (x3 : Int32) (x4 : Int32) (D : mz_D), fX12_settle_72 k40 n x1 x2 x3 x4 D = some r → mz_Go IX12_settle (some (.inl r.1), r.2) 0 0 (72, [some (.inr (.inr (some (0, 200)))), some (.inl x1), some (.inl x2), some (.inl x3), some (.inl x4)], [], D) := by
  intro n
  induction n with
  | zero => intro x1 x2 x3 x4 D h; have h : (none : Option (Int32 × mz_D)) = some r := h; cases h
  | succ n ih =>
    intro x1 x2 x3 x4 D h
    rw [fX12_settle_72] at h
    refine mz_Go.run (gs := [mz_kz 0 0 200, mz_kz 0 0 201, mz_ix (0 : Int32) 3000]) (st' := (if (D.1 0 201 ((0 : Int32)).toNatClampNeg) ≤ x4 then (136, [some (.inr (.inr (some (0, 200)))), some (.inl x1), some (.inl x2), some (.inl x3), some (.inl x4)], [], D) else (83, [some (.inr (.inr (some (0, 200)))), some (.inl x1), some (.inl x2), some (.inl x3), some (.inl x4)], [], D))) bX12_settle_72 oX12_settle_72 rfl ⟨rfl, rfl, (by decide), trivial⟩ ?_
    refine mz_Go.ite (fun hc1 => ?_) (fun hc1 => ?_)
    · have h := mz_ifp hc1 h
      obtain ⟨hb2, h⟩ := mz_gd_some h
      refine mz_Go.run (gs := [mz_kz 0 0 200, mz_kz 0 0 209, mz_ix x2 64]) (st' := (if x3 = 0 then (147, [some (.inr (.inr (some (0, 200)))), some (.inl x1), some (.inl x2), some (.inl x3), some (.inl x4)], [.inl (D.1 0 209 (x2).toNatClampNeg), .inl x2, .inr (.inr (some (0, 209)))], D) else (151, [some (.inr (.inr (some (0, 200)))), some (.inl x1), some (.inl x2), some (.inl x3), some (.inl x4)], [.inl (D.1 0 209 (x2).toNatClampNeg), .inl x2, .inr (.inr (some (0, 209)))], D))) bX12_settle_136 oX12_settle_136 rfl ⟨rfl, rfl, hb2, trivial⟩ ?_
      refine mz_Go.ite (fun hc3 => ?_) (fun hc3 => ?_)
      · have h := mz_ifp hc3 h
        refine mz_Go.run (gs := []) (st' := (152, [some (.inr (.inr (some (0, 200)))), some (.inl x1), some (.inl x2), some (.inl x3), some (.inl x4)], [.inl (1 : Int32), .inl (D.1 0 209 (x2).toNatClampNeg), .inl x2, .inr (.inr (some (0, 209)))], D)) bX12_settle_147 oX12_settle_147 rfl trivial ?_
        exact mz_Go.drop [true, true, true, false, false] (tX12_settle_152 r k40 hk40 x1 x2 (1 : Int32) (D.1 0 209 (x2).toNatClampNeg) x2 D h)
      · have h := mz_ifn hc3 h
        refine mz_Go.run (gs := []) (st' := (152, [some (.inr (.inr (some (0, 200)))), some (.inl x1), some (.inl x2), some (.inl x3), some (.inl x4)], [.inl (0 : Int32), .inl (D.1 0 209 (x2).toNatClampNeg), .inl x2, .inr (.inr (some (0, 209)))], D)) bX12_settle_151 oX12_settle_151 rfl trivial ?_
        exact mz_Go.drop [true, true, true, false, false] (tX12_settle_152 r k40 hk40 x1 x2 (0 : Int32) (D.1 0 209 (x2).toNatClampNeg) x2 D h)
    · have h := mz_ifn hc1 h
      refine mz_Go.run (gs := []) (st' := (87, [some (.inr (.inr (some (0, 200)))), some (.inl x1), some (.inl x2), some (.inl x3), some (.inl x4)], [.inl x4, .inl x2, .inr (.inr (some (0, 200)))], D)) bX12_settle_83 oX12_settle_83 rfl trivial ?_
      refine mz_Go.callV (I := IX12_settle) (J := IX12_isIn) (as := [.inl x2, .inl x4]) (ci := 12) (g := 0) (o := 200) (idx := 270) (pl := 1944) (rest := []) (mX12_isIn x2 x4 D _ rfl) kX12_isIn vX12_isIn (by decide +kernel) (by decide +kernel) (by decide +kernel) rfl rfl ⟨rfl, rfl⟩ rfl rfl rfl rfl ?_
      refine mz_Go.run (gs := []) (st' := (if (fX12_isIn x2 x4) = 0 then (130, [some (.inr (.inr (some (0, 200)))), some (.inl x1), some (.inl x2), some (.inl x3), some (.inl x4)], [], D) else (93, [some (.inr (.inr (some (0, 200)))), some (.inl x1), some (.inl x2), some (.inl x3), some (.inl x4)], [], D))) bX12_settle_90 oX12_settle_90 rfl trivial ?_
      refine mz_Go.ite (fun hc4 => ?_) (fun hc4 => ?_)
      · have h := mz_ifp hc4 h
        refine mz_Go.run (gs := []) (st' := (72, [some (.inr (.inr (some (0, 200)))), some (.inl x1), some (.inl x2), some (.inl x3), some (.inl (x4 + (1 : Int32)))], [], D)) bX12_settle_130 oX12_settle_130 rfl trivial ?_
        exact mz_Go.drop [true, true, true, true, true] (ih x1 x2 x3 (x4 + (1 : Int32)) D h)
      · have h := mz_ifn hc4 h
        refine mz_Go.run (gs := []) (st' := (97, [some (.inr (.inr (some (0, 200)))), some (.inl x1), some (.inl x2), some (.inl x3), some (.inl x4)], [.inl x4, .inr (.inr (some (0, 200))), .inl x3], D)) bX12_settle_93 oX12_settle_93 rfl trivial ?_
        obtain ⟨q5, hq5, h⟩ := mz_bd_some h
        refine mz_Go.callV (I := IX12_settle) (J := IX12_balanceOf) (as := [.inl x4]) (ci := 12) (g := 0) (o := 200) (idx := 319) (pl := 2024) (rest := [.inl x3]) (mX12_balanceOf x4 D q5 hq5) kX12_balanceOf vX12_balanceOf (by decide +kernel) (by decide +kernel) (by decide +kernel) rfl rfl ⟨rfl, rfl⟩ rfl rfl rfl rfl ?_
        obtain ⟨hb6, h⟩ := mz_gd_some h
        obtain ⟨hb7, h⟩ := mz_gd_some h
        refine mz_Go.run (gs := [mz_kz 0 0 200, mz_kz 0 0 200, mz_kz 0 0 209, mz_ix x2 64, mz_kz 0 0 200, mz_kz 0 0 209, mz_ix (x2 &&& (((1 : Int32) <<< (x4 &&& 31)) ^^^ (-1 : Int32))) 64]) (st' := (126, [some (.inr (.inr (some (0, 200)))), some (.inl x1), some (.inl x2), some (.inl (x3 + q5)), some (.inl x4)], [.inl (D.1 0 209 ((x2 &&& (((1 : Int32) <<< (x4 &&& 31)) ^^^ (-1 : Int32)))).toNatClampNeg), .inl (D.1 0 209 (x2).toNatClampNeg), .inl x2, .inr (.inr (some (0, 209)))], D)) bX12_settle_100 oX12_settle_100 rfl ⟨rfl, rfl, rfl, hb6, rfl, rfl, hb7, trivial⟩ ?_
        refine mz_Go.callS (I := IX12_settle) (J := IJ9_max_7cf53) (as := [.inl (D.1 0 209 (x2).toNatClampNeg), .inl (D.1 0 209 ((x2 &&& (((1 : Int32) <<< (x4 &&& 31)) ^^^ (-1 : Int32)))).toNatClampNeg)]) (idx := 360) (pl := 2118) (rest := [.inl x2, .inr (.inr (some (0, 209)))]) (mJ9_max_7cf53 (D.1 0 209 (x2).toNatClampNeg) (D.1 0 209 ((x2 &&& (((1 : Int32) <<< (x4 &&& 31)) ^^^ (-1 : Int32)))).toNatClampNeg) D _ rfl) kJ9_max_7cf53 vJ9_max_7cf53 (by decide +kernel) (by decide +kernel) (by decide +kernel) rfl rfl ⟨rfl, rfl⟩ rfl ?_
        refine mz_Go.run (gs := [mz_kz 0 0 209, mz_ix x2 64]) (st' := (72, [some (.inr (.inr (some (0, 200)))), some (.inl x1), some (.inl x2), some (.inl (x3 + q5)), some (.inl (x4 + (1 : Int32)))], [], (mz_wi D 0 209 (x2).toNatClampNeg (fJ9_max_7cf53 (D.1 0 209 (x2).toNatClampNeg) (D.1 0 209 ((x2 &&& (((1 : Int32) <<< (x4 &&& 31)) ^^^ (-1 : Int32)))).toNatClampNeg))))) bX12_settle_129 oX12_settle_129 rfl ⟨rfl, hb6, trivial⟩ ?_
        exact mz_Go.drop [true, true, true, true, true] (ih x1 x2 (x3 + q5) (x4 + (1 : Int32)) (mz_wi D 0 209 (x2).toNatClampNeg (fJ9_max_7cf53 (D.1 0 209 (x2).toNatClampNeg) (D.1 0 209 ((x2 &&& (((1 : Int32) <<< (x4 &&& 31)) ^^^ (-1 : Int32)))).toNatClampNeg))) h)
def fX12_settle_40 : Nat → Int32 → Int32 → mz_D → Option (Int32 × mz_D)
  | 0 => fun _ _ _ => none
  | n + 1 => fun x1 x2 D => (if x1 < x2 then (Option.bind (fX12_bits x1) fun q2 => (mz_gd (mz_ix x1 64) (some ((q2 - (D.1 0 209 (x1).toNatClampNeg)), (mz_wi D 0 200 2 (0 : Int32)))))) else (mz_gd (mz_ix x2 64) (if (x2 &&& (x1 ^^^ (-1 : Int32))) = 0 then (if x2 = 0 then ((fX12_settle_40 n) x1 (x2 + (1 : Int32)) (mz_wi D 0 209 (x2).toNatClampNeg (0 : Int32))) else (fX12_settle_72 (fX12_settle_40 n) mz_N x1 x2 (0 : Int32) (0 : Int32) (mz_wi D 0 209 (x2).toNatClampNeg (0 : Int32)))) else ((fX12_settle_40 n) x1 (x2 + (1 : Int32)) (mz_wi D 0 209 (x2).toNatClampNeg (0 : Int32))))))
set_option maxHeartbeats 4000000 in
theorem tX12_settle_40 (r : (Int32 × mz_D)) : ∀ (n : Nat) (x1 : Int32) (x2 : Int32) (D : mz_D), fX12_settle_40 n x1 x2 D = some r → mz_Go IX12_settle (some (.inl r.1), r.2) 0 0 (40, [some (.inr (.inr (some (0, 200)))), some (.inl x1), some (.inl x2), none, none], [], D) := by
  intro n
  induction n with
  | zero => intro x1 x2 D h; have h : (none : Option (Int32 × mz_D)) = some r := h; cases h
  | succ n ih =>
    intro x1 x2 D h
    rw [fX12_settle_40] at h
    refine mz_Go.run (gs := []) (st' := (if x1 < x2 then (160, [some (.inr (.inr (some (0, 200)))), some (.inl x1), some (.inl x2), none, none], [], D) else (45, [some (.inr (.inr (some (0, 200)))), some (.inl x1), some (.inl x2), none, none], [], D))) bX12_settle_40 oX12_settle_40 rfl trivial ?_
    refine mz_Go.ite (fun hc1 => ?_) (fun hc1 => ?_)
    · have h := mz_ifp hc1 h
      refine mz_Go.run (gs := []) (st' := (162, [some (.inr (.inr (some (0, 200)))), some (.inl x1), some (.inl x2), none, none], [.inl x1, .inr (.inr (some (0, 200)))], D)) bX12_settle_160 oX12_settle_160 rfl trivial ?_
      obtain ⟨q2, hq2, h⟩ := mz_bd_some h
      refine mz_Go.callS (I := IX12_settle) (J := IX12_bits) (as := [.inl x1]) (idx := 254) (pl := 1888) (rest := [.inr (.inr (some (0, 200)))]) (mX12_bits x1 D q2 hq2) kX12_bits vX12_bits (by decide +kernel) (by decide +kernel) (by decide +kernel) rfl rfl ⟨rfl, rfl⟩ rfl ?_
      obtain ⟨hb3, h⟩ := mz_gd_some h
      refine mz_Go.run (gs := [mz_kz 0 0 200, mz_kz 0 0 209, mz_ix x1 64]) (st' := (172, [some (.inr (.inr (some (0, 200)))), some (.inl x1), some (.inl x2), none, none], [.inl (q2 - (D.1 0 209 (x1).toNatClampNeg)), .inr (.inr (some (0, 200)))], D)) bX12_settle_165 oX12_settle_165 rfl ⟨rfl, rfl, hb3, trivial⟩ ?_
      refine mz_Go.callV (I := IX12_settle) (J := IX12_gives) (as := [.inl (q2 - (D.1 0 209 (x1).toNatClampNeg))]) (ci := 12) (g := 0) (o := 200) (idx := 79) (pl := 1844) (rest := []) (mX12_gives (q2 - (D.1 0 209 (x1).toNatClampNeg)) D) kX12_gives vX12_gives (by decide +kernel) (by decide +kernel) (by decide +kernel) rfl rfl ⟨rfl, rfl⟩ rfl rfl rfl rfl ?_
      cases h
      exact mz_Go.reti (by decide +kernel) rfl ⟨Nat.le_refl _, Nat.le_refl _⟩ rfl
    · have h := mz_ifn hc1 h
      obtain ⟨hb4, h⟩ := mz_gd_some h
      refine mz_Go.run (gs := [mz_kz 0 0 200, mz_kz 0 0 209, mz_ix x2 64]) (st' := (if (x2 &&& (x1 ^^^ (-1 : Int32))) = 0 then (60, [some (.inr (.inr (some (0, 200)))), some (.inl x1), some (.inl x2), none, none], [], (mz_wi D 0 209 (x2).toNatClampNeg (0 : Int32))) else (154, [some (.inr (.inr (some (0, 200)))), some (.inl x1), some (.inl x2), none, none], [], (mz_wi D 0 209 (x2).toNatClampNeg (0 : Int32))))) bX12_settle_45 oX12_settle_45 rfl ⟨rfl, rfl, hb4, trivial⟩ ?_
      refine mz_Go.ite (fun hc5 => ?_) (fun hc5 => ?_)
      · have h := mz_ifp hc5 h
        refine mz_Go.run (gs := []) (st' := (if x2 = 0 then (64, [some (.inr (.inr (some (0, 200)))), some (.inl x1), some (.inl x2), none, none], [], (mz_wi D 0 209 (x2).toNatClampNeg (0 : Int32))) else (67, [some (.inr (.inr (some (0, 200)))), some (.inl x1), some (.inl x2), none, none], [], (mz_wi D 0 209 (x2).toNatClampNeg (0 : Int32))))) bX12_settle_60 oX12_settle_60 rfl trivial ?_
        refine mz_Go.ite (fun hc6 => ?_) (fun hc6 => ?_)
        · have h := mz_ifp hc6 h
          refine mz_Go.run (gs := []) (st' := (40, [some (.inr (.inr (some (0, 200)))), some (.inl x1), some (.inl (x2 + (1 : Int32))), none, none], [], (mz_wi D 0 209 (x2).toNatClampNeg (0 : Int32)))) bX12_settle_64 oX12_settle_64 rfl trivial ?_
          exact mz_Go.drop [true, true, true, false, false] (ih x1 (x2 + (1 : Int32)) (mz_wi D 0 209 (x2).toNatClampNeg (0 : Int32)) h)
        · have h := mz_ifn hc6 h
          refine mz_Go.run (gs := []) (st' := (72, [some (.inr (.inr (some (0, 200)))), some (.inl x1), some (.inl x2), some (.inl (0 : Int32)), some (.inl (0 : Int32))], [], (mz_wi D 0 209 (x2).toNatClampNeg (0 : Int32)))) bX12_settle_67 oX12_settle_67 rfl trivial ?_
          exact mz_Go.drop [true, true, true, true, true] (tX12_settle_72 r (fX12_settle_40 n) ih mz_N x1 x2 (0 : Int32) (0 : Int32) (mz_wi D 0 209 (x2).toNatClampNeg (0 : Int32)) h)
      · have h := mz_ifn hc5 h
        refine mz_Go.run (gs := []) (st' := (40, [some (.inr (.inr (some (0, 200)))), some (.inl x1), some (.inl (x2 + (1 : Int32))), none, none], [], (mz_wi D 0 209 (x2).toNatClampNeg (0 : Int32)))) bX12_settle_154 oX12_settle_154 rfl trivial ?_
        exact mz_Go.drop [true, true, true, false, false] (ih x1 (x2 + (1 : Int32)) (mz_wi D 0 209 (x2).toNatClampNeg (0 : Int32)) h)
def fX12_settle_30 (k4 : Int32 → Int32 → mz_D → Option (Int32 × mz_D)) (x2 : Int32) (s0 : Int32) (s1 : Int32) (D : mz_D) : Option (Int32 × mz_D) := (k4 (s1 ||| s0) (x2 + (1 : Int32)) D)
set_option maxHeartbeats 4000000 in
theorem tX12_settle_30 (r : (Int32 × mz_D)) (k4 : Int32 → Int32 → mz_D → Option (Int32 × mz_D)) (hk4 : ∀ (x1 : Int32) (x2 : Int32) (D : mz_D), k4 x1 x2 D = some r → mz_Go IX12_settle (some (.inl r.1), r.2) 0 0 (4, [some (.inr (.inr (some (0, 200)))), some (.inl x1), some (.inl x2), none, none], [], D)) : ∀ (x2 : Int32) (s0 : Int32) (s1 : Int32) (D : mz_D), fX12_settle_30 k4 x2 s0 s1 D = some r → mz_Go IX12_settle (some (.inl r.1), r.2) 0 0 (30, [some (.inr (.inr (some (0, 200)))), none, some (.inl x2), none, none], [.inl s0, .inl s1], D) := by
  intro x2 s0 s1 D h
  rw [fX12_settle_30] at h
  refine mz_Go.run (gs := []) (st' := (4, [some (.inr (.inr (some (0, 200)))), some (.inl (s1 ||| s0)), some (.inl (x2 + (1 : Int32))), none, none], [], D)) bX12_settle_30 oX12_settle_30 rfl trivial ?_
  exact mz_Go.drop [true, true, true, false, false] (hk4 (s1 ||| s0) (x2 + (1 : Int32)) D h)
def fX12_settle_4 : Nat → Int32 → Int32 → mz_D → Option (Int32 × mz_D)
  | 0 => fun _ _ _ => none
  | n + 1 => fun x1 x2 D => (if (D.1 0 201 ((0 : Int32)).toNatClampNeg) ≤ x2 then (fX12_settle_40 mz_N x1 (0 : Int32) D) else (Option.bind (fX12_balanceOf x2 D) fun q2 => (if q2 = 0 then (fX12_settle_30 (fX12_settle_4 n) x2 (0 : Int32) x1 D) else (fX12_settle_30 (fX12_settle_4 n) x2 ((1 : Int32) <<< (x2 &&& 31)) x1 D))))
set_option maxHeartbeats 4000000 in
theorem tX12_settle_4 (r : (Int32 × mz_D)) : ∀ (n : Nat) (x1 : Int32) (x2 : Int32) (D : mz_D), fX12_settle_4 n x1 x2 D = some r → mz_Go IX12_settle (some (.inl r.1), r.2) 0 0 (4, [some (.inr (.inr (some (0, 200)))), some (.inl x1), some (.inl x2), none, none], [], D) := by
  intro n
  induction n with
  | zero => intro x1 x2 D h; have h : (none : Option (Int32 × mz_D)) = some r := h; cases h
  | succ n ih =>
    intro x1 x2 D h
    rw [fX12_settle_4] at h
    refine mz_Go.run (gs := [mz_kz 0 0 200, mz_kz 0 0 201, mz_ix (0 : Int32) 3000]) (st' := (if (D.1 0 201 ((0 : Int32)).toNatClampNeg) ≤ x2 then (38, [some (.inr (.inr (some (0, 200)))), some (.inl x1), some (.inl x2), none, none], [], D) else (14, [some (.inr (.inr (some (0, 200)))), some (.inl x1), some (.inl x2), none, none], [], D))) bX12_settle_4 oX12_settle_4 rfl ⟨rfl, rfl, (by decide), trivial⟩ ?_
    refine mz_Go.ite (fun hc1 => ?_) (fun hc1 => ?_)
    · have h := mz_ifp hc1 h
      refine mz_Go.run (gs := []) (st' := (40, [some (.inr (.inr (some (0, 200)))), some (.inl x1), some (.inl (0 : Int32)), none, none], [], D)) bX12_settle_38 oX12_settle_38 rfl trivial ?_
      exact mz_Go.drop [true, true, true, false, false] (tX12_settle_40 r mz_N x1 (0 : Int32) D h)
    · have h := mz_ifn hc1 h
      refine mz_Go.run (gs := []) (st' := (17, [some (.inr (.inr (some (0, 200)))), some (.inl x1), some (.inl x2), none, none], [.inl x2, .inr (.inr (some (0, 200))), .inl x1], D)) bX12_settle_14 oX12_settle_14 rfl trivial ?_
      obtain ⟨q2, hq2, h⟩ := mz_bd_some h
      refine mz_Go.callV (I := IX12_settle) (J := IX12_balanceOf) (as := [.inl x2]) (ci := 12) (g := 0) (o := 200) (idx := 319) (pl := 2024) (rest := [.inl x1]) (mX12_balanceOf x2 D q2 hq2) kX12_balanceOf vX12_balanceOf (by decide +kernel) (by decide +kernel) (by decide +kernel) rfl rfl ⟨rfl, rfl⟩ rfl rfl rfl rfl ?_
      refine mz_Go.run (gs := []) (st' := (if q2 = 0 then (29, [some (.inr (.inr (some (0, 200)))), some (.inl x1), some (.inl x2), none, none], [.inl x1], D) else (23, [some (.inr (.inr (some (0, 200)))), some (.inl x1), some (.inl x2), none, none], [.inl x1], D))) bX12_settle_20 oX12_settle_20 rfl trivial ?_
      refine mz_Go.ite (fun hc3 => ?_) (fun hc3 => ?_)
      · have h := mz_ifp hc3 h
        refine mz_Go.run (gs := []) (st' := (30, [some (.inr (.inr (some (0, 200)))), some (.inl x1), some (.inl x2), none, none], [.inl (0 : Int32), .inl x1], D)) bX12_settle_29 oX12_settle_29 rfl trivial ?_
        exact mz_Go.drop [true, false, true, false, false] (tX12_settle_30 r (fX12_settle_4 n) ih x2 (0 : Int32) x1 D h)
      · have h := mz_ifn hc3 h
        refine mz_Go.run (gs := []) (st' := (30, [some (.inr (.inr (some (0, 200)))), some (.inl x1), some (.inl x2), none, none], [.inl ((1 : Int32) <<< (x2 &&& 31)), .inl x1], D)) bX12_settle_23 oX12_settle_23 rfl trivial ?_
        exact mz_Go.drop [true, false, true, false, false] (tX12_settle_30 r (fX12_settle_4 n) ih x2 ((1 : Int32) <<< (x2 &&& 31)) x1 D h)
def fX12_settle (D : mz_D) : Option (Int32 × mz_D) := (fX12_settle_4 mz_N (0 : Int32) (0 : Int32) D)
set_option maxHeartbeats 4000000 in
theorem mX12_settle (D : mz_D) (r : (Int32 × mz_D)) (h : fX12_settle D = some r) : mz_Met IX12_settle [.inr (.inr (some (0, 200)))] D (some (.inl r.1), r.2) := by
  refine mz_Met.of (by decide +kernel) (Nat.le_of_ble_eq_true rfl) ?_
  show mz_Go IX12_settle (some (.inl r.1), r.2) 0 0 (0, [some (.inr (.inr (some (0, 200)))), none, none, none, none], [], D)
  rw [fX12_settle] at h
  refine mz_Go.run (gs := []) (st' := (4, [some (.inr (.inr (some (0, 200)))), some (.inl (0 : Int32)), some (.inl (0 : Int32)), none, none], [], D)) bX12_settle_0 oX12_settle_0 rfl trivial ?_
  exact mz_Go.drop [true, true, true, false, false] (tX12_settle_4 r mz_N (0 : Int32) (0 : Int32) D h)
def bX12_tiesNow_0 : List mz_E := [(0, .iconst 0, 0, 0, 0, 0, 0), (1, .istore_n 1, 0, 0, 0, 0, 0), (2, .iconst 0, 0, 0, 0, 0, 0), (3, .istore_n 2, 0, 0, 0, 0, 0)]
theorem oX12_tiesNow_0 : bX12_tiesNow_0.all (mz_ok RX12 cX12_tiesNow 4) = true := by decide +kernel
def bX12_tiesNow_4 : List mz_E := [(4, .iload_n 2, 0, 0, 0, 0, 0), (5, .aload_n 0, 0, 0, 0, 0, 0), (6, .getfield 7, 12, 0, 1576, 0, 0), (9, .iconst 0, 0, 0, 0, 0, 0), (10, .iaload, 0, 0, 0, 0, 0), (11, .if_icmp .ge 56, 0, 67, 0, 0, 0)]
theorem oX12_tiesNow_4 : bX12_tiesNow_4.all (mz_ok RX12 cX12_tiesNow 4) = true := by decide +kernel
def bX12_tiesNow_67 : List mz_E := [(67, .iload_n 1, 0, 0, 0, 0, 0)]
theorem oX12_tiesNow_67 : bX12_tiesNow_67.all (mz_ok RX12 cX12_tiesNow 4) = true := by decide +kernel
def bX12_tiesNow_14 : List mz_E := [(14, .iconst 0, 0, 0, 0, 0, 0), (15, .istore_n 3, 0, 0, 0, 0, 0)]
theorem oX12_tiesNow_14 : bX12_tiesNow_14.all (mz_ok RX12 cX12_tiesNow 4) = true := by decide +kernel
def bX12_tiesNow_16 : List mz_E := [(16, .iload_n 3, 0, 0, 0, 0, 0), (17, .iload_n 2, 0, 0, 0, 0, 0), (18, .if_icmp .ge 43, 0, 61, 0, 0, 0)]
theorem oX12_tiesNow_16 : bX12_tiesNow_16.all (mz_ok RX12 cX12_tiesNow 4) = true := by decide +kernel
def bX12_tiesNow_61 : List mz_E := [(61, .iinc 2 1, 0, 0, 0, 1, 0), (64, .goto (-60), 0, 4, 0, 0, 0)]
theorem oX12_tiesNow_61 : bX12_tiesNow_61.all (mz_ok RX12 cX12_tiesNow 4) = true := by decide +kernel
def bX12_tiesNow_21 : List mz_E := [(21, .iload_n 1, 0, 0, 0, 0, 0), (22, .aload_n 0, 0, 0, 0, 0, 0), (23, .getfield 7, 12, 0, 1576, 0, 0), (26, .iload_n 2, 0, 0, 0, 0, 0), (27, .iload_n 3, 0, 0, 0, 0, 0)]
theorem oX12_tiesNow_21 : bX12_tiesNow_21.all (mz_ok RX12 cX12_tiesNow 4) = true := by decide +kernel
def bX12_tiesNow_31 : List mz_E := [(31, .iaload, 0, 0, 0, 0, 0), (32, .ifCond .gt 16, 0, 48, 0, 0, 0)]
theorem oX12_tiesNow_31 : bX12_tiesNow_31.all (mz_ok RX12 cX12_tiesNow 4) = true := by decide +kernel
def bX12_tiesNow_48 : List mz_E := [(48, .iconst 1, 0, 0, 0, 1, 0), (49, .goto 4, 0, 53, 0, 0, 0)]
theorem oX12_tiesNow_48 : bX12_tiesNow_48.all (mz_ok RX12 cX12_tiesNow 4) = true := by decide +kernel
def bX12_tiesNow_53 : List mz_E := [(53, .iadd, 0, 0, 0, 0, 0), (54, .istore_n 1, 0, 0, 0, 0, 0), (55, .iinc 3 1, 0, 0, 0, 1, 0), (58, .goto (-42), 0, 16, 0, 0, 0)]
theorem oX12_tiesNow_53 : bX12_tiesNow_53.all (mz_ok RX12 cX12_tiesNow 4) = true := by decide +kernel
def bX12_tiesNow_35 : List mz_E := [(35, .aload_n 0, 0, 0, 0, 0, 0), (36, .getfield 7, 12, 0, 1576, 0, 0), (39, .iload_n 3, 0, 0, 0, 0, 0), (40, .iload_n 2, 0, 0, 0, 0, 0)]
theorem oX12_tiesNow_35 : bX12_tiesNow_35.all (mz_ok RX12 cX12_tiesNow 4) = true := by decide +kernel
def bX12_tiesNow_44 : List mz_E := [(44, .iaload, 0, 0, 0, 0, 0), (45, .ifCond .le 7, 0, 52, 0, 0, 0)]
theorem oX12_tiesNow_44 : bX12_tiesNow_44.all (mz_ok RX12 cX12_tiesNow 4) = true := by decide +kernel
def bX12_tiesNow_52 : List mz_E := [(52, .iconst 0, 0, 0, 0, 0, 0)]
theorem oX12_tiesNow_52 : bX12_tiesNow_52.all (mz_ok RX12 cX12_tiesNow 4) = true := by decide +kernel
abbrev IX12_tiesNow : mz_I := (yX12_tiesNow, cX12_tiesNow, 4, (some .int), 0, 1, 0, 0)
theorem kX12_tiesNow : mz_okm IX12_tiesNow 2126 141 2125 0 = true := by decide +kernel
theorem vX12_tiesNow : mz_okV IX12_tiesNow 2125 104 = true := by decide +kernel
def fX12_tiesNow_53 (D : mz_D) (k4 : Int32 → Int32 → Option Int32) (k16 : Int32 → Int32 → Int32 → Option Int32) (x2 : Int32) (x3 : Int32) (s0 : Int32) (s1 : Int32) : Option Int32 := (k16 (s1 + s0) x2 (x3 + (1 : Int32)))
set_option maxHeartbeats 4000000 in
theorem tX12_tiesNow_53 (D : mz_D) (r : Int32) (k4 : Int32 → Int32 → Option Int32) (hk4 : ∀ (x1 : Int32) (x2 : Int32), k4 x1 x2 = some r → mz_Go IX12_tiesNow (some (.inl r), D) 0 0 (4, [some (.inr (.inr (some (0, 200)))), some (.inl x1), some (.inl x2), none], [], D)) (k16 : Int32 → Int32 → Int32 → Option Int32) (hk16 : ∀ (x1 : Int32) (x2 : Int32) (x3 : Int32), k16 x1 x2 x3 = some r → mz_Go IX12_tiesNow (some (.inl r), D) 0 0 (16, [some (.inr (.inr (some (0, 200)))), some (.inl x1), some (.inl x2), some (.inl x3)], [], D)) : ∀ (x2 : Int32) (x3 : Int32) (s0 : Int32) (s1 : Int32), fX12_tiesNow_53 D k4 k16 x2 x3 s0 s1 = some r → mz_Go IX12_tiesNow (some (.inl r), D) 0 0 (53, [some (.inr (.inr (some (0, 200)))), none, some (.inl x2), some (.inl x3)], [.inl s0, .inl s1], D) := by
  intro x2 x3 s0 s1 h
  rw [fX12_tiesNow_53] at h
  refine mz_Go.run (gs := []) (st' := (16, [some (.inr (.inr (some (0, 200)))), some (.inl (s1 + s0)), some (.inl x2), some (.inl (x3 + (1 : Int32)))], [], D)) bX12_tiesNow_53 oX12_tiesNow_53 rfl trivial ?_
  exact mz_Go.drop [true, true, true, true] (hk16 (s1 + s0) x2 (x3 + (1 : Int32)) h)
def fX12_tiesNow_48 (D : mz_D) (k4 : Int32 → Int32 → Option Int32) (k16 : Int32 → Int32 → Int32 → Option Int32) (x2 : Int32) (x3 : Int32) (s0 : Int32) : Option Int32 := (fX12_tiesNow_53 D k4 k16 x2 x3 (1 : Int32) s0)
set_option maxHeartbeats 4000000 in
theorem tX12_tiesNow_48 (D : mz_D) (r : Int32) (k4 : Int32 → Int32 → Option Int32) (hk4 : ∀ (x1 : Int32) (x2 : Int32), k4 x1 x2 = some r → mz_Go IX12_tiesNow (some (.inl r), D) 0 0 (4, [some (.inr (.inr (some (0, 200)))), some (.inl x1), some (.inl x2), none], [], D)) (k16 : Int32 → Int32 → Int32 → Option Int32) (hk16 : ∀ (x1 : Int32) (x2 : Int32) (x3 : Int32), k16 x1 x2 x3 = some r → mz_Go IX12_tiesNow (some (.inl r), D) 0 0 (16, [some (.inr (.inr (some (0, 200)))), some (.inl x1), some (.inl x2), some (.inl x3)], [], D)) : ∀ (x2 : Int32) (x3 : Int32) (s0 : Int32), fX12_tiesNow_48 D k4 k16 x2 x3 s0 = some r → mz_Go IX12_tiesNow (some (.inl r), D) 0 0 (48, [some (.inr (.inr (some (0, 200)))), none, some (.inl x2), some (.inl x3)], [.inl s0], D) := by
  intro x2 x3 s0 h
  rw [fX12_tiesNow_48] at h
  refine mz_Go.run (gs := []) (st' := (53, [some (.inr (.inr (some (0, 200)))), none, some (.inl x2), some (.inl x3)], [.inl (1 : Int32), .inl s0], D)) bX12_tiesNow_48 oX12_tiesNow_48 rfl trivial ?_
  exact mz_Go.drop [true, false, true, true] (tX12_tiesNow_53 D r k4 hk4 k16 hk16 x2 x3 (1 : Int32) s0 h)
def fX12_tiesNow_16 (D : mz_D) (k4 : Int32 → Int32 → Option Int32) : Nat → Int32 → Int32 → Int32 → Option Int32
  | 0 => fun _ _ _ => none
  | n + 1 => fun x1 x2 x3 => (if x2 ≤ x3 then (k4 x1 (x2 + (1 : Int32))) else (mz_gd (mz_ix (((92 : Int32) + ((6 : Int32) * x2)) + x3) 3000) (if 0 < (D.1 0 201 ((((92 : Int32) + ((6 : Int32) * x2)) + x3)).toNatClampNeg) then (fX12_tiesNow_48 D k4 (fX12_tiesNow_16 D k4 n) x2 x3 x1) else (mz_gd (mz_ix (((92 : Int32) + ((6 : Int32) * x3)) + x2) 3000) (if (D.1 0 201 ((((92 : Int32) + ((6 : Int32) * x3)) + x2)).toNatClampNeg) ≤ 0 then (fX12_tiesNow_53 D k4 (fX12_tiesNow_16 D k4 n) x2 x3 (0 : Int32) x1) else (fX12_tiesNow_48 D k4 (fX12_tiesNow_16 D k4 n) x2 x3 x1))))))
set_option maxHeartbeats 4000000 in
theorem tX12_tiesNow_16 (D : mz_D) (r : Int32) (k4 : Int32 → Int32 → Option Int32) (hk4 : ∀ (x1 : Int32) (x2 : Int32), k4 x1 x2 = some r → mz_Go IX12_tiesNow (some (.inl r), D) 0 0 (4, [some (.inr (.inr (some (0, 200)))), some (.inl x1), some (.inl x2), none], [], D)) : ∀ (n : Nat) (x1 : Int32) (x2 : Int32) (x3 : Int32), fX12_tiesNow_16 D k4 n x1 x2 x3 = some r → mz_Go IX12_tiesNow (some (.inl r), D) 0 0 (16, [some (.inr (.inr (some (0, 200)))), some (.inl x1), some (.inl x2), some (.inl x3)], [], D) := by
  intro n
  induction n with
  | zero => intro x1 x2 x3 h; have h : (none : Option Int32) = some r := h; cases h
  | succ n ih =>
    intro x1 x2 x3 h
    rw [fX12_tiesNow_16] at h
    refine mz_Go.run (gs := []) (st' := (if x2 ≤ x3 then (61, [some (.inr (.inr (some (0, 200)))), some (.inl x1), some (.inl x2), some (.inl x3)], [], D) else (21, [some (.inr (.inr (some (0, 200)))), some (.inl x1), some (.inl x2), some (.inl x3)], [], D))) bX12_tiesNow_16 oX12_tiesNow_16 rfl trivial ?_
    refine mz_Go.ite (fun hc1 => ?_) (fun hc1 => ?_)
    · have h := mz_ifp hc1 h
      refine mz_Go.run (gs := []) (st' := (4, [some (.inr (.inr (some (0, 200)))), some (.inl x1), some (.inl (x2 + (1 : Int32))), some (.inl x3)], [], D)) bX12_tiesNow_61 oX12_tiesNow_61 rfl trivial ?_
      exact mz_Go.drop [true, true, true, false] (hk4 x1 (x2 + (1 : Int32)) h)
    · have h := mz_ifn hc1 h
      refine mz_Go.run (gs := [mz_kz 0 0 200]) (st' := (28, [some (.inr (.inr (some (0, 200)))), some (.inl x1), some (.inl x2), some (.inl x3)], [.inl x3, .inl x2, .inr (.inr (some (0, 201))), .inl x1], D)) bX12_tiesNow_21 oX12_tiesNow_21 rfl ⟨rfl, trivial⟩ ?_
      refine mz_Go.callS (I := IX12_tiesNow) (J := IX12_debtRow) (as := [.inl x2, .inl x3]) (idx := 312) (pl := 2008) (rest := [.inr (.inr (some (0, 201))), .inl x1]) (mX12_debtRow x2 x3 D) kX12_debtRow vX12_debtRow (by decide +kernel) (by decide +kernel) (by decide +kernel) rfl rfl ⟨rfl, rfl⟩ rfl ?_
      obtain ⟨hb2, h⟩ := mz_gd_some h
      refine mz_Go.run (gs := [mz_kz 0 0 201, mz_ix (((92 : Int32) + ((6 : Int32) * x2)) + x3) 3000]) (st' := (if 0 < (D.1 0 201 ((((92 : Int32) + ((6 : Int32) * x2)) + x3)).toNatClampNeg) then (48, [some (.inr (.inr (some (0, 200)))), some (.inl x1), some (.inl x2), some (.inl x3)], [.inl x1], D) else (35, [some (.inr (.inr (some (0, 200)))), some (.inl x1), some (.inl x2), some (.inl x3)], [.inl x1], D))) bX12_tiesNow_31 oX12_tiesNow_31 rfl ⟨rfl, hb2, trivial⟩ ?_
      refine mz_Go.ite (fun hc3 => ?_) (fun hc3 => ?_)
      · have h := mz_ifp hc3 h
        exact mz_Go.drop [true, false, true, true] (tX12_tiesNow_48 D r k4 hk4 (fX12_tiesNow_16 D k4 n) ih x2 x3 x1 h)
      · have h := mz_ifn hc3 h
        refine mz_Go.run (gs := [mz_kz 0 0 200]) (st' := (41, [some (.inr (.inr (some (0, 200)))), some (.inl x1), some (.inl x2), some (.inl x3)], [.inl x2, .inl x3, .inr (.inr (some (0, 201))), .inl x1], D)) bX12_tiesNow_35 oX12_tiesNow_35 rfl ⟨rfl, trivial⟩ ?_
        refine mz_Go.callS (I := IX12_tiesNow) (J := IX12_debtRow) (as := [.inl x3, .inl x2]) (idx := 312) (pl := 2008) (rest := [.inr (.inr (some (0, 201))), .inl x1]) (mX12_debtRow x3 x2 D) kX12_debtRow vX12_debtRow (by decide +kernel) (by decide +kernel) (by decide +kernel) rfl rfl ⟨rfl, rfl⟩ rfl ?_
        obtain ⟨hb4, h⟩ := mz_gd_some h
        refine mz_Go.run (gs := [mz_kz 0 0 201, mz_ix (((92 : Int32) + ((6 : Int32) * x3)) + x2) 3000]) (st' := (if (D.1 0 201 ((((92 : Int32) + ((6 : Int32) * x3)) + x2)).toNatClampNeg) ≤ 0 then (52, [some (.inr (.inr (some (0, 200)))), some (.inl x1), some (.inl x2), some (.inl x3)], [.inl x1], D) else (48, [some (.inr (.inr (some (0, 200)))), some (.inl x1), some (.inl x2), some (.inl x3)], [.inl x1], D))) bX12_tiesNow_44 oX12_tiesNow_44 rfl ⟨rfl, hb4, trivial⟩ ?_
        refine mz_Go.ite (fun hc5 => ?_) (fun hc5 => ?_)
        · have h := mz_ifp hc5 h
          refine mz_Go.run (gs := []) (st' := (53, [some (.inr (.inr (some (0, 200)))), some (.inl x1), some (.inl x2), some (.inl x3)], [.inl (0 : Int32), .inl x1], D)) bX12_tiesNow_52 oX12_tiesNow_52 rfl trivial ?_
          exact mz_Go.drop [true, false, true, true] (tX12_tiesNow_53 D r k4 hk4 (fX12_tiesNow_16 D k4 n) ih x2 x3 (0 : Int32) x1 h)
        · have h := mz_ifn hc5 h
          exact mz_Go.drop [true, false, true, true] (tX12_tiesNow_48 D r k4 hk4 (fX12_tiesNow_16 D k4 n) ih x2 x3 x1 h)
def fX12_tiesNow_4 (D : mz_D) : Nat → Int32 → Int32 → Option Int32
  | 0 => fun _ _ => none
  | n + 1 => fun x1 x2 => (if (D.1 0 201 ((0 : Int32)).toNatClampNeg) ≤ x2 then (some x1) else (fX12_tiesNow_16 D (fX12_tiesNow_4 D n) mz_N x1 x2 (0 : Int32)))
set_option maxHeartbeats 4000000 in
theorem tX12_tiesNow_4 (D : mz_D) (r : Int32) : ∀ (n : Nat) (x1 : Int32) (x2 : Int32), fX12_tiesNow_4 D n x1 x2 = some r → mz_Go IX12_tiesNow (some (.inl r), D) 0 0 (4, [some (.inr (.inr (some (0, 200)))), some (.inl x1), some (.inl x2), none], [], D) := by
  intro n
  induction n with
  | zero => intro x1 x2 h; have h : (none : Option Int32) = some r := h; cases h
  | succ n ih =>
    intro x1 x2 h
    rw [fX12_tiesNow_4] at h
    refine mz_Go.run (gs := [mz_kz 0 0 200, mz_kz 0 0 201, mz_ix (0 : Int32) 3000]) (st' := (if (D.1 0 201 ((0 : Int32)).toNatClampNeg) ≤ x2 then (67, [some (.inr (.inr (some (0, 200)))), some (.inl x1), some (.inl x2), none], [], D) else (14, [some (.inr (.inr (some (0, 200)))), some (.inl x1), some (.inl x2), none], [], D))) bX12_tiesNow_4 oX12_tiesNow_4 rfl ⟨rfl, rfl, (by decide), trivial⟩ ?_
    refine mz_Go.ite (fun hc1 => ?_) (fun hc1 => ?_)
    · have h := mz_ifp hc1 h
      refine mz_Go.run (gs := []) (st' := (68, [some (.inr (.inr (some (0, 200)))), some (.inl x1), some (.inl x2), none], [.inl x1], D)) bX12_tiesNow_67 oX12_tiesNow_67 rfl trivial ?_
      cases h
      exact mz_Go.reti (by decide +kernel) rfl ⟨Nat.le_refl _, Nat.le_refl _⟩ rfl
    · have h := mz_ifn hc1 h
      refine mz_Go.run (gs := []) (st' := (16, [some (.inr (.inr (some (0, 200)))), some (.inl x1), some (.inl x2), some (.inl (0 : Int32))], [], D)) bX12_tiesNow_14 oX12_tiesNow_14 rfl trivial ?_
      exact mz_Go.drop [true, true, true, true] (tX12_tiesNow_16 D r (fX12_tiesNow_4 D n) ih mz_N x1 x2 (0 : Int32) h)
def fX12_tiesNow (D : mz_D) : Option Int32 := (fX12_tiesNow_4 D mz_N (0 : Int32) (0 : Int32))
set_option maxHeartbeats 4000000 in
theorem mX12_tiesNow (D : mz_D) (r : Int32) (h : fX12_tiesNow D = some r) : mz_Met IX12_tiesNow [.inr (.inr (some (0, 200)))] D (some (.inl r), D) := by
  refine mz_Met.of (by decide +kernel) (Nat.le_of_ble_eq_true rfl) ?_
  show mz_Go IX12_tiesNow (some (.inl r), D) 0 0 (0, [some (.inr (.inr (some (0, 200)))), none, none, none], [], D)
  rw [fX12_tiesNow] at h
  refine mz_Go.run (gs := []) (st' := (4, [some (.inr (.inr (some (0, 200)))), some (.inl (0 : Int32)), some (.inl (0 : Int32)), none], [], D)) bX12_tiesNow_0 oX12_tiesNow_0 rfl trivial ?_
  exact mz_Go.drop [true, true, true, false] (tX12_tiesNow_4 D r mz_N (0 : Int32) (0 : Int32) h)
def bX12_ties_0 : List mz_E := [(0, .aload_n 0, 0, 0, 0, 0, 0), (1, .aload_n 0, 0, 0, 0, 0, 0)]
theorem oX12_ties_0 : bX12_ties_0.all (mz_ok RX12 cX12_ties 1) = true := by decide +kernel
abbrev IX12_ties : mz_I := (yX12_ties, cX12_ties, 1, (some .int), 0, 2, 0, 0)
theorem kX12_ties : mz_okm IX12_ties 2122 141 2120 0 = true := by decide +kernel
theorem vX12_ties : mz_okV IX12_ties 2120 2121 = true := by decide +kernel
def fX12_ties (D : mz_D) : Option (Int32 × mz_D) := (Option.bind (fX12_tiesNow D) fun q1 => (some (q1, (mz_wi D 0 200 2 (0 : Int32)))))
set_option maxHeartbeats 4000000 in
theorem mX12_ties (D : mz_D) (r : (Int32 × mz_D)) (h : fX12_ties D = some r) : mz_Met IX12_ties [.inr (.inr (some (0, 200)))] D (some (.inl r.1), r.2) := by
  refine mz_Met.of (by decide +kernel) (Nat.le_of_ble_eq_true rfl) ?_
  show mz_Go IX12_ties (some (.inl r.1), r.2) 0 0 (0, [some (.inr (.inr (some (0, 200))))], [], D)
  rw [fX12_ties] at h
  refine mz_Go.run (gs := []) (st' := (2, [some (.inr (.inr (some (0, 200))))], [.inr (.inr (some (0, 200))), .inr (.inr (some (0, 200)))], D)) bX12_ties_0 oX12_ties_0 rfl trivial ?_
  obtain ⟨q1, hq1, h⟩ := mz_bd_some h
  refine mz_Go.callV (I := IX12_ties) (J := IX12_tiesNow) (as := []) (ci := 12) (g := 0) (o := 200) (idx := 363) (pl := 2123) (rest := [.inr (.inr (some (0, 200)))]) (mX12_tiesNow D q1 hq1) kX12_tiesNow vX12_tiesNow (by decide +kernel) (by decide +kernel) (by decide +kernel) rfl rfl ⟨rfl, rfl⟩ rfl rfl rfl rfl ?_
  refine mz_Go.callV (I := IX12_ties) (J := IX12_gives) (as := [.inl q1]) (ci := 12) (g := 0) (o := 200) (idx := 79) (pl := 1844) (rest := []) (mX12_gives q1 D) kX12_gives vX12_gives (by decide +kernel) (by decide +kernel) (by decide +kernel) rfl rfl ⟨rfl, rfl⟩ rfl rfl rfl rfl ?_
  cases h
  exact mz_Go.reti (by decide +kernel) rfl ⟨Nat.le_refl _, Nat.le_refl _⟩ rfl
def bX12_leastLeft_0 : List mz_E := [(0, .iconst (-1), 0, 0, 0, -1, 0), (1, .istore_n 1, 0, 0, 0, 0, 0), (2, .iconst 0, 0, 0, 0, 0, 0), (3, .istore_n 2, 0, 0, 0, 0, 0)]
theorem oX12_leastLeft_0 : bX12_leastLeft_0.all (mz_ok RX12 cX12_leastLeft 3) = true := by decide +kernel
def bX12_leastLeft_4 : List mz_E := [(4, .iload_n 2, 0, 0, 0, 0, 0), (5, .aload_n 0, 0, 0, 0, 0, 0), (6, .getfield 7, 12, 0, 1576, 0, 0), (9, .iconst 0, 0, 0, 0, 0, 0), (10, .iaload, 0, 0, 0, 0, 0), (11, .if_icmp .ge 31, 0, 42, 0, 0, 0)]
theorem oX12_leastLeft_4 : bX12_leastLeft_4.all (mz_ok RX12 cX12_leastLeft 3) = true := by decide +kernel
def bX12_leastLeft_42 : List mz_E := [(42, .iload_n 1, 0, 0, 0, 0, 0)]
theorem oX12_leastLeft_42 : bX12_leastLeft_42.all (mz_ok RX12 cX12_leastLeft 3) = true := by decide +kernel
def bX12_leastLeft_14 : List mz_E := [(14, .iload_n 1, 0, 0, 0, 0, 0), (15, .iconst (-1), 0, 0, 0, -1, 0), (16, .if_icmp .eq 18, 0, 34, 0, 0, 0)]
theorem oX12_leastLeft_14 : bX12_leastLeft_14.all (mz_ok RX12 cX12_leastLeft 3) = true := by decide +kernel
def bX12_leastLeft_34 : List mz_E := [(34, .iload_n 2, 0, 0, 0, 0, 0), (35, .istore_n 1, 0, 0, 0, 0, 0), (36, .iinc 2 1, 0, 0, 0, 1, 0), (39, .goto (-35), 0, 4, 0, 0, 0)]
theorem oX12_leastLeft_34 : bX12_leastLeft_34.all (mz_ok RX12 cX12_leastLeft 3) = true := by decide +kernel
def bX12_leastLeft_19 : List mz_E := [(19, .aload_n 0, 0, 0, 0, 0, 0), (20, .getfield 50, 12, 25, 1601, 0, 0), (23, .iload_n 2, 0, 0, 0, 0, 0), (24, .iaload, 0, 0, 0, 0, 0), (25, .aload_n 0, 0, 0, 0, 0, 0), (26, .getfield 50, 12, 25, 1601, 0, 0), (29, .iload_n 1, 0, 0, 0, 0, 0), (30, .iaload, 0, 0, 0, 0, 0), (31, .if_icmp .ge 5, 0, 36, 0, 0, 0)]
theorem oX12_leastLeft_19 : bX12_leastLeft_19.all (mz_ok RX12 cX12_leastLeft 3) = true := by decide +kernel
def bX12_leastLeft_36 : List mz_E := [(36, .iinc 2 1, 0, 0, 0, 1, 0), (39, .goto (-35), 0, 4, 0, 0, 0)]
theorem oX12_leastLeft_36 : bX12_leastLeft_36.all (mz_ok RX12 cX12_leastLeft 3) = true := by decide +kernel
abbrev IX12_leastLeft : mz_I := (yX12_leastLeft, cX12_leastLeft, 3, (some .int), 0, 0, 0, 0)
theorem kX12_leastLeft : mz_okm IX12_leastLeft 2138 141 2137 0 = true := by decide +kernel
theorem vX12_leastLeft : mz_okV IX12_leastLeft 2137 106 = true := by decide +kernel
def fX12_leastLeft_34 (D : mz_D) (k4 : Int32 → Int32 → Option Int32) (x2 : Int32) : Option Int32 := (k4 x2 (x2 + (1 : Int32)))
set_option maxHeartbeats 4000000 in
theorem tX12_leastLeft_34 (D : mz_D) (r : Int32) (k4 : Int32 → Int32 → Option Int32) (hk4 : ∀ (x1 : Int32) (x2 : Int32), k4 x1 x2 = some r → mz_Go IX12_leastLeft (some (.inl r), D) 0 0 (4, [some (.inr (.inr (some (0, 200)))), some (.inl x1), some (.inl x2)], [], D)) : ∀ (x2 : Int32), fX12_leastLeft_34 D k4 x2 = some r → mz_Go IX12_leastLeft (some (.inl r), D) 0 0 (34, [some (.inr (.inr (some (0, 200)))), none, some (.inl x2)], [], D) := by
  intro x2 h
  rw [fX12_leastLeft_34] at h
  refine mz_Go.run (gs := []) (st' := (4, [some (.inr (.inr (some (0, 200)))), some (.inl x2), some (.inl (x2 + (1 : Int32)))], [], D)) bX12_leastLeft_34 oX12_leastLeft_34 rfl trivial ?_
  exact mz_Go.drop [true, true, true] (hk4 x2 (x2 + (1 : Int32)) h)
def fX12_leastLeft_4 (D : mz_D) : Nat → Int32 → Int32 → Option Int32
  | 0 => fun _ _ => none
  | n + 1 => fun x1 x2 => (if (D.1 0 201 ((0 : Int32)).toNatClampNeg) ≤ x2 then (some x1) else (if x1 = (-1 : Int32) then (fX12_leastLeft_34 D (fX12_leastLeft_4 D n) x2) else (mz_gd (mz_ix x2 6) (mz_gd (mz_ix x1 6) (if (D.1 0 210 (x1).toNatClampNeg) ≤ (D.1 0 210 (x2).toNatClampNeg) then ((fX12_leastLeft_4 D n) x1 (x2 + (1 : Int32))) else (fX12_leastLeft_34 D (fX12_leastLeft_4 D n) x2))))))
set_option maxHeartbeats 4000000 in
theorem tX12_leastLeft_4 (D : mz_D) (r : Int32) : ∀ (n : Nat) (x1 : Int32) (x2 : Int32), fX12_leastLeft_4 D n x1 x2 = some r → mz_Go IX12_leastLeft (some (.inl r), D) 0 0 (4, [some (.inr (.inr (some (0, 200)))), some (.inl x1), some (.inl x2)], [], D) := by
  intro n
  induction n with
  | zero => intro x1 x2 h; have h : (none : Option Int32) = some r := h; cases h
  | succ n ih =>
    intro x1 x2 h
    rw [fX12_leastLeft_4] at h
    refine mz_Go.run (gs := [mz_kz 0 0 200, mz_kz 0 0 201, mz_ix (0 : Int32) 3000]) (st' := (if (D.1 0 201 ((0 : Int32)).toNatClampNeg) ≤ x2 then (42, [some (.inr (.inr (some (0, 200)))), some (.inl x1), some (.inl x2)], [], D) else (14, [some (.inr (.inr (some (0, 200)))), some (.inl x1), some (.inl x2)], [], D))) bX12_leastLeft_4 oX12_leastLeft_4 rfl ⟨rfl, rfl, (by decide), trivial⟩ ?_
    refine mz_Go.ite (fun hc1 => ?_) (fun hc1 => ?_)
    · have h := mz_ifp hc1 h
      refine mz_Go.run (gs := []) (st' := (43, [some (.inr (.inr (some (0, 200)))), some (.inl x1), some (.inl x2)], [.inl x1], D)) bX12_leastLeft_42 oX12_leastLeft_42 rfl trivial ?_
      cases h
      exact mz_Go.reti (by decide +kernel) rfl ⟨Nat.le_refl _, Nat.le_refl _⟩ rfl
    · have h := mz_ifn hc1 h
      refine mz_Go.run (gs := []) (st' := (if x1 = (-1 : Int32) then (34, [some (.inr (.inr (some (0, 200)))), some (.inl x1), some (.inl x2)], [], D) else (19, [some (.inr (.inr (some (0, 200)))), some (.inl x1), some (.inl x2)], [], D))) bX12_leastLeft_14 oX12_leastLeft_14 rfl trivial ?_
      refine mz_Go.ite (fun hc2 => ?_) (fun hc2 => ?_)
      · have h := mz_ifp hc2 h
        exact mz_Go.drop [true, false, true] (tX12_leastLeft_34 D r (fX12_leastLeft_4 D n) ih x2 h)
      · have h := mz_ifn hc2 h
        obtain ⟨hb3, h⟩ := mz_gd_some h
        obtain ⟨hb4, h⟩ := mz_gd_some h
        refine mz_Go.run (gs := [mz_kz 0 0 200, mz_kz 0 0 210, mz_ix x2 6, mz_kz 0 0 200, mz_kz 0 0 210, mz_ix x1 6]) (st' := (if (D.1 0 210 (x1).toNatClampNeg) ≤ (D.1 0 210 (x2).toNatClampNeg) then (36, [some (.inr (.inr (some (0, 200)))), some (.inl x1), some (.inl x2)], [], D) else (34, [some (.inr (.inr (some (0, 200)))), some (.inl x1), some (.inl x2)], [], D))) bX12_leastLeft_19 oX12_leastLeft_19 rfl ⟨rfl, rfl, hb3, rfl, rfl, hb4, trivial⟩ ?_
        refine mz_Go.ite (fun hc5 => ?_) (fun hc5 => ?_)
        · have h := mz_ifp hc5 h
          refine mz_Go.run (gs := []) (st' := (4, [some (.inr (.inr (some (0, 200)))), some (.inl x1), some (.inl (x2 + (1 : Int32)))], [], D)) bX12_leastLeft_36 oX12_leastLeft_36 rfl trivial ?_
          exact mz_Go.drop [true, true, true] (ih x1 (x2 + (1 : Int32)) h)
        · have h := mz_ifn hc5 h
          exact mz_Go.drop [true, false, true] (tX12_leastLeft_34 D r (fX12_leastLeft_4 D n) ih x2 h)
def fX12_leastLeft (D : mz_D) : Option Int32 := (fX12_leastLeft_4 D mz_N (-1 : Int32) (0 : Int32))
set_option maxHeartbeats 4000000 in
theorem mX12_leastLeft (D : mz_D) (r : Int32) (h : fX12_leastLeft D = some r) : mz_Met IX12_leastLeft [.inr (.inr (some (0, 200)))] D (some (.inl r), D) := by
  refine mz_Met.of (by decide +kernel) (Nat.le_of_ble_eq_true rfl) ?_
  show mz_Go IX12_leastLeft (some (.inl r), D) 0 0 (0, [some (.inr (.inr (some (0, 200)))), none, none], [], D)
  rw [fX12_leastLeft] at h
  refine mz_Go.run (gs := []) (st' := (4, [some (.inr (.inr (some (0, 200)))), some (.inl (-1 : Int32)), some (.inl (0 : Int32))], [], D)) bX12_leastLeft_0 oX12_leastLeft_0 rfl trivial ?_
  exact mz_Go.drop [true, true, true] (tX12_leastLeft_4 D r mz_N (-1 : Int32) (0 : Int32) h)
def bX12_mostLeft_0 : List mz_E := [(0, .iconst (-1), 0, 0, 0, -1, 0), (1, .istore_n 1, 0, 0, 0, 0, 0), (2, .iconst 0, 0, 0, 0, 0, 0), (3, .istore_n 2, 0, 0, 0, 0, 0)]
theorem oX12_mostLeft_0 : bX12_mostLeft_0.all (mz_ok RX12 cX12_mostLeft 3) = true := by decide +kernel
def bX12_mostLeft_4 : List mz_E := [(4, .iload_n 2, 0, 0, 0, 0, 0), (5, .aload_n 0, 0, 0, 0, 0, 0), (6, .getfield 7, 12, 0, 1576, 0, 0), (9, .iconst 0, 0, 0, 0, 0, 0), (10, .iaload, 0, 0, 0, 0, 0), (11, .if_icmp .ge 31, 0, 42, 0, 0, 0)]
theorem oX12_mostLeft_4 : bX12_mostLeft_4.all (mz_ok RX12 cX12_mostLeft 3) = true := by decide +kernel
def bX12_mostLeft_42 : List mz_E := [(42, .iload_n 1, 0, 0, 0, 0, 0)]
theorem oX12_mostLeft_42 : bX12_mostLeft_42.all (mz_ok RX12 cX12_mostLeft 3) = true := by decide +kernel
def bX12_mostLeft_14 : List mz_E := [(14, .iload_n 1, 0, 0, 0, 0, 0), (15, .iconst (-1), 0, 0, 0, -1, 0), (16, .if_icmp .eq 18, 0, 34, 0, 0, 0)]
theorem oX12_mostLeft_14 : bX12_mostLeft_14.all (mz_ok RX12 cX12_mostLeft 3) = true := by decide +kernel
def bX12_mostLeft_34 : List mz_E := [(34, .iload_n 2, 0, 0, 0, 0, 0), (35, .istore_n 1, 0, 0, 0, 0, 0), (36, .iinc 2 1, 0, 0, 0, 1, 0), (39, .goto (-35), 0, 4, 0, 0, 0)]
theorem oX12_mostLeft_34 : bX12_mostLeft_34.all (mz_ok RX12 cX12_mostLeft 3) = true := by decide +kernel
def bX12_mostLeft_19 : List mz_E := [(19, .aload_n 0, 0, 0, 0, 0, 0), (20, .getfield 50, 12, 25, 1601, 0, 0), (23, .iload_n 2, 0, 0, 0, 0, 0), (24, .iaload, 0, 0, 0, 0, 0), (25, .aload_n 0, 0, 0, 0, 0, 0), (26, .getfield 50, 12, 25, 1601, 0, 0), (29, .iload_n 1, 0, 0, 0, 0, 0), (30, .iaload, 0, 0, 0, 0, 0), (31, .if_icmp .le 5, 0, 36, 0, 0, 0)]
theorem oX12_mostLeft_19 : bX12_mostLeft_19.all (mz_ok RX12 cX12_mostLeft 3) = true := by decide +kernel
def bX12_mostLeft_36 : List mz_E := [(36, .iinc 2 1, 0, 0, 0, 1, 0), (39, .goto (-35), 0, 4, 0, 0, 0)]
theorem oX12_mostLeft_36 : bX12_mostLeft_36.all (mz_ok RX12 cX12_mostLeft 3) = true := by decide +kernel
abbrev IX12_mostLeft : mz_I := (yX12_mostLeft, cX12_mostLeft, 3, (some .int), 0, 0, 0, 0)
theorem kX12_mostLeft : mz_okm IX12_mostLeft 2142 141 2141 0 = true := by decide +kernel
theorem vX12_mostLeft : mz_okV IX12_mostLeft 2141 107 = true := by decide +kernel
def fX12_mostLeft_34 (D : mz_D) (k4 : Int32 → Int32 → Option Int32) (x2 : Int32) : Option Int32 := (k4 x2 (x2 + (1 : Int32)))
set_option maxHeartbeats 4000000 in
theorem tX12_mostLeft_34 (D : mz_D) (r : Int32) (k4 : Int32 → Int32 → Option Int32) (hk4 : ∀ (x1 : Int32) (x2 : Int32), k4 x1 x2 = some r → mz_Go IX12_mostLeft (some (.inl r), D) 0 0 (4, [some (.inr (.inr (some (0, 200)))), some (.inl x1), some (.inl x2)], [], D)) : ∀ (x2 : Int32), fX12_mostLeft_34 D k4 x2 = some r → mz_Go IX12_mostLeft (some (.inl r), D) 0 0 (34, [some (.inr (.inr (some (0, 200)))), none, some (.inl x2)], [], D) := by
  intro x2 h
  rw [fX12_mostLeft_34] at h
  refine mz_Go.run (gs := []) (st' := (4, [some (.inr (.inr (some (0, 200)))), some (.inl x2), some (.inl (x2 + (1 : Int32)))], [], D)) bX12_mostLeft_34 oX12_mostLeft_34 rfl trivial ?_
  exact mz_Go.drop [true, true, true] (hk4 x2 (x2 + (1 : Int32)) h)
def fX12_mostLeft_4 (D : mz_D) : Nat → Int32 → Int32 → Option Int32
  | 0 => fun _ _ => none
  | n + 1 => fun x1 x2 => (if (D.1 0 201 ((0 : Int32)).toNatClampNeg) ≤ x2 then (some x1) else (if x1 = (-1 : Int32) then (fX12_mostLeft_34 D (fX12_mostLeft_4 D n) x2) else (mz_gd (mz_ix x2 6) (mz_gd (mz_ix x1 6) (if (D.1 0 210 (x2).toNatClampNeg) ≤ (D.1 0 210 (x1).toNatClampNeg) then ((fX12_mostLeft_4 D n) x1 (x2 + (1 : Int32))) else (fX12_mostLeft_34 D (fX12_mostLeft_4 D n) x2))))))
set_option maxHeartbeats 4000000 in
theorem tX12_mostLeft_4 (D : mz_D) (r : Int32) : ∀ (n : Nat) (x1 : Int32) (x2 : Int32), fX12_mostLeft_4 D n x1 x2 = some r → mz_Go IX12_mostLeft (some (.inl r), D) 0 0 (4, [some (.inr (.inr (some (0, 200)))), some (.inl x1), some (.inl x2)], [], D) := by
  intro n
  induction n with
  | zero => intro x1 x2 h; have h : (none : Option Int32) = some r := h; cases h
  | succ n ih =>
    intro x1 x2 h
    rw [fX12_mostLeft_4] at h
    refine mz_Go.run (gs := [mz_kz 0 0 200, mz_kz 0 0 201, mz_ix (0 : Int32) 3000]) (st' := (if (D.1 0 201 ((0 : Int32)).toNatClampNeg) ≤ x2 then (42, [some (.inr (.inr (some (0, 200)))), some (.inl x1), some (.inl x2)], [], D) else (14, [some (.inr (.inr (some (0, 200)))), some (.inl x1), some (.inl x2)], [], D))) bX12_mostLeft_4 oX12_mostLeft_4 rfl ⟨rfl, rfl, (by decide), trivial⟩ ?_
    refine mz_Go.ite (fun hc1 => ?_) (fun hc1 => ?_)
    · have h := mz_ifp hc1 h
      refine mz_Go.run (gs := []) (st' := (43, [some (.inr (.inr (some (0, 200)))), some (.inl x1), some (.inl x2)], [.inl x1], D)) bX12_mostLeft_42 oX12_mostLeft_42 rfl trivial ?_
      cases h
      exact mz_Go.reti (by decide +kernel) rfl ⟨Nat.le_refl _, Nat.le_refl _⟩ rfl
    · have h := mz_ifn hc1 h
      refine mz_Go.run (gs := []) (st' := (if x1 = (-1 : Int32) then (34, [some (.inr (.inr (some (0, 200)))), some (.inl x1), some (.inl x2)], [], D) else (19, [some (.inr (.inr (some (0, 200)))), some (.inl x1), some (.inl x2)], [], D))) bX12_mostLeft_14 oX12_mostLeft_14 rfl trivial ?_
      refine mz_Go.ite (fun hc2 => ?_) (fun hc2 => ?_)
      · have h := mz_ifp hc2 h
        exact mz_Go.drop [true, false, true] (tX12_mostLeft_34 D r (fX12_mostLeft_4 D n) ih x2 h)
      · have h := mz_ifn hc2 h
        obtain ⟨hb3, h⟩ := mz_gd_some h
        obtain ⟨hb4, h⟩ := mz_gd_some h
        refine mz_Go.run (gs := [mz_kz 0 0 200, mz_kz 0 0 210, mz_ix x2 6, mz_kz 0 0 200, mz_kz 0 0 210, mz_ix x1 6]) (st' := (if (D.1 0 210 (x2).toNatClampNeg) ≤ (D.1 0 210 (x1).toNatClampNeg) then (36, [some (.inr (.inr (some (0, 200)))), some (.inl x1), some (.inl x2)], [], D) else (34, [some (.inr (.inr (some (0, 200)))), some (.inl x1), some (.inl x2)], [], D))) bX12_mostLeft_19 oX12_mostLeft_19 rfl ⟨rfl, rfl, hb3, rfl, rfl, hb4, trivial⟩ ?_
        refine mz_Go.ite (fun hc5 => ?_) (fun hc5 => ?_)
        · have h := mz_ifp hc5 h
          refine mz_Go.run (gs := []) (st' := (4, [some (.inr (.inr (some (0, 200)))), some (.inl x1), some (.inl (x2 + (1 : Int32)))], [], D)) bX12_mostLeft_36 oX12_mostLeft_36 rfl trivial ?_
          exact mz_Go.drop [true, true, true] (ih x1 (x2 + (1 : Int32)) h)
        · have h := mz_ifn hc5 h
          exact mz_Go.drop [true, false, true] (tX12_mostLeft_34 D r (fX12_mostLeft_4 D n) ih x2 h)
def fX12_mostLeft (D : mz_D) : Option Int32 := (fX12_mostLeft_4 D mz_N (-1 : Int32) (0 : Int32))
set_option maxHeartbeats 4000000 in
theorem mX12_mostLeft (D : mz_D) (r : Int32) (h : fX12_mostLeft D = some r) : mz_Met IX12_mostLeft [.inr (.inr (some (0, 200)))] D (some (.inl r), D) := by
  refine mz_Met.of (by decide +kernel) (Nat.le_of_ble_eq_true rfl) ?_
  show mz_Go IX12_mostLeft (some (.inl r), D) 0 0 (0, [some (.inr (.inr (some (0, 200)))), none, none], [], D)
  rw [fX12_mostLeft] at h
  refine mz_Go.run (gs := []) (st' := (4, [some (.inr (.inr (some (0, 200)))), some (.inl (-1 : Int32)), some (.inl (0 : Int32))], [], D)) bX12_mostLeft_0 oX12_mostLeft_0 rfl trivial ?_
  exact mz_Go.drop [true, true, true] (tX12_mostLeft_4 D r mz_N (-1 : Int32) (0 : Int32) h)
def bX12_laysBalances_0 : List mz_E := [(0, .iconst 0, 0, 0, 0, 0, 0), (1, .istore_n 1, 0, 0, 0, 0, 0)]
theorem oX12_laysBalances_0 : bX12_laysBalances_0.all (mz_ok RX12 cX12_laysBalances 2) = true := by decide +kernel
def bX12_laysBalances_2 : List mz_E := [(2, .iload_n 1, 0, 0, 0, 0, 0), (3, .aload_n 0, 0, 0, 0, 0, 0), (4, .getfield 7, 12, 0, 1576, 0, 0), (7, .iconst 0, 0, 0, 0, 0, 0), (8, .iaload, 0, 0, 0, 0, 0), (9, .if_icmp .ge 20, 0, 29, 0, 0, 0)]
theorem oX12_laysBalances_2 : bX12_laysBalances_2.all (mz_ok RX12 cX12_laysBalances 2) = true := by decide +kernel
def bX12_laysBalances_12 : List mz_E := [(12, .aload_n 0, 0, 0, 0, 0, 0), (13, .getfield 50, 12, 25, 1601, 0, 0), (16, .iload_n 1, 0, 0, 0, 0, 0), (17, .aload_n 0, 0, 0, 0, 0, 0), (18, .iload_n 1, 0, 0, 0, 0, 0)]
theorem oX12_laysBalances_12 : bX12_laysBalances_12.all (mz_ok RX12 cX12_laysBalances 2) = true := by decide +kernel
def bX12_laysBalances_22 : List mz_E := [(22, .iastore, 0, 0, 0, 0, 0), (23, .iinc 1 1, 0, 0, 0, 1, 0), (26, .goto (-24), 0, 2, 0, 0, 0)]
theorem oX12_laysBalances_22 : bX12_laysBalances_22.all (mz_ok RX12 cX12_laysBalances 2) = true := by decide +kernel
abbrev IX12_laysBalances : mz_I := (yX12_laysBalances, cX12_laysBalances, 2, none, 0, 2, 0, 0)
theorem kX12_laysBalances : mz_okm IX12_laysBalances 2134 141 2133 0 = true := by decide +kernel
theorem vX12_laysBalances : mz_okV IX12_laysBalances 2133 105 = true := by decide +kernel
def fX12_laysBalances_2 : Nat → Int32 → mz_D → Option mz_D
  | 0 => fun _ _ => none
  | n + 1 => fun x1 D => (if (D.1 0 201 ((0 : Int32)).toNatClampNeg) ≤ x1 then (some D) else (Option.bind (fX12_balanceOf x1 D) fun q2 => (mz_gd (mz_ix x1 6) ((fX12_laysBalances_2 n) (x1 + (1 : Int32)) (mz_wi D 0 210 (x1).toNatClampNeg q2)))))
set_option maxHeartbeats 4000000 in
theorem tX12_laysBalances_2 (r : mz_D) : ∀ (n : Nat) (x1 : Int32) (D : mz_D), fX12_laysBalances_2 n x1 D = some r → mz_Go IX12_laysBalances (none, r) 0 0 (2, [some (.inr (.inr (some (0, 200)))), some (.inl x1)], [], D) := by
  intro n
  induction n with
  | zero => intro x1 D h; have h : (none : Option mz_D) = some r := h; cases h
  | succ n ih =>
    intro x1 D h
    rw [fX12_laysBalances_2] at h
    refine mz_Go.run (gs := [mz_kz 0 0 200, mz_kz 0 0 201, mz_ix (0 : Int32) 3000]) (st' := (if (D.1 0 201 ((0 : Int32)).toNatClampNeg) ≤ x1 then (29, [some (.inr (.inr (some (0, 200)))), some (.inl x1)], [], D) else (12, [some (.inr (.inr (some (0, 200)))), some (.inl x1)], [], D))) bX12_laysBalances_2 oX12_laysBalances_2 rfl ⟨rfl, rfl, (by decide), trivial⟩ ?_
    refine mz_Go.ite (fun hc1 => ?_) (fun hc1 => ?_)
    · have h := mz_ifp hc1 h
      cases h
      exact mz_Go.retv (by decide +kernel) rfl ⟨Nat.le_refl _, Nat.le_refl _⟩ rfl
    · have h := mz_ifn hc1 h
      refine mz_Go.run (gs := [mz_kz 0 0 200]) (st' := (19, [some (.inr (.inr (some (0, 200)))), some (.inl x1)], [.inl x1, .inr (.inr (some (0, 200))), .inl x1, .inr (.inr (some (0, 210)))], D)) bX12_laysBalances_12 oX12_laysBalances_12 rfl ⟨rfl, trivial⟩ ?_
      obtain ⟨q2, hq2, h⟩ := mz_bd_some h
      refine mz_Go.callV (I := IX12_laysBalances) (J := IX12_balanceOf) (as := [.inl x1]) (ci := 12) (g := 0) (o := 200) (idx := 319) (pl := 2024) (rest := [.inl x1, .inr (.inr (some (0, 210)))]) (mX12_balanceOf x1 D q2 hq2) kX12_balanceOf vX12_balanceOf (by decide +kernel) (by decide +kernel) (by decide +kernel) rfl rfl ⟨rfl, rfl⟩ rfl rfl rfl rfl ?_
      obtain ⟨hb3, h⟩ := mz_gd_some h
      refine mz_Go.run (gs := [mz_kz 0 0 210, mz_ix x1 6]) (st' := (2, [some (.inr (.inr (some (0, 200)))), some (.inl (x1 + (1 : Int32)))], [], (mz_wi D 0 210 (x1).toNatClampNeg q2))) bX12_laysBalances_22 oX12_laysBalances_22 rfl ⟨rfl, hb3, trivial⟩ ?_
      exact mz_Go.drop [true, true] (ih (x1 + (1 : Int32)) (mz_wi D 0 210 (x1).toNatClampNeg q2) h)
def fX12_laysBalances (D : mz_D) : Option mz_D := (fX12_laysBalances_2 mz_N (0 : Int32) D)
set_option maxHeartbeats 4000000 in
theorem mX12_laysBalances (D : mz_D) (r : mz_D) (h : fX12_laysBalances D = some r) : mz_Met IX12_laysBalances [.inr (.inr (some (0, 200)))] D (none, r) := by
  refine mz_Met.of (by decide +kernel) (Nat.le_of_ble_eq_true rfl) ?_
  show mz_Go IX12_laysBalances (none, r) 0 0 (0, [some (.inr (.inr (some (0, 200)))), none], [], D)
  rw [fX12_laysBalances] at h
  refine mz_Go.run (gs := []) (st' := (2, [some (.inr (.inr (some (0, 200)))), some (.inl (0 : Int32))], [], D)) bX12_laysBalances_0 oX12_laysBalances_0 rfl trivial ?_
  exact mz_Go.drop [true, true] (tX12_laysBalances_2 r mz_N (0 : Int32) D h)
def bX12_extreme_0 : List mz_E := [(0, .iload_n 1, 0, 0, 0, 0, 0), (1, .ifCond .lt 8, 0, 9, 0, 0, 0)]
theorem oX12_extreme_0 : bX12_extreme_0.all (mz_ok RX12 cX12_extreme 2) = true := by decide +kernel
def bX12_extreme_9 : List mz_E := [(9, .aload_n 0, 0, 0, 0, 0, 0), (10, .iconst 1, 0, 0, 0, 1, 0)]
theorem oX12_extreme_9 : bX12_extreme_9.all (mz_ok RX12 cX12_extreme 2) = true := by decide +kernel
def bX12_extreme_4 : List mz_E := [(4, .iload_n 1, 0, 0, 0, 0, 0), (5, .iconst 1, 0, 0, 0, 1, 0), (6, .if_icmp .le 9, 0, 15, 0, 0, 0)]
theorem oX12_extreme_4 : bX12_extreme_4.all (mz_ok RX12 cX12_extreme 2) = true := by decide +kernel
def bX12_extreme_15 : List mz_E := [(15, .aload_n 0, 0, 0, 0, 0, 0)]
theorem oX12_extreme_15 : bX12_extreme_15.all (mz_ok RX12 cX12_extreme 2) = true := by decide +kernel
def bX12_extreme_19 : List mz_E := [(19, .aload_n 0, 0, 0, 0, 0, 0), (20, .iload_n 1, 0, 0, 0, 0, 0), (21, .ifCond .ne 10, 0, 31, 0, 0, 0)]
theorem oX12_extreme_19 : bX12_extreme_19.all (mz_ok RX12 cX12_extreme 2) = true := by decide +kernel
def bX12_extreme_24 : List mz_E := [(24, .aload_n 0, 0, 0, 0, 0, 0)]
theorem oX12_extreme_24 : bX12_extreme_24.all (mz_ok RX12 cX12_extreme 2) = true := by decide +kernel
def bX12_extreme_28 : List mz_E := [(28, .goto 7, 0, 35, 0, 0, 0)]
theorem oX12_extreme_28 : bX12_extreme_28.all (mz_ok RX12 cX12_extreme 2) = true := by decide +kernel
def bX12_extreme_31 : List mz_E := [(31, .aload_n 0, 0, 0, 0, 0, 0)]
theorem oX12_extreme_31 : bX12_extreme_31.all (mz_ok RX12 cX12_extreme 2) = true := by decide +kernel
abbrev IX12_extreme : mz_I := (yX12_extreme, cX12_extreme, 2, (some .int), 0, 3, 0, 0)
theorem kX12_extreme : mz_okm IX12_extreme 2130 141 2128 1 = true := by decide +kernel
theorem vX12_extreme : mz_okV IX12_extreme 2128 2129 = true := by decide +kernel
def fX12_extreme_35 (s0 : Int32) (D : mz_D) : Option (Int32 × mz_D) := (Option.bind (fX12_orNone s0 D) fun q1 => (some (q1.1, q1.2)))
set_option maxHeartbeats 4000000 in
theorem tX12_extreme_35 (r : (Int32 × mz_D)) : ∀ (s0 : Int32) (D : mz_D), fX12_extreme_35 s0 D = some r → mz_Go IX12_extreme (some (.inl r.1), r.2) 0 0 (35, [none, none], [.inl s0, .inr (.inr (some (0, 200)))], D) := by
  intro s0 D h
  rw [fX12_extreme_35] at h
  obtain ⟨q1, hq1, h⟩ := mz_bd_some h
  refine mz_Go.callV (I := IX12_extreme) (J := IX12_orNone) (as := [.inl s0]) (ci := 12) (g := 0) (o := 200) (idx := 291) (pl := 1906) (rest := []) (mX12_orNone s0 D q1 hq1) kX12_orNone vX12_orNone (by decide +kernel) (by decide +kernel) (by decide +kernel) rfl rfl ⟨rfl, rfl⟩ rfl rfl rfl rfl ?_
  cases h
  exact mz_Go.reti (by decide +kernel) rfl ⟨Nat.le_refl _, Nat.le_refl _⟩ rfl
def fX12_extreme (x1 : Int32) (D : mz_D) : Option (Int32 × mz_D) := (if x1 < 0 then (some ((-1 : Int32), (mz_wi D 0 200 2 (1 : Int32)))) else (if x1 ≤ (1 : Int32) then (Option.bind (fX12_laysBalances D) fun q3 => (if x1 = 0 then (Option.bind (fX12_leastLeft q3) fun q5 => (fX12_extreme_35 q5 q3)) else (Option.bind (fX12_mostLeft q3) fun q6 => (fX12_extreme_35 q6 q3)))) else (some ((-1 : Int32), (mz_wi D 0 200 2 (1 : Int32))))))
set_option maxHeartbeats 4000000 in
theorem mX12_extreme (x1 : Int32) (D : mz_D) (r : (Int32 × mz_D)) (h : fX12_extreme x1 D = some r) : mz_Met IX12_extreme [.inr (.inr (some (0, 200))), .inl x1] D (some (.inl r.1), r.2) := by
  refine mz_Met.of (by decide +kernel) (Nat.le_of_ble_eq_true rfl) ?_
  show mz_Go IX12_extreme (some (.inl r.1), r.2) 0 0 (0, [some (.inr (.inr (some (0, 200)))), some (.inl x1)], [], D)
  rw [fX12_extreme] at h
  refine mz_Go.run (gs := []) (st' := (if x1 < 0 then (9, [some (.inr (.inr (some (0, 200)))), some (.inl x1)], [], D) else (4, [some (.inr (.inr (some (0, 200)))), some (.inl x1)], [], D))) bX12_extreme_0 oX12_extreme_0 rfl trivial ?_
  refine mz_Go.ite (fun hc1 => ?_) (fun hc1 => ?_)
  · have h := mz_ifp hc1 h
    refine mz_Go.run (gs := []) (st' := (11, [some (.inr (.inr (some (0, 200)))), some (.inl x1)], [.inl (1 : Int32), .inr (.inr (some (0, 200)))], D)) bX12_extreme_9 oX12_extreme_9 rfl trivial ?_
    refine mz_Go.callV (I := IX12_extreme) (J := IX12_refuse) (as := [.inl (1 : Int32)]) (ci := 12) (g := 0) (o := 200) (idx := 75) (pl := 1761) (rest := []) (mX12_refuse (1 : Int32) D) kX12_refuse vX12_refuse (by decide +kernel) (by decide +kernel) (by decide +kernel) rfl rfl ⟨rfl, rfl⟩ rfl rfl rfl rfl ?_
    cases h
    exact mz_Go.reti (by decide +kernel) rfl ⟨Nat.le_refl _, Nat.le_refl _⟩ rfl
  · have h := mz_ifn hc1 h
    refine mz_Go.run (gs := []) (st' := (if x1 ≤ (1 : Int32) then (15, [some (.inr (.inr (some (0, 200)))), some (.inl x1)], [], D) else (9, [some (.inr (.inr (some (0, 200)))), some (.inl x1)], [], D))) bX12_extreme_4 oX12_extreme_4 rfl trivial ?_
    refine mz_Go.ite (fun hc2 => ?_) (fun hc2 => ?_)
    · have h := mz_ifp hc2 h
      refine mz_Go.run (gs := []) (st' := (16, [some (.inr (.inr (some (0, 200)))), some (.inl x1)], [.inr (.inr (some (0, 200)))], D)) bX12_extreme_15 oX12_extreme_15 rfl trivial ?_
      obtain ⟨q3, hq3, h⟩ := mz_bd_some h
      refine mz_Go.callV (I := IX12_extreme) (J := IX12_laysBalances) (as := []) (ci := 12) (g := 0) (o := 200) (idx := 366) (pl := 2131) (rest := []) (mX12_laysBalances D q3 hq3) kX12_laysBalances vX12_laysBalances (by decide +kernel) (by decide +kernel) (by decide +kernel) rfl rfl ⟨rfl, rfl⟩ rfl rfl rfl rfl ?_
      refine mz_Go.run (gs := []) (st' := (if x1 = 0 then (24, [some (.inr (.inr (some (0, 200)))), some (.inl x1)], [.inr (.inr (some (0, 200)))], q3) else (31, [some (.inr (.inr (some (0, 200)))), some (.inl x1)], [.inr (.inr (some (0, 200)))], q3))) bX12_extreme_19 oX12_extreme_19 rfl trivial ?_
      refine mz_Go.ite (fun hc4 => ?_) (fun hc4 => ?_)
      · have h := mz_ifp hc4 h
        refine mz_Go.run (gs := []) (st' := (25, [some (.inr (.inr (some (0, 200)))), some (.inl x1)], [.inr (.inr (some (0, 200))), .inr (.inr (some (0, 200)))], q3)) bX12_extreme_24 oX12_extreme_24 rfl trivial ?_
        obtain ⟨q5, hq5, h⟩ := mz_bd_some h
        refine mz_Go.callV (I := IX12_extreme) (J := IX12_leastLeft) (as := []) (ci := 12) (g := 0) (o := 200) (idx := 369) (pl := 2135) (rest := [.inr (.inr (some (0, 200)))]) (mX12_leastLeft q3 q5 hq5) kX12_leastLeft vX12_leastLeft (by decide +kernel) (by decide +kernel) (by decide +kernel) rfl rfl ⟨rfl, rfl⟩ rfl rfl rfl rfl ?_
        refine mz_Go.run (gs := []) (st' := (35, [some (.inr (.inr (some (0, 200)))), some (.inl x1)], [.inl q5, .inr (.inr (some (0, 200)))], q3)) bX12_extreme_28 oX12_extreme_28 rfl trivial ?_
        exact mz_Go.drop [false, false] (tX12_extreme_35 r q5 q3 h)
      · have h := mz_ifn hc4 h
        refine mz_Go.run (gs := []) (st' := (32, [some (.inr (.inr (some (0, 200)))), some (.inl x1)], [.inr (.inr (some (0, 200))), .inr (.inr (some (0, 200)))], q3)) bX12_extreme_31 oX12_extreme_31 rfl trivial ?_
        obtain ⟨q6, hq6, h⟩ := mz_bd_some h
        refine mz_Go.callV (I := IX12_extreme) (J := IX12_mostLeft) (as := []) (ci := 12) (g := 0) (o := 200) (idx := 372) (pl := 2139) (rest := [.inr (.inr (some (0, 200)))]) (mX12_mostLeft q3 q6 hq6) kX12_mostLeft vX12_mostLeft (by decide +kernel) (by decide +kernel) (by decide +kernel) rfl rfl ⟨rfl, rfl⟩ rfl rfl rfl rfl ?_
        exact mz_Go.drop [false, false] (tX12_extreme_35 r q6 q3 h)
    · have h := mz_ifn hc2 h
      refine mz_Go.run (gs := []) (st' := (11, [some (.inr (.inr (some (0, 200)))), some (.inl x1)], [.inl (1 : Int32), .inr (.inr (some (0, 200)))], D)) bX12_extreme_9 oX12_extreme_9 rfl trivial ?_
      refine mz_Go.callV (I := IX12_extreme) (J := IX12_refuse) (as := [.inl (1 : Int32)]) (ci := 12) (g := 0) (o := 200) (idx := 75) (pl := 1761) (rest := []) (mX12_refuse (1 : Int32) D) kX12_refuse vX12_refuse (by decide +kernel) (by decide +kernel) (by decide +kernel) rfl rfl ⟨rfl, rfl⟩ rfl rfl rfl rfl ?_
      cases h
      exact mz_Go.reti (by decide +kernel) rfl ⟨Nat.le_refl _, Nat.le_refl _⟩ rfl
def bX12_simplify_0 : List mz_E := [(0, .aload_n 0, 0, 0, 0, 0, 0)]
theorem oX12_simplify_0 : bX12_simplify_0.all (mz_ok RX12 cX12_simplify 4) = true := by decide +kernel
def bX12_simplify_4 : List mz_E := [(4, .iconst 0, 0, 0, 0, 0, 0), (5, .istore_n 1, 0, 0, 0, 0, 0)]
theorem oX12_simplify_4 : bX12_simplify_4.all (mz_ok RX12 cX12_simplify 4) = true := by decide +kernel
def bX12_simplify_6 : List mz_E := [(6, .iload_n 1, 0, 0, 0, 0, 0), (7, .bipush 36, 0, 0, 0, 36, 0), (9, .if_icmp .ge 16, 0, 25, 0, 0, 0)]
theorem oX12_simplify_6 : bX12_simplify_6.all (mz_ok RX12 cX12_simplify 4) = true := by decide +kernel
def bX12_simplify_25 : List mz_E := [(25, .aload_n 0, 0, 0, 0, 0, 0), (26, .getfield 7, 12, 0, 1576, 0, 0), (29, .iconst 0, 0, 0, 0, 0, 0), (30, .iaload, 0, 0, 0, 0, 0), (31, .ifCond .le 80, 0, 111, 0, 0, 0)]
theorem oX12_simplify_25 : bX12_simplify_25.all (mz_ok RX12 cX12_simplify 4) = true := by decide +kernel
def bX12_simplify_111 : List mz_E := [(111, .iconst 0, 0, 0, 0, 0, 0), (112, .istore_n 1, 0, 0, 0, 0, 0)]
theorem oX12_simplify_111 : bX12_simplify_111.all (mz_ok RX12 cX12_simplify 4) = true := by decide +kernel
def bX12_simplify_113 : List mz_E := [(113, .iload_n 1, 0, 0, 0, 0, 0), (114, .bipush 36, 0, 0, 0, 36, 0), (116, .if_icmp .ge 28, 0, 144, 0, 0, 0)]
theorem oX12_simplify_113 : bX12_simplify_113.all (mz_ok RX12 cX12_simplify 4) = true := by decide +kernel
def bX12_simplify_144 : List mz_E := [(144, .iconst 0, 0, 0, 0, 0, 0), (145, .istore_n 1, 0, 0, 0, 0, 0)]
theorem oX12_simplify_144 : bX12_simplify_144.all (mz_ok RX12 cX12_simplify 4) = true := by decide +kernel
def bX12_simplify_146 : List mz_E := [(146, .iload_n 1, 0, 0, 0, 0, 0), (147, .bipush 36, 0, 0, 0, 36, 0), (149, .if_icmp .ge 24, 0, 173, 0, 0, 0)]
theorem oX12_simplify_146 : bX12_simplify_146.all (mz_ok RX12 cX12_simplify 4) = true := by decide +kernel
def bX12_simplify_173 : List mz_E := [(173, .aload_n 0, 0, 0, 0, 0, 0), (174, .aload_n 0, 0, 0, 0, 0, 0)]
theorem oX12_simplify_173 : bX12_simplify_173.all (mz_ok RX12 cX12_simplify 4) = true := by decide +kernel
def bX12_simplify_152 : List mz_E := [(152, .aload_n 0, 0, 0, 0, 0, 0), (153, .getfield 7, 12, 0, 1576, 0, 0), (156, .bipush 92, 0, 0, 0, 92, 0), (158, .iload_n 1, 0, 0, 0, 0, 0), (159, .iadd, 0, 0, 0, 0, 0), (160, .aload_n 0, 0, 0, 0, 0, 0), (161, .getfield 53, 12, 26, 1602, 0, 0), (164, .iload_n 1, 0, 0, 0, 0, 0), (165, .iaload, 0, 0, 0, 0, 0), (166, .iastore, 0, 0, 0, 0, 0), (167, .iinc 1 1, 0, 0, 0, 1, 0), (170, .goto (-24), 0, 146, 0, 0, 0)]
theorem oX12_simplify_152 : bX12_simplify_152.all (mz_ok RX12 cX12_simplify 4) = true := by decide +kernel
def bX12_simplify_119 : List mz_E := [(119, .aload_n 0, 0, 0, 0, 0, 0), (120, .getfield 53, 12, 26, 1602, 0, 0), (123, .iload_n 1, 0, 0, 0, 0, 0), (124, .iaload, 0, 0, 0, 0, 0), (125, .ldc_w 315, 0, 0, 2011, 999999, 0), (128, .if_icmp .le 10, 0, 138, 0, 0, 0)]
theorem oX12_simplify_119 : bX12_simplify_119.all (mz_ok RX12 cX12_simplify 4) = true := by decide +kernel
def bX12_simplify_138 : List mz_E := [(138, .iinc 1 1, 0, 0, 0, 1, 0), (141, .goto (-28), 0, 113, 0, 0, 0)]
theorem oX12_simplify_138 : bX12_simplify_138.all (mz_ok RX12 cX12_simplify 4) = true := by decide +kernel
def bX12_simplify_131 : List mz_E := [(131, .aload_n 0, 0, 0, 0, 0, 0), (132, .bipush 7, 0, 0, 0, 7, 0)]
theorem oX12_simplify_131 : bX12_simplify_131.all (mz_ok RX12 cX12_simplify 4) = true := by decide +kernel
def bX12_simplify_34 : List mz_E := [(34, .aload_n 0, 0, 0, 0, 0, 0), (35, .getfield 50, 12, 25, 1601, 0, 0), (38, .aload_n 0, 0, 0, 0, 0, 0)]
theorem oX12_simplify_34 : bX12_simplify_34.all (mz_ok RX12 cX12_simplify 4) = true := by decide +kernel
def bX12_simplify_42 : List mz_E := [(42, .iaload, 0, 0, 0, 0, 0), (43, .ifCond .ge 68, 0, 111, 0, 0, 0)]
theorem oX12_simplify_42 : bX12_simplify_42.all (mz_ok RX12 cX12_simplify 4) = true := by decide +kernel
def bX12_simplify_46 : List mz_E := [(46, .aload_n 0, 0, 0, 0, 0, 0)]
theorem oX12_simplify_46 : bX12_simplify_46.all (mz_ok RX12 cX12_simplify 4) = true := by decide +kernel
def bX12_simplify_50 : List mz_E := [(50, .istore_n 1, 0, 0, 0, 0, 0), (51, .aload_n 0, 0, 0, 0, 0, 0)]
theorem oX12_simplify_50 : bX12_simplify_50.all (mz_ok RX12 cX12_simplify 4) = true := by decide +kernel
def bX12_simplify_55 : List mz_E := [(55, .istore_n 2, 0, 0, 0, 0, 0), (56, .aload_n 0, 0, 0, 0, 0, 0), (57, .getfield 50, 12, 25, 1601, 0, 0), (60, .iload_n 1, 0, 0, 0, 0, 0), (61, .iaload, 0, 0, 0, 0, 0), (62, .ineg, 0, 0, 0, 0, 0), (63, .aload_n 0, 0, 0, 0, 0, 0), (64, .getfield 50, 12, 25, 1601, 0, 0), (67, .iload_n 2, 0, 0, 0, 0, 0), (68, .iaload, 0, 0, 0, 0, 0)]
theorem oX12_simplify_55 : bX12_simplify_55.all (mz_ok RX12 cX12_simplify 4) = true := by decide +kernel
def bX12_simplify_72 : List mz_E := [(72, .istore_n 3, 0, 0, 0, 0, 0), (73, .aload_n 0, 0, 0, 0, 0, 0), (74, .getfield 53, 12, 26, 1602, 0, 0), (77, .bipush 6, 0, 0, 0, 6, 0), (79, .iload_n 1, 0, 0, 0, 0, 0), (80, .imul, 0, 0, 0, 0, 0), (81, .iload_n 2, 0, 0, 0, 0, 0), (82, .iadd, 0, 0, 0, 0, 0), (83, .dup2, 0, 0, 0, 0, 0), (84, .iaload, 0, 0, 0, 0, 0), (85, .iload_n 3, 0, 0, 0, 0, 0), (86, .iadd, 0, 0, 0, 0, 0), (87, .iastore, 0, 0, 0, 0, 0), (88, .aload_n 0, 0, 0, 0, 0, 0), (89, .getfield 50, 12, 25, 1601, 0, 0), (92, .iload_n 1, 0, 0, 0, 0, 0), (93, .dup2, 0, 0, 0, 0, 0), (94, .iaload, 0, 0, 0, 0, 0), (95, .iload_n 3, 0, 0, 0, 0, 0), (96, .iadd, 0, 0, 0, 0, 0), (97, .iastore, 0, 0, 0, 0, 0), (98, .aload_n 0, 0, 0, 0, 0, 0), (99, .getfield 50, 12, 25, 1601, 0, 0), (102, .iload_n 2, 0, 0, 0, 0, 0), (103, .dup2, 0, 0, 0, 0, 0), (104, .iaload, 0, 0, 0, 0, 0), (105, .iload_n 3, 0, 0, 0, 0, 0), (106, .isub, 0, 0, 0, 0, 0), (107, .iastore, 0, 0, 0, 0, 0), (108, .goto (-83), 0, 25, 0, 0, 0)]
theorem oX12_simplify_72 : bX12_simplify_72.all (mz_ok RX12 cX12_simplify 4) = true := by decide +kernel
def bX12_simplify_12 : List mz_E := [(12, .aload_n 0, 0, 0, 0, 0, 0), (13, .getfield 53, 12, 26, 1602, 0, 0), (16, .iload_n 1, 0, 0, 0, 0, 0), (17, .iconst 0, 0, 0, 0, 0, 0), (18, .iastore, 0, 0, 0, 0, 0), (19, .iinc 1 1, 0, 0, 0, 1, 0), (22, .goto (-16), 0, 6, 0, 0, 0)]
theorem oX12_simplify_12 : bX12_simplify_12.all (mz_ok RX12 cX12_simplify 4) = true := by decide +kernel
abbrev IX12_simplify : mz_I := (yX12_simplify, cX12_simplify, 4, (some .int), 0, 3, 0, 0)
theorem kX12_simplify : mz_okm IX12_simplify 2146 141 2144 0 = true := by decide +kernel
theorem vX12_simplify : mz_okV IX12_simplify 2144 2145 = true := by decide +kernel
def fX12_simplify_146 : Nat → Int32 → mz_D → Option (Int32 × mz_D)
  | 0 => fun _ _ => none
  | n + 1 => fun x1 D => (if (36 : Int32) ≤ x1 then (Option.bind (fX12_tiesNow D) fun q2 => (some (q2, (mz_wi D 0 200 2 (0 : Int32))))) else (mz_gd (mz_ix x1 36) (mz_gd (mz_ix ((92 : Int32) + x1) 3000) ((fX12_simplify_146 n) (x1 + (1 : Int32)) (mz_wi D 0 201 (((92 : Int32) + x1)).toNatClampNeg (D.1 0 211 (x1).toNatClampNeg))))))
set_option maxHeartbeats 4000000 in
theorem tX12_simplify_146 (r : (Int32 × mz_D)) : ∀ (n : Nat) (x1 : Int32) (D : mz_D), fX12_simplify_146 n x1 D = some r → mz_Go IX12_simplify (some (.inl r.1), r.2) 0 0 (146, [some (.inr (.inr (some (0, 200)))), some (.inl x1), none, none], [], D) := by
  intro n
  induction n with
  | zero => intro x1 D h; have h : (none : Option (Int32 × mz_D)) = some r := h; cases h
  | succ n ih =>
    intro x1 D h
    rw [fX12_simplify_146] at h
    refine mz_Go.run (gs := []) (st' := (if (36 : Int32) ≤ x1 then (173, [some (.inr (.inr (some (0, 200)))), some (.inl x1), none, none], [], D) else (152, [some (.inr (.inr (some (0, 200)))), some (.inl x1), none, none], [], D))) bX12_simplify_146 oX12_simplify_146 rfl trivial ?_
    refine mz_Go.ite (fun hc1 => ?_) (fun hc1 => ?_)
    · have h := mz_ifp hc1 h
      refine mz_Go.run (gs := []) (st' := (175, [some (.inr (.inr (some (0, 200)))), some (.inl x1), none, none], [.inr (.inr (some (0, 200))), .inr (.inr (some (0, 200)))], D)) bX12_simplify_173 oX12_simplify_173 rfl trivial ?_
      obtain ⟨q2, hq2, h⟩ := mz_bd_some h
      refine mz_Go.callV (I := IX12_simplify) (J := IX12_tiesNow) (as := []) (ci := 12) (g := 0) (o := 200) (idx := 363) (pl := 2123) (rest := [.inr (.inr (some (0, 200)))]) (mX12_tiesNow D q2 hq2) kX12_tiesNow vX12_tiesNow (by decide +kernel) (by decide +kernel) (by decide +kernel) rfl rfl ⟨rfl, rfl⟩ rfl rfl rfl rfl ?_
      refine mz_Go.callV (I := IX12_simplify) (J := IX12_gives) (as := [.inl q2]) (ci := 12) (g := 0) (o := 200) (idx := 79) (pl := 1844) (rest := []) (mX12_gives q2 D) kX12_gives vX12_gives (by decide +kernel) (by decide +kernel) (by decide +kernel) rfl rfl ⟨rfl, rfl⟩ rfl rfl rfl rfl ?_
      cases h
      exact mz_Go.reti (by decide +kernel) rfl ⟨Nat.le_refl _, Nat.le_refl _⟩ rfl
    · have h := mz_ifn hc1 h
      obtain ⟨hb3, h⟩ := mz_gd_some h
      obtain ⟨hb4, h⟩ := mz_gd_some h
      refine mz_Go.run (gs := [mz_kz 0 0 200, mz_kz 0 0 200, mz_kz 0 0 211, mz_ix x1 36, mz_kz 0 0 201, mz_ix ((92 : Int32) + x1) 3000]) (st' := (146, [some (.inr (.inr (some (0, 200)))), some (.inl (x1 + (1 : Int32))), none, none], [], (mz_wi D 0 201 (((92 : Int32) + x1)).toNatClampNeg (D.1 0 211 (x1).toNatClampNeg)))) bX12_simplify_152 oX12_simplify_152 rfl ⟨rfl, rfl, rfl, hb3, rfl, hb4, trivial⟩ ?_
      exact mz_Go.drop [true, true, false, false] (ih (x1 + (1 : Int32)) (mz_wi D 0 201 (((92 : Int32) + x1)).toNatClampNeg (D.1 0 211 (x1).toNatClampNeg)) h)
def fX12_simplify_113 : Nat → Int32 → mz_D → Option (Int32 × mz_D)
  | 0 => fun _ _ => none
  | n + 1 => fun x1 D => (if (36 : Int32) ≤ x1 then (fX12_simplify_146 mz_N (0 : Int32) D) else (mz_gd (mz_ix x1 36) (if (D.1 0 211 (x1).toNatClampNeg) ≤ (999999 : Int32) then ((fX12_simplify_113 n) (x1 + (1 : Int32)) D) else (some ((-1 : Int32), (mz_wi D 0 200 2 (7 : Int32)))))))
set_option maxHeartbeats 4000000 in
theorem tX12_simplify_113 (r : (Int32 × mz_D)) : ∀ (n : Nat) (x1 : Int32) (D : mz_D), fX12_simplify_113 n x1 D = some r → mz_Go IX12_simplify (some (.inl r.1), r.2) 0 0 (113, [some (.inr (.inr (some (0, 200)))), some (.inl x1), none, none], [], D) := by
  intro n
  induction n with
  | zero => intro x1 D h; have h : (none : Option (Int32 × mz_D)) = some r := h; cases h
  | succ n ih =>
    intro x1 D h
    rw [fX12_simplify_113] at h
    refine mz_Go.run (gs := []) (st' := (if (36 : Int32) ≤ x1 then (144, [some (.inr (.inr (some (0, 200)))), some (.inl x1), none, none], [], D) else (119, [some (.inr (.inr (some (0, 200)))), some (.inl x1), none, none], [], D))) bX12_simplify_113 oX12_simplify_113 rfl trivial ?_
    refine mz_Go.ite (fun hc1 => ?_) (fun hc1 => ?_)
    · have h := mz_ifp hc1 h
      refine mz_Go.run (gs := []) (st' := (146, [some (.inr (.inr (some (0, 200)))), some (.inl (0 : Int32)), none, none], [], D)) bX12_simplify_144 oX12_simplify_144 rfl trivial ?_
      exact mz_Go.drop [true, true, false, false] (tX12_simplify_146 r mz_N (0 : Int32) D h)
    · have h := mz_ifn hc1 h
      obtain ⟨hb2, h⟩ := mz_gd_some h
      refine mz_Go.run (gs := [mz_kz 0 0 200, mz_kz 0 0 211, mz_ix x1 36]) (st' := (if (D.1 0 211 (x1).toNatClampNeg) ≤ (999999 : Int32) then (138, [some (.inr (.inr (some (0, 200)))), some (.inl x1), none, none], [], D) else (131, [some (.inr (.inr (some (0, 200)))), some (.inl x1), none, none], [], D))) bX12_simplify_119 oX12_simplify_119 rfl ⟨rfl, rfl, hb2, trivial⟩ ?_
      refine mz_Go.ite (fun hc3 => ?_) (fun hc3 => ?_)
      · have h := mz_ifp hc3 h
        refine mz_Go.run (gs := []) (st' := (113, [some (.inr (.inr (some (0, 200)))), some (.inl (x1 + (1 : Int32))), none, none], [], D)) bX12_simplify_138 oX12_simplify_138 rfl trivial ?_
        exact mz_Go.drop [true, true, false, false] (ih (x1 + (1 : Int32)) D h)
      · have h := mz_ifn hc3 h
        refine mz_Go.run (gs := []) (st' := (134, [some (.inr (.inr (some (0, 200)))), some (.inl x1), none, none], [.inl (7 : Int32), .inr (.inr (some (0, 200)))], D)) bX12_simplify_131 oX12_simplify_131 rfl trivial ?_
        refine mz_Go.callV (I := IX12_simplify) (J := IX12_refuse) (as := [.inl (7 : Int32)]) (ci := 12) (g := 0) (o := 200) (idx := 75) (pl := 1761) (rest := []) (mX12_refuse (7 : Int32) D) kX12_refuse vX12_refuse (by decide +kernel) (by decide +kernel) (by decide +kernel) rfl rfl ⟨rfl, rfl⟩ rfl rfl rfl rfl ?_
        cases h
        exact mz_Go.reti (by decide +kernel) rfl ⟨Nat.le_refl _, Nat.le_refl _⟩ rfl
def fX12_simplify_25 : Nat → mz_D → Option (Int32 × mz_D)
  | 0 => fun _ => none
  | n + 1 => fun D => (if (D.1 0 201 ((0 : Int32)).toNatClampNeg) ≤ 0 then (fX12_simplify_113 mz_N (0 : Int32) D) else (Option.bind (fX12_leastLeft D) fun q2 => (mz_gd (mz_ix q2 6) (if 0 ≤ (D.1 0 210 (q2).toNatClampNeg) then (fX12_simplify_113 mz_N (0 : Int32) D) else (Option.bind (fX12_leastLeft D) fun q5 => (Option.bind (fX12_mostLeft D) fun q6 => (mz_gd (mz_ix q5 6) (mz_gd (mz_ix q6 6) (mz_gd (mz_ix (((6 : Int32) * q5) + q6) 36) ((fX12_simplify_25 n) (mz_wi (mz_wi (mz_wi D 0 211 ((((6 : Int32) * q5) + q6)).toNatClampNeg ((D.1 0 211 ((((6 : Int32) * q5) + q6)).toNatClampNeg) + (fJ9_min_7cf53 (-(D.1 0 210 (q5).toNatClampNeg)) (D.1 0 210 (q6).toNatClampNeg)))) 0 210 (q5).toNatClampNeg ((D.1 0 210 (q5).toNatClampNeg) + (fJ9_min_7cf53 (-(D.1 0 210 (q5).toNatClampNeg)) (D.1 0 210 (q6).toNatClampNeg)))) 0 210 (q6).toNatClampNeg (((mz_wi (mz_wi D 0 211 ((((6 : Int32) * q5) + q6)).toNatClampNeg ((D.1 0 211 ((((6 : Int32) * q5) + q6)).toNatClampNeg) + (fJ9_min_7cf53 (-(D.1 0 210 (q5).toNatClampNeg)) (D.1 0 210 (q6).toNatClampNeg)))) 0 210 (q5).toNatClampNeg ((D.1 0 210 (q5).toNatClampNeg) + (fJ9_min_7cf53 (-(D.1 0 210 (q5).toNatClampNeg)) (D.1 0 210 (q6).toNatClampNeg)))).1 0 210 (q6).toNatClampNeg) - (fJ9_min_7cf53 (-(D.1 0 210 (q5).toNatClampNeg)) (D.1 0 210 (q6).toNatClampNeg))))))))))))))
set_option maxHeartbeats 4000000 in
theorem tX12_simplify_25 (r : (Int32 × mz_D)) : ∀ (n : Nat) (D : mz_D), fX12_simplify_25 n D = some r → mz_Go IX12_simplify (some (.inl r.1), r.2) 0 0 (25, [some (.inr (.inr (some (0, 200)))), none, none, none], [], D) := by
  intro n
  induction n with
  | zero => intro D h; have h : (none : Option (Int32 × mz_D)) = some r := h; cases h
  | succ n ih =>
    intro D h
    rw [fX12_simplify_25] at h
    refine mz_Go.run (gs := [mz_kz 0 0 200, mz_kz 0 0 201, mz_ix (0 : Int32) 3000]) (st' := (if (D.1 0 201 ((0 : Int32)).toNatClampNeg) ≤ 0 then (111, [some (.inr (.inr (some (0, 200)))), none, none, none], [], D) else (34, [some (.inr (.inr (some (0, 200)))), none, none, none], [], D))) bX12_simplify_25 oX12_simplify_25 rfl ⟨rfl, rfl, (by decide), trivial⟩ ?_
    refine mz_Go.ite (fun hc1 => ?_) (fun hc1 => ?_)
    · have h := mz_ifp hc1 h
      refine mz_Go.run (gs := []) (st' := (113, [some (.inr (.inr (some (0, 200)))), some (.inl (0 : Int32)), none, none], [], D)) bX12_simplify_111 oX12_simplify_111 rfl trivial ?_
      exact mz_Go.drop [true, true, false, false] (tX12_simplify_113 r mz_N (0 : Int32) D h)
    · have h := mz_ifn hc1 h
      refine mz_Go.run (gs := [mz_kz 0 0 200]) (st' := (39, [some (.inr (.inr (some (0, 200)))), none, none, none], [.inr (.inr (some (0, 200))), .inr (.inr (some (0, 210)))], D)) bX12_simplify_34 oX12_simplify_34 rfl ⟨rfl, trivial⟩ ?_
      obtain ⟨q2, hq2, h⟩ := mz_bd_some h
      refine mz_Go.callV (I := IX12_simplify) (J := IX12_leastLeft) (as := []) (ci := 12) (g := 0) (o := 200) (idx := 369) (pl := 2135) (rest := [.inr (.inr (some (0, 210)))]) (mX12_leastLeft D q2 hq2) kX12_leastLeft vX12_leastLeft (by decide +kernel) (by decide +kernel) (by decide +kernel) rfl rfl ⟨rfl, rfl⟩ rfl rfl rfl rfl ?_
      obtain ⟨hb3, h⟩ := mz_gd_some h
      refine mz_Go.run (gs := [mz_kz 0 0 210, mz_ix q2 6]) (st' := (if 0 ≤ (D.1 0 210 (q2).toNatClampNeg) then (111, [some (.inr (.inr (some (0, 200)))), none, none, none], [], D) else (46, [some (.inr (.inr (some (0, 200)))), none, none, none], [], D))) bX12_simplify_42 oX12_simplify_42 rfl ⟨rfl, hb3, trivial⟩ ?_
      refine mz_Go.ite (fun hc4 => ?_) (fun hc4 => ?_)
      · have h := mz_ifp hc4 h
        refine mz_Go.run (gs := []) (st' := (113, [some (.inr (.inr (some (0, 200)))), some (.inl (0 : Int32)), none, none], [], D)) bX12_simplify_111 oX12_simplify_111 rfl trivial ?_
        exact mz_Go.drop [true, true, false, false] (tX12_simplify_113 r mz_N (0 : Int32) D h)
      · have h := mz_ifn hc4 h
        refine mz_Go.run (gs := []) (st' := (47, [some (.inr (.inr (some (0, 200)))), none, none, none], [.inr (.inr (some (0, 200)))], D)) bX12_simplify_46 oX12_simplify_46 rfl trivial ?_
        obtain ⟨q5, hq5, h⟩ := mz_bd_some h
        refine mz_Go.callV (I := IX12_simplify) (J := IX12_leastLeft) (as := []) (ci := 12) (g := 0) (o := 200) (idx := 369) (pl := 2135) (rest := []) (mX12_leastLeft D q5 hq5) kX12_leastLeft vX12_leastLeft (by decide +kernel) (by decide +kernel) (by decide +kernel) rfl rfl ⟨rfl, rfl⟩ rfl rfl rfl rfl ?_
        refine mz_Go.run (gs := []) (st' := (52, [some (.inr (.inr (some (0, 200)))), some (.inl q5), none, none], [.inr (.inr (some (0, 200)))], D)) bX12_simplify_50 oX12_simplify_50 rfl trivial ?_
        obtain ⟨q6, hq6, h⟩ := mz_bd_some h
        refine mz_Go.callV (I := IX12_simplify) (J := IX12_mostLeft) (as := []) (ci := 12) (g := 0) (o := 200) (idx := 372) (pl := 2139) (rest := []) (mX12_mostLeft D q6 hq6) kX12_mostLeft vX12_mostLeft (by decide +kernel) (by decide +kernel) (by decide +kernel) rfl rfl ⟨rfl, rfl⟩ rfl rfl rfl rfl ?_
        obtain ⟨hb7, h⟩ := mz_gd_some h
        obtain ⟨hb8, h⟩ := mz_gd_some h
        refine mz_Go.run (gs := [mz_kz 0 0 200, mz_kz 0 0 210, mz_ix q5 6, mz_kz 0 0 200, mz_kz 0 0 210, mz_ix q6 6]) (st' := (69, [some (.inr (.inr (some (0, 200)))), some (.inl q5), some (.inl q6), none], [.inl (D.1 0 210 (q6).toNatClampNeg), .inl (-(D.1 0 210 (q5).toNatClampNeg))], D)) bX12_simplify_55 oX12_simplify_55 rfl ⟨rfl, rfl, hb7, rfl, rfl, hb8, trivial⟩ ?_
        refine mz_Go.callS (I := IX12_simplify) (J := IJ9_min_7cf53) (as := [.inl (-(D.1 0 210 (q5).toNatClampNeg)), .inl (D.1 0 210 (q6).toNatClampNeg)]) (idx := 130) (pl := 1760) (rest := []) (mJ9_min_7cf53 (-(D.1 0 210 (q5).toNatClampNeg)) (D.1 0 210 (q6).toNatClampNeg) D _ rfl) kJ9_min_7cf53 vJ9_min_7cf53 (by decide +kernel) (by decide +kernel) (by decide +kernel) rfl rfl ⟨rfl, rfl⟩ rfl ?_
        obtain ⟨hb9, h⟩ := mz_gd_some h
        refine mz_Go.run (gs := [mz_kz 0 0 200, mz_kz 0 0 211, mz_ix (((6 : Int32) * q5) + q6) 36, mz_kz 0 0 211, mz_ix (((6 : Int32) * q5) + q6) 36, mz_kz 0 0 200, mz_kz 0 0 210, mz_ix q5 6, mz_kz 0 0 210, mz_ix q5 6, mz_kz 0 0 200, mz_kz 0 0 210, mz_ix q6 6, mz_kz 0 0 210, mz_ix q6 6]) (st' := (25, [some (.inr (.inr (some (0, 200)))), some (.inl q5), some (.inl q6), some (.inl (fJ9_min_7cf53 (-(D.1 0 210 (q5).toNatClampNeg)) (D.1 0 210 (q6).toNatClampNeg)))], [], (mz_wi (mz_wi (mz_wi D 0 211 ((((6 : Int32) * q5) + q6)).toNatClampNeg ((D.1 0 211 ((((6 : Int32) * q5) + q6)).toNatClampNeg) + (fJ9_min_7cf53 (-(D.1 0 210 (q5).toNatClampNeg)) (D.1 0 210 (q6).toNatClampNeg)))) 0 210 (q5).toNatClampNeg ((D.1 0 210 (q5).toNatClampNeg) + (fJ9_min_7cf53 (-(D.1 0 210 (q5).toNatClampNeg)) (D.1 0 210 (q6).toNatClampNeg)))) 0 210 (q6).toNatClampNeg (((mz_wi (mz_wi D 0 211 ((((6 : Int32) * q5) + q6)).toNatClampNeg ((D.1 0 211 ((((6 : Int32) * q5) + q6)).toNatClampNeg) + (fJ9_min_7cf53 (-(D.1 0 210 (q5).toNatClampNeg)) (D.1 0 210 (q6).toNatClampNeg)))) 0 210 (q5).toNatClampNeg ((D.1 0 210 (q5).toNatClampNeg) + (fJ9_min_7cf53 (-(D.1 0 210 (q5).toNatClampNeg)) (D.1 0 210 (q6).toNatClampNeg)))).1 0 210 (q6).toNatClampNeg) - (fJ9_min_7cf53 (-(D.1 0 210 (q5).toNatClampNeg)) (D.1 0 210 (q6).toNatClampNeg)))))) bX12_simplify_72 oX12_simplify_72 rfl ⟨rfl, rfl, hb9, rfl, hb9, rfl, rfl, hb7, rfl, hb7, rfl, rfl, hb8, rfl, hb8, trivial⟩ ?_
        exact mz_Go.drop [true, false, false, false] (ih (mz_wi (mz_wi (mz_wi D 0 211 ((((6 : Int32) * q5) + q6)).toNatClampNeg ((D.1 0 211 ((((6 : Int32) * q5) + q6)).toNatClampNeg) + (fJ9_min_7cf53 (-(D.1 0 210 (q5).toNatClampNeg)) (D.1 0 210 (q6).toNatClampNeg)))) 0 210 (q5).toNatClampNeg ((D.1 0 210 (q5).toNatClampNeg) + (fJ9_min_7cf53 (-(D.1 0 210 (q5).toNatClampNeg)) (D.1 0 210 (q6).toNatClampNeg)))) 0 210 (q6).toNatClampNeg (((mz_wi (mz_wi D 0 211 ((((6 : Int32) * q5) + q6)).toNatClampNeg ((D.1 0 211 ((((6 : Int32) * q5) + q6)).toNatClampNeg) + (fJ9_min_7cf53 (-(D.1 0 210 (q5).toNatClampNeg)) (D.1 0 210 (q6).toNatClampNeg)))) 0 210 (q5).toNatClampNeg ((D.1 0 210 (q5).toNatClampNeg) + (fJ9_min_7cf53 (-(D.1 0 210 (q5).toNatClampNeg)) (D.1 0 210 (q6).toNatClampNeg)))).1 0 210 (q6).toNatClampNeg) - (fJ9_min_7cf53 (-(D.1 0 210 (q5).toNatClampNeg)) (D.1 0 210 (q6).toNatClampNeg)))) h)
def fX12_simplify_6 : Nat → Int32 → mz_D → Option (Int32 × mz_D)
  | 0 => fun _ _ => none
  | n + 1 => fun x1 D => (if (36 : Int32) ≤ x1 then (fX12_simplify_25 mz_N D) else (mz_gd (mz_ix x1 36) ((fX12_simplify_6 n) (x1 + (1 : Int32)) (mz_wi D 0 211 (x1).toNatClampNeg (0 : Int32)))))
set_option maxHeartbeats 4000000 in
theorem tX12_simplify_6 (r : (Int32 × mz_D)) : ∀ (n : Nat) (x1 : Int32) (D : mz_D), fX12_simplify_6 n x1 D = some r → mz_Go IX12_simplify (some (.inl r.1), r.2) 0 0 (6, [some (.inr (.inr (some (0, 200)))), some (.inl x1), none, none], [], D) := by
  intro n
  induction n with
  | zero => intro x1 D h; have h : (none : Option (Int32 × mz_D)) = some r := h; cases h
  | succ n ih =>
    intro x1 D h
    rw [fX12_simplify_6] at h
    refine mz_Go.run (gs := []) (st' := (if (36 : Int32) ≤ x1 then (25, [some (.inr (.inr (some (0, 200)))), some (.inl x1), none, none], [], D) else (12, [some (.inr (.inr (some (0, 200)))), some (.inl x1), none, none], [], D))) bX12_simplify_6 oX12_simplify_6 rfl trivial ?_
    refine mz_Go.ite (fun hc1 => ?_) (fun hc1 => ?_)
    · have h := mz_ifp hc1 h
      exact mz_Go.drop [true, false, false, false] (tX12_simplify_25 r mz_N D h)
    · have h := mz_ifn hc1 h
      obtain ⟨hb2, h⟩ := mz_gd_some h
      refine mz_Go.run (gs := [mz_kz 0 0 200, mz_kz 0 0 211, mz_ix x1 36]) (st' := (6, [some (.inr (.inr (some (0, 200)))), some (.inl (x1 + (1 : Int32))), none, none], [], (mz_wi D 0 211 (x1).toNatClampNeg (0 : Int32)))) bX12_simplify_12 oX12_simplify_12 rfl ⟨rfl, rfl, hb2, trivial⟩ ?_
      exact mz_Go.drop [true, true, false, false] (ih (x1 + (1 : Int32)) (mz_wi D 0 211 (x1).toNatClampNeg (0 : Int32)) h)
def fX12_simplify (D : mz_D) : Option (Int32 × mz_D) := (Option.bind (fX12_laysBalances D) fun q1 => (fX12_simplify_6 mz_N (0 : Int32) q1))
set_option maxHeartbeats 4000000 in
theorem mX12_simplify (D : mz_D) (r : (Int32 × mz_D)) (h : fX12_simplify D = some r) : mz_Met IX12_simplify [.inr (.inr (some (0, 200)))] D (some (.inl r.1), r.2) := by
  refine mz_Met.of (by decide +kernel) (Nat.le_of_ble_eq_true rfl) ?_
  show mz_Go IX12_simplify (some (.inl r.1), r.2) 0 0 (0, [some (.inr (.inr (some (0, 200)))), none, none, none], [], D)
  rw [fX12_simplify] at h
  refine mz_Go.run (gs := []) (st' := (1, [some (.inr (.inr (some (0, 200)))), none, none, none], [.inr (.inr (some (0, 200)))], D)) bX12_simplify_0 oX12_simplify_0 rfl trivial ?_
  obtain ⟨q1, hq1, h⟩ := mz_bd_some h
  refine mz_Go.callV (I := IX12_simplify) (J := IX12_laysBalances) (as := []) (ci := 12) (g := 0) (o := 200) (idx := 366) (pl := 2131) (rest := []) (mX12_laysBalances D q1 hq1) kX12_laysBalances vX12_laysBalances (by decide +kernel) (by decide +kernel) (by decide +kernel) rfl rfl ⟨rfl, rfl⟩ rfl rfl rfl rfl ?_
  refine mz_Go.run (gs := []) (st' := (6, [some (.inr (.inr (some (0, 200)))), some (.inl (0 : Int32)), none, none], [], q1)) bX12_simplify_4 oX12_simplify_4 rfl trivial ?_
  exact mz_Go.drop [true, true, false, false] (tX12_simplify_6 r mz_N (0 : Int32) q1 h)
def bX12_chain_0 : List mz_E := [(0, .aload_n 0, 0, 0, 0, 0, 0), (1, .iload_n 1, 0, 0, 0, 0, 0)]
theorem oX12_chain_0 : bX12_chain_0.all (mz_ok RX12 cX12_chain 6) = true := by decide +kernel
def bX12_chain_5 : List mz_E := [(5, .ifCond .ne 9, 0, 14, 0, 0, 0)]
theorem oX12_chain_5 : bX12_chain_5.all (mz_ok RX12 cX12_chain 6) = true := by decide +kernel
def bX12_chain_8 : List mz_E := [(8, .aload_n 0, 0, 0, 0, 0, 0), (9, .iconst 1, 0, 0, 0, 1, 0)]
theorem oX12_chain_8 : bX12_chain_8.all (mz_ok RX12 cX12_chain 6) = true := by decide +kernel
def bX12_chain_14 : List mz_E := [(14, .iconst 1, 0, 0, 0, 1, 0), (15, .iload_n 1, 0, 0, 0, 0, 0), (16, .ishl, 0, 0, 0, 0, 0), (17, .istore_n 2, 0, 0, 0, 0, 0), (18, .iconst 0, 0, 0, 0, 0, 0), (19, .istore_n 3, 0, 0, 0, 0, 0)]
theorem oX12_chain_14 : bX12_chain_14.all (mz_ok RX12 cX12_chain 6) = true := by decide +kernel
def bX12_chain_20 : List mz_E := [(20, .iload_n 2, 0, 0, 0, 0, 0), (21, .iload_n 3, 0, 0, 0, 0, 0), (22, .if_icmp .eq 80, 0, 102, 0, 0, 0)]
theorem oX12_chain_20 : bX12_chain_20.all (mz_ok RX12 cX12_chain 6) = true := by decide +kernel
def bX12_chain_102 : List mz_E := [(102, .aload_n 0, 0, 0, 0, 0, 0), (103, .iload_n 2, 0, 0, 0, 0, 0), (104, .iconst 1, 0, 0, 0, 1, 0), (105, .iload_n 1, 0, 0, 0, 0, 0), (106, .ishl, 0, 0, 0, 0, 0), (107, .iconst (-1), 0, 0, 0, -1, 0), (108, .ixor, 0, 0, 0, 0, 0), (109, .iand, 0, 0, 0, 0, 0)]
theorem oX12_chain_102 : bX12_chain_102.all (mz_ok RX12 cX12_chain 6) = true := by decide +kernel
def bX12_chain_25 : List mz_E := [(25, .iload_n 2, 0, 0, 0, 0, 0), (26, .istore_n 3, 0, 0, 0, 0, 0), (27, .iconst 0, 0, 0, 0, 0, 0), (28, .istore 4, 0, 0, 0, 0, 0)]
theorem oX12_chain_25 : bX12_chain_25.all (mz_ok RX12 cX12_chain 6) = true := by decide +kernel
def bX12_chain_30 : List mz_E := [(30, .iload 4, 0, 0, 0, 0, 0), (32, .aload_n 0, 0, 0, 0, 0, 0), (33, .getfield 7, 12, 0, 1576, 0, 0), (36, .iconst 0, 0, 0, 0, 0, 0), (37, .iaload, 0, 0, 0, 0, 0), (38, .if_icmp .ge 61, 0, 99, 0, 0, 0)]
theorem oX12_chain_30 : bX12_chain_30.all (mz_ok RX12 cX12_chain 6) = true := by decide +kernel
def bX12_chain_99 : List mz_E := [(99, .goto (-79), 0, 20, 0, 0, 0)]
theorem oX12_chain_99 : bX12_chain_99.all (mz_ok RX12 cX12_chain 6) = true := by decide +kernel
def bX12_chain_41 : List mz_E := [(41, .iconst 0, 0, 0, 0, 0, 0), (42, .istore 5, 0, 0, 0, 0, 0)]
theorem oX12_chain_41 : bX12_chain_41.all (mz_ok RX12 cX12_chain 6) = true := by decide +kernel
def bX12_chain_44 : List mz_E := [(44, .iload 5, 0, 0, 0, 0, 0), (46, .aload_n 0, 0, 0, 0, 0, 0), (47, .getfield 7, 12, 0, 1576, 0, 0), (50, .iconst 0, 0, 0, 0, 0, 0), (51, .iaload, 0, 0, 0, 0, 0), (52, .if_icmp .ge 41, 0, 93, 0, 0, 0)]
theorem oX12_chain_44 : bX12_chain_44.all (mz_ok RX12 cX12_chain 6) = true := by decide +kernel
def bX12_chain_93 : List mz_E := [(93, .iinc 4 1, 0, 0, 0, 1, 0), (96, .goto (-66), 0, 30, 0, 0, 0)]
theorem oX12_chain_93 : bX12_chain_93.all (mz_ok RX12 cX12_chain 6) = true := by decide +kernel
def bX12_chain_55 : List mz_E := [(55, .aload_n 0, 0, 0, 0, 0, 0), (56, .iload_n 2, 0, 0, 0, 0, 0), (57, .iload 4, 0, 0, 0, 0, 0)]
theorem oX12_chain_55 : bX12_chain_55.all (mz_ok RX12 cX12_chain 6) = true := by decide +kernel
def bX12_chain_62 : List mz_E := [(62, .ifCond .eq 25, 0, 87, 0, 0, 0)]
theorem oX12_chain_62 : bX12_chain_62.all (mz_ok RX12 cX12_chain 6) = true := by decide +kernel
def bX12_chain_87 : List mz_E := [(87, .iinc 5 1, 0, 0, 0, 1, 0), (90, .goto (-46), 0, 44, 0, 0, 0)]
theorem oX12_chain_87 : bX12_chain_87.all (mz_ok RX12 cX12_chain 6) = true := by decide +kernel
def bX12_chain_65 : List mz_E := [(65, .aload_n 0, 0, 0, 0, 0, 0), (66, .getfield 7, 12, 0, 1576, 0, 0), (69, .iload 4, 0, 0, 0, 0, 0), (71, .iload 5, 0, 0, 0, 0, 0)]
theorem oX12_chain_65 : bX12_chain_65.all (mz_ok RX12 cX12_chain 6) = true := by decide +kernel
def bX12_chain_76 : List mz_E := [(76, .iaload, 0, 0, 0, 0, 0), (77, .ifCond .le 10, 0, 87, 0, 0, 0)]
theorem oX12_chain_76 : bX12_chain_76.all (mz_ok RX12 cX12_chain 6) = true := by decide +kernel
def bX12_chain_80 : List mz_E := [(80, .iload_n 2, 0, 0, 0, 0, 0), (81, .iconst 1, 0, 0, 0, 1, 0), (82, .iload 5, 0, 0, 0, 0, 0), (84, .ishl, 0, 0, 0, 0, 0), (85, .ior, 0, 0, 0, 0, 0), (86, .istore_n 2, 0, 0, 0, 0, 0), (87, .iinc 5 1, 0, 0, 0, 1, 0), (90, .goto (-46), 0, 44, 0, 0, 0)]
theorem oX12_chain_80 : bX12_chain_80.all (mz_ok RX12 cX12_chain 6) = true := by decide +kernel
abbrev IX12_chain : mz_I := (yX12_chain, cX12_chain, 6, (some .int), 0, 1, 0, 0)
theorem kX12_chain : mz_okm IX12_chain 2150 141 2148 1 = true := by decide +kernel
theorem vX12_chain : mz_okV IX12_chain 2148 2149 = true := by decide +kernel
def fX12_chain_44 (k20 : Int32 → Int32 → Int32 → mz_D → Option (Int32 × mz_D)) (k30 : Int32 → Int32 → Int32 → Int32 → mz_D → Option (Int32 × mz_D)) : Nat → Int32 → Int32 → Int32 → Int32 → Int32 → mz_D → Option (Int32 × mz_D)
  | 0 => fun _ _ _ _ _ _ => none
  | n + 1 => fun x1 x2 x3 x4 x5 D => (if (D.1 0 201 ((0 : Int32)).toNatClampNeg) ≤ x5 then (k30 x1 x2 x3 (x4 + (1 : Int32)) D) else (if (fX12_isIn x2 x4) = 0 then ((fX12_chain_44 k20 k30 n) x1 x2 x3 x4 (x5 + (1 : Int32)) D) else (mz_gd (mz_ix (((92 : Int32) + ((6 : Int32) * x4)) + x5) 3000) (if (D.1 0 201 ((((92 : Int32) + ((6 : Int32) * x4)) + x5)).toNatClampNeg) ≤ 0 then ((fX12_chain_44 k20 k30 n) x1 x2 x3 x4 (x5 + (1 : Int32)) D) else ((fX12_chain_44 k20 k30 n) x1 (x2 ||| ((1 : Int32) <<< (x5 &&& 31))) x3 x4 (x5 + (1 : Int32)) D)))))
set_option maxHeartbeats 4000000 in
theorem tX12_chain_44 (r : (Int32 × mz_D)) (k20 : Int32 → Int32 → Int32 → mz_D → Option (Int32 × mz_D)) (hk20 : ∀ (x1 : Int32) (x2 : Int32) (x3 : Int32) (D : mz_D), k20 x1 x2 x3 D = some r → mz_Go IX12_chain (some (.inl r.1), r.2) 0 0 (20, [some (.inr (.inr (some (0, 200)))), some (.inl x1), some (.inl x2), some (.inl x3), none, none], [], D)) (k30 : Int32 → Int32 → Int32 → Int32 → mz_D → Option (Int32 × mz_D)) (hk30 : ∀ (x1 : Int32) (x2 : Int32) (x3 : Int32) (x4 : Int32) (D : mz_D), k30 x1 x2 x3 x4 D = some r → mz_Go IX12_chain (some (.inl r.1), r.2) 0 0 (30, [some (.inr (.inr (some (0, 200)))), some (.inl x1), some (.inl x2), some (.inl x3), some (.inl x4), none], [], D)) : ∀ (n : Nat) (x1 : Int32) (x2 : Int32) (x3 : Int32) (x4 : Int32) (x5 : Int32) (D : mz_D), fX12_chain_44 k20 k30 n x1 x2 x3 x4 x5 D = some r → mz_Go IX12_chain (some (.inl r.1), r.2) 0 0 (44, [some (.inr (.inr (some (0, 200)))), some (.inl x1), some (.inl x2), some (.inl x3), some (.inl x4), some (.inl x5)], [], D) := by
  intro n
  induction n with
  | zero => intro x1 x2 x3 x4 x5 D h; have h : (none : Option (Int32 × mz_D)) = some r := h; cases h
  | succ n ih =>
    intro x1 x2 x3 x4 x5 D h
    rw [fX12_chain_44] at h
    refine mz_Go.run (gs := [mz_kz 0 0 200, mz_kz 0 0 201, mz_ix (0 : Int32) 3000]) (st' := (if (D.1 0 201 ((0 : Int32)).toNatClampNeg) ≤ x5 then (93, [some (.inr (.inr (some (0, 200)))), some (.inl x1), some (.inl x2), some (.inl x3), some (.inl x4), some (.inl x5)], [], D) else (55, [some (.inr (.inr (some (0, 200)))), some (.inl x1), some (.inl x2), some (.inl x3), some (.inl x4), some (.inl x5)], [], D))) bX12_chain_44 oX12_chain_44 rfl ⟨rfl, rfl, (by decide), trivial⟩ ?_
    refine mz_Go.ite (fun hc1 => ?_) (fun hc1 => ?_)
    · have h := mz_ifp hc1 h
      refine mz_Go.run (gs := []) (st' := (30, [some (.inr (.inr (some (0, 200)))), some (.inl x1), some (.inl x2), some (.inl x3), some (.inl (x4 + (1 : Int32))), some (.inl x5)], [], D)) bX12_chain_93 oX12_chain_93 rfl trivial ?_
      exact mz_Go.drop [true, true, true, true, true, false] (hk30 x1 x2 x3 (x4 + (1 : Int32)) D h)
    · have h := mz_ifn hc1 h
      refine mz_Go.run (gs := []) (st' := (59, [some (.inr (.inr (some (0, 200)))), some (.inl x1), some (.inl x2), some (.inl x3), some (.inl x4), some (.inl x5)], [.inl x4, .inl x2, .inr (.inr (some (0, 200)))], D)) bX12_chain_55 oX12_chain_55 rfl trivial ?_
      refine mz_Go.callV (I := IX12_chain) (J := IX12_isIn) (as := [.inl x2, .inl x4]) (ci := 12) (g := 0) (o := 200) (idx := 270) (pl := 1944) (rest := []) (mX12_isIn x2 x4 D _ rfl) kX12_isIn vX12_isIn (by decide +kernel) (by decide +kernel) (by decide +kernel) rfl rfl ⟨rfl, rfl⟩ rfl rfl rfl rfl ?_
      refine mz_Go.run (gs := []) (st' := (if (fX12_isIn x2 x4) = 0 then (87, [some (.inr (.inr (some (0, 200)))), some (.inl x1), some (.inl x2), some (.inl x3), some (.inl x4), some (.inl x5)], [], D) else (65, [some (.inr (.inr (some (0, 200)))), some (.inl x1), some (.inl x2), some (.inl x3), some (.inl x4), some (.inl x5)], [], D))) bX12_chain_62 oX12_chain_62 rfl trivial ?_
      refine mz_Go.ite (fun hc2 => ?_) (fun hc2 => ?_)
      · have h := mz_ifp hc2 h
        refine mz_Go.run (gs := []) (st' := (44, [some (.inr (.inr (some (0, 200)))), some (.inl x1), some (.inl x2), some (.inl x3), some (.inl x4), some (.inl (x5 + (1 : Int32)))], [], D)) bX12_chain_87 oX12_chain_87 rfl trivial ?_
        exact mz_Go.drop [true, true, true, true, true, true] (ih x1 x2 x3 x4 (x5 + (1 : Int32)) D h)
      · have h := mz_ifn hc2 h
        refine mz_Go.run (gs := [mz_kz 0 0 200]) (st' := (73, [some (.inr (.inr (some (0, 200)))), some (.inl x1), some (.inl x2), some (.inl x3), some (.inl x4), some (.inl x5)], [.inl x5, .inl x4, .inr (.inr (some (0, 201)))], D)) bX12_chain_65 oX12_chain_65 rfl ⟨rfl, trivial⟩ ?_
        refine mz_Go.callS (I := IX12_chain) (J := IX12_debtRow) (as := [.inl x4, .inl x5]) (idx := 312) (pl := 2008) (rest := [.inr (.inr (some (0, 201)))]) (mX12_debtRow x4 x5 D) kX12_debtRow vX12_debtRow (by decide +kernel) (by decide +kernel) (by decide +kernel) rfl rfl ⟨rfl, rfl⟩ rfl ?_
        obtain ⟨hb3, h⟩ := mz_gd_some h
        refine mz_Go.run (gs := [mz_kz 0 0 201, mz_ix (((92 : Int32) + ((6 : Int32) * x4)) + x5) 3000]) (st' := (if (D.1 0 201 ((((92 : Int32) + ((6 : Int32) * x4)) + x5)).toNatClampNeg) ≤ 0 then (87, [some (.inr (.inr (some (0, 200)))), some (.inl x1), some (.inl x2), some (.inl x3), some (.inl x4), some (.inl x5)], [], D) else (80, [some (.inr (.inr (some (0, 200)))), some (.inl x1), some (.inl x2), some (.inl x3), some (.inl x4), some (.inl x5)], [], D))) bX12_chain_76 oX12_chain_76 rfl ⟨rfl, hb3, trivial⟩ ?_
        refine mz_Go.ite (fun hc4 => ?_) (fun hc4 => ?_)
        · have h := mz_ifp hc4 h
          refine mz_Go.run (gs := []) (st' := (44, [some (.inr (.inr (some (0, 200)))), some (.inl x1), some (.inl x2), some (.inl x3), some (.inl x4), some (.inl (x5 + (1 : Int32)))], [], D)) bX12_chain_87 oX12_chain_87 rfl trivial ?_
          exact mz_Go.drop [true, true, true, true, true, true] (ih x1 x2 x3 x4 (x5 + (1 : Int32)) D h)
        · have h := mz_ifn hc4 h
          refine mz_Go.run (gs := []) (st' := (44, [some (.inr (.inr (some (0, 200)))), some (.inl x1), some (.inl (x2 ||| ((1 : Int32) <<< (x5 &&& 31)))), some (.inl x3), some (.inl x4), some (.inl (x5 + (1 : Int32)))], [], D)) bX12_chain_80 oX12_chain_80 rfl trivial ?_
          exact mz_Go.drop [true, true, true, true, true, true] (ih x1 (x2 ||| ((1 : Int32) <<< (x5 &&& 31))) x3 x4 (x5 + (1 : Int32)) D h)
def fX12_chain_30 (k20 : Int32 → Int32 → Int32 → mz_D → Option (Int32 × mz_D)) : Nat → Int32 → Int32 → Int32 → Int32 → mz_D → Option (Int32 × mz_D)
  | 0 => fun _ _ _ _ _ => none
  | n + 1 => fun x1 x2 x3 x4 D => (if (D.1 0 201 ((0 : Int32)).toNatClampNeg) ≤ x4 then (k20 x1 x2 x3 D) else (fX12_chain_44 k20 (fX12_chain_30 k20 n) mz_N x1 x2 x3 x4 (0 : Int32) D))
set_option maxHeartbeats 4000000 in
theorem tX12_chain_30 (r : (Int32 × mz_D)) (k20 : Int32 → Int32 → Int32 → mz_D → Option (Int32 × mz_D)) (hk20 : ∀ (x1 : Int32) (x2 : Int32) (x3 : Int32) (D : mz_D), k20 x1 x2 x3 D = some r → mz_Go IX12_chain (some (.inl r.1), r.2) 0 0 (20, [some (.inr (.inr (some (0, 200)))), some (.inl x1), some (.inl x2), some (.inl x3), none, none], [], D)) : ∀ (n : Nat) (x1 : Int32) (x2 : Int32) (x3 : Int32) (x4 : Int32) (D : mz_D), fX12_chain_30 k20 n x1 x2 x3 x4 D = some r → mz_Go IX12_chain (some (.inl r.1), r.2) 0 0 (30, [some (.inr (.inr (some (0, 200)))), some (.inl x1), some (.inl x2), some (.inl x3), some (.inl x4), none], [], D) := by
  intro n
  induction n with
  | zero => intro x1 x2 x3 x4 D h; have h : (none : Option (Int32 × mz_D)) = some r := h; cases h
  | succ n ih =>
    intro x1 x2 x3 x4 D h
    rw [fX12_chain_30] at h
    refine mz_Go.run (gs := [mz_kz 0 0 200, mz_kz 0 0 201, mz_ix (0 : Int32) 3000]) (st' := (if (D.1 0 201 ((0 : Int32)).toNatClampNeg) ≤ x4 then (99, [some (.inr (.inr (some (0, 200)))), some (.inl x1), some (.inl x2), some (.inl x3), some (.inl x4), none], [], D) else (41, [some (.inr (.inr (some (0, 200)))), some (.inl x1), some (.inl x2), some (.inl x3), some (.inl x4), none], [], D))) bX12_chain_30 oX12_chain_30 rfl ⟨rfl, rfl, (by decide), trivial⟩ ?_
    refine mz_Go.ite (fun hc1 => ?_) (fun hc1 => ?_)
    · have h := mz_ifp hc1 h
      refine mz_Go.run (gs := []) (st' := (20, [some (.inr (.inr (some (0, 200)))), some (.inl x1), some (.inl x2), some (.inl x3), some (.inl x4), none], [], D)) bX12_chain_99 oX12_chain_99 rfl trivial ?_
      exact mz_Go.drop [true, true, true, true, false, false] (hk20 x1 x2 x3 D h)
    · have h := mz_ifn hc1 h
      refine mz_Go.run (gs := []) (st' := (44, [some (.inr (.inr (some (0, 200)))), some (.inl x1), some (.inl x2), some (.inl x3), some (.inl x4), some (.inl (0 : Int32))], [], D)) bX12_chain_41 oX12_chain_41 rfl trivial ?_
      exact mz_Go.drop [true, true, true, true, true, true] (tX12_chain_44 r k20 hk20 (fX12_chain_30 k20 n) ih mz_N x1 x2 x3 x4 (0 : Int32) D h)
def fX12_chain_20 : Nat → Int32 → Int32 → Int32 → mz_D → Option (Int32 × mz_D)
  | 0 => fun _ _ _ _ => none
  | n + 1 => fun x1 x2 x3 D => (if x2 = x3 then (some ((x2 &&& (((1 : Int32) <<< (x1 &&& 31)) ^^^ (-1 : Int32))), (mz_wi D 0 200 2 (0 : Int32)))) else (fX12_chain_30 (fX12_chain_20 n) mz_N x1 x2 x2 (0 : Int32) D))
set_option maxHeartbeats 4000000 in
theorem tX12_chain_20 (r : (Int32 × mz_D)) : ∀ (n : Nat) (x1 : Int32) (x2 : Int32) (x3 : Int32) (D : mz_D), fX12_chain_20 n x1 x2 x3 D = some r → mz_Go IX12_chain (some (.inl r.1), r.2) 0 0 (20, [some (.inr (.inr (some (0, 200)))), some (.inl x1), some (.inl x2), some (.inl x3), none, none], [], D) := by
  intro n
  induction n with
  | zero => intro x1 x2 x3 D h; have h : (none : Option (Int32 × mz_D)) = some r := h; cases h
  | succ n ih =>
    intro x1 x2 x3 D h
    rw [fX12_chain_20] at h
    refine mz_Go.run (gs := []) (st' := (if x2 = x3 then (102, [some (.inr (.inr (some (0, 200)))), some (.inl x1), some (.inl x2), some (.inl x3), none, none], [], D) else (25, [some (.inr (.inr (some (0, 200)))), some (.inl x1), some (.inl x2), some (.inl x3), none, none], [], D))) bX12_chain_20 oX12_chain_20 rfl trivial ?_
    refine mz_Go.ite (fun hc1 => ?_) (fun hc1 => ?_)
    · have h := mz_ifp hc1 h
      refine mz_Go.run (gs := []) (st' := (110, [some (.inr (.inr (some (0, 200)))), some (.inl x1), some (.inl x2), some (.inl x3), none, none], [.inl (x2 &&& (((1 : Int32) <<< (x1 &&& 31)) ^^^ (-1 : Int32))), .inr (.inr (some (0, 200)))], D)) bX12_chain_102 oX12_chain_102 rfl trivial ?_
      refine mz_Go.callV (I := IX12_chain) (J := IX12_gives) (as := [.inl (x2 &&& (((1 : Int32) <<< (x1 &&& 31)) ^^^ (-1 : Int32)))]) (ci := 12) (g := 0) (o := 200) (idx := 79) (pl := 1844) (rest := []) (mX12_gives (x2 &&& (((1 : Int32) <<< (x1 &&& 31)) ^^^ (-1 : Int32))) D) kX12_gives vX12_gives (by decide +kernel) (by decide +kernel) (by decide +kernel) rfl rfl ⟨rfl, rfl⟩ rfl rfl rfl rfl ?_
      cases h
      exact mz_Go.reti (by decide +kernel) rfl ⟨Nat.le_refl _, Nat.le_refl _⟩ rfl
    · have h := mz_ifn hc1 h
      refine mz_Go.run (gs := []) (st' := (30, [some (.inr (.inr (some (0, 200)))), some (.inl x1), some (.inl x2), some (.inl x2), some (.inl (0 : Int32)), none], [], D)) bX12_chain_25 oX12_chain_25 rfl trivial ?_
      exact mz_Go.drop [true, true, true, true, true, false] (tX12_chain_30 r (fX12_chain_20 n) ih mz_N x1 x2 x2 (0 : Int32) D h)
def fX12_chain (x1 : Int32) (D : mz_D) : Option (Int32 × mz_D) := (if (fX12_isPerson x1 D) = 0 then (some ((-1 : Int32), (mz_wi D 0 200 2 (1 : Int32)))) else (fX12_chain_20 mz_N x1 ((1 : Int32) <<< (x1 &&& 31)) (0 : Int32) D))
set_option maxHeartbeats 4000000 in
theorem mX12_chain (x1 : Int32) (D : mz_D) (r : (Int32 × mz_D)) (h : fX12_chain x1 D = some r) : mz_Met IX12_chain [.inr (.inr (some (0, 200))), .inl x1] D (some (.inl r.1), r.2) := by
  refine mz_Met.of (by decide +kernel) (Nat.le_of_ble_eq_true rfl) ?_
  show mz_Go IX12_chain (some (.inl r.1), r.2) 0 0 (0, [some (.inr (.inr (some (0, 200)))), some (.inl x1), none, none, none, none], [], D)
  rw [fX12_chain] at h
  refine mz_Go.run (gs := []) (st' := (2, [some (.inr (.inr (some (0, 200)))), some (.inl x1), none, none, none, none], [.inl x1, .inr (.inr (some (0, 200)))], D)) bX12_chain_0 oX12_chain_0 rfl trivial ?_
  refine mz_Go.callV (I := IX12_chain) (J := IX12_isPerson) (as := [.inl x1]) (ci := 12) (g := 0) (o := 200) (idx := 248) (pl := 1902) (rest := []) (mX12_isPerson x1 D _ rfl) kX12_isPerson vX12_isPerson (by decide +kernel) (by decide +kernel) (by decide +kernel) rfl rfl ⟨rfl, rfl⟩ rfl rfl rfl rfl ?_
  refine mz_Go.run (gs := []) (st' := (if (fX12_isPerson x1 D) = 0 then (8, [some (.inr (.inr (some (0, 200)))), some (.inl x1), none, none, none, none], [], D) else (14, [some (.inr (.inr (some (0, 200)))), some (.inl x1), none, none, none, none], [], D))) bX12_chain_5 oX12_chain_5 rfl trivial ?_
  refine mz_Go.ite (fun hc1 => ?_) (fun hc1 => ?_)
  · have h := mz_ifp hc1 h
    refine mz_Go.run (gs := []) (st' := (10, [some (.inr (.inr (some (0, 200)))), some (.inl x1), none, none, none, none], [.inl (1 : Int32), .inr (.inr (some (0, 200)))], D)) bX12_chain_8 oX12_chain_8 rfl trivial ?_
    refine mz_Go.callV (I := IX12_chain) (J := IX12_refuse) (as := [.inl (1 : Int32)]) (ci := 12) (g := 0) (o := 200) (idx := 75) (pl := 1761) (rest := []) (mX12_refuse (1 : Int32) D) kX12_refuse vX12_refuse (by decide +kernel) (by decide +kernel) (by decide +kernel) rfl rfl ⟨rfl, rfl⟩ rfl rfl rfl rfl ?_
    cases h
    exact mz_Go.reti (by decide +kernel) rfl ⟨Nat.le_refl _, Nat.le_refl _⟩ rfl
  · have h := mz_ifn hc1 h
    refine mz_Go.run (gs := []) (st' := (20, [some (.inr (.inr (some (0, 200)))), some (.inl x1), some (.inl ((1 : Int32) <<< (x1 &&& 31))), some (.inl (0 : Int32)), none, none], [], D)) bX12_chain_14 oX12_chain_14 rfl trivial ?_
    exact mz_Go.drop [true, true, true, true, false, false] (tX12_chain_20 r mz_N x1 ((1 : Int32) <<< (x1 &&& 31)) (0 : Int32) D h)
