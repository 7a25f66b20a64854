def bX12_back_0 : List mz_E := [(0, .aload_n 0, 0, 0, 0, 0, 0), (1, .getfield 461, 12, 34, 1612, 0, 0), (4, .ifCond .ne 10, 0, 14, 0, 0, 0)]
theorem oX12_back_0 : bX12_back_0.all (mz_ok RX12 cX12_back 1) = true := by decide +kernel
def bX12_back_7 : List mz_E := [(7, .aload_n 0, 0, 0, 0, 0, 0), (8, .bipush 6, 0, 0, 0, 6, 0)]
theorem oX12_back_7 : bX12_back_7.all (mz_ok RX12 cX12_back 1) = true := by decide +kernel
def bX12_back_14 : List mz_E := [(14, .aload_n 0, 0, 0, 0, 0, 0), (15, .aload_n 0, 0, 0, 0, 0, 0), (16, .getfield 461, 12, 34, 1612, 0, 0), (19, .iconst 0, 0, 0, 0, 0, 0)]
theorem oX12_back_14 : bX12_back_14.all (mz_ok RX12 cX12_back 1) = true := by decide +kernel
def bX12_back_23 : List mz_E := [(23, .aload_n 0, 0, 0, 0, 0, 0), (24, .dup, 0, 0, 0, 0, 0), (25, .getfield 461, 12, 34, 1612, 0, 0), (28, .iconst 1, 0, 0, 0, 1, 0), (29, .isub, 0, 0, 0, 0, 0), (30, .putfield 461, 12, 34, 1612, 0, 0), (33, .aload_n 0, 0, 0, 0, 0, 0), (34, .aload_n 0, 0, 0, 0, 0, 0), (35, .getfield 461, 12, 34, 1612, 0, 0)]
theorem oX12_back_23 : bX12_back_23.all (mz_ok RX12 cX12_back 1) = true := by decide +kernel
abbrev IX12_back : mz_I := (yX12_back, cX12_back, 1, (some .int), 0, 1, 0, 0)
theorem kX12_back : mz_okm IX12_back 2304 142 2302 0 = true := by decide +kernel
theorem vX12_back : mz_okV IX12_back 2302 2303 = true := by decide +kernel
def fX12_back (D : mz_D) : Option (Int32 × mz_D) := (if (D.1 0 200 34) = 0 then (some ((-1 : Int32), (mz_wi D 0 200 2 (6 : Int32)))) else (Option.bind (fX12_copies (D.1 0 200 34) (0 : Int32) D) fun q2 => (some (((q2.1 0 200 34) - (1 : Int32)), (mz_wi (mz_wi q2 0 200 34 ((q2.1 0 200 34) - (1 : Int32))) 0 200 2 (0 : Int32))))))
set_option maxHeartbeats 4000000 in
theorem mX12_back (D : mz_D) (r : (Int32 × mz_D)) (h : fX12_back D = some r) : mz_Met IX12_back [.inr (.inr (some (0, 200)))] D (some (.inl r.1), r.2) := by
  refine mz_Met.of (by decide +kernel) (Nat.le_of_ble_eq_true rfl) ?_
  show mz_Go IX12_back (some (.inl r.1), r.2) 0 0 (0, [some (.inr (.inr (some (0, 200))))], [], D)
  rw [fX12_back] at h
  refine mz_Go.run (gs := [mz_kz 0 0 200]) (st' := (if (D.1 0 200 34) = 0 then (7, [some (.inr (.inr (some (0, 200))))], [], D) else (14, [some (.inr (.inr (some (0, 200))))], [], D))) bX12_back_0 oX12_back_0 rfl ⟨rfl, trivial⟩ ?_
  refine mz_Go.ite (fun hc1 => ?_) (fun hc1 => ?_)
  · have h := mz_ifp hc1 h
    refine mz_Go.run (gs := []) (st' := (10, [some (.inr (.inr (some (0, 200))))], [.inl (6 : Int32), .inr (.inr (some (0, 200)))], D)) bX12_back_7 oX12_back_7 rfl trivial ?_
    refine mz_Go.callV (J := IX12_refuse) (as := [.inl (6 : Int32)]) (ci := 12) (g := 0) (o := 200) (idx := 75) (pl := 1763) (rest := []) (mX12_refuse (6 : Int32) D) kX12_refuse vX12_refuse (by decide +kernel) (by decide +kernel) (by decide +kernel) rfl rfl ⟨rfl, rfl⟩ rfl rfl rfl rfl ?_
    cases h
    exact mz_Go.reti (by decide +kernel) rfl ⟨Nat.le_refl _, Nat.le_refl _⟩ rfl
  · have h := mz_ifn hc1 h
    refine mz_Go.run (gs := [mz_kz 0 0 200]) (st' := (20, [some (.inr (.inr (some (0, 200))))], [.inl (0 : Int32), .inl (D.1 0 200 34), .inr (.inr (some (0, 200)))], D)) bX12_back_14 oX12_back_14 rfl ⟨rfl, trivial⟩ ?_
    obtain ⟨q2, hq2, h⟩ := mz_bd_some h
    refine mz_Go.callV (J := IX12_copies) (as := [.inl (D.1 0 200 34), .inl (0 : Int32)]) (ci := 12) (g := 0) (o := 200) (idx := 464) (pl := 2297) (rest := []) (mX12_copies (D.1 0 200 34) (0 : Int32) D q2 hq2) kX12_copies vX12_copies (by decide +kernel) (by decide +kernel) (by decide +kernel) rfl rfl ⟨rfl, rfl⟩ rfl rfl rfl rfl ?_
    refine mz_Go.run (gs := [mz_kz 0 0 200, mz_kz 0 0 200, mz_kz 0 0 200]) (st' := (38, [some (.inr (.inr (some (0, 200))))], [.inl ((q2.1 0 200 34) - (1 : Int32)), .inr (.inr (some (0, 200)))], (mz_wi q2 0 200 34 ((q2.1 0 200 34) - (1 : Int32))))) bX12_back_23 oX12_back_23 rfl ⟨rfl, rfl, rfl, trivial⟩ ?_
    refine mz_Go.callV (J := IX12_gives) (as := [.inl ((q2.1 0 200 34) - (1 : Int32))]) (ci := 12) (g := 0) (o := 200) (idx := 79) (pl := 1846) (rest := []) (mX12_gives ((q2.1 0 200 34) - (1 : Int32)) (mz_wi q2 0 200 34 ((q2.1 0 200 34) - (1 : Int32)))) kX12_gives vX12_gives (by decide +kernel) (by decide +kernel) (by decide +kernel) rfl rfl ⟨rfl, rfl⟩ rfl rfl rfl rfl ?_
    cases h
    exact mz_Go.reti (by decide +kernel) rfl ⟨Nat.le_refl _, Nat.le_refl _⟩ rfl
