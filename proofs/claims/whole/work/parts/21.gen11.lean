def bX12_padded_0 : List mz_E := [(0, .iload_n 1, 0, 0, 0, 0, 0), (1, .i2l, 0, 0, 0, 0, 0), (2, .lconst 0, 0, 0, 0, 0, 0), (3, .ldc2_w 310, 0, 0, 1999, 0, 99999)]
theorem oX12_padded_0 : bX12_padded_0.all (mz_ok RX12 cX12_padded 2) = true := by decide +kernel
def bX12_padded_9 : List mz_E := [(9, .ifCond .eq 16, 0, 25, 0, 0, 0)]
theorem oX12_padded_9 : bX12_padded_9.all (mz_ok RX12 cX12_padded 2) = true := by decide +kernel
def bX12_padded_25 : List mz_E := [(25, .aload_n 0, 0, 0, 0, 0, 0), (26, .iconst 1, 0, 0, 0, 1, 0)]
theorem oX12_padded_25 : bX12_padded_25.all (mz_ok RX12 cX12_padded 2) = true := by decide +kernel
def bX12_padded_12 : List mz_E := [(12, .aload_n 0, 0, 0, 0, 0, 0), (13, .iload_n 1, 0, 0, 0, 0, 0), (14, .aload_n 0, 0, 0, 0, 0, 0)]
theorem oX12_padded_12 : bX12_padded_12.all (mz_ok RX12 cX12_padded 2) = true := by decide +kernel
def bX12_padded_18 : List mz_E := [(18, .isub, 0, 0, 0, 0, 0)]
theorem oX12_padded_18 : bX12_padded_18.all (mz_ok RX12 cX12_padded 2) = true := by decide +kernel
def bX12_padded_22 : List mz_E := [(22, .goto 8, 0, 30, 0, 0, 0)]
theorem oX12_padded_22 : bX12_padded_22.all (mz_ok RX12 cX12_padded 2) = true := by decide +kernel
abbrev IX12_padded : mz_I := (yX12_padded, cX12_padded, 2, (some .int), 0, 1, 0, 0)
theorem kX12_padded : mz_okm IX12_padded 1998 141 1996 1 = true := by decide +kernel
theorem vX12_padded : mz_okV IX12_padded 1996 1997 = true := by decide +kernel
def fX12_padded (x1 : Int32) (D : mz_D) : Option (Int32 × mz_D) := (if (fX12_isFrom (x1).toInt64 (0 : Int64) (99999 : Int64)) = 0 then (some ((-1 : Int32), (mz_wi D 0 200 2 (1 : Int32)))) else (Option.bind (fX12_bill D) fun q2 => (some ((x1 - q2), (mz_wi D 0 200 2 (0 : Int32))))))
set_option maxHeartbeats 4000000 in
theorem mX12_padded (x1 : Int32) (D : mz_D) (r : (Int32 × mz_D)) (h : fX12_padded x1 D = some r) : mz_Met IX12_padded [.inr (.inr (some (0, 200))), .inl x1] D (some (.inl r.1), r.2) := by
  refine mz_Met.of (by decide +kernel) (Nat.le_of_ble_eq_true rfl) ?_
  show mz_Go IX12_padded (some (.inl r.1), r.2) 0 0 (0, [some (.inr (.inr (some (0, 200)))), some (.inl x1)], [], D)
  rw [fX12_padded] at h
  refine mz_Go.run (gs := []) (st' := (6, [some (.inr (.inr (some (0, 200)))), some (.inl x1)], [.inr (.inl (99999 : Int64)), .inr (.inl (0 : Int64)), .inr (.inl (x1).toInt64)], D)) bX12_padded_0 oX12_padded_0 rfl trivial ?_
  refine mz_Go.callS (I := IX12_padded) (J := IX12_isFrom) (as := [.inr (.inl (x1).toInt64), .inr (.inl (0 : Int64)), .inr (.inl (99999 : Int64))]) (idx := 302) (pl := 1974) (rest := []) (mX12_isFrom (x1).toInt64 (0 : Int64) (99999 : Int64) D _ rfl) kX12_isFrom vX12_isFrom (by decide +kernel) (by decide +kernel) (by decide +kernel) rfl rfl ⟨rfl, rfl⟩ rfl ?_
  refine mz_Go.run (gs := []) (st' := (if (fX12_isFrom (x1).toInt64 (0 : Int64) (99999 : Int64)) = 0 then (25, [some (.inr (.inr (some (0, 200)))), some (.inl x1)], [], D) else (12, [some (.inr (.inr (some (0, 200)))), some (.inl x1)], [], D))) bX12_padded_9 oX12_padded_9 rfl trivial ?_
  refine mz_Go.ite (fun hc1 => ?_) (fun hc1 => ?_)
  · have h := mz_ifp hc1 h
    refine mz_Go.run (gs := []) (st' := (27, [some (.inr (.inr (some (0, 200)))), some (.inl x1)], [.inl (1 : Int32), .inr (.inr (some (0, 200)))], D)) bX12_padded_25 oX12_padded_25 rfl trivial ?_
    refine mz_Go.callV (I := IX12_padded) (J := IX12_refuse) (as := [.inl (1 : Int32)]) (ci := 12) (g := 0) (o := 200) (idx := 75) (pl := 1761) (rest := []) (mX12_refuse (1 : Int32) D) kX12_refuse vX12_refuse (by decide +kernel) (by decide +kernel) (by decide +kernel) rfl rfl ⟨rfl, rfl⟩ rfl rfl rfl rfl ?_
    cases h
    exact mz_Go.reti (by decide +kernel) rfl ⟨Nat.le_refl _, Nat.le_refl _⟩ rfl
  · have h := mz_ifn hc1 h
    refine mz_Go.run (gs := []) (st' := (15, [some (.inr (.inr (some (0, 200)))), some (.inl x1)], [.inr (.inr (some (0, 200))), .inl x1, .inr (.inr (some (0, 200)))], D)) bX12_padded_12 oX12_padded_12 rfl trivial ?_
    obtain ⟨q2, hq2, h⟩ := mz_bd_some h
    refine mz_Go.callV (I := IX12_padded) (J := IX12_bill) (as := []) (ci := 12) (g := 0) (o := 200) (idx := 273) (pl := 1876) (rest := [.inl x1, .inr (.inr (some (0, 200)))]) (mX12_bill D q2 hq2) kX12_bill vX12_bill (by decide +kernel) (by decide +kernel) (by decide +kernel) rfl rfl ⟨rfl, rfl⟩ rfl rfl rfl rfl ?_
    refine mz_Go.run (gs := []) (st' := (19, [some (.inr (.inr (some (0, 200)))), some (.inl x1)], [.inl (x1 - q2), .inr (.inr (some (0, 200)))], D)) bX12_padded_18 oX12_padded_18 rfl trivial ?_
    refine mz_Go.callV (I := IX12_padded) (J := IX12_gives) (as := [.inl (x1 - q2)]) (ci := 12) (g := 0) (o := 200) (idx := 79) (pl := 1844) (rest := []) (mX12_gives (x1 - q2) D) kX12_gives vX12_gives (by decide +kernel) (by decide +kernel) (by decide +kernel) rfl rfl ⟨rfl, rfl⟩ rfl rfl rfl rfl ?_
    refine mz_Go.run (gs := []) (st' := (30, [some (.inr (.inr (some (0, 200)))), some (.inl x1)], [.inl (x1 - q2)], (mz_wi D 0 200 2 (0 : Int32)))) bX12_padded_22 oX12_padded_22 rfl trivial ?_
    cases h
    exact mz_Go.reti (by decide +kernel) rfl ⟨Nat.le_refl _, Nat.le_refl _⟩ rfl
def bX12_pays_0 : List mz_E := [(0, .iconst 0, 0, 0, 0, 0, 0), (1, .istore_n 2, 0, 0, 0, 0, 0)]
theorem oX12_pays_0 : bX12_pays_0.all (mz_ok RX12 cX12_pays 3) = true := by decide +kernel
def bX12_pays_2 : List mz_E := [(2, .iload_n 2, 0, 0, 0, 0, 0), (3, .aload_n 0, 0, 0, 0, 0, 0), (4, .getfield 7, 12, 0, 1576, 0, 0), (7, .iconst 0, 0, 0, 0, 0, 0), (8, .iaload, 0, 0, 0, 0, 0), (9, .if_icmp .ge 44, 0, 53, 0, 0, 0)]
theorem oX12_pays_2 : bX12_pays_2.all (mz_ok RX12 cX12_pays 3) = true := by decide +kernel
def bX12_pays_53 : List mz_E := [(53, .iconst 0, 0, 0, 0, 0, 0), (54, .istore_n 2, 0, 0, 0, 0, 0)]
theorem oX12_pays_53 : bX12_pays_53.all (mz_ok RX12 cX12_pays 3) = true := by decide +kernel
def bX12_pays_55 : List mz_E := [(55, .iload_n 2, 0, 0, 0, 0, 0), (56, .aload_n 0, 0, 0, 0, 0, 0), (57, .getfield 7, 12, 0, 1576, 0, 0), (60, .iconst 0, 0, 0, 0, 0, 0), (61, .iaload, 0, 0, 0, 0, 0), (62, .if_icmp .ge 38, 0, 100, 0, 0, 0)]
theorem oX12_pays_55 : bX12_pays_55.all (mz_ok RX12 cX12_pays 3) = true := by decide +kernel
def bX12_pays_100 : List mz_E := [(100, .aload_n 0, 0, 0, 0, 0, 0), (101, .getfield 7, 12, 0, 1576, 0, 0), (104, .iload_n 1, 0, 0, 0, 0, 0)]
theorem oX12_pays_100 : bX12_pays_100.all (mz_ok RX12 cX12_pays 3) = true := by decide +kernel
def bX12_pays_108 : List mz_E := [(108, .iconst 5, 0, 0, 0, 5, 0), (109, .iadd, 0, 0, 0, 0, 0), (110, .dup2, 0, 0, 0, 0, 0), (111, .iaload, 0, 0, 0, 0, 0), (112, .iconst 1, 0, 0, 0, 1, 0), (113, .iadd, 0, 0, 0, 0, 0), (114, .iastore, 0, 0, 0, 0, 0), (115, .iconst 1, 0, 0, 0, 1, 0)]
theorem oX12_pays_108 : bX12_pays_108.all (mz_ok RX12 cX12_pays 3) = true := by decide +kernel
def bX12_pays_65 : List mz_E := [(65, .iload_n 2, 0, 0, 0, 0, 0), (66, .iload_n 1, 0, 0, 0, 0, 0), (67, .if_icmp .eq 27, 0, 94, 0, 0, 0)]
theorem oX12_pays_65 : bX12_pays_65.all (mz_ok RX12 cX12_pays 3) = true := by decide +kernel
def bX12_pays_94 : List mz_E := [(94, .iinc 2 1, 0, 0, 0, 1, 0), (97, .goto (-42), 0, 55, 0, 0, 0)]
theorem oX12_pays_94 : bX12_pays_94.all (mz_ok RX12 cX12_pays 3) = true := by decide +kernel
def bX12_pays_70 : List mz_E := [(70, .aload_n 0, 0, 0, 0, 0, 0), (71, .getfield 7, 12, 0, 1576, 0, 0), (74, .iload_n 2, 0, 0, 0, 0, 0), (75, .iload_n 1, 0, 0, 0, 0, 0)]
theorem oX12_pays_70 : bX12_pays_70.all (mz_ok RX12 cX12_pays 3) = true := by decide +kernel
def bX12_pays_79 : List mz_E := [(79, .dup2, 0, 0, 0, 0, 0), (80, .iaload, 0, 0, 0, 0, 0), (81, .aload_n 0, 0, 0, 0, 0, 0), (82, .iload_n 2, 0, 0, 0, 0, 0), (83, .aload_n 0, 0, 0, 0, 0, 0), (84, .getfield 7, 12, 0, 1576, 0, 0), (87, .iconst 3, 0, 0, 0, 3, 0), (88, .iaload, 0, 0, 0, 0, 0)]
theorem oX12_pays_79 : bX12_pays_79.all (mz_ok RX12 cX12_pays 3) = true := by decide +kernel
def bX12_pays_92 : List mz_E := [(92, .iadd, 0, 0, 0, 0, 0), (93, .iastore, 0, 0, 0, 0, 0), (94, .iinc 2 1, 0, 0, 0, 1, 0), (97, .goto (-42), 0, 55, 0, 0, 0)]
theorem oX12_pays_92 : bX12_pays_92.all (mz_ok RX12 cX12_pays 3) = true := by decide +kernel
def bX12_pays_12 : List mz_E := [(12, .iload_n 2, 0, 0, 0, 0, 0), (13, .iload_n 1, 0, 0, 0, 0, 0), (14, .if_icmp .eq 33, 0, 47, 0, 0, 0)]
theorem oX12_pays_12 : bX12_pays_12.all (mz_ok RX12 cX12_pays 3) = true := by decide +kernel
def bX12_pays_47 : List mz_E := [(47, .iinc 2 1, 0, 0, 0, 1, 0), (50, .goto (-48), 0, 2, 0, 0, 0)]
theorem oX12_pays_47 : bX12_pays_47.all (mz_ok RX12 cX12_pays 3) = true := by decide +kernel
def bX12_pays_17 : List mz_E := [(17, .aload_n 0, 0, 0, 0, 0, 0), (18, .getfield 7, 12, 0, 1576, 0, 0), (21, .iload_n 2, 0, 0, 0, 0, 0), (22, .iload_n 1, 0, 0, 0, 0, 0)]
theorem oX12_pays_17 : bX12_pays_17.all (mz_ok RX12 cX12_pays 3) = true := by decide +kernel
def bX12_pays_26 : List mz_E := [(26, .iaload, 0, 0, 0, 0, 0), (27, .aload_n 0, 0, 0, 0, 0, 0), (28, .iload_n 2, 0, 0, 0, 0, 0), (29, .aload_n 0, 0, 0, 0, 0, 0), (30, .getfield 7, 12, 0, 1576, 0, 0), (33, .iconst 3, 0, 0, 0, 3, 0), (34, .iaload, 0, 0, 0, 0, 0)]
theorem oX12_pays_26 : bX12_pays_26.all (mz_ok RX12 cX12_pays 3) = true := by decide +kernel
def bX12_pays_38 : List mz_E := [(38, .iadd, 0, 0, 0, 0, 0), (39, .ldc_w 315, 0, 0, 2011, 999999, 0), (42, .if_icmp .le 5, 0, 47, 0, 0, 0)]
theorem oX12_pays_38 : bX12_pays_38.all (mz_ok RX12 cX12_pays 3) = true := by decide +kernel
def bX12_pays_45 : List mz_E := [(45, .iconst 0, 0, 0, 0, 0, 0)]
theorem oX12_pays_45 : bX12_pays_45.all (mz_ok RX12 cX12_pays 3) = true := by decide +kernel
abbrev IX12_pays : mz_I := (yX12_pays, cX12_pays, 3, (some .boolean), 0, 4, 0, 0)
theorem kX12_pays : mz_okm IX12_pays 2007 141 2006 1 = true := by decide +kernel
theorem vX12_pays : mz_okV IX12_pays 2006 91 = true := by decide +kernel
def fX12_pays_55 : Nat → Int32 → Int32 → mz_D → Option (Int32 × mz_D)
  | 0 => fun _ _ _ => none
  | n + 1 => fun x1 x2 D => (if (D.1 0 201 ((0 : Int32)).toNatClampNeg) ≤ x2 then (mz_gd (mz_ix (((12 : Int32) + ((8 : Int32) * x1)) + (5 : Int32)) 3000) (some ((1 : Int32), (mz_wi D 0 201 ((((12 : Int32) + ((8 : Int32) * x1)) + (5 : Int32))).toNatClampNeg ((D.1 0 201 ((((12 : Int32) + ((8 : Int32) * x1)) + (5 : Int32))).toNatClampNeg) + (1 : Int32)))))) else (if x2 = x1 then ((fX12_pays_55 n) x1 (x2 + (1 : Int32)) D) else (mz_gd (mz_ix (((92 : Int32) + ((6 : Int32) * x2)) + x1) 3000) (Option.bind (fX12_dueBy x2 (D.1 0 201 ((3 : Int32)).toNatClampNeg) D) fun q5 => ((fX12_pays_55 n) x1 (x2 + (1 : Int32)) (mz_wi D 0 201 ((((92 : Int32) + ((6 : Int32) * x2)) + x1)).toNatClampNeg ((D.1 0 201 ((((92 : Int32) + ((6 : Int32) * x2)) + x1)).toNatClampNeg) + q5)))))))
set_option maxHeartbeats 4000000 in
theorem tX12_pays_55 (r : (Int32 × mz_D)) : ∀ (n : Nat) (x1 : Int32) (x2 : Int32) (D : mz_D), fX12_pays_55 n x1 x2 D = some r → mz_Go IX12_pays (some (.inl r.1), r.2) 0 0 (55, [some (.inr (.inr (some (0, 200)))), some (.inl x1), some (.inl x2)], [], D) := by
  intro n
  induction n with
  | zero => intro x1 x2 D h; have h : (none : Option (Int32 × mz_D)) = some r := h; cases h
  | succ n ih =>
    intro x1 x2 D h
    rw [fX12_pays_55] at h
    refine mz_Go.run (gs := [mz_kz 0 0 200, mz_kz 0 0 201, mz_ix (0 : Int32) 3000]) (st' := (if (D.1 0 201 ((0 : Int32)).toNatClampNeg) ≤ x2 then (100, [some (.inr (.inr (some (0, 200)))), some (.inl x1), some (.inl x2)], [], D) else (65, [some (.inr (.inr (some (0, 200)))), some (.inl x1), some (.inl x2)], [], D))) bX12_pays_55 oX12_pays_55 rfl ⟨rfl, rfl, (by decide), trivial⟩ ?_
    refine mz_Go.ite (fun hc1 => ?_) (fun hc1 => ?_)
    · have h := mz_ifp hc1 h
      refine mz_Go.run (gs := [mz_kz 0 0 200]) (st' := (105, [some (.inr (.inr (some (0, 200)))), some (.inl x1), some (.inl x2)], [.inl x1, .inr (.inr (some (0, 201)))], D)) bX12_pays_100 oX12_pays_100 rfl ⟨rfl, trivial⟩ ?_
      refine mz_Go.callS (I := IX12_pays) (J := IX12_personRow) (as := [.inl x1]) (idx := 267) (pl := 1895) (rest := [.inr (.inr (some (0, 201)))]) (mX12_personRow x1 D) kX12_personRow vX12_personRow (by decide +kernel) (by decide +kernel) (by decide +kernel) rfl rfl ⟨rfl, rfl⟩ rfl ?_
      obtain ⟨hb2, h⟩ := mz_gd_some h
      refine mz_Go.run (gs := [mz_kz 0 0 201, mz_ix (((12 : Int32) + ((8 : Int32) * x1)) + (5 : Int32)) 3000, mz_kz 0 0 201, mz_ix (((12 : Int32) + ((8 : Int32) * x1)) + (5 : Int32)) 3000]) (st' := (116, [some (.inr (.inr (some (0, 200)))), some (.inl x1), some (.inl x2)], [.inl (1 : Int32)], (mz_wi D 0 201 ((((12 : Int32) + ((8 : Int32) * x1)) + (5 : Int32))).toNatClampNeg ((D.1 0 201 ((((12 : Int32) + ((8 : Int32) * x1)) + (5 : Int32))).toNatClampNeg) + (1 : Int32))))) bX12_pays_108 oX12_pays_108 rfl ⟨rfl, hb2, rfl, hb2, trivial⟩ ?_
      cases h
      exact mz_Go.retz (by decide +kernel) rfl ⟨Nat.le_refl _, Nat.le_refl _⟩ (by decide) rfl
    · have h := mz_ifn hc1 h
      refine mz_Go.run (gs := []) (st' := (if x2 = x1 then (94, [some (.inr (.inr (some (0, 200)))), some (.inl x1), some (.inl x2)], [], D) else (70, [some (.inr (.inr (some (0, 200)))), some (.inl x1), some (.inl x2)], [], D))) bX12_pays_65 oX12_pays_65 rfl trivial ?_
      refine mz_Go.ite (fun hc3 => ?_) (fun hc3 => ?_)
      · have h := mz_ifp hc3 h
        refine mz_Go.run (gs := []) (st' := (55, [some (.inr (.inr (some (0, 200)))), some (.inl x1), some (.inl (x2 + (1 : Int32)))], [], D)) bX12_pays_94 oX12_pays_94 rfl trivial ?_
        exact mz_Go.drop [true, true, true] (ih x1 (x2 + (1 : Int32)) D h)
      · have h := mz_ifn hc3 h
        refine mz_Go.run (gs := [mz_kz 0 0 200]) (st' := (76, [some (.inr (.inr (some (0, 200)))), some (.inl x1), some (.inl x2)], [.inl x1, .inl x2, .inr (.inr (some (0, 201)))], D)) bX12_pays_70 oX12_pays_70 rfl ⟨rfl, trivial⟩ ?_
        refine mz_Go.callS (I := IX12_pays) (J := IX12_debtRow) (as := [.inl x2, .inl x1]) (idx := 312) (pl := 2008) (rest := [.inr (.inr (some (0, 201)))]) (mX12_debtRow x2 x1 D) kX12_debtRow vX12_debtRow (by decide +kernel) (by decide +kernel) (by decide +kernel) rfl rfl ⟨rfl, rfl⟩ rfl ?_
        obtain ⟨hb4, h⟩ := mz_gd_some h
        refine mz_Go.run (gs := [mz_kz 0 0 201, mz_ix (((92 : Int32) + ((6 : Int32) * x2)) + x1) 3000, mz_kz 0 0 200, mz_kz 0 0 201, mz_ix (3 : Int32) 3000]) (st' := (89, [some (.inr (.inr (some (0, 200)))), some (.inl x1), some (.inl x2)], [.inl (D.1 0 201 ((3 : Int32)).toNatClampNeg), .inl x2, .inr (.inr (some (0, 200))), .inl (D.1 0 201 ((((92 : Int32) + ((6 : Int32) * x2)) + x1)).toNatClampNeg), .inl (((92 : Int32) + ((6 : Int32) * x2)) + x1), .inr (.inr (some (0, 201)))], D)) bX12_pays_79 oX12_pays_79 rfl ⟨rfl, hb4, rfl, rfl, (by decide), trivial⟩ ?_
        obtain ⟨q5, hq5, h⟩ := mz_bd_some h
        refine mz_Go.callV (I := IX12_pays) (J := IX12_dueBy) (as := [.inl x2, .inl (D.1 0 201 ((3 : Int32)).toNatClampNeg)]) (ci := 12) (g := 0) (o := 200) (idx := 282) (pl := 1936) (rest := [.inl (D.1 0 201 ((((92 : Int32) + ((6 : Int32) * x2)) + x1)).toNatClampNeg), .inl (((92 : Int32) + ((6 : Int32) * x2)) + x1), .inr (.inr (some (0, 201)))]) (mX12_dueBy x2 (D.1 0 201 ((3 : Int32)).toNatClampNeg) D q5 hq5) kX12_dueBy vX12_dueBy (by decide +kernel) (by decide +kernel) (by decide +kernel) rfl rfl ⟨rfl, rfl⟩ rfl rfl rfl rfl ?_
        refine mz_Go.run (gs := [mz_kz 0 0 201, mz_ix (((92 : Int32) + ((6 : Int32) * x2)) + x1) 3000]) (st' := (55, [some (.inr (.inr (some (0, 200)))), some (.inl x1), some (.inl (x2 + (1 : Int32)))], [], (mz_wi D 0 201 ((((92 : Int32) + ((6 : Int32) * x2)) + x1)).toNatClampNeg ((D.1 0 201 ((((92 : Int32) + ((6 : Int32) * x2)) + x1)).toNatClampNeg) + q5)))) bX12_pays_92 oX12_pays_92 rfl ⟨rfl, hb4, trivial⟩ ?_
        exact mz_Go.drop [true, true, true] (ih x1 (x2 + (1 : Int32)) (mz_wi D 0 201 ((((92 : Int32) + ((6 : Int32) * x2)) + x1)).toNatClampNeg ((D.1 0 201 ((((92 : Int32) + ((6 : Int32) * x2)) + x1)).toNatClampNeg) + q5)) h)
def fX12_pays_2 : Nat → Int32 → Int32 → mz_D → Option (Int32 × mz_D)
  | 0 => fun _ _ _ => none
  | n + 1 => fun x1 x2 D => (if (D.1 0 201 ((0 : Int32)).toNatClampNeg) ≤ x2 then (fX12_pays_55 mz_N x1 (0 : Int32) D) else (if x2 = x1 then ((fX12_pays_2 n) x1 (x2 + (1 : Int32)) D) else (mz_gd (mz_ix (((92 : Int32) + ((6 : Int32) * x2)) + x1) 3000) (Option.bind (fX12_dueBy x2 (D.1 0 201 ((3 : Int32)).toNatClampNeg) D) fun q4 => (if ((D.1 0 201 ((((92 : Int32) + ((6 : Int32) * x2)) + x1)).toNatClampNeg) + q4) ≤ (999999 : Int32) then ((fX12_pays_2 n) x1 (x2 + (1 : Int32)) D) else (some ((0 : Int32), D)))))))
set_option maxHeartbeats 4000000 in
theorem tX12_pays_2 (r : (Int32 × mz_D)) : ∀ (n : Nat) (x1 : Int32) (x2 : Int32) (D : mz_D), fX12_pays_2 n x1 x2 D = some r → mz_Go IX12_pays (some (.inl r.1), r.2) 0 0 (2, [some (.inr (.inr (some (0, 200)))), some (.inl x1), some (.inl x2)], [], D) := by
  intro n
  induction n with
  | zero => intro x1 x2 D h; have h : (none : Option (Int32 × mz_D)) = some r := h; cases h
  | succ n ih =>
    intro x1 x2 D h
    rw [fX12_pays_2] at h
    refine mz_Go.run (gs := [mz_kz 0 0 200, mz_kz 0 0 201, mz_ix (0 : Int32) 3000]) (st' := (if (D.1 0 201 ((0 : Int32)).toNatClampNeg) ≤ x2 then (53, [some (.inr (.inr (some (0, 200)))), some (.inl x1), some (.inl x2)], [], D) else (12, [some (.inr (.inr (some (0, 200)))), some (.inl x1), some (.inl x2)], [], D))) bX12_pays_2 oX12_pays_2 rfl ⟨rfl, rfl, (by decide), trivial⟩ ?_
    refine mz_Go.ite (fun hc1 => ?_) (fun hc1 => ?_)
    · have h := mz_ifp hc1 h
      refine mz_Go.run (gs := []) (st' := (55, [some (.inr (.inr (some (0, 200)))), some (.inl x1), some (.inl (0 : Int32))], [], D)) bX12_pays_53 oX12_pays_53 rfl trivial ?_
      exact mz_Go.drop [true, true, true] (tX12_pays_55 r mz_N x1 (0 : Int32) D h)
    · have h := mz_ifn hc1 h
      refine mz_Go.run (gs := []) (st' := (if x2 = x1 then (47, [some (.inr (.inr (some (0, 200)))), some (.inl x1), some (.inl x2)], [], D) else (17, [some (.inr (.inr (some (0, 200)))), some (.inl x1), some (.inl x2)], [], D))) bX12_pays_12 oX12_pays_12 rfl trivial ?_
      refine mz_Go.ite (fun hc2 => ?_) (fun hc2 => ?_)
      · have h := mz_ifp hc2 h
        refine mz_Go.run (gs := []) (st' := (2, [some (.inr (.inr (some (0, 200)))), some (.inl x1), some (.inl (x2 + (1 : Int32)))], [], D)) bX12_pays_47 oX12_pays_47 rfl trivial ?_
        exact mz_Go.drop [true, true, true] (ih x1 (x2 + (1 : Int32)) D h)
      · have h := mz_ifn hc2 h
        refine mz_Go.run (gs := [mz_kz 0 0 200]) (st' := (23, [some (.inr (.inr (some (0, 200)))), some (.inl x1), some (.inl x2)], [.inl x1, .inl x2, .inr (.inr (some (0, 201)))], D)) bX12_pays_17 oX12_pays_17 rfl ⟨rfl, trivial⟩ ?_
        refine mz_Go.callS (I := IX12_pays) (J := IX12_debtRow) (as := [.inl x2, .inl x1]) (idx := 312) (pl := 2008) (rest := [.inr (.inr (some (0, 201)))]) (mX12_debtRow x2 x1 D) kX12_debtRow vX12_debtRow (by decide +kernel) (by decide +kernel) (by decide +kernel) rfl rfl ⟨rfl, rfl⟩ rfl ?_
        obtain ⟨hb3, h⟩ := mz_gd_some h
        refine mz_Go.run (gs := [mz_kz 0 0 201, mz_ix (((92 : Int32) + ((6 : Int32) * x2)) + x1) 3000, mz_kz 0 0 200, mz_kz 0 0 201, mz_ix (3 : Int32) 3000]) (st' := (35, [some (.inr (.inr (some (0, 200)))), some (.inl x1), some (.inl x2)], [.inl (D.1 0 201 ((3 : Int32)).toNatClampNeg), .inl x2, .inr (.inr (some (0, 200))), .inl (D.1 0 201 ((((92 : Int32) + ((6 : Int32) * x2)) + x1)).toNatClampNeg)], D)) bX12_pays_26 oX12_pays_26 rfl ⟨rfl, hb3, rfl, rfl, (by decide), trivial⟩ ?_
        obtain ⟨q4, hq4, h⟩ := mz_bd_some h
        refine mz_Go.callV (I := IX12_pays) (J := IX12_dueBy) (as := [.inl x2, .inl (D.1 0 201 ((3 : Int32)).toNatClampNeg)]) (ci := 12) (g := 0) (o := 200) (idx := 282) (pl := 1936) (rest := [.inl (D.1 0 201 ((((92 : Int32) + ((6 : Int32) * x2)) + x1)).toNatClampNeg)]) (mX12_dueBy x2 (D.1 0 201 ((3 : Int32)).toNatClampNeg) D q4 hq4) kX12_dueBy vX12_dueBy (by decide +kernel) (by decide +kernel) (by decide +kernel) rfl rfl ⟨rfl, rfl⟩ rfl rfl rfl rfl ?_
        refine mz_Go.run (gs := []) (st' := (if ((D.1 0 201 ((((92 : Int32) + ((6 : Int32) * x2)) + x1)).toNatClampNeg) + q4) ≤ (999999 : Int32) then (47, [some (.inr (.inr (some (0, 200)))), some (.inl x1), some (.inl x2)], [], D) else (45, [some (.inr (.inr (some (0, 200)))), some (.inl x1), some (.inl x2)], [], D))) bX12_pays_38 oX12_pays_38 rfl trivial ?_
        refine mz_Go.ite (fun hc5 => ?_) (fun hc5 => ?_)
        · have h := mz_ifp hc5 h
          refine mz_Go.run (gs := []) (st' := (2, [some (.inr (.inr (some (0, 200)))), some (.inl x1), some (.inl (x2 + (1 : Int32)))], [], D)) bX12_pays_47 oX12_pays_47 rfl trivial ?_
          exact mz_Go.drop [true, true, true] (ih x1 (x2 + (1 : Int32)) D h)
        · have h := mz_ifn hc5 h
          refine mz_Go.run (gs := []) (st' := (46, [some (.inr (.inr (some (0, 200)))), some (.inl x1), some (.inl x2)], [.inl (0 : Int32)], D)) bX12_pays_45 oX12_pays_45 rfl trivial ?_
          cases h
          exact mz_Go.retz (by decide +kernel) rfl ⟨Nat.le_refl _, Nat.le_refl _⟩ (by decide) rfl
def fX12_pays (x1 : Int32) (D : mz_D) : Option (Int32 × mz_D) := (fX12_pays_2 mz_N x1 (0 : Int32) D)
set_option maxHeartbeats 4000000 in
theorem mX12_pays (x1 : Int32) (D : mz_D) (r : (Int32 × mz_D)) (h : fX12_pays x1 D = some r) : mz_Met IX12_pays [.inr (.inr (some (0, 200))), .inl x1] D (some (.inl r.1), r.2) := by
  refine mz_Met.of (by decide +kernel) (Nat.le_of_ble_eq_true rfl) ?_
  show mz_Go IX12_pays (some (.inl r.1), r.2) 0 0 (0, [some (.inr (.inr (some (0, 200)))), some (.inl x1), none], [], D)
  rw [fX12_pays] at h
  refine mz_Go.run (gs := []) (st' := (2, [some (.inr (.inr (some (0, 200)))), some (.inl x1), some (.inl (0 : Int32))], [], D)) bX12_pays_0 oX12_pays_0 rfl trivial ?_
  exact mz_Go.drop [true, true, true] (tX12_pays_2 r mz_N x1 (0 : Int32) D h)
def bX12_pay_0 : List mz_E := [(0, .aload_n 0, 0, 0, 0, 0, 0), (1, .iload_n 1, 0, 0, 0, 0, 0)]
theorem oX12_pay_0 : bX12_pay_0.all (mz_ok RX12 cX12_pay 2) = true := by decide +kernel
def bX12_pay_5 : List mz_E := [(5, .ifCond .ne 9, 0, 14, 0, 0, 0)]
theorem oX12_pay_5 : bX12_pay_5.all (mz_ok RX12 cX12_pay 2) = true := by decide +kernel
def bX12_pay_8 : List mz_E := [(8, .aload_n 0, 0, 0, 0, 0, 0), (9, .iconst 1, 0, 0, 0, 1, 0)]
theorem oX12_pay_8 : bX12_pay_8.all (mz_ok RX12 cX12_pay 2) = true := by decide +kernel
def bX12_pay_14 : List mz_E := [(14, .aload_n 0, 0, 0, 0, 0, 0), (15, .iload_n 1, 0, 0, 0, 0, 0)]
theorem oX12_pay_14 : bX12_pay_14.all (mz_ok RX12 cX12_pay 2) = true := by decide +kernel
def bX12_pay_19 : List mz_E := [(19, .ifCond .eq 21, 0, 40, 0, 0, 0)]
theorem oX12_pay_19 : bX12_pay_19.all (mz_ok RX12 cX12_pay 2) = true := by decide +kernel
def bX12_pay_40 : List mz_E := [(40, .aload_n 0, 0, 0, 0, 0, 0), (41, .bipush 7, 0, 0, 0, 7, 0)]
theorem oX12_pay_40 : bX12_pay_40.all (mz_ok RX12 cX12_pay 2) = true := by decide +kernel
def bX12_pay_22 : List mz_E := [(22, .aload_n 0, 0, 0, 0, 0, 0), (23, .aload_n 0, 0, 0, 0, 0, 0), (24, .getfield 7, 12, 0, 1576, 0, 0), (27, .iload_n 1, 0, 0, 0, 0, 0)]
theorem oX12_pay_22 : bX12_pay_22.all (mz_ok RX12 cX12_pay 2) = true := by decide +kernel
def bX12_pay_31 : List mz_E := [(31, .iconst 5, 0, 0, 0, 5, 0), (32, .iadd, 0, 0, 0, 0, 0), (33, .iaload, 0, 0, 0, 0, 0)]
theorem oX12_pay_31 : bX12_pay_31.all (mz_ok RX12 cX12_pay 2) = true := by decide +kernel
def bX12_pay_37 : List mz_E := [(37, .goto 9, 0, 46, 0, 0, 0)]
theorem oX12_pay_37 : bX12_pay_37.all (mz_ok RX12 cX12_pay 2) = true := by decide +kernel
abbrev IX12_pay : mz_I := (yX12_pay, cX12_pay, 2, (some .int), 0, 5, 0, 0)
theorem kX12_pay : mz_okm IX12_pay 2003 141 2001 1 = true := by decide +kernel
theorem vX12_pay : mz_okV IX12_pay 2001 2002 = true := by decide +kernel
def fX12_pay (x1 : Int32) (D : mz_D) : Option (Int32 × mz_D) := (if (fX12_isPerson x1 D) = 0 then (some ((-1 : Int32), (mz_wi D 0 200 2 (1 : Int32)))) else (Option.bind (fX12_pays x1 D) fun q2 => (if q2.1 = 0 then (some ((-1 : Int32), (mz_wi q2.2 0 200 2 (7 : Int32)))) else (mz_gd (mz_ix (((12 : Int32) + ((8 : Int32) * x1)) + (5 : Int32)) 3000) (some ((q2.2.1 0 201 ((((12 : Int32) + ((8 : Int32) * x1)) + (5 : Int32))).toNatClampNeg), (mz_wi q2.2 0 200 2 (0 : Int32))))))))
set_option maxHeartbeats 4000000 in
theorem mX12_pay (x1 : Int32) (D : mz_D) (r : (Int32 × mz_D)) (h : fX12_pay x1 D = some r) : mz_Met IX12_pay [.inr (.inr (some (0, 200))), .inl x1] D (some (.inl r.1), r.2) := by
  refine mz_Met.of (by decide +kernel) (Nat.le_of_ble_eq_true rfl) ?_
  show mz_Go IX12_pay (some (.inl r.1), r.2) 0 0 (0, [some (.inr (.inr (some (0, 200)))), some (.inl x1)], [], D)
  rw [fX12_pay] at h
  refine mz_Go.run (gs := []) (st' := (2, [some (.inr (.inr (some (0, 200)))), some (.inl x1)], [.inl x1, .inr (.inr (some (0, 200)))], D)) bX12_pay_0 oX12_pay_0 rfl trivial ?_
  refine mz_Go.callV (I := IX12_pay) (J := IX12_isPerson) (as := [.inl x1]) (ci := 12) (g := 0) (o := 200) (idx := 248) (pl := 1902) (rest := []) (mX12_isPerson x1 D _ rfl) kX12_isPerson vX12_isPerson (by decide +kernel) (by decide +kernel) (by decide +kernel) rfl rfl ⟨rfl, rfl⟩ rfl rfl rfl rfl ?_
  refine mz_Go.run (gs := []) (st' := (if (fX12_isPerson x1 D) = 0 then (8, [some (.inr (.inr (some (0, 200)))), some (.inl x1)], [], D) else (14, [some (.inr (.inr (some (0, 200)))), some (.inl x1)], [], D))) bX12_pay_5 oX12_pay_5 rfl trivial ?_
  refine mz_Go.ite (fun hc1 => ?_) (fun hc1 => ?_)
  · have h := mz_ifp hc1 h
    refine mz_Go.run (gs := []) (st' := (10, [some (.inr (.inr (some (0, 200)))), some (.inl x1)], [.inl (1 : Int32), .inr (.inr (some (0, 200)))], D)) bX12_pay_8 oX12_pay_8 rfl trivial ?_
    refine mz_Go.callV (I := IX12_pay) (J := IX12_refuse) (as := [.inl (1 : Int32)]) (ci := 12) (g := 0) (o := 200) (idx := 75) (pl := 1761) (rest := []) (mX12_refuse (1 : Int32) D) kX12_refuse vX12_refuse (by decide +kernel) (by decide +kernel) (by decide +kernel) rfl rfl ⟨rfl, rfl⟩ rfl rfl rfl rfl ?_
    cases h
    exact mz_Go.reti (by decide +kernel) rfl ⟨Nat.le_refl _, Nat.le_refl _⟩ rfl
  · have h := mz_ifn hc1 h
    refine mz_Go.run (gs := []) (st' := (16, [some (.inr (.inr (some (0, 200)))), some (.inl x1)], [.inl x1, .inr (.inr (some (0, 200)))], D)) bX12_pay_14 oX12_pay_14 rfl trivial ?_
    obtain ⟨q2, hq2, h⟩ := mz_bd_some h
    refine mz_Go.callV (I := IX12_pay) (J := IX12_pays) (as := [.inl x1]) (ci := 12) (g := 0) (o := 200) (idx := 316) (pl := 2004) (rest := []) (mX12_pays x1 D q2 hq2) kX12_pays vX12_pays (by decide +kernel) (by decide +kernel) (by decide +kernel) rfl rfl ⟨rfl, rfl⟩ rfl rfl rfl rfl ?_
    refine mz_Go.run (gs := []) (st' := (if q2.1 = 0 then (40, [some (.inr (.inr (some (0, 200)))), some (.inl x1)], [], q2.2) else (22, [some (.inr (.inr (some (0, 200)))), some (.inl x1)], [], q2.2))) bX12_pay_19 oX12_pay_19 rfl trivial ?_
    refine mz_Go.ite (fun hc3 => ?_) (fun hc3 => ?_)
    · have h := mz_ifp hc3 h
      refine mz_Go.run (gs := []) (st' := (43, [some (.inr (.inr (some (0, 200)))), some (.inl x1)], [.inl (7 : Int32), .inr (.inr (some (0, 200)))], q2.2)) bX12_pay_40 oX12_pay_40 rfl trivial ?_
      refine mz_Go.callV (I := IX12_pay) (J := IX12_refuse) (as := [.inl (7 : Int32)]) (ci := 12) (g := 0) (o := 200) (idx := 75) (pl := 1761) (rest := []) (mX12_refuse (7 : Int32) q2.2) kX12_refuse vX12_refuse (by decide +kernel) (by decide +kernel) (by decide +kernel) rfl rfl ⟨rfl, rfl⟩ rfl rfl rfl rfl ?_
      cases h
      exact mz_Go.reti (by decide +kernel) rfl ⟨Nat.le_refl _, Nat.le_refl _⟩ rfl
    · have h := mz_ifn hc3 h
      refine mz_Go.run (gs := [mz_kz 0 0 200]) (st' := (28, [some (.inr (.inr (some (0, 200)))), some (.inl x1)], [.inl x1, .inr (.inr (some (0, 201))), .inr (.inr (some (0, 200)))], q2.2)) bX12_pay_22 oX12_pay_22 rfl ⟨rfl, trivial⟩ ?_
      refine mz_Go.callS (I := IX12_pay) (J := IX12_personRow) (as := [.inl x1]) (idx := 267) (pl := 1895) (rest := [.inr (.inr (some (0, 201))), .inr (.inr (some (0, 200)))]) (mX12_personRow x1 q2.2) kX12_personRow vX12_personRow (by decide +kernel) (by decide +kernel) (by decide +kernel) rfl rfl ⟨rfl, rfl⟩ rfl ?_
      obtain ⟨hb4, h⟩ := mz_gd_some h
      refine mz_Go.run (gs := [mz_kz 0 0 201, mz_ix (((12 : Int32) + ((8 : Int32) * x1)) + (5 : Int32)) 3000]) (st' := (34, [some (.inr (.inr (some (0, 200)))), some (.inl x1)], [.inl (q2.2.1 0 201 ((((12 : Int32) + ((8 : Int32) * x1)) + (5 : Int32))).toNatClampNeg), .inr (.inr (some (0, 200)))], q2.2)) bX12_pay_31 oX12_pay_31 rfl ⟨rfl, hb4, trivial⟩ ?_
      refine mz_Go.callV (I := IX12_pay) (J := IX12_gives) (as := [.inl (q2.2.1 0 201 ((((12 : Int32) + ((8 : Int32) * x1)) + (5 : Int32))).toNatClampNeg)]) (ci := 12) (g := 0) (o := 200) (idx := 79) (pl := 1844) (rest := []) (mX12_gives (q2.2.1 0 201 ((((12 : Int32) + ((8 : Int32) * x1)) + (5 : Int32))).toNatClampNeg) q2.2) kX12_gives vX12_gives (by decide +kernel) (by decide +kernel) (by decide +kernel) rfl rfl ⟨rfl, rfl⟩ rfl rfl rfl rfl ?_
      refine mz_Go.run (gs := []) (st' := (46, [some (.inr (.inr (some (0, 200)))), some (.inl x1)], [.inl (q2.2.1 0 201 ((((12 : Int32) + ((8 : Int32) * x1)) + (5 : Int32))).toNatClampNeg)], (mz_wi q2.2 0 200 2 (0 : Int32)))) bX12_pay_37 oX12_pay_37 rfl trivial ?_
      cases h
      exact mz_Go.reti (by decide +kernel) rfl ⟨Nat.le_refl _, Nat.le_refl _⟩ rfl
def bX12_balanceOf_0 : List mz_E := [(0, .iconst 0, 0, 0, 0, 0, 0), (1, .istore_n 2, 0, 0, 0, 0, 0), (2, .iconst 0, 0, 0, 0, 0, 0), (3, .istore_n 3, 0, 0, 0, 0, 0)]
theorem oX12_balanceOf_0 : bX12_balanceOf_0.all (mz_ok RX12 cX12_balanceOf 4) = true := by decide +kernel
def bX12_balanceOf_4 : List mz_E := [(4, .iload_n 3, 0, 0, 0, 0, 0), (5, .aload_n 0, 0, 0, 0, 0, 0), (6, .getfield 7, 12, 0, 1576, 0, 0), (9, .iconst 0, 0, 0, 0, 0, 0), (10, .iaload, 0, 0, 0, 0, 0), (11, .if_icmp .ge 33, 0, 44, 0, 0, 0)]
theorem oX12_balanceOf_4 : bX12_balanceOf_4.all (mz_ok RX12 cX12_balanceOf 4) = true := by decide +kernel
def bX12_balanceOf_44 : List mz_E := [(44, .iload_n 2, 0, 0, 0, 0, 0)]
theorem oX12_balanceOf_44 : bX12_balanceOf_44.all (mz_ok RX12 cX12_balanceOf 4) = true := by decide +kernel
def bX12_balanceOf_14 : List mz_E := [(14, .iload_n 2, 0, 0, 0, 0, 0), (15, .aload_n 0, 0, 0, 0, 0, 0), (16, .getfield 7, 12, 0, 1576, 0, 0), (19, .iload_n 3, 0, 0, 0, 0, 0), (20, .iload_n 1, 0, 0, 0, 0, 0)]
theorem oX12_balanceOf_14 : bX12_balanceOf_14.all (mz_ok RX12 cX12_balanceOf 4) = true := by decide +kernel
def bX12_balanceOf_24 : List mz_E := [(24, .iaload, 0, 0, 0, 0, 0), (25, .aload_n 0, 0, 0, 0, 0, 0), (26, .getfield 7, 12, 0, 1576, 0, 0), (29, .iload_n 1, 0, 0, 0, 0, 0), (30, .iload_n 3, 0, 0, 0, 0, 0)]
theorem oX12_balanceOf_24 : bX12_balanceOf_24.all (mz_ok RX12 cX12_balanceOf 4) = true := by decide +kernel
def bX12_balanceOf_34 : List mz_E := [(34, .iaload, 0, 0, 0, 0, 0), (35, .isub, 0, 0, 0, 0, 0), (36, .iadd, 0, 0, 0, 0, 0), (37, .istore_n 2, 0, 0, 0, 0, 0), (38, .iinc 3 1, 0, 0, 0, 1, 0), (41, .goto (-37), 0, 4, 0, 0, 0)]
theorem oX12_balanceOf_34 : bX12_balanceOf_34.all (mz_ok RX12 cX12_balanceOf 4) = true := by decide +kernel
abbrev IX12_balanceOf : mz_I := (yX12_balanceOf, cX12_balanceOf, 4, (some .int), 0, 1, 0, 0)
theorem kX12_balanceOf : mz_okm IX12_balanceOf 2027 141 2026 1 = true := by decide +kernel
theorem vX12_balanceOf : mz_okV IX12_balanceOf 2026 94 = true := by decide +kernel
def fX12_balanceOf_4 (D : mz_D) : Nat → Int32 → Int32 → Int32 → Option Int32
  | 0 => fun _ _ _ => none
  | n + 1 => fun x1 x2 x3 => (if (D.1 0 201 ((0 : Int32)).toNatClampNeg) ≤ x3 then (some x2) else (mz_gd (mz_ix (((92 : Int32) + ((6 : Int32) * x3)) + x1) 3000) (mz_gd (mz_ix (((92 : Int32) + ((6 : Int32) * x1)) + x3) 3000) ((fX12_balanceOf_4 D n) x1 (x2 + ((D.1 0 201 ((((92 : Int32) + ((6 : Int32) * x3)) + x1)).toNatClampNeg) - (D.1 0 201 ((((92 : Int32) + ((6 : Int32) * x1)) + x3)).toNatClampNeg))) (x3 + (1 : Int32))))))
set_option maxHeartbeats 4000000 in
theorem tX12_balanceOf_4 (D : mz_D) (r : Int32) : ∀ (n : Nat) (x1 : Int32) (x2 : Int32) (x3 : Int32), fX12_balanceOf_4 D n x1 x2 x3 = some r → mz_Go IX12_balanceOf (some (.inl r), D) 0 0 (4, [some (.inr (.inr (some (0, 200)))), some (.inl x1), some (.inl x2), some (.inl x3)], [], D) := by
  intro n
  induction n with
  | zero => intro x1 x2 x3 h; have h : (none : Option Int32) = some r := h; cases h
  | succ n ih =>
    intro x1 x2 x3 h
    rw [fX12_balanceOf_4] at h
    refine mz_Go.run (gs := [mz_kz 0 0 200, mz_kz 0 0 201, mz_ix (0 : Int32) 3000]) (st' := (if (D.1 0 201 ((0 : Int32)).toNatClampNeg) ≤ x3 then (44, [some (.inr (.inr (some (0, 200)))), some (.inl x1), some (.inl x2), some (.inl x3)], [], D) else (14, [some (.inr (.inr (some (0, 200)))), some (.inl x1), some (.inl x2), some (.inl x3)], [], D))) bX12_balanceOf_4 oX12_balanceOf_4 rfl ⟨rfl, rfl, (by decide), trivial⟩ ?_
    refine mz_Go.ite (fun hc1 => ?_) (fun hc1 => ?_)
    · have h := mz_ifp hc1 h
      refine mz_Go.run (gs := []) (st' := (45, [some (.inr (.inr (some (0, 200)))), some (.inl x1), some (.inl x2), some (.inl x3)], [.inl x2], D)) bX12_balanceOf_44 oX12_balanceOf_44 rfl trivial ?_
      cases h
      exact mz_Go.reti (by decide +kernel) rfl ⟨Nat.le_refl _, Nat.le_refl _⟩ rfl
    · have h := mz_ifn hc1 h
      refine mz_Go.run (gs := [mz_kz 0 0 200]) (st' := (21, [some (.inr (.inr (some (0, 200)))), some (.inl x1), some (.inl x2), some (.inl x3)], [.inl x1, .inl x3, .inr (.inr (some (0, 201))), .inl x2], D)) bX12_balanceOf_14 oX12_balanceOf_14 rfl ⟨rfl, trivial⟩ ?_
      refine mz_Go.callS (I := IX12_balanceOf) (J := IX12_debtRow) (as := [.inl x3, .inl x1]) (idx := 312) (pl := 2008) (rest := [.inr (.inr (some (0, 201))), .inl x2]) (mX12_debtRow x3 x1 D) kX12_debtRow vX12_debtRow (by decide +kernel) (by decide +kernel) (by decide +kernel) rfl rfl ⟨rfl, rfl⟩ rfl ?_
      obtain ⟨hb2, h⟩ := mz_gd_some h
      refine mz_Go.run (gs := [mz_kz 0 0 201, mz_ix (((92 : Int32) + ((6 : Int32) * x3)) + x1) 3000, mz_kz 0 0 200]) (st' := (31, [some (.inr (.inr (some (0, 200)))), some (.inl x1), some (.inl x2), some (.inl x3)], [.inl x3, .inl x1, .inr (.inr (some (0, 201))), .inl (D.1 0 201 ((((92 : Int32) + ((6 : Int32) * x3)) + x1)).toNatClampNeg), .inl x2], D)) bX12_balanceOf_24 oX12_balanceOf_24 rfl ⟨rfl, hb2, rfl, trivial⟩ ?_
      refine mz_Go.callS (I := IX12_balanceOf) (J := IX12_debtRow) (as := [.inl x1, .inl x3]) (idx := 312) (pl := 2008) (rest := [.inr (.inr (some (0, 201))), .inl (D.1 0 201 ((((92 : Int32) + ((6 : Int32) * x3)) + x1)).toNatClampNeg), .inl x2]) (mX12_debtRow x1 x3 D) kX12_debtRow vX12_debtRow (by decide +kernel) (by decide +kernel) (by decide +kernel) rfl rfl ⟨rfl, rfl⟩ rfl ?_
      obtain ⟨hb3, h⟩ := mz_gd_some h
      refine mz_Go.run (gs := [mz_kz 0 0 201, mz_ix (((92 : Int32) + ((6 : Int32) * x1)) + x3) 3000]) (st' := (4, [some (.inr (.inr (some (0, 200)))), some (.inl x1), some (.inl (x2 + ((D.1 0 201 ((((92 : Int32) + ((6 : Int32) * x3)) + x1)).toNatClampNeg) - (D.1 0 201 ((((92 : Int32) + ((6 : Int32) * x1)) + x3)).toNatClampNeg)))), some (.inl (x3 + (1 : Int32)))], [], D)) bX12_balanceOf_34 oX12_balanceOf_34 rfl ⟨rfl, hb3, trivial⟩ ?_
      exact mz_Go.drop [true, true, true, true] (ih x1 (x2 + ((D.1 0 201 ((((92 : Int32) + ((6 : Int32) * x3)) + x1)).toNatClampNeg) - (D.1 0 201 ((((92 : Int32) + ((6 : Int32) * x1)) + x3)).toNatClampNeg))) (x3 + (1 : Int32)) h)
def fX12_balanceOf (x1 : Int32) (D : mz_D) : Option Int32 := (fX12_balanceOf_4 D mz_N x1 (0 : Int32) (0 : Int32))
set_option maxHeartbeats 4000000 in
theorem mX12_balanceOf (x1 : Int32) (D : mz_D) (r : Int32) (h : fX12_balanceOf x1 D = some r) : mz_Met IX12_balanceOf [.inr (.inr (some (0, 200))), .inl x1] D (some (.inl r), D) := by
  refine mz_Met.of (by decide +kernel) (Nat.le_of_ble_eq_true rfl) ?_
  show mz_Go IX12_balanceOf (some (.inl r), D) 0 0 (0, [some (.inr (.inr (some (0, 200)))), some (.inl x1), none, none], [], D)
  rw [fX12_balanceOf] at h
  refine mz_Go.run (gs := []) (st' := (4, [some (.inr (.inr (some (0, 200)))), some (.inl x1), some (.inl (0 : Int32)), some (.inl (0 : Int32))], [], D)) bX12_balanceOf_0 oX12_balanceOf_0 rfl trivial ?_
  exact mz_Go.drop [true, true, true, true] (tX12_balanceOf_4 D r mz_N x1 (0 : Int32) (0 : Int32) h)
def bX12_waits_0 : List mz_E := [(0, .iload_n 2, 0, 0, 0, 0, 0), (1, .ifCond .ne 17, 0, 18, 0, 0, 0)]
theorem oX12_waits_0 : bX12_waits_0.all (mz_ok RX12 cX12_waits 3) = true := by decide +kernel
def bX12_waits_4 : List mz_E := [(4, .aload_n 0, 0, 0, 0, 0, 0), (5, .getfield 7, 12, 0, 1576, 0, 0), (8, .iload_n 1, 0, 0, 0, 0, 0)]
theorem oX12_waits_4 : bX12_waits_4.all (mz_ok RX12 cX12_waits 3) = true := by decide +kernel
def bX12_waits_12 : List mz_E := [(12, .iconst 5, 0, 0, 0, 5, 0), (13, .iadd, 0, 0, 0, 0, 0), (14, .iaload, 0, 0, 0, 0, 0), (15, .goto 46, 0, 61, 0, 0, 0)]
theorem oX12_waits_12 : bX12_waits_12.all (mz_ok RX12 cX12_waits 3) = true := by decide +kernel
def bX12_waits_18 : List mz_E := [(18, .iload_n 2, 0, 0, 0, 0, 0), (19, .iconst 1, 0, 0, 0, 1, 0), (20, .if_icmp .ne 11, 0, 31, 0, 0, 0)]
theorem oX12_waits_18 : bX12_waits_18.all (mz_ok RX12 cX12_waits 3) = true := by decide +kernel
def bX12_waits_23 : List mz_E := [(23, .aload_n 0, 0, 0, 0, 0, 0), (24, .iload_n 1, 0, 0, 0, 0, 0)]
theorem oX12_waits_23 : bX12_waits_23.all (mz_ok RX12 cX12_waits 3) = true := by decide +kernel
def bX12_waits_28 : List mz_E := [(28, .goto 33, 0, 61, 0, 0, 0)]
theorem oX12_waits_28 : bX12_waits_28.all (mz_ok RX12 cX12_waits 3) = true := by decide +kernel
def bX12_waits_31 : List mz_E := [(31, .iload_n 2, 0, 0, 0, 0, 0), (32, .iconst 2, 0, 0, 0, 2, 0), (33, .if_icmp .ne 18, 0, 51, 0, 0, 0)]
theorem oX12_waits_31 : bX12_waits_31.all (mz_ok RX12 cX12_waits 3) = true := by decide +kernel
def bX12_waits_36 : List mz_E := [(36, .aload_n 0, 0, 0, 0, 0, 0), (37, .getfield 7, 12, 0, 1576, 0, 0), (40, .iload_n 1, 0, 0, 0, 0, 0)]
theorem oX12_waits_36 : bX12_waits_36.all (mz_ok RX12 cX12_waits 3) = true := by decide +kernel
def bX12_waits_44 : List mz_E := [(44, .iconst 1, 0, 0, 0, 1, 0), (45, .iadd, 0, 0, 0, 0, 0), (46, .iaload, 0, 0, 0, 0, 0), (47, .ineg, 0, 0, 0, 0, 0), (48, .goto 13, 0, 61, 0, 0, 0)]
theorem oX12_waits_44 : bX12_waits_44.all (mz_ok RX12 cX12_waits 3) = true := by decide +kernel
def bX12_waits_51 : List mz_E := [(51, .aload_n 0, 0, 0, 0, 0, 0), (52, .getfield 7, 12, 0, 1576, 0, 0), (55, .iload_n 1, 0, 0, 0, 0, 0)]
theorem oX12_waits_51 : bX12_waits_51.all (mz_ok RX12 cX12_waits 3) = true := by decide +kernel
def bX12_waits_59 : List mz_E := [(59, .iaload, 0, 0, 0, 0, 0), (60, .ineg, 0, 0, 0, 0, 0)]
theorem oX12_waits_59 : bX12_waits_59.all (mz_ok RX12 cX12_waits 3) = true := by decide +kernel
abbrev IX12_waits : mz_I := (yX12_waits, cX12_waits, 3, (some .int), 0, 2, 0, 0)
theorem kX12_waits : mz_okm IX12_waits 2023 141 2022 2 = true := by decide +kernel
theorem vX12_waits : mz_okV IX12_waits 2022 93 = true := by decide +kernel
def fX12_waits (x1 : Int32) (x2 : Int32) (D : mz_D) : Option Int32 := (if x2 = 0 then (mz_gd (mz_ix (((12 : Int32) + ((8 : Int32) * x1)) + (5 : Int32)) 3000) (some (D.1 0 201 ((((12 : Int32) + ((8 : Int32) * x1)) + (5 : Int32))).toNatClampNeg))) else (if x2 = (1 : Int32) then (Option.bind (fX12_balanceOf x1 D) fun q4 => (some q4)) else (if x2 = (2 : Int32) then (mz_gd (mz_ix (((12 : Int32) + ((8 : Int32) * x1)) + (1 : Int32)) 3000) (some (-(D.1 0 201 ((((12 : Int32) + ((8 : Int32) * x1)) + (1 : Int32))).toNatClampNeg)))) else (mz_gd (mz_ix ((12 : Int32) + ((8 : Int32) * x1)) 3000) (some (-(D.1 0 201 (((12 : Int32) + ((8 : Int32) * x1))).toNatClampNeg)))))))
set_option maxHeartbeats 4000000 in
theorem mX12_waits (x1 : Int32) (x2 : Int32) (D : mz_D) (r : Int32) (h : fX12_waits x1 x2 D = some r) : mz_Met IX12_waits [.inr (.inr (some (0, 200))), .inl x1, .inl x2] D (some (.inl r), D) := by
  refine mz_Met.of (by decide +kernel) (Nat.le_of_ble_eq_true rfl) ?_
  show mz_Go IX12_waits (some (.inl r), D) 0 0 (0, [some (.inr (.inr (some (0, 200)))), some (.inl x1), some (.inl x2)], [], D)
  rw [fX12_waits] at h
  refine mz_Go.run (gs := []) (st' := (if x2 = 0 then (4, [some (.inr (.inr (some (0, 200)))), some (.inl x1), some (.inl x2)], [], D) else (18, [some (.inr (.inr (some (0, 200)))), some (.inl x1), some (.inl x2)], [], D))) bX12_waits_0 oX12_waits_0 rfl trivial ?_
  refine mz_Go.ite (fun hc1 => ?_) (fun hc1 => ?_)
  · have h := mz_ifp hc1 h
    refine mz_Go.run (gs := [mz_kz 0 0 200]) (st' := (9, [some (.inr (.inr (some (0, 200)))), some (.inl x1), some (.inl x2)], [.inl x1, .inr (.inr (some (0, 201)))], D)) bX12_waits_4 oX12_waits_4 rfl ⟨rfl, trivial⟩ ?_
    refine mz_Go.callS (I := IX12_waits) (J := IX12_personRow) (as := [.inl x1]) (idx := 267) (pl := 1895) (rest := [.inr (.inr (some (0, 201)))]) (mX12_personRow x1 D) kX12_personRow vX12_personRow (by decide +kernel) (by decide +kernel) (by decide +kernel) rfl rfl ⟨rfl, rfl⟩ rfl ?_
    obtain ⟨hb2, h⟩ := mz_gd_some h
    refine mz_Go.run (gs := [mz_kz 0 0 201, mz_ix (((12 : Int32) + ((8 : Int32) * x1)) + (5 : Int32)) 3000]) (st' := (61, [some (.inr (.inr (some (0, 200)))), some (.inl x1), some (.inl x2)], [.inl (D.1 0 201 ((((12 : Int32) + ((8 : Int32) * x1)) + (5 : Int32))).toNatClampNeg)], D)) bX12_waits_12 oX12_waits_12 rfl ⟨rfl, hb2, trivial⟩ ?_
    cases h
    exact mz_Go.reti (by decide +kernel) rfl ⟨Nat.le_refl _, Nat.le_refl _⟩ rfl
  · have h := mz_ifn hc1 h
    refine mz_Go.run (gs := []) (st' := (if x2 = (1 : Int32) then (23, [some (.inr (.inr (some (0, 200)))), some (.inl x1), some (.inl x2)], [], D) else (31, [some (.inr (.inr (some (0, 200)))), some (.inl x1), some (.inl x2)], [], D))) bX12_waits_18 oX12_waits_18 rfl trivial ?_
    refine mz_Go.ite (fun hc3 => ?_) (fun hc3 => ?_)
    · have h := mz_ifp hc3 h
      refine mz_Go.run (gs := []) (st' := (25, [some (.inr (.inr (some (0, 200)))), some (.inl x1), some (.inl x2)], [.inl x1, .inr (.inr (some (0, 200)))], D)) bX12_waits_23 oX12_waits_23 rfl trivial ?_
      obtain ⟨q4, hq4, h⟩ := mz_bd_some h
      refine mz_Go.callV (I := IX12_waits) (J := IX12_balanceOf) (as := [.inl x1]) (ci := 12) (g := 0) (o := 200) (idx := 319) (pl := 2024) (rest := []) (mX12_balanceOf x1 D q4 hq4) kX12_balanceOf vX12_balanceOf (by decide +kernel) (by decide +kernel) (by decide +kernel) rfl rfl ⟨rfl, rfl⟩ rfl rfl rfl rfl ?_
      refine mz_Go.run (gs := []) (st' := (61, [some (.inr (.inr (some (0, 200)))), some (.inl x1), some (.inl x2)], [.inl q4], D)) bX12_waits_28 oX12_waits_28 rfl trivial ?_
      cases h
      exact mz_Go.reti (by decide +kernel) rfl ⟨Nat.le_refl _, Nat.le_refl _⟩ rfl
    · have h := mz_ifn hc3 h
      refine mz_Go.run (gs := []) (st' := (if x2 = (2 : Int32) then (36, [some (.inr (.inr (some (0, 200)))), some (.inl x1), some (.inl x2)], [], D) else (51, [some (.inr (.inr (some (0, 200)))), some (.inl x1), some (.inl x2)], [], D))) bX12_waits_31 oX12_waits_31 rfl trivial ?_
      refine mz_Go.ite (fun hc5 => ?_) (fun hc5 => ?_)
      · have h := mz_ifp hc5 h
        refine mz_Go.run (gs := [mz_kz 0 0 200]) (st' := (41, [some (.inr (.inr (some (0, 200)))), some (.inl x1), some (.inl x2)], [.inl x1, .inr (.inr (some (0, 201)))], D)) bX12_waits_36 oX12_waits_36 rfl ⟨rfl, trivial⟩ ?_
        refine mz_Go.callS (I := IX12_waits) (J := IX12_personRow) (as := [.inl x1]) (idx := 267) (pl := 1895) (rest := [.inr (.inr (some (0, 201)))]) (mX12_personRow x1 D) kX12_personRow vX12_personRow (by decide +kernel) (by decide +kernel) (by decide +kernel) rfl rfl ⟨rfl, rfl⟩ rfl ?_
        obtain ⟨hb6, h⟩ := mz_gd_some h
        refine mz_Go.run (gs := [mz_kz 0 0 201, mz_ix (((12 : Int32) + ((8 : Int32) * x1)) + (1 : Int32)) 3000]) (st' := (61, [some (.inr (.inr (some (0, 200)))), some (.inl x1), some (.inl x2)], [.inl (-(D.1 0 201 ((((12 : Int32) + ((8 : Int32) * x1)) + (1 : Int32))).toNatClampNeg))], D)) bX12_waits_44 oX12_waits_44 rfl ⟨rfl, hb6, trivial⟩ ?_
        cases h
        exact mz_Go.reti (by decide +kernel) rfl ⟨Nat.le_refl _, Nat.le_refl _⟩ rfl
      · have h := mz_ifn hc5 h
        refine mz_Go.run (gs := [mz_kz 0 0 200]) (st' := (56, [some (.inr (.inr (some (0, 200)))), some (.inl x1), some (.inl x2)], [.inl x1, .inr (.inr (some (0, 201)))], D)) bX12_waits_51 oX12_waits_51 rfl ⟨rfl, trivial⟩ ?_
        refine mz_Go.callS (I := IX12_waits) (J := IX12_personRow) (as := [.inl x1]) (idx := 267) (pl := 1895) (rest := [.inr (.inr (some (0, 201)))]) (mX12_personRow x1 D) kX12_personRow vX12_personRow (by decide +kernel) (by decide +kernel) (by decide +kernel) rfl rfl ⟨rfl, rfl⟩ rfl ?_
        obtain ⟨hb7, h⟩ := mz_gd_some h
        refine mz_Go.run (gs := [mz_kz 0 0 201, mz_ix ((12 : Int32) + ((8 : Int32) * x1)) 3000]) (st' := (61, [some (.inr (.inr (some (0, 200)))), some (.inl x1), some (.inl x2)], [.inl (-(D.1 0 201 (((12 : Int32) + ((8 : Int32) * x1))).toNatClampNeg))], D)) bX12_waits_59 oX12_waits_59 rfl ⟨rfl, hb7, trivial⟩ ?_
        cases h
        exact mz_Go.reti (by decide +kernel) rfl ⟨Nat.le_refl _, Nat.le_refl _⟩ rfl
def bX12_turnOf_0 : List mz_E := [(0, .iconst (-1), 0, 0, 0, -1, 0), (1, .istore_n 2, 0, 0, 0, 0, 0), (2, .iconst 0, 0, 0, 0, 0, 0), (3, .istore_n 3, 0, 0, 0, 0, 0)]
theorem oX12_turnOf_0 : bX12_turnOf_0.all (mz_ok RX12 cX12_turnOf 4) = true := by decide +kernel
def bX12_turnOf_4 : List mz_E := [(4, .iload_n 3, 0, 0, 0, 0, 0), (5, .aload_n 0, 0, 0, 0, 0, 0), (6, .getfield 7, 12, 0, 1576, 0, 0), (9, .iconst 0, 0, 0, 0, 0, 0), (10, .iaload, 0, 0, 0, 0, 0), (11, .if_icmp .ge 43, 0, 54, 0, 0, 0)]
theorem oX12_turnOf_4 : bX12_turnOf_4.all (mz_ok RX12 cX12_turnOf 4) = true := by decide +kernel
def bX12_turnOf_54 : List mz_E := [(54, .iload_n 2, 0, 0, 0, 0, 0)]
theorem oX12_turnOf_54 : bX12_turnOf_54.all (mz_ok RX12 cX12_turnOf 4) = true := by decide +kernel
def bX12_turnOf_14 : List mz_E := [(14, .aload_n 0, 0, 0, 0, 0, 0), (15, .aload_n 0, 0, 0, 0, 0, 0)]
theorem oX12_turnOf_14 : bX12_turnOf_14.all (mz_ok RX12 cX12_turnOf 4) = true := by decide +kernel
def bX12_turnOf_19 : List mz_E := [(19, .iload_n 3, 0, 0, 0, 0, 0)]
theorem oX12_turnOf_19 : bX12_turnOf_19.all (mz_ok RX12 cX12_turnOf 4) = true := by decide +kernel
def bX12_turnOf_23 : List mz_E := [(23, .ifCond .eq 25, 0, 48, 0, 0, 0)]
theorem oX12_turnOf_23 : bX12_turnOf_23.all (mz_ok RX12 cX12_turnOf 4) = true := by decide +kernel
def bX12_turnOf_48 : List mz_E := [(48, .iinc 3 1, 0, 0, 0, 1, 0), (51, .goto (-47), 0, 4, 0, 0, 0)]
theorem oX12_turnOf_48 : bX12_turnOf_48.all (mz_ok RX12 cX12_turnOf 4) = true := by decide +kernel
def bX12_turnOf_26 : List mz_E := [(26, .iload_n 2, 0, 0, 0, 0, 0), (27, .iconst (-1), 0, 0, 0, -1, 0), (28, .if_icmp .eq 18, 0, 46, 0, 0, 0)]
theorem oX12_turnOf_26 : bX12_turnOf_26.all (mz_ok RX12 cX12_turnOf 4) = true := by decide +kernel
def bX12_turnOf_46 : List mz_E := [(46, .iload_n 3, 0, 0, 0, 0, 0), (47, .istore_n 2, 0, 0, 0, 0, 0), (48, .iinc 3 1, 0, 0, 0, 1, 0), (51, .goto (-47), 0, 4, 0, 0, 0)]
theorem oX12_turnOf_46 : bX12_turnOf_46.all (mz_ok RX12 cX12_turnOf 4) = true := by decide +kernel
def bX12_turnOf_31 : List mz_E := [(31, .aload_n 0, 0, 0, 0, 0, 0), (32, .iload_n 3, 0, 0, 0, 0, 0), (33, .iload_n 1, 0, 0, 0, 0, 0)]
theorem oX12_turnOf_31 : bX12_turnOf_31.all (mz_ok RX12 cX12_turnOf 4) = true := by decide +kernel
def bX12_turnOf_37 : List mz_E := [(37, .aload_n 0, 0, 0, 0, 0, 0), (38, .iload_n 2, 0, 0, 0, 0, 0), (39, .iload_n 1, 0, 0, 0, 0, 0)]
theorem oX12_turnOf_37 : bX12_turnOf_37.all (mz_ok RX12 cX12_turnOf 4) = true := by decide +kernel
def bX12_turnOf_43 : List mz_E := [(43, .if_icmp .ge 5, 0, 48, 0, 0, 0)]
theorem oX12_turnOf_43 : bX12_turnOf_43.all (mz_ok RX12 cX12_turnOf 4) = true := by decide +kernel
abbrev IX12_turnOf : mz_I := (yX12_turnOf, cX12_turnOf, 4, (some .int), 0, 3, 0, 0)
theorem kX12_turnOf : mz_okm IX12_turnOf 2019 141 2018 1 = true := by decide +kernel
theorem vX12_turnOf : mz_okV IX12_turnOf 2018 92 = true := by decide +kernel
def fX12_turnOf_46 (D : mz_D) (k4 : Int32 → Int32 → Int32 → Option Int32) (x1 : Int32) (x3 : Int32) : Option Int32 := (k4 x1 x3 (x3 + (1 : Int32)))
set_option maxHeartbeats 4000000 in
theorem tX12_turnOf_46 (D : mz_D) (r : Int32) (k4 : Int32 → Int32 → Int32 → Option Int32) (hk4 : ∀ (x1 : Int32) (x2 : Int32) (x3 : Int32), k4 x1 x2 x3 = some r → mz_Go IX12_turnOf (some (.inl r), D) 0 0 (4, [some (.inr (.inr (some (0, 200)))), some (.inl x1), some (.inl x2), some (.inl x3)], [], D)) : ∀ (x1 : Int32) (x3 : Int32), fX12_turnOf_46 D k4 x1 x3 = some r → mz_Go IX12_turnOf (some (.inl r), D) 0 0 (46, [some (.inr (.inr (some (0, 200)))), some (.inl x1), none, some (.inl x3)], [], D) := by
  intro x1 x3 h
  rw [fX12_turnOf_46] at h
  refine mz_Go.run (gs := []) (st' := (4, [some (.inr (.inr (some (0, 200)))), some (.inl x1), some (.inl x3), some (.inl (x3 + (1 : Int32)))], [], D)) bX12_turnOf_46 oX12_turnOf_46 rfl trivial ?_
  exact mz_Go.drop [true, true, true, true] (hk4 x1 x3 (x3 + (1 : Int32)) h)
def fX12_turnOf_4 (D : mz_D) : Nat → Int32 → Int32 → Int32 → Option Int32
  | 0 => fun _ _ _ => none
  | n + 1 => fun x1 x2 x3 => (if (D.1 0 201 ((0 : Int32)).toNatClampNeg) ≤ x3 then (some x2) else (if (fX12_isIn (fX12_heads D) x3) = 0 then ((fX12_turnOf_4 D n) x1 x2 (x3 + (1 : Int32))) else (if x2 = (-1 : Int32) then (fX12_turnOf_46 D (fX12_turnOf_4 D n) x1 x3) else (Option.bind (fX12_waits x3 x1 D) fun q4 => (Option.bind (fX12_waits x2 x1 D) fun q5 => (if q5 ≤ q4 then ((fX12_turnOf_4 D n) x1 x2 (x3 + (1 : Int32))) else (fX12_turnOf_46 D (fX12_turnOf_4 D n) x1 x3)))))))
set_option maxHeartbeats 4000000 in
theorem tX12_turnOf_4 (D : mz_D) (r : Int32) : ∀ (n : Nat) (x1 : Int32) (x2 : Int32) (x3 : Int32), fX12_turnOf_4 D n x1 x2 x3 = some r → mz_Go IX12_turnOf (some (.inl r), D) 0 0 (4, [some (.inr (.inr (some (0, 200)))), some (.inl x1), some (.inl x2), some (.inl x3)], [], D) := by
  intro n
  induction n with
  | zero => intro x1 x2 x3 h; have h : (none : Option Int32) = some r := h; cases h
  | succ n ih =>
    intro x1 x2 x3 h
    rw [fX12_turnOf_4] at h
    refine mz_Go.run (gs := [mz_kz 0 0 200, mz_kz 0 0 201, mz_ix (0 : Int32) 3000]) (st' := (if (D.1 0 201 ((0 : Int32)).toNatClampNeg) ≤ x3 then (54, [some (.inr (.inr (some (0, 200)))), some (.inl x1), some (.inl x2), some (.inl x3)], [], D) else (14, [some (.inr (.inr (some (0, 200)))), some (.inl x1), some (.inl x2), some (.inl x3)], [], D))) bX12_turnOf_4 oX12_turnOf_4 rfl ⟨rfl, rfl, (by decide), trivial⟩ ?_
    refine mz_Go.ite (fun hc1 => ?_) (fun hc1 => ?_)
    · have h := mz_ifp hc1 h
      refine mz_Go.run (gs := []) (st' := (55, [some (.inr (.inr (some (0, 200)))), some (.inl x1), some (.inl x2), some (.inl x3)], [.inl x2], D)) bX12_turnOf_54 oX12_turnOf_54 rfl trivial ?_
      cases h
      exact mz_Go.reti (by decide +kernel) rfl ⟨Nat.le_refl _, Nat.le_refl _⟩ rfl
    · have h := mz_ifn hc1 h
      refine mz_Go.run (gs := []) (st' := (16, [some (.inr (.inr (some (0, 200)))), some (.inl x1), some (.inl x2), some (.inl x3)], [.inr (.inr (some (0, 200))), .inr (.inr (some (0, 200)))], D)) bX12_turnOf_14 oX12_turnOf_14 rfl trivial ?_
      refine mz_Go.callV (I := IX12_turnOf) (J := IX12_heads) (as := []) (ci := 12) (g := 0) (o := 200) (idx := 264) (pl := 1880) (rest := [.inr (.inr (some (0, 200)))]) (mX12_heads D _ rfl) kX12_heads vX12_heads (by decide +kernel) (by decide +kernel) (by decide +kernel) rfl rfl ⟨rfl, rfl⟩ rfl rfl rfl rfl ?_
      refine mz_Go.run (gs := []) (st' := (20, [some (.inr (.inr (some (0, 200)))), some (.inl x1), some (.inl x2), some (.inl x3)], [.inl x3, .inl (fX12_heads D), .inr (.inr (some (0, 200)))], D)) bX12_turnOf_19 oX12_turnOf_19 rfl trivial ?_
      refine mz_Go.callV (I := IX12_turnOf) (J := IX12_isIn) (as := [.inl (fX12_heads D), .inl x3]) (ci := 12) (g := 0) (o := 200) (idx := 270) (pl := 1944) (rest := []) (mX12_isIn (fX12_heads D) x3 D _ rfl) kX12_isIn vX12_isIn (by decide +kernel) (by decide +kernel) (by decide +kernel) rfl rfl ⟨rfl, rfl⟩ rfl rfl rfl rfl ?_
      refine mz_Go.run (gs := []) (st' := (if (fX12_isIn (fX12_heads D) x3) = 0 then (48, [some (.inr (.inr (some (0, 200)))), some (.inl x1), some (.inl x2), some (.inl x3)], [], D) else (26, [some (.inr (.inr (some (0, 200)))), some (.inl x1), some (.inl x2), some (.inl x3)], [], D))) bX12_turnOf_23 oX12_turnOf_23 rfl trivial ?_
      refine mz_Go.ite (fun hc2 => ?_) (fun hc2 => ?_)
      · have h := mz_ifp hc2 h
        refine mz_Go.run (gs := []) (st' := (4, [some (.inr (.inr (some (0, 200)))), some (.inl x1), some (.inl x2), some (.inl (x3 + (1 : Int32)))], [], D)) bX12_turnOf_48 oX12_turnOf_48 rfl trivial ?_
        exact mz_Go.drop [true, true, true, true] (ih x1 x2 (x3 + (1 : Int32)) h)
      · have h := mz_ifn hc2 h
        refine mz_Go.run (gs := []) (st' := (if x2 = (-1 : Int32) then (46, [some (.inr (.inr (some (0, 200)))), some (.inl x1), some (.inl x2), some (.inl x3)], [], D) else (31, [some (.inr (.inr (some (0, 200)))), some (.inl x1), some (.inl x2), some (.inl x3)], [], D))) bX12_turnOf_26 oX12_turnOf_26 rfl trivial ?_
        refine mz_Go.ite (fun hc3 => ?_) (fun hc3 => ?_)
        · have h := mz_ifp hc3 h
          exact mz_Go.drop [true, true, false, true] (tX12_turnOf_46 D r (fX12_turnOf_4 D n) ih x1 x3 h)
        · have h := mz_ifn hc3 h
          refine mz_Go.run (gs := []) (st' := (34, [some (.inr (.inr (some (0, 200)))), some (.inl x1), some (.inl x2), some (.inl x3)], [.inl x1, .inl x3, .inr (.inr (some (0, 200)))], D)) bX12_turnOf_31 oX12_turnOf_31 rfl trivial ?_
          obtain ⟨q4, hq4, h⟩ := mz_bd_some h
          refine mz_Go.callV (I := IX12_turnOf) (J := IX12_waits) (as := [.inl x3, .inl x1]) (ci := 12) (g := 0) (o := 200) (idx := 322) (pl := 2020) (rest := []) (mX12_waits x3 x1 D q4 hq4) kX12_waits vX12_waits (by decide +kernel) (by decide +kernel) (by decide +kernel) rfl rfl ⟨rfl, rfl⟩ rfl rfl rfl rfl ?_
          refine mz_Go.run (gs := []) (st' := (40, [some (.inr (.inr (some (0, 200)))), some (.inl x1), some (.inl x2), some (.inl x3)], [.inl x1, .inl x2, .inr (.inr (some (0, 200))), .inl q4], D)) bX12_turnOf_37 oX12_turnOf_37 rfl trivial ?_
          obtain ⟨q5, hq5, h⟩ := mz_bd_some h
          refine mz_Go.callV (I := IX12_turnOf) (J := IX12_waits) (as := [.inl x2, .inl x1]) (ci := 12) (g := 0) (o := 200) (idx := 322) (pl := 2020) (rest := [.inl q4]) (mX12_waits x2 x1 D q5 hq5) kX12_waits vX12_waits (by decide +kernel) (by decide +kernel) (by decide +kernel) rfl rfl ⟨rfl, rfl⟩ rfl rfl rfl rfl ?_
          refine mz_Go.run (gs := []) (st' := (if q5 ≤ q4 then (48, [some (.inr (.inr (some (0, 200)))), some (.inl x1), some (.inl x2), some (.inl x3)], [], D) else (46, [some (.inr (.inr (some (0, 200)))), some (.inl x1), some (.inl x2), some (.inl x3)], [], D))) bX12_turnOf_43 oX12_turnOf_43 rfl trivial ?_
          refine mz_Go.ite (fun hc6 => ?_) (fun hc6 => ?_)
          · have h := mz_ifp hc6 h
            refine mz_Go.run (gs := []) (st' := (4, [some (.inr (.inr (some (0, 200)))), some (.inl x1), some (.inl x2), some (.inl (x3 + (1 : Int32)))], [], D)) bX12_turnOf_48 oX12_turnOf_48 rfl trivial ?_
            exact mz_Go.drop [true, true, true, true] (ih x1 x2 (x3 + (1 : Int32)) h)
          · have h := mz_ifn hc6 h
            exact mz_Go.drop [true, true, false, true] (tX12_turnOf_46 D r (fX12_turnOf_4 D n) ih x1 x3 h)
def fX12_turnOf (x1 : Int32) (D : mz_D) : Option Int32 := (fX12_turnOf_4 D mz_N x1 (-1 : Int32) (0 : Int32))
set_option maxHeartbeats 4000000 in
theorem mX12_turnOf (x1 : Int32) (D : mz_D) (r : Int32) (h : fX12_turnOf x1 D = some r) : mz_Met IX12_turnOf [.inr (.inr (some (0, 200))), .inl x1] D (some (.inl r), D) := by
  refine mz_Met.of (by decide +kernel) (Nat.le_of_ble_eq_true rfl) ?_
  show mz_Go IX12_turnOf (some (.inl r), D) 0 0 (0, [some (.inr (.inr (some (0, 200)))), some (.inl x1), none, none], [], D)
  rw [fX12_turnOf] at h
  refine mz_Go.run (gs := []) (st' := (4, [some (.inr (.inr (some (0, 200)))), some (.inl x1), some (.inl (-1 : Int32)), some (.inl (0 : Int32))], [], D)) bX12_turnOf_0 oX12_turnOf_0 rfl trivial ?_
  exact mz_Go.drop [true, true, true, true] (tX12_turnOf_4 D r mz_N x1 (-1 : Int32) (0 : Int32) h)
def bX12_turn_0 : List mz_E := [(0, .aload_n 0, 0, 0, 0, 0, 0), (1, .aload_n 0, 0, 0, 0, 0, 0), (2, .aload_n 0, 0, 0, 0, 0, 0), (3, .getfield 7, 12, 0, 1576, 0, 0), (6, .iconst 4, 0, 0, 0, 4, 0), (7, .iaload, 0, 0, 0, 0, 0)]
theorem oX12_turn_0 : bX12_turn_0.all (mz_ok RX12 cX12_turn 1) = true := by decide +kernel
abbrev IX12_turn : mz_I := (yX12_turn, cX12_turn, 1, (some .int), 0, 4, 0, 0)
theorem kX12_turn : mz_okm IX12_turn 2015 141 2013 0 = true := by decide +kernel
theorem vX12_turn : mz_okV IX12_turn 2013 2014 = true := by decide +kernel
def fX12_turn (D : mz_D) : Option (Int32 × mz_D) := (Option.bind (fX12_turnOf (D.1 0 201 ((4 : Int32)).toNatClampNeg) D) fun q1 => (Option.bind (fX12_orNone q1 D) fun q2 => (some (q2.1, q2.2))))
set_option maxHeartbeats 4000000 in
theorem mX12_turn (D : mz_D) (r : (Int32 × mz_D)) (h : fX12_turn D = some r) : mz_Met IX12_turn [.inr (.inr (some (0, 200)))] D (some (.inl r.1), r.2) := by
  refine mz_Met.of (by decide +kernel) (Nat.le_of_ble_eq_true rfl) ?_
  show mz_Go IX12_turn (some (.inl r.1), r.2) 0 0 (0, [some (.inr (.inr (some (0, 200))))], [], D)
  rw [fX12_turn] at h
  refine mz_Go.run (gs := [mz_kz 0 0 200, mz_kz 0 0 201, mz_ix (4 : Int32) 3000]) (st' := (8, [some (.inr (.inr (some (0, 200))))], [.inl (D.1 0 201 ((4 : Int32)).toNatClampNeg), .inr (.inr (some (0, 200))), .inr (.inr (some (0, 200)))], D)) bX12_turn_0 oX12_turn_0 rfl ⟨rfl, rfl, (by decide), trivial⟩ ?_
  obtain ⟨q1, hq1, h⟩ := mz_bd_some h
  refine mz_Go.callV (I := IX12_turn) (J := IX12_turnOf) (as := [.inl (D.1 0 201 ((4 : Int32)).toNatClampNeg)]) (ci := 12) (g := 0) (o := 200) (idx := 325) (pl := 2016) (rest := [.inr (.inr (some (0, 200)))]) (mX12_turnOf (D.1 0 201 ((4 : Int32)).toNatClampNeg) D q1 hq1) kX12_turnOf vX12_turnOf (by decide +kernel) (by decide +kernel) (by decide +kernel) rfl rfl ⟨rfl, rfl⟩ rfl rfl rfl rfl ?_
  obtain ⟨q2, hq2, h⟩ := mz_bd_some h
  refine mz_Go.callV (I := IX12_turn) (J := IX12_orNone) (as := [.inl q1]) (ci := 12) (g := 0) (o := 200) (idx := 291) (pl := 1906) (rest := []) (mX12_orNone q1 D q2 hq2) kX12_orNone vX12_orNone (by decide +kernel) (by decide +kernel) (by decide +kernel) rfl rfl ⟨rfl, rfl⟩ rfl rfl rfl rfl ?_
  cases h
  exact mz_Go.reti (by decide +kernel) rfl ⟨Nat.le_refl _, Nat.le_refl _⟩ rfl
def bX12_turnBy_0 : List mz_E := [(0, .iload_n 1, 0, 0, 0, 0, 0), (1, .i2l, 0, 0, 0, 0, 0), (2, .lconst 0, 0, 0, 0, 0, 0), (3, .ldc2_w 306, 0, 0, 1989, 0, 3)]
theorem oX12_turnBy_0 : bX12_turnBy_0.all (mz_ok RX12 cX12_turnBy 2) = true := by decide +kernel
def bX12_turnBy_9 : List mz_E := [(9, .ifCond .eq 15, 0, 24, 0, 0, 0)]
theorem oX12_turnBy_9 : bX12_turnBy_9.all (mz_ok RX12 cX12_turnBy 2) = true := by decide +kernel
def bX12_turnBy_24 : List mz_E := [(24, .aload_n 0, 0, 0, 0, 0, 0), (25, .iconst 1, 0, 0, 0, 1, 0)]
theorem oX12_turnBy_24 : bX12_turnBy_24.all (mz_ok RX12 cX12_turnBy 2) = true := by decide +kernel
def bX12_turnBy_12 : List mz_E := [(12, .aload_n 0, 0, 0, 0, 0, 0), (13, .aload_n 0, 0, 0, 0, 0, 0), (14, .iload_n 1, 0, 0, 0, 0, 0)]
theorem oX12_turnBy_12 : bX12_turnBy_12.all (mz_ok RX12 cX12_turnBy 2) = true := by decide +kernel
def bX12_turnBy_21 : List mz_E := [(21, .goto 8, 0, 29, 0, 0, 0)]
theorem oX12_turnBy_21 : bX12_turnBy_21.all (mz_ok RX12 cX12_turnBy 2) = true := by decide +kernel
abbrev IX12_turnBy : mz_I := (yX12_turnBy, cX12_turnBy, 2, (some .int), 0, 4, 0, 0)
theorem kX12_turnBy : mz_okm IX12_turnBy 2031 141 2029 1 = true := by decide +kernel
theorem vX12_turnBy : mz_okV IX12_turnBy 2029 2030 = true := by decide +kernel
def fX12_turnBy (x1 : Int32) (D : mz_D) : Option (Int32 × mz_D) := (if (fX12_isFrom (x1).toInt64 (0 : Int64) (3 : Int64)) = 0 then (some ((-1 : Int32), (mz_wi D 0 200 2 (1 : Int32)))) else (Option.bind (fX12_turnOf x1 D) fun q2 => (Option.bind (fX12_orNone q2 D) fun q3 => (some (q3.1, q3.2)))))
set_option maxHeartbeats 4000000 in
theorem mX12_turnBy (x1 : Int32) (D : mz_D) (r : (Int32 × mz_D)) (h : fX12_turnBy x1 D = some r) : mz_Met IX12_turnBy [.inr (.inr (some (0, 200))), .inl x1] D (some (.inl r.1), r.2) := by
  refine mz_Met.of (by decide +kernel) (Nat.le_of_ble_eq_true rfl) ?_
  show mz_Go IX12_turnBy (some (.inl r.1), r.2) 0 0 (0, [some (.inr (.inr (some (0, 200)))), some (.inl x1)], [], D)
  rw [fX12_turnBy] at h
  refine mz_Go.run (gs := []) (st' := (6, [some (.inr (.inr (some (0, 200)))), some (.inl x1)], [.inr (.inl (3 : Int64)), .inr (.inl (0 : Int64)), .inr (.inl (x1).toInt64)], D)) bX12_turnBy_0 oX12_turnBy_0 rfl trivial ?_
  refine mz_Go.callS (I := IX12_turnBy) (J := IX12_isFrom) (as := [.inr (.inl (x1).toInt64), .inr (.inl (0 : Int64)), .inr (.inl (3 : Int64))]) (idx := 302) (pl := 1974) (rest := []) (mX12_isFrom (x1).toInt64 (0 : Int64) (3 : Int64) D _ rfl) kX12_isFrom vX12_isFrom (by decide +kernel) (by decide +kernel) (by decide +kernel) rfl rfl ⟨rfl, rfl⟩ rfl ?_
  refine mz_Go.run (gs := []) (st' := (if (fX12_isFrom (x1).toInt64 (0 : Int64) (3 : Int64)) = 0 then (24, [some (.inr (.inr (some (0, 200)))), some (.inl x1)], [], D) else (12, [some (.inr (.inr (some (0, 200)))), some (.inl x1)], [], D))) bX12_turnBy_9 oX12_turnBy_9 rfl trivial ?_
  refine mz_Go.ite (fun hc1 => ?_) (fun hc1 => ?_)
  · have h := mz_ifp hc1 h
    refine mz_Go.run (gs := []) (st' := (26, [some (.inr (.inr (some (0, 200)))), some (.inl x1)], [.inl (1 : Int32), .inr (.inr (some (0, 200)))], D)) bX12_turnBy_24 oX12_turnBy_24 rfl trivial ?_
    refine mz_Go.callV (I := IX12_turnBy) (J := IX12_refuse) (as := [.inl (1 : Int32)]) (ci := 12) (g := 0) (o := 200) (idx := 75) (pl := 1761) (rest := []) (mX12_refuse (1 : Int32) D) kX12_refuse vX12_refuse (by decide +kernel) (by decide +kernel) (by decide +kernel) rfl rfl ⟨rfl, rfl⟩ rfl rfl rfl rfl ?_
    cases h
    exact mz_Go.reti (by decide +kernel) rfl ⟨Nat.le_refl _, Nat.le_refl _⟩ rfl
  · have h := mz_ifn hc1 h
    refine mz_Go.run (gs := []) (st' := (15, [some (.inr (.inr (some (0, 200)))), some (.inl x1)], [.inl x1, .inr (.inr (some (0, 200))), .inr (.inr (some (0, 200)))], D)) bX12_turnBy_12 oX12_turnBy_12 rfl trivial ?_
    obtain ⟨q2, hq2, h⟩ := mz_bd_some h
    refine mz_Go.callV (I := IX12_turnBy) (J := IX12_turnOf) (as := [.inl x1]) (ci := 12) (g := 0) (o := 200) (idx := 325) (pl := 2016) (rest := [.inr (.inr (some (0, 200)))]) (mX12_turnOf x1 D q2 hq2) kX12_turnOf vX12_turnOf (by decide +kernel) (by decide +kernel) (by decide +kernel) rfl rfl ⟨rfl, rfl⟩ rfl rfl rfl rfl ?_
    obtain ⟨q3, hq3, h⟩ := mz_bd_some h
    refine mz_Go.callV (I := IX12_turnBy) (J := IX12_orNone) (as := [.inl q2]) (ci := 12) (g := 0) (o := 200) (idx := 291) (pl := 1906) (rest := []) (mX12_orNone q2 D q3 hq3) kX12_orNone vX12_orNone (by decide +kernel) (by decide +kernel) (by decide +kernel) rfl rfl ⟨rfl, rfl⟩ rfl rfl rfl rfl ?_
    refine mz_Go.run (gs := []) (st' := (29, [some (.inr (.inr (some (0, 200)))), some (.inl x1)], [.inl q3.1], q3.2)) bX12_turnBy_21 oX12_turnBy_21 rfl trivial ?_
    cases h
    exact mz_Go.reti (by decide +kernel) rfl ⟨Nat.le_refl _, Nat.le_refl _⟩ rfl
def bX12_insists_0 : List mz_E := [(0, .aload_n 0, 0, 0, 0, 0, 0), (1, .getfield 7, 12, 0, 1576, 0, 0), (4, .iload_n 1, 0, 0, 0, 0, 0)]
theorem oX12_insists_0 : bX12_insists_0.all (mz_ok RX12 cX12_insists 2) = true := by decide +kernel
def bX12_insists_8 : List mz_E := [(8, .iaload, 0, 0, 0, 0, 0)]
theorem oX12_insists_8 : bX12_insists_8.all (mz_ok RX12 cX12_insists 2) = true := by decide +kernel
abbrev IX12_insists : mz_I := (yX12_insists, cX12_insists, 2, (some .int), 0, 1, 0, 0)
theorem kX12_insists : mz_okm IX12_insists 2047 141 2046 1 = true := by decide +kernel
theorem vX12_insists : mz_okV IX12_insists 2046 97 = true := by decide +kernel
def fX12_insists (x1 : Int32) (D : mz_D) : Option Int32 := (mz_gd (mz_ix ((12 : Int32) + ((8 : Int32) * x1)) 3000) (some (D.1 0 201 (((12 : Int32) + ((8 : Int32) * x1))).toNatClampNeg)))
set_option maxHeartbeats 4000000 in
theorem mX12_insists (x1 : Int32) (D : mz_D) (r : Int32) (h : fX12_insists x1 D = some r) : mz_Met IX12_insists [.inr (.inr (some (0, 200))), .inl x1] D (some (.inl r), D) := by
  refine mz_Met.of (by decide +kernel) (Nat.le_of_ble_eq_true rfl) ?_
  show mz_Go IX12_insists (some (.inl r), D) 0 0 (0, [some (.inr (.inr (some (0, 200)))), some (.inl x1)], [], D)
  rw [fX12_insists] at h
  refine mz_Go.run (gs := [mz_kz 0 0 200]) (st' := (5, [some (.inr (.inr (some (0, 200)))), some (.inl x1)], [.inl x1, .inr (.inr (some (0, 201)))], D)) bX12_insists_0 oX12_insists_0 rfl ⟨rfl, trivial⟩ ?_
  refine mz_Go.callS (I := IX12_insists) (J := IX12_personRow) (as := [.inl x1]) (idx := 267) (pl := 1895) (rest := [.inr (.inr (some (0, 201)))]) (mX12_personRow x1 D) kX12_personRow vX12_personRow (by decide +kernel) (by decide +kernel) (by decide +kernel) rfl rfl ⟨rfl, rfl⟩ rfl ?_
  obtain ⟨hb1, h⟩ := mz_gd_some h
  refine mz_Go.run (gs := [mz_kz 0 0 201, mz_ix ((12 : Int32) + ((8 : Int32) * x1)) 3000]) (st' := (9, [some (.inr (.inr (some (0, 200)))), some (.inl x1)], [.inl (D.1 0 201 (((12 : Int32) + ((8 : Int32) * x1))).toNatClampNeg)], D)) bX12_insists_8 oX12_insists_8 rfl ⟨rfl, hb1, trivial⟩ ?_
  cases h
  exact mz_Go.reti (by decide +kernel) rfl ⟨Nat.le_refl _, Nat.le_refl _⟩ rfl
def bX12_isEndless_0 : List mz_E := [(0, .aload_n 0, 0, 0, 0, 0, 0), (1, .iload_n 1, 0, 0, 0, 0, 0)]
theorem oX12_isEndless_0 : bX12_isEndless_0.all (mz_ok RX12 cX12_isEndless 3) = true := by decide +kernel
def bX12_isEndless_5 : List mz_E := [(5, .bipush 16, 0, 0, 0, 16, 0), (7, .if_icmp .ne 17, 0, 24, 0, 0, 0)]
theorem oX12_isEndless_5 : bX12_isEndless_5.all (mz_ok RX12 cX12_isEndless 3) = true := by decide +kernel
def bX12_isEndless_10 : List mz_E := [(10, .aload_n 0, 0, 0, 0, 0, 0), (11, .iload_n 2, 0, 0, 0, 0, 0)]
theorem oX12_isEndless_10 : bX12_isEndless_10.all (mz_ok RX12 cX12_isEndless 3) = true := by decide +kernel
def bX12_isEndless_15 : List mz_E := [(15, .bipush 16, 0, 0, 0, 16, 0), (17, .if_icmp .ne 7, 0, 24, 0, 0, 0)]
theorem oX12_isEndless_15 : bX12_isEndless_15.all (mz_ok RX12 cX12_isEndless 3) = true := by decide +kernel
def bX12_isEndless_20 : List mz_E := [(20, .iconst 1, 0, 0, 0, 1, 0), (21, .goto 4, 0, 25, 0, 0, 0)]
theorem oX12_isEndless_20 : bX12_isEndless_20.all (mz_ok RX12 cX12_isEndless 3) = true := by decide +kernel
def bX12_isEndless_24 : List mz_E := [(24, .iconst 0, 0, 0, 0, 0, 0)]
theorem oX12_isEndless_24 : bX12_isEndless_24.all (mz_ok RX12 cX12_isEndless 3) = true := by decide +kernel
abbrev IX12_isEndless : mz_I := (yX12_isEndless, cX12_isEndless, 3, (some .boolean), 0, 2, 0, 0)
theorem kX12_isEndless : mz_okm IX12_isEndless 2043 141 2042 2 = true := by decide +kernel
theorem vX12_isEndless : mz_okV IX12_isEndless 2042 96 = true := by decide +kernel
def fX12_isEndless (x1 : Int32) (x2 : Int32) (D : mz_D) : Option Int32 := (Option.bind (fX12_insists x1 D) fun q1 => (if q1 = (16 : Int32) then (Option.bind (fX12_insists x2 D) fun q3 => (if q3 = (16 : Int32) then (some (1 : Int32)) else (some (0 : Int32)))) else (some (0 : Int32))))
set_option maxHeartbeats 4000000 in
theorem mX12_isEndless (x1 : Int32) (x2 : Int32) (D : mz_D) (r : Int32) (h : fX12_isEndless x1 x2 D = some r) : mz_Met IX12_isEndless [.inr (.inr (some (0, 200))), .inl x1, .inl x2] D (some (.inl r), D) := by
  refine mz_Met.of (by decide +kernel) (Nat.le_of_ble_eq_true rfl) ?_
  show mz_Go IX12_isEndless (some (.inl r), D) 0 0 (0, [some (.inr (.inr (some (0, 200)))), some (.inl x1), some (.inl x2)], [], D)
  rw [fX12_isEndless] at h
  refine mz_Go.run (gs := []) (st' := (2, [some (.inr (.inr (some (0, 200)))), some (.inl x1), some (.inl x2)], [.inl x1, .inr (.inr (some (0, 200)))], D)) bX12_isEndless_0 oX12_isEndless_0 rfl trivial ?_
  obtain ⟨q1, hq1, h⟩ := mz_bd_some h
  refine mz_Go.callV (I := IX12_isEndless) (J := IX12_insists) (as := [.inl x1]) (ci := 12) (g := 0) (o := 200) (idx := 328) (pl := 2044) (rest := []) (mX12_insists x1 D q1 hq1) kX12_insists vX12_insists (by decide +kernel) (by decide +kernel) (by decide +kernel) rfl rfl ⟨rfl, rfl⟩ rfl rfl rfl rfl ?_
  refine mz_Go.run (gs := []) (st' := (if q1 = (16 : Int32) then (10, [some (.inr (.inr (some (0, 200)))), some (.inl x1), some (.inl x2)], [], D) else (24, [some (.inr (.inr (some (0, 200)))), some (.inl x1), some (.inl x2)], [], D))) bX12_isEndless_5 oX12_isEndless_5 rfl trivial ?_
  refine mz_Go.ite (fun hc2 => ?_) (fun hc2 => ?_)
  · have h := mz_ifp hc2 h
    refine mz_Go.run (gs := []) (st' := (12, [some (.inr (.inr (some (0, 200)))), some (.inl x1), some (.inl x2)], [.inl x2, .inr (.inr (some (0, 200)))], D)) bX12_isEndless_10 oX12_isEndless_10 rfl trivial ?_
    obtain ⟨q3, hq3, h⟩ := mz_bd_some h
    refine mz_Go.callV (I := IX12_isEndless) (J := IX12_insists) (as := [.inl x2]) (ci := 12) (g := 0) (o := 200) (idx := 328) (pl := 2044) (rest := []) (mX12_insists x2 D q3 hq3) kX12_insists vX12_insists (by decide +kernel) (by decide +kernel) (by decide +kernel) rfl rfl ⟨rfl, rfl⟩ rfl rfl rfl rfl ?_
    refine mz_Go.run (gs := []) (st' := (if q3 = (16 : Int32) then (20, [some (.inr (.inr (some (0, 200)))), some (.inl x1), some (.inl x2)], [], D) else (24, [some (.inr (.inr (some (0, 200)))), some (.inl x1), some (.inl x2)], [], D))) bX12_isEndless_15 oX12_isEndless_15 rfl trivial ?_
    refine mz_Go.ite (fun hc4 => ?_) (fun hc4 => ?_)
    · have h := mz_ifp hc4 h
      refine mz_Go.run (gs := []) (st' := (25, [some (.inr (.inr (some (0, 200)))), some (.inl x1), some (.inl x2)], [.inl (1 : Int32)], D)) bX12_isEndless_20 oX12_isEndless_20 rfl trivial ?_
      cases h
      exact mz_Go.retz (by decide +kernel) rfl ⟨Nat.le_refl _, Nat.le_refl _⟩ (by decide) rfl
    · have h := mz_ifn hc4 h
      refine mz_Go.run (gs := []) (st' := (25, [some (.inr (.inr (some (0, 200)))), some (.inl x1), some (.inl x2)], [.inl (0 : Int32)], D)) bX12_isEndless_24 oX12_isEndless_24 rfl trivial ?_
      cases h
      exact mz_Go.retz (by decide +kernel) rfl ⟨Nat.le_refl _, Nat.le_refl _⟩ (by decide) rfl
  · have h := mz_ifn hc2 h
    refine mz_Go.run (gs := []) (st' := (25, [some (.inr (.inr (some (0, 200)))), some (.inl x1), some (.inl x2)], [.inl (0 : Int32)], D)) bX12_isEndless_24 oX12_isEndless_24 rfl trivial ?_
    cases h
    exact mz_Go.retz (by decide +kernel) rfl ⟨Nat.le_refl _, Nat.le_refl _⟩ (by decide) rfl
def bX12_first_0 : List mz_E := [(0, .aload_n 0, 0, 0, 0, 0, 0), (1, .iload_n 1, 0, 0, 0, 0, 0)]
theorem oX12_first_0 : bX12_first_0.all (mz_ok RX12 cX12_first 3) = true := by decide +kernel
def bX12_first_5 : List mz_E := [(5, .bipush 16, 0, 0, 0, 16, 0), (7, .aload_n 0, 0, 0, 0, 0, 0), (8, .iload_n 2, 0, 0, 0, 0, 0)]
theorem oX12_first_5 : bX12_first_5.all (mz_ok RX12 cX12_first 3) = true := by decide +kernel
def bX12_first_12 : List mz_E := [(12, .isub, 0, 0, 0, 0, 0), (13, .imul, 0, 0, 0, 0, 0)]
theorem oX12_first_12 : bX12_first_12.all (mz_ok RX12 cX12_first 3) = true := by decide +kernel
abbrev IX12_first : mz_I := (yX12_first, cX12_first, 3, (some .int), 0, 2, 0, 0)
theorem kX12_first : mz_okm IX12_first 2051 141 2050 2 = true := by decide +kernel
theorem vX12_first : mz_okV IX12_first 2050 98 = true := by decide +kernel
def fX12_first (x1 : Int32) (x2 : Int32) (D : mz_D) : Option Int32 := (Option.bind (fX12_insists x1 D) fun q1 => (Option.bind (fX12_insists x2 D) fun q2 => (some (q1 * ((16 : Int32) - q2)))))
set_option maxHeartbeats 4000000 in
theorem mX12_first (x1 : Int32) (x2 : Int32) (D : mz_D) (r : Int32) (h : fX12_first x1 x2 D = some r) : mz_Met IX12_first [.inr (.inr (some (0, 200))), .inl x1, .inl x2] D (some (.inl r), D) := by
  refine mz_Met.of (by decide +kernel) (Nat.le_of_ble_eq_true rfl) ?_
  show mz_Go IX12_first (some (.inl r), D) 0 0 (0, [some (.inr (.inr (some (0, 200)))), some (.inl x1), some (.inl x2)], [], D)
  rw [fX12_first] at h
  refine mz_Go.run (gs := []) (st' := (2, [some (.inr (.inr (some (0, 200)))), some (.inl x1), some (.inl x2)], [.inl x1, .inr (.inr (some (0, 200)))], D)) bX12_first_0 oX12_first_0 rfl trivial ?_
  obtain ⟨q1, hq1, h⟩ := mz_bd_some h
  refine mz_Go.callV (I := IX12_first) (J := IX12_insists) (as := [.inl x1]) (ci := 12) (g := 0) (o := 200) (idx := 328) (pl := 2044) (rest := []) (mX12_insists x1 D q1 hq1) kX12_insists vX12_insists (by decide +kernel) (by decide +kernel) (by decide +kernel) rfl rfl ⟨rfl, rfl⟩ rfl rfl rfl rfl ?_
  refine mz_Go.run (gs := []) (st' := (9, [some (.inr (.inr (some (0, 200)))), some (.inl x1), some (.inl x2)], [.inl x2, .inr (.inr (some (0, 200))), .inl (16 : Int32), .inl q1], D)) bX12_first_5 oX12_first_5 rfl trivial ?_
  obtain ⟨q2, hq2, h⟩ := mz_bd_some h
  refine mz_Go.callV (I := IX12_first) (J := IX12_insists) (as := [.inl x2]) (ci := 12) (g := 0) (o := 200) (idx := 328) (pl := 2044) (rest := [.inl (16 : Int32), .inl q1]) (mX12_insists x2 D q2 hq2) kX12_insists vX12_insists (by decide +kernel) (by decide +kernel) (by decide +kernel) rfl rfl ⟨rfl, rfl⟩ rfl rfl rfl rfl ?_
  refine mz_Go.run (gs := []) (st' := (14, [some (.inr (.inr (some (0, 200)))), some (.inl x1), some (.inl x2)], [.inl (q1 * ((16 : Int32) - q2))], D)) bX12_first_12 oX12_first_12 rfl trivial ?_
  cases h
  exact mz_Go.reti (by decide +kernel) rfl ⟨Nat.le_refl _, Nat.le_refl _⟩ rfl
def bX12_behind_0 : List mz_E := [(0, .sipush 256, 0, 0, 0, 256, 0), (3, .aload_n 0, 0, 0, 0, 0, 0), (4, .iload_n 1, 0, 0, 0, 0, 0)]
theorem oX12_behind_0 : bX12_behind_0.all (mz_ok RX12 cX12_behind 3) = true := by decide +kernel
def bX12_behind_8 : List mz_E := [(8, .aload_n 0, 0, 0, 0, 0, 0), (9, .iload_n 2, 0, 0, 0, 0, 0)]
theorem oX12_behind_8 : bX12_behind_8.all (mz_ok RX12 cX12_behind 3) = true := by decide +kernel
def bX12_behind_13 : List mz_E := [(13, .imul, 0, 0, 0, 0, 0), (14, .isub, 0, 0, 0, 0, 0)]
theorem oX12_behind_13 : bX12_behind_13.all (mz_ok RX12 cX12_behind 3) = true := by decide +kernel
abbrev IX12_behind : mz_I := (yX12_behind, cX12_behind, 3, (some .int), 0, 2, 0, 0)
theorem kX12_behind : mz_okm IX12_behind 2055 141 2054 2 = true := by decide +kernel
theorem vX12_behind : mz_okV IX12_behind 2054 99 = true := by decide +kernel
def fX12_behind (x1 : Int32) (x2 : Int32) (D : mz_D) : Option Int32 := (Option.bind (fX12_insists x1 D) fun q1 => (Option.bind (fX12_insists x2 D) fun q2 => (some ((256 : Int32) - (q1 * q2)))))
set_option maxHeartbeats 4000000 in
theorem mX12_behind (x1 : Int32) (x2 : Int32) (D : mz_D) (r : Int32) (h : fX12_behind x1 x2 D = some r) : mz_Met IX12_behind [.inr (.inr (some (0, 200))), .inl x1, .inl x2] D (some (.inl r), D) := by
  refine mz_Met.of (by decide +kernel) (Nat.le_of_ble_eq_true rfl) ?_
  show mz_Go IX12_behind (some (.inl r), D) 0 0 (0, [some (.inr (.inr (some (0, 200)))), some (.inl x1), some (.inl x2)], [], D)
  rw [fX12_behind] at h
  refine mz_Go.run (gs := []) (st' := (5, [some (.inr (.inr (some (0, 200)))), some (.inl x1), some (.inl x2)], [.inl x1, .inr (.inr (some (0, 200))), .inl (256 : Int32)], D)) bX12_behind_0 oX12_behind_0 rfl trivial ?_
  obtain ⟨q1, hq1, h⟩ := mz_bd_some h
  refine mz_Go.callV (I := IX12_behind) (J := IX12_insists) (as := [.inl x1]) (ci := 12) (g := 0) (o := 200) (idx := 328) (pl := 2044) (rest := [.inl (256 : Int32)]) (mX12_insists x1 D q1 hq1) kX12_insists vX12_insists (by decide +kernel) (by decide +kernel) (by decide +kernel) rfl rfl ⟨rfl, rfl⟩ rfl rfl rfl rfl ?_
  refine mz_Go.run (gs := []) (st' := (10, [some (.inr (.inr (some (0, 200)))), some (.inl x1), some (.inl x2)], [.inl x2, .inr (.inr (some (0, 200))), .inl q1, .inl (256 : Int32)], D)) bX12_behind_8 oX12_behind_8 rfl trivial ?_
  obtain ⟨q2, hq2, h⟩ := mz_bd_some h
  refine mz_Go.callV (I := IX12_behind) (J := IX12_insists) (as := [.inl x2]) (ci := 12) (g := 0) (o := 200) (idx := 328) (pl := 2044) (rest := [.inl q1, .inl (256 : Int32)]) (mX12_insists x2 D q2 hq2) kX12_insists vX12_insists (by decide +kernel) (by decide +kernel) (by decide +kernel) rfl rfl ⟨rfl, rfl⟩ rfl rfl rfl rfl ?_
  refine mz_Go.run (gs := []) (st' := (15, [some (.inr (.inr (some (0, 200)))), some (.inl x1), some (.inl x2)], [.inl ((256 : Int32) - (q1 * q2))], D)) bX12_behind_13 oX12_behind_13 rfl trivial ?_
  cases h
  exact mz_Go.reti (by decide +kernel) rfl ⟨Nat.le_refl _, Nat.le_refl _⟩ rfl
def bX12_duel_0 : List mz_E := [(0, .aload_n 0, 0, 0, 0, 0, 0), (1, .iload_n 1, 0, 0, 0, 0, 0), (2, .iload_n 2, 0, 0, 0, 0, 0)]
theorem oX12_duel_0 : bX12_duel_0.all (mz_ok RX12 cX12_duel 3) = true := by decide +kernel
def bX12_duel_6 : List mz_E := [(6, .ifCond .ne 9, 0, 15, 0, 0, 0)]
theorem oX12_duel_6 : bX12_duel_6.all (mz_ok RX12 cX12_duel 3) = true := by decide +kernel
def bX12_duel_9 : List mz_E := [(9, .aload_n 0, 0, 0, 0, 0, 0), (10, .iconst 1, 0, 0, 0, 1, 0)]
theorem oX12_duel_9 : bX12_duel_9.all (mz_ok RX12 cX12_duel 3) = true := by decide +kernel
def bX12_duel_15 : List mz_E := [(15, .aload_n 0, 0, 0, 0, 0, 0), (16, .iload_n 1, 0, 0, 0, 0, 0), (17, .iload_n 2, 0, 0, 0, 0, 0)]
theorem oX12_duel_15 : bX12_duel_15.all (mz_ok RX12 cX12_duel 3) = true := by decide +kernel
def bX12_duel_21 : List mz_E := [(21, .ifCond .eq 12, 0, 33, 0, 0, 0)]
theorem oX12_duel_21 : bX12_duel_21.all (mz_ok RX12 cX12_duel 3) = true := by decide +kernel
def bX12_duel_33 : List mz_E := [(33, .aload_n 0, 0, 0, 0, 0, 0), (34, .aload_n 0, 0, 0, 0, 0, 0), (35, .iload_n 1, 0, 0, 0, 0, 0), (36, .iload_n 2, 0, 0, 0, 0, 0)]
theorem oX12_duel_33 : bX12_duel_33.all (mz_ok RX12 cX12_duel 3) = true := by decide +kernel
def bX12_duel_40 : List mz_E := [(40, .i2l, 0, 0, 0, 0, 0), (41, .aload_n 0, 0, 0, 0, 0, 0), (42, .iload_n 1, 0, 0, 0, 0, 0), (43, .iload_n 2, 0, 0, 0, 0, 0)]
theorem oX12_duel_40 : bX12_duel_40.all (mz_ok RX12 cX12_duel 3) = true := by decide +kernel
def bX12_duel_47 : List mz_E := [(47, .i2l, 0, 0, 0, 0, 0)]
theorem oX12_duel_47 : bX12_duel_47.all (mz_ok RX12 cX12_duel 3) = true := by decide +kernel
def bX12_duel_24 : List mz_E := [(24, .aload_n 0, 0, 0, 0, 0, 0), (25, .bipush 6, 0, 0, 0, 6, 0)]
theorem oX12_duel_24 : bX12_duel_24.all (mz_ok RX12 cX12_duel 3) = true := by decide +kernel
def bX12_duel_30 : List mz_E := [(30, .goto 21, 0, 51, 0, 0, 0)]
theorem oX12_duel_30 : bX12_duel_30.all (mz_ok RX12 cX12_duel 3) = true := by decide +kernel
abbrev IX12_duel : mz_I := (yX12_duel, cX12_duel, 3, (some .boolean), 0, 3, 0, 0)
theorem kX12_duel : mz_okm IX12_duel 2035 141 2033 2 = true := by decide +kernel
theorem vX12_duel : mz_okV IX12_duel 2033 2034 = true := by decide +kernel
def fX12_duel (x1 : Int32) (x2 : Int32) (D : mz_D) : Option (Int32 × mz_D) := (if (fX12_areTwo x1 x2 D) = 0 then (Option.bind (fX12_is (1 : Int32) D) fun q2 => (mz_gd (mz_bo q2.1) (some (q2.1, q2.2)))) else (Option.bind (fX12_isEndless x1 x2 D) fun q4 => (if q4 = 0 then (Option.bind (fX12_first x1 x2 D) fun q6 => (Option.bind (fX12_behind x1 x2 D) fun q7 => (Option.bind (fX12_tellsBy (q6).toInt64 (q7).toInt64 D) fun q8 => (mz_gd (mz_bo q8.1) (some (q8.1, q8.2)))))) else (Option.bind (fX12_is (6 : Int32) D) fun q10 => (mz_gd (mz_bo q10.1) (some (q10.1, q10.2)))))))
set_option maxHeartbeats 4000000 in
theorem mX12_duel (x1 : Int32) (x2 : Int32) (D : mz_D) (r : (Int32 × mz_D)) (h : fX12_duel x1 x2 D = some r) : mz_Met IX12_duel [.inr (.inr (some (0, 200))), .inl x1, .inl x2] D (some (.inl r.1), r.2) := by
  refine mz_Met.of (by decide +kernel) (Nat.le_of_ble_eq_true rfl) ?_
  show mz_Go IX12_duel (some (.inl r.1), r.2) 0 0 (0, [some (.inr (.inr (some (0, 200)))), some (.inl x1), some (.inl x2)], [], D)
  rw [fX12_duel] at h
  refine mz_Go.run (gs := []) (st' := (3, [some (.inr (.inr (some (0, 200)))), some (.inl x1), some (.inl x2)], [.inl x2, .inl x1, .inr (.inr (some (0, 200)))], D)) bX12_duel_0 oX12_duel_0 rfl trivial ?_
  refine mz_Go.callV (I := IX12_duel) (J := IX12_areTwo) (as := [.inl x1, .inl x2]) (ci := 12) (g := 0) (o := 200) (idx := 331) (pl := 2036) (rest := []) (mX12_areTwo x1 x2 D _ rfl) kX12_areTwo vX12_areTwo (by decide +kernel) (by decide +kernel) (by decide +kernel) rfl rfl ⟨rfl, rfl⟩ rfl rfl rfl rfl ?_
  refine mz_Go.run (gs := []) (st' := (if (fX12_areTwo x1 x2 D) = 0 then (9, [some (.inr (.inr (some (0, 200)))), some (.inl x1), some (.inl x2)], [], D) else (15, [some (.inr (.inr (some (0, 200)))), some (.inl x1), some (.inl x2)], [], D))) bX12_duel_6 oX12_duel_6 rfl trivial ?_
  refine mz_Go.ite (fun hc1 => ?_) (fun hc1 => ?_)
  · have h := mz_ifp hc1 h
    refine mz_Go.run (gs := []) (st' := (11, [some (.inr (.inr (some (0, 200)))), some (.inl x1), some (.inl x2)], [.inl (1 : Int32), .inr (.inr (some (0, 200)))], D)) bX12_duel_9 oX12_duel_9 rfl trivial ?_
    obtain ⟨q2, hq2, h⟩ := mz_bd_some h
    refine mz_Go.callV (I := IX12_duel) (J := IX12_is) (as := [.inl (1 : Int32)]) (ci := 12) (g := 0) (o := 200) (idx := 82) (pl := 1701) (rest := []) (mX12_is (1 : Int32) D q2 hq2) kX12_is vX12_is (by decide +kernel) (by decide +kernel) (by decide +kernel) rfl rfl ⟨rfl, rfl⟩ rfl rfl rfl rfl ?_
    obtain ⟨hb3, h⟩ := mz_gd_some h
    cases h
    exact mz_Go.retz (by decide +kernel) rfl ⟨Nat.le_refl _, Nat.le_refl _⟩ hb3 rfl
  · have h := mz_ifn hc1 h
    refine mz_Go.run (gs := []) (st' := (18, [some (.inr (.inr (some (0, 200)))), some (.inl x1), some (.inl x2)], [.inl x2, .inl x1, .inr (.inr (some (0, 200)))], D)) bX12_duel_15 oX12_duel_15 rfl trivial ?_
    obtain ⟨q4, hq4, h⟩ := mz_bd_some h
    refine mz_Go.callV (I := IX12_duel) (J := IX12_isEndless) (as := [.inl x1, .inl x2]) (ci := 12) (g := 0) (o := 200) (idx := 334) (pl := 2040) (rest := []) (mX12_isEndless x1 x2 D q4 hq4) kX12_isEndless vX12_isEndless (by decide +kernel) (by decide +kernel) (by decide +kernel) rfl rfl ⟨rfl, rfl⟩ rfl rfl rfl rfl ?_
    refine mz_Go.run (gs := []) (st' := (if q4 = 0 then (33, [some (.inr (.inr (some (0, 200)))), some (.inl x1), some (.inl x2)], [], D) else (24, [some (.inr (.inr (some (0, 200)))), some (.inl x1), some (.inl x2)], [], D))) bX12_duel_21 oX12_duel_21 rfl trivial ?_
    refine mz_Go.ite (fun hc5 => ?_) (fun hc5 => ?_)
    · have h := mz_ifp hc5 h
      refine mz_Go.run (gs := []) (st' := (37, [some (.inr (.inr (some (0, 200)))), some (.inl x1), some (.inl x2)], [.inl x2, .inl x1, .inr (.inr (some (0, 200))), .inr (.inr (some (0, 200)))], D)) bX12_duel_33 oX12_duel_33 rfl trivial ?_
      obtain ⟨q6, hq6, h⟩ := mz_bd_some h
      refine mz_Go.callV (I := IX12_duel) (J := IX12_first) (as := [.inl x1, .inl x2]) (ci := 12) (g := 0) (o := 200) (idx := 337) (pl := 2048) (rest := [.inr (.inr (some (0, 200)))]) (mX12_first x1 x2 D q6 hq6) kX12_first vX12_first (by decide +kernel) (by decide +kernel) (by decide +kernel) rfl rfl ⟨rfl, rfl⟩ rfl rfl rfl rfl ?_
      refine mz_Go.run (gs := []) (st' := (44, [some (.inr (.inr (some (0, 200)))), some (.inl x1), some (.inl x2)], [.inl x2, .inl x1, .inr (.inr (some (0, 200))), .inr (.inl (q6).toInt64), .inr (.inr (some (0, 200)))], D)) bX12_duel_40 oX12_duel_40 rfl trivial ?_
      obtain ⟨q7, hq7, h⟩ := mz_bd_some h
      refine mz_Go.callV (I := IX12_duel) (J := IX12_behind) (as := [.inl x1, .inl x2]) (ci := 12) (g := 0) (o := 200) (idx := 340) (pl := 2052) (rest := [.inr (.inl (q6).toInt64), .inr (.inr (some (0, 200)))]) (mX12_behind x1 x2 D q7 hq7) kX12_behind vX12_behind (by decide +kernel) (by decide +kernel) (by decide +kernel) rfl rfl ⟨rfl, rfl⟩ rfl rfl rfl rfl ?_
      refine mz_Go.run (gs := []) (st' := (48, [some (.inr (.inr (some (0, 200)))), some (.inl x1), some (.inl x2)], [.inr (.inl (q7).toInt64), .inr (.inl (q6).toInt64), .inr (.inr (some (0, 200)))], D)) bX12_duel_47 oX12_duel_47 rfl trivial ?_
      obtain ⟨q8, hq8, h⟩ := mz_bd_some h
      refine mz_Go.callV (I := IX12_duel) (J := IX12_tellsBy) (as := [.inr (.inl (q6).toInt64), .inr (.inl (q7).toInt64)]) (ci := 12) (g := 0) (o := 200) (idx := 343) (pl := 2056) (rest := []) (mX12_tellsBy (q6).toInt64 (q7).toInt64 D q8 hq8) kX12_tellsBy vX12_tellsBy (by decide +kernel) (by decide +kernel) (by decide +kernel) rfl rfl ⟨rfl, rfl⟩ rfl rfl rfl rfl ?_
      obtain ⟨hb9, h⟩ := mz_gd_some h
      cases h
      exact mz_Go.retz (by decide +kernel) rfl ⟨Nat.le_refl _, Nat.le_refl _⟩ hb9 rfl
    · have h := mz_ifn hc5 h
      refine mz_Go.run (gs := []) (st' := (27, [some (.inr (.inr (some (0, 200)))), some (.inl x1), some (.inl x2)], [.inl (6 : Int32), .inr (.inr (some (0, 200)))], D)) bX12_duel_24 oX12_duel_24 rfl trivial ?_
      obtain ⟨q10, hq10, h⟩ := mz_bd_some h
      refine mz_Go.callV (I := IX12_duel) (J := IX12_is) (as := [.inl (6 : Int32)]) (ci := 12) (g := 0) (o := 200) (idx := 82) (pl := 1701) (rest := []) (mX12_is (6 : Int32) D q10 hq10) kX12_is vX12_is (by decide +kernel) (by decide +kernel) (by decide +kernel) rfl rfl ⟨rfl, rfl⟩ rfl rfl rfl rfl ?_
      refine mz_Go.run (gs := []) (st' := (51, [some (.inr (.inr (some (0, 200)))), some (.inl x1), some (.inl x2)], [.inl q10.1], q10.2)) bX12_duel_30 oX12_duel_30 rfl trivial ?_
      obtain ⟨hb11, h⟩ := mz_gd_some h
      cases h
      exact mz_Go.retz (by decide +kernel) rfl ⟨Nat.le_refl _, Nat.le_refl _⟩ hb11 rfl
def bX12_goes_0 : List mz_E := [(0, .aload_n 0, 0, 0, 0, 0, 0), (1, .iload_n 1, 0, 0, 0, 0, 0), (2, .iload_n 2, 0, 0, 0, 0, 0)]
theorem oX12_goes_0 : bX12_goes_0.all (mz_ok RX12 cX12_goes 3) = true := by decide +kernel
def bX12_goes_6 : List mz_E := [(6, .ifCond .ne 9, 0, 15, 0, 0, 0)]
theorem oX12_goes_6 : bX12_goes_6.all (mz_ok RX12 cX12_goes 3) = true := by decide +kernel
def bX12_goes_9 : List mz_E := [(9, .aload_n 0, 0, 0, 0, 0, 0), (10, .iconst 1, 0, 0, 0, 1, 0)]
theorem oX12_goes_9 : bX12_goes_9.all (mz_ok RX12 cX12_goes 3) = true := by decide +kernel
def bX12_goes_15 : List mz_E := [(15, .aload_n 0, 0, 0, 0, 0, 0), (16, .iload_n 1, 0, 0, 0, 0, 0), (17, .iload_n 2, 0, 0, 0, 0, 0)]
theorem oX12_goes_15 : bX12_goes_15.all (mz_ok RX12 cX12_goes 3) = true := by decide +kernel
def bX12_goes_21 : List mz_E := [(21, .ifCond .eq 12, 0, 33, 0, 0, 0)]
theorem oX12_goes_21 : bX12_goes_21.all (mz_ok RX12 cX12_goes 3) = true := by decide +kernel
def bX12_goes_33 : List mz_E := [(33, .aload_n 0, 0, 0, 0, 0, 0), (34, .ldc2_w 347, 0, 0, 2064, 0, 16), (37, .bipush 16, 0, 0, 0, 16, 0), (39, .aload_n 0, 0, 0, 0, 0, 0), (40, .iload_n 1, 0, 0, 0, 0, 0)]
theorem oX12_goes_33 : bX12_goes_33.all (mz_ok RX12 cX12_goes 3) = true := by decide +kernel
def bX12_goes_44 : List mz_E := [(44, .iadd, 0, 0, 0, 0, 0), (45, .i2l, 0, 0, 0, 0, 0), (46, .lmul, 0, 0, 0, 0, 0), (47, .aload_n 0, 0, 0, 0, 0, 0), (48, .iload_n 1, 0, 0, 0, 0, 0), (49, .iload_n 2, 0, 0, 0, 0, 0)]
theorem oX12_goes_44 : bX12_goes_44.all (mz_ok RX12 cX12_goes 3) = true := by decide +kernel
def bX12_goes_53 : List mz_E := [(53, .i2l, 0, 0, 0, 0, 0)]
theorem oX12_goes_53 : bX12_goes_53.all (mz_ok RX12 cX12_goes 3) = true := by decide +kernel
def bX12_goes_24 : List mz_E := [(24, .aload_n 0, 0, 0, 0, 0, 0), (25, .bipush 6, 0, 0, 0, 6, 0)]
theorem oX12_goes_24 : bX12_goes_24.all (mz_ok RX12 cX12_goes 3) = true := by decide +kernel
def bX12_goes_30 : List mz_E := [(30, .goto 27, 0, 57, 0, 0, 0)]
theorem oX12_goes_30 : bX12_goes_30.all (mz_ok RX12 cX12_goes 3) = true := by decide +kernel
abbrev IX12_goes : mz_I := (yX12_goes, cX12_goes, 3, (some .boolean), 0, 3, 0, 0)
theorem kX12_goes : mz_okm IX12_goes 2063 141 2061 2 = true := by decide +kernel
theorem vX12_goes : mz_okV IX12_goes 2061 2062 = true := by decide +kernel
def fX12_goes (x1 : Int32) (x2 : Int32) (D : mz_D) : Option (Int32 × mz_D) := (if (fX12_areTwo x1 x2 D) = 0 then (Option.bind (fX12_is (1 : Int32) D) fun q2 => (mz_gd (mz_bo q2.1) (some (q2.1, q2.2)))) else (Option.bind (fX12_isEndless x1 x2 D) fun q4 => (if q4 = 0 then (Option.bind (fX12_insists x1 D) fun q6 => (Option.bind (fX12_behind x1 x2 D) fun q7 => (Option.bind (fX12_tellsBy ((16 : Int64) * (((16 : Int32) + q6)).toInt64) (q7).toInt64 D) fun q8 => (mz_gd (mz_bo q8.1) (some (q8.1, q8.2)))))) else (Option.bind (fX12_is (6 : Int32) D) fun q10 => (mz_gd (mz_bo q10.1) (some (q10.1, q10.2)))))))
set_option maxHeartbeats 4000000 in
theorem mX12_goes (x1 : Int32) (x2 : Int32) (D : mz_D) (r : (Int32 × mz_D)) (h : fX12_goes x1 x2 D = some r) : mz_Met IX12_goes [.inr (.inr (some (0, 200))), .inl x1, .inl x2] D (some (.inl r.1), r.2) := by
  refine mz_Met.of (by decide +kernel) (Nat.le_of_ble_eq_true rfl) ?_
  show mz_Go IX12_goes (some (.inl r.1), r.2) 0 0 (0, [some (.inr (.inr (some (0, 200)))), some (.inl x1), some (.inl x2)], [], D)
  rw [fX12_goes] at h
  refine mz_Go.run (gs := []) (st' := (3, [some (.inr (.inr (some (0, 200)))), some (.inl x1), some (.inl x2)], [.inl x2, .inl x1, .inr (.inr (some (0, 200)))], D)) bX12_goes_0 oX12_goes_0 rfl trivial ?_
  refine mz_Go.callV (I := IX12_goes) (J := IX12_areTwo) (as := [.inl x1, .inl x2]) (ci := 12) (g := 0) (o := 200) (idx := 331) (pl := 2036) (rest := []) (mX12_areTwo x1 x2 D _ rfl) kX12_areTwo vX12_areTwo (by decide +kernel) (by decide +kernel) (by decide +kernel) rfl rfl ⟨rfl, rfl⟩ rfl rfl rfl rfl ?_
  refine mz_Go.run (gs := []) (st' := (if (fX12_areTwo x1 x2 D) = 0 then (9, [some (.inr (.inr (some (0, 200)))), some (.inl x1), some (.inl x2)], [], D) else (15, [some (.inr (.inr (some (0, 200)))), some (.inl x1), some (.inl x2)], [], D))) bX12_goes_6 oX12_goes_6 rfl trivial ?_
  refine mz_Go.ite (fun hc1 => ?_) (fun hc1 => ?_)
  · have h := mz_ifp hc1 h
    refine mz_Go.run (gs := []) (st' := (11, [some (.inr (.inr (some (0, 200)))), some (.inl x1), some (.inl x2)], [.inl (1 : Int32), .inr (.inr (some (0, 200)))], D)) bX12_goes_9 oX12_goes_9 rfl trivial ?_
    obtain ⟨q2, hq2, h⟩ := mz_bd_some h
    refine mz_Go.callV (I := IX12_goes) (J := IX12_is) (as := [.inl (1 : Int32)]) (ci := 12) (g := 0) (o := 200) (idx := 82) (pl := 1701) (rest := []) (mX12_is (1 : Int32) D q2 hq2) kX12_is vX12_is (by decide +kernel) (by decide +kernel) (by decide +kernel) rfl rfl ⟨rfl, rfl⟩ rfl rfl rfl rfl ?_
    obtain ⟨hb3, h⟩ := mz_gd_some h
    cases h
    exact mz_Go.retz (by decide +kernel) rfl ⟨Nat.le_refl _, Nat.le_refl _⟩ hb3 rfl
  · have h := mz_ifn hc1 h
    refine mz_Go.run (gs := []) (st' := (18, [some (.inr (.inr (some (0, 200)))), some (.inl x1), some (.inl x2)], [.inl x2, .inl x1, .inr (.inr (some (0, 200)))], D)) bX12_goes_15 oX12_goes_15 rfl trivial ?_
    obtain ⟨q4, hq4, h⟩ := mz_bd_some h
    refine mz_Go.callV (I := IX12_goes) (J := IX12_isEndless) (as := [.inl x1, .inl x2]) (ci := 12) (g := 0) (o := 200) (idx := 334) (pl := 2040) (rest := []) (mX12_isEndless x1 x2 D q4 hq4) kX12_isEndless vX12_isEndless (by decide +kernel) (by decide +kernel) (by decide +kernel) rfl rfl ⟨rfl, rfl⟩ rfl rfl rfl rfl ?_
    refine mz_Go.run (gs := []) (st' := (if q4 = 0 then (33, [some (.inr (.inr (some (0, 200)))), some (.inl x1), some (.inl x2)], [], D) else (24, [some (.inr (.inr (some (0, 200)))), some (.inl x1), some (.inl x2)], [], D))) bX12_goes_21 oX12_goes_21 rfl trivial ?_
    refine mz_Go.ite (fun hc5 => ?_) (fun hc5 => ?_)
    · have h := mz_ifp hc5 h
      refine mz_Go.run (gs := []) (st' := (41, [some (.inr (.inr (some (0, 200)))), some (.inl x1), some (.inl x2)], [.inl x1, .inr (.inr (some (0, 200))), .inl (16 : Int32), .inr (.inl (16 : Int64)), .inr (.inr (some (0, 200)))], D)) bX12_goes_33 oX12_goes_33 rfl trivial ?_
      obtain ⟨q6, hq6, h⟩ := mz_bd_some h
      refine mz_Go.callV (I := IX12_goes) (J := IX12_insists) (as := [.inl x1]) (ci := 12) (g := 0) (o := 200) (idx := 328) (pl := 2044) (rest := [.inl (16 : Int32), .inr (.inl (16 : Int64)), .inr (.inr (some (0, 200)))]) (mX12_insists x1 D q6 hq6) kX12_insists vX12_insists (by decide +kernel) (by decide +kernel) (by decide +kernel) rfl rfl ⟨rfl, rfl⟩ rfl rfl rfl rfl ?_
      refine mz_Go.run (gs := []) (st' := (50, [some (.inr (.inr (some (0, 200)))), some (.inl x1), some (.inl x2)], [.inl x2, .inl x1, .inr (.inr (some (0, 200))), .inr (.inl ((16 : Int64) * (((16 : Int32) + q6)).toInt64)), .inr (.inr (some (0, 200)))], D)) bX12_goes_44 oX12_goes_44 rfl trivial ?_
      obtain ⟨q7, hq7, h⟩ := mz_bd_some h
      refine mz_Go.callV (I := IX12_goes) (J := IX12_behind) (as := [.inl x1, .inl x2]) (ci := 12) (g := 0) (o := 200) (idx := 340) (pl := 2052) (rest := [.inr (.inl ((16 : Int64) * (((16 : Int32) + q6)).toInt64)), .inr (.inr (some (0, 200)))]) (mX12_behind x1 x2 D q7 hq7) kX12_behind vX12_behind (by decide +kernel) (by decide +kernel) (by decide +kernel) rfl rfl ⟨rfl, rfl⟩ rfl rfl rfl rfl ?_
      refine mz_Go.run (gs := []) (st' := (54, [some (.inr (.inr (some (0, 200)))), some (.inl x1), some (.inl x2)], [.inr (.inl (q7).toInt64), .inr (.inl ((16 : Int64) * (((16 : Int32) + q6)).toInt64)), .inr (.inr (some (0, 200)))], D)) bX12_goes_53 oX12_goes_53 rfl trivial ?_
      obtain ⟨q8, hq8, h⟩ := mz_bd_some h
      refine mz_Go.callV (I := IX12_goes) (J := IX12_tellsBy) (as := [.inr (.inl ((16 : Int64) * (((16 : Int32) + q6)).toInt64)), .inr (.inl (q7).toInt64)]) (ci := 12) (g := 0) (o := 200) (idx := 343) (pl := 2056) (rest := []) (mX12_tellsBy ((16 : Int64) * (((16 : Int32) + q6)).toInt64) (q7).toInt64 D q8 hq8) kX12_tellsBy vX12_tellsBy (by decide +kernel) (by decide +kernel) (by decide +kernel) rfl rfl ⟨rfl, rfl⟩ rfl rfl rfl rfl ?_
      obtain ⟨hb9, h⟩ := mz_gd_some h
      cases h
      exact mz_Go.retz (by decide +kernel) rfl ⟨Nat.le_refl _, Nat.le_refl _⟩ hb9 rfl
    · have h := mz_ifn hc5 h
      refine mz_Go.run (gs := []) (st' := (27, [some (.inr (.inr (some (0, 200)))), some (.inl x1), some (.inl x2)], [.inl (6 : Int32), .inr (.inr (some (0, 200)))], D)) bX12_goes_24 oX12_goes_24 rfl trivial ?_
      obtain ⟨q10, hq10, h⟩ := mz_bd_some h
      refine mz_Go.callV (I := IX12_goes) (J := IX12_is) (as := [.inl (6 : Int32)]) (ci := 12) (g := 0) (o := 200) (idx := 82) (pl := 1701) (rest := []) (mX12_is (6 : Int32) D q10 hq10) kX12_is vX12_is (by decide +kernel) (by decide +kernel) (by decide +kernel) rfl rfl ⟨rfl, rfl⟩ rfl rfl rfl rfl ?_
      refine mz_Go.run (gs := []) (st' := (57, [some (.inr (.inr (some (0, 200)))), some (.inl x1), some (.inl x2)], [.inl q10.1], q10.2)) bX12_goes_30 oX12_goes_30 rfl trivial ?_
      obtain ⟨hb11, h⟩ := mz_gd_some h
      cases h
      exact mz_Go.retz (by decide +kernel) rfl ⟨Nat.le_refl _, Nat.le_refl _⟩ hb11 rfl
def bX12_trio_0 : List mz_E := [(0, .aload_n 0, 0, 0, 0, 0, 0), (1, .iload_n 1, 0, 0, 0, 0, 0), (2, .iload_n 2, 0, 0, 0, 0, 0)]
theorem oX12_trio_0 : bX12_trio_0.all (mz_ok RX12 cX12_trio 12) = true := by decide +kernel
def bX12_trio_6 : List mz_E := [(6, .ifCond .eq 32, 0, 38, 0, 0, 0)]
theorem oX12_trio_6 : bX12_trio_6.all (mz_ok RX12 cX12_trio 12) = true := by decide +kernel
def bX12_trio_38 : List mz_E := [(38, .aload_n 0, 0, 0, 0, 0, 0), (39, .iconst 1, 0, 0, 0, 1, 0)]
theorem oX12_trio_38 : bX12_trio_38.all (mz_ok RX12 cX12_trio 12) = true := by decide +kernel
def bX12_trio_9 : List mz_E := [(9, .aload_n 0, 0, 0, 0, 0, 0), (10, .iload_n 1, 0, 0, 0, 0, 0), (11, .iload_n 3, 0, 0, 0, 0, 0)]
theorem oX12_trio_9 : bX12_trio_9.all (mz_ok RX12 cX12_trio 12) = true := by decide +kernel
def bX12_trio_15 : List mz_E := [(15, .ifCond .eq 23, 0, 38, 0, 0, 0)]
theorem oX12_trio_15 : bX12_trio_15.all (mz_ok RX12 cX12_trio 12) = true := by decide +kernel
def bX12_trio_18 : List mz_E := [(18, .aload_n 0, 0, 0, 0, 0, 0), (19, .iload_n 2, 0, 0, 0, 0, 0), (20, .iload_n 3, 0, 0, 0, 0, 0)]
theorem oX12_trio_18 : bX12_trio_18.all (mz_ok RX12 cX12_trio 12) = true := by decide +kernel
def bX12_trio_24 : List mz_E := [(24, .ifCond .eq 14, 0, 38, 0, 0, 0)]
theorem oX12_trio_24 : bX12_trio_24.all (mz_ok RX12 cX12_trio 12) = true := by decide +kernel
def bX12_trio_27 : List mz_E := [(27, .iload 4, 0, 0, 0, 0, 0), (29, .ifCond .lt 9, 0, 38, 0, 0, 0)]
theorem oX12_trio_27 : bX12_trio_27.all (mz_ok RX12 cX12_trio 12) = true := by decide +kernel
def bX12_trio_32 : List mz_E := [(32, .iload 4, 0, 0, 0, 0, 0), (34, .iconst 2, 0, 0, 0, 2, 0), (35, .if_icmp .le 9, 0, 44, 0, 0, 0)]
theorem oX12_trio_32 : bX12_trio_32.all (mz_ok RX12 cX12_trio 12) = true := by decide +kernel
def bX12_trio_44 : List mz_E := [(44, .aload_n 0, 0, 0, 0, 0, 0), (45, .iload_n 1, 0, 0, 0, 0, 0), (46, .iload_n 2, 0, 0, 0, 0, 0)]
theorem oX12_trio_44 : bX12_trio_44.all (mz_ok RX12 cX12_trio 12) = true := by decide +kernel
def bX12_trio_50 : List mz_E := [(50, .ifCond .ne 21, 0, 71, 0, 0, 0)]
theorem oX12_trio_50 : bX12_trio_50.all (mz_ok RX12 cX12_trio 12) = true := by decide +kernel
def bX12_trio_53 : List mz_E := [(53, .aload_n 0, 0, 0, 0, 0, 0), (54, .iload_n 1, 0, 0, 0, 0, 0), (55, .iload_n 3, 0, 0, 0, 0, 0)]
theorem oX12_trio_53 : bX12_trio_53.all (mz_ok RX12 cX12_trio 12) = true := by decide +kernel
def bX12_trio_59 : List mz_E := [(59, .ifCond .ne 12, 0, 71, 0, 0, 0)]
theorem oX12_trio_59 : bX12_trio_59.all (mz_ok RX12 cX12_trio 12) = true := by decide +kernel
def bX12_trio_62 : List mz_E := [(62, .aload_n 0, 0, 0, 0, 0, 0), (63, .iload_n 2, 0, 0, 0, 0, 0), (64, .iload_n 3, 0, 0, 0, 0, 0)]
theorem oX12_trio_62 : bX12_trio_62.all (mz_ok RX12 cX12_trio 12) = true := by decide +kernel
def bX12_trio_68 : List mz_E := [(68, .ifCond .eq 10, 0, 78, 0, 0, 0)]
theorem oX12_trio_68 : bX12_trio_68.all (mz_ok RX12 cX12_trio 12) = true := by decide +kernel
def bX12_trio_78 : List mz_E := [(78, .bipush 16, 0, 0, 0, 16, 0), (80, .aload_n 0, 0, 0, 0, 0, 0), (81, .iload_n 1, 0, 0, 0, 0, 0)]
theorem oX12_trio_78 : bX12_trio_78.all (mz_ok RX12 cX12_trio 12) = true := by decide +kernel
def bX12_trio_85 : List mz_E := [(85, .isub, 0, 0, 0, 0, 0), (86, .sipush 256, 0, 0, 0, 256, 0), (89, .imul, 0, 0, 0, 0, 0), (90, .istore 5, 0, 0, 0, 0, 0), (92, .aload_n 0, 0, 0, 0, 0, 0), (93, .iload_n 1, 0, 0, 0, 0, 0)]
theorem oX12_trio_85 : bX12_trio_85.all (mz_ok RX12 cX12_trio 12) = true := by decide +kernel
def bX12_trio_97 : List mz_E := [(97, .bipush 16, 0, 0, 0, 16, 0), (99, .aload_n 0, 0, 0, 0, 0, 0), (100, .iload_n 2, 0, 0, 0, 0, 0)]
theorem oX12_trio_97 : bX12_trio_97.all (mz_ok RX12 cX12_trio 12) = true := by decide +kernel
def bX12_trio_104 : List mz_E := [(104, .isub, 0, 0, 0, 0, 0), (105, .imul, 0, 0, 0, 0, 0), (106, .bipush 16, 0, 0, 0, 16, 0), (108, .imul, 0, 0, 0, 0, 0), (109, .istore 6, 0, 0, 0, 0, 0), (111, .aload_n 0, 0, 0, 0, 0, 0), (112, .iload_n 1, 0, 0, 0, 0, 0)]
theorem oX12_trio_104 : bX12_trio_104.all (mz_ok RX12 cX12_trio 12) = true := by decide +kernel
def bX12_trio_116 : List mz_E := [(116, .aload_n 0, 0, 0, 0, 0, 0), (117, .iload_n 2, 0, 0, 0, 0, 0)]
theorem oX12_trio_116 : bX12_trio_116.all (mz_ok RX12 cX12_trio 12) = true := by decide +kernel
def bX12_trio_121 : List mz_E := [(121, .imul, 0, 0, 0, 0, 0), (122, .bipush 16, 0, 0, 0, 16, 0), (124, .aload_n 0, 0, 0, 0, 0, 0), (125, .iload_n 3, 0, 0, 0, 0, 0)]
theorem oX12_trio_121 : bX12_trio_121.all (mz_ok RX12 cX12_trio 12) = true := by decide +kernel
def bX12_trio_129 : List mz_E := [(129, .isub, 0, 0, 0, 0, 0), (130, .imul, 0, 0, 0, 0, 0), (131, .istore 7, 0, 0, 0, 0, 0), (133, .ldc2_w 349, 0, 0, 2069, 0, 4096), (136, .aload_n 0, 0, 0, 0, 0, 0), (137, .iload_n 1, 0, 0, 0, 0, 0)]
theorem oX12_trio_129 : bX12_trio_129.all (mz_ok RX12 cX12_trio 12) = true := by decide +kernel
def bX12_trio_141 : List mz_E := [(141, .aload_n 0, 0, 0, 0, 0, 0), (142, .iload_n 2, 0, 0, 0, 0, 0)]
theorem oX12_trio_141 : bX12_trio_141.all (mz_ok RX12 cX12_trio 12) = true := by decide +kernel
def bX12_trio_146 : List mz_E := [(146, .imul, 0, 0, 0, 0, 0), (147, .aload_n 0, 0, 0, 0, 0, 0), (148, .iload_n 3, 0, 0, 0, 0, 0)]
theorem oX12_trio_146 : bX12_trio_146.all (mz_ok RX12 cX12_trio 12) = true := by decide +kernel
def bX12_trio_152 : List mz_E := [(152, .imul, 0, 0, 0, 0, 0), (153, .i2l, 0, 0, 0, 0, 0), (154, .lsub, 0, 0, 0, 0, 0), (155, .lstore 8, 0, 0, 0, 0, 0), (157, .lconst 0, 0, 0, 0, 0, 0), (158, .lstore 10, 0, 0, 0, 0, 0), (160, .iload 4, 0, 0, 0, 0, 0), (162, .ifCond .eq 57, 0, 219, 0, 0, 0)]
theorem oX12_trio_152 : bX12_trio_152.all (mz_ok RX12 cX12_trio 12) = true := by decide +kernel
def bX12_trio_219 : List mz_E := [(219, .iload 4, 0, 0, 0, 0, 0), (221, .iconst 1, 0, 0, 0, 1, 0), (222, .if_icmp .eq 57, 0, 279, 0, 0, 0)]
theorem oX12_trio_219 : bX12_trio_219.all (mz_ok RX12 cX12_trio 12) = true := by decide +kernel
def bX12_trio_279 : List mz_E := [(279, .iload 4, 0, 0, 0, 0, 0), (281, .iconst 2, 0, 0, 0, 2, 0), (282, .if_icmp .eq 56, 0, 338, 0, 0, 0)]
theorem oX12_trio_279 : bX12_trio_279.all (mz_ok RX12 cX12_trio 12) = true := by decide +kernel
def bX12_trio_338 : List mz_E := [(338, .aload_n 0, 0, 0, 0, 0, 0), (339, .lload 10, 0, 0, 0, 0, 0), (341, .lload 8, 0, 0, 0, 0, 0), (343, .aload_n 0, 0, 0, 0, 0, 0), (344, .iload_n 1, 0, 0, 0, 0, 0), (345, .iload_n 2, 0, 0, 0, 0, 0)]
theorem oX12_trio_338 : bX12_trio_338.all (mz_ok RX12 cX12_trio 12) = true := by decide +kernel
def bX12_trio_349 : List mz_E := [(349, .i2l, 0, 0, 0, 0, 0), (350, .lmul, 0, 0, 0, 0, 0), (351, .aload_n 0, 0, 0, 0, 0, 0), (352, .iload_n 2, 0, 0, 0, 0, 0), (353, .iload_n 3, 0, 0, 0, 0, 0)]
theorem oX12_trio_349 : bX12_trio_349.all (mz_ok RX12 cX12_trio 12) = true := by decide +kernel
def bX12_trio_357 : List mz_E := [(357, .i2l, 0, 0, 0, 0, 0), (358, .lmul, 0, 0, 0, 0, 0), (359, .aload_n 0, 0, 0, 0, 0, 0), (360, .iload_n 3, 0, 0, 0, 0, 0), (361, .iload_n 1, 0, 0, 0, 0, 0)]
theorem oX12_trio_357 : bX12_trio_357.all (mz_ok RX12 cX12_trio 12) = true := by decide +kernel
def bX12_trio_365 : List mz_E := [(365, .i2l, 0, 0, 0, 0, 0), (366, .lmul, 0, 0, 0, 0, 0)]
theorem oX12_trio_365 : bX12_trio_365.all (mz_ok RX12 cX12_trio 12) = true := by decide +kernel
def bX12_trio_285 : List mz_E := [(285, .lload 10, 0, 0, 0, 0, 0), (287, .iload 7, 0, 0, 0, 0, 0), (289, .i2l, 0, 0, 0, 0, 0), (290, .iload 4, 0, 0, 0, 0, 0), (292, .ifCond .ne 12, 0, 304, 0, 0, 0)]
theorem oX12_trio_285 : bX12_trio_285.all (mz_ok RX12 cX12_trio 12) = true := by decide +kernel
def bX12_trio_295 : List mz_E := [(295, .aload_n 0, 0, 0, 0, 0, 0), (296, .iload_n 1, 0, 0, 0, 0, 0), (297, .iload_n 2, 0, 0, 0, 0, 0)]
theorem oX12_trio_295 : bX12_trio_295.all (mz_ok RX12 cX12_trio 12) = true := by decide +kernel
def bX12_trio_301 : List mz_E := [(301, .goto 16, 0, 317, 0, 0, 0)]
theorem oX12_trio_301 : bX12_trio_301.all (mz_ok RX12 cX12_trio 12) = true := by decide +kernel
def bX12_trio_317 : List mz_E := [(317, .i2l, 0, 0, 0, 0, 0), (318, .lmul, 0, 0, 0, 0, 0), (319, .aload_n 0, 0, 0, 0, 0, 0), (320, .iload_n 2, 0, 0, 0, 0, 0), (321, .iload_n 3, 0, 0, 0, 0, 0)]
theorem oX12_trio_317 : bX12_trio_317.all (mz_ok RX12 cX12_trio 12) = true := by decide +kernel
def bX12_trio_325 : List mz_E := [(325, .i2l, 0, 0, 0, 0, 0), (326, .lmul, 0, 0, 0, 0, 0), (327, .aload_n 0, 0, 0, 0, 0, 0), (328, .iload_n 3, 0, 0, 0, 0, 0), (329, .iload_n 1, 0, 0, 0, 0, 0)]
theorem oX12_trio_325 : bX12_trio_325.all (mz_ok RX12 cX12_trio 12) = true := by decide +kernel
def bX12_trio_333 : List mz_E := [(333, .i2l, 0, 0, 0, 0, 0), (334, .lmul, 0, 0, 0, 0, 0), (335, .ladd, 0, 0, 0, 0, 0), (336, .lstore 10, 0, 0, 0, 0, 0)]
theorem oX12_trio_333 : bX12_trio_333.all (mz_ok RX12 cX12_trio 12) = true := by decide +kernel
def bX12_trio_304 : List mz_E := [(304, .aload_n 0, 0, 0, 0, 0, 0), (305, .iload_n 1, 0, 0, 0, 0, 0), (306, .iload_n 2, 0, 0, 0, 0, 0)]
theorem oX12_trio_304 : bX12_trio_304.all (mz_ok RX12 cX12_trio 12) = true := by decide +kernel
def bX12_trio_310 : List mz_E := [(310, .aload_n 0, 0, 0, 0, 0, 0), (311, .iload_n 1, 0, 0, 0, 0, 0), (312, .iload_n 2, 0, 0, 0, 0, 0)]
theorem oX12_trio_310 : bX12_trio_310.all (mz_ok RX12 cX12_trio 12) = true := by decide +kernel
def bX12_trio_316 : List mz_E := [(316, .isub, 0, 0, 0, 0, 0)]
theorem oX12_trio_316 : bX12_trio_316.all (mz_ok RX12 cX12_trio 12) = true := by decide +kernel
def bX12_trio_225 : List mz_E := [(225, .lload 10, 0, 0, 0, 0, 0), (227, .iload 6, 0, 0, 0, 0, 0), (229, .i2l, 0, 0, 0, 0, 0), (230, .iload 4, 0, 0, 0, 0, 0), (232, .iconst 2, 0, 0, 0, 2, 0), (233, .if_icmp .ne 12, 0, 245, 0, 0, 0)]
theorem oX12_trio_225 : bX12_trio_225.all (mz_ok RX12 cX12_trio 12) = true := by decide +kernel
def bX12_trio_236 : List mz_E := [(236, .aload_n 0, 0, 0, 0, 0, 0), (237, .iload_n 3, 0, 0, 0, 0, 0), (238, .iload_n 1, 0, 0, 0, 0, 0)]
theorem oX12_trio_236 : bX12_trio_236.all (mz_ok RX12 cX12_trio 12) = true := by decide +kernel
def bX12_trio_242 : List mz_E := [(242, .goto 16, 0, 258, 0, 0, 0)]
theorem oX12_trio_242 : bX12_trio_242.all (mz_ok RX12 cX12_trio 12) = true := by decide +kernel
def bX12_trio_258 : List mz_E := [(258, .i2l, 0, 0, 0, 0, 0), (259, .lmul, 0, 0, 0, 0, 0), (260, .aload_n 0, 0, 0, 0, 0, 0), (261, .iload_n 2, 0, 0, 0, 0, 0), (262, .iload_n 3, 0, 0, 0, 0, 0)]
theorem oX12_trio_258 : bX12_trio_258.all (mz_ok RX12 cX12_trio 12) = true := by decide +kernel
def bX12_trio_266 : List mz_E := [(266, .i2l, 0, 0, 0, 0, 0), (267, .lmul, 0, 0, 0, 0, 0), (268, .aload_n 0, 0, 0, 0, 0, 0), (269, .iload_n 1, 0, 0, 0, 0, 0), (270, .iload_n 2, 0, 0, 0, 0, 0)]
theorem oX12_trio_266 : bX12_trio_266.all (mz_ok RX12 cX12_trio 12) = true := by decide +kernel
def bX12_trio_274 : List mz_E := [(274, .i2l, 0, 0, 0, 0, 0), (275, .lmul, 0, 0, 0, 0, 0), (276, .ladd, 0, 0, 0, 0, 0), (277, .lstore 10, 0, 0, 0, 0, 0)]
theorem oX12_trio_274 : bX12_trio_274.all (mz_ok RX12 cX12_trio 12) = true := by decide +kernel
def bX12_trio_245 : List mz_E := [(245, .aload_n 0, 0, 0, 0, 0, 0), (246, .iload_n 3, 0, 0, 0, 0, 0), (247, .iload_n 1, 0, 0, 0, 0, 0)]
theorem oX12_trio_245 : bX12_trio_245.all (mz_ok RX12 cX12_trio 12) = true := by decide +kernel
def bX12_trio_251 : List mz_E := [(251, .aload_n 0, 0, 0, 0, 0, 0), (252, .iload_n 3, 0, 0, 0, 0, 0), (253, .iload_n 1, 0, 0, 0, 0, 0)]
theorem oX12_trio_251 : bX12_trio_251.all (mz_ok RX12 cX12_trio 12) = true := by decide +kernel
def bX12_trio_257 : List mz_E := [(257, .isub, 0, 0, 0, 0, 0)]
theorem oX12_trio_257 : bX12_trio_257.all (mz_ok RX12 cX12_trio 12) = true := by decide +kernel
def bX12_trio_165 : List mz_E := [(165, .lload 10, 0, 0, 0, 0, 0), (167, .iload 5, 0, 0, 0, 0, 0), (169, .i2l, 0, 0, 0, 0, 0), (170, .iload 4, 0, 0, 0, 0, 0), (172, .iconst 1, 0, 0, 0, 1, 0), (173, .if_icmp .ne 12, 0, 185, 0, 0, 0)]
theorem oX12_trio_165 : bX12_trio_165.all (mz_ok RX12 cX12_trio 12) = true := by decide +kernel
def bX12_trio_176 : List mz_E := [(176, .aload_n 0, 0, 0, 0, 0, 0), (177, .iload_n 2, 0, 0, 0, 0, 0), (178, .iload_n 3, 0, 0, 0, 0, 0)]
theorem oX12_trio_176 : bX12_trio_176.all (mz_ok RX12 cX12_trio 12) = true := by decide +kernel
def bX12_trio_182 : List mz_E := [(182, .goto 16, 0, 198, 0, 0, 0)]
theorem oX12_trio_182 : bX12_trio_182.all (mz_ok RX12 cX12_trio 12) = true := by decide +kernel
def bX12_trio_198 : List mz_E := [(198, .i2l, 0, 0, 0, 0, 0), (199, .lmul, 0, 0, 0, 0, 0), (200, .aload_n 0, 0, 0, 0, 0, 0), (201, .iload_n 3, 0, 0, 0, 0, 0), (202, .iload_n 1, 0, 0, 0, 0, 0)]
theorem oX12_trio_198 : bX12_trio_198.all (mz_ok RX12 cX12_trio 12) = true := by decide +kernel
def bX12_trio_206 : List mz_E := [(206, .i2l, 0, 0, 0, 0, 0), (207, .lmul, 0, 0, 0, 0, 0), (208, .aload_n 0, 0, 0, 0, 0, 0), (209, .iload_n 1, 0, 0, 0, 0, 0), (210, .iload_n 2, 0, 0, 0, 0, 0)]
theorem oX12_trio_206 : bX12_trio_206.all (mz_ok RX12 cX12_trio 12) = true := by decide +kernel
def bX12_trio_214 : List mz_E := [(214, .i2l, 0, 0, 0, 0, 0), (215, .lmul, 0, 0, 0, 0, 0), (216, .ladd, 0, 0, 0, 0, 0), (217, .lstore 10, 0, 0, 0, 0, 0)]
theorem oX12_trio_214 : bX12_trio_214.all (mz_ok RX12 cX12_trio 12) = true := by decide +kernel
def bX12_trio_185 : List mz_E := [(185, .aload_n 0, 0, 0, 0, 0, 0), (186, .iload_n 2, 0, 0, 0, 0, 0), (187, .iload_n 3, 0, 0, 0, 0, 0)]
theorem oX12_trio_185 : bX12_trio_185.all (mz_ok RX12 cX12_trio 12) = true := by decide +kernel
def bX12_trio_191 : List mz_E := [(191, .aload_n 0, 0, 0, 0, 0, 0), (192, .iload_n 2, 0, 0, 0, 0, 0), (193, .iload_n 3, 0, 0, 0, 0, 0)]
theorem oX12_trio_191 : bX12_trio_191.all (mz_ok RX12 cX12_trio 12) = true := by decide +kernel
def bX12_trio_197 : List mz_E := [(197, .isub, 0, 0, 0, 0, 0)]
theorem oX12_trio_197 : bX12_trio_197.all (mz_ok RX12 cX12_trio 12) = true := by decide +kernel
def bX12_trio_71 : List mz_E := [(71, .aload_n 0, 0, 0, 0, 0, 0), (72, .bipush 6, 0, 0, 0, 6, 0)]
theorem oX12_trio_71 : bX12_trio_71.all (mz_ok RX12 cX12_trio 12) = true := by decide +kernel
abbrev IX12_trio : mz_I := (yX12_trio, cX12_trio, 12, (some .boolean), 0, 3, 0, 0)
theorem kX12_trio : mz_okm IX12_trio 2068 141 2066 4 = true := by decide +kernel
theorem vX12_trio : mz_okV IX12_trio 2066 2067 = true := by decide +kernel
def fX12_trio_38 (D : mz_D) : Option (Int32 × mz_D) := (Option.bind (fX12_is (1 : Int32) D) fun q1 => (mz_gd (mz_bo q1.1) (some (q1.1, q1.2))))
set_option maxHeartbeats 4000000 in
theorem tX12_trio_38 (r : (Int32 × mz_D)) : ∀ (D : mz_D), fX12_trio_38 D = some r → mz_Go IX12_trio (some (.inl r.1), r.2) 0 0 (38, [some (.inr (.inr (some (0, 200)))), none, none, none, none, none, none, none, none, none, none, none], [], D) := by
  intro D h
  rw [fX12_trio_38] at h
  refine mz_Go.run (gs := []) (st' := (40, [some (.inr (.inr (some (0, 200)))), none, none, none, none, none, none, none, none, none, none, none], [.inl (1 : Int32), .inr (.inr (some (0, 200)))], D)) bX12_trio_38 oX12_trio_38 rfl trivial ?_
  obtain ⟨q1, hq1, h⟩ := mz_bd_some h
  refine mz_Go.callV (I := IX12_trio) (J := IX12_is) (as := [.inl (1 : Int32)]) (ci := 12) (g := 0) (o := 200) (idx := 82) (pl := 1701) (rest := []) (mX12_is (1 : Int32) D q1 hq1) kX12_is vX12_is (by decide +kernel) (by decide +kernel) (by decide +kernel) rfl rfl ⟨rfl, rfl⟩ rfl rfl rfl rfl ?_
  obtain ⟨hb2, h⟩ := mz_gd_some h
  cases h
  exact mz_Go.retz (by decide +kernel) rfl ⟨Nat.le_refl _, Nat.le_refl _⟩ hb2 rfl
def fX12_trio_338 (x1 : Int32) (x2 : Int32) (x3 : Int32) (y8 : Int64) (y10 : Int64) (D : mz_D) : Option (Int32 × mz_D) := (Option.bind (fX12_behind x1 x2 D) fun q1 => (Option.bind (fX12_behind x2 x3 D) fun q2 => (Option.bind (fX12_behind x3 x1 D) fun q3 => (Option.bind (fX12_tellsBy y10 (((y8 * (q1).toInt64) * (q2).toInt64) * (q3).toInt64) D) fun q4 => (mz_gd (mz_bo q4.1) (some (q4.1, q4.2)))))))
set_option maxHeartbeats 4000000 in
theorem tX12_trio_338 (r : (Int32 × mz_D)) : ∀ (x1 : Int32) (x2 : Int32) (x3 : Int32) (y8 : Int64) (y10 : Int64) (D : mz_D), fX12_trio_338 x1 x2 x3 y8 y10 D = some r → mz_Go IX12_trio (some (.inl r.1), r.2) 0 0 (338, [some (.inr (.inr (some (0, 200)))), some (.inl x1), some (.inl x2), some (.inl x3), none, none, none, none, some (.inr (.inl y8)), none, some (.inr (.inl y10)), none], [], D) := by
  intro x1 x2 x3 y8 y10 D h
  rw [fX12_trio_338] at h
  refine mz_Go.run (gs := []) (st' := (346, [some (.inr (.inr (some (0, 200)))), some (.inl x1), some (.inl x2), some (.inl x3), none, none, none, none, some (.inr (.inl y8)), none, some (.inr (.inl y10)), none], [.inl x2, .inl x1, .inr (.inr (some (0, 200))), .inr (.inl y8), .inr (.inl y10), .inr (.inr (some (0, 200)))], D)) bX12_trio_338 oX12_trio_338 rfl trivial ?_
  obtain ⟨q1, hq1, h⟩ := mz_bd_some h
  refine mz_Go.callV (I := IX12_trio) (J := IX12_behind) (as := [.inl x1, .inl x2]) (ci := 12) (g := 0) (o := 200) (idx := 340) (pl := 2052) (rest := [.inr (.inl y8), .inr (.inl y10), .inr (.inr (some (0, 200)))]) (mX12_behind x1 x2 D q1 hq1) kX12_behind vX12_behind (by decide +kernel) (by decide +kernel) (by decide +kernel) rfl rfl ⟨rfl, rfl⟩ rfl rfl rfl rfl ?_
  refine mz_Go.run (gs := []) (st' := (354, [some (.inr (.inr (some (0, 200)))), some (.inl x1), some (.inl x2), some (.inl x3), none, none, none, none, some (.inr (.inl y8)), none, some (.inr (.inl y10)), none], [.inl x3, .inl x2, .inr (.inr (some (0, 200))), .inr (.inl (y8 * (q1).toInt64)), .inr (.inl y10), .inr (.inr (some (0, 200)))], D)) bX12_trio_349 oX12_trio_349 rfl trivial ?_
  obtain ⟨q2, hq2, h⟩ := mz_bd_some h
  refine mz_Go.callV (I := IX12_trio) (J := IX12_behind) (as := [.inl x2, .inl x3]) (ci := 12) (g := 0) (o := 200) (idx := 340) (pl := 2052) (rest := [.inr (.inl (y8 * (q1).toInt64)), .inr (.inl y10), .inr (.inr (some (0, 200)))]) (mX12_behind x2 x3 D q2 hq2) kX12_behind vX12_behind (by decide +kernel) (by decide +kernel) (by decide +kernel) rfl rfl ⟨rfl, rfl⟩ rfl rfl rfl rfl ?_
  refine mz_Go.run (gs := []) (st' := (362, [some (.inr (.inr (some (0, 200)))), some (.inl x1), some (.inl x2), some (.inl x3), none, none, none, none, some (.inr (.inl y8)), none, some (.inr (.inl y10)), none], [.inl x1, .inl x3, .inr (.inr (some (0, 200))), .inr (.inl ((y8 * (q1).toInt64) * (q2).toInt64)), .inr (.inl y10), .inr (.inr (some (0, 200)))], D)) bX12_trio_357 oX12_trio_357 rfl trivial ?_
  obtain ⟨q3, hq3, h⟩ := mz_bd_some h
  refine mz_Go.callV (I := IX12_trio) (J := IX12_behind) (as := [.inl x3, .inl x1]) (ci := 12) (g := 0) (o := 200) (idx := 340) (pl := 2052) (rest := [.inr (.inl ((y8 * (q1).toInt64) * (q2).toInt64)), .inr (.inl y10), .inr (.inr (some (0, 200)))]) (mX12_behind x3 x1 D q3 hq3) kX12_behind vX12_behind (by decide +kernel) (by decide +kernel) (by decide +kernel) rfl rfl ⟨rfl, rfl⟩ rfl rfl rfl rfl ?_
  refine mz_Go.run (gs := []) (st' := (367, [some (.inr (.inr (some (0, 200)))), some (.inl x1), some (.inl x2), some (.inl x3), none, none, none, none, some (.inr (.inl y8)), none, some (.inr (.inl y10)), none], [.inr (.inl (((y8 * (q1).toInt64) * (q2).toInt64) * (q3).toInt64)), .inr (.inl y10), .inr (.inr (some (0, 200)))], D)) bX12_trio_365 oX12_trio_365 rfl trivial ?_
  obtain ⟨q4, hq4, h⟩ := mz_bd_some h
  refine mz_Go.callV (I := IX12_trio) (J := IX12_tellsBy) (as := [.inr (.inl y10), .inr (.inl (((y8 * (q1).toInt64) * (q2).toInt64) * (q3).toInt64))]) (ci := 12) (g := 0) (o := 200) (idx := 343) (pl := 2056) (rest := []) (mX12_tellsBy y10 (((y8 * (q1).toInt64) * (q2).toInt64) * (q3).toInt64) D q4 hq4) kX12_tellsBy vX12_tellsBy (by decide +kernel) (by decide +kernel) (by decide +kernel) rfl rfl ⟨rfl, rfl⟩ rfl rfl rfl rfl ?_
  obtain ⟨hb5, h⟩ := mz_gd_some h
  cases h
  exact mz_Go.retz (by decide +kernel) rfl ⟨Nat.le_refl _, Nat.le_refl _⟩ hb5 rfl
def fX12_trio_317 (x1 : Int32) (x2 : Int32) (x3 : Int32) (y8 : Int64) (s0 : Int32) (u1 : Int64) (u2 : Int64) (D : mz_D) : Option (Int32 × mz_D) := (Option.bind (fX12_behind x2 x3 D) fun q1 => (Option.bind (fX12_behind x3 x1 D) fun q2 => (fX12_trio_338 x1 x2 x3 y8 (u2 + (((u1 * (s0).toInt64) * (q1).toInt64) * (q2).toInt64)) D)))
set_option maxHeartbeats 4000000 in
theorem tX12_trio_317 (r : (Int32 × mz_D)) : ∀ (x1 : Int32) (x2 : Int32) (x3 : Int32) (y8 : Int64) (s0 : Int32) (u1 : Int64) (u2 : Int64) (D : mz_D), fX12_trio_317 x1 x2 x3 y8 s0 u1 u2 D = some r → mz_Go IX12_trio (some (.inl r.1), r.2) 0 0 (317, [some (.inr (.inr (some (0, 200)))), some (.inl x1), some (.inl x2), some (.inl x3), none, none, none, none, some (.inr (.inl y8)), none, none, none], [.inl s0, .inr (.inl u1), .inr (.inl u2)], D) := by
  intro x1 x2 x3 y8 s0 u1 u2 D h
  rw [fX12_trio_317] at h
  refine mz_Go.run (gs := []) (st' := (322, [some (.inr (.inr (some (0, 200)))), some (.inl x1), some (.inl x2), some (.inl x3), none, none, none, none, some (.inr (.inl y8)), none, none, none], [.inl x3, .inl x2, .inr (.inr (some (0, 200))), .inr (.inl (u1 * (s0).toInt64)), .inr (.inl u2)], D)) bX12_trio_317 oX12_trio_317 rfl trivial ?_
  obtain ⟨q1, hq1, h⟩ := mz_bd_some h
  refine mz_Go.callV (I := IX12_trio) (J := IX12_behind) (as := [.inl x2, .inl x3]) (ci := 12) (g := 0) (o := 200) (idx := 340) (pl := 2052) (rest := [.inr (.inl (u1 * (s0).toInt64)), .inr (.inl u2)]) (mX12_behind x2 x3 D q1 hq1) kX12_behind vX12_behind (by decide +kernel) (by decide +kernel) (by decide +kernel) rfl rfl ⟨rfl, rfl⟩ rfl rfl rfl rfl ?_
  refine mz_Go.run (gs := []) (st' := (330, [some (.inr (.inr (some (0, 200)))), some (.inl x1), some (.inl x2), some (.inl x3), none, none, none, none, some (.inr (.inl y8)), none, none, none], [.inl x1, .inl x3, .inr (.inr (some (0, 200))), .inr (.inl ((u1 * (s0).toInt64) * (q1).toInt64)), .inr (.inl u2)], D)) bX12_trio_325 oX12_trio_325 rfl trivial ?_
  obtain ⟨q2, hq2, h⟩ := mz_bd_some h
  refine mz_Go.callV (I := IX12_trio) (J := IX12_behind) (as := [.inl x3, .inl x1]) (ci := 12) (g := 0) (o := 200) (idx := 340) (pl := 2052) (rest := [.inr (.inl ((u1 * (s0).toInt64) * (q1).toInt64)), .inr (.inl u2)]) (mX12_behind x3 x1 D q2 hq2) kX12_behind vX12_behind (by decide +kernel) (by decide +kernel) (by decide +kernel) rfl rfl ⟨rfl, rfl⟩ rfl rfl rfl rfl ?_
  refine mz_Go.run (gs := []) (st' := (338, [some (.inr (.inr (some (0, 200)))), some (.inl x1), some (.inl x2), some (.inl x3), none, none, none, none, some (.inr (.inl y8)), none, some (.inr (.inl (u2 + (((u1 * (s0).toInt64) * (q1).toInt64) * (q2).toInt64)))), none], [], D)) bX12_trio_333 oX12_trio_333 rfl trivial ?_
  exact mz_Go.drop [true, true, true, true, false, false, false, false, true, false, true, false] (tX12_trio_338 r x1 x2 x3 y8 (u2 + (((u1 * (s0).toInt64) * (q1).toInt64) * (q2).toInt64)) D h)
def fX12_trio_279 (x1 : Int32) (x2 : Int32) (x3 : Int32) (x4 : Int32) (x7 : Int32) (y8 : Int64) (y10 : Int64) (D : mz_D) : Option (Int32 × mz_D) := (if x4 = (2 : Int32) then (fX12_trio_338 x1 x2 x3 y8 y10 D) else (if x4 = 0 then (Option.bind (fX12_first x1 x2 D) fun q3 => (fX12_trio_317 x1 x2 x3 y8 q3 (x7).toInt64 y10 D)) else (Option.bind (fX12_behind x1 x2 D) fun q4 => (Option.bind (fX12_first x1 x2 D) fun q5 => (fX12_trio_317 x1 x2 x3 y8 (q4 - q5) (x7).toInt64 y10 D)))))
set_option maxHeartbeats 4000000 in
theorem tX12_trio_279 (r : (Int32 × mz_D)) : ∀ (x1 : Int32) (x2 : Int32) (x3 : Int32) (x4 : Int32) (x7 : Int32) (y8 : Int64) (y10 : Int64) (D : mz_D), fX12_trio_279 x1 x2 x3 x4 x7 y8 y10 D = some r → mz_Go IX12_trio (some (.inl r.1), r.2) 0 0 (279, [some (.inr (.inr (some (0, 200)))), some (.inl x1), some (.inl x2), some (.inl x3), some (.inl x4), none, none, some (.inl x7), some (.inr (.inl y8)), none, some (.inr (.inl y10)), none], [], D) := by
  intro x1 x2 x3 x4 x7 y8 y10 D h
  rw [fX12_trio_279] at h
  refine mz_Go.run (gs := []) (st' := (if x4 = (2 : Int32) then (338, [some (.inr (.inr (some (0, 200)))), some (.inl x1), some (.inl x2), some (.inl x3), some (.inl x4), none, none, some (.inl x7), some (.inr (.inl y8)), none, some (.inr (.inl y10)), none], [], D) else (285, [some (.inr (.inr (some (0, 200)))), some (.inl x1), some (.inl x2), some (.inl x3), some (.inl x4), none, none, some (.inl x7), some (.inr (.inl y8)), none, some (.inr (.inl y10)), none], [], D))) bX12_trio_279 oX12_trio_279 rfl trivial ?_
  refine mz_Go.ite (fun hc1 => ?_) (fun hc1 => ?_)
  · have h := mz_ifp hc1 h
    exact mz_Go.drop [true, true, true, true, false, false, false, false, true, false, true, false] (tX12_trio_338 r x1 x2 x3 y8 y10 D h)
  · have h := mz_ifn hc1 h
    refine mz_Go.run (gs := []) (st' := (if x4 = 0 then (295, [some (.inr (.inr (some (0, 200)))), some (.inl x1), some (.inl x2), some (.inl x3), some (.inl x4), none, none, some (.inl x7), some (.inr (.inl y8)), none, some (.inr (.inl y10)), none], [.inr (.inl (x7).toInt64), .inr (.inl y10)], D) else (304, [some (.inr (.inr (some (0, 200)))), some (.inl x1), some (.inl x2), some (.inl x3), some (.inl x4), none, none, some (.inl x7), some (.inr (.inl y8)), none, some (.inr (.inl y10)), none], [.inr (.inl (x7).toInt64), .inr (.inl y10)], D))) bX12_trio_285 oX12_trio_285 rfl trivial ?_
    refine mz_Go.ite (fun hc2 => ?_) (fun hc2 => ?_)
    · have h := mz_ifp hc2 h
      refine mz_Go.run (gs := []) (st' := (298, [some (.inr (.inr (some (0, 200)))), some (.inl x1), some (.inl x2), some (.inl x3), some (.inl x4), none, none, some (.inl x7), some (.inr (.inl y8)), none, some (.inr (.inl y10)), none], [.inl x2, .inl x1, .inr (.inr (some (0, 200))), .inr (.inl (x7).toInt64), .inr (.inl y10)], D)) bX12_trio_295 oX12_trio_295 rfl trivial ?_
      obtain ⟨q3, hq3, h⟩ := mz_bd_some h
      refine mz_Go.callV (I := IX12_trio) (J := IX12_first) (as := [.inl x1, .inl x2]) (ci := 12) (g := 0) (o := 200) (idx := 337) (pl := 2048) (rest := [.inr (.inl (x7).toInt64), .inr (.inl y10)]) (mX12_first x1 x2 D q3 hq3) kX12_first vX12_first (by decide +kernel) (by decide +kernel) (by decide +kernel) rfl rfl ⟨rfl, rfl⟩ rfl rfl rfl rfl ?_
      refine mz_Go.run (gs := []) (st' := (317, [some (.inr (.inr (some (0, 200)))), some (.inl x1), some (.inl x2), some (.inl x3), some (.inl x4), none, none, some (.inl x7), some (.inr (.inl y8)), none, some (.inr (.inl y10)), none], [.inl q3, .inr (.inl (x7).toInt64), .inr (.inl y10)], D)) bX12_trio_301 oX12_trio_301 rfl trivial ?_
      exact mz_Go.drop [true, true, true, true, false, false, false, false, true, false, false, false] (tX12_trio_317 r x1 x2 x3 y8 q3 (x7).toInt64 y10 D h)
    · have h := mz_ifn hc2 h
      refine mz_Go.run (gs := []) (st' := (307, [some (.inr (.inr (some (0, 200)))), some (.inl x1), some (.inl x2), some (.inl x3), some (.inl x4), none, none, some (.inl x7), some (.inr (.inl y8)), none, some (.inr (.inl y10)), none], [.inl x2, .inl x1, .inr (.inr (some (0, 200))), .inr (.inl (x7).toInt64), .inr (.inl y10)], D)) bX12_trio_304 oX12_trio_304 rfl trivial ?_
      obtain ⟨q4, hq4, h⟩ := mz_bd_some h
      refine mz_Go.callV (I := IX12_trio) (J := IX12_behind) (as := [.inl x1, .inl x2]) (ci := 12) (g := 0) (o := 200) (idx := 340) (pl := 2052) (rest := [.inr (.inl (x7).toInt64), .inr (.inl y10)]) (mX12_behind x1 x2 D q4 hq4) kX12_behind vX12_behind (by decide +kernel) (by decide +kernel) (by decide +kernel) rfl rfl ⟨rfl, rfl⟩ rfl rfl rfl rfl ?_
      refine mz_Go.run (gs := []) (st' := (313, [some (.inr (.inr (some (0, 200)))), some (.inl x1), some (.inl x2), some (.inl x3), some (.inl x4), none, none, some (.inl x7), some (.inr (.inl y8)), none, some (.inr (.inl y10)), none], [.inl x2, .inl x1, .inr (.inr (some (0, 200))), .inl q4, .inr (.inl (x7).toInt64), .inr (.inl y10)], D)) bX12_trio_310 oX12_trio_310 rfl trivial ?_
      obtain ⟨q5, hq5, h⟩ := mz_bd_some h
      refine mz_Go.callV (I := IX12_trio) (J := IX12_first) (as := [.inl x1, .inl x2]) (ci := 12) (g := 0) (o := 200) (idx := 337) (pl := 2048) (rest := [.inl q4, .inr (.inl (x7).toInt64), .inr (.inl y10)]) (mX12_first x1 x2 D q5 hq5) kX12_first vX12_first (by decide +kernel) (by decide +kernel) (by decide +kernel) rfl rfl ⟨rfl, rfl⟩ rfl rfl rfl rfl ?_
      refine mz_Go.run (gs := []) (st' := (317, [some (.inr (.inr (some (0, 200)))), some (.inl x1), some (.inl x2), some (.inl x3), some (.inl x4), none, none, some (.inl x7), some (.inr (.inl y8)), none, some (.inr (.inl y10)), none], [.inl (q4 - q5), .inr (.inl (x7).toInt64), .inr (.inl y10)], D)) bX12_trio_316 oX12_trio_316 rfl trivial ?_
      exact mz_Go.drop [true, true, true, true, false, false, false, false, true, false, false, false] (tX12_trio_317 r x1 x2 x3 y8 (q4 - q5) (x7).toInt64 y10 D h)
def fX12_trio_258 (x1 : Int32) (x2 : Int32) (x3 : Int32) (x4 : Int32) (x7 : Int32) (y8 : Int64) (s0 : Int32) (u1 : Int64) (u2 : Int64) (D : mz_D) : Option (Int32 × mz_D) := (Option.bind (fX12_behind x2 x3 D) fun q1 => (Option.bind (fX12_behind x1 x2 D) fun q2 => (fX12_trio_279 x1 x2 x3 x4 x7 y8 (u2 + (((u1 * (s0).toInt64) * (q1).toInt64) * (q2).toInt64)) D)))
set_option maxHeartbeats 4000000 in
theorem tX12_trio_258 (r : (Int32 × mz_D)) : ∀ (x1 : Int32) (x2 : Int32) (x3 : Int32) (x4 : Int32) (x7 : Int32) (y8 : Int64) (s0 : Int32) (u1 : Int64) (u2 : Int64) (D : mz_D), fX12_trio_258 x1 x2 x3 x4 x7 y8 s0 u1 u2 D = some r → mz_Go IX12_trio (some (.inl r.1), r.2) 0 0 (258, [some (.inr (.inr (some (0, 200)))), some (.inl x1), some (.inl x2), some (.inl x3), some (.inl x4), none, none, some (.inl x7), some (.inr (.inl y8)), none, none, none], [.inl s0, .inr (.inl u1), .inr (.inl u2)], D) := by
  intro x1 x2 x3 x4 x7 y8 s0 u1 u2 D h
  rw [fX12_trio_258] at h
  refine mz_Go.run (gs := []) (st' := (263, [some (.inr (.inr (some (0, 200)))), some (.inl x1), some (.inl x2), some (.inl x3), some (.inl x4), none, none, some (.inl x7), some (.inr (.inl y8)), none, none, none], [.inl x3, .inl x2, .inr (.inr (some (0, 200))), .inr (.inl (u1 * (s0).toInt64)), .inr (.inl u2)], D)) bX12_trio_258 oX12_trio_258 rfl trivial ?_
  obtain ⟨q1, hq1, h⟩ := mz_bd_some h
  refine mz_Go.callV (I := IX12_trio) (J := IX12_behind) (as := [.inl x2, .inl x3]) (ci := 12) (g := 0) (o := 200) (idx := 340) (pl := 2052) (rest := [.inr (.inl (u1 * (s0).toInt64)), .inr (.inl u2)]) (mX12_behind x2 x3 D q1 hq1) kX12_behind vX12_behind (by decide +kernel) (by decide +kernel) (by decide +kernel) rfl rfl ⟨rfl, rfl⟩ rfl rfl rfl rfl ?_
  refine mz_Go.run (gs := []) (st' := (271, [some (.inr (.inr (some (0, 200)))), some (.inl x1), some (.inl x2), some (.inl x3), some (.inl x4), none, none, some (.inl x7), some (.inr (.inl y8)), none, none, none], [.inl x2, .inl x1, .inr (.inr (some (0, 200))), .inr (.inl ((u1 * (s0).toInt64) * (q1).toInt64)), .inr (.inl u2)], D)) bX12_trio_266 oX12_trio_266 rfl trivial ?_
  obtain ⟨q2, hq2, h⟩ := mz_bd_some h
  refine mz_Go.callV (I := IX12_trio) (J := IX12_behind) (as := [.inl x1, .inl x2]) (ci := 12) (g := 0) (o := 200) (idx := 340) (pl := 2052) (rest := [.inr (.inl ((u1 * (s0).toInt64) * (q1).toInt64)), .inr (.inl u2)]) (mX12_behind x1 x2 D q2 hq2) kX12_behind vX12_behind (by decide +kernel) (by decide +kernel) (by decide +kernel) rfl rfl ⟨rfl, rfl⟩ rfl rfl rfl rfl ?_
  refine mz_Go.run (gs := []) (st' := (279, [some (.inr (.inr (some (0, 200)))), some (.inl x1), some (.inl x2), some (.inl x3), some (.inl x4), none, none, some (.inl x7), some (.inr (.inl y8)), none, some (.inr (.inl (u2 + (((u1 * (s0).toInt64) * (q1).toInt64) * (q2).toInt64)))), none], [], D)) bX12_trio_274 oX12_trio_274 rfl trivial ?_
  exact mz_Go.drop [true, true, true, true, true, false, false, true, true, false, true, false] (tX12_trio_279 r x1 x2 x3 x4 x7 y8 (u2 + (((u1 * (s0).toInt64) * (q1).toInt64) * (q2).toInt64)) D h)
def fX12_trio_219 (x1 : Int32) (x2 : Int32) (x3 : Int32) (x4 : Int32) (x6 : Int32) (x7 : Int32) (y8 : Int64) (y10 : Int64) (D : mz_D) : Option (Int32 × mz_D) := (if x4 = (1 : Int32) then (fX12_trio_279 x1 x2 x3 x4 x7 y8 y10 D) else (if x4 = (2 : Int32) then (Option.bind (fX12_first x3 x1 D) fun q3 => (fX12_trio_258 x1 x2 x3 x4 x7 y8 q3 (x6).toInt64 y10 D)) else (Option.bind (fX12_behind x3 x1 D) fun q4 => (Option.bind (fX12_first x3 x1 D) fun q5 => (fX12_trio_258 x1 x2 x3 x4 x7 y8 (q4 - q5) (x6).toInt64 y10 D)))))
set_option maxHeartbeats 4000000 in
theorem tX12_trio_219 (r : (Int32 × mz_D)) : ∀ (x1 : Int32) (x2 : Int32) (x3 : Int32) (x4 : Int32) (x6 : Int32) (x7 : Int32) (y8 : Int64) (y10 : Int64) (D : mz_D), fX12_trio_219 x1 x2 x3 x4 x6 x7 y8 y10 D = some r → mz_Go IX12_trio (some (.inl r.1), r.2) 0 0 (219, [some (.inr (.inr (some (0, 200)))), some (.inl x1), some (.inl x2), some (.inl x3), some (.inl x4), none, some (.inl x6), some (.inl x7), some (.inr (.inl y8)), none, some (.inr (.inl y10)), none], [], D) := by
  intro x1 x2 x3 x4 x6 x7 y8 y10 D h
  rw [fX12_trio_219] at h
  refine mz_Go.run (gs := []) (st' := (if x4 = (1 : Int32) then (279, [some (.inr (.inr (some (0, 200)))), some (.inl x1), some (.inl x2), some (.inl x3), some (.inl x4), none, some (.inl x6), some (.inl x7), some (.inr (.inl y8)), none, some (.inr (.inl y10)), none], [], D) else (225, [some (.inr (.inr (some (0, 200)))), some (.inl x1), some (.inl x2), some (.inl x3), some (.inl x4), none, some (.inl x6), some (.inl x7), some (.inr (.inl y8)), none, some (.inr (.inl y10)), none], [], D))) bX12_trio_219 oX12_trio_219 rfl trivial ?_
  refine mz_Go.ite (fun hc1 => ?_) (fun hc1 => ?_)
  · have h := mz_ifp hc1 h
    exact mz_Go.drop [true, true, true, true, true, false, false, true, true, false, true, false] (tX12_trio_279 r x1 x2 x3 x4 x7 y8 y10 D h)
  · have h := mz_ifn hc1 h
    refine mz_Go.run (gs := []) (st' := (if x4 = (2 : Int32) then (236, [some (.inr (.inr (some (0, 200)))), some (.inl x1), some (.inl x2), some (.inl x3), some (.inl x4), none, some (.inl x6), some (.inl x7), some (.inr (.inl y8)), none, some (.inr (.inl y10)), none], [.inr (.inl (x6).toInt64), .inr (.inl y10)], D) else (245, [some (.inr (.inr (some (0, 200)))), some (.inl x1), some (.inl x2), some (.inl x3), some (.inl x4), none, some (.inl x6), some (.inl x7), some (.inr (.inl y8)), none, some (.inr (.inl y10)), none], [.inr (.inl (x6).toInt64), .inr (.inl y10)], D))) bX12_trio_225 oX12_trio_225 rfl trivial ?_
    refine mz_Go.ite (fun hc2 => ?_) (fun hc2 => ?_)
    · have h := mz_ifp hc2 h
      refine mz_Go.run (gs := []) (st' := (239, [some (.inr (.inr (some (0, 200)))), some (.inl x1), some (.inl x2), some (.inl x3), some (.inl x4), none, some (.inl x6), some (.inl x7), some (.inr (.inl y8)), none, some (.inr (.inl y10)), none], [.inl x1, .inl x3, .inr (.inr (some (0, 200))), .inr (.inl (x6).toInt64), .inr (.inl y10)], D)) bX12_trio_236 oX12_trio_236 rfl trivial ?_
      obtain ⟨q3, hq3, h⟩ := mz_bd_some h
      refine mz_Go.callV (I := IX12_trio) (J := IX12_first) (as := [.inl x3, .inl x1]) (ci := 12) (g := 0) (o := 200) (idx := 337) (pl := 2048) (rest := [.inr (.inl (x6).toInt64), .inr (.inl y10)]) (mX12_first x3 x1 D q3 hq3) kX12_first vX12_first (by decide +kernel) (by decide +kernel) (by decide +kernel) rfl rfl ⟨rfl, rfl⟩ rfl rfl rfl rfl ?_
      refine mz_Go.run (gs := []) (st' := (258, [some (.inr (.inr (some (0, 200)))), some (.inl x1), some (.inl x2), some (.inl x3), some (.inl x4), none, some (.inl x6), some (.inl x7), some (.inr (.inl y8)), none, some (.inr (.inl y10)), none], [.inl q3, .inr (.inl (x6).toInt64), .inr (.inl y10)], D)) bX12_trio_242 oX12_trio_242 rfl trivial ?_
      exact mz_Go.drop [true, true, true, true, true, false, false, true, true, false, false, false] (tX12_trio_258 r x1 x2 x3 x4 x7 y8 q3 (x6).toInt64 y10 D h)
    · have h := mz_ifn hc2 h
      refine mz_Go.run (gs := []) (st' := (248, [some (.inr (.inr (some (0, 200)))), some (.inl x1), some (.inl x2), some (.inl x3), some (.inl x4), none, some (.inl x6), some (.inl x7), some (.inr (.inl y8)), none, some (.inr (.inl y10)), none], [.inl x1, .inl x3, .inr (.inr (some (0, 200))), .inr (.inl (x6).toInt64), .inr (.inl y10)], D)) bX12_trio_245 oX12_trio_245 rfl trivial ?_
      obtain ⟨q4, hq4, h⟩ := mz_bd_some h
      refine mz_Go.callV (I := IX12_trio) (J := IX12_behind) (as := [.inl x3, .inl x1]) (ci := 12) (g := 0) (o := 200) (idx := 340) (pl := 2052) (rest := [.inr (.inl (x6).toInt64), .inr (.inl y10)]) (mX12_behind x3 x1 D q4 hq4) kX12_behind vX12_behind (by decide +kernel) (by decide +kernel) (by decide +kernel) rfl rfl ⟨rfl, rfl⟩ rfl rfl rfl rfl ?_
      refine mz_Go.run (gs := []) (st' := (254, [some (.inr (.inr (some (0, 200)))), some (.inl x1), some (.inl x2), some (.inl x3), some (.inl x4), none, some (.inl x6), some (.inl x7), some (.inr (.inl y8)), none, some (.inr (.inl y10)), none], [.inl x1, .inl x3, .inr (.inr (some (0, 200))), .inl q4, .inr (.inl (x6).toInt64), .inr (.inl y10)], D)) bX12_trio_251 oX12_trio_251 rfl trivial ?_
      obtain ⟨q5, hq5, h⟩ := mz_bd_some h
      refine mz_Go.callV (I := IX12_trio) (J := IX12_first) (as := [.inl x3, .inl x1]) (ci := 12) (g := 0) (o := 200) (idx := 337) (pl := 2048) (rest := [.inl q4, .inr (.inl (x6).toInt64), .inr (.inl y10)]) (mX12_first x3 x1 D q5 hq5) kX12_first vX12_first (by decide +kernel) (by decide +kernel) (by decide +kernel) rfl rfl ⟨rfl, rfl⟩ rfl rfl rfl rfl ?_
      refine mz_Go.run (gs := []) (st' := (258, [some (.inr (.inr (some (0, 200)))), some (.inl x1), some (.inl x2), some (.inl x3), some (.inl x4), none, some (.inl x6), some (.inl x7), some (.inr (.inl y8)), none, some (.inr (.inl y10)), none], [.inl (q4 - q5), .inr (.inl (x6).toInt64), .inr (.inl y10)], D)) bX12_trio_257 oX12_trio_257 rfl trivial ?_
      exact mz_Go.drop [true, true, true, true, true, false, false, true, true, false, false, false] (tX12_trio_258 r x1 x2 x3 x4 x7 y8 (q4 - q5) (x6).toInt64 y10 D h)
def fX12_trio_198 (x1 : Int32) (x2 : Int32) (x3 : Int32) (x4 : Int32) (x6 : Int32) (x7 : Int32) (y8 : Int64) (s0 : Int32) (u1 : Int64) (u2 : Int64) (D : mz_D) : Option (Int32 × mz_D) := (Option.bind (fX12_behind x3 x1 D) fun q1 => (Option.bind (fX12_behind x1 x2 D) fun q2 => (fX12_trio_219 x1 x2 x3 x4 x6 x7 y8 (u2 + (((u1 * (s0).toInt64) * (q1).toInt64) * (q2).toInt64)) D)))
set_option maxHeartbeats 4000000 in
theorem tX12_trio_198 (r : (Int32 × mz_D)) : ∀ (x1 : Int32) (x2 : Int32) (x3 : Int32) (x4 : Int32) (x6 : Int32) (x7 : Int32) (y8 : Int64) (s0 : Int32) (u1 : Int64) (u2 : Int64) (D : mz_D), fX12_trio_198 x1 x2 x3 x4 x6 x7 y8 s0 u1 u2 D = some r → mz_Go IX12_trio (some (.inl r.1), r.2) 0 0 (198, [some (.inr (.inr (some (0, 200)))), some (.inl x1), some (.inl x2), some (.inl x3), some (.inl x4), none, some (.inl x6), some (.inl x7), some (.inr (.inl y8)), none, none, none], [.inl s0, .inr (.inl u1), .inr (.inl u2)], D) := by
  intro x1 x2 x3 x4 x6 x7 y8 s0 u1 u2 D h
  rw [fX12_trio_198] at h
  refine mz_Go.run (gs := []) (st' := (203, [some (.inr (.inr (some (0, 200)))), some (.inl x1), some (.inl x2), some (.inl x3), some (.inl x4), none, some (.inl x6), some (.inl x7), some (.inr (.inl y8)), none, none, none], [.inl x1, .inl x3, .inr (.inr (some (0, 200))), .inr (.inl (u1 * (s0).toInt64)), .inr (.inl u2)], D)) bX12_trio_198 oX12_trio_198 rfl trivial ?_
  obtain ⟨q1, hq1, h⟩ := mz_bd_some h
  refine mz_Go.callV (I := IX12_trio) (J := IX12_behind) (as := [.inl x3, .inl x1]) (ci := 12) (g := 0) (o := 200) (idx := 340) (pl := 2052) (rest := [.inr (.inl (u1 * (s0).toInt64)), .inr (.inl u2)]) (mX12_behind x3 x1 D q1 hq1) kX12_behind vX12_behind (by decide +kernel) (by decide +kernel) (by decide +kernel) rfl rfl ⟨rfl, rfl⟩ rfl rfl rfl rfl ?_
  refine mz_Go.run (gs := []) (st' := (211, [some (.inr (.inr (some (0, 200)))), some (.inl x1), some (.inl x2), some (.inl x3), some (.inl x4), none, some (.inl x6), some (.inl x7), some (.inr (.inl y8)), none, none, none], [.inl x2, .inl x1, .inr (.inr (some (0, 200))), .inr (.inl ((u1 * (s0).toInt64) * (q1).toInt64)), .inr (.inl u2)], D)) bX12_trio_206 oX12_trio_206 rfl trivial ?_
  obtain ⟨q2, hq2, h⟩ := mz_bd_some h
  refine mz_Go.callV (I := IX12_trio) (J := IX12_behind) (as := [.inl x1, .inl x2]) (ci := 12) (g := 0) (o := 200) (idx := 340) (pl := 2052) (rest := [.inr (.inl ((u1 * (s0).toInt64) * (q1).toInt64)), .inr (.inl u2)]) (mX12_behind x1 x2 D q2 hq2) kX12_behind vX12_behind (by decide +kernel) (by decide +kernel) (by decide +kernel) rfl rfl ⟨rfl, rfl⟩ rfl rfl rfl rfl ?_
  refine mz_Go.run (gs := []) (st' := (219, [some (.inr (.inr (some (0, 200)))), some (.inl x1), some (.inl x2), some (.inl x3), some (.inl x4), none, some (.inl x6), some (.inl x7), some (.inr (.inl y8)), none, some (.inr (.inl (u2 + (((u1 * (s0).toInt64) * (q1).toInt64) * (q2).toInt64)))), none], [], D)) bX12_trio_214 oX12_trio_214 rfl trivial ?_
  exact mz_Go.drop [true, true, true, true, true, false, true, true, true, false, true, false] (tX12_trio_219 r x1 x2 x3 x4 x6 x7 y8 (u2 + (((u1 * (s0).toInt64) * (q1).toInt64) * (q2).toInt64)) D h)
def fX12_trio_71 (D : mz_D) : Option (Int32 × mz_D) := (Option.bind (fX12_is (6 : Int32) D) fun q1 => (mz_gd (mz_bo q1.1) (some (q1.1, q1.2))))
set_option maxHeartbeats 4000000 in
theorem tX12_trio_71 (r : (Int32 × mz_D)) : ∀ (D : mz_D), fX12_trio_71 D = some r → mz_Go IX12_trio (some (.inl r.1), r.2) 0 0 (71, [some (.inr (.inr (some (0, 200)))), none, none, none, none, none, none, none, none, none, none, none], [], D) := by
  intro D h
  rw [fX12_trio_71] at h
  refine mz_Go.run (gs := []) (st' := (74, [some (.inr (.inr (some (0, 200)))), none, none, none, none, none, none, none, none, none, none, none], [.inl (6 : Int32), .inr (.inr (some (0, 200)))], D)) bX12_trio_71 oX12_trio_71 rfl trivial ?_
  obtain ⟨q1, hq1, h⟩ := mz_bd_some h
  refine mz_Go.callV (I := IX12_trio) (J := IX12_is) (as := [.inl (6 : Int32)]) (ci := 12) (g := 0) (o := 200) (idx := 82) (pl := 1701) (rest := []) (mX12_is (6 : Int32) D q1 hq1) kX12_is vX12_is (by decide +kernel) (by decide +kernel) (by decide +kernel) rfl rfl ⟨rfl, rfl⟩ rfl rfl rfl rfl ?_
  obtain ⟨hb2, h⟩ := mz_gd_some h
  cases h
  exact mz_Go.retz (by decide +kernel) rfl ⟨Nat.le_refl _, Nat.le_refl _⟩ hb2 rfl
def fX12_trio (x1 : Int32) (x2 : Int32) (x3 : Int32) (x4 : Int32) (D : mz_D) : Option (Int32 × mz_D) := (if (fX12_areTwo x1 x2 D) = 0 then (fX12_trio_38 D) else (if (fX12_areTwo x1 x3 D) = 0 then (fX12_trio_38 D) else (if (fX12_areTwo x2 x3 D) = 0 then (fX12_trio_38 D) else (if x4 < 0 then (fX12_trio_38 D) else (if x4 ≤ (2 : Int32) then (Option.bind (fX12_isEndless x1 x2 D) fun q6 => (if q6 = 0 then (Option.bind (fX12_isEndless x1 x3 D) fun q8 => (if q8 = 0 then (Option.bind (fX12_isEndless x2 x3 D) fun q10 => (if q10 = 0 then (Option.bind (fX12_insists x1 D) fun q12 => (Option.bind (fX12_insists x1 D) fun q13 => (Option.bind (fX12_insists x2 D) fun q14 => (Option.bind (fX12_insists x1 D) fun q15 => (Option.bind (fX12_insists x2 D) fun q16 => (Option.bind (fX12_insists x3 D) fun q17 => (Option.bind (fX12_insists x1 D) fun q18 => (Option.bind (fX12_insists x2 D) fun q19 => (Option.bind (fX12_insists x3 D) fun q20 => (if x4 = 0 then (fX12_trio_219 x1 x2 x3 x4 ((q13 * ((16 : Int32) - q14)) * (16 : Int32)) ((q15 * q16) * ((16 : Int32) - q17)) ((4096 : Int64) - (((q18 * q19) * q20)).toInt64) (0 : Int64) D) else (if x4 = (1 : Int32) then (Option.bind (fX12_first x2 x3 D) fun q23 => (fX12_trio_198 x1 x2 x3 x4 ((q13 * ((16 : Int32) - q14)) * (16 : Int32)) ((q15 * q16) * ((16 : Int32) - q17)) ((4096 : Int64) - (((q18 * q19) * q20)).toInt64) q23 ((((16 : Int32) - q12) * (256 : Int32))).toInt64 (0 : Int64) D)) else (Option.bind (fX12_behind x2 x3 D) fun q24 => (Option.bind (fX12_first x2 x3 D) fun q25 => (fX12_trio_198 x1 x2 x3 x4 ((q13 * ((16 : Int32) - q14)) * (16 : Int32)) ((q15 * q16) * ((16 : Int32) - q17)) ((4096 : Int64) - (((q18 * q19) * q20)).toInt64) (q24 - q25) ((((16 : Int32) - q12) * (256 : Int32))).toInt64 (0 : Int64) D)))))))))))))) else (fX12_trio_71 D))) else (fX12_trio_71 D))) else (fX12_trio_71 D))) else (fX12_trio_38 D))))))
set_option maxHeartbeats 4000000 in
theorem mX12_trio (x1 : Int32) (x2 : Int32) (x3 : Int32) (x4 : Int32) (D : mz_D) (r : (Int32 × mz_D)) (h : fX12_trio x1 x2 x3 x4 D = some r) : mz_Met IX12_trio [.inr (.inr (some (0, 200))), .inl x1, .inl x2, .inl x3, .inl x4] D (some (.inl r.1), r.2) := by
  refine mz_Met.of (by decide +kernel) (Nat.le_of_ble_eq_true rfl) ?_
  show mz_Go IX12_trio (some (.inl r.1), r.2) 0 0 (0, [some (.inr (.inr (some (0, 200)))), some (.inl x1), some (.inl x2), some (.inl x3), some (.inl x4), none, none, none, none, none, none, none], [], D)
  rw [fX12_trio] at h
  refine mz_Go.run (gs := []) (st' := (3, [some (.inr (.inr (some (0, 200)))), some (.inl x1), some (.inl x2), some (.inl x3), some (.inl x4), none, none, none, none, none, none, none], [.inl x2, .inl x1, .inr (.inr (some (0, 200)))], D)) bX12_trio_0 oX12_trio_0 rfl trivial ?_
  refine mz_Go.callV (I := IX12_trio) (J := IX12_areTwo) (as := [.inl x1, .inl x2]) (ci := 12) (g := 0) (o := 200) (idx := 331) (pl := 2036) (rest := []) (mX12_areTwo x1 x2 D _ rfl) kX12_areTwo vX12_areTwo (by decide +kernel) (by decide +kernel) (by decide +kernel) rfl rfl ⟨rfl, rfl⟩ rfl rfl rfl rfl ?_
  refine mz_Go.run (gs := []) (st' := (if (fX12_areTwo x1 x2 D) = 0 then (38, [some (.inr (.inr (some (0, 200)))), some (.inl x1), some (.inl x2), some (.inl x3), some (.inl x4), none, none, none, none, none, none, none], [], D) else (9, [some (.inr (.inr (some (0, 200)))), some (.inl x1), some (.inl x2), some (.inl x3), some (.inl x4), none, none, none, none, none, none, none], [], D))) bX12_trio_6 oX12_trio_6 rfl trivial ?_
  refine mz_Go.ite (fun hc1 => ?_) (fun hc1 => ?_)
  · have h := mz_ifp hc1 h
    exact mz_Go.drop [true, false, false, false, false, false, false, false, false, false, false, false] (tX12_trio_38 r D h)
  · have h := mz_ifn hc1 h
    refine mz_Go.run (gs := []) (st' := (12, [some (.inr (.inr (some (0, 200)))), some (.inl x1), some (.inl x2), some (.inl x3), some (.inl x4), none, none, none, none, none, none, none], [.inl x3, .inl x1, .inr (.inr (some (0, 200)))], D)) bX12_trio_9 oX12_trio_9 rfl trivial ?_
    refine mz_Go.callV (I := IX12_trio) (J := IX12_areTwo) (as := [.inl x1, .inl x3]) (ci := 12) (g := 0) (o := 200) (idx := 331) (pl := 2036) (rest := []) (mX12_areTwo x1 x3 D _ rfl) kX12_areTwo vX12_areTwo (by decide +kernel) (by decide +kernel) (by decide +kernel) rfl rfl ⟨rfl, rfl⟩ rfl rfl rfl rfl ?_
    refine mz_Go.run (gs := []) (st' := (if (fX12_areTwo x1 x3 D) = 0 then (38, [some (.inr (.inr (some (0, 200)))), some (.inl x1), some (.inl x2), some (.inl x3), some (.inl x4), none, none, none, none, none, none, none], [], D) else (18, [some (.inr (.inr (some (0, 200)))), some (.inl x1), some (.inl x2), some (.inl x3), some (.inl x4), none, none, none, none, none, none, none], [], D))) bX12_trio_15 oX12_trio_15 rfl trivial ?_
    refine mz_Go.ite (fun hc2 => ?_) (fun hc2 => ?_)
    · have h := mz_ifp hc2 h
      exact mz_Go.drop [true, false, false, false, false, false, false, false, false, false, false, false] (tX12_trio_38 r D h)
    · have h := mz_ifn hc2 h
      refine mz_Go.run (gs := []) (st' := (21, [some (.inr (.inr (some (0, 200)))), some (.inl x1), some (.inl x2), some (.inl x3), some (.inl x4), none, none, none, none, none, none, none], [.inl x3, .inl x2, .inr (.inr (some (0, 200)))], D)) bX12_trio_18 oX12_trio_18 rfl trivial ?_
      refine mz_Go.callV (I := IX12_trio) (J := IX12_areTwo) (as := [.inl x2, .inl x3]) (ci := 12) (g := 0) (o := 200) (idx := 331) (pl := 2036) (rest := []) (mX12_areTwo x2 x3 D _ rfl) kX12_areTwo vX12_areTwo (by decide +kernel) (by decide +kernel) (by decide +kernel) rfl rfl ⟨rfl, rfl⟩ rfl rfl rfl rfl ?_
      refine mz_Go.run (gs := []) (st' := (if (fX12_areTwo x2 x3 D) = 0 then (38, [some (.inr (.inr (some (0, 200)))), some (.inl x1), some (.inl x2), some (.inl x3), some (.inl x4), none, none, none, none, none, none, none], [], D) else (27, [some (.inr (.inr (some (0, 200)))), some (.inl x1), some (.inl x2), some (.inl x3), some (.inl x4), none, none, none, none, none, none, none], [], D))) bX12_trio_24 oX12_trio_24 rfl trivial ?_
      refine mz_Go.ite (fun hc3 => ?_) (fun hc3 => ?_)
      · have h := mz_ifp hc3 h
        exact mz_Go.drop [true, false, false, false, false, false, false, false, false, false, false, false] (tX12_trio_38 r D h)
      · have h := mz_ifn hc3 h
        refine mz_Go.run (gs := []) (st' := (if x4 < 0 then (38, [some (.inr (.inr (some (0, 200)))), some (.inl x1), some (.inl x2), some (.inl x3), some (.inl x4), none, none, none, none, none, none, none], [], D) else (32, [some (.inr (.inr (some (0, 200)))), some (.inl x1), some (.inl x2), some (.inl x3), some (.inl x4), none, none, none, none, none, none, none], [], D))) bX12_trio_27 oX12_trio_27 rfl trivial ?_
        refine mz_Go.ite (fun hc4 => ?_) (fun hc4 => ?_)
        · have h := mz_ifp hc4 h
          exact mz_Go.drop [true, false, false, false, false, false, false, false, false, false, false, false] (tX12_trio_38 r D h)
        · have h := mz_ifn hc4 h
          refine mz_Go.run (gs := []) (st' := (if x4 ≤ (2 : Int32) then (44, [some (.inr (.inr (some (0, 200)))), some (.inl x1), some (.inl x2), some (.inl x3), some (.inl x4), none, none, none, none, none, none, none], [], D) else (38, [some (.inr (.inr (some (0, 200)))), some (.inl x1), some (.inl x2), some (.inl x3), some (.inl x4), none, none, none, none, none, none, none], [], D))) bX12_trio_32 oX12_trio_32 rfl trivial ?_
          refine mz_Go.ite (fun hc5 => ?_) (fun hc5 => ?_)
          · have h := mz_ifp hc5 h
            refine mz_Go.run (gs := []) (st' := (47, [some (.inr (.inr (some (0, 200)))), some (.inl x1), some (.inl x2), some (.inl x3), some (.inl x4), none, none, none, none, none, none, none], [.inl x2, .inl x1, .inr (.inr (some (0, 200)))], D)) bX12_trio_44 oX12_trio_44 rfl trivial ?_
            obtain ⟨q6, hq6, h⟩ := mz_bd_some h
            refine mz_Go.callV (I := IX12_trio) (J := IX12_isEndless) (as := [.inl x1, .inl x2]) (ci := 12) (g := 0) (o := 200) (idx := 334) (pl := 2040) (rest := []) (mX12_isEndless x1 x2 D q6 hq6) kX12_isEndless vX12_isEndless (by decide +kernel) (by decide +kernel) (by decide +kernel) rfl rfl ⟨rfl, rfl⟩ rfl rfl rfl rfl ?_
            refine mz_Go.run (gs := []) (st' := (if q6 = 0 then (53, [some (.inr (.inr (some (0, 200)))), some (.inl x1), some (.inl x2), some (.inl x3), some (.inl x4), none, none, none, none, none, none, none], [], D) else (71, [some (.inr (.inr (some (0, 200)))), some (.inl x1), some (.inl x2), some (.inl x3), some (.inl x4), none, none, none, none, none, none, none], [], D))) bX12_trio_50 oX12_trio_50 rfl trivial ?_
            refine mz_Go.ite (fun hc7 => ?_) (fun hc7 => ?_)
            · have h := mz_ifp hc7 h
              refine mz_Go.run (gs := []) (st' := (56, [some (.inr (.inr (some (0, 200)))), some (.inl x1), some (.inl x2), some (.inl x3), some (.inl x4), none, none, none, none, none, none, none], [.inl x3, .inl x1, .inr (.inr (some (0, 200)))], D)) bX12_trio_53 oX12_trio_53 rfl trivial ?_
              obtain ⟨q8, hq8, h⟩ := mz_bd_some h
              refine mz_Go.callV (I := IX12_trio) (J := IX12_isEndless) (as := [.inl x1, .inl x3]) (ci := 12) (g := 0) (o := 200) (idx := 334) (pl := 2040) (rest := []) (mX12_isEndless x1 x3 D q8 hq8) kX12_isEndless vX12_isEndless (by decide +kernel) (by decide +kernel) (by decide +kernel) rfl rfl ⟨rfl, rfl⟩ rfl rfl rfl rfl ?_
              refine mz_Go.run (gs := []) (st' := (if q8 = 0 then (62, [some (.inr (.inr (some (0, 200)))), some (.inl x1), some (.inl x2), some (.inl x3), some (.inl x4), none, none, none, none, none, none, none], [], D) else (71, [some (.inr (.inr (some (0, 200)))), some (.inl x1), some (.inl x2), some (.inl x3), some (.inl x4), none, none, none, none, none, none, none], [], D))) bX12_trio_59 oX12_trio_59 rfl trivial ?_
              refine mz_Go.ite (fun hc9 => ?_) (fun hc9 => ?_)
              · have h := mz_ifp hc9 h
                refine mz_Go.run (gs := []) (st' := (65, [some (.inr (.inr (some (0, 200)))), some (.inl x1), some (.inl x2), some (.inl x3), some (.inl x4), none, none, none, none, none, none, none], [.inl x3, .inl x2, .inr (.inr (some (0, 200)))], D)) bX12_trio_62 oX12_trio_62 rfl trivial ?_
                obtain ⟨q10, hq10, h⟩ := mz_bd_some h
                refine mz_Go.callV (I := IX12_trio) (J := IX12_isEndless) (as := [.inl x2, .inl x3]) (ci := 12) (g := 0) (o := 200) (idx := 334) (pl := 2040) (rest := []) (mX12_isEndless x2 x3 D q10 hq10) kX12_isEndless vX12_isEndless (by decide +kernel) (by decide +kernel) (by decide +kernel) rfl rfl ⟨rfl, rfl⟩ rfl rfl rfl rfl ?_
                refine mz_Go.run (gs := []) (st' := (if q10 = 0 then (78, [some (.inr (.inr (some (0, 200)))), some (.inl x1), some (.inl x2), some (.inl x3), some (.inl x4), none, none, none, none, none, none, none], [], D) else (71, [some (.inr (.inr (some (0, 200)))), some (.inl x1), some (.inl x2), some (.inl x3), some (.inl x4), none, none, none, none, none, none, none], [], D))) bX12_trio_68 oX12_trio_68 rfl trivial ?_
                refine mz_Go.ite (fun hc11 => ?_) (fun hc11 => ?_)
                · have h := mz_ifp hc11 h
                  refine mz_Go.run (gs := []) (st' := (82, [some (.inr (.inr (some (0, 200)))), some (.inl x1), some (.inl x2), some (.inl x3), some (.inl x4), none, none, none, none, none, none, none], [.inl x1, .inr (.inr (some (0, 200))), .inl (16 : Int32)], D)) bX12_trio_78 oX12_trio_78 rfl trivial ?_
                  obtain ⟨q12, hq12, h⟩ := mz_bd_some h
                  refine mz_Go.callV (I := IX12_trio) (J := IX12_insists) (as := [.inl x1]) (ci := 12) (g := 0) (o := 200) (idx := 328) (pl := 2044) (rest := [.inl (16 : Int32)]) (mX12_insists x1 D q12 hq12) kX12_insists vX12_insists (by decide +kernel) (by decide +kernel) (by decide +kernel) rfl rfl ⟨rfl, rfl⟩ rfl rfl rfl rfl ?_
                  refine mz_Go.run (gs := []) (st' := (94, [some (.inr (.inr (some (0, 200)))), some (.inl x1), some (.inl x2), some (.inl x3), some (.inl x4), some (.inl (((16 : Int32) - q12) * (256 : Int32))), none, none, none, none, none, none], [.inl x1, .inr (.inr (some (0, 200)))], D)) bX12_trio_85 oX12_trio_85 rfl trivial ?_
                  obtain ⟨q13, hq13, h⟩ := mz_bd_some h
                  refine mz_Go.callV (I := IX12_trio) (J := IX12_insists) (as := [.inl x1]) (ci := 12) (g := 0) (o := 200) (idx := 328) (pl := 2044) (rest := []) (mX12_insists x1 D q13 hq13) kX12_insists vX12_insists (by decide +kernel) (by decide +kernel) (by decide +kernel) rfl rfl ⟨rfl, rfl⟩ rfl rfl rfl rfl ?_
                  refine mz_Go.run (gs := []) (st' := (101, [some (.inr (.inr (some (0, 200)))), some (.inl x1), some (.inl x2), some (.inl x3), some (.inl x4), some (.inl (((16 : Int32) - q12) * (256 : Int32))), none, none, none, none, none, none], [.inl x2, .inr (.inr (some (0, 200))), .inl (16 : Int32), .inl q13], D)) bX12_trio_97 oX12_trio_97 rfl trivial ?_
                  obtain ⟨q14, hq14, h⟩ := mz_bd_some h
                  refine mz_Go.callV (I := IX12_trio) (J := IX12_insists) (as := [.inl x2]) (ci := 12) (g := 0) (o := 200) (idx := 328) (pl := 2044) (rest := [.inl (16 : Int32), .inl q13]) (mX12_insists x2 D q14 hq14) kX12_insists vX12_insists (by decide +kernel) (by decide +kernel) (by decide +kernel) rfl rfl ⟨rfl, rfl⟩ rfl rfl rfl rfl ?_
                  refine mz_Go.run (gs := []) (st' := (113, [some (.inr (.inr (some (0, 200)))), some (.inl x1), some (.inl x2), some (.inl x3), some (.inl x4), some (.inl (((16 : Int32) - q12) * (256 : Int32))), some (.inl ((q13 * ((16 : Int32) - q14)) * (16 : Int32))), none, none, none, none, none], [.inl x1, .inr (.inr (some (0, 200)))], D)) bX12_trio_104 oX12_trio_104 rfl trivial ?_
                  obtain ⟨q15, hq15, h⟩ := mz_bd_some h
                  refine mz_Go.callV (I := IX12_trio) (J := IX12_insists) (as := [.inl x1]) (ci := 12) (g := 0) (o := 200) (idx := 328) (pl := 2044) (rest := []) (mX12_insists x1 D q15 hq15) kX12_insists vX12_insists (by decide +kernel) (by decide +kernel) (by decide +kernel) rfl rfl ⟨rfl, rfl⟩ rfl rfl rfl rfl ?_
                  refine mz_Go.run (gs := []) (st' := (118, [some (.inr (.inr (some (0, 200)))), some (.inl x1), some (.inl x2), some (.inl x3), some (.inl x4), some (.inl (((16 : Int32) - q12) * (256 : Int32))), some (.inl ((q13 * ((16 : Int32) - q14)) * (16 : Int32))), none, none, none, none, none], [.inl x2, .inr (.inr (some (0, 200))), .inl q15], D)) bX12_trio_116 oX12_trio_116 rfl trivial ?_
                  obtain ⟨q16, hq16, h⟩ := mz_bd_some h
                  refine mz_Go.callV (I := IX12_trio) (J := IX12_insists) (as := [.inl x2]) (ci := 12) (g := 0) (o := 200) (idx := 328) (pl := 2044) (rest := [.inl q15]) (mX12_insists x2 D q16 hq16) kX12_insists vX12_insists (by decide +kernel) (by decide +kernel) (by decide +kernel) rfl rfl ⟨rfl, rfl⟩ rfl rfl rfl rfl ?_
                  refine mz_Go.run (gs := []) (st' := (126, [some (.inr (.inr (some (0, 200)))), some (.inl x1), some (.inl x2), some (.inl x3), some (.inl x4), some (.inl (((16 : Int32) - q12) * (256 : Int32))), some (.inl ((q13 * ((16 : Int32) - q14)) * (16 : Int32))), none, none, none, none, none], [.inl x3, .inr (.inr (some (0, 200))), .inl (16 : Int32), .inl (q15 * q16)], D)) bX12_trio_121 oX12_trio_121 rfl trivial ?_
                  obtain ⟨q17, hq17, h⟩ := mz_bd_some h
                  refine mz_Go.callV (I := IX12_trio) (J := IX12_insists) (as := [.inl x3]) (ci := 12) (g := 0) (o := 200) (idx := 328) (pl := 2044) (rest := [.inl (16 : Int32), .inl (q15 * q16)]) (mX12_insists x3 D q17 hq17) kX12_insists vX12_insists (by decide +kernel) (by decide +kernel) (by decide +kernel) rfl rfl ⟨rfl, rfl⟩ rfl rfl rfl rfl ?_
                  refine mz_Go.run (gs := []) (st' := (138, [some (.inr (.inr (some (0, 200)))), some (.inl x1), some (.inl x2), some (.inl x3), some (.inl x4), some (.inl (((16 : Int32) - q12) * (256 : Int32))), some (.inl ((q13 * ((16 : Int32) - q14)) * (16 : Int32))), some (.inl ((q15 * q16) * ((16 : Int32) - q17))), none, none, none, none], [.inl x1, .inr (.inr (some (0, 200))), .inr (.inl (4096 : Int64))], D)) bX12_trio_129 oX12_trio_129 rfl trivial ?_
                  obtain ⟨q18, hq18, h⟩ := mz_bd_some h
                  refine mz_Go.callV (I := IX12_trio) (J := IX12_insists) (as := [.inl x1]) (ci := 12) (g := 0) (o := 200) (idx := 328) (pl := 2044) (rest := [.inr (.inl (4096 : Int64))]) (mX12_insists x1 D q18 hq18) kX12_insists vX12_insists (by decide +kernel) (by decide +kernel) (by decide +kernel) rfl rfl ⟨rfl, rfl⟩ rfl rfl rfl rfl ?_
                  refine mz_Go.run (gs := []) (st' := (143, [some (.inr (.inr (some (0, 200)))), some (.inl x1), some (.inl x2), some (.inl x3), some (.inl x4), some (.inl (((16 : Int32) - q12) * (256 : Int32))), some (.inl ((q13 * ((16 : Int32) - q14)) * (16 : Int32))), some (.inl ((q15 * q16) * ((16 : Int32) - q17))), none, none, none, none], [.inl x2, .inr (.inr (some (0, 200))), .inl q18, .inr (.inl (4096 : Int64))], D)) bX12_trio_141 oX12_trio_141 rfl trivial ?_
                  obtain ⟨q19, hq19, h⟩ := mz_bd_some h
                  refine mz_Go.callV (I := IX12_trio) (J := IX12_insists) (as := [.inl x2]) (ci := 12) (g := 0) (o := 200) (idx := 328) (pl := 2044) (rest := [.inl q18, .inr (.inl (4096 : Int64))]) (mX12_insists x2 D q19 hq19) kX12_insists vX12_insists (by decide +kernel) (by decide +kernel) (by decide +kernel) rfl rfl ⟨rfl, rfl⟩ rfl rfl rfl rfl ?_
                  refine mz_Go.run (gs := []) (st' := (149, [some (.inr (.inr (some (0, 200)))), some (.inl x1), some (.inl x2), some (.inl x3), some (.inl x4), some (.inl (((16 : Int32) - q12) * (256 : Int32))), some (.inl ((q13 * ((16 : Int32) - q14)) * (16 : Int32))), some (.inl ((q15 * q16) * ((16 : Int32) - q17))), none, none, none, none], [.inl x3, .inr (.inr (some (0, 200))), .inl (q18 * q19), .inr (.inl (4096 : Int64))], D)) bX12_trio_146 oX12_trio_146 rfl trivial ?_
                  obtain ⟨q20, hq20, h⟩ := mz_bd_some h
                  refine mz_Go.callV (I := IX12_trio) (J := IX12_insists) (as := [.inl x3]) (ci := 12) (g := 0) (o := 200) (idx := 328) (pl := 2044) (rest := [.inl (q18 * q19), .inr (.inl (4096 : Int64))]) (mX12_insists x3 D q20 hq20) kX12_insists vX12_insists (by decide +kernel) (by decide +kernel) (by decide +kernel) rfl rfl ⟨rfl, rfl⟩ rfl rfl rfl rfl ?_
                  refine mz_Go.run (gs := []) (st' := (if x4 = 0 then (219, [some (.inr (.inr (some (0, 200)))), some (.inl x1), some (.inl x2), some (.inl x3), some (.inl x4), some (.inl (((16 : Int32) - q12) * (256 : Int32))), some (.inl ((q13 * ((16 : Int32) - q14)) * (16 : Int32))), some (.inl ((q15 * q16) * ((16 : Int32) - q17))), some (.inr (.inl ((4096 : Int64) - (((q18 * q19) * q20)).toInt64))), none, some (.inr (.inl (0 : Int64))), none], [], D) else (165, [some (.inr (.inr (some (0, 200)))), some (.inl x1), some (.inl x2), some (.inl x3), some (.inl x4), some (.inl (((16 : Int32) - q12) * (256 : Int32))), some (.inl ((q13 * ((16 : Int32) - q14)) * (16 : Int32))), some (.inl ((q15 * q16) * ((16 : Int32) - q17))), some (.inr (.inl ((4096 : Int64) - (((q18 * q19) * q20)).toInt64))), none, some (.inr (.inl (0 : Int64))), none], [], D))) bX12_trio_152 oX12_trio_152 rfl trivial ?_
                  refine mz_Go.ite (fun hc21 => ?_) (fun hc21 => ?_)
                  · have h := mz_ifp hc21 h
                    exact mz_Go.drop [true, true, true, true, true, false, true, true, true, false, true, false] (tX12_trio_219 r x1 x2 x3 x4 ((q13 * ((16 : Int32) - q14)) * (16 : Int32)) ((q15 * q16) * ((16 : Int32) - q17)) ((4096 : Int64) - (((q18 * q19) * q20)).toInt64) (0 : Int64) D h)
                  · have h := mz_ifn hc21 h
                    refine mz_Go.run (gs := []) (st' := (if x4 = (1 : Int32) then (176, [some (.inr (.inr (some (0, 200)))), some (.inl x1), some (.inl x2), some (.inl x3), some (.inl x4), some (.inl (((16 : Int32) - q12) * (256 : Int32))), some (.inl ((q13 * ((16 : Int32) - q14)) * (16 : Int32))), some (.inl ((q15 * q16) * ((16 : Int32) - q17))), some (.inr (.inl ((4096 : Int64) - (((q18 * q19) * q20)).toInt64))), none, some (.inr (.inl (0 : Int64))), none], [.inr (.inl ((((16 : Int32) - q12) * (256 : Int32))).toInt64), .inr (.inl (0 : Int64))], D) else (185, [some (.inr (.inr (some (0, 200)))), some (.inl x1), some (.inl x2), some (.inl x3), some (.inl x4), some (.inl (((16 : Int32) - q12) * (256 : Int32))), some (.inl ((q13 * ((16 : Int32) - q14)) * (16 : Int32))), some (.inl ((q15 * q16) * ((16 : Int32) - q17))), some (.inr (.inl ((4096 : Int64) - (((q18 * q19) * q20)).toInt64))), none, some (.inr (.inl (0 : Int64))), none], [.inr (.inl ((((16 : Int32) - q12) * (256 : Int32))).toInt64), .inr (.inl (0 : Int64))], D))) bX12_trio_165 oX12_trio_165 rfl trivial ?_
                    refine mz_Go.ite (fun hc22 => ?_) (fun hc22 => ?_)
                    · have h := mz_ifp hc22 h
                      refine mz_Go.run (gs := []) (st' := (179, [some (.inr (.inr (some (0, 200)))), some (.inl x1), some (.inl x2), some (.inl x3), some (.inl x4), some (.inl (((16 : Int32) - q12) * (256 : Int32))), some (.inl ((q13 * ((16 : Int32) - q14)) * (16 : Int32))), some (.inl ((q15 * q16) * ((16 : Int32) - q17))), some (.inr (.inl ((4096 : Int64) - (((q18 * q19) * q20)).toInt64))), none, some (.inr (.inl (0 : Int64))), none], [.inl x3, .inl x2, .inr (.inr (some (0, 200))), .inr (.inl ((((16 : Int32) - q12) * (256 : Int32))).toInt64), .inr (.inl (0 : Int64))], D)) bX12_trio_176 oX12_trio_176 rfl trivial ?_
                      obtain ⟨q23, hq23, h⟩ := mz_bd_some h
                      refine mz_Go.callV (I := IX12_trio) (J := IX12_first) (as := [.inl x2, .inl x3]) (ci := 12) (g := 0) (o := 200) (idx := 337) (pl := 2048) (rest := [.inr (.inl ((((16 : Int32) - q12) * (256 : Int32))).toInt64), .inr (.inl (0 : Int64))]) (mX12_first x2 x3 D q23 hq23) kX12_first vX12_first (by decide +kernel) (by decide +kernel) (by decide +kernel) rfl rfl ⟨rfl, rfl⟩ rfl rfl rfl rfl ?_
                      refine mz_Go.run (gs := []) (st' := (198, [some (.inr (.inr (some (0, 200)))), some (.inl x1), some (.inl x2), some (.inl x3), some (.inl x4), some (.inl (((16 : Int32) - q12) * (256 : Int32))), some (.inl ((q13 * ((16 : Int32) - q14)) * (16 : Int32))), some (.inl ((q15 * q16) * ((16 : Int32) - q17))), some (.inr (.inl ((4096 : Int64) - (((q18 * q19) * q20)).toInt64))), none, some (.inr (.inl (0 : Int64))), none], [.inl q23, .inr (.inl ((((16 : Int32) - q12) * (256 : Int32))).toInt64), .inr (.inl (0 : Int64))], D)) bX12_trio_182 oX12_trio_182 rfl trivial ?_
                      exact mz_Go.drop [true, true, true, true, true, false, true, true, true, false, false, false] (tX12_trio_198 r x1 x2 x3 x4 ((q13 * ((16 : Int32) - q14)) * (16 : Int32)) ((q15 * q16) * ((16 : Int32) - q17)) ((4096 : Int64) - (((q18 * q19) * q20)).toInt64) q23 ((((16 : Int32) - q12) * (256 : Int32))).toInt64 (0 : Int64) D h)
                    · have h := mz_ifn hc22 h
                      refine mz_Go.run (gs := []) (st' := (188, [some (.inr (.inr (some (0, 200)))), some (.inl x1), some (.inl x2), some (.inl x3), some (.inl x4), some (.inl (((16 : Int32) - q12) * (256 : Int32))), some (.inl ((q13 * ((16 : Int32) - q14)) * (16 : Int32))), some (.inl ((q15 * q16) * ((16 : Int32) - q17))), some (.inr (.inl ((4096 : Int64) - (((q18 * q19) * q20)).toInt64))), none, some (.inr (.inl (0 : Int64))), none], [.inl x3, .inl x2, .inr (.inr (some (0, 200))), .inr (.inl ((((16 : Int32) - q12) * (256 : Int32))).toInt64), .inr (.inl (0 : Int64))], D)) bX12_trio_185 oX12_trio_185 rfl trivial ?_
                      obtain ⟨q24, hq24, h⟩ := mz_bd_some h
                      refine mz_Go.callV (I := IX12_trio) (J := IX12_behind) (as := [.inl x2, .inl x3]) (ci := 12) (g := 0) (o := 200) (idx := 340) (pl := 2052) (rest := [.inr (.inl ((((16 : Int32) - q12) * (256 : Int32))).toInt64), .inr (.inl (0 : Int64))]) (mX12_behind x2 x3 D q24 hq24) kX12_behind vX12_behind (by decide +kernel) (by decide +kernel) (by decide +kernel) rfl rfl ⟨rfl, rfl⟩ rfl rfl rfl rfl ?_
                      refine mz_Go.run (gs := []) (st' := (194, [some (.inr (.inr (some (0, 200)))), some (.inl x1), some (.inl x2), some (.inl x3), some (.inl x4), some (.inl (((16 : Int32) - q12) * (256 : Int32))), some (.inl ((q13 * ((16 : Int32) - q14)) * (16 : Int32))), some (.inl ((q15 * q16) * ((16 : Int32) - q17))), some (.inr (.inl ((4096 : Int64) - (((q18 * q19) * q20)).toInt64))), none, some (.inr (.inl (0 : Int64))), none], [.inl x3, .inl x2, .inr (.inr (some (0, 200))), .inl q24, .inr (.inl ((((16 : Int32) - q12) * (256 : Int32))).toInt64), .inr (.inl (0 : Int64))], D)) bX12_trio_191 oX12_trio_191 rfl trivial ?_
                      obtain ⟨q25, hq25, h⟩ := mz_bd_some h
                      refine mz_Go.callV (I := IX12_trio) (J := IX12_first) (as := [.inl x2, .inl x3]) (ci := 12) (g := 0) (o := 200) (idx := 337) (pl := 2048) (rest := [.inl q24, .inr (.inl ((((16 : Int32) - q12) * (256 : Int32))).toInt64), .inr (.inl (0 : Int64))]) (mX12_first x2 x3 D q25 hq25) kX12_first vX12_first (by decide +kernel) (by decide +kernel) (by decide +kernel) rfl rfl ⟨rfl, rfl⟩ rfl rfl rfl rfl ?_
                      refine mz_Go.run (gs := []) (st' := (198, [some (.inr (.inr (some (0, 200)))), some (.inl x1), some (.inl x2), some (.inl x3), some (.inl x4), some (.inl (((16 : Int32) - q12) * (256 : Int32))), some (.inl ((q13 * ((16 : Int32) - q14)) * (16 : Int32))), some (.inl ((q15 * q16) * ((16 : Int32) - q17))), some (.inr (.inl ((4096 : Int64) - (((q18 * q19) * q20)).toInt64))), none, some (.inr (.inl (0 : Int64))), none], [.inl (q24 - q25), .inr (.inl ((((16 : Int32) - q12) * (256 : Int32))).toInt64), .inr (.inl (0 : Int64))], D)) bX12_trio_197 oX12_trio_197 rfl trivial ?_
                      exact mz_Go.drop [true, true, true, true, true, false, true, true, true, false, false, false] (tX12_trio_198 r x1 x2 x3 x4 ((q13 * ((16 : Int32) - q14)) * (16 : Int32)) ((q15 * q16) * ((16 : Int32) - q17)) ((4096 : Int64) - (((q18 * q19) * q20)).toInt64) (q24 - q25) ((((16 : Int32) - q12) * (256 : Int32))).toInt64 (0 : Int64) D h)
                · have h := mz_ifn hc11 h
                  exact mz_Go.drop [true, false, false, false, false, false, false, false, false, false, false, false] (tX12_trio_71 r D h)
              · have h := mz_ifn hc9 h
                exact mz_Go.drop [true, false, false, false, false, false, false, false, false, false, false, false] (tX12_trio_71 r D h)
            · have h := mz_ifn hc7 h
              exact mz_Go.drop [true, false, false, false, false, false, false, false, false, false, false, false] (tX12_trio_71 r D h)
          · have h := mz_ifn hc5 h
            exact mz_Go.drop [true, false, false, false, false, false, false, false, false, false, false, false] (tX12_trio_38 r D h)
def bX12_quickOf_0 : List mz_E := [(0, .iconst 0, 0, 0, 0, 0, 0), (1, .istore_n 2, 0, 0, 0, 0, 0), (2, .iconst 0, 0, 0, 0, 0, 0), (3, .istore_n 3, 0, 0, 0, 0, 0)]
theorem oX12_quickOf_0 : bX12_quickOf_0.all (mz_ok RX12 cX12_quickOf 4) = true := by decide +kernel
def bX12_quickOf_4 : List mz_E := [(4, .iload_n 3, 0, 0, 0, 0, 0), (5, .aload_n 0, 0, 0, 0, 0, 0), (6, .getfield 7, 12, 0, 1576, 0, 0), (9, .iconst 0, 0, 0, 0, 0, 0), (10, .iaload, 0, 0, 0, 0, 0), (11, .if_icmp .ge 36, 0, 47, 0, 0, 0)]
theorem oX12_quickOf_4 : bX12_quickOf_4.all (mz_ok RX12 cX12_quickOf 4) = true := by decide +kernel
def bX12_quickOf_47 : List mz_E := [(47, .iload_n 2, 0, 0, 0, 0, 0)]
theorem oX12_quickOf_47 : bX12_quickOf_47.all (mz_ok RX12 cX12_quickOf 4) = true := by decide +kernel
def bX12_quickOf_14 : List mz_E := [(14, .iload_n 2, 0, 0, 0, 0, 0), (15, .aload_n 0, 0, 0, 0, 0, 0), (16, .iload_n 1, 0, 0, 0, 0, 0), (17, .iload_n 3, 0, 0, 0, 0, 0)]
theorem oX12_quickOf_14 : bX12_quickOf_14.all (mz_ok RX12 cX12_quickOf 4) = true := by decide +kernel
def bX12_quickOf_21 : List mz_E := [(21, .ifCond .eq 17, 0, 38, 0, 0, 0)]
theorem oX12_quickOf_21 : bX12_quickOf_21.all (mz_ok RX12 cX12_quickOf 4) = true := by decide +kernel
def bX12_quickOf_38 : List mz_E := [(38, .iconst 0, 0, 0, 0, 0, 0)]
theorem oX12_quickOf_38 : bX12_quickOf_38.all (mz_ok RX12 cX12_quickOf 4) = true := by decide +kernel
def bX12_quickOf_39 : List mz_E := [(39, .iadd, 0, 0, 0, 0, 0), (40, .istore_n 2, 0, 0, 0, 0, 0), (41, .iinc 3 1, 0, 0, 0, 1, 0), (44, .goto (-40), 0, 4, 0, 0, 0)]
theorem oX12_quickOf_39 : bX12_quickOf_39.all (mz_ok RX12 cX12_quickOf 4) = true := by decide +kernel
def bX12_quickOf_24 : List mz_E := [(24, .aload_n 0, 0, 0, 0, 0, 0), (25, .getfield 7, 12, 0, 1576, 0, 0), (28, .iload_n 3, 0, 0, 0, 0, 0)]
theorem oX12_quickOf_24 : bX12_quickOf_24.all (mz_ok RX12 cX12_quickOf 4) = true := by decide +kernel
def bX12_quickOf_32 : List mz_E := [(32, .iconst 1, 0, 0, 0, 1, 0), (33, .iadd, 0, 0, 0, 0, 0), (34, .iaload, 0, 0, 0, 0, 0), (35, .goto 4, 0, 39, 0, 0, 0)]
theorem oX12_quickOf_32 : bX12_quickOf_32.all (mz_ok RX12 cX12_quickOf 4) = true := by decide +kernel
abbrev IX12_quickOf : mz_I := (yX12_quickOf, cX12_quickOf, 4, (some .int), 0, 1, 0, 0)
theorem kX12_quickOf : mz_okm IX12_quickOf 2077 141 2076 1 = true := by decide +kernel
theorem vX12_quickOf : mz_okV IX12_quickOf 2076 101 = true := by decide +kernel
def fX12_quickOf_39 (D : mz_D) (k4 : Int32 → Int32 → Int32 → Option Int32) (x1 : Int32) (x3 : Int32) (s0 : Int32) (s1 : Int32) : Option Int32 := (k4 x1 (s1 + s0) (x3 + (1 : Int32)))
set_option maxHeartbeats 4000000 in
theorem tX12_quickOf_39 (D : mz_D) (r : Int32) (k4 : Int32 → Int32 → Int32 → Option Int32) (hk4 : ∀ (x1 : Int32) (x2 : Int32) (x3 : Int32), k4 x1 x2 x3 = some r → mz_Go IX12_quickOf (some (.inl r), D) 0 0 (4, [some (.inr (.inr (some (0, 200)))), some (.inl x1), some (.inl x2), some (.inl x3)], [], D)) : ∀ (x1 : Int32) (x3 : Int32) (s0 : Int32) (s1 : Int32), fX12_quickOf_39 D k4 x1 x3 s0 s1 = some r → mz_Go IX12_quickOf (some (.inl r), D) 0 0 (39, [some (.inr (.inr (some (0, 200)))), some (.inl x1), none, some (.inl x3)], [.inl s0, .inl s1], D) := by
  intro x1 x3 s0 s1 h
  rw [fX12_quickOf_39] at h
  refine mz_Go.run (gs := []) (st' := (4, [some (.inr (.inr (some (0, 200)))), some (.inl x1), some (.inl (s1 + s0)), some (.inl (x3 + (1 : Int32)))], [], D)) bX12_quickOf_39 oX12_quickOf_39 rfl trivial ?_
  exact mz_Go.drop [true, true, true, true] (hk4 x1 (s1 + s0) (x3 + (1 : Int32)) h)
def fX12_quickOf_4 (D : mz_D) : Nat → Int32 → Int32 → Int32 → Option Int32
  | 0 => fun _ _ _ => none
  | n + 1 => fun x1 x2 x3 => (if (D.1 0 201 ((0 : Int32)).toNatClampNeg) ≤ x3 then (some x2) else (if (fX12_isIn x1 x3) = 0 then (fX12_quickOf_39 D (fX12_quickOf_4 D n) x1 x3 (0 : Int32) x2) else (mz_gd (mz_ix (((12 : Int32) + ((8 : Int32) * x3)) + (1 : Int32)) 3000) (fX12_quickOf_39 D (fX12_quickOf_4 D n) x1 x3 (D.1 0 201 ((((12 : Int32) + ((8 : Int32) * x3)) + (1 : Int32))).toNatClampNeg) x2))))
set_option maxHeartbeats 4000000 in
theorem tX12_quickOf_4 (D : mz_D) (r : Int32) : ∀ (n : Nat) (x1 : Int32) (x2 : Int32) (x3 : Int32), fX12_quickOf_4 D n x1 x2 x3 = some r → mz_Go IX12_quickOf (some (.inl r), D) 0 0 (4, [some (.inr (.inr (some (0, 200)))), some (.inl x1), some (.inl x2), some (.inl x3)], [], D) := by
  intro n
  induction n with
  | zero => intro x1 x2 x3 h; have h : (none : Option Int32) = some r := h; cases h
  | succ n ih =>
    intro x1 x2 x3 h
    rw [fX12_quickOf_4] at h
    refine mz_Go.run (gs := [mz_kz 0 0 200, mz_kz 0 0 201, mz_ix (0 : Int32) 3000]) (st' := (if (D.1 0 201 ((0 : Int32)).toNatClampNeg) ≤ x3 then (47, [some (.inr (.inr (some (0, 200)))), some (.inl x1), some (.inl x2), some (.inl x3)], [], D) else (14, [some (.inr (.inr (some (0, 200)))), some (.inl x1), some (.inl x2), some (.inl x3)], [], D))) bX12_quickOf_4 oX12_quickOf_4 rfl ⟨rfl, rfl, (by decide), trivial⟩ ?_
    refine mz_Go.ite (fun hc1 => ?_) (fun hc1 => ?_)
    · have h := mz_ifp hc1 h
      refine mz_Go.run (gs := []) (st' := (48, [some (.inr (.inr (some (0, 200)))), some (.inl x1), some (.inl x2), some (.inl x3)], [.inl x2], D)) bX12_quickOf_47 oX12_quickOf_47 rfl trivial ?_
      cases h
      exact mz_Go.reti (by decide +kernel) rfl ⟨Nat.le_refl _, Nat.le_refl _⟩ rfl
    · have h := mz_ifn hc1 h
      refine mz_Go.run (gs := []) (st' := (18, [some (.inr (.inr (some (0, 200)))), some (.inl x1), some (.inl x2), some (.inl x3)], [.inl x3, .inl x1, .inr (.inr (some (0, 200))), .inl x2], D)) bX12_quickOf_14 oX12_quickOf_14 rfl trivial ?_
      refine mz_Go.callV (I := IX12_quickOf) (J := IX12_isIn) (as := [.inl x1, .inl x3]) (ci := 12) (g := 0) (o := 200) (idx := 270) (pl := 1944) (rest := [.inl x2]) (mX12_isIn x1 x3 D _ rfl) kX12_isIn vX12_isIn (by decide +kernel) (by decide +kernel) (by decide +kernel) rfl rfl ⟨rfl, rfl⟩ rfl rfl rfl rfl ?_
      refine mz_Go.run (gs := []) (st' := (if (fX12_isIn x1 x3) = 0 then (38, [some (.inr (.inr (some (0, 200)))), some (.inl x1), some (.inl x2), some (.inl x3)], [.inl x2], D) else (24, [some (.inr (.inr (some (0, 200)))), some (.inl x1), some (.inl x2), some (.inl x3)], [.inl x2], D))) bX12_quickOf_21 oX12_quickOf_21 rfl trivial ?_
      refine mz_Go.ite (fun hc2 => ?_) (fun hc2 => ?_)
      · have h := mz_ifp hc2 h
        refine mz_Go.run (gs := []) (st' := (39, [some (.inr (.inr (some (0, 200)))), some (.inl x1), some (.inl x2), some (.inl x3)], [.inl (0 : Int32), .inl x2], D)) bX12_quickOf_38 oX12_quickOf_38 rfl trivial ?_
        exact mz_Go.drop [true, true, false, true] (tX12_quickOf_39 D r (fX12_quickOf_4 D n) ih x1 x3 (0 : Int32) x2 h)
      · have h := mz_ifn hc2 h
        refine mz_Go.run (gs := [mz_kz 0 0 200]) (st' := (29, [some (.inr (.inr (some (0, 200)))), some (.inl x1), some (.inl x2), some (.inl x3)], [.inl x3, .inr (.inr (some (0, 201))), .inl x2], D)) bX12_quickOf_24 oX12_quickOf_24 rfl ⟨rfl, trivial⟩ ?_
        refine mz_Go.callS (I := IX12_quickOf) (J := IX12_personRow) (as := [.inl x3]) (idx := 267) (pl := 1895) (rest := [.inr (.inr (some (0, 201))), .inl x2]) (mX12_personRow x3 D) kX12_personRow vX12_personRow (by decide +kernel) (by decide +kernel) (by decide +kernel) rfl rfl ⟨rfl, rfl⟩ rfl ?_
        obtain ⟨hb3, h⟩ := mz_gd_some h
        refine mz_Go.run (gs := [mz_kz 0 0 201, mz_ix (((12 : Int32) + ((8 : Int32) * x3)) + (1 : Int32)) 3000]) (st' := (39, [some (.inr (.inr (some (0, 200)))), some (.inl x1), some (.inl x2), some (.inl x3)], [.inl (D.1 0 201 ((((12 : Int32) + ((8 : Int32) * x3)) + (1 : Int32))).toNatClampNeg), .inl x2], D)) bX12_quickOf_32 oX12_quickOf_32 rfl ⟨rfl, hb3, trivial⟩ ?_
        exact mz_Go.drop [true, true, false, true] (tX12_quickOf_39 D r (fX12_quickOf_4 D n) ih x1 x3 (D.1 0 201 ((((12 : Int32) + ((8 : Int32) * x3)) + (1 : Int32))).toNatClampNeg) x2 h)
def fX12_quickOf (x1 : Int32) (D : mz_D) : Option Int32 := (fX12_quickOf_4 D mz_N x1 (0 : Int32) (0 : Int32))
set_option maxHeartbeats 4000000 in
theorem mX12_quickOf (x1 : Int32) (D : mz_D) (r : Int32) (h : fX12_quickOf x1 D = some r) : mz_Met IX12_quickOf [.inr (.inr (some (0, 200))), .inl x1] D (some (.inl r), D) := by
  refine mz_Met.of (by decide +kernel) (Nat.le_of_ble_eq_true rfl) ?_
  show mz_Go IX12_quickOf (some (.inl r), D) 0 0 (0, [some (.inr (.inr (some (0, 200)))), some (.inl x1), none, none], [], D)
  rw [fX12_quickOf] at h
  refine mz_Go.run (gs := []) (st' := (4, [some (.inr (.inr (some (0, 200)))), some (.inl x1), some (.inl (0 : Int32)), some (.inl (0 : Int32))], [], D)) bX12_quickOf_0 oX12_quickOf_0 rfl trivial ?_
  exact mz_Go.drop [true, true, true, true] (tX12_quickOf_4 D r mz_N x1 (0 : Int32) (0 : Int32) h)
def bX12_reach_0 : List mz_E := [(0, .iload_n 1, 0, 0, 0, 0, 0), (1, .ifCond .lt 28, 0, 29, 0, 0, 0)]
theorem oX12_reach_0 : bX12_reach_0.all (mz_ok RX12 cX12_reach 3) = true := by decide +kernel
def bX12_reach_29 : List mz_E := [(29, .aload_n 0, 0, 0, 0, 0, 0), (30, .iconst 1, 0, 0, 0, 1, 0)]
theorem oX12_reach_29 : bX12_reach_29.all (mz_ok RX12 cX12_reach 3) = true := by decide +kernel
def bX12_reach_4 : List mz_E := [(4, .iload_n 1, 0, 0, 0, 0, 0), (5, .aload_n 0, 0, 0, 0, 0, 0)]
theorem oX12_reach_4 : bX12_reach_4.all (mz_ok RX12 cX12_reach 3) = true := by decide +kernel
def bX12_reach_9 : List mz_E := [(9, .if_icmp .gt 20, 0, 29, 0, 0, 0)]
theorem oX12_reach_9 : bX12_reach_9.all (mz_ok RX12 cX12_reach 3) = true := by decide +kernel
def bX12_reach_12 : List mz_E := [(12, .aload_n 0, 0, 0, 0, 0, 0), (13, .iload_n 2, 0, 0, 0, 0, 0)]
theorem oX12_reach_12 : bX12_reach_12.all (mz_ok RX12 cX12_reach 3) = true := by decide +kernel
def bX12_reach_17 : List mz_E := [(17, .ifCond .eq 12, 0, 29, 0, 0, 0)]
theorem oX12_reach_17 : bX12_reach_17.all (mz_ok RX12 cX12_reach 3) = true := by decide +kernel
def bX12_reach_20 : List mz_E := [(20, .aload_n 0, 0, 0, 0, 0, 0), (21, .iload_n 1, 0, 0, 0, 0, 0), (22, .iload_n 2, 0, 0, 0, 0, 0)]
theorem oX12_reach_20 : bX12_reach_20.all (mz_ok RX12 cX12_reach 3) = true := by decide +kernel
def bX12_reach_26 : List mz_E := [(26, .ifCond .ne 9, 0, 35, 0, 0, 0)]
theorem oX12_reach_26 : bX12_reach_26.all (mz_ok RX12 cX12_reach 3) = true := by decide +kernel
def bX12_reach_35 : List mz_E := [(35, .aload_n 0, 0, 0, 0, 0, 0), (36, .iload_n 1, 0, 0, 0, 0, 0)]
theorem oX12_reach_35 : bX12_reach_35.all (mz_ok RX12 cX12_reach 3) = true := by decide +kernel
def bX12_reach_40 : List mz_E := [(40, .ifCond .ne 12, 0, 52, 0, 0, 0)]
theorem oX12_reach_40 : bX12_reach_40.all (mz_ok RX12 cX12_reach 3) = true := by decide +kernel
def bX12_reach_43 : List mz_E := [(43, .aload_n 0, 0, 0, 0, 0, 0), (44, .bipush 6, 0, 0, 0, 6, 0)]
theorem oX12_reach_43 : bX12_reach_43.all (mz_ok RX12 cX12_reach 3) = true := by decide +kernel
def bX12_reach_49 : List mz_E := [(49, .goto 25, 0, 74, 0, 0, 0)]
theorem oX12_reach_49 : bX12_reach_49.all (mz_ok RX12 cX12_reach 3) = true := by decide +kernel
def bX12_reach_52 : List mz_E := [(52, .aload_n 0, 0, 0, 0, 0, 0), (53, .aload_n 0, 0, 0, 0, 0, 0), (54, .getfield 7, 12, 0, 1576, 0, 0), (57, .iload_n 2, 0, 0, 0, 0, 0)]
theorem oX12_reach_52 : bX12_reach_52.all (mz_ok RX12 cX12_reach 3) = true := by decide +kernel
def bX12_reach_61 : List mz_E := [(61, .iconst 1, 0, 0, 0, 1, 0), (62, .iadd, 0, 0, 0, 0, 0), (63, .iaload, 0, 0, 0, 0, 0), (64, .i2l, 0, 0, 0, 0, 0), (65, .aload_n 0, 0, 0, 0, 0, 0), (66, .iload_n 1, 0, 0, 0, 0, 0)]
theorem oX12_reach_61 : bX12_reach_61.all (mz_ok RX12 cX12_reach 3) = true := by decide +kernel
def bX12_reach_70 : List mz_E := [(70, .i2l, 0, 0, 0, 0, 0)]
theorem oX12_reach_70 : bX12_reach_70.all (mz_ok RX12 cX12_reach 3) = true := by decide +kernel
abbrev IX12_reach : mz_I := (yX12_reach, cX12_reach, 3, (some .boolean), 0, 2, 0, 0)
theorem kX12_reach : mz_okm IX12_reach 2073 141 2071 2 = true := by decide +kernel
theorem vX12_reach : mz_okV IX12_reach 2071 2072 = true := by decide +kernel
def fX12_reach_29 (D : mz_D) : Option (Int32 × mz_D) := (Option.bind (fX12_is (1 : Int32) D) fun q1 => (mz_gd (mz_bo q1.1) (some (q1.1, q1.2))))
set_option maxHeartbeats 4000000 in
theorem tX12_reach_29 (r : (Int32 × mz_D)) : ∀ (D : mz_D), fX12_reach_29 D = some r → mz_Go IX12_reach (some (.inl r.1), r.2) 0 0 (29, [some (.inr (.inr (some (0, 200)))), none, none], [], D) := by
  intro D h
  rw [fX12_reach_29] at h
  refine mz_Go.run (gs := []) (st' := (31, [some (.inr (.inr (some (0, 200)))), none, none], [.inl (1 : Int32), .inr (.inr (some (0, 200)))], D)) bX12_reach_29 oX12_reach_29 rfl trivial ?_
  obtain ⟨q1, hq1, h⟩ := mz_bd_some h
  refine mz_Go.callV (I := IX12_reach) (J := IX12_is) (as := [.inl (1 : Int32)]) (ci := 12) (g := 0) (o := 200) (idx := 82) (pl := 1701) (rest := []) (mX12_is (1 : Int32) D q1 hq1) kX12_is vX12_is (by decide +kernel) (by decide +kernel) (by decide +kernel) rfl rfl ⟨rfl, rfl⟩ rfl rfl rfl rfl ?_
  obtain ⟨hb2, h⟩ := mz_gd_some h
  cases h
  exact mz_Go.retz (by decide +kernel) rfl ⟨Nat.le_refl _, Nat.le_refl _⟩ hb2 rfl
def fX12_reach (x1 : Int32) (x2 : Int32) (D : mz_D) : Option (Int32 × mz_D) := (if x1 < 0 then (fX12_reach_29 D) else (if (((1 : Int32) <<< ((D.1 0 201 ((0 : Int32)).toNatClampNeg) &&& 31)) - (1 : Int32)) < x1 then (fX12_reach_29 D) else (if (fX12_isPerson x2 D) = 0 then (fX12_reach_29 D) else (if (fX12_isIn x1 x2) = 0 then (fX12_reach_29 D) else (Option.bind (fX12_quickOf x1 D) fun q5 => (if q5 = 0 then (Option.bind (fX12_is (6 : Int32) D) fun q7 => (mz_gd (mz_bo q7.1) (some (q7.1, q7.2)))) else (mz_gd (mz_ix (((12 : Int32) + ((8 : Int32) * x2)) + (1 : Int32)) 3000) (Option.bind (fX12_quickOf x1 D) fun q10 => (Option.bind (fX12_tellsBy ((D.1 0 201 ((((12 : Int32) + ((8 : Int32) * x2)) + (1 : Int32))).toNatClampNeg)).toInt64 (q10).toInt64 D) fun q11 => (mz_gd (mz_bo q11.1) (some (q11.1, q11.2))))))))))))
set_option maxHeartbeats 4000000 in
theorem mX12_reach (x1 : Int32) (x2 : Int32) (D : mz_D) (r : (Int32 × mz_D)) (h : fX12_reach x1 x2 D = some r) : mz_Met IX12_reach [.inr (.inr (some (0, 200))), .inl x1, .inl x2] D (some (.inl r.1), r.2) := by
  refine mz_Met.of (by decide +kernel) (Nat.le_of_ble_eq_true rfl) ?_
  show mz_Go IX12_reach (some (.inl r.1), r.2) 0 0 (0, [some (.inr (.inr (some (0, 200)))), some (.inl x1), some (.inl x2)], [], D)
  rw [fX12_reach] at h
  refine mz_Go.run (gs := []) (st' := (if x1 < 0 then (29, [some (.inr (.inr (some (0, 200)))), some (.inl x1), some (.inl x2)], [], D) else (4, [some (.inr (.inr (some (0, 200)))), some (.inl x1), some (.inl x2)], [], D))) bX12_reach_0 oX12_reach_0 rfl trivial ?_
  refine mz_Go.ite (fun hc1 => ?_) (fun hc1 => ?_)
  · have h := mz_ifp hc1 h
    exact mz_Go.drop [true, false, false] (tX12_reach_29 r D h)
  · have h := mz_ifn hc1 h
    refine mz_Go.run (gs := []) (st' := (6, [some (.inr (.inr (some (0, 200)))), some (.inl x1), some (.inl x2)], [.inr (.inr (some (0, 200))), .inl x1], D)) bX12_reach_4 oX12_reach_4 rfl trivial ?_
    refine mz_Go.callV (I := IX12_reach) (J := IX12_everybody) (as := []) (ci := 12) (g := 0) (o := 200) (idx := 251) (pl := 1884) (rest := [.inl x1]) (mX12_everybody D) kX12_everybody vX12_everybody (by decide +kernel) (by decide +kernel) (by decide +kernel) rfl rfl ⟨rfl, rfl⟩ rfl rfl rfl rfl ?_
    refine mz_Go.run (gs := []) (st' := (if (((1 : Int32) <<< ((D.1 0 201 ((0 : Int32)).toNatClampNeg) &&& 31)) - (1 : Int32)) < x1 then (29, [some (.inr (.inr (some (0, 200)))), some (.inl x1), some (.inl x2)], [], D) else (12, [some (.inr (.inr (some (0, 200)))), some (.inl x1), some (.inl x2)], [], D))) bX12_reach_9 oX12_reach_9 rfl trivial ?_
    refine mz_Go.ite (fun hc2 => ?_) (fun hc2 => ?_)
    · have h := mz_ifp hc2 h
      exact mz_Go.drop [true, false, false] (tX12_reach_29 r D h)
    · have h := mz_ifn hc2 h
      refine mz_Go.run (gs := []) (st' := (14, [some (.inr (.inr (some (0, 200)))), some (.inl x1), some (.inl x2)], [.inl x2, .inr (.inr (some (0, 200)))], D)) bX12_reach_12 oX12_reach_12 rfl trivial ?_
      refine mz_Go.callV (I := IX12_reach) (J := IX12_isPerson) (as := [.inl x2]) (ci := 12) (g := 0) (o := 200) (idx := 248) (pl := 1902) (rest := []) (mX12_isPerson x2 D _ rfl) kX12_isPerson vX12_isPerson (by decide +kernel) (by decide +kernel) (by decide +kernel) rfl rfl ⟨rfl, rfl⟩ rfl rfl rfl rfl ?_
      refine mz_Go.run (gs := []) (st' := (if (fX12_isPerson x2 D) = 0 then (29, [some (.inr (.inr (some (0, 200)))), some (.inl x1), some (.inl x2)], [], D) else (20, [some (.inr (.inr (some (0, 200)))), some (.inl x1), some (.inl x2)], [], D))) bX12_reach_17 oX12_reach_17 rfl trivial ?_
      refine mz_Go.ite (fun hc3 => ?_) (fun hc3 => ?_)
      · have h := mz_ifp hc3 h
        exact mz_Go.drop [true, false, false] (tX12_reach_29 r D h)
      · have h := mz_ifn hc3 h
        refine mz_Go.run (gs := []) (st' := (23, [some (.inr (.inr (some (0, 200)))), some (.inl x1), some (.inl x2)], [.inl x2, .inl x1, .inr (.inr (some (0, 200)))], D)) bX12_reach_20 oX12_reach_20 rfl trivial ?_
        refine mz_Go.callV (I := IX12_reach) (J := IX12_isIn) (as := [.inl x1, .inl x2]) (ci := 12) (g := 0) (o := 200) (idx := 270) (pl := 1944) (rest := []) (mX12_isIn x1 x2 D _ rfl) kX12_isIn vX12_isIn (by decide +kernel) (by decide +kernel) (by decide +kernel) rfl rfl ⟨rfl, rfl⟩ rfl rfl rfl rfl ?_
        refine mz_Go.run (gs := []) (st' := (if (fX12_isIn x1 x2) = 0 then (29, [some (.inr (.inr (some (0, 200)))), some (.inl x1), some (.inl x2)], [], D) else (35, [some (.inr (.inr (some (0, 200)))), some (.inl x1), some (.inl x2)], [], D))) bX12_reach_26 oX12_reach_26 rfl trivial ?_
        refine mz_Go.ite (fun hc4 => ?_) (fun hc4 => ?_)
        · have h := mz_ifp hc4 h
          exact mz_Go.drop [true, false, false] (tX12_reach_29 r D h)
        · have h := mz_ifn hc4 h
          refine mz_Go.run (gs := []) (st' := (37, [some (.inr (.inr (some (0, 200)))), some (.inl x1), some (.inl x2)], [.inl x1, .inr (.inr (some (0, 200)))], D)) bX12_reach_35 oX12_reach_35 rfl trivial ?_
          obtain ⟨q5, hq5, h⟩ := mz_bd_some h
          refine mz_Go.callV (I := IX12_reach) (J := IX12_quickOf) (as := [.inl x1]) (ci := 12) (g := 0) (o := 200) (idx := 351) (pl := 2074) (rest := []) (mX12_quickOf x1 D q5 hq5) kX12_quickOf vX12_quickOf (by decide +kernel) (by decide +kernel) (by decide +kernel) rfl rfl ⟨rfl, rfl⟩ rfl rfl rfl rfl ?_
          refine mz_Go.run (gs := []) (st' := (if q5 = 0 then (43, [some (.inr (.inr (some (0, 200)))), some (.inl x1), some (.inl x2)], [], D) else (52, [some (.inr (.inr (some (0, 200)))), some (.inl x1), some (.inl x2)], [], D))) bX12_reach_40 oX12_reach_40 rfl trivial ?_
          refine mz_Go.ite (fun hc6 => ?_) (fun hc6 => ?_)
          · have h := mz_ifp hc6 h
            refine mz_Go.run (gs := []) (st' := (46, [some (.inr (.inr (some (0, 200)))), some (.inl x1), some (.inl x2)], [.inl (6 : Int32), .inr (.inr (some (0, 200)))], D)) bX12_reach_43 oX12_reach_43 rfl trivial ?_
            obtain ⟨q7, hq7, h⟩ := mz_bd_some h
            refine mz_Go.callV (I := IX12_reach) (J := IX12_is) (as := [.inl (6 : Int32)]) (ci := 12) (g := 0) (o := 200) (idx := 82) (pl := 1701) (rest := []) (mX12_is (6 : Int32) D q7 hq7) kX12_is vX12_is (by decide +kernel) (by decide +kernel) (by decide +kernel) rfl rfl ⟨rfl, rfl⟩ rfl rfl rfl rfl ?_
            refine mz_Go.run (gs := []) (st' := (74, [some (.inr (.inr (some (0, 200)))), some (.inl x1), some (.inl x2)], [.inl q7.1], q7.2)) bX12_reach_49 oX12_reach_49 rfl trivial ?_
            obtain ⟨hb8, h⟩ := mz_gd_some h
            cases h
            exact mz_Go.retz (by decide +kernel) rfl ⟨Nat.le_refl _, Nat.le_refl _⟩ hb8 rfl
          · have h := mz_ifn hc6 h
            refine mz_Go.run (gs := [mz_kz 0 0 200]) (st' := (58, [some (.inr (.inr (some (0, 200)))), some (.inl x1), some (.inl x2)], [.inl x2, .inr (.inr (some (0, 201))), .inr (.inr (some (0, 200)))], D)) bX12_reach_52 oX12_reach_52 rfl ⟨rfl, trivial⟩ ?_
            refine mz_Go.callS (I := IX12_reach) (J := IX12_personRow) (as := [.inl x2]) (idx := 267) (pl := 1895) (rest := [.inr (.inr (some (0, 201))), .inr (.inr (some (0, 200)))]) (mX12_personRow x2 D) kX12_personRow vX12_personRow (by decide +kernel) (by decide +kernel) (by decide +kernel) rfl rfl ⟨rfl, rfl⟩ rfl ?_
            obtain ⟨hb9, h⟩ := mz_gd_some h
            refine mz_Go.run (gs := [mz_kz 0 0 201, mz_ix (((12 : Int32) + ((8 : Int32) * x2)) + (1 : Int32)) 3000]) (st' := (67, [some (.inr (.inr (some (0, 200)))), some (.inl x1), some (.inl x2)], [.inl x1, .inr (.inr (some (0, 200))), .inr (.inl ((D.1 0 201 ((((12 : Int32) + ((8 : Int32) * x2)) + (1 : Int32))).toNatClampNeg)).toInt64), .inr (.inr (some (0, 200)))], D)) bX12_reach_61 oX12_reach_61 rfl ⟨rfl, hb9, trivial⟩ ?_
            obtain ⟨q10, hq10, h⟩ := mz_bd_some h
            refine mz_Go.callV (I := IX12_reach) (J := IX12_quickOf) (as := [.inl x1]) (ci := 12) (g := 0) (o := 200) (idx := 351) (pl := 2074) (rest := [.inr (.inl ((D.1 0 201 ((((12 : Int32) + ((8 : Int32) * x2)) + (1 : Int32))).toNatClampNeg)).toInt64), .inr (.inr (some (0, 200)))]) (mX12_quickOf x1 D q10 hq10) kX12_quickOf vX12_quickOf (by decide +kernel) (by decide +kernel) (by decide +kernel) rfl rfl ⟨rfl, rfl⟩ rfl rfl rfl rfl ?_
            refine mz_Go.run (gs := []) (st' := (71, [some (.inr (.inr (some (0, 200)))), some (.inl x1), some (.inl x2)], [.inr (.inl (q10).toInt64), .inr (.inl ((D.1 0 201 ((((12 : Int32) + ((8 : Int32) * x2)) + (1 : Int32))).toNatClampNeg)).toInt64), .inr (.inr (some (0, 200)))], D)) bX12_reach_70 oX12_reach_70 rfl trivial ?_
            obtain ⟨q11, hq11, h⟩ := mz_bd_some h
            refine mz_Go.callV (I := IX12_reach) (J := IX12_tellsBy) (as := [.inr (.inl ((D.1 0 201 ((((12 : Int32) + ((8 : Int32) * x2)) + (1 : Int32))).toNatClampNeg)).toInt64), .inr (.inl (q10).toInt64)]) (ci := 12) (g := 0) (o := 200) (idx := 343) (pl := 2056) (rest := []) (mX12_tellsBy ((D.1 0 201 ((((12 : Int32) + ((8 : Int32) * x2)) + (1 : Int32))).toNatClampNeg)).toInt64 (q10).toInt64 D q11 hq11) kX12_tellsBy vX12_tellsBy (by decide +kernel) (by decide +kernel) (by decide +kernel) rfl rfl ⟨rfl, rfl⟩ rfl rfl rfl rfl ?_
            obtain ⟨hb12, h⟩ := mz_gd_some h
            cases h
            exact mz_Go.retz (by decide +kernel) rfl ⟨Nat.le_refl _, Nat.le_refl _⟩ hb12 rfl
