def bX12_inWords_0 : List mz_E := [(0, .aload_n 0, 0, 0, 0, 0, 0), (1, .getfield 120, 12, 12, 1588, 0, 0), (4, .iconst 2, 0, 0, 0, 2, 0), (5, .if_icmp .eq 5, 0, 10, 0, 0, 0)]
theorem oX12_inWords_0 : bX12_inWords_0.all (mz_ok RX12 cX12_inWords 7) = true := by decide +kernel
def bX12_inWords_10 : List mz_E := [(10, .iconst 0, 0, 0, 0, 0, 0), (11, .istore_n 2, 0, 0, 0, 0, 0), (12, .iconst 1, 0, 0, 0, 1, 0), (13, .istore_n 3, 0, 0, 0, 0, 0)]
theorem oX12_inWords_10 : bX12_inWords_10.all (mz_ok RX12 cX12_inWords 7) = true := by decide +kernel
def bX12_inWords_14 : List mz_E := [(14, .iload_n 3, 0, 0, 0, 0, 0), (15, .aload_n 1, 0, 0, 0, 0, 0)]
theorem oX12_inWords_14 : bX12_inWords_14.all (mz_ok RX12 cX12_inWords 7) = true := by decide +kernel
def bX12_inWords_19 : List mz_E := [(19, .if_icmp .ge 114, 0, 133, 0, 0, 0)]
theorem oX12_inWords_19 : bX12_inWords_19.all (mz_ok RX12 cX12_inWords 7) = true := by decide +kernel
def bX12_inWords_133 : List mz_E := [(133, .iconst (-1), 0, 0, 0, -1, 0)]
theorem oX12_inWords_133 : bX12_inWords_133.all (mz_ok RX12 cX12_inWords 7) = true := by decide +kernel
def bX12_inWords_22 : List mz_E := [(22, .iload_n 3, 0, 0, 0, 0, 0), (23, .istore 4, 0, 0, 0, 0, 0)]
theorem oX12_inWords_22 : bX12_inWords_22.all (mz_ok RX12 cX12_inWords 7) = true := by decide +kernel
def bX12_inWords_25 : List mz_E := [(25, .aload_n 1, 0, 0, 0, 0, 0), (26, .iload 4, 0, 0, 0, 0, 0)]
theorem oX12_inWords_25 : bX12_inWords_25.all (mz_ok RX12 cX12_inWords 7) = true := by decide +kernel
def bX12_inWords_31 : List mz_E := [(31, .bipush 32, 0, 0, 0, 32, 0), (33, .if_icmp .eq 9, 0, 42, 0, 0, 0)]
theorem oX12_inWords_31 : bX12_inWords_31.all (mz_ok RX12 cX12_inWords 7) = true := by decide +kernel
def bX12_inWords_42 : List mz_E := [(42, .iload 4, 0, 0, 0, 0, 0), (44, .iload_n 3, 0, 0, 0, 0, 0), (45, .isub, 0, 0, 0, 0, 0), (46, .aload_n 0, 0, 0, 0, 0, 0), (47, .getfield 108, 12, 14, 1590, 0, 0), (50, .aload_n 0, 0, 0, 0, 0, 0), (51, .getfield 114, 12, 13, 1589, 0, 0), (54, .isub, 0, 0, 0, 0, 0), (55, .if_icmp .ne 7, 0, 62, 0, 0, 0)]
theorem oX12_inWords_42 : bX12_inWords_42.all (mz_ok RX12 cX12_inWords 7) = true := by decide +kernel
def bX12_inWords_58 : List mz_E := [(58, .iconst 1, 0, 0, 0, 1, 0), (59, .goto 4, 0, 63, 0, 0, 0), (63, .istore 5, 0, 0, 0, 0, 0), (65, .iload_n 3, 0, 0, 0, 0, 0), (66, .istore 6, 0, 0, 0, 0, 0)]
theorem oX12_inWords_58 : bX12_inWords_58.all (mz_ok RX12 cX12_inWords 7) = true := by decide +kernel
def bX12_inWords_68 : List mz_E := [(68, .iload 6, 0, 0, 0, 0, 0), (70, .iload 4, 0, 0, 0, 0, 0), (72, .if_icmp .ge 43, 0, 115, 0, 0, 0)]
theorem oX12_inWords_68 : bX12_inWords_68.all (mz_ok RX12 cX12_inWords 7) = true := by decide +kernel
def bX12_inWords_115 : List mz_E := [(115, .iload 5, 0, 0, 0, 0, 0), (117, .ifCond .eq 5, 0, 122, 0, 0, 0)]
theorem oX12_inWords_115 : bX12_inWords_115.all (mz_ok RX12 cX12_inWords 7) = true := by decide +kernel
def bX12_inWords_122 : List mz_E := [(122, .iinc 2 1, 0, 0, 0, 1, 0), (125, .iload 4, 0, 0, 0, 0, 0), (127, .iconst 1, 0, 0, 0, 1, 0), (128, .iadd, 0, 0, 0, 0, 0), (129, .istore_n 3, 0, 0, 0, 0, 0), (130, .goto (-116), 0, 14, 0, 0, 0)]
theorem oX12_inWords_122 : bX12_inWords_122.all (mz_ok RX12 cX12_inWords 7) = true := by decide +kernel
def bX12_inWords_120 : List mz_E := [(120, .iload_n 2, 0, 0, 0, 0, 0)]
theorem oX12_inWords_120 : bX12_inWords_120.all (mz_ok RX12 cX12_inWords 7) = true := by decide +kernel
def bX12_inWords_75 : List mz_E := [(75, .iload 5, 0, 0, 0, 0, 0), (77, .ifCond .eq 38, 0, 115, 0, 0, 0)]
theorem oX12_inWords_75 : bX12_inWords_75.all (mz_ok RX12 cX12_inWords 7) = true := by decide +kernel
def bX12_inWords_80 : List mz_E := [(80, .aload_n 1, 0, 0, 0, 0, 0), (81, .iload 6, 0, 0, 0, 0, 0)]
theorem oX12_inWords_80 : bX12_inWords_80.all (mz_ok RX12 cX12_inWords 7) = true := by decide +kernel
def bX12_inWords_86 : List mz_E := [(86, .aload_n 0, 0, 0, 0, 0, 0), (87, .aload_n 0, 0, 0, 0, 0, 0), (88, .getfield 114, 12, 13, 1589, 0, 0), (91, .iload 6, 0, 0, 0, 0, 0), (93, .iadd, 0, 0, 0, 0, 0), (94, .iload_n 3, 0, 0, 0, 0, 0), (95, .isub, 0, 0, 0, 0, 0)]
theorem oX12_inWords_86 : bX12_inWords_86.all (mz_ok RX12 cX12_inWords 7) = true := by decide +kernel
def bX12_inWords_99 : List mz_E := [(99, .if_icmp .ne 7, 0, 106, 0, 0, 0)]
theorem oX12_inWords_99 : bX12_inWords_99.all (mz_ok RX12 cX12_inWords 7) = true := by decide +kernel
def bX12_inWords_102 : List mz_E := [(102, .iconst 1, 0, 0, 0, 1, 0), (103, .goto 4, 0, 107, 0, 0, 0), (107, .istore 5, 0, 0, 0, 0, 0), (109, .iinc 6 1, 0, 0, 0, 1, 0), (112, .goto (-44), 0, 68, 0, 0, 0)]
theorem oX12_inWords_102 : bX12_inWords_102.all (mz_ok RX12 cX12_inWords 7) = true := by decide +kernel
def bX12_inWords_106 : List mz_E := [(106, .iconst 0, 0, 0, 0, 0, 0), (107, .istore 5, 0, 0, 0, 0, 0), (109, .iinc 6 1, 0, 0, 0, 1, 0), (112, .goto (-44), 0, 68, 0, 0, 0)]
theorem oX12_inWords_106 : bX12_inWords_106.all (mz_ok RX12 cX12_inWords 7) = true := by decide +kernel
def bX12_inWords_62 : List mz_E := [(62, .iconst 0, 0, 0, 0, 0, 0), (63, .istore 5, 0, 0, 0, 0, 0), (65, .iload_n 3, 0, 0, 0, 0, 0), (66, .istore 6, 0, 0, 0, 0, 0)]
theorem oX12_inWords_62 : bX12_inWords_62.all (mz_ok RX12 cX12_inWords 7) = true := by decide +kernel
def bX12_inWords_36 : List mz_E := [(36, .iinc 4 1, 0, 0, 0, 1, 0), (39, .goto (-14), 0, 25, 0, 0, 0)]
theorem oX12_inWords_36 : bX12_inWords_36.all (mz_ok RX12 cX12_inWords 7) = true := by decide +kernel
def bX12_inWords_8 : List mz_E := [(8, .iconst (-1), 0, 0, 0, -1, 0)]
theorem oX12_inWords_8 : bX12_inWords_8.all (mz_ok RX12 cX12_inWords 7) = true := by decide +kernel
abbrev IX12_inWords : mz_I := (yX12_inWords, cX12_inWords, 7, (some .int), 0, 4, 0, 0)
theorem kX12_inWords : mz_okm IX12_inWords 1773 141 1772 1 = true := by decide +kernel
theorem vX12_inWords : mz_okV IX12_inWords 1772 55 = true := by decide +kernel
def fX12_inWords_115 (D : mz_D) (k14 : Int32 → Int32 → Option Int32) (x2 : Int32) (x4 : Int32) (x5 : Int32) : Option Int32 := (if x5 = 0 then (k14 (x2 + (1 : Int32)) (x4 + (1 : Int32))) else (some x2))
set_option maxHeartbeats 4000000 in
theorem tX12_inWords_115 (D : mz_D) (r : Int32) (k14 : Int32 → Int32 → Option Int32) (hk14 : ∀ (x2 : Int32) (x3 : Int32), k14 x2 x3 = some r → mz_Go IX12_inWords (some (.inl r), D) 0 0 (14, [some (.inr (.inr (some (0, 200)))), some (.inr (.inr (some (0, 401)))), some (.inl x2), some (.inl x3), none, none, none], [], D)) : ∀ (x2 : Int32) (x4 : Int32) (x5 : Int32), fX12_inWords_115 D k14 x2 x4 x5 = some r → mz_Go IX12_inWords (some (.inl r), D) 0 0 (115, [some (.inr (.inr (some (0, 200)))), some (.inr (.inr (some (0, 401)))), some (.inl x2), none, some (.inl x4), some (.inl x5), none], [], D) := by
  intro x2 x4 x5 h
  rw [fX12_inWords_115] at h
  refine mz_Go.run (gs := []) (st' := (if x5 = 0 then (122, [some (.inr (.inr (some (0, 200)))), some (.inr (.inr (some (0, 401)))), some (.inl x2), none, some (.inl x4), some (.inl x5), none], [], D) else (120, [some (.inr (.inr (some (0, 200)))), some (.inr (.inr (some (0, 401)))), some (.inl x2), none, some (.inl x4), some (.inl x5), none], [], D))) bX12_inWords_115 oX12_inWords_115 rfl trivial ?_
  refine mz_Go.ite (fun hc1 => ?_) (fun hc1 => ?_)
  · have h := mz_ifp hc1 h
    refine mz_Go.run (gs := []) (st' := (14, [some (.inr (.inr (some (0, 200)))), some (.inr (.inr (some (0, 401)))), some (.inl (x2 + (1 : Int32))), some (.inl (x4 + (1 : Int32))), some (.inl x4), some (.inl x5), none], [], D)) bX12_inWords_122 oX12_inWords_122 rfl trivial ?_
    exact mz_Go.drop [true, true, true, true, false, false, false] (hk14 (x2 + (1 : Int32)) (x4 + (1 : Int32)) h)
  · have h := mz_ifn hc1 h
    refine mz_Go.run (gs := []) (st' := (121, [some (.inr (.inr (some (0, 200)))), some (.inr (.inr (some (0, 401)))), some (.inl x2), none, some (.inl x4), some (.inl x5), none], [.inl x2], D)) bX12_inWords_120 oX12_inWords_120 rfl trivial ?_
    cases h
    exact mz_Go.reti (by decide +kernel) rfl ⟨Nat.le_refl _, Nat.le_refl _⟩ rfl
def fX12_inWords_68 (D : mz_D) (k14 : Int32 → Int32 → Option Int32) : Nat → Int32 → Int32 → Int32 → Int32 → Int32 → Option Int32
  | 0 => fun _ _ _ _ _ => none
  | n + 1 => fun x2 x3 x4 x5 x6 => (if x4 ≤ x6 then (fX12_inWords_115 D k14 x2 x4 x5) else (if x5 = 0 then (fX12_inWords_115 D k14 x2 x4 x5) else (mz_gd (mz_ix x6 161) (Option.bind (fX12_byteAt (((D.1 0 200 13) + x6) - x3) D) fun q4 => (if (st_ch 1 x6) = q4 then ((fX12_inWords_68 D k14 n) x2 x3 x4 (1 : Int32) (x6 + (1 : Int32))) else ((fX12_inWords_68 D k14 n) x2 x3 x4 (0 : Int32) (x6 + (1 : Int32))))))))
set_option maxHeartbeats 4000000 in
theorem tX12_inWords_68 (D : mz_D) (r : Int32) (k14 : Int32 → Int32 → Option Int32) (hk14 : ∀ (x2 : Int32) (x3 : Int32), k14 x2 x3 = some r → mz_Go IX12_inWords (some (.inl r), D) 0 0 (14, [some (.inr (.inr (some (0, 200)))), some (.inr (.inr (some (0, 401)))), some (.inl x2), some (.inl x3), none, none, none], [], D)) : ∀ (n : Nat) (x2 : Int32) (x3 : Int32) (x4 : Int32) (x5 : Int32) (x6 : Int32), fX12_inWords_68 D k14 n x2 x3 x4 x5 x6 = some r → mz_Go IX12_inWords (some (.inl r), D) 0 0 (68, [some (.inr (.inr (some (0, 200)))), some (.inr (.inr (some (0, 401)))), some (.inl x2), some (.inl x3), some (.inl x4), some (.inl x5), some (.inl x6)], [], D) := by
  intro n
  induction n with
  | zero => intro x2 x3 x4 x5 x6 h; have h : (none : Option Int32) = some r := h; cases h
  | succ n ih =>
    intro x2 x3 x4 x5 x6 h
    rw [fX12_inWords_68] at h
    refine mz_Go.run (gs := []) (st' := (if x4 ≤ x6 then (115, [some (.inr (.inr (some (0, 200)))), some (.inr (.inr (some (0, 401)))), some (.inl x2), some (.inl x3), some (.inl x4), some (.inl x5), some (.inl x6)], [], D) else (75, [some (.inr (.inr (some (0, 200)))), some (.inr (.inr (some (0, 401)))), some (.inl x2), some (.inl x3), some (.inl x4), some (.inl x5), some (.inl x6)], [], D))) bX12_inWords_68 oX12_inWords_68 rfl trivial ?_
    refine mz_Go.ite (fun hc1 => ?_) (fun hc1 => ?_)
    · have h := mz_ifp hc1 h
      exact mz_Go.drop [true, true, true, false, true, true, false] (tX12_inWords_115 D r k14 hk14 x2 x4 x5 h)
    · have h := mz_ifn hc1 h
      refine mz_Go.run (gs := []) (st' := (if x5 = 0 then (115, [some (.inr (.inr (some (0, 200)))), some (.inr (.inr (some (0, 401)))), some (.inl x2), some (.inl x3), some (.inl x4), some (.inl x5), some (.inl x6)], [], D) else (80, [some (.inr (.inr (some (0, 200)))), some (.inr (.inr (some (0, 401)))), some (.inl x2), some (.inl x3), some (.inl x4), some (.inl x5), some (.inl x6)], [], D))) bX12_inWords_75 oX12_inWords_75 rfl trivial ?_
      refine mz_Go.ite (fun hc2 => ?_) (fun hc2 => ?_)
      · have h := mz_ifp hc2 h
        exact mz_Go.drop [true, true, true, false, true, true, false] (tX12_inWords_115 D r k14 hk14 x2 x4 x5 h)
      · have h := mz_ifn hc2 h
        refine mz_Go.run (gs := []) (st' := (83, [some (.inr (.inr (some (0, 200)))), some (.inr (.inr (some (0, 401)))), some (.inl x2), some (.inl x3), some (.inl x4), some (.inl x5), some (.inl x6)], [.inl x6, .inr (.inr (some (0, 401)))], D)) bX12_inWords_80 oX12_inWords_80 rfl trivial ?_
        obtain ⟨hb3, h⟩ := mz_gd_some h
        refine mz_Go.callT (I := IX12_inWords) (J := Ist_ca) (as := [.inl x6]) (i := 1) (idx := 141) (pl := 1775) (rest := []) (by decide) (st_ca 1 x6 D (by decide) hb3) kst_ca vst_ca (by decide +kernel) (by decide +kernel) (by decide +kernel) rfl rfl ⟨rfl, rfl⟩ rfl rfl ?_
        refine mz_Go.run (gs := [mz_kz 0 0 200]) (st' := (96, [some (.inr (.inr (some (0, 200)))), some (.inr (.inr (some (0, 401)))), some (.inl x2), some (.inl x3), some (.inl x4), some (.inl x5), some (.inl x6)], [.inl (((D.1 0 200 13) + x6) - x3), .inr (.inr (some (0, 200))), .inl (st_ch 1 x6)], D)) bX12_inWords_86 oX12_inWords_86 rfl ⟨rfl, trivial⟩ ?_
        obtain ⟨q4, hq4, h⟩ := mz_bd_some h
        refine mz_Go.callV (I := IX12_inWords) (J := IX12_byteAt) (as := [.inl (((D.1 0 200 13) + x6) - x3)]) (ci := 12) (g := 0) (o := 200) (idx := 111) (pl := 1749) (rest := [.inl (st_ch 1 x6)]) (mX12_byteAt (((D.1 0 200 13) + x6) - x3) D q4 hq4) kX12_byteAt vX12_byteAt (by decide +kernel) (by decide +kernel) (by decide +kernel) rfl rfl ⟨rfl, rfl⟩ rfl rfl rfl rfl ?_
        refine mz_Go.run (gs := []) (st' := (if (st_ch 1 x6) = q4 then (102, [some (.inr (.inr (some (0, 200)))), some (.inr (.inr (some (0, 401)))), some (.inl x2), some (.inl x3), some (.inl x4), some (.inl x5), some (.inl x6)], [], D) else (106, [some (.inr (.inr (some (0, 200)))), some (.inr (.inr (some (0, 401)))), some (.inl x2), some (.inl x3), some (.inl x4), some (.inl x5), some (.inl x6)], [], D))) bX12_inWords_99 oX12_inWords_99 rfl trivial ?_
        refine mz_Go.ite (fun hc5 => ?_) (fun hc5 => ?_)
        · have h := mz_ifp hc5 h
          refine mz_Go.run (gs := []) (st' := (68, [some (.inr (.inr (some (0, 200)))), some (.inr (.inr (some (0, 401)))), some (.inl x2), some (.inl x3), some (.inl x4), some (.inl (1 : Int32)), some (.inl (x6 + (1 : Int32)))], [], D)) bX12_inWords_102 oX12_inWords_102 rfl trivial ?_
          exact mz_Go.drop [true, true, true, true, true, true, true] (ih x2 x3 x4 (1 : Int32) (x6 + (1 : Int32)) h)
        · have h := mz_ifn hc5 h
          refine mz_Go.run (gs := []) (st' := (68, [some (.inr (.inr (some (0, 200)))), some (.inr (.inr (some (0, 401)))), some (.inl x2), some (.inl x3), some (.inl x4), some (.inl (0 : Int32)), some (.inl (x6 + (1 : Int32)))], [], D)) bX12_inWords_106 oX12_inWords_106 rfl trivial ?_
          exact mz_Go.drop [true, true, true, true, true, true, true] (ih x2 x3 x4 (0 : Int32) (x6 + (1 : Int32)) h)
def fX12_inWords_25 (D : mz_D) (k14 : Int32 → Int32 → Option Int32) : Nat → Int32 → Int32 → Int32 → Option Int32
  | 0 => fun _ _ _ => none
  | n + 1 => fun x2 x3 x4 => (mz_gd (mz_ix x4 161) (if (st_ch 1 x4) = (32 : Int32) then (if (x4 - x3) = ((D.1 0 200 14) - (D.1 0 200 13)) then (fX12_inWords_68 D k14 mz_N x2 x3 x4 (1 : Int32) x3) else (fX12_inWords_68 D k14 mz_N x2 x3 x4 (0 : Int32) x3)) else ((fX12_inWords_25 D k14 n) x2 x3 (x4 + (1 : Int32)))))
set_option maxHeartbeats 4000000 in
theorem tX12_inWords_25 (D : mz_D) (r : Int32) (k14 : Int32 → Int32 → Option Int32) (hk14 : ∀ (x2 : Int32) (x3 : Int32), k14 x2 x3 = some r → mz_Go IX12_inWords (some (.inl r), D) 0 0 (14, [some (.inr (.inr (some (0, 200)))), some (.inr (.inr (some (0, 401)))), some (.inl x2), some (.inl x3), none, none, none], [], D)) : ∀ (n : Nat) (x2 : Int32) (x3 : Int32) (x4 : Int32), fX12_inWords_25 D k14 n x2 x3 x4 = some r → mz_Go IX12_inWords (some (.inl r), D) 0 0 (25, [some (.inr (.inr (some (0, 200)))), some (.inr (.inr (some (0, 401)))), some (.inl x2), some (.inl x3), some (.inl x4), none, none], [], D) := by
  intro n
  induction n with
  | zero => intro x2 x3 x4 h; have h : (none : Option Int32) = some r := h; cases h
  | succ n ih =>
    intro x2 x3 x4 h
    rw [fX12_inWords_25] at h
    refine mz_Go.run (gs := []) (st' := (28, [some (.inr (.inr (some (0, 200)))), some (.inr (.inr (some (0, 401)))), some (.inl x2), some (.inl x3), some (.inl x4), none, none], [.inl x4, .inr (.inr (some (0, 401)))], D)) bX12_inWords_25 oX12_inWords_25 rfl trivial ?_
    obtain ⟨hb1, h⟩ := mz_gd_some h
    refine mz_Go.callT (I := IX12_inWords) (J := Ist_ca) (as := [.inl x4]) (i := 1) (idx := 141) (pl := 1775) (rest := []) (by decide) (st_ca 1 x4 D (by decide) hb1) kst_ca vst_ca (by decide +kernel) (by decide +kernel) (by decide +kernel) rfl rfl ⟨rfl, rfl⟩ rfl rfl ?_
    refine mz_Go.run (gs := []) (st' := (if (st_ch 1 x4) = (32 : Int32) then (42, [some (.inr (.inr (some (0, 200)))), some (.inr (.inr (some (0, 401)))), some (.inl x2), some (.inl x3), some (.inl x4), none, none], [], D) else (36, [some (.inr (.inr (some (0, 200)))), some (.inr (.inr (some (0, 401)))), some (.inl x2), some (.inl x3), some (.inl x4), none, none], [], D))) bX12_inWords_31 oX12_inWords_31 rfl trivial ?_
    refine mz_Go.ite (fun hc2 => ?_) (fun hc2 => ?_)
    · have h := mz_ifp hc2 h
      refine mz_Go.run (gs := [mz_kz 0 0 200, mz_kz 0 0 200]) (st' := (if (x4 - x3) = ((D.1 0 200 14) - (D.1 0 200 13)) then (58, [some (.inr (.inr (some (0, 200)))), some (.inr (.inr (some (0, 401)))), some (.inl x2), some (.inl x3), some (.inl x4), none, none], [], D) else (62, [some (.inr (.inr (some (0, 200)))), some (.inr (.inr (some (0, 401)))), some (.inl x2), some (.inl x3), some (.inl x4), none, none], [], D))) bX12_inWords_42 oX12_inWords_42 rfl ⟨rfl, rfl, trivial⟩ ?_
      refine mz_Go.ite (fun hc3 => ?_) (fun hc3 => ?_)
      · have h := mz_ifp hc3 h
        refine mz_Go.run (gs := []) (st' := (68, [some (.inr (.inr (some (0, 200)))), some (.inr (.inr (some (0, 401)))), some (.inl x2), some (.inl x3), some (.inl x4), some (.inl (1 : Int32)), some (.inl x3)], [], D)) bX12_inWords_58 oX12_inWords_58 rfl trivial ?_
        exact mz_Go.drop [true, true, true, true, true, true, true] (tX12_inWords_68 D r k14 hk14 mz_N x2 x3 x4 (1 : Int32) x3 h)
      · have h := mz_ifn hc3 h
        refine mz_Go.run (gs := []) (st' := (68, [some (.inr (.inr (some (0, 200)))), some (.inr (.inr (some (0, 401)))), some (.inl x2), some (.inl x3), some (.inl x4), some (.inl (0 : Int32)), some (.inl x3)], [], D)) bX12_inWords_62 oX12_inWords_62 rfl trivial ?_
        exact mz_Go.drop [true, true, true, true, true, true, true] (tX12_inWords_68 D r k14 hk14 mz_N x2 x3 x4 (0 : Int32) x3 h)
    · have h := mz_ifn hc2 h
      refine mz_Go.run (gs := []) (st' := (25, [some (.inr (.inr (some (0, 200)))), some (.inr (.inr (some (0, 401)))), some (.inl x2), some (.inl x3), some (.inl (x4 + (1 : Int32))), none, none], [], D)) bX12_inWords_36 oX12_inWords_36 rfl trivial ?_
      exact mz_Go.drop [true, true, true, true, true, false, false] (ih x2 x3 (x4 + (1 : Int32)) h)
def fX12_inWords_14 (D : mz_D) : Nat → Int32 → Int32 → Option Int32
  | 0 => fun _ _ => none
  | n + 1 => fun x2 x3 => (if (Int32.ofNat 161) ≤ x3 then (some (-1 : Int32)) else (fX12_inWords_25 D (fX12_inWords_14 D n) mz_N x2 x3 x3))
set_option maxHeartbeats 4000000 in
theorem tX12_inWords_14 (D : mz_D) (r : Int32) : ∀ (n : Nat) (x2 : Int32) (x3 : Int32), fX12_inWords_14 D n x2 x3 = some r → mz_Go IX12_inWords (some (.inl r), D) 0 0 (14, [some (.inr (.inr (some (0, 200)))), some (.inr (.inr (some (0, 401)))), some (.inl x2), some (.inl x3), none, none, none], [], D) := by
  intro n
  induction n with
  | zero => intro x2 x3 h; have h : (none : Option Int32) = some r := h; cases h
  | succ n ih =>
    intro x2 x3 h
    rw [fX12_inWords_14] at h
    refine mz_Go.run (gs := []) (st' := (16, [some (.inr (.inr (some (0, 200)))), some (.inr (.inr (some (0, 401)))), some (.inl x2), some (.inl x3), none, none, none], [.inr (.inr (some (0, 401))), .inl x3], D)) bX12_inWords_14 oX12_inWords_14 rfl trivial ?_
    refine mz_Go.callT (I := IX12_inWords) (J := Ist_le) (as := []) (i := 1) (idx := 135) (pl := 1774) (rest := [.inl x3]) (by decide) (st_le 1 D (by decide)) kst_le vst_le (by decide +kernel) (by decide +kernel) (by decide +kernel) rfl rfl ⟨rfl, rfl⟩ rfl rfl ?_
    refine mz_Go.run (gs := []) (st' := (if (Int32.ofNat 161) ≤ x3 then (133, [some (.inr (.inr (some (0, 200)))), some (.inr (.inr (some (0, 401)))), some (.inl x2), some (.inl x3), none, none, none], [], D) else (22, [some (.inr (.inr (some (0, 200)))), some (.inr (.inr (some (0, 401)))), some (.inl x2), some (.inl x3), none, none, none], [], D))) bX12_inWords_19 oX12_inWords_19 rfl trivial ?_
    refine mz_Go.ite (fun hc1 => ?_) (fun hc1 => ?_)
    · have h := mz_ifp hc1 h
      refine mz_Go.run (gs := []) (st' := (134, [some (.inr (.inr (some (0, 200)))), some (.inr (.inr (some (0, 401)))), some (.inl x2), some (.inl x3), none, none, none], [.inl (-1 : Int32)], D)) bX12_inWords_133 oX12_inWords_133 rfl trivial ?_
      cases h
      exact mz_Go.reti (by decide +kernel) rfl ⟨Nat.le_refl _, Nat.le_refl _⟩ rfl
    · have h := mz_ifn hc1 h
      refine mz_Go.run (gs := []) (st' := (25, [some (.inr (.inr (some (0, 200)))), some (.inr (.inr (some (0, 401)))), some (.inl x2), some (.inl x3), some (.inl x3), none, none], [], D)) bX12_inWords_22 oX12_inWords_22 rfl trivial ?_
      exact mz_Go.drop [true, true, true, true, true, false, false] (tX12_inWords_25 D r (fX12_inWords_14 D n) ih mz_N x2 x3 x3 h)
def fX12_inWords (D : mz_D) : Option Int32 := (if (D.1 0 200 12) = (2 : Int32) then (fX12_inWords_14 D mz_N (0 : Int32) (1 : Int32)) else (some (-1 : Int32)))
set_option maxHeartbeats 4000000 in
theorem mX12_inWords (D : mz_D) (r : Int32) (h : fX12_inWords D = some r) : mz_Met IX12_inWords [.inr (.inr (some (0, 200))), .inr (.inr (some (0, 401)))] D (some (.inl r), D) := by
  refine mz_Met.of (by decide +kernel) (Nat.le_of_ble_eq_true rfl) ?_
  show mz_Go IX12_inWords (some (.inl r), D) 0 0 (0, [some (.inr (.inr (some (0, 200)))), some (.inr (.inr (some (0, 401)))), none, none, none, none, none], [], D)
  rw [fX12_inWords] at h
  refine mz_Go.run (gs := [mz_kz 0 0 200]) (st' := (if (D.1 0 200 12) = (2 : Int32) then (10, [some (.inr (.inr (some (0, 200)))), some (.inr (.inr (some (0, 401)))), none, none, none, none, none], [], D) else (8, [some (.inr (.inr (some (0, 200)))), some (.inr (.inr (some (0, 401)))), none, none, none, none, none], [], D))) bX12_inWords_0 oX12_inWords_0 rfl ⟨rfl, trivial⟩ ?_
  refine mz_Go.ite (fun hc1 => ?_) (fun hc1 => ?_)
  · have h := mz_ifp hc1 h
    refine mz_Go.run (gs := []) (st' := (14, [some (.inr (.inr (some (0, 200)))), some (.inr (.inr (some (0, 401)))), some (.inl (0 : Int32)), some (.inl (1 : Int32)), none, none, none], [], D)) bX12_inWords_10 oX12_inWords_10 rfl trivial ?_
    exact mz_Go.drop [true, true, true, true, false, false, false] (tX12_inWords_14 D r mz_N (0 : Int32) (1 : Int32) h)
  · have h := mz_ifn hc1 h
    refine mz_Go.run (gs := []) (st' := (9, [some (.inr (.inr (some (0, 200)))), some (.inr (.inr (some (0, 401)))), none, none, none, none, none], [.inl (-1 : Int32)], D)) bX12_inWords_8 oX12_inWords_8 rfl trivial ?_
    cases h
    exact mz_Go.reti (by decide +kernel) rfl ⟨Nat.le_refl _, Nat.le_refl _⟩ rfl
def bX12_wantWord_0 : List mz_E := [(0, .aload_n 0, 0, 0, 0, 0, 0), (1, .aload_n 1, 0, 0, 0, 0, 0)]
theorem oX12_wantWord_0 : bX12_wantWord_0.all (mz_ok RX12 cX12_wantWord 3) = true := by decide +kernel
def bX12_wantWord_5 : List mz_E := [(5, .iload_n 2, 0, 0, 0, 0, 0), (6, .if_icmp .eq 9, 0, 15, 0, 0, 0)]
theorem oX12_wantWord_5 : bX12_wantWord_5.all (mz_ok RX12 cX12_wantWord 3) = true := by decide +kernel
def bX12_wantWord_15 : List mz_E := [(15, .aload_n 0, 0, 0, 0, 0, 0)]
theorem oX12_wantWord_15 : bX12_wantWord_15.all (mz_ok RX12 cX12_wantWord 3) = true := by decide +kernel
def bX12_wantWord_19 : List mz_E := [(19, .iconst 1, 0, 0, 0, 1, 0)]
theorem oX12_wantWord_19 : bX12_wantWord_19.all (mz_ok RX12 cX12_wantWord 3) = true := by decide +kernel
def bX12_wantWord_9 : List mz_E := [(9, .aload_n 0, 0, 0, 0, 0, 0), (10, .iconst 2, 0, 0, 0, 2, 0)]
theorem oX12_wantWord_9 : bX12_wantWord_9.all (mz_ok RX12 cX12_wantWord 3) = true := by decide +kernel
abbrev IX12_wantWord : mz_I := (yX12_wantWord, cX12_wantWord, 3, (some .boolean), 0, 5, 0, 0)
theorem kX12_wantWord : mz_okm IX12_wantWord 1867 141 1866 2 = true := by decide +kernel
theorem vX12_wantWord : mz_okV IX12_wantWord 1866 77 = true := by decide +kernel
def fX12_wantWord (x2 : Int32) (D : mz_D) : Option (Int32 × mz_D) := (Option.bind (fX12_inWords D) fun q1 => (if q1 = x2 then (Option.bind (fX12_ahead D) fun q3 => (some ((1 : Int32), q3))) else (Option.bind (fX12_fails (2 : Int32) D) fun q4 => (mz_gd (mz_bo q4.1) (some (q4.1, q4.2))))))
set_option maxHeartbeats 4000000 in
theorem mX12_wantWord (x2 : Int32) (D : mz_D) (r : (Int32 × mz_D)) (h : fX12_wantWord x2 D = some r) : mz_Met IX12_wantWord [.inr (.inr (some (0, 200))), .inr (.inr (some (0, 401))), .inl x2] D (some (.inl r.1), r.2) := by
  refine mz_Met.of (by decide +kernel) (Nat.le_of_ble_eq_true rfl) ?_
  show mz_Go IX12_wantWord (some (.inl r.1), r.2) 0 0 (0, [some (.inr (.inr (some (0, 200)))), some (.inr (.inr (some (0, 401)))), some (.inl x2)], [], D)
  rw [fX12_wantWord] at h
  refine mz_Go.run (gs := []) (st' := (2, [some (.inr (.inr (some (0, 200)))), some (.inr (.inr (some (0, 401)))), some (.inl x2)], [.inr (.inr (some (0, 401))), .inr (.inr (some (0, 200)))], D)) bX12_wantWord_0 oX12_wantWord_0 rfl trivial ?_
  obtain ⟨q1, hq1, h⟩ := mz_bd_some h
  refine mz_Go.callV (I := IX12_wantWord) (J := IX12_inWords) (as := [.inr (.inr (some (0, 401)))]) (ci := 12) (g := 0) (o := 200) (idx := 160) (pl := 1770) (rest := []) (mX12_inWords D q1 hq1) kX12_inWords vX12_inWords (by decide +kernel) (by decide +kernel) (by decide +kernel) rfl rfl ⟨rfl, rfl⟩ rfl rfl rfl rfl ?_
  refine mz_Go.run (gs := []) (st' := (if q1 = x2 then (15, [some (.inr (.inr (some (0, 200)))), some (.inr (.inr (some (0, 401)))), some (.inl x2)], [], D) else (9, [some (.inr (.inr (some (0, 200)))), some (.inr (.inr (some (0, 401)))), some (.inl x2)], [], D))) bX12_wantWord_5 oX12_wantWord_5 rfl trivial ?_
  refine mz_Go.ite (fun hc2 => ?_) (fun hc2 => ?_)
  · have h := mz_ifp hc2 h
    refine mz_Go.run (gs := []) (st' := (16, [some (.inr (.inr (some (0, 200)))), some (.inr (.inr (some (0, 401)))), some (.inl x2)], [.inr (.inr (some (0, 200)))], D)) bX12_wantWord_15 oX12_wantWord_15 rfl trivial ?_
    obtain ⟨q3, hq3, h⟩ := mz_bd_some h
    refine mz_Go.callV (I := IX12_wantWord) (J := IX12_ahead) (as := []) (ci := 12) (g := 0) (o := 200) (idx := 151) (pl := 1745) (rest := []) (mX12_ahead D q3 hq3) kX12_ahead vX12_ahead (by decide +kernel) (by decide +kernel) (by decide +kernel) rfl rfl ⟨rfl, rfl⟩ rfl rfl rfl rfl ?_
    refine mz_Go.run (gs := []) (st' := (20, [some (.inr (.inr (some (0, 200)))), some (.inr (.inr (some (0, 401)))), some (.inl x2)], [.inl (1 : Int32)], q3)) bX12_wantWord_19 oX12_wantWord_19 rfl trivial ?_
    cases h
    exact mz_Go.retz (by decide +kernel) rfl ⟨Nat.le_refl _, Nat.le_refl _⟩ (by decide) rfl
  · have h := mz_ifn hc2 h
    refine mz_Go.run (gs := []) (st' := (11, [some (.inr (.inr (some (0, 200)))), some (.inr (.inr (some (0, 401)))), some (.inl x2)], [.inl (2 : Int32), .inr (.inr (some (0, 200)))], D)) bX12_wantWord_9 oX12_wantWord_9 rfl trivial ?_
    obtain ⟨q4, hq4, h⟩ := mz_bd_some h
    refine mz_Go.callV (I := IX12_wantWord) (J := IX12_fails) (as := [.inl (2 : Int32)]) (ci := 12) (g := 0) (o := 200) (idx := 157) (pl := 1780) (rest := []) (mX12_fails (2 : Int32) D q4 hq4) kX12_fails vX12_fails (by decide +kernel) (by decide +kernel) (by decide +kernel) rfl rfl ⟨rfl, rfl⟩ rfl rfl rfl rfl ?_
    obtain ⟨hb5, h⟩ := mz_gd_some h
    cases h
    exact mz_Go.retz (by decide +kernel) rfl ⟨Nat.le_refl _, Nat.le_refl _⟩ hb5 rfl
def bX12_isName_0 : List mz_E := [(0, .aload_n 0, 0, 0, 0, 0, 0), (1, .getfield 120, 12, 12, 1588, 0, 0), (4, .iconst 2, 0, 0, 0, 2, 0), (5, .if_icmp .ne 30, 0, 35, 0, 0, 0)]
theorem oX12_isName_0 : bX12_isName_0.all (mz_ok RX12 cX12_isName 2) = true := by decide +kernel
def bX12_isName_8 : List mz_E := [(8, .aload_n 0, 0, 0, 0, 0, 0), (9, .getfield 108, 12, 14, 1590, 0, 0), (12, .aload_n 0, 0, 0, 0, 0, 0), (13, .getfield 114, 12, 13, 1589, 0, 0), (16, .isub, 0, 0, 0, 0, 0), (17, .bipush 8, 0, 0, 0, 8, 0), (19, .if_icmp .gt 16, 0, 35, 0, 0, 0)]
theorem oX12_isName_8 : bX12_isName_8.all (mz_ok RX12 cX12_isName 2) = true := by decide +kernel
def bX12_isName_35 : List mz_E := [(35, .iconst 0, 0, 0, 0, 0, 0)]
theorem oX12_isName_35 : bX12_isName_35.all (mz_ok RX12 cX12_isName 2) = true := by decide +kernel
def bX12_isName_22 : List mz_E := [(22, .aload_n 0, 0, 0, 0, 0, 0), (23, .aload_n 1, 0, 0, 0, 0, 0)]
theorem oX12_isName_22 : bX12_isName_22.all (mz_ok RX12 cX12_isName 2) = true := by decide +kernel
def bX12_isName_27 : List mz_E := [(27, .iconst (-1), 0, 0, 0, -1, 0), (28, .if_icmp .ne 7, 0, 35, 0, 0, 0)]
theorem oX12_isName_27 : bX12_isName_27.all (mz_ok RX12 cX12_isName 2) = true := by decide +kernel
def bX12_isName_31 : List mz_E := [(31, .iconst 1, 0, 0, 0, 1, 0), (32, .goto 4, 0, 36, 0, 0, 0)]
theorem oX12_isName_31 : bX12_isName_31.all (mz_ok RX12 cX12_isName 2) = true := by decide +kernel
abbrev IX12_isName : mz_I := (yX12_isName, cX12_isName, 2, (some .boolean), 0, 5, 0, 0)
theorem kX12_isName : mz_okm IX12_isName 1787 141 1786 1 = true := by decide +kernel
theorem vX12_isName : mz_okV IX12_isName 1786 58 = true := by decide +kernel
def fX12_isName (D : mz_D) : Option Int32 := (if (D.1 0 200 12) = (2 : Int32) then (if (8 : Int32) < ((D.1 0 200 14) - (D.1 0 200 13)) then (some (0 : Int32)) else (Option.bind (fX12_inWords D) fun q3 => (if q3 = (-1 : Int32) then (some (1 : Int32)) else (some (0 : Int32))))) else (some (0 : Int32)))
set_option maxHeartbeats 4000000 in
theorem mX12_isName (D : mz_D) (r : Int32) (h : fX12_isName D = some r) : mz_Met IX12_isName [.inr (.inr (some (0, 200))), .inr (.inr (some (0, 401)))] D (some (.inl r), D) := by
  refine mz_Met.of (by decide +kernel) (Nat.le_of_ble_eq_true rfl) ?_
  show mz_Go IX12_isName (some (.inl r), D) 0 0 (0, [some (.inr (.inr (some (0, 200)))), some (.inr (.inr (some (0, 401))))], [], D)
  rw [fX12_isName] at h
  refine mz_Go.run (gs := [mz_kz 0 0 200]) (st' := (if (D.1 0 200 12) = (2 : Int32) then (8, [some (.inr (.inr (some (0, 200)))), some (.inr (.inr (some (0, 401))))], [], D) else (35, [some (.inr (.inr (some (0, 200)))), some (.inr (.inr (some (0, 401))))], [], D))) bX12_isName_0 oX12_isName_0 rfl ⟨rfl, trivial⟩ ?_
  refine mz_Go.ite (fun hc1 => ?_) (fun hc1 => ?_)
  · have h := mz_ifp hc1 h
    refine mz_Go.run (gs := [mz_kz 0 0 200, mz_kz 0 0 200]) (st' := (if (8 : Int32) < ((D.1 0 200 14) - (D.1 0 200 13)) then (35, [some (.inr (.inr (some (0, 200)))), some (.inr (.inr (some (0, 401))))], [], D) else (22, [some (.inr (.inr (some (0, 200)))), some (.inr (.inr (some (0, 401))))], [], D))) bX12_isName_8 oX12_isName_8 rfl ⟨rfl, rfl, trivial⟩ ?_
    refine mz_Go.ite (fun hc2 => ?_) (fun hc2 => ?_)
    · have h := mz_ifp hc2 h
      refine mz_Go.run (gs := []) (st' := (36, [some (.inr (.inr (some (0, 200)))), some (.inr (.inr (some (0, 401))))], [.inl (0 : Int32)], D)) bX12_isName_35 oX12_isName_35 rfl trivial ?_
      cases h
      exact mz_Go.retz (by decide +kernel) rfl ⟨Nat.le_refl _, Nat.le_refl _⟩ (by decide) rfl
    · have h := mz_ifn hc2 h
      refine mz_Go.run (gs := []) (st' := (24, [some (.inr (.inr (some (0, 200)))), some (.inr (.inr (some (0, 401))))], [.inr (.inr (some (0, 401))), .inr (.inr (some (0, 200)))], D)) bX12_isName_22 oX12_isName_22 rfl trivial ?_
      obtain ⟨q3, hq3, h⟩ := mz_bd_some h
      refine mz_Go.callV (I := IX12_isName) (J := IX12_inWords) (as := [.inr (.inr (some (0, 401)))]) (ci := 12) (g := 0) (o := 200) (idx := 160) (pl := 1770) (rest := []) (mX12_inWords D q3 hq3) kX12_inWords vX12_inWords (by decide +kernel) (by decide +kernel) (by decide +kernel) rfl rfl ⟨rfl, rfl⟩ rfl rfl rfl rfl ?_
      refine mz_Go.run (gs := []) (st' := (if q3 = (-1 : Int32) then (31, [some (.inr (.inr (some (0, 200)))), some (.inr (.inr (some (0, 401))))], [], D) else (35, [some (.inr (.inr (some (0, 200)))), some (.inr (.inr (some (0, 401))))], [], D))) bX12_isName_27 oX12_isName_27 rfl trivial ?_
      refine mz_Go.ite (fun hc4 => ?_) (fun hc4 => ?_)
      · have h := mz_ifp hc4 h
        refine mz_Go.run (gs := []) (st' := (36, [some (.inr (.inr (some (0, 200)))), some (.inr (.inr (some (0, 401))))], [.inl (1 : Int32)], D)) bX12_isName_31 oX12_isName_31 rfl trivial ?_
        cases h
        exact mz_Go.retz (by decide +kernel) rfl ⟨Nat.le_refl _, Nat.le_refl _⟩ (by decide) rfl
      · have h := mz_ifn hc4 h
        refine mz_Go.run (gs := []) (st' := (36, [some (.inr (.inr (some (0, 200)))), some (.inr (.inr (some (0, 401))))], [.inl (0 : Int32)], D)) bX12_isName_35 oX12_isName_35 rfl trivial ?_
        cases h
        exact mz_Go.retz (by decide +kernel) rfl ⟨Nat.le_refl _, Nat.le_refl _⟩ (by decide) rfl
  · have h := mz_ifn hc1 h
    refine mz_Go.run (gs := []) (st' := (36, [some (.inr (.inr (some (0, 200)))), some (.inr (.inr (some (0, 401))))], [.inl (0 : Int32)], D)) bX12_isName_35 oX12_isName_35 rfl trivial ?_
    cases h
    exact mz_Go.retz (by decide +kernel) rfl ⟨Nat.le_refl _, Nat.le_refl _⟩ (by decide) rfl
def bX12_isThere_0 : List mz_E := [(0, .aload_n 0, 0, 0, 0, 0, 0)]
theorem oX12_isThere_0 : bX12_isThere_0.all (mz_ok RX12 cX12_isThere 2) = true := by decide +kernel
def bX12_isThere_6 : List mz_E := [(6, .iload_n 1, 0, 0, 0, 0, 0), (7, .if_icmp .eq 5, 0, 12, 0, 0, 0)]
theorem oX12_isThere_6 : bX12_isThere_6.all (mz_ok RX12 cX12_isThere 2) = true := by decide +kernel
def bX12_isThere_12 : List mz_E := [(12, .aload_n 0, 0, 0, 0, 0, 0)]
theorem oX12_isThere_12 : bX12_isThere_12.all (mz_ok RX12 cX12_isThere 2) = true := by decide +kernel
def bX12_isThere_16 : List mz_E := [(16, .iconst 1, 0, 0, 0, 1, 0)]
theorem oX12_isThere_16 : bX12_isThere_16.all (mz_ok RX12 cX12_isThere 2) = true := by decide +kernel
def bX12_isThere_10 : List mz_E := [(10, .iconst 0, 0, 0, 0, 0, 0)]
theorem oX12_isThere_10 : bX12_isThere_10.all (mz_ok RX12 cX12_isThere 2) = true := by decide +kernel
abbrev IX12_isThere : mz_I := (yX12_isThere, cX12_isThere, 2, (some .boolean), 0, 5, 0, 0)
theorem kX12_isThere : mz_okm IX12_isThere 1799 141 1798 1 = true := by decide +kernel
theorem vX12_isThere : mz_okV IX12_isThere 1798 61 = true := by decide +kernel
def fX12_isThere (x1 : Int32) (D : mz_D) : Option (Int32 × mz_D) := (Option.bind (fX12_inWords D) fun q1 => (if q1 = x1 then (Option.bind (fX12_ahead D) fun q3 => (some ((1 : Int32), q3))) else (some ((0 : Int32), D))))
set_option maxHeartbeats 4000000 in
theorem mX12_isThere (x1 : Int32) (D : mz_D) (r : (Int32 × mz_D)) (h : fX12_isThere x1 D = some r) : mz_Met IX12_isThere [.inr (.inr (some (0, 200))), .inl x1] D (some (.inl r.1), r.2) := by
  refine mz_Met.of (by decide +kernel) (Nat.le_of_ble_eq_true rfl) ?_
  show mz_Go IX12_isThere (some (.inl r.1), r.2) 0 0 (0, [some (.inr (.inr (some (0, 200)))), some (.inl x1)], [], D)
  rw [fX12_isThere] at h
  refine mz_Go.run (gs := []) (st' := (1, [some (.inr (.inr (some (0, 200)))), some (.inl x1)], [.inr (.inr (some (0, 200)))], D)) bX12_isThere_0 oX12_isThere_0 rfl trivial ?_
  refine mz_Go.ldcK rfl (by decide +kernel) ?_
  obtain ⟨q1, hq1, h⟩ := mz_bd_some h
  refine mz_Go.callV (I := IX12_isThere) (J := IX12_inWords) (as := [.inr (.inr (some (0, 401)))]) (ci := 12) (g := 0) (o := 200) (idx := 160) (pl := 1770) (rest := []) (mX12_inWords D q1 hq1) kX12_inWords vX12_inWords (by decide +kernel) (by decide +kernel) (by decide +kernel) rfl rfl ⟨rfl, rfl⟩ rfl rfl rfl rfl ?_
  refine mz_Go.run (gs := []) (st' := (if q1 = x1 then (12, [some (.inr (.inr (some (0, 200)))), some (.inl x1)], [], D) else (10, [some (.inr (.inr (some (0, 200)))), some (.inl x1)], [], D))) bX12_isThere_6 oX12_isThere_6 rfl trivial ?_
  refine mz_Go.ite (fun hc2 => ?_) (fun hc2 => ?_)
  · have h := mz_ifp hc2 h
    refine mz_Go.run (gs := []) (st' := (13, [some (.inr (.inr (some (0, 200)))), some (.inl x1)], [.inr (.inr (some (0, 200)))], D)) bX12_isThere_12 oX12_isThere_12 rfl trivial ?_
    obtain ⟨q3, hq3, h⟩ := mz_bd_some h
    refine mz_Go.callV (I := IX12_isThere) (J := IX12_ahead) (as := []) (ci := 12) (g := 0) (o := 200) (idx := 151) (pl := 1745) (rest := []) (mX12_ahead D q3 hq3) kX12_ahead vX12_ahead (by decide +kernel) (by decide +kernel) (by decide +kernel) rfl rfl ⟨rfl, rfl⟩ rfl rfl rfl rfl ?_
    refine mz_Go.run (gs := []) (st' := (17, [some (.inr (.inr (some (0, 200)))), some (.inl x1)], [.inl (1 : Int32)], q3)) bX12_isThere_16 oX12_isThere_16 rfl trivial ?_
    cases h
    exact mz_Go.retz (by decide +kernel) rfl ⟨Nat.le_refl _, Nat.le_refl _⟩ (by decide) rfl
  · have h := mz_ifn hc2 h
    refine mz_Go.run (gs := []) (st' := (11, [some (.inr (.inr (some (0, 200)))), some (.inl x1)], [.inl (0 : Int32)], D)) bX12_isThere_10 oX12_isThere_10 rfl trivial ?_
    cases h
    exact mz_Go.retz (by decide +kernel) rfl ⟨Nat.le_refl _, Nat.le_refl _⟩ (by decide) rfl
def bX12_oldOne_0 : List mz_E := [(0, .aload_n 0, 0, 0, 0, 0, 0)]
theorem oX12_oldOne_0 : bX12_oldOne_0.all (mz_ok RX12 cX12_oldOne 4) = true := by decide +kernel
def bX12_oldOne_6 : List mz_E := [(6, .ifCond .ne 9, 0, 15, 0, 0, 0)]
theorem oX12_oldOne_6 : bX12_oldOne_6.all (mz_ok RX12 cX12_oldOne 4) = true := by decide +kernel
def bX12_oldOne_9 : List mz_E := [(9, .aload_n 0, 0, 0, 0, 0, 0), (10, .iconst 2, 0, 0, 0, 2, 0)]
theorem oX12_oldOne_9 : bX12_oldOne_9.all (mz_ok RX12 cX12_oldOne 4) = true := by decide +kernel
def bX12_oldOne_15 : List mz_E := [(15, .aload_n 0, 0, 0, 0, 0, 0), (16, .getfield 7, 12, 0, 1576, 0, 0), (19, .iload_n 3, 0, 0, 0, 0, 0), (20, .aload_n 0, 0, 0, 0, 0, 0), (21, .iload_n 1, 0, 0, 0, 0, 0), (22, .iload_n 2, 0, 0, 0, 0, 0)]
theorem oX12_oldOne_15 : bX12_oldOne_15.all (mz_ok RX12 cX12_oldOne 4) = true := by decide +kernel
def bX12_oldOne_26 : List mz_E := [(26, .iastore, 0, 0, 0, 0, 0), (27, .aload_n 0, 0, 0, 0, 0, 0), (28, .getfield 7, 12, 0, 1576, 0, 0), (31, .iload_n 3, 0, 0, 0, 0, 0), (32, .iaload, 0, 0, 0, 0, 0), (33, .iconst (-1), 0, 0, 0, -1, 0), (34, .if_icmp .ne 9, 0, 43, 0, 0, 0)]
theorem oX12_oldOne_26 : bX12_oldOne_26.all (mz_ok RX12 cX12_oldOne 4) = true := by decide +kernel
def bX12_oldOne_37 : List mz_E := [(37, .aload_n 0, 0, 0, 0, 0, 0), (38, .iconst 3, 0, 0, 0, 3, 0)]
theorem oX12_oldOne_37 : bX12_oldOne_37.all (mz_ok RX12 cX12_oldOne 4) = true := by decide +kernel
def bX12_oldOne_43 : List mz_E := [(43, .aload_n 0, 0, 0, 0, 0, 0)]
theorem oX12_oldOne_43 : bX12_oldOne_43.all (mz_ok RX12 cX12_oldOne 4) = true := by decide +kernel
def bX12_oldOne_47 : List mz_E := [(47, .iconst 1, 0, 0, 0, 1, 0)]
theorem oX12_oldOne_47 : bX12_oldOne_47.all (mz_ok RX12 cX12_oldOne 4) = true := by decide +kernel
abbrev IX12_oldOne : mz_I := (yX12_oldOne, cX12_oldOne, 4, (some .boolean), 0, 6, 0, 0)
theorem kX12_oldOne : mz_okm IX12_oldOne 1815 141 1814 3 = true := by decide +kernel
theorem vX12_oldOne : mz_okV IX12_oldOne 1814 65 = true := by decide +kernel
def fX12_oldOne (x1 : Int32) (x2 : Int32) (x3 : Int32) (D : mz_D) : Option (Int32 × mz_D) := (Option.bind (fX12_isName D) fun q1 => (if q1 = 0 then (Option.bind (fX12_fails (2 : Int32) D) fun q3 => (mz_gd (mz_bo q3.1) (some (q3.1, q3.2)))) else (Option.bind (fX12_findHere x1 x2 D) fun q5 => (mz_gd (mz_ix x3 3000) (if ((mz_wi D 0 201 (x3).toNatClampNeg q5).1 0 201 (x3).toNatClampNeg) = (-1 : Int32) then (Option.bind (fX12_fails (3 : Int32) (mz_wi D 0 201 (x3).toNatClampNeg q5)) fun q8 => (mz_gd (mz_bo q8.1) (some (q8.1, q8.2)))) else (Option.bind (fX12_ahead (mz_wi D 0 201 (x3).toNatClampNeg q5)) fun q10 => (some ((1 : Int32), q10))))))))
set_option maxHeartbeats 4000000 in
theorem mX12_oldOne (x1 : Int32) (x2 : Int32) (x3 : Int32) (D : mz_D) (r : (Int32 × mz_D)) (h : fX12_oldOne x1 x2 x3 D = some r) : mz_Met IX12_oldOne [.inr (.inr (some (0, 200))), .inl x1, .inl x2, .inl x3] D (some (.inl r.1), r.2) := by
  refine mz_Met.of (by decide +kernel) (Nat.le_of_ble_eq_true rfl) ?_
  show mz_Go IX12_oldOne (some (.inl r.1), r.2) 0 0 (0, [some (.inr (.inr (some (0, 200)))), some (.inl x1), some (.inl x2), some (.inl x3)], [], D)
  rw [fX12_oldOne] at h
  refine mz_Go.run (gs := []) (st' := (1, [some (.inr (.inr (some (0, 200)))), some (.inl x1), some (.inl x2), some (.inl x3)], [.inr (.inr (some (0, 200)))], D)) bX12_oldOne_0 oX12_oldOne_0 rfl trivial ?_
  refine mz_Go.ldcK rfl (by decide +kernel) ?_
  obtain ⟨q1, hq1, h⟩ := mz_bd_some h
  refine mz_Go.callV (I := IX12_oldOne) (J := IX12_isName) (as := [.inr (.inr (some (0, 401)))]) (ci := 12) (g := 0) (o := 200) (idx := 170) (pl := 1784) (rest := []) (mX12_isName D q1 hq1) kX12_isName vX12_isName (by decide +kernel) (by decide +kernel) (by decide +kernel) rfl rfl ⟨rfl, rfl⟩ rfl rfl rfl rfl ?_
  refine mz_Go.run (gs := []) (st' := (if q1 = 0 then (9, [some (.inr (.inr (some (0, 200)))), some (.inl x1), some (.inl x2), some (.inl x3)], [], D) else (15, [some (.inr (.inr (some (0, 200)))), some (.inl x1), some (.inl x2), some (.inl x3)], [], D))) bX12_oldOne_6 oX12_oldOne_6 rfl trivial ?_
  refine mz_Go.ite (fun hc2 => ?_) (fun hc2 => ?_)
  · have h := mz_ifp hc2 h
    refine mz_Go.run (gs := []) (st' := (11, [some (.inr (.inr (some (0, 200)))), some (.inl x1), some (.inl x2), some (.inl x3)], [.inl (2 : Int32), .inr (.inr (some (0, 200)))], D)) bX12_oldOne_9 oX12_oldOne_9 rfl trivial ?_
    obtain ⟨q3, hq3, h⟩ := mz_bd_some h
    refine mz_Go.callV (I := IX12_oldOne) (J := IX12_fails) (as := [.inl (2 : Int32)]) (ci := 12) (g := 0) (o := 200) (idx := 157) (pl := 1780) (rest := []) (mX12_fails (2 : Int32) D q3 hq3) kX12_fails vX12_fails (by decide +kernel) (by decide +kernel) (by decide +kernel) rfl rfl ⟨rfl, rfl⟩ rfl rfl rfl rfl ?_
    obtain ⟨hb4, h⟩ := mz_gd_some h
    cases h
    exact mz_Go.retz (by decide +kernel) rfl ⟨Nat.le_refl _, Nat.le_refl _⟩ hb4 rfl
  · have h := mz_ifn hc2 h
    refine mz_Go.run (gs := [mz_kz 0 0 200]) (st' := (23, [some (.inr (.inr (some (0, 200)))), some (.inl x1), some (.inl x2), some (.inl x3)], [.inl x2, .inl x1, .inr (.inr (some (0, 200))), .inl x3, .inr (.inr (some (0, 201)))], D)) bX12_oldOne_15 oX12_oldOne_15 rfl ⟨rfl, trivial⟩ ?_
    obtain ⟨q5, hq5, h⟩ := mz_bd_some h
    refine mz_Go.callV (I := IX12_oldOne) (J := IX12_findHere) (as := [.inl x1, .inl x2]) (ci := 12) (g := 0) (o := 200) (idx := 174) (pl := 1788) (rest := [.inl x3, .inr (.inr (some (0, 201)))]) (mX12_findHere x1 x2 D q5 hq5) kX12_findHere vX12_findHere (by decide +kernel) (by decide +kernel) (by decide +kernel) rfl rfl ⟨rfl, rfl⟩ rfl rfl rfl rfl ?_
    obtain ⟨hb6, h⟩ := mz_gd_some h
    refine mz_Go.run (gs := [mz_kz 0 0 201, mz_ix x3 3000, mz_kz 0 0 200, mz_kz 0 0 201, mz_ix x3 3000]) (st' := (if ((mz_wi D 0 201 (x3).toNatClampNeg q5).1 0 201 (x3).toNatClampNeg) = (-1 : Int32) then (37, [some (.inr (.inr (some (0, 200)))), some (.inl x1), some (.inl x2), some (.inl x3)], [], (mz_wi D 0 201 (x3).toNatClampNeg q5)) else (43, [some (.inr (.inr (some (0, 200)))), some (.inl x1), some (.inl x2), some (.inl x3)], [], (mz_wi D 0 201 (x3).toNatClampNeg q5)))) bX12_oldOne_26 oX12_oldOne_26 rfl ⟨rfl, hb6, rfl, rfl, hb6, trivial⟩ ?_
    refine mz_Go.ite (fun hc7 => ?_) (fun hc7 => ?_)
    · have h := mz_ifp hc7 h
      refine mz_Go.run (gs := []) (st' := (39, [some (.inr (.inr (some (0, 200)))), some (.inl x1), some (.inl x2), some (.inl x3)], [.inl (3 : Int32), .inr (.inr (some (0, 200)))], (mz_wi D 0 201 (x3).toNatClampNeg q5))) bX12_oldOne_37 oX12_oldOne_37 rfl trivial ?_
      obtain ⟨q8, hq8, h⟩ := mz_bd_some h
      refine mz_Go.callV (I := IX12_oldOne) (J := IX12_fails) (as := [.inl (3 : Int32)]) (ci := 12) (g := 0) (o := 200) (idx := 157) (pl := 1780) (rest := []) (mX12_fails (3 : Int32) (mz_wi D 0 201 (x3).toNatClampNeg q5) q8 hq8) kX12_fails vX12_fails (by decide +kernel) (by decide +kernel) (by decide +kernel) rfl rfl ⟨rfl, rfl⟩ rfl rfl rfl rfl ?_
      obtain ⟨hb9, h⟩ := mz_gd_some h
      cases h
      exact mz_Go.retz (by decide +kernel) rfl ⟨Nat.le_refl _, Nat.le_refl _⟩ hb9 rfl
    · have h := mz_ifn hc7 h
      refine mz_Go.run (gs := []) (st' := (44, [some (.inr (.inr (some (0, 200)))), some (.inl x1), some (.inl x2), some (.inl x3)], [.inr (.inr (some (0, 200)))], (mz_wi D 0 201 (x3).toNatClampNeg q5))) bX12_oldOne_43 oX12_oldOne_43 rfl trivial ?_
      obtain ⟨q10, hq10, h⟩ := mz_bd_some h
      refine mz_Go.callV (I := IX12_oldOne) (J := IX12_ahead) (as := []) (ci := 12) (g := 0) (o := 200) (idx := 151) (pl := 1745) (rest := []) (mX12_ahead (mz_wi D 0 201 (x3).toNatClampNeg q5) q10 hq10) kX12_ahead vX12_ahead (by decide +kernel) (by decide +kernel) (by decide +kernel) rfl rfl ⟨rfl, rfl⟩ rfl rfl rfl rfl ?_
      refine mz_Go.run (gs := []) (st' := (48, [some (.inr (.inr (some (0, 200)))), some (.inl x1), some (.inl x2), some (.inl x3)], [.inl (1 : Int32)], q10)) bX12_oldOne_47 oX12_oldOne_47 rfl trivial ?_
      cases h
      exact mz_Go.retz (by decide +kernel) rfl ⟨Nat.le_refl _, Nat.le_refl _⟩ (by decide) rfl
def bX12_otherOne_0 : List mz_E := [(0, .aload_n 0, 0, 0, 0, 0, 0)]
theorem oX12_otherOne_0 : bX12_otherOne_0.all (mz_ok RX12 cX12_otherOne 5) = true := by decide +kernel
def bX12_otherOne_6 : List mz_E := [(6, .ifCond .eq 24, 0, 30, 0, 0, 0)]
theorem oX12_otherOne_6 : bX12_otherOne_6.all (mz_ok RX12 cX12_otherOne 5) = true := by decide +kernel
def bX12_otherOne_30 : List mz_E := [(30, .aload_n 0, 0, 0, 0, 0, 0), (31, .iload_n 1, 0, 0, 0, 0, 0), (32, .iload_n 2, 0, 0, 0, 0, 0), (33, .iload 4, 0, 0, 0, 0, 0)]
theorem oX12_otherOne_30 : bX12_otherOne_30.all (mz_ok RX12 cX12_otherOne 5) = true := by decide +kernel
def bX12_otherOne_9 : List mz_E := [(9, .aload_n 0, 0, 0, 0, 0, 0), (10, .iload_n 1, 0, 0, 0, 0, 0), (11, .iload_n 2, 0, 0, 0, 0, 0)]
theorem oX12_otherOne_9 : bX12_otherOne_9.all (mz_ok RX12 cX12_otherOne 5) = true := by decide +kernel
def bX12_otherOne_15 : List mz_E := [(15, .aload_n 0, 0, 0, 0, 0, 0), (16, .getfield 7, 12, 0, 1576, 0, 0), (19, .iload_n 3, 0, 0, 0, 0, 0), (20, .iaload, 0, 0, 0, 0, 0), (21, .if_icmp .ne 9, 0, 30, 0, 0, 0)]
theorem oX12_otherOne_15 : bX12_otherOne_15.all (mz_ok RX12 cX12_otherOne 5) = true := by decide +kernel
def bX12_otherOne_24 : List mz_E := [(24, .aload_n 0, 0, 0, 0, 0, 0), (25, .iconst 5, 0, 0, 0, 5, 0)]
theorem oX12_otherOne_24 : bX12_otherOne_24.all (mz_ok RX12 cX12_otherOne 5) = true := by decide +kernel
abbrev IX12_otherOne : mz_I := (yX12_otherOne, cX12_otherOne, 5, (some .boolean), 0, 7, 0, 0)
theorem kX12_otherOne : mz_okm IX12_otherOne 1827 141 1826 4 = true := by decide +kernel
theorem vX12_otherOne : mz_okV IX12_otherOne 1826 68 = true := by decide +kernel
def fX12_otherOne_30 (x1 : Int32) (x2 : Int32) (x4 : Int32) (D : mz_D) : Option (Int32 × mz_D) := (Option.bind (fX12_oldOne x1 x2 x4 D) fun q1 => (mz_gd (mz_bo q1.1) (some (q1.1, q1.2))))
set_option maxHeartbeats 4000000 in
theorem tX12_otherOne_30 (r : (Int32 × mz_D)) : ∀ (x1 : Int32) (x2 : Int32) (x4 : Int32) (D : mz_D), fX12_otherOne_30 x1 x2 x4 D = some r → mz_Go IX12_otherOne (some (.inl r.1), r.2) 0 0 (30, [some (.inr (.inr (some (0, 200)))), some (.inl x1), some (.inl x2), none, some (.inl x4)], [], D) := by
  intro x1 x2 x4 D h
  rw [fX12_otherOne_30] at h
  refine mz_Go.run (gs := []) (st' := (35, [some (.inr (.inr (some (0, 200)))), some (.inl x1), some (.inl x2), none, some (.inl x4)], [.inl x4, .inl x2, .inl x1, .inr (.inr (some (0, 200)))], D)) bX12_otherOne_30 oX12_otherOne_30 rfl trivial ?_
  obtain ⟨q1, hq1, h⟩ := mz_bd_some h
  refine mz_Go.callV (I := IX12_otherOne) (J := IX12_oldOne) (as := [.inl x1, .inl x2, .inl x4]) (ci := 12) (g := 0) (o := 200) (idx := 177) (pl := 1812) (rest := []) (mX12_oldOne x1 x2 x4 D q1 hq1) kX12_oldOne vX12_oldOne (by decide +kernel) (by decide +kernel) (by decide +kernel) rfl rfl ⟨rfl, rfl⟩ rfl rfl rfl rfl ?_
  obtain ⟨hb2, h⟩ := mz_gd_some h
  cases h
  exact mz_Go.retz (by decide +kernel) rfl ⟨Nat.le_refl _, Nat.le_refl _⟩ hb2 rfl
def fX12_otherOne (x1 : Int32) (x2 : Int32) (x3 : Int32) (x4 : Int32) (D : mz_D) : Option (Int32 × mz_D) := (Option.bind (fX12_isName D) fun q1 => (if q1 = 0 then (fX12_otherOne_30 x1 x2 x4 D) else (Option.bind (fX12_findHere x1 x2 D) fun q3 => (mz_gd (mz_ix x3 3000) (if q3 = (D.1 0 201 (x3).toNatClampNeg) then (Option.bind (fX12_fails (5 : Int32) D) fun q6 => (mz_gd (mz_bo q6.1) (some (q6.1, q6.2)))) else (fX12_otherOne_30 x1 x2 x4 D))))))
set_option maxHeartbeats 4000000 in
theorem mX12_otherOne (x1 : Int32) (x2 : Int32) (x3 : Int32) (x4 : Int32) (D : mz_D) (r : (Int32 × mz_D)) (h : fX12_otherOne x1 x2 x3 x4 D = some r) : mz_Met IX12_otherOne [.inr (.inr (some (0, 200))), .inl x1, .inl x2, .inl x3, .inl x4] D (some (.inl r.1), r.2) := by
  refine mz_Met.of (by decide +kernel) (Nat.le_of_ble_eq_true rfl) ?_
  show mz_Go IX12_otherOne (some (.inl r.1), r.2) 0 0 (0, [some (.inr (.inr (some (0, 200)))), some (.inl x1), some (.inl x2), some (.inl x3), some (.inl x4)], [], D)
  rw [fX12_otherOne] at h
  refine mz_Go.run (gs := []) (st' := (1, [some (.inr (.inr (some (0, 200)))), some (.inl x1), some (.inl x2), some (.inl x3), some (.inl x4)], [.inr (.inr (some (0, 200)))], D)) bX12_otherOne_0 oX12_otherOne_0 rfl trivial ?_
  refine mz_Go.ldcK rfl (by decide +kernel) ?_
  obtain ⟨q1, hq1, h⟩ := mz_bd_some h
  refine mz_Go.callV (I := IX12_otherOne) (J := IX12_isName) (as := [.inr (.inr (some (0, 401)))]) (ci := 12) (g := 0) (o := 200) (idx := 170) (pl := 1784) (rest := []) (mX12_isName D q1 hq1) kX12_isName vX12_isName (by decide +kernel) (by decide +kernel) (by decide +kernel) rfl rfl ⟨rfl, rfl⟩ rfl rfl rfl rfl ?_
  refine mz_Go.run (gs := []) (st' := (if q1 = 0 then (30, [some (.inr (.inr (some (0, 200)))), some (.inl x1), some (.inl x2), some (.inl x3), some (.inl x4)], [], D) else (9, [some (.inr (.inr (some (0, 200)))), some (.inl x1), some (.inl x2), some (.inl x3), some (.inl x4)], [], D))) bX12_otherOne_6 oX12_otherOne_6 rfl trivial ?_
  refine mz_Go.ite (fun hc2 => ?_) (fun hc2 => ?_)
  · have h := mz_ifp hc2 h
    exact mz_Go.drop [true, true, true, false, true] (tX12_otherOne_30 r x1 x2 x4 D h)
  · have h := mz_ifn hc2 h
    refine mz_Go.run (gs := []) (st' := (12, [some (.inr (.inr (some (0, 200)))), some (.inl x1), some (.inl x2), some (.inl x3), some (.inl x4)], [.inl x2, .inl x1, .inr (.inr (some (0, 200)))], D)) bX12_otherOne_9 oX12_otherOne_9 rfl trivial ?_
    obtain ⟨q3, hq3, h⟩ := mz_bd_some h
    refine mz_Go.callV (I := IX12_otherOne) (J := IX12_findHere) (as := [.inl x1, .inl x2]) (ci := 12) (g := 0) (o := 200) (idx := 174) (pl := 1788) (rest := []) (mX12_findHere x1 x2 D q3 hq3) kX12_findHere vX12_findHere (by decide +kernel) (by decide +kernel) (by decide +kernel) rfl rfl ⟨rfl, rfl⟩ rfl rfl rfl rfl ?_
    obtain ⟨hb4, h⟩ := mz_gd_some h
    refine mz_Go.run (gs := [mz_kz 0 0 200, mz_kz 0 0 201, mz_ix x3 3000]) (st' := (if q3 = (D.1 0 201 (x3).toNatClampNeg) then (24, [some (.inr (.inr (some (0, 200)))), some (.inl x1), some (.inl x2), some (.inl x3), some (.inl x4)], [], D) else (30, [some (.inr (.inr (some (0, 200)))), some (.inl x1), some (.inl x2), some (.inl x3), some (.inl x4)], [], D))) bX12_otherOne_15 oX12_otherOne_15 rfl ⟨rfl, rfl, hb4, trivial⟩ ?_
    refine mz_Go.ite (fun hc5 => ?_) (fun hc5 => ?_)
    · have h := mz_ifp hc5 h
      refine mz_Go.run (gs := []) (st' := (26, [some (.inr (.inr (some (0, 200)))), some (.inl x1), some (.inl x2), some (.inl x3), some (.inl x4)], [.inl (5 : Int32), .inr (.inr (some (0, 200)))], D)) bX12_otherOne_24 oX12_otherOne_24 rfl trivial ?_
      obtain ⟨q6, hq6, h⟩ := mz_bd_some h
      refine mz_Go.callV (I := IX12_otherOne) (J := IX12_fails) (as := [.inl (5 : Int32)]) (ci := 12) (g := 0) (o := 200) (idx := 157) (pl := 1780) (rest := []) (mX12_fails (5 : Int32) D q6 hq6) kX12_fails vX12_fails (by decide +kernel) (by decide +kernel) (by decide +kernel) rfl rfl ⟨rfl, rfl⟩ rfl rfl rfl rfl ?_
      obtain ⟨hb7, h⟩ := mz_gd_some h
      cases h
      exact mz_Go.retz (by decide +kernel) rfl ⟨Nat.le_refl _, Nat.le_refl _⟩ hb7 rfl
    · have h := mz_ifn hc5 h
      exact mz_Go.drop [true, true, true, false, true] (tX12_otherOne_30 r x1 x2 x4 D h)
def bX12_aPerson_0 : List mz_E := [(0, .aload_n 0, 0, 0, 0, 0, 0), (1, .getfield 7, 12, 0, 1576, 0, 0), (4, .sipush 2000, 0, 0, 0, 2000, 0), (7, .iaload, 0, 0, 0, 0, 0), (8, .istore_n 1, 0, 0, 0, 0, 0), (9, .sipush 2012, 0, 0, 0, 2012, 0), (12, .bipush 8, 0, 0, 0, 8, 0), (14, .iload_n 1, 0, 0, 0, 0, 0), (15, .imul, 0, 0, 0, 0, 0), (16, .iadd, 0, 0, 0, 0, 0), (17, .istore_n 2, 0, 0, 0, 0, 0), (18, .iload_n 1, 0, 0, 0, 0, 0), (19, .bipush 6, 0, 0, 0, 6, 0), (21, .if_icmp .ne 10, 0, 31, 0, 0, 0)]
theorem oX12_aPerson_0 : bX12_aPerson_0.all (mz_ok RX12 cX12_aPerson 3) = true := by decide +kernel
def bX12_aPerson_24 : List mz_E := [(24, .aload_n 0, 0, 0, 0, 0, 0), (25, .bipush 6, 0, 0, 0, 6, 0)]
theorem oX12_aPerson_24 : bX12_aPerson_24.all (mz_ok RX12 cX12_aPerson 3) = true := by decide +kernel
def bX12_aPerson_31 : List mz_E := [(31, .aload_n 0, 0, 0, 0, 0, 0)]
theorem oX12_aPerson_31 : bX12_aPerson_31.all (mz_ok RX12 cX12_aPerson 3) = true := by decide +kernel
def bX12_aPerson_35 : List mz_E := [(35, .aload_n 0, 0, 0, 0, 0, 0)]
theorem oX12_aPerson_35 : bX12_aPerson_35.all (mz_ok RX12 cX12_aPerson 3) = true := by decide +kernel
def bX12_aPerson_41 : List mz_E := [(41, .ifCond .ne 9, 0, 50, 0, 0, 0)]
theorem oX12_aPerson_41 : bX12_aPerson_41.all (mz_ok RX12 cX12_aPerson 3) = true := by decide +kernel
def bX12_aPerson_44 : List mz_E := [(44, .aload_n 0, 0, 0, 0, 0, 0), (45, .iconst 2, 0, 0, 0, 2, 0)]
theorem oX12_aPerson_44 : bX12_aPerson_44.all (mz_ok RX12 cX12_aPerson 3) = true := by decide +kernel
def bX12_aPerson_50 : List mz_E := [(50, .aload_n 0, 0, 0, 0, 0, 0), (51, .bipush 24, 0, 0, 0, 24, 0), (53, .iload_n 1, 0, 0, 0, 0, 0)]
theorem oX12_aPerson_50 : bX12_aPerson_50.all (mz_ok RX12 cX12_aPerson 3) = true := by decide +kernel
def bX12_aPerson_57 : List mz_E := [(57, .iconst (-1), 0, 0, 0, -1, 0), (58, .if_icmp .eq 9, 0, 67, 0, 0, 0)]
theorem oX12_aPerson_57 : bX12_aPerson_57.all (mz_ok RX12 cX12_aPerson 3) = true := by decide +kernel
def bX12_aPerson_67 : List mz_E := [(67, .aload_n 0, 0, 0, 0, 0, 0), (68, .getfield 13, 12, 1, 1577, 0, 0), (71, .bipush 24, 0, 0, 0, 24, 0), (73, .iload_n 1, 0, 0, 0, 0, 0), (74, .iadd, 0, 0, 0, 0, 0), (75, .aload_n 0, 0, 0, 0, 0, 0)]
theorem oX12_aPerson_67 : bX12_aPerson_67.all (mz_ok RX12 cX12_aPerson 3) = true := by decide +kernel
def bX12_aPerson_79 : List mz_E := [(79, .lastore, 0, 0, 0, 0, 0), (80, .aload_n 0, 0, 0, 0, 0, 0)]
theorem oX12_aPerson_79 : bX12_aPerson_79.all (mz_ok RX12 cX12_aPerson 3) = true := by decide +kernel
def bX12_aPerson_84 : List mz_E := [(84, .aload_n 0, 0, 0, 0, 0, 0), (85, .getfield 7, 12, 0, 1576, 0, 0), (88, .iload_n 2, 0, 0, 0, 0, 0), (89, .iconst 1, 0, 0, 0, 1, 0), (90, .iadd, 0, 0, 0, 0, 0), (91, .iconst 1, 0, 0, 0, 1, 0), (92, .iastore, 0, 0, 0, 0, 0), (93, .aload_n 0, 0, 0, 0, 0, 0), (94, .getfield 7, 12, 0, 1576, 0, 0), (97, .iload_n 2, 0, 0, 0, 0, 0), (98, .iconst 3, 0, 0, 0, 3, 0), (99, .iadd, 0, 0, 0, 0, 0), (100, .sipush 999, 0, 0, 0, 999, 0), (103, .iastore, 0, 0, 0, 0, 0), (104, .aload_n 0, 0, 0, 0, 0, 0), (105, .getfield 7, 12, 0, 1576, 0, 0), (108, .iload_n 2, 0, 0, 0, 0, 0), (109, .iconst 4, 0, 0, 0, 4, 0), (110, .iadd, 0, 0, 0, 0, 0), (111, .iconst (-1), 0, 0, 0, -1, 0), (112, .iastore, 0, 0, 0, 0, 0), (113, .aload_n 0, 0, 0, 0, 0, 0), (114, .bipush 6, 0, 0, 0, 6, 0)]
theorem oX12_aPerson_84 : bX12_aPerson_84.all (mz_ok RX12 cX12_aPerson 3) = true := by decide +kernel
def bX12_aPerson_119 : List mz_E := [(119, .ifCond .eq 14, 0, 133, 0, 0, 0)]
theorem oX12_aPerson_119 : bX12_aPerson_119.all (mz_ok RX12 cX12_aPerson 3) = true := by decide +kernel
def bX12_aPerson_133 : List mz_E := [(133, .aload_n 0, 0, 0, 0, 0, 0), (134, .bipush 7, 0, 0, 0, 7, 0)]
theorem oX12_aPerson_133 : bX12_aPerson_133.all (mz_ok RX12 cX12_aPerson 3) = true := by decide +kernel
def bX12_aPerson_139 : List mz_E := [(139, .ifCond .eq 16, 0, 155, 0, 0, 0)]
theorem oX12_aPerson_139 : bX12_aPerson_139.all (mz_ok RX12 cX12_aPerson 3) = true := by decide +kernel
def bX12_aPerson_155 : List mz_E := [(155, .aload_n 0, 0, 0, 0, 0, 0), (156, .bipush 8, 0, 0, 0, 8, 0)]
theorem oX12_aPerson_155 : bX12_aPerson_155.all (mz_ok RX12 cX12_aPerson 3) = true := by decide +kernel
def bX12_aPerson_161 : List mz_E := [(161, .ifCond .eq 16, 0, 177, 0, 0, 0)]
theorem oX12_aPerson_161 : bX12_aPerson_161.all (mz_ok RX12 cX12_aPerson 3) = true := by decide +kernel
def bX12_aPerson_177 : List mz_E := [(177, .aload_n 0, 0, 0, 0, 0, 0), (178, .bipush 9, 0, 0, 0, 9, 0)]
theorem oX12_aPerson_177 : bX12_aPerson_177.all (mz_ok RX12 cX12_aPerson 3) = true := by decide +kernel
def bX12_aPerson_183 : List mz_E := [(183, .ifCond .eq 19, 0, 202, 0, 0, 0)]
theorem oX12_aPerson_183 : bX12_aPerson_183.all (mz_ok RX12 cX12_aPerson 3) = true := by decide +kernel
def bX12_aPerson_202 : List mz_E := [(202, .aload_n 0, 0, 0, 0, 0, 0), (203, .bipush 10, 0, 0, 0, 10, 0)]
theorem oX12_aPerson_202 : bX12_aPerson_202.all (mz_ok RX12 cX12_aPerson 3) = true := by decide +kernel
def bX12_aPerson_208 : List mz_E := [(208, .ifCond .eq 17, 0, 225, 0, 0, 0)]
theorem oX12_aPerson_208 : bX12_aPerson_208.all (mz_ok RX12 cX12_aPerson 3) = true := by decide +kernel
def bX12_aPerson_225 : List mz_E := [(225, .aload_n 0, 0, 0, 0, 0, 0), (226, .getfield 7, 12, 0, 1576, 0, 0), (229, .sipush 2008, 0, 0, 0, 2008, 0), (232, .dup2, 0, 0, 0, 0, 0), (233, .iaload, 0, 0, 0, 0, 0), (234, .iconst 1, 0, 0, 0, 1, 0), (235, .iload_n 1, 0, 0, 0, 0, 0), (236, .ishl, 0, 0, 0, 0, 0), (237, .ior, 0, 0, 0, 0, 0), (238, .iastore, 0, 0, 0, 0, 0), (239, .aload_n 0, 0, 0, 0, 0, 0), (240, .getfield 7, 12, 0, 1576, 0, 0), (243, .sipush 2000, 0, 0, 0, 2000, 0), (246, .dup2, 0, 0, 0, 0, 0), (247, .iaload, 0, 0, 0, 0, 0), (248, .iconst 1, 0, 0, 0, 1, 0), (249, .iadd, 0, 0, 0, 0, 0), (250, .iastore, 0, 0, 0, 0, 0), (251, .iconst 1, 0, 0, 0, 1, 0)]
theorem oX12_aPerson_225 : bX12_aPerson_225.all (mz_ok RX12 cX12_aPerson 3) = true := by decide +kernel
def bX12_aPerson_211 : List mz_E := [(211, .aload_n 0, 0, 0, 0, 0, 0), (212, .getfield 7, 12, 0, 1576, 0, 0), (215, .sipush 2007, 0, 0, 0, 2007, 0), (218, .dup2, 0, 0, 0, 0, 0), (219, .iaload, 0, 0, 0, 0, 0), (220, .iconst 1, 0, 0, 0, 1, 0), (221, .iload_n 1, 0, 0, 0, 0, 0), (222, .ishl, 0, 0, 0, 0, 0), (223, .ior, 0, 0, 0, 0, 0), (224, .iastore, 0, 0, 0, 0, 0)]
theorem oX12_aPerson_211 : bX12_aPerson_211.all (mz_ok RX12 cX12_aPerson 3) = true := by decide +kernel
def bX12_aPerson_186 : List mz_E := [(186, .aload_n 0, 0, 0, 0, 0, 0), (187, .iload_n 2, 0, 0, 0, 0, 0), (188, .iconst 3, 0, 0, 0, 3, 0), (189, .iadd, 0, 0, 0, 0, 0), (190, .iconst 0, 0, 0, 0, 0, 0), (191, .sipush 999, 0, 0, 0, 999, 0)]
theorem oX12_aPerson_186 : bX12_aPerson_186.all (mz_ok RX12 cX12_aPerson 3) = true := by decide +kernel
def bX12_aPerson_197 : List mz_E := [(197, .ifCond .ne 5, 0, 202, 0, 0, 0)]
theorem oX12_aPerson_197 : bX12_aPerson_197.all (mz_ok RX12 cX12_aPerson 3) = true := by decide +kernel
def bX12_aPerson_200 : List mz_E := [(200, .iconst 0, 0, 0, 0, 0, 0)]
theorem oX12_aPerson_200 : bX12_aPerson_200.all (mz_ok RX12 cX12_aPerson 3) = true := by decide +kernel
def bX12_aPerson_164 : List mz_E := [(164, .aload_n 0, 0, 0, 0, 0, 0), (165, .iload_n 2, 0, 0, 0, 0, 0), (166, .iconst 2, 0, 0, 0, 2, 0), (167, .iadd, 0, 0, 0, 0, 0), (168, .iconst 0, 0, 0, 0, 0, 0), (169, .bipush 99, 0, 0, 0, 99, 0)]
theorem oX12_aPerson_164 : bX12_aPerson_164.all (mz_ok RX12 cX12_aPerson 3) = true := by decide +kernel
def bX12_aPerson_174 : List mz_E := [(174, .ifCond .eq 26, 0, 200, 0, 0, 0)]
theorem oX12_aPerson_174 : bX12_aPerson_174.all (mz_ok RX12 cX12_aPerson 3) = true := by decide +kernel
def bX12_aPerson_142 : List mz_E := [(142, .aload_n 0, 0, 0, 0, 0, 0), (143, .iload_n 2, 0, 0, 0, 0, 0), (144, .iconst 1, 0, 0, 0, 1, 0), (145, .iadd, 0, 0, 0, 0, 0), (146, .iconst 0, 0, 0, 0, 0, 0), (147, .bipush 20, 0, 0, 0, 20, 0)]
theorem oX12_aPerson_142 : bX12_aPerson_142.all (mz_ok RX12 cX12_aPerson 3) = true := by decide +kernel
def bX12_aPerson_152 : List mz_E := [(152, .ifCond .eq 48, 0, 200, 0, 0, 0)]
theorem oX12_aPerson_152 : bX12_aPerson_152.all (mz_ok RX12 cX12_aPerson 3) = true := by decide +kernel
def bX12_aPerson_122 : List mz_E := [(122, .aload_n 0, 0, 0, 0, 0, 0), (123, .iload_n 2, 0, 0, 0, 0, 0), (124, .iconst 0, 0, 0, 0, 0, 0), (125, .bipush 16, 0, 0, 0, 16, 0)]
theorem oX12_aPerson_122 : bX12_aPerson_122.all (mz_ok RX12 cX12_aPerson 3) = true := by decide +kernel
def bX12_aPerson_130 : List mz_E := [(130, .ifCond .eq 70, 0, 200, 0, 0, 0)]
theorem oX12_aPerson_130 : bX12_aPerson_130.all (mz_ok RX12 cX12_aPerson 3) = true := by decide +kernel
def bX12_aPerson_61 : List mz_E := [(61, .aload_n 0, 0, 0, 0, 0, 0), (62, .iconst 3, 0, 0, 0, 3, 0)]
theorem oX12_aPerson_61 : bX12_aPerson_61.all (mz_ok RX12 cX12_aPerson 3) = true := by decide +kernel
abbrev IX12_aPerson : mz_I := (yX12_aPerson, cX12_aPerson, 3, (some .boolean), 0, 6, 0, 0)
theorem kX12_aPerson : mz_okm IX12_aPerson 1779 141 1778 0 = true := by decide +kernel
theorem vX12_aPerson : mz_okV IX12_aPerson 1778 56 = true := by decide +kernel
def fX12_aPerson_225 (x1 : Int32) (D : mz_D) : Option (Int32 × mz_D) := (some ((1 : Int32), (mz_wi (mz_wi D 0 201 ((2008 : Int32)).toNatClampNeg ((D.1 0 201 ((2008 : Int32)).toNatClampNeg) ||| ((1 : Int32) <<< (x1 &&& 31)))) 0 201 ((2000 : Int32)).toNatClampNeg (((mz_wi D 0 201 ((2008 : Int32)).toNatClampNeg ((D.1 0 201 ((2008 : Int32)).toNatClampNeg) ||| ((1 : Int32) <<< (x1 &&& 31)))).1 0 201 ((2000 : Int32)).toNatClampNeg) + (1 : Int32)))))
set_option maxHeartbeats 4000000 in
theorem tX12_aPerson_225 (r : (Int32 × mz_D)) : ∀ (x1 : Int32) (D : mz_D), fX12_aPerson_225 x1 D = some r → mz_Go IX12_aPerson (some (.inl r.1), r.2) 0 0 (225, [some (.inr (.inr (some (0, 200)))), some (.inl x1), none], [], D) := by
  intro x1 D h
  rw [fX12_aPerson_225] at h
  refine mz_Go.run (gs := [mz_kz 0 0 200, mz_kz 0 0 201, mz_ix (2008 : Int32) 3000, mz_kz 0 0 201, mz_ix (2008 : Int32) 3000, mz_kz 0 0 200, mz_kz 0 0 201, mz_ix (2000 : Int32) 3000, mz_kz 0 0 201, mz_ix (2000 : Int32) 3000]) (st' := (252, [some (.inr (.inr (some (0, 200)))), some (.inl x1), none], [.inl (1 : Int32)], (mz_wi (mz_wi D 0 201 ((2008 : Int32)).toNatClampNeg ((D.1 0 201 ((2008 : Int32)).toNatClampNeg) ||| ((1 : Int32) <<< (x1 &&& 31)))) 0 201 ((2000 : Int32)).toNatClampNeg (((mz_wi D 0 201 ((2008 : Int32)).toNatClampNeg ((D.1 0 201 ((2008 : Int32)).toNatClampNeg) ||| ((1 : Int32) <<< (x1 &&& 31)))).1 0 201 ((2000 : Int32)).toNatClampNeg) + (1 : Int32))))) bX12_aPerson_225 oX12_aPerson_225 rfl ⟨rfl, rfl, (by decide), rfl, (by decide), rfl, rfl, (by decide), rfl, (by decide), trivial⟩ ?_
  cases h
  exact mz_Go.retz (by decide +kernel) rfl ⟨Nat.le_refl _, Nat.le_refl _⟩ (by decide) rfl
def fX12_aPerson_202 (x1 : Int32) (D : mz_D) : Option (Int32 × mz_D) := (Option.bind (fX12_isThere (10 : Int32) D) fun q1 => (if q1.1 = 0 then (fX12_aPerson_225 x1 q1.2) else (fX12_aPerson_225 x1 (mz_wi q1.2 0 201 ((2007 : Int32)).toNatClampNeg ((q1.2.1 0 201 ((2007 : Int32)).toNatClampNeg) ||| ((1 : Int32) <<< (x1 &&& 31)))))))
set_option maxHeartbeats 4000000 in
theorem tX12_aPerson_202 (r : (Int32 × mz_D)) : ∀ (x1 : Int32) (D : mz_D), fX12_aPerson_202 x1 D = some r → mz_Go IX12_aPerson (some (.inl r.1), r.2) 0 0 (202, [some (.inr (.inr (some (0, 200)))), some (.inl x1), none], [], D) := by
  intro x1 D h
  rw [fX12_aPerson_202] at h
  refine mz_Go.run (gs := []) (st' := (205, [some (.inr (.inr (some (0, 200)))), some (.inl x1), none], [.inl (10 : Int32), .inr (.inr (some (0, 200)))], D)) bX12_aPerson_202 oX12_aPerson_202 rfl trivial ?_
  obtain ⟨q1, hq1, h⟩ := mz_bd_some h
  refine mz_Go.callV (I := IX12_aPerson) (J := IX12_isThere) (as := [.inl (10 : Int32)]) (ci := 12) (g := 0) (o := 200) (idx := 181) (pl := 1796) (rest := []) (mX12_isThere (10 : Int32) D q1 hq1) kX12_isThere vX12_isThere (by decide +kernel) (by decide +kernel) (by decide +kernel) rfl rfl ⟨rfl, rfl⟩ rfl rfl rfl rfl ?_
  refine mz_Go.run (gs := []) (st' := (if q1.1 = 0 then (225, [some (.inr (.inr (some (0, 200)))), some (.inl x1), none], [], q1.2) else (211, [some (.inr (.inr (some (0, 200)))), some (.inl x1), none], [], q1.2))) bX12_aPerson_208 oX12_aPerson_208 rfl trivial ?_
  refine mz_Go.ite (fun hc2 => ?_) (fun hc2 => ?_)
  · have h := mz_ifp hc2 h
    exact mz_Go.drop [true, true, false] (tX12_aPerson_225 r x1 q1.2 h)
  · have h := mz_ifn hc2 h
    refine mz_Go.run (gs := [mz_kz 0 0 200, mz_kz 0 0 201, mz_ix (2007 : Int32) 3000, mz_kz 0 0 201, mz_ix (2007 : Int32) 3000]) (st' := (225, [some (.inr (.inr (some (0, 200)))), some (.inl x1), none], [], (mz_wi q1.2 0 201 ((2007 : Int32)).toNatClampNeg ((q1.2.1 0 201 ((2007 : Int32)).toNatClampNeg) ||| ((1 : Int32) <<< (x1 &&& 31)))))) bX12_aPerson_211 oX12_aPerson_211 rfl ⟨rfl, rfl, (by decide), rfl, (by decide), trivial⟩ ?_
    exact mz_Go.drop [true, true, false] (tX12_aPerson_225 r x1 (mz_wi q1.2 0 201 ((2007 : Int32)).toNatClampNeg ((q1.2.1 0 201 ((2007 : Int32)).toNatClampNeg) ||| ((1 : Int32) <<< (x1 &&& 31)))) h)
def fX12_aPerson_177 (x1 : Int32) (x2 : Int32) (D : mz_D) : Option (Int32 × mz_D) := (Option.bind (fX12_isThere (9 : Int32) D) fun q1 => (if q1.1 = 0 then (fX12_aPerson_202 x1 q1.2) else (Option.bind (fX12_number (x2 + (3 : Int32)) (0 : Int32) (999 : Int32) q1.2) fun q3 => (if q3.1 = 0 then (some ((0 : Int32), q3.2)) else (fX12_aPerson_202 x1 q3.2)))))
set_option maxHeartbeats 4000000 in
theorem tX12_aPerson_177 (r : (Int32 × mz_D)) : ∀ (x1 : Int32) (x2 : Int32) (D : mz_D), fX12_aPerson_177 x1 x2 D = some r → mz_Go IX12_aPerson (some (.inl r.1), r.2) 0 0 (177, [some (.inr (.inr (some (0, 200)))), some (.inl x1), some (.inl x2)], [], D) := by
  intro x1 x2 D h
  rw [fX12_aPerson_177] at h
  refine mz_Go.run (gs := []) (st' := (180, [some (.inr (.inr (some (0, 200)))), some (.inl x1), some (.inl x2)], [.inl (9 : Int32), .inr (.inr (some (0, 200)))], D)) bX12_aPerson_177 oX12_aPerson_177 rfl trivial ?_
  obtain ⟨q1, hq1, h⟩ := mz_bd_some h
  refine mz_Go.callV (I := IX12_aPerson) (J := IX12_isThere) (as := [.inl (9 : Int32)]) (ci := 12) (g := 0) (o := 200) (idx := 181) (pl := 1796) (rest := []) (mX12_isThere (9 : Int32) D q1 hq1) kX12_isThere vX12_isThere (by decide +kernel) (by decide +kernel) (by decide +kernel) rfl rfl ⟨rfl, rfl⟩ rfl rfl rfl rfl ?_
  refine mz_Go.run (gs := []) (st' := (if q1.1 = 0 then (202, [some (.inr (.inr (some (0, 200)))), some (.inl x1), some (.inl x2)], [], q1.2) else (186, [some (.inr (.inr (some (0, 200)))), some (.inl x1), some (.inl x2)], [], q1.2))) bX12_aPerson_183 oX12_aPerson_183 rfl trivial ?_
  refine mz_Go.ite (fun hc2 => ?_) (fun hc2 => ?_)
  · have h := mz_ifp hc2 h
    exact mz_Go.drop [true, true, false] (tX12_aPerson_202 r x1 q1.2 h)
  · have h := mz_ifn hc2 h
    refine mz_Go.run (gs := []) (st' := (194, [some (.inr (.inr (some (0, 200)))), some (.inl x1), some (.inl x2)], [.inl (999 : Int32), .inl (0 : Int32), .inl (x2 + (3 : Int32)), .inr (.inr (some (0, 200)))], q1.2)) bX12_aPerson_186 oX12_aPerson_186 rfl trivial ?_
    obtain ⟨q3, hq3, h⟩ := mz_bd_some h
    refine mz_Go.callV (I := IX12_aPerson) (J := IX12_number) (as := [.inl (x2 + (3 : Int32)), .inl (0 : Int32), .inl (999 : Int32)]) (ci := 12) (g := 0) (o := 200) (idx := 184) (pl := 1800) (rest := []) (mX12_number (x2 + (3 : Int32)) (0 : Int32) (999 : Int32) q1.2 q3 hq3) kX12_number vX12_number (by decide +kernel) (by decide +kernel) (by decide +kernel) rfl rfl ⟨rfl, rfl⟩ rfl rfl rfl rfl ?_
    refine mz_Go.run (gs := []) (st' := (if q3.1 = 0 then (200, [some (.inr (.inr (some (0, 200)))), some (.inl x1), some (.inl x2)], [], q3.2) else (202, [some (.inr (.inr (some (0, 200)))), some (.inl x1), some (.inl x2)], [], q3.2))) bX12_aPerson_197 oX12_aPerson_197 rfl trivial ?_
    refine mz_Go.ite (fun hc4 => ?_) (fun hc4 => ?_)
    · have h := mz_ifp hc4 h
      refine mz_Go.run (gs := []) (st' := (201, [some (.inr (.inr (some (0, 200)))), some (.inl x1), some (.inl x2)], [.inl (0 : Int32)], q3.2)) bX12_aPerson_200 oX12_aPerson_200 rfl trivial ?_
      cases h
      exact mz_Go.retz (by decide +kernel) rfl ⟨Nat.le_refl _, Nat.le_refl _⟩ (by decide) rfl
    · have h := mz_ifn hc4 h
      exact mz_Go.drop [true, true, false] (tX12_aPerson_202 r x1 q3.2 h)
def fX12_aPerson_155 (x1 : Int32) (x2 : Int32) (D : mz_D) : Option (Int32 × mz_D) := (Option.bind (fX12_isThere (8 : Int32) D) fun q1 => (if q1.1 = 0 then (fX12_aPerson_177 x1 x2 q1.2) else (Option.bind (fX12_number (x2 + (2 : Int32)) (0 : Int32) (99 : Int32) q1.2) fun q3 => (if q3.1 = 0 then (some ((0 : Int32), q3.2)) else (fX12_aPerson_177 x1 x2 q3.2)))))
set_option maxHeartbeats 4000000 in
theorem tX12_aPerson_155 (r : (Int32 × mz_D)) : ∀ (x1 : Int32) (x2 : Int32) (D : mz_D), fX12_aPerson_155 x1 x2 D = some r → mz_Go IX12_aPerson (some (.inl r.1), r.2) 0 0 (155, [some (.inr (.inr (some (0, 200)))), some (.inl x1), some (.inl x2)], [], D) := by
  intro x1 x2 D h
  rw [fX12_aPerson_155] at h
  refine mz_Go.run (gs := []) (st' := (158, [some (.inr (.inr (some (0, 200)))), some (.inl x1), some (.inl x2)], [.inl (8 : Int32), .inr (.inr (some (0, 200)))], D)) bX12_aPerson_155 oX12_aPerson_155 rfl trivial ?_
  obtain ⟨q1, hq1, h⟩ := mz_bd_some h
  refine mz_Go.callV (I := IX12_aPerson) (J := IX12_isThere) (as := [.inl (8 : Int32)]) (ci := 12) (g := 0) (o := 200) (idx := 181) (pl := 1796) (rest := []) (mX12_isThere (8 : Int32) D q1 hq1) kX12_isThere vX12_isThere (by decide +kernel) (by decide +kernel) (by decide +kernel) rfl rfl ⟨rfl, rfl⟩ rfl rfl rfl rfl ?_
  refine mz_Go.run (gs := []) (st' := (if q1.1 = 0 then (177, [some (.inr (.inr (some (0, 200)))), some (.inl x1), some (.inl x2)], [], q1.2) else (164, [some (.inr (.inr (some (0, 200)))), some (.inl x1), some (.inl x2)], [], q1.2))) bX12_aPerson_161 oX12_aPerson_161 rfl trivial ?_
  refine mz_Go.ite (fun hc2 => ?_) (fun hc2 => ?_)
  · have h := mz_ifp hc2 h
    exact mz_Go.drop [true, true, true] (tX12_aPerson_177 r x1 x2 q1.2 h)
  · have h := mz_ifn hc2 h
    refine mz_Go.run (gs := []) (st' := (171, [some (.inr (.inr (some (0, 200)))), some (.inl x1), some (.inl x2)], [.inl (99 : Int32), .inl (0 : Int32), .inl (x2 + (2 : Int32)), .inr (.inr (some (0, 200)))], q1.2)) bX12_aPerson_164 oX12_aPerson_164 rfl trivial ?_
    obtain ⟨q3, hq3, h⟩ := mz_bd_some h
    refine mz_Go.callV (I := IX12_aPerson) (J := IX12_number) (as := [.inl (x2 + (2 : Int32)), .inl (0 : Int32), .inl (99 : Int32)]) (ci := 12) (g := 0) (o := 200) (idx := 184) (pl := 1800) (rest := []) (mX12_number (x2 + (2 : Int32)) (0 : Int32) (99 : Int32) q1.2 q3 hq3) kX12_number vX12_number (by decide +kernel) (by decide +kernel) (by decide +kernel) rfl rfl ⟨rfl, rfl⟩ rfl rfl rfl rfl ?_
    refine mz_Go.run (gs := []) (st' := (if q3.1 = 0 then (200, [some (.inr (.inr (some (0, 200)))), some (.inl x1), some (.inl x2)], [], q3.2) else (177, [some (.inr (.inr (some (0, 200)))), some (.inl x1), some (.inl x2)], [], q3.2))) bX12_aPerson_174 oX12_aPerson_174 rfl trivial ?_
    refine mz_Go.ite (fun hc4 => ?_) (fun hc4 => ?_)
    · have h := mz_ifp hc4 h
      refine mz_Go.run (gs := []) (st' := (201, [some (.inr (.inr (some (0, 200)))), some (.inl x1), some (.inl x2)], [.inl (0 : Int32)], q3.2)) bX12_aPerson_200 oX12_aPerson_200 rfl trivial ?_
      cases h
      exact mz_Go.retz (by decide +kernel) rfl ⟨Nat.le_refl _, Nat.le_refl _⟩ (by decide) rfl
    · have h := mz_ifn hc4 h
      exact mz_Go.drop [true, true, true] (tX12_aPerson_177 r x1 x2 q3.2 h)
def fX12_aPerson_133 (x1 : Int32) (x2 : Int32) (D : mz_D) : Option (Int32 × mz_D) := (Option.bind (fX12_isThere (7 : Int32) D) fun q1 => (if q1.1 = 0 then (fX12_aPerson_155 x1 x2 q1.2) else (Option.bind (fX12_number (x2 + (1 : Int32)) (0 : Int32) (20 : Int32) q1.2) fun q3 => (if q3.1 = 0 then (some ((0 : Int32), q3.2)) else (fX12_aPerson_155 x1 x2 q3.2)))))
set_option maxHeartbeats 4000000 in
theorem tX12_aPerson_133 (r : (Int32 × mz_D)) : ∀ (x1 : Int32) (x2 : Int32) (D : mz_D), fX12_aPerson_133 x1 x2 D = some r → mz_Go IX12_aPerson (some (.inl r.1), r.2) 0 0 (133, [some (.inr (.inr (some (0, 200)))), some (.inl x1), some (.inl x2)], [], D) := by
  intro x1 x2 D h
  rw [fX12_aPerson_133] at h
  refine mz_Go.run (gs := []) (st' := (136, [some (.inr (.inr (some (0, 200)))), some (.inl x1), some (.inl x2)], [.inl (7 : Int32), .inr (.inr (some (0, 200)))], D)) bX12_aPerson_133 oX12_aPerson_133 rfl trivial ?_
  obtain ⟨q1, hq1, h⟩ := mz_bd_some h
  refine mz_Go.callV (I := IX12_aPerson) (J := IX12_isThere) (as := [.inl (7 : Int32)]) (ci := 12) (g := 0) (o := 200) (idx := 181) (pl := 1796) (rest := []) (mX12_isThere (7 : Int32) D q1 hq1) kX12_isThere vX12_isThere (by decide +kernel) (by decide +kernel) (by decide +kernel) rfl rfl ⟨rfl, rfl⟩ rfl rfl rfl rfl ?_
  refine mz_Go.run (gs := []) (st' := (if q1.1 = 0 then (155, [some (.inr (.inr (some (0, 200)))), some (.inl x1), some (.inl x2)], [], q1.2) else (142, [some (.inr (.inr (some (0, 200)))), some (.inl x1), some (.inl x2)], [], q1.2))) bX12_aPerson_139 oX12_aPerson_139 rfl trivial ?_
  refine mz_Go.ite (fun hc2 => ?_) (fun hc2 => ?_)
  · have h := mz_ifp hc2 h
    exact mz_Go.drop [true, true, true] (tX12_aPerson_155 r x1 x2 q1.2 h)
  · have h := mz_ifn hc2 h
    refine mz_Go.run (gs := []) (st' := (149, [some (.inr (.inr (some (0, 200)))), some (.inl x1), some (.inl x2)], [.inl (20 : Int32), .inl (0 : Int32), .inl (x2 + (1 : Int32)), .inr (.inr (some (0, 200)))], q1.2)) bX12_aPerson_142 oX12_aPerson_142 rfl trivial ?_
    obtain ⟨q3, hq3, h⟩ := mz_bd_some h
    refine mz_Go.callV (I := IX12_aPerson) (J := IX12_number) (as := [.inl (x2 + (1 : Int32)), .inl (0 : Int32), .inl (20 : Int32)]) (ci := 12) (g := 0) (o := 200) (idx := 184) (pl := 1800) (rest := []) (mX12_number (x2 + (1 : Int32)) (0 : Int32) (20 : Int32) q1.2 q3 hq3) kX12_number vX12_number (by decide +kernel) (by decide +kernel) (by decide +kernel) rfl rfl ⟨rfl, rfl⟩ rfl rfl rfl rfl ?_
    refine mz_Go.run (gs := []) (st' := (if q3.1 = 0 then (200, [some (.inr (.inr (some (0, 200)))), some (.inl x1), some (.inl x2)], [], q3.2) else (155, [some (.inr (.inr (some (0, 200)))), some (.inl x1), some (.inl x2)], [], q3.2))) bX12_aPerson_152 oX12_aPerson_152 rfl trivial ?_
    refine mz_Go.ite (fun hc4 => ?_) (fun hc4 => ?_)
    · have h := mz_ifp hc4 h
      refine mz_Go.run (gs := []) (st' := (201, [some (.inr (.inr (some (0, 200)))), some (.inl x1), some (.inl x2)], [.inl (0 : Int32)], q3.2)) bX12_aPerson_200 oX12_aPerson_200 rfl trivial ?_
      cases h
      exact mz_Go.retz (by decide +kernel) rfl ⟨Nat.le_refl _, Nat.le_refl _⟩ (by decide) rfl
    · have h := mz_ifn hc4 h
      exact mz_Go.drop [true, true, true] (tX12_aPerson_155 r x1 x2 q3.2 h)
def fX12_aPerson (D : mz_D) : Option (Int32 × mz_D) := (if (D.1 0 201 ((2000 : Int32)).toNatClampNeg) = (6 : Int32) then (Option.bind (fX12_fails (6 : Int32) D) fun q2 => (mz_gd (mz_bo q2.1) (some (q2.1, q2.2)))) else (Option.bind (fX12_ahead D) fun q4 => (Option.bind (fX12_isName q4) fun q5 => (if q5 = 0 then (Option.bind (fX12_fails (2 : Int32) q4) fun q7 => (mz_gd (mz_bo q7.1) (some (q7.1, q7.2)))) else (Option.bind (fX12_findHere (24 : Int32) (D.1 0 201 ((2000 : Int32)).toNatClampNeg) q4) fun q9 => (if q9 = (-1 : Int32) then (Option.bind (fX12_nameHere q4) fun q11 => (mz_gd (mz_ix ((24 : Int32) + (D.1 0 201 ((2000 : Int32)).toNatClampNeg)) 36) (Option.bind (fX12_ahead (mz_wg q4 0 202 (((24 : Int32) + (D.1 0 201 ((2000 : Int32)).toNatClampNeg))).toNatClampNeg q11)) fun q13 => (mz_gd (mz_ix (((2012 : Int32) + ((8 : Int32) * (D.1 0 201 ((2000 : Int32)).toNatClampNeg))) + (1 : Int32)) 3000) (mz_gd (mz_ix (((2012 : Int32) + ((8 : Int32) * (D.1 0 201 ((2000 : Int32)).toNatClampNeg))) + (3 : Int32)) 3000) (mz_gd (mz_ix (((2012 : Int32) + ((8 : Int32) * (D.1 0 201 ((2000 : Int32)).toNatClampNeg))) + (4 : Int32)) 3000) (Option.bind (fX12_isThere (6 : Int32) (mz_wi (mz_wi (mz_wi q13 0 201 ((((2012 : Int32) + ((8 : Int32) * (D.1 0 201 ((2000 : Int32)).toNatClampNeg))) + (1 : Int32))).toNatClampNeg (1 : Int32)) 0 201 ((((2012 : Int32) + ((8 : Int32) * (D.1 0 201 ((2000 : Int32)).toNatClampNeg))) + (3 : Int32))).toNatClampNeg (999 : Int32)) 0 201 ((((2012 : Int32) + ((8 : Int32) * (D.1 0 201 ((2000 : Int32)).toNatClampNeg))) + (4 : Int32))).toNatClampNeg (-1 : Int32))) fun q17 => (if q17.1 = 0 then (fX12_aPerson_133 (D.1 0 201 ((2000 : Int32)).toNatClampNeg) ((2012 : Int32) + ((8 : Int32) * (D.1 0 201 ((2000 : Int32)).toNatClampNeg))) q17.2) else (Option.bind (fX12_number ((2012 : Int32) + ((8 : Int32) * (D.1 0 201 ((2000 : Int32)).toNatClampNeg))) (0 : Int32) (16 : Int32) q17.2) fun q19 => (if q19.1 = 0 then (some ((0 : Int32), q19.2)) else (fX12_aPerson_133 (D.1 0 201 ((2000 : Int32)).toNatClampNeg) ((2012 : Int32) + ((8 : Int32) * (D.1 0 201 ((2000 : Int32)).toNatClampNeg))) q19.2))))))))))) else (Option.bind (fX12_fails (3 : Int32) q4) fun q21 => (mz_gd (mz_bo q21.1) (some (q21.1, q21.2))))))))))
set_option maxHeartbeats 4000000 in
theorem mX12_aPerson (D : mz_D) (r : (Int32 × mz_D)) (h : fX12_aPerson D = some r) : mz_Met IX12_aPerson [.inr (.inr (some (0, 200)))] D (some (.inl r.1), r.2) := by
  refine mz_Met.of (by decide +kernel) (Nat.le_of_ble_eq_true rfl) ?_
  show mz_Go IX12_aPerson (some (.inl r.1), r.2) 0 0 (0, [some (.inr (.inr (some (0, 200)))), none, none], [], D)
  rw [fX12_aPerson] at h
  refine mz_Go.run (gs := [mz_kz 0 0 200, mz_kz 0 0 201, mz_ix (2000 : Int32) 3000]) (st' := (if (D.1 0 201 ((2000 : Int32)).toNatClampNeg) = (6 : Int32) then (24, [some (.inr (.inr (some (0, 200)))), some (.inl (D.1 0 201 ((2000 : Int32)).toNatClampNeg)), some (.inl ((2012 : Int32) + ((8 : Int32) * (D.1 0 201 ((2000 : Int32)).toNatClampNeg))))], [], D) else (31, [some (.inr (.inr (some (0, 200)))), some (.inl (D.1 0 201 ((2000 : Int32)).toNatClampNeg)), some (.inl ((2012 : Int32) + ((8 : Int32) * (D.1 0 201 ((2000 : Int32)).toNatClampNeg))))], [], D))) bX12_aPerson_0 oX12_aPerson_0 rfl ⟨rfl, rfl, (by decide), trivial⟩ ?_
  refine mz_Go.ite (fun hc1 => ?_) (fun hc1 => ?_)
  · have h := mz_ifp hc1 h
    refine mz_Go.run (gs := []) (st' := (27, [some (.inr (.inr (some (0, 200)))), some (.inl (D.1 0 201 ((2000 : Int32)).toNatClampNeg)), some (.inl ((2012 : Int32) + ((8 : Int32) * (D.1 0 201 ((2000 : Int32)).toNatClampNeg))))], [.inl (6 : Int32), .inr (.inr (some (0, 200)))], D)) bX12_aPerson_24 oX12_aPerson_24 rfl trivial ?_
    obtain ⟨q2, hq2, h⟩ := mz_bd_some h
    refine mz_Go.callV (I := IX12_aPerson) (J := IX12_fails) (as := [.inl (6 : Int32)]) (ci := 12) (g := 0) (o := 200) (idx := 157) (pl := 1780) (rest := []) (mX12_fails (6 : Int32) D q2 hq2) kX12_fails vX12_fails (by decide +kernel) (by decide +kernel) (by decide +kernel) rfl rfl ⟨rfl, rfl⟩ rfl rfl rfl rfl ?_
    obtain ⟨hb3, h⟩ := mz_gd_some h
    cases h
    exact mz_Go.retz (by decide +kernel) rfl ⟨Nat.le_refl _, Nat.le_refl _⟩ hb3 rfl
  · have h := mz_ifn hc1 h
    refine mz_Go.run (gs := []) (st' := (32, [some (.inr (.inr (some (0, 200)))), some (.inl (D.1 0 201 ((2000 : Int32)).toNatClampNeg)), some (.inl ((2012 : Int32) + ((8 : Int32) * (D.1 0 201 ((2000 : Int32)).toNatClampNeg))))], [.inr (.inr (some (0, 200)))], D)) bX12_aPerson_31 oX12_aPerson_31 rfl trivial ?_
    obtain ⟨q4, hq4, h⟩ := mz_bd_some h
    refine mz_Go.callV (I := IX12_aPerson) (J := IX12_ahead) (as := []) (ci := 12) (g := 0) (o := 200) (idx := 151) (pl := 1745) (rest := []) (mX12_ahead D q4 hq4) kX12_ahead vX12_ahead (by decide +kernel) (by decide +kernel) (by decide +kernel) rfl rfl ⟨rfl, rfl⟩ rfl rfl rfl rfl ?_
    refine mz_Go.run (gs := []) (st' := (36, [some (.inr (.inr (some (0, 200)))), some (.inl (D.1 0 201 ((2000 : Int32)).toNatClampNeg)), some (.inl ((2012 : Int32) + ((8 : Int32) * (D.1 0 201 ((2000 : Int32)).toNatClampNeg))))], [.inr (.inr (some (0, 200)))], q4)) bX12_aPerson_35 oX12_aPerson_35 rfl trivial ?_
    refine mz_Go.ldcK rfl (by decide +kernel) ?_
    obtain ⟨q5, hq5, h⟩ := mz_bd_some h
    refine mz_Go.callV (I := IX12_aPerson) (J := IX12_isName) (as := [.inr (.inr (some (0, 401)))]) (ci := 12) (g := 0) (o := 200) (idx := 170) (pl := 1784) (rest := []) (mX12_isName q4 q5 hq5) kX12_isName vX12_isName (by decide +kernel) (by decide +kernel) (by decide +kernel) rfl rfl ⟨rfl, rfl⟩ rfl rfl rfl rfl ?_
    refine mz_Go.run (gs := []) (st' := (if q5 = 0 then (44, [some (.inr (.inr (some (0, 200)))), some (.inl (D.1 0 201 ((2000 : Int32)).toNatClampNeg)), some (.inl ((2012 : Int32) + ((8 : Int32) * (D.1 0 201 ((2000 : Int32)).toNatClampNeg))))], [], q4) else (50, [some (.inr (.inr (some (0, 200)))), some (.inl (D.1 0 201 ((2000 : Int32)).toNatClampNeg)), some (.inl ((2012 : Int32) + ((8 : Int32) * (D.1 0 201 ((2000 : Int32)).toNatClampNeg))))], [], q4))) bX12_aPerson_41 oX12_aPerson_41 rfl trivial ?_
    refine mz_Go.ite (fun hc6 => ?_) (fun hc6 => ?_)
    · have h := mz_ifp hc6 h
      refine mz_Go.run (gs := []) (st' := (46, [some (.inr (.inr (some (0, 200)))), some (.inl (D.1 0 201 ((2000 : Int32)).toNatClampNeg)), some (.inl ((2012 : Int32) + ((8 : Int32) * (D.1 0 201 ((2000 : Int32)).toNatClampNeg))))], [.inl (2 : Int32), .inr (.inr (some (0, 200)))], q4)) bX12_aPerson_44 oX12_aPerson_44 rfl trivial ?_
      obtain ⟨q7, hq7, h⟩ := mz_bd_some h
      refine mz_Go.callV (I := IX12_aPerson) (J := IX12_fails) (as := [.inl (2 : Int32)]) (ci := 12) (g := 0) (o := 200) (idx := 157) (pl := 1780) (rest := []) (mX12_fails (2 : Int32) q4 q7 hq7) kX12_fails vX12_fails (by decide +kernel) (by decide +kernel) (by decide +kernel) rfl rfl ⟨rfl, rfl⟩ rfl rfl rfl rfl ?_
      obtain ⟨hb8, h⟩ := mz_gd_some h
      cases h
      exact mz_Go.retz (by decide +kernel) rfl ⟨Nat.le_refl _, Nat.le_refl _⟩ hb8 rfl
    · have h := mz_ifn hc6 h
      refine mz_Go.run (gs := []) (st' := (54, [some (.inr (.inr (some (0, 200)))), some (.inl (D.1 0 201 ((2000 : Int32)).toNatClampNeg)), some (.inl ((2012 : Int32) + ((8 : Int32) * (D.1 0 201 ((2000 : Int32)).toNatClampNeg))))], [.inl (D.1 0 201 ((2000 : Int32)).toNatClampNeg), .inl (24 : Int32), .inr (.inr (some (0, 200)))], q4)) bX12_aPerson_50 oX12_aPerson_50 rfl trivial ?_
      obtain ⟨q9, hq9, h⟩ := mz_bd_some h
      refine mz_Go.callV (I := IX12_aPerson) (J := IX12_findHere) (as := [.inl (24 : Int32), .inl (D.1 0 201 ((2000 : Int32)).toNatClampNeg)]) (ci := 12) (g := 0) (o := 200) (idx := 174) (pl := 1788) (rest := []) (mX12_findHere (24 : Int32) (D.1 0 201 ((2000 : Int32)).toNatClampNeg) q4 q9 hq9) kX12_findHere vX12_findHere (by decide +kernel) (by decide +kernel) (by decide +kernel) rfl rfl ⟨rfl, rfl⟩ rfl rfl rfl rfl ?_
      refine mz_Go.run (gs := []) (st' := (if q9 = (-1 : Int32) then (67, [some (.inr (.inr (some (0, 200)))), some (.inl (D.1 0 201 ((2000 : Int32)).toNatClampNeg)), some (.inl ((2012 : Int32) + ((8 : Int32) * (D.1 0 201 ((2000 : Int32)).toNatClampNeg))))], [], q4) else (61, [some (.inr (.inr (some (0, 200)))), some (.inl (D.1 0 201 ((2000 : Int32)).toNatClampNeg)), some (.inl ((2012 : Int32) + ((8 : Int32) * (D.1 0 201 ((2000 : Int32)).toNatClampNeg))))], [], q4))) bX12_aPerson_57 oX12_aPerson_57 rfl trivial ?_
      refine mz_Go.ite (fun hc10 => ?_) (fun hc10 => ?_)
      · have h := mz_ifp hc10 h
        refine mz_Go.run (gs := [mz_kz 0 0 200]) (st' := (76, [some (.inr (.inr (some (0, 200)))), some (.inl (D.1 0 201 ((2000 : Int32)).toNatClampNeg)), some (.inl ((2012 : Int32) + ((8 : Int32) * (D.1 0 201 ((2000 : Int32)).toNatClampNeg))))], [.inr (.inr (some (0, 200))), .inl ((24 : Int32) + (D.1 0 201 ((2000 : Int32)).toNatClampNeg)), .inr (.inr (some (0, 202)))], q4)) bX12_aPerson_67 oX12_aPerson_67 rfl ⟨rfl, trivial⟩ ?_
        obtain ⟨q11, hq11, h⟩ := mz_bd_some h
        refine mz_Go.callV (I := IX12_aPerson) (J := IX12_nameHere) (as := []) (ci := 12) (g := 0) (o := 200) (idx := 164) (pl := 1792) (rest := [.inl ((24 : Int32) + (D.1 0 201 ((2000 : Int32)).toNatClampNeg)), .inr (.inr (some (0, 202)))]) (mX12_nameHere q4 q11 hq11) kX12_nameHere vX12_nameHere (by decide +kernel) (by decide +kernel) (by decide +kernel) rfl rfl ⟨rfl, rfl⟩ rfl rfl rfl rfl ?_
        obtain ⟨hb12, h⟩ := mz_gd_some h
        refine mz_Go.run (gs := [mz_kz 0 0 202, mz_ix ((24 : Int32) + (D.1 0 201 ((2000 : Int32)).toNatClampNeg)) 36]) (st' := (81, [some (.inr (.inr (some (0, 200)))), some (.inl (D.1 0 201 ((2000 : Int32)).toNatClampNeg)), some (.inl ((2012 : Int32) + ((8 : Int32) * (D.1 0 201 ((2000 : Int32)).toNatClampNeg))))], [.inr (.inr (some (0, 200)))], (mz_wg q4 0 202 (((24 : Int32) + (D.1 0 201 ((2000 : Int32)).toNatClampNeg))).toNatClampNeg q11))) bX12_aPerson_79 oX12_aPerson_79 rfl ⟨rfl, hb12, trivial⟩ ?_
        obtain ⟨q13, hq13, h⟩ := mz_bd_some h
        refine mz_Go.callV (I := IX12_aPerson) (J := IX12_ahead) (as := []) (ci := 12) (g := 0) (o := 200) (idx := 151) (pl := 1745) (rest := []) (mX12_ahead (mz_wg q4 0 202 (((24 : Int32) + (D.1 0 201 ((2000 : Int32)).toNatClampNeg))).toNatClampNeg q11) q13 hq13) kX12_ahead vX12_ahead (by decide +kernel) (by decide +kernel) (by decide +kernel) rfl rfl ⟨rfl, rfl⟩ rfl rfl rfl rfl ?_
        obtain ⟨hb14, h⟩ := mz_gd_some h
        obtain ⟨hb15, h⟩ := mz_gd_some h
        obtain ⟨hb16, h⟩ := mz_gd_some h
        refine mz_Go.run (gs := [mz_kz 0 0 200, mz_kz 0 0 201, mz_ix (((2012 : Int32) + ((8 : Int32) * (D.1 0 201 ((2000 : Int32)).toNatClampNeg))) + (1 : Int32)) 3000, mz_kz 0 0 200, mz_kz 0 0 201, mz_ix (((2012 : Int32) + ((8 : Int32) * (D.1 0 201 ((2000 : Int32)).toNatClampNeg))) + (3 : Int32)) 3000, mz_kz 0 0 200, mz_kz 0 0 201, mz_ix (((2012 : Int32) + ((8 : Int32) * (D.1 0 201 ((2000 : Int32)).toNatClampNeg))) + (4 : Int32)) 3000]) (st' := (116, [some (.inr (.inr (some (0, 200)))), some (.inl (D.1 0 201 ((2000 : Int32)).toNatClampNeg)), some (.inl ((2012 : Int32) + ((8 : Int32) * (D.1 0 201 ((2000 : Int32)).toNatClampNeg))))], [.inl (6 : Int32), .inr (.inr (some (0, 200)))], (mz_wi (mz_wi (mz_wi q13 0 201 ((((2012 : Int32) + ((8 : Int32) * (D.1 0 201 ((2000 : Int32)).toNatClampNeg))) + (1 : Int32))).toNatClampNeg (1 : Int32)) 0 201 ((((2012 : Int32) + ((8 : Int32) * (D.1 0 201 ((2000 : Int32)).toNatClampNeg))) + (3 : Int32))).toNatClampNeg (999 : Int32)) 0 201 ((((2012 : Int32) + ((8 : Int32) * (D.1 0 201 ((2000 : Int32)).toNatClampNeg))) + (4 : Int32))).toNatClampNeg (-1 : Int32)))) bX12_aPerson_84 oX12_aPerson_84 rfl ⟨rfl, rfl, hb14, rfl, rfl, hb15, rfl, rfl, hb16, trivial⟩ ?_
        obtain ⟨q17, hq17, h⟩ := mz_bd_some h
        refine mz_Go.callV (I := IX12_aPerson) (J := IX12_isThere) (as := [.inl (6 : Int32)]) (ci := 12) (g := 0) (o := 200) (idx := 181) (pl := 1796) (rest := []) (mX12_isThere (6 : Int32) (mz_wi (mz_wi (mz_wi q13 0 201 ((((2012 : Int32) + ((8 : Int32) * (D.1 0 201 ((2000 : Int32)).toNatClampNeg))) + (1 : Int32))).toNatClampNeg (1 : Int32)) 0 201 ((((2012 : Int32) + ((8 : Int32) * (D.1 0 201 ((2000 : Int32)).toNatClampNeg))) + (3 : Int32))).toNatClampNeg (999 : Int32)) 0 201 ((((2012 : Int32) + ((8 : Int32) * (D.1 0 201 ((2000 : Int32)).toNatClampNeg))) + (4 : Int32))).toNatClampNeg (-1 : Int32)) q17 hq17) kX12_isThere vX12_isThere (by decide +kernel) (by decide +kernel) (by decide +kernel) rfl rfl ⟨rfl, rfl⟩ rfl rfl rfl rfl ?_
        refine mz_Go.run (gs := []) (st' := (if q17.1 = 0 then (133, [some (.inr (.inr (some (0, 200)))), some (.inl (D.1 0 201 ((2000 : Int32)).toNatClampNeg)), some (.inl ((2012 : Int32) + ((8 : Int32) * (D.1 0 201 ((2000 : Int32)).toNatClampNeg))))], [], q17.2) else (122, [some (.inr (.inr (some (0, 200)))), some (.inl (D.1 0 201 ((2000 : Int32)).toNatClampNeg)), some (.inl ((2012 : Int32) + ((8 : Int32) * (D.1 0 201 ((2000 : Int32)).toNatClampNeg))))], [], q17.2))) bX12_aPerson_119 oX12_aPerson_119 rfl trivial ?_
        refine mz_Go.ite (fun hc18 => ?_) (fun hc18 => ?_)
        · have h := mz_ifp hc18 h
          exact mz_Go.drop [true, true, true] (tX12_aPerson_133 r (D.1 0 201 ((2000 : Int32)).toNatClampNeg) ((2012 : Int32) + ((8 : Int32) * (D.1 0 201 ((2000 : Int32)).toNatClampNeg))) q17.2 h)
        · have h := mz_ifn hc18 h
          refine mz_Go.run (gs := []) (st' := (127, [some (.inr (.inr (some (0, 200)))), some (.inl (D.1 0 201 ((2000 : Int32)).toNatClampNeg)), some (.inl ((2012 : Int32) + ((8 : Int32) * (D.1 0 201 ((2000 : Int32)).toNatClampNeg))))], [.inl (16 : Int32), .inl (0 : Int32), .inl ((2012 : Int32) + ((8 : Int32) * (D.1 0 201 ((2000 : Int32)).toNatClampNeg))), .inr (.inr (some (0, 200)))], q17.2)) bX12_aPerson_122 oX12_aPerson_122 rfl trivial ?_
          obtain ⟨q19, hq19, h⟩ := mz_bd_some h
          refine mz_Go.callV (I := IX12_aPerson) (J := IX12_number) (as := [.inl ((2012 : Int32) + ((8 : Int32) * (D.1 0 201 ((2000 : Int32)).toNatClampNeg))), .inl (0 : Int32), .inl (16 : Int32)]) (ci := 12) (g := 0) (o := 200) (idx := 184) (pl := 1800) (rest := []) (mX12_number ((2012 : Int32) + ((8 : Int32) * (D.1 0 201 ((2000 : Int32)).toNatClampNeg))) (0 : Int32) (16 : Int32) q17.2 q19 hq19) kX12_number vX12_number (by decide +kernel) (by decide +kernel) (by decide +kernel) rfl rfl ⟨rfl, rfl⟩ rfl rfl rfl rfl ?_
          refine mz_Go.run (gs := []) (st' := (if q19.1 = 0 then (200, [some (.inr (.inr (some (0, 200)))), some (.inl (D.1 0 201 ((2000 : Int32)).toNatClampNeg)), some (.inl ((2012 : Int32) + ((8 : Int32) * (D.1 0 201 ((2000 : Int32)).toNatClampNeg))))], [], q19.2) else (133, [some (.inr (.inr (some (0, 200)))), some (.inl (D.1 0 201 ((2000 : Int32)).toNatClampNeg)), some (.inl ((2012 : Int32) + ((8 : Int32) * (D.1 0 201 ((2000 : Int32)).toNatClampNeg))))], [], q19.2))) bX12_aPerson_130 oX12_aPerson_130 rfl trivial ?_
          refine mz_Go.ite (fun hc20 => ?_) (fun hc20 => ?_)
          · have h := mz_ifp hc20 h
            refine mz_Go.run (gs := []) (st' := (201, [some (.inr (.inr (some (0, 200)))), some (.inl (D.1 0 201 ((2000 : Int32)).toNatClampNeg)), some (.inl ((2012 : Int32) + ((8 : Int32) * (D.1 0 201 ((2000 : Int32)).toNatClampNeg))))], [.inl (0 : Int32)], q19.2)) bX12_aPerson_200 oX12_aPerson_200 rfl trivial ?_
            cases h
            exact mz_Go.retz (by decide +kernel) rfl ⟨Nat.le_refl _, Nat.le_refl _⟩ (by decide) rfl
          · have h := mz_ifn hc20 h
            exact mz_Go.drop [true, true, true] (tX12_aPerson_133 r (D.1 0 201 ((2000 : Int32)).toNatClampNeg) ((2012 : Int32) + ((8 : Int32) * (D.1 0 201 ((2000 : Int32)).toNatClampNeg))) q19.2 h)
      · have h := mz_ifn hc10 h
        refine mz_Go.run (gs := []) (st' := (63, [some (.inr (.inr (some (0, 200)))), some (.inl (D.1 0 201 ((2000 : Int32)).toNatClampNeg)), some (.inl ((2012 : Int32) + ((8 : Int32) * (D.1 0 201 ((2000 : Int32)).toNatClampNeg))))], [.inl (3 : Int32), .inr (.inr (some (0, 200)))], q4)) bX12_aPerson_61 oX12_aPerson_61 rfl trivial ?_
        obtain ⟨q21, hq21, h⟩ := mz_bd_some h
        refine mz_Go.callV (I := IX12_aPerson) (J := IX12_fails) (as := [.inl (3 : Int32)]) (ci := 12) (g := 0) (o := 200) (idx := 157) (pl := 1780) (rest := []) (mX12_fails (3 : Int32) q4 q21 hq21) kX12_fails vX12_fails (by decide +kernel) (by decide +kernel) (by decide +kernel) rfl rfl ⟨rfl, rfl⟩ rfl rfl rfl rfl ?_
        obtain ⟨hb22, h⟩ := mz_gd_some h
        cases h
        exact mz_Go.retz (by decide +kernel) rfl ⟨Nat.le_refl _, Nat.le_refl _⟩ hb22 rfl
def bX12_mate_0 : List mz_E := [(0, .aload_n 0, 0, 0, 0, 0, 0)]
theorem oX12_mate_0 : bX12_mate_0.all (mz_ok RX12 cX12_mate 4) = true := by decide +kernel
def bX12_mate_6 : List mz_E := [(6, .ifCond .eq 53, 0, 59, 0, 0, 0)]
theorem oX12_mate_6 : bX12_mate_6.all (mz_ok RX12 cX12_mate 4) = true := by decide +kernel
def bX12_mate_59 : List mz_E := [(59, .aload_n 0, 0, 0, 0, 0, 0), (60, .bipush 24, 0, 0, 0, 24, 0), (62, .aload_n 0, 0, 0, 0, 0, 0), (63, .getfield 7, 12, 0, 1576, 0, 0), (66, .sipush 2000, 0, 0, 0, 2000, 0), (69, .iaload, 0, 0, 0, 0, 0), (70, .iload_n 2, 0, 0, 0, 0, 0)]
theorem oX12_mate_59 : bX12_mate_59.all (mz_ok RX12 cX12_mate 4) = true := by decide +kernel
def bX12_mate_9 : List mz_E := [(9, .aload_n 0, 0, 0, 0, 0, 0), (10, .bipush 24, 0, 0, 0, 24, 0), (12, .aload_n 0, 0, 0, 0, 0, 0), (13, .getfield 7, 12, 0, 1576, 0, 0), (16, .sipush 2000, 0, 0, 0, 2000, 0), (19, .iaload, 0, 0, 0, 0, 0)]
theorem oX12_mate_9 : bX12_mate_9.all (mz_ok RX12 cX12_mate 4) = true := by decide +kernel
def bX12_mate_23 : List mz_E := [(23, .istore_n 3, 0, 0, 0, 0, 0), (24, .iload_n 3, 0, 0, 0, 0, 0), (25, .iconst (-1), 0, 0, 0, -1, 0), (26, .if_icmp .eq 33, 0, 59, 0, 0, 0)]
theorem oX12_mate_23 : bX12_mate_23.all (mz_ok RX12 cX12_mate 4) = true := by decide +kernel
def bX12_mate_29 : List mz_E := [(29, .iload_n 3, 0, 0, 0, 0, 0), (30, .iload_n 1, 0, 0, 0, 0, 0), (31, .if_icmp .eq 22, 0, 53, 0, 0, 0)]
theorem oX12_mate_29 : bX12_mate_29.all (mz_ok RX12 cX12_mate 4) = true := by decide +kernel
def bX12_mate_53 : List mz_E := [(53, .aload_n 0, 0, 0, 0, 0, 0), (54, .iconst 5, 0, 0, 0, 5, 0)]
theorem oX12_mate_53 : bX12_mate_53.all (mz_ok RX12 cX12_mate 4) = true := by decide +kernel
def bX12_mate_34 : List mz_E := [(34, .aload_n 0, 0, 0, 0, 0, 0), (35, .getfield 7, 12, 0, 1576, 0, 0), (38, .sipush 2012, 0, 0, 0, 2012, 0), (41, .bipush 8, 0, 0, 0, 8, 0), (43, .iload_n 3, 0, 0, 0, 0, 0), (44, .imul, 0, 0, 0, 0, 0), (45, .iadd, 0, 0, 0, 0, 0), (46, .iconst 4, 0, 0, 0, 4, 0), (47, .iadd, 0, 0, 0, 0, 0), (48, .iaload, 0, 0, 0, 0, 0), (49, .iconst (-1), 0, 0, 0, -1, 0), (50, .if_icmp .eq 9, 0, 59, 0, 0, 0)]
theorem oX12_mate_34 : bX12_mate_34.all (mz_ok RX12 cX12_mate 4) = true := by decide +kernel
abbrev IX12_mate : mz_I := (yX12_mate, cX12_mate, 4, (some .boolean), 0, 7, 0, 0)
theorem kX12_mate : mz_okm IX12_mate 1811 141 1810 2 = true := by decide +kernel
theorem vX12_mate : mz_okV IX12_mate 1810 64 = true := by decide +kernel
def fX12_mate_59 (x2 : Int32) (D : mz_D) : Option (Int32 × mz_D) := (Option.bind (fX12_oldOne (24 : Int32) (D.1 0 201 ((2000 : Int32)).toNatClampNeg) x2 D) fun q1 => (mz_gd (mz_bo q1.1) (some (q1.1, q1.2))))
set_option maxHeartbeats 4000000 in
theorem tX12_mate_59 (r : (Int32 × mz_D)) : ∀ (x2 : Int32) (D : mz_D), fX12_mate_59 x2 D = some r → mz_Go IX12_mate (some (.inl r.1), r.2) 0 0 (59, [some (.inr (.inr (some (0, 200)))), none, some (.inl x2), none], [], D) := by
  intro x2 D h
  rw [fX12_mate_59] at h
  refine mz_Go.run (gs := [mz_kz 0 0 200, mz_kz 0 0 201, mz_ix (2000 : Int32) 3000]) (st' := (71, [some (.inr (.inr (some (0, 200)))), none, some (.inl x2), none], [.inl x2, .inl (D.1 0 201 ((2000 : Int32)).toNatClampNeg), .inl (24 : Int32), .inr (.inr (some (0, 200)))], D)) bX12_mate_59 oX12_mate_59 rfl ⟨rfl, rfl, (by decide), trivial⟩ ?_
  obtain ⟨q1, hq1, h⟩ := mz_bd_some h
  refine mz_Go.callV (I := IX12_mate) (J := IX12_oldOne) (as := [.inl (24 : Int32), .inl (D.1 0 201 ((2000 : Int32)).toNatClampNeg), .inl x2]) (ci := 12) (g := 0) (o := 200) (idx := 177) (pl := 1812) (rest := []) (mX12_oldOne (24 : Int32) (D.1 0 201 ((2000 : Int32)).toNatClampNeg) x2 D q1 hq1) kX12_oldOne vX12_oldOne (by decide +kernel) (by decide +kernel) (by decide +kernel) rfl rfl ⟨rfl, rfl⟩ rfl rfl rfl rfl ?_
  obtain ⟨hb2, h⟩ := mz_gd_some h
  cases h
  exact mz_Go.retz (by decide +kernel) rfl ⟨Nat.le_refl _, Nat.le_refl _⟩ hb2 rfl
def fX12_mate_53 (D : mz_D) : Option (Int32 × mz_D) := (Option.bind (fX12_fails (5 : Int32) D) fun q1 => (mz_gd (mz_bo q1.1) (some (q1.1, q1.2))))
set_option maxHeartbeats 4000000 in
theorem tX12_mate_53 (r : (Int32 × mz_D)) : ∀ (D : mz_D), fX12_mate_53 D = some r → mz_Go IX12_mate (some (.inl r.1), r.2) 0 0 (53, [some (.inr (.inr (some (0, 200)))), none, none, none], [], D) := by
  intro D h
  rw [fX12_mate_53] at h
  refine mz_Go.run (gs := []) (st' := (55, [some (.inr (.inr (some (0, 200)))), none, none, none], [.inl (5 : Int32), .inr (.inr (some (0, 200)))], D)) bX12_mate_53 oX12_mate_53 rfl trivial ?_
  obtain ⟨q1, hq1, h⟩ := mz_bd_some h
  refine mz_Go.callV (I := IX12_mate) (J := IX12_fails) (as := [.inl (5 : Int32)]) (ci := 12) (g := 0) (o := 200) (idx := 157) (pl := 1780) (rest := []) (mX12_fails (5 : Int32) D q1 hq1) kX12_fails vX12_fails (by decide +kernel) (by decide +kernel) (by decide +kernel) rfl rfl ⟨rfl, rfl⟩ rfl rfl rfl rfl ?_
  obtain ⟨hb2, h⟩ := mz_gd_some h
  cases h
  exact mz_Go.retz (by decide +kernel) rfl ⟨Nat.le_refl _, Nat.le_refl _⟩ hb2 rfl
def fX12_mate (x1 : Int32) (x2 : Int32) (D : mz_D) : Option (Int32 × mz_D) := (Option.bind (fX12_isName D) fun q1 => (if q1 = 0 then (fX12_mate_59 x2 D) else (Option.bind (fX12_findHere (24 : Int32) (D.1 0 201 ((2000 : Int32)).toNatClampNeg) D) fun q3 => (if q3 = (-1 : Int32) then (fX12_mate_59 x2 D) else (if q3 = x1 then (fX12_mate_53 D) else (mz_gd (mz_ix (((2012 : Int32) + ((8 : Int32) * q3)) + (4 : Int32)) 3000) (if (D.1 0 201 ((((2012 : Int32) + ((8 : Int32) * q3)) + (4 : Int32))).toNatClampNeg) = (-1 : Int32) then (fX12_mate_59 x2 D) else (fX12_mate_53 D))))))))
set_option maxHeartbeats 4000000 in
theorem mX12_mate (x1 : Int32) (x2 : Int32) (D : mz_D) (r : (Int32 × mz_D)) (h : fX12_mate x1 x2 D = some r) : mz_Met IX12_mate [.inr (.inr (some (0, 200))), .inl x1, .inl x2] D (some (.inl r.1), r.2) := by
  refine mz_Met.of (by decide +kernel) (Nat.le_of_ble_eq_true rfl) ?_
  show mz_Go IX12_mate (some (.inl r.1), r.2) 0 0 (0, [some (.inr (.inr (some (0, 200)))), some (.inl x1), some (.inl x2), none], [], D)
  rw [fX12_mate] at h
  refine mz_Go.run (gs := []) (st' := (1, [some (.inr (.inr (some (0, 200)))), some (.inl x1), some (.inl x2), none], [.inr (.inr (some (0, 200)))], D)) bX12_mate_0 oX12_mate_0 rfl trivial ?_
  refine mz_Go.ldcK rfl (by decide +kernel) ?_
  obtain ⟨q1, hq1, h⟩ := mz_bd_some h
  refine mz_Go.callV (I := IX12_mate) (J := IX12_isName) (as := [.inr (.inr (some (0, 401)))]) (ci := 12) (g := 0) (o := 200) (idx := 170) (pl := 1784) (rest := []) (mX12_isName D q1 hq1) kX12_isName vX12_isName (by decide +kernel) (by decide +kernel) (by decide +kernel) rfl rfl ⟨rfl, rfl⟩ rfl rfl rfl rfl ?_
  refine mz_Go.run (gs := []) (st' := (if q1 = 0 then (59, [some (.inr (.inr (some (0, 200)))), some (.inl x1), some (.inl x2), none], [], D) else (9, [some (.inr (.inr (some (0, 200)))), some (.inl x1), some (.inl x2), none], [], D))) bX12_mate_6 oX12_mate_6 rfl trivial ?_
  refine mz_Go.ite (fun hc2 => ?_) (fun hc2 => ?_)
  · have h := mz_ifp hc2 h
    exact mz_Go.drop [true, false, true, false] (tX12_mate_59 r x2 D h)
  · have h := mz_ifn hc2 h
    refine mz_Go.run (gs := [mz_kz 0 0 200, mz_kz 0 0 201, mz_ix (2000 : Int32) 3000]) (st' := (20, [some (.inr (.inr (some (0, 200)))), some (.inl x1), some (.inl x2), none], [.inl (D.1 0 201 ((2000 : Int32)).toNatClampNeg), .inl (24 : Int32), .inr (.inr (some (0, 200)))], D)) bX12_mate_9 oX12_mate_9 rfl ⟨rfl, rfl, (by decide), trivial⟩ ?_
    obtain ⟨q3, hq3, h⟩ := mz_bd_some h
    refine mz_Go.callV (I := IX12_mate) (J := IX12_findHere) (as := [.inl (24 : Int32), .inl (D.1 0 201 ((2000 : Int32)).toNatClampNeg)]) (ci := 12) (g := 0) (o := 200) (idx := 174) (pl := 1788) (rest := []) (mX12_findHere (24 : Int32) (D.1 0 201 ((2000 : Int32)).toNatClampNeg) D q3 hq3) kX12_findHere vX12_findHere (by decide +kernel) (by decide +kernel) (by decide +kernel) rfl rfl ⟨rfl, rfl⟩ rfl rfl rfl rfl ?_
    refine mz_Go.run (gs := []) (st' := (if q3 = (-1 : Int32) then (59, [some (.inr (.inr (some (0, 200)))), some (.inl x1), some (.inl x2), some (.inl q3)], [], D) else (29, [some (.inr (.inr (some (0, 200)))), some (.inl x1), some (.inl x2), some (.inl q3)], [], D))) bX12_mate_23 oX12_mate_23 rfl trivial ?_
    refine mz_Go.ite (fun hc4 => ?_) (fun hc4 => ?_)
    · have h := mz_ifp hc4 h
      exact mz_Go.drop [true, false, true, false] (tX12_mate_59 r x2 D h)
    · have h := mz_ifn hc4 h
      refine mz_Go.run (gs := []) (st' := (if q3 = x1 then (53, [some (.inr (.inr (some (0, 200)))), some (.inl x1), some (.inl x2), some (.inl q3)], [], D) else (34, [some (.inr (.inr (some (0, 200)))), some (.inl x1), some (.inl x2), some (.inl q3)], [], D))) bX12_mate_29 oX12_mate_29 rfl trivial ?_
      refine mz_Go.ite (fun hc5 => ?_) (fun hc5 => ?_)
      · have h := mz_ifp hc5 h
        exact mz_Go.drop [true, false, false, false] (tX12_mate_53 r D h)
      · have h := mz_ifn hc5 h
        obtain ⟨hb6, h⟩ := mz_gd_some h
        refine mz_Go.run (gs := [mz_kz 0 0 200, mz_kz 0 0 201, mz_ix (((2012 : Int32) + ((8 : Int32) * q3)) + (4 : Int32)) 3000]) (st' := (if (D.1 0 201 ((((2012 : Int32) + ((8 : Int32) * q3)) + (4 : Int32))).toNatClampNeg) = (-1 : Int32) then (59, [some (.inr (.inr (some (0, 200)))), some (.inl x1), some (.inl x2), some (.inl q3)], [], D) else (53, [some (.inr (.inr (some (0, 200)))), some (.inl x1), some (.inl x2), some (.inl q3)], [], D))) bX12_mate_34 oX12_mate_34 rfl ⟨rfl, rfl, hb6, trivial⟩ ?_
        refine mz_Go.ite (fun hc7 => ?_) (fun hc7 => ?_)
        · have h := mz_ifp hc7 h
          exact mz_Go.drop [true, false, true, false] (tX12_mate_59 r x2 D h)
        · have h := mz_ifn hc7 h
          exact mz_Go.drop [true, false, false, false] (tX12_mate_53 r D h)
def bX12_aCouple_0 : List mz_E := [(0, .aload_n 0, 0, 0, 0, 0, 0), (1, .getfield 7, 12, 0, 1576, 0, 0), (4, .sipush 2001, 0, 0, 0, 2001, 0), (7, .iaload, 0, 0, 0, 0, 0), (8, .iconst 3, 0, 0, 0, 3, 0), (9, .if_icmp .ne 10, 0, 19, 0, 0, 0)]
theorem oX12_aCouple_0 : bX12_aCouple_0.all (mz_ok RX12 cX12_aCouple 3) = true := by decide +kernel
def bX12_aCouple_12 : List mz_E := [(12, .aload_n 0, 0, 0, 0, 0, 0), (13, .bipush 6, 0, 0, 0, 6, 0)]
theorem oX12_aCouple_12 : bX12_aCouple_12.all (mz_ok RX12 cX12_aCouple 3) = true := by decide +kernel
def bX12_aCouple_19 : List mz_E := [(19, .aload_n 0, 0, 0, 0, 0, 0)]
theorem oX12_aCouple_19 : bX12_aCouple_19.all (mz_ok RX12 cX12_aCouple 3) = true := by decide +kernel
def bX12_aCouple_23 : List mz_E := [(23, .aload_n 0, 0, 0, 0, 0, 0), (24, .iconst (-1), 0, 0, 0, -1, 0), (25, .sipush 2495, 0, 0, 0, 2495, 0)]
theorem oX12_aCouple_23 : bX12_aCouple_23.all (mz_ok RX12 cX12_aCouple 3) = true := by decide +kernel
def bX12_aCouple_31 : List mz_E := [(31, .ifCond .eq 21, 0, 52, 0, 0, 0)]
theorem oX12_aCouple_31 : bX12_aCouple_31.all (mz_ok RX12 cX12_aCouple 3) = true := by decide +kernel
def bX12_aCouple_52 : List mz_E := [(52, .iconst 0, 0, 0, 0, 0, 0)]
theorem oX12_aCouple_52 : bX12_aCouple_52.all (mz_ok RX12 cX12_aCouple 3) = true := by decide +kernel
def bX12_aCouple_34 : List mz_E := [(34, .aload_n 0, 0, 0, 0, 0, 0), (35, .aload_n 0, 0, 0, 0, 0, 0), (36, .getfield 7, 12, 0, 1576, 0, 0), (39, .sipush 2495, 0, 0, 0, 2495, 0), (42, .iaload, 0, 0, 0, 0, 0), (43, .sipush 2496, 0, 0, 0, 2496, 0)]
theorem oX12_aCouple_34 : bX12_aCouple_34.all (mz_ok RX12 cX12_aCouple 3) = true := by decide +kernel
def bX12_aCouple_49 : List mz_E := [(49, .ifCond .ne 5, 0, 54, 0, 0, 0)]
theorem oX12_aCouple_49 : bX12_aCouple_49.all (mz_ok RX12 cX12_aCouple 3) = true := by decide +kernel
def bX12_aCouple_54 : List mz_E := [(54, .aload_n 0, 0, 0, 0, 0, 0), (55, .getfield 7, 12, 0, 1576, 0, 0), (58, .sipush 2495, 0, 0, 0, 2495, 0), (61, .iaload, 0, 0, 0, 0, 0), (62, .istore_n 1, 0, 0, 0, 0, 0), (63, .aload_n 0, 0, 0, 0, 0, 0), (64, .getfield 7, 12, 0, 1576, 0, 0), (67, .sipush 2496, 0, 0, 0, 2496, 0), (70, .iaload, 0, 0, 0, 0, 0), (71, .istore_n 2, 0, 0, 0, 0, 0), (72, .aload_n 0, 0, 0, 0, 0, 0), (73, .getfield 7, 12, 0, 1576, 0, 0), (76, .sipush 2012, 0, 0, 0, 2012, 0), (79, .bipush 8, 0, 0, 0, 8, 0), (81, .iload_n 1, 0, 0, 0, 0, 0), (82, .imul, 0, 0, 0, 0, 0), (83, .iadd, 0, 0, 0, 0, 0), (84, .iconst 4, 0, 0, 0, 4, 0), (85, .iadd, 0, 0, 0, 0, 0), (86, .iload_n 2, 0, 0, 0, 0, 0), (87, .iastore, 0, 0, 0, 0, 0), (88, .aload_n 0, 0, 0, 0, 0, 0), (89, .getfield 7, 12, 0, 1576, 0, 0), (92, .sipush 2012, 0, 0, 0, 2012, 0), (95, .bipush 8, 0, 0, 0, 8, 0), (97, .iload_n 2, 0, 0, 0, 0, 0), (98, .imul, 0, 0, 0, 0, 0), (99, .iadd, 0, 0, 0, 0, 0), (100, .iconst 4, 0, 0, 0, 4, 0), (101, .iadd, 0, 0, 0, 0, 0), (102, .iload_n 1, 0, 0, 0, 0, 0), (103, .iastore, 0, 0, 0, 0, 0), (104, .aload_n 0, 0, 0, 0, 0, 0), (105, .getfield 7, 12, 0, 1576, 0, 0), (108, .sipush 2001, 0, 0, 0, 2001, 0), (111, .dup2, 0, 0, 0, 0, 0), (112, .iaload, 0, 0, 0, 0, 0), (113, .iconst 1, 0, 0, 0, 1, 0), (114, .iadd, 0, 0, 0, 0, 0), (115, .iastore, 0, 0, 0, 0, 0), (116, .iconst 1, 0, 0, 0, 1, 0)]
theorem oX12_aCouple_54 : bX12_aCouple_54.all (mz_ok RX12 cX12_aCouple 3) = true := by decide +kernel
abbrev IX12_aCouple : mz_I := (yX12_aCouple, cX12_aCouple, 3, (some .boolean), 0, 8, 0, 0)
theorem kX12_aCouple : mz_okm IX12_aCouple 1807 141 1806 0 = true := by decide +kernel
theorem vX12_aCouple : mz_okV IX12_aCouple 1806 63 = true := by decide +kernel
def fX12_aCouple (D : mz_D) : Option (Int32 × mz_D) := (if (D.1 0 201 ((2001 : Int32)).toNatClampNeg) = (3 : Int32) then (Option.bind (fX12_fails (6 : Int32) D) fun q2 => (mz_gd (mz_bo q2.1) (some (q2.1, q2.2)))) else (Option.bind (fX12_ahead D) fun q4 => (Option.bind (fX12_mate (-1 : Int32) (2495 : Int32) q4) fun q5 => (if q5.1 = 0 then (some ((0 : Int32), q5.2)) else (Option.bind (fX12_mate (q5.2.1 0 201 ((2495 : Int32)).toNatClampNeg) (2496 : Int32) q5.2) fun q7 => (if q7.1 = 0 then (some ((0 : Int32), q7.2)) else (mz_gd (mz_ix (((2012 : Int32) + ((8 : Int32) * (q7.2.1 0 201 ((2495 : Int32)).toNatClampNeg))) + (4 : Int32)) 3000) (mz_gd (mz_ix (((2012 : Int32) + ((8 : Int32) * (q7.2.1 0 201 ((2496 : Int32)).toNatClampNeg))) + (4 : Int32)) 3000) (some ((1 : Int32), (mz_wi (mz_wi (mz_wi q7.2 0 201 ((((2012 : Int32) + ((8 : Int32) * (q7.2.1 0 201 ((2495 : Int32)).toNatClampNeg))) + (4 : Int32))).toNatClampNeg (q7.2.1 0 201 ((2496 : Int32)).toNatClampNeg)) 0 201 ((((2012 : Int32) + ((8 : Int32) * (q7.2.1 0 201 ((2496 : Int32)).toNatClampNeg))) + (4 : Int32))).toNatClampNeg (q7.2.1 0 201 ((2495 : Int32)).toNatClampNeg)) 0 201 ((2001 : Int32)).toNatClampNeg (((mz_wi (mz_wi q7.2 0 201 ((((2012 : Int32) + ((8 : Int32) * (q7.2.1 0 201 ((2495 : Int32)).toNatClampNeg))) + (4 : Int32))).toNatClampNeg (q7.2.1 0 201 ((2496 : Int32)).toNatClampNeg)) 0 201 ((((2012 : Int32) + ((8 : Int32) * (q7.2.1 0 201 ((2496 : Int32)).toNatClampNeg))) + (4 : Int32))).toNatClampNeg (q7.2.1 0 201 ((2495 : Int32)).toNatClampNeg)).1 0 201 ((2001 : Int32)).toNatClampNeg) + (1 : Int32)))))))))))))
set_option maxHeartbeats 4000000 in
theorem mX12_aCouple (D : mz_D) (r : (Int32 × mz_D)) (h : fX12_aCouple D = some r) : mz_Met IX12_aCouple [.inr (.inr (some (0, 200)))] D (some (.inl r.1), r.2) := by
  refine mz_Met.of (by decide +kernel) (Nat.le_of_ble_eq_true rfl) ?_
  show mz_Go IX12_aCouple (some (.inl r.1), r.2) 0 0 (0, [some (.inr (.inr (some (0, 200)))), none, none], [], D)
  rw [fX12_aCouple] at h
  refine mz_Go.run (gs := [mz_kz 0 0 200, mz_kz 0 0 201, mz_ix (2001 : Int32) 3000]) (st' := (if (D.1 0 201 ((2001 : Int32)).toNatClampNeg) = (3 : Int32) then (12, [some (.inr (.inr (some (0, 200)))), none, none], [], D) else (19, [some (.inr (.inr (some (0, 200)))), none, none], [], D))) bX12_aCouple_0 oX12_aCouple_0 rfl ⟨rfl, rfl, (by decide), trivial⟩ ?_
  refine mz_Go.ite (fun hc1 => ?_) (fun hc1 => ?_)
  · have h := mz_ifp hc1 h
    refine mz_Go.run (gs := []) (st' := (15, [some (.inr (.inr (some (0, 200)))), none, none], [.inl (6 : Int32), .inr (.inr (some (0, 200)))], D)) bX12_aCouple_12 oX12_aCouple_12 rfl trivial ?_
    obtain ⟨q2, hq2, h⟩ := mz_bd_some h
    refine mz_Go.callV (I := IX12_aCouple) (J := IX12_fails) (as := [.inl (6 : Int32)]) (ci := 12) (g := 0) (o := 200) (idx := 157) (pl := 1780) (rest := []) (mX12_fails (6 : Int32) D q2 hq2) kX12_fails vX12_fails (by decide +kernel) (by decide +kernel) (by decide +kernel) rfl rfl ⟨rfl, rfl⟩ rfl rfl rfl rfl ?_
    obtain ⟨hb3, h⟩ := mz_gd_some h
    cases h
    exact mz_Go.retz (by decide +kernel) rfl ⟨Nat.le_refl _, Nat.le_refl _⟩ hb3 rfl
  · have h := mz_ifn hc1 h
    refine mz_Go.run (gs := []) (st' := (20, [some (.inr (.inr (some (0, 200)))), none, none], [.inr (.inr (some (0, 200)))], D)) bX12_aCouple_19 oX12_aCouple_19 rfl trivial ?_
    obtain ⟨q4, hq4, h⟩ := mz_bd_some h
    refine mz_Go.callV (I := IX12_aCouple) (J := IX12_ahead) (as := []) (ci := 12) (g := 0) (o := 200) (idx := 151) (pl := 1745) (rest := []) (mX12_ahead D q4 hq4) kX12_ahead vX12_ahead (by decide +kernel) (by decide +kernel) (by decide +kernel) rfl rfl ⟨rfl, rfl⟩ rfl rfl rfl rfl ?_
    refine mz_Go.run (gs := []) (st' := (28, [some (.inr (.inr (some (0, 200)))), none, none], [.inl (2495 : Int32), .inl (-1 : Int32), .inr (.inr (some (0, 200)))], q4)) bX12_aCouple_23 oX12_aCouple_23 rfl trivial ?_
    obtain ⟨q5, hq5, h⟩ := mz_bd_some h
    refine mz_Go.callV (I := IX12_aCouple) (J := IX12_mate) (as := [.inl (-1 : Int32), .inl (2495 : Int32)]) (ci := 12) (g := 0) (o := 200) (idx := 187) (pl := 1808) (rest := []) (mX12_mate (-1 : Int32) (2495 : Int32) q4 q5 hq5) kX12_mate vX12_mate (by decide +kernel) (by decide +kernel) (by decide +kernel) rfl rfl ⟨rfl, rfl⟩ rfl rfl rfl rfl ?_
    refine mz_Go.run (gs := []) (st' := (if q5.1 = 0 then (52, [some (.inr (.inr (some (0, 200)))), none, none], [], q5.2) else (34, [some (.inr (.inr (some (0, 200)))), none, none], [], q5.2))) bX12_aCouple_31 oX12_aCouple_31 rfl trivial ?_
    refine mz_Go.ite (fun hc6 => ?_) (fun hc6 => ?_)
    · have h := mz_ifp hc6 h
      refine mz_Go.run (gs := []) (st' := (53, [some (.inr (.inr (some (0, 200)))), none, none], [.inl (0 : Int32)], q5.2)) bX12_aCouple_52 oX12_aCouple_52 rfl trivial ?_
      cases h
      exact mz_Go.retz (by decide +kernel) rfl ⟨Nat.le_refl _, Nat.le_refl _⟩ (by decide) rfl
    · have h := mz_ifn hc6 h
      refine mz_Go.run (gs := [mz_kz 0 0 200, mz_kz 0 0 201, mz_ix (2495 : Int32) 3000]) (st' := (46, [some (.inr (.inr (some (0, 200)))), none, none], [.inl (2496 : Int32), .inl (q5.2.1 0 201 ((2495 : Int32)).toNatClampNeg), .inr (.inr (some (0, 200)))], q5.2)) bX12_aCouple_34 oX12_aCouple_34 rfl ⟨rfl, rfl, (by decide), trivial⟩ ?_
      obtain ⟨q7, hq7, h⟩ := mz_bd_some h
      refine mz_Go.callV (I := IX12_aCouple) (J := IX12_mate) (as := [.inl (q5.2.1 0 201 ((2495 : Int32)).toNatClampNeg), .inl (2496 : Int32)]) (ci := 12) (g := 0) (o := 200) (idx := 187) (pl := 1808) (rest := []) (mX12_mate (q5.2.1 0 201 ((2495 : Int32)).toNatClampNeg) (2496 : Int32) q5.2 q7 hq7) kX12_mate vX12_mate (by decide +kernel) (by decide +kernel) (by decide +kernel) rfl rfl ⟨rfl, rfl⟩ rfl rfl rfl rfl ?_
      refine mz_Go.run (gs := []) (st' := (if q7.1 = 0 then (52, [some (.inr (.inr (some (0, 200)))), none, none], [], q7.2) else (54, [some (.inr (.inr (some (0, 200)))), none, none], [], q7.2))) bX12_aCouple_49 oX12_aCouple_49 rfl trivial ?_
      refine mz_Go.ite (fun hc8 => ?_) (fun hc8 => ?_)
      · have h := mz_ifp hc8 h
        refine mz_Go.run (gs := []) (st' := (53, [some (.inr (.inr (some (0, 200)))), none, none], [.inl (0 : Int32)], q7.2)) bX12_aCouple_52 oX12_aCouple_52 rfl trivial ?_
        cases h
        exact mz_Go.retz (by decide +kernel) rfl ⟨Nat.le_refl _, Nat.le_refl _⟩ (by decide) rfl
      · have h := mz_ifn hc8 h
        obtain ⟨hb9, h⟩ := mz_gd_some h
        obtain ⟨hb10, h⟩ := mz_gd_some h
        refine mz_Go.run (gs := [mz_kz 0 0 200, mz_kz 0 0 201, mz_ix (2495 : Int32) 3000, mz_kz 0 0 200, mz_kz 0 0 201, mz_ix (2496 : Int32) 3000, mz_kz 0 0 200, mz_kz 0 0 201, mz_ix (((2012 : Int32) + ((8 : Int32) * (q7.2.1 0 201 ((2495 : Int32)).toNatClampNeg))) + (4 : Int32)) 3000, mz_kz 0 0 200, mz_kz 0 0 201, mz_ix (((2012 : Int32) + ((8 : Int32) * (q7.2.1 0 201 ((2496 : Int32)).toNatClampNeg))) + (4 : Int32)) 3000, mz_kz 0 0 200, mz_kz 0 0 201, mz_ix (2001 : Int32) 3000, mz_kz 0 0 201, mz_ix (2001 : Int32) 3000]) (st' := (117, [some (.inr (.inr (some (0, 200)))), some (.inl (q7.2.1 0 201 ((2495 : Int32)).toNatClampNeg)), some (.inl (q7.2.1 0 201 ((2496 : Int32)).toNatClampNeg))], [.inl (1 : Int32)], (mz_wi (mz_wi (mz_wi q7.2 0 201 ((((2012 : Int32) + ((8 : Int32) * (q7.2.1 0 201 ((2495 : Int32)).toNatClampNeg))) + (4 : Int32))).toNatClampNeg (q7.2.1 0 201 ((2496 : Int32)).toNatClampNeg)) 0 201 ((((2012 : Int32) + ((8 : Int32) * (q7.2.1 0 201 ((2496 : Int32)).toNatClampNeg))) + (4 : Int32))).toNatClampNeg (q7.2.1 0 201 ((2495 : Int32)).toNatClampNeg)) 0 201 ((2001 : Int32)).toNatClampNeg (((mz_wi (mz_wi q7.2 0 201 ((((2012 : Int32) + ((8 : Int32) * (q7.2.1 0 201 ((2495 : Int32)).toNatClampNeg))) + (4 : Int32))).toNatClampNeg (q7.2.1 0 201 ((2496 : Int32)).toNatClampNeg)) 0 201 ((((2012 : Int32) + ((8 : Int32) * (q7.2.1 0 201 ((2496 : Int32)).toNatClampNeg))) + (4 : Int32))).toNatClampNeg (q7.2.1 0 201 ((2495 : Int32)).toNatClampNeg)).1 0 201 ((2001 : Int32)).toNatClampNeg) + (1 : Int32))))) bX12_aCouple_54 oX12_aCouple_54 rfl ⟨rfl, rfl, (by decide), rfl, rfl, (by decide), rfl, rfl, hb9, rfl, rfl, hb10, rfl, rfl, (by decide), rfl, (by decide), trivial⟩ ?_
        cases h
        exact mz_Go.retz (by decide +kernel) rfl ⟨Nat.le_refl _, Nat.le_refl _⟩ (by decide) rfl
def bX12_aDish_0 : List mz_E := [(0, .sipush 2060, 0, 0, 0, 2060, 0), (3, .iconst 2, 0, 0, 0, 2, 0), (4, .aload_n 0, 0, 0, 0, 0, 0), (5, .getfield 7, 12, 0, 1576, 0, 0), (8, .sipush 2002, 0, 0, 0, 2002, 0), (11, .iaload, 0, 0, 0, 0, 0), (12, .imul, 0, 0, 0, 0, 0), (13, .iadd, 0, 0, 0, 0, 0), (14, .istore_n 1, 0, 0, 0, 0, 0), (15, .aload_n 0, 0, 0, 0, 0, 0), (16, .getfield 7, 12, 0, 1576, 0, 0), (19, .sipush 2002, 0, 0, 0, 2002, 0), (22, .iaload, 0, 0, 0, 0, 0), (23, .bipush 16, 0, 0, 0, 16, 0), (25, .if_icmp .ne 10, 0, 35, 0, 0, 0)]
theorem oX12_aDish_0 : bX12_aDish_0.all (mz_ok RX12 cX12_aDish 2) = true := by decide +kernel
def bX12_aDish_28 : List mz_E := [(28, .aload_n 0, 0, 0, 0, 0, 0), (29, .bipush 6, 0, 0, 0, 6, 0)]
theorem oX12_aDish_28 : bX12_aDish_28.all (mz_ok RX12 cX12_aDish 2) = true := by decide +kernel
def bX12_aDish_35 : List mz_E := [(35, .aload_n 0, 0, 0, 0, 0, 0)]
theorem oX12_aDish_35 : bX12_aDish_35.all (mz_ok RX12 cX12_aDish 2) = true := by decide +kernel
def bX12_aDish_39 : List mz_E := [(39, .aload_n 0, 0, 0, 0, 0, 0), (40, .iload_n 1, 0, 0, 0, 0, 0), (41, .iconst 1, 0, 0, 0, 1, 0), (42, .sipush 999, 0, 0, 0, 999, 0)]
theorem oX12_aDish_39 : bX12_aDish_39.all (mz_ok RX12 cX12_aDish 2) = true := by decide +kernel
def bX12_aDish_48 : List mz_E := [(48, .ifCond .ne 5, 0, 53, 0, 0, 0)]
theorem oX12_aDish_48 : bX12_aDish_48.all (mz_ok RX12 cX12_aDish 2) = true := by decide +kernel
def bX12_aDish_51 : List mz_E := [(51, .iconst 0, 0, 0, 0, 0, 0)]
theorem oX12_aDish_51 : bX12_aDish_51.all (mz_ok RX12 cX12_aDish 2) = true := by decide +kernel
def bX12_aDish_53 : List mz_E := [(53, .aload_n 0, 0, 0, 0, 0, 0), (54, .getfield 7, 12, 0, 1576, 0, 0), (57, .iload_n 1, 0, 0, 0, 0, 0), (58, .iconst 1, 0, 0, 0, 1, 0), (59, .iadd, 0, 0, 0, 0, 0), (60, .iconst (-1), 0, 0, 0, -1, 0), (61, .iastore, 0, 0, 0, 0, 0), (62, .aload_n 0, 0, 0, 0, 0, 0), (63, .bipush 11, 0, 0, 0, 11, 0)]
theorem oX12_aDish_53 : bX12_aDish_53.all (mz_ok RX12 cX12_aDish 2) = true := by decide +kernel
def bX12_aDish_68 : List mz_E := [(68, .ifCond .eq 25, 0, 93, 0, 0, 0)]
theorem oX12_aDish_68 : bX12_aDish_68.all (mz_ok RX12 cX12_aDish 2) = true := by decide +kernel
def bX12_aDish_93 : List mz_E := [(93, .aload_n 0, 0, 0, 0, 0, 0), (94, .getfield 7, 12, 0, 1576, 0, 0), (97, .sipush 2002, 0, 0, 0, 2002, 0), (100, .dup2, 0, 0, 0, 0, 0), (101, .iaload, 0, 0, 0, 0, 0), (102, .iconst 1, 0, 0, 0, 1, 0), (103, .iadd, 0, 0, 0, 0, 0), (104, .iastore, 0, 0, 0, 0, 0), (105, .iconst 1, 0, 0, 0, 1, 0)]
theorem oX12_aDish_93 : bX12_aDish_93.all (mz_ok RX12 cX12_aDish 2) = true := by decide +kernel
def bX12_aDish_71 : List mz_E := [(71, .aload_n 0, 0, 0, 0, 0, 0), (72, .bipush 24, 0, 0, 0, 24, 0), (74, .aload_n 0, 0, 0, 0, 0, 0), (75, .getfield 7, 12, 0, 1576, 0, 0), (78, .sipush 2000, 0, 0, 0, 2000, 0), (81, .iaload, 0, 0, 0, 0, 0), (82, .iload_n 1, 0, 0, 0, 0, 0), (83, .iconst 1, 0, 0, 0, 1, 0), (84, .iadd, 0, 0, 0, 0, 0)]
theorem oX12_aDish_71 : bX12_aDish_71.all (mz_ok RX12 cX12_aDish 2) = true := by decide +kernel
def bX12_aDish_88 : List mz_E := [(88, .ifCond .ne 5, 0, 93, 0, 0, 0)]
theorem oX12_aDish_88 : bX12_aDish_88.all (mz_ok RX12 cX12_aDish 2) = true := by decide +kernel
def bX12_aDish_91 : List mz_E := [(91, .iconst 0, 0, 0, 0, 0, 0)]
theorem oX12_aDish_91 : bX12_aDish_91.all (mz_ok RX12 cX12_aDish 2) = true := by decide +kernel
abbrev IX12_aDish : mz_I := (yX12_aDish, cX12_aDish, 2, (some .boolean), 0, 7, 0, 0)
theorem kX12_aDish : mz_okm IX12_aDish 1819 141 1818 0 = true := by decide +kernel
theorem vX12_aDish : mz_okV IX12_aDish 1818 66 = true := by decide +kernel
def fX12_aDish_93 (D : mz_D) : Option (Int32 × mz_D) := (some ((1 : Int32), (mz_wi D 0 201 ((2002 : Int32)).toNatClampNeg ((D.1 0 201 ((2002 : Int32)).toNatClampNeg) + (1 : Int32)))))
set_option maxHeartbeats 4000000 in
theorem tX12_aDish_93 (r : (Int32 × mz_D)) : ∀ (D : mz_D), fX12_aDish_93 D = some r → mz_Go IX12_aDish (some (.inl r.1), r.2) 0 0 (93, [some (.inr (.inr (some (0, 200)))), none], [], D) := by
  intro D h
  rw [fX12_aDish_93] at h
  refine mz_Go.run (gs := [mz_kz 0 0 200, mz_kz 0 0 201, mz_ix (2002 : Int32) 3000, mz_kz 0 0 201, mz_ix (2002 : Int32) 3000]) (st' := (106, [some (.inr (.inr (some (0, 200)))), none], [.inl (1 : Int32)], (mz_wi D 0 201 ((2002 : Int32)).toNatClampNeg ((D.1 0 201 ((2002 : Int32)).toNatClampNeg) + (1 : Int32))))) bX12_aDish_93 oX12_aDish_93 rfl ⟨rfl, rfl, (by decide), rfl, (by decide), trivial⟩ ?_
  cases h
  exact mz_Go.retz (by decide +kernel) rfl ⟨Nat.le_refl _, Nat.le_refl _⟩ (by decide) rfl
def fX12_aDish (D : mz_D) : Option (Int32 × mz_D) := (if (D.1 0 201 ((2002 : Int32)).toNatClampNeg) = (16 : Int32) then (Option.bind (fX12_fails (6 : Int32) D) fun q2 => (mz_gd (mz_bo q2.1) (some (q2.1, q2.2)))) else (Option.bind (fX12_ahead D) fun q4 => (Option.bind (fX12_number ((2060 : Int32) + ((2 : Int32) * (D.1 0 201 ((2002 : Int32)).toNatClampNeg))) (1 : Int32) (999 : Int32) q4) fun q5 => (if q5.1 = 0 then (some ((0 : Int32), q5.2)) else (mz_gd (mz_ix (((2060 : Int32) + ((2 : Int32) * (D.1 0 201 ((2002 : Int32)).toNatClampNeg))) + (1 : Int32)) 3000) (Option.bind (fX12_isThere (11 : Int32) (mz_wi q5.2 0 201 ((((2060 : Int32) + ((2 : Int32) * (D.1 0 201 ((2002 : Int32)).toNatClampNeg))) + (1 : Int32))).toNatClampNeg (-1 : Int32))) fun q8 => (if q8.1 = 0 then (fX12_aDish_93 q8.2) else (Option.bind (fX12_oldOne (24 : Int32) (q8.2.1 0 201 ((2000 : Int32)).toNatClampNeg) (((2060 : Int32) + ((2 : Int32) * (D.1 0 201 ((2002 : Int32)).toNatClampNeg))) + (1 : Int32)) q8.2) fun q10 => (if q10.1 = 0 then (some ((0 : Int32), q10.2)) else (fX12_aDish_93 q10.2))))))))))
set_option maxHeartbeats 4000000 in
theorem mX12_aDish (D : mz_D) (r : (Int32 × mz_D)) (h : fX12_aDish D = some r) : mz_Met IX12_aDish [.inr (.inr (some (0, 200)))] D (some (.inl r.1), r.2) := by
  refine mz_Met.of (by decide +kernel) (Nat.le_of_ble_eq_true rfl) ?_
  show mz_Go IX12_aDish (some (.inl r.1), r.2) 0 0 (0, [some (.inr (.inr (some (0, 200)))), none], [], D)
  rw [fX12_aDish] at h
  refine mz_Go.run (gs := [mz_kz 0 0 200, mz_kz 0 0 201, mz_ix (2002 : Int32) 3000, mz_kz 0 0 200, mz_kz 0 0 201, mz_ix (2002 : Int32) 3000]) (st' := (if (D.1 0 201 ((2002 : Int32)).toNatClampNeg) = (16 : Int32) then (28, [some (.inr (.inr (some (0, 200)))), some (.inl ((2060 : Int32) + ((2 : Int32) * (D.1 0 201 ((2002 : Int32)).toNatClampNeg))))], [], D) else (35, [some (.inr (.inr (some (0, 200)))), some (.inl ((2060 : Int32) + ((2 : Int32) * (D.1 0 201 ((2002 : Int32)).toNatClampNeg))))], [], D))) bX12_aDish_0 oX12_aDish_0 rfl ⟨rfl, rfl, (by decide), rfl, rfl, (by decide), trivial⟩ ?_
  refine mz_Go.ite (fun hc1 => ?_) (fun hc1 => ?_)
  · have h := mz_ifp hc1 h
    refine mz_Go.run (gs := []) (st' := (31, [some (.inr (.inr (some (0, 200)))), some (.inl ((2060 : Int32) + ((2 : Int32) * (D.1 0 201 ((2002 : Int32)).toNatClampNeg))))], [.inl (6 : Int32), .inr (.inr (some (0, 200)))], D)) bX12_aDish_28 oX12_aDish_28 rfl trivial ?_
    obtain ⟨q2, hq2, h⟩ := mz_bd_some h
    refine mz_Go.callV (I := IX12_aDish) (J := IX12_fails) (as := [.inl (6 : Int32)]) (ci := 12) (g := 0) (o := 200) (idx := 157) (pl := 1780) (rest := []) (mX12_fails (6 : Int32) D q2 hq2) kX12_fails vX12_fails (by decide +kernel) (by decide +kernel) (by decide +kernel) rfl rfl ⟨rfl, rfl⟩ rfl rfl rfl rfl ?_
    obtain ⟨hb3, h⟩ := mz_gd_some h
    cases h
    exact mz_Go.retz (by decide +kernel) rfl ⟨Nat.le_refl _, Nat.le_refl _⟩ hb3 rfl
  · have h := mz_ifn hc1 h
    refine mz_Go.run (gs := []) (st' := (36, [some (.inr (.inr (some (0, 200)))), some (.inl ((2060 : Int32) + ((2 : Int32) * (D.1 0 201 ((2002 : Int32)).toNatClampNeg))))], [.inr (.inr (some (0, 200)))], D)) bX12_aDish_35 oX12_aDish_35 rfl trivial ?_
    obtain ⟨q4, hq4, h⟩ := mz_bd_some h
    refine mz_Go.callV (I := IX12_aDish) (J := IX12_ahead) (as := []) (ci := 12) (g := 0) (o := 200) (idx := 151) (pl := 1745) (rest := []) (mX12_ahead D q4 hq4) kX12_ahead vX12_ahead (by decide +kernel) (by decide +kernel) (by decide +kernel) rfl rfl ⟨rfl, rfl⟩ rfl rfl rfl rfl ?_
    refine mz_Go.run (gs := []) (st' := (45, [some (.inr (.inr (some (0, 200)))), some (.inl ((2060 : Int32) + ((2 : Int32) * (D.1 0 201 ((2002 : Int32)).toNatClampNeg))))], [.inl (999 : Int32), .inl (1 : Int32), .inl ((2060 : Int32) + ((2 : Int32) * (D.1 0 201 ((2002 : Int32)).toNatClampNeg))), .inr (.inr (some (0, 200)))], q4)) bX12_aDish_39 oX12_aDish_39 rfl trivial ?_
    obtain ⟨q5, hq5, h⟩ := mz_bd_some h
    refine mz_Go.callV (I := IX12_aDish) (J := IX12_number) (as := [.inl ((2060 : Int32) + ((2 : Int32) * (D.1 0 201 ((2002 : Int32)).toNatClampNeg))), .inl (1 : Int32), .inl (999 : Int32)]) (ci := 12) (g := 0) (o := 200) (idx := 184) (pl := 1800) (rest := []) (mX12_number ((2060 : Int32) + ((2 : Int32) * (D.1 0 201 ((2002 : Int32)).toNatClampNeg))) (1 : Int32) (999 : Int32) q4 q5 hq5) kX12_number vX12_number (by decide +kernel) (by decide +kernel) (by decide +kernel) rfl rfl ⟨rfl, rfl⟩ rfl rfl rfl rfl ?_
    refine mz_Go.run (gs := []) (st' := (if q5.1 = 0 then (51, [some (.inr (.inr (some (0, 200)))), some (.inl ((2060 : Int32) + ((2 : Int32) * (D.1 0 201 ((2002 : Int32)).toNatClampNeg))))], [], q5.2) else (53, [some (.inr (.inr (some (0, 200)))), some (.inl ((2060 : Int32) + ((2 : Int32) * (D.1 0 201 ((2002 : Int32)).toNatClampNeg))))], [], q5.2))) bX12_aDish_48 oX12_aDish_48 rfl trivial ?_
    refine mz_Go.ite (fun hc6 => ?_) (fun hc6 => ?_)
    · have h := mz_ifp hc6 h
      refine mz_Go.run (gs := []) (st' := (52, [some (.inr (.inr (some (0, 200)))), some (.inl ((2060 : Int32) + ((2 : Int32) * (D.1 0 201 ((2002 : Int32)).toNatClampNeg))))], [.inl (0 : Int32)], q5.2)) bX12_aDish_51 oX12_aDish_51 rfl trivial ?_
      cases h
      exact mz_Go.retz (by decide +kernel) rfl ⟨Nat.le_refl _, Nat.le_refl _⟩ (by decide) rfl
    · have h := mz_ifn hc6 h
      obtain ⟨hb7, h⟩ := mz_gd_some h
      refine mz_Go.run (gs := [mz_kz 0 0 200, mz_kz 0 0 201, mz_ix (((2060 : Int32) + ((2 : Int32) * (D.1 0 201 ((2002 : Int32)).toNatClampNeg))) + (1 : Int32)) 3000]) (st' := (65, [some (.inr (.inr (some (0, 200)))), some (.inl ((2060 : Int32) + ((2 : Int32) * (D.1 0 201 ((2002 : Int32)).toNatClampNeg))))], [.inl (11 : Int32), .inr (.inr (some (0, 200)))], (mz_wi q5.2 0 201 ((((2060 : Int32) + ((2 : Int32) * (D.1 0 201 ((2002 : Int32)).toNatClampNeg))) + (1 : Int32))).toNatClampNeg (-1 : Int32)))) bX12_aDish_53 oX12_aDish_53 rfl ⟨rfl, rfl, hb7, trivial⟩ ?_
      obtain ⟨q8, hq8, h⟩ := mz_bd_some h
      refine mz_Go.callV (I := IX12_aDish) (J := IX12_isThere) (as := [.inl (11 : Int32)]) (ci := 12) (g := 0) (o := 200) (idx := 181) (pl := 1796) (rest := []) (mX12_isThere (11 : Int32) (mz_wi q5.2 0 201 ((((2060 : Int32) + ((2 : Int32) * (D.1 0 201 ((2002 : Int32)).toNatClampNeg))) + (1 : Int32))).toNatClampNeg (-1 : Int32)) q8 hq8) kX12_isThere vX12_isThere (by decide +kernel) (by decide +kernel) (by decide +kernel) rfl rfl ⟨rfl, rfl⟩ rfl rfl rfl rfl ?_
      refine mz_Go.run (gs := []) (st' := (if q8.1 = 0 then (93, [some (.inr (.inr (some (0, 200)))), some (.inl ((2060 : Int32) + ((2 : Int32) * (D.1 0 201 ((2002 : Int32)).toNatClampNeg))))], [], q8.2) else (71, [some (.inr (.inr (some (0, 200)))), some (.inl ((2060 : Int32) + ((2 : Int32) * (D.1 0 201 ((2002 : Int32)).toNatClampNeg))))], [], q8.2))) bX12_aDish_68 oX12_aDish_68 rfl trivial ?_
      refine mz_Go.ite (fun hc9 => ?_) (fun hc9 => ?_)
      · have h := mz_ifp hc9 h
        exact mz_Go.drop [true, false] (tX12_aDish_93 r q8.2 h)
      · have h := mz_ifn hc9 h
        refine mz_Go.run (gs := [mz_kz 0 0 200, mz_kz 0 0 201, mz_ix (2000 : Int32) 3000]) (st' := (85, [some (.inr (.inr (some (0, 200)))), some (.inl ((2060 : Int32) + ((2 : Int32) * (D.1 0 201 ((2002 : Int32)).toNatClampNeg))))], [.inl (((2060 : Int32) + ((2 : Int32) * (D.1 0 201 ((2002 : Int32)).toNatClampNeg))) + (1 : Int32)), .inl (q8.2.1 0 201 ((2000 : Int32)).toNatClampNeg), .inl (24 : Int32), .inr (.inr (some (0, 200)))], q8.2)) bX12_aDish_71 oX12_aDish_71 rfl ⟨rfl, rfl, (by decide), trivial⟩ ?_
        obtain ⟨q10, hq10, h⟩ := mz_bd_some h
        refine mz_Go.callV (I := IX12_aDish) (J := IX12_oldOne) (as := [.inl (24 : Int32), .inl (q8.2.1 0 201 ((2000 : Int32)).toNatClampNeg), .inl (((2060 : Int32) + ((2 : Int32) * (D.1 0 201 ((2002 : Int32)).toNatClampNeg))) + (1 : Int32))]) (ci := 12) (g := 0) (o := 200) (idx := 177) (pl := 1812) (rest := []) (mX12_oldOne (24 : Int32) (q8.2.1 0 201 ((2000 : Int32)).toNatClampNeg) (((2060 : Int32) + ((2 : Int32) * (D.1 0 201 ((2002 : Int32)).toNatClampNeg))) + (1 : Int32)) q8.2 q10 hq10) kX12_oldOne vX12_oldOne (by decide +kernel) (by decide +kernel) (by decide +kernel) rfl rfl ⟨rfl, rfl⟩ rfl rfl rfl rfl ?_
        refine mz_Go.run (gs := []) (st' := (if q10.1 = 0 then (91, [some (.inr (.inr (some (0, 200)))), some (.inl ((2060 : Int32) + ((2 : Int32) * (D.1 0 201 ((2002 : Int32)).toNatClampNeg))))], [], q10.2) else (93, [some (.inr (.inr (some (0, 200)))), some (.inl ((2060 : Int32) + ((2 : Int32) * (D.1 0 201 ((2002 : Int32)).toNatClampNeg))))], [], q10.2))) bX12_aDish_88 oX12_aDish_88 rfl trivial ?_
        refine mz_Go.ite (fun hc11 => ?_) (fun hc11 => ?_)
        · have h := mz_ifp hc11 h
          refine mz_Go.run (gs := []) (st' := (92, [some (.inr (.inr (some (0, 200)))), some (.inl ((2060 : Int32) + ((2 : Int32) * (D.1 0 201 ((2002 : Int32)).toNatClampNeg))))], [.inl (0 : Int32)], q10.2)) bX12_aDish_91 oX12_aDish_91 rfl trivial ?_
          cases h
          exact mz_Go.retz (by decide +kernel) rfl ⟨Nat.le_refl _, Nat.le_refl _⟩ (by decide) rfl
        · have h := mz_ifn hc11 h
          exact mz_Go.drop [true, false] (tX12_aDish_93 r q10.2 h)
def bX12_aDebt_0 : List mz_E := [(0, .aload_n 0, 0, 0, 0, 0, 0), (1, .getfield 7, 12, 0, 1576, 0, 0), (4, .sipush 2000, 0, 0, 0, 2000, 0), (7, .iaload, 0, 0, 0, 0, 0), (8, .istore_n 1, 0, 0, 0, 0, 0), (9, .aload_n 0, 0, 0, 0, 0, 0)]
theorem oX12_aDebt_0 : bX12_aDebt_0.all (mz_ok RX12 cX12_aDebt 2) = true := by decide +kernel
def bX12_aDebt_13 : List mz_E := [(13, .aload_n 0, 0, 0, 0, 0, 0), (14, .bipush 24, 0, 0, 0, 24, 0), (16, .iload_n 1, 0, 0, 0, 0, 0), (17, .sipush 2495, 0, 0, 0, 2495, 0)]
theorem oX12_aDebt_13 : bX12_aDebt_13.all (mz_ok RX12 cX12_aDebt 2) = true := by decide +kernel
def bX12_aDebt_23 : List mz_E := [(23, .ifCond .eq 19, 0, 42, 0, 0, 0)]
theorem oX12_aDebt_23 : bX12_aDebt_23.all (mz_ok RX12 cX12_aDebt 2) = true := by decide +kernel
def bX12_aDebt_42 : List mz_E := [(42, .iconst 0, 0, 0, 0, 0, 0)]
theorem oX12_aDebt_42 : bX12_aDebt_42.all (mz_ok RX12 cX12_aDebt 2) = true := by decide +kernel
def bX12_aDebt_26 : List mz_E := [(26, .aload_n 0, 0, 0, 0, 0, 0), (27, .bipush 24, 0, 0, 0, 24, 0), (29, .iload_n 1, 0, 0, 0, 0, 0), (30, .sipush 2495, 0, 0, 0, 2495, 0), (33, .sipush 2496, 0, 0, 0, 2496, 0)]
theorem oX12_aDebt_26 : bX12_aDebt_26.all (mz_ok RX12 cX12_aDebt 2) = true := by decide +kernel
def bX12_aDebt_39 : List mz_E := [(39, .ifCond .ne 5, 0, 44, 0, 0, 0)]
theorem oX12_aDebt_39 : bX12_aDebt_39.all (mz_ok RX12 cX12_aDebt 2) = true := by decide +kernel
def bX12_aDebt_44 : List mz_E := [(44, .aload_n 0, 0, 0, 0, 0, 0), (45, .sipush 2092, 0, 0, 0, 2092, 0), (48, .bipush 6, 0, 0, 0, 6, 0), (50, .aload_n 0, 0, 0, 0, 0, 0), (51, .getfield 7, 12, 0, 1576, 0, 0), (54, .sipush 2495, 0, 0, 0, 2495, 0), (57, .iaload, 0, 0, 0, 0, 0), (58, .imul, 0, 0, 0, 0, 0), (59, .iadd, 0, 0, 0, 0, 0), (60, .aload_n 0, 0, 0, 0, 0, 0), (61, .getfield 7, 12, 0, 1576, 0, 0), (64, .sipush 2496, 0, 0, 0, 2496, 0), (67, .iaload, 0, 0, 0, 0, 0), (68, .iadd, 0, 0, 0, 0, 0), (69, .iconst 0, 0, 0, 0, 0, 0), (70, .sipush 9999, 0, 0, 0, 9999, 0)]
theorem oX12_aDebt_44 : bX12_aDebt_44.all (mz_ok RX12 cX12_aDebt 2) = true := by decide +kernel
abbrev IX12_aDebt : mz_I := (yX12_aDebt, cX12_aDebt, 2, (some .boolean), 0, 8, 0, 0)
theorem kX12_aDebt : mz_okm IX12_aDebt 1823 141 1822 0 = true := by decide +kernel
theorem vX12_aDebt : mz_okV IX12_aDebt 1822 67 = true := by decide +kernel
def fX12_aDebt (D : mz_D) : Option (Int32 × mz_D) := (Option.bind (fX12_ahead D) fun q1 => (Option.bind (fX12_oldOne (24 : Int32) (D.1 0 201 ((2000 : Int32)).toNatClampNeg) (2495 : Int32) q1) fun q2 => (if q2.1 = 0 then (some ((0 : Int32), q2.2)) else (Option.bind (fX12_otherOne (24 : Int32) (D.1 0 201 ((2000 : Int32)).toNatClampNeg) (2495 : Int32) (2496 : Int32) q2.2) fun q4 => (if q4.1 = 0 then (some ((0 : Int32), q4.2)) else (Option.bind (fX12_number (((2092 : Int32) + ((6 : Int32) * (q4.2.1 0 201 ((2495 : Int32)).toNatClampNeg))) + (q4.2.1 0 201 ((2496 : Int32)).toNatClampNeg)) (0 : Int32) (9999 : Int32) q4.2) fun q6 => (mz_gd (mz_bo q6.1) (some (q6.1, q6.2)))))))))
set_option maxHeartbeats 4000000 in
theorem mX12_aDebt (D : mz_D) (r : (Int32 × mz_D)) (h : fX12_aDebt D = some r) : mz_Met IX12_aDebt [.inr (.inr (some (0, 200)))] D (some (.inl r.1), r.2) := by
  refine mz_Met.of (by decide +kernel) (Nat.le_of_ble_eq_true rfl) ?_
  show mz_Go IX12_aDebt (some (.inl r.1), r.2) 0 0 (0, [some (.inr (.inr (some (0, 200)))), none], [], D)
  rw [fX12_aDebt] at h
  refine mz_Go.run (gs := [mz_kz 0 0 200, mz_kz 0 0 201, mz_ix (2000 : Int32) 3000]) (st' := (10, [some (.inr (.inr (some (0, 200)))), some (.inl (D.1 0 201 ((2000 : Int32)).toNatClampNeg))], [.inr (.inr (some (0, 200)))], D)) bX12_aDebt_0 oX12_aDebt_0 rfl ⟨rfl, rfl, (by decide), trivial⟩ ?_
  obtain ⟨q1, hq1, h⟩ := mz_bd_some h
  refine mz_Go.callV (I := IX12_aDebt) (J := IX12_ahead) (as := []) (ci := 12) (g := 0) (o := 200) (idx := 151) (pl := 1745) (rest := []) (mX12_ahead D q1 hq1) kX12_ahead vX12_ahead (by decide +kernel) (by decide +kernel) (by decide +kernel) rfl rfl ⟨rfl, rfl⟩ rfl rfl rfl rfl ?_
  refine mz_Go.run (gs := []) (st' := (20, [some (.inr (.inr (some (0, 200)))), some (.inl (D.1 0 201 ((2000 : Int32)).toNatClampNeg))], [.inl (2495 : Int32), .inl (D.1 0 201 ((2000 : Int32)).toNatClampNeg), .inl (24 : Int32), .inr (.inr (some (0, 200)))], q1)) bX12_aDebt_13 oX12_aDebt_13 rfl trivial ?_
  obtain ⟨q2, hq2, h⟩ := mz_bd_some h
  refine mz_Go.callV (I := IX12_aDebt) (J := IX12_oldOne) (as := [.inl (24 : Int32), .inl (D.1 0 201 ((2000 : Int32)).toNatClampNeg), .inl (2495 : Int32)]) (ci := 12) (g := 0) (o := 200) (idx := 177) (pl := 1812) (rest := []) (mX12_oldOne (24 : Int32) (D.1 0 201 ((2000 : Int32)).toNatClampNeg) (2495 : Int32) q1 q2 hq2) kX12_oldOne vX12_oldOne (by decide +kernel) (by decide +kernel) (by decide +kernel) rfl rfl ⟨rfl, rfl⟩ rfl rfl rfl rfl ?_
  refine mz_Go.run (gs := []) (st' := (if q2.1 = 0 then (42, [some (.inr (.inr (some (0, 200)))), some (.inl (D.1 0 201 ((2000 : Int32)).toNatClampNeg))], [], q2.2) else (26, [some (.inr (.inr (some (0, 200)))), some (.inl (D.1 0 201 ((2000 : Int32)).toNatClampNeg))], [], q2.2))) bX12_aDebt_23 oX12_aDebt_23 rfl trivial ?_
  refine mz_Go.ite (fun hc3 => ?_) (fun hc3 => ?_)
  · have h := mz_ifp hc3 h
    refine mz_Go.run (gs := []) (st' := (43, [some (.inr (.inr (some (0, 200)))), some (.inl (D.1 0 201 ((2000 : Int32)).toNatClampNeg))], [.inl (0 : Int32)], q2.2)) bX12_aDebt_42 oX12_aDebt_42 rfl trivial ?_
    cases h
    exact mz_Go.retz (by decide +kernel) rfl ⟨Nat.le_refl _, Nat.le_refl _⟩ (by decide) rfl
  · have h := mz_ifn hc3 h
    refine mz_Go.run (gs := []) (st' := (36, [some (.inr (.inr (some (0, 200)))), some (.inl (D.1 0 201 ((2000 : Int32)).toNatClampNeg))], [.inl (2496 : Int32), .inl (2495 : Int32), .inl (D.1 0 201 ((2000 : Int32)).toNatClampNeg), .inl (24 : Int32), .inr (.inr (some (0, 200)))], q2.2)) bX12_aDebt_26 oX12_aDebt_26 rfl trivial ?_
    obtain ⟨q4, hq4, h⟩ := mz_bd_some h
    refine mz_Go.callV (I := IX12_aDebt) (J := IX12_otherOne) (as := [.inl (24 : Int32), .inl (D.1 0 201 ((2000 : Int32)).toNatClampNeg), .inl (2495 : Int32), .inl (2496 : Int32)]) (ci := 12) (g := 0) (o := 200) (idx := 191) (pl := 1824) (rest := []) (mX12_otherOne (24 : Int32) (D.1 0 201 ((2000 : Int32)).toNatClampNeg) (2495 : Int32) (2496 : Int32) q2.2 q4 hq4) kX12_otherOne vX12_otherOne (by decide +kernel) (by decide +kernel) (by decide +kernel) rfl rfl ⟨rfl, rfl⟩ rfl rfl rfl rfl ?_
    refine mz_Go.run (gs := []) (st' := (if q4.1 = 0 then (42, [some (.inr (.inr (some (0, 200)))), some (.inl (D.1 0 201 ((2000 : Int32)).toNatClampNeg))], [], q4.2) else (44, [some (.inr (.inr (some (0, 200)))), some (.inl (D.1 0 201 ((2000 : Int32)).toNatClampNeg))], [], q4.2))) bX12_aDebt_39 oX12_aDebt_39 rfl trivial ?_
    refine mz_Go.ite (fun hc5 => ?_) (fun hc5 => ?_)
    · have h := mz_ifp hc5 h
      refine mz_Go.run (gs := []) (st' := (43, [some (.inr (.inr (some (0, 200)))), some (.inl (D.1 0 201 ((2000 : Int32)).toNatClampNeg))], [.inl (0 : Int32)], q4.2)) bX12_aDebt_42 oX12_aDebt_42 rfl trivial ?_
      cases h
      exact mz_Go.retz (by decide +kernel) rfl ⟨Nat.le_refl _, Nat.le_refl _⟩ (by decide) rfl
    · have h := mz_ifn hc5 h
      refine mz_Go.run (gs := [mz_kz 0 0 200, mz_kz 0 0 201, mz_ix (2495 : Int32) 3000, mz_kz 0 0 200, mz_kz 0 0 201, mz_ix (2496 : Int32) 3000]) (st' := (73, [some (.inr (.inr (some (0, 200)))), some (.inl (D.1 0 201 ((2000 : Int32)).toNatClampNeg))], [.inl (9999 : Int32), .inl (0 : Int32), .inl (((2092 : Int32) + ((6 : Int32) * (q4.2.1 0 201 ((2495 : Int32)).toNatClampNeg))) + (q4.2.1 0 201 ((2496 : Int32)).toNatClampNeg)), .inr (.inr (some (0, 200)))], q4.2)) bX12_aDebt_44 oX12_aDebt_44 rfl ⟨rfl, rfl, (by decide), rfl, rfl, (by decide), trivial⟩ ?_
      obtain ⟨q6, hq6, h⟩ := mz_bd_some h
      refine mz_Go.callV (I := IX12_aDebt) (J := IX12_number) (as := [.inl (((2092 : Int32) + ((6 : Int32) * (q4.2.1 0 201 ((2495 : Int32)).toNatClampNeg))) + (q4.2.1 0 201 ((2496 : Int32)).toNatClampNeg)), .inl (0 : Int32), .inl (9999 : Int32)]) (ci := 12) (g := 0) (o := 200) (idx := 184) (pl := 1800) (rest := []) (mX12_number (((2092 : Int32) + ((6 : Int32) * (q4.2.1 0 201 ((2495 : Int32)).toNatClampNeg))) + (q4.2.1 0 201 ((2496 : Int32)).toNatClampNeg)) (0 : Int32) (9999 : Int32) q4.2 q6 hq6) kX12_number vX12_number (by decide +kernel) (by decide +kernel) (by decide +kernel) rfl rfl ⟨rfl, rfl⟩ rfl rfl rfl rfl ?_
      obtain ⟨hb7, h⟩ := mz_gd_some h
      cases h
      exact mz_Go.retz (by decide +kernel) rfl ⟨Nat.le_refl _, Nat.le_refl _⟩ hb7 rfl
def bX12_once_0 : List mz_E := [(0, .aload_n 0, 0, 0, 0, 0, 0), (1, .getfield 195, 12, 20, 1596, 0, 0), (4, .iload_n 1, 0, 0, 0, 0, 0), (5, .ishr, 0, 0, 0, 0, 0), (6, .iconst 1, 0, 0, 0, 1, 0), (7, .iand, 0, 0, 0, 0, 0), (8, .iconst 1, 0, 0, 0, 1, 0), (9, .if_icmp .ne 9, 0, 18, 0, 0, 0)]
theorem oX12_once_0 : bX12_once_0.all (mz_ok RX12 cX12_once 4) = true := by decide +kernel
def bX12_once_12 : List mz_E := [(12, .aload_n 0, 0, 0, 0, 0, 0), (13, .iconst 5, 0, 0, 0, 5, 0)]
theorem oX12_once_12 : bX12_once_12.all (mz_ok RX12 cX12_once 4) = true := by decide +kernel
def bX12_once_18 : List mz_E := [(18, .aload_n 0, 0, 0, 0, 0, 0), (19, .dup, 0, 0, 0, 0, 0), (20, .getfield 195, 12, 20, 1596, 0, 0), (23, .iconst 1, 0, 0, 0, 1, 0), (24, .iload_n 1, 0, 0, 0, 0, 0), (25, .ishl, 0, 0, 0, 0, 0), (26, .ior, 0, 0, 0, 0, 0), (27, .putfield 195, 12, 20, 1596, 0, 0), (30, .aload_n 0, 0, 0, 0, 0, 0)]
theorem oX12_once_18 : bX12_once_18.all (mz_ok RX12 cX12_once 4) = true := by decide +kernel
def bX12_once_34 : List mz_E := [(34, .aload_n 0, 0, 0, 0, 0, 0)]
theorem oX12_once_34 : bX12_once_34.all (mz_ok RX12 cX12_once 4) = true := by decide +kernel
def bX12_once_40 : List mz_E := [(40, .istore_n 2, 0, 0, 0, 0, 0), (41, .iload_n 1, 0, 0, 0, 0, 0), (42, .iconst 4, 0, 0, 0, 4, 0), (43, .if_icmp .ne 37, 0, 80, 0, 0, 0)]
theorem oX12_once_40 : bX12_once_40.all (mz_ok RX12 cX12_once 4) = true := by decide +kernel
def bX12_once_46 : List mz_E := [(46, .iload_n 2, 0, 0, 0, 0, 0), (47, .bipush 12, 0, 0, 0, 12, 0), (49, .if_icmp .ne 7, 0, 56, 0, 0, 0)]
theorem oX12_once_46 : bX12_once_46.all (mz_ok RX12 cX12_once 4) = true := by decide +kernel
def bX12_once_52 : List mz_E := [(52, .iconst 0, 0, 0, 0, 0, 0), (53, .goto 68, 0, 121, 0, 0, 0)]
theorem oX12_once_52 : bX12_once_52.all (mz_ok RX12 cX12_once 4) = true := by decide +kernel
def bX12_once_121 : List mz_E := [(121, .istore_n 3, 0, 0, 0, 0, 0), (122, .iload_n 3, 0, 0, 0, 0, 0), (123, .iconst (-1), 0, 0, 0, -1, 0), (124, .if_icmp .ne 9, 0, 133, 0, 0, 0)]
theorem oX12_once_121 : bX12_once_121.all (mz_ok RX12 cX12_once 4) = true := by decide +kernel
def bX12_once_127 : List mz_E := [(127, .aload_n 0, 0, 0, 0, 0, 0), (128, .iconst 2, 0, 0, 0, 2, 0)]
theorem oX12_once_127 : bX12_once_127.all (mz_ok RX12 cX12_once 4) = true := by decide +kernel
def bX12_once_133 : List mz_E := [(133, .aload_n 0, 0, 0, 0, 0, 0), (134, .getfield 7, 12, 0, 1576, 0, 0), (137, .sipush 2000, 0, 0, 0, 2000, 0), (140, .iload_n 1, 0, 0, 0, 0, 0), (141, .iconst 4, 0, 0, 0, 4, 0), (142, .if_icmp .ne 7, 0, 149, 0, 0, 0)]
theorem oX12_once_133 : bX12_once_133.all (mz_ok RX12 cX12_once 4) = true := by decide +kernel
def bX12_once_145 : List mz_E := [(145, .iconst 3, 0, 0, 0, 3, 0), (146, .goto 4, 0, 150, 0, 0, 0)]
theorem oX12_once_145 : bX12_once_145.all (mz_ok RX12 cX12_once 4) = true := by decide +kernel
def bX12_once_150 : List mz_E := [(150, .iadd, 0, 0, 0, 0, 0), (151, .iload_n 3, 0, 0, 0, 0, 0), (152, .iastore, 0, 0, 0, 0, 0), (153, .aload_n 0, 0, 0, 0, 0, 0)]
theorem oX12_once_150 : bX12_once_150.all (mz_ok RX12 cX12_once 4) = true := by decide +kernel
def bX12_once_157 : List mz_E := [(157, .iconst 1, 0, 0, 0, 1, 0)]
theorem oX12_once_157 : bX12_once_157.all (mz_ok RX12 cX12_once 4) = true := by decide +kernel
def bX12_once_149 : List mz_E := [(149, .iconst 4, 0, 0, 0, 4, 0)]
theorem oX12_once_149 : bX12_once_149.all (mz_ok RX12 cX12_once 4) = true := by decide +kernel
def bX12_once_56 : List mz_E := [(56, .iload_n 2, 0, 0, 0, 0, 0), (57, .bipush 13, 0, 0, 0, 13, 0), (59, .if_icmp .ne 7, 0, 66, 0, 0, 0)]
theorem oX12_once_56 : bX12_once_56.all (mz_ok RX12 cX12_once 4) = true := by decide +kernel
def bX12_once_62 : List mz_E := [(62, .iconst 1, 0, 0, 0, 1, 0), (63, .goto 58, 0, 121, 0, 0, 0)]
theorem oX12_once_62 : bX12_once_62.all (mz_ok RX12 cX12_once 4) = true := by decide +kernel
def bX12_once_66 : List mz_E := [(66, .iload_n 2, 0, 0, 0, 0, 0), (67, .bipush 14, 0, 0, 0, 14, 0), (69, .if_icmp .ne 7, 0, 76, 0, 0, 0)]
theorem oX12_once_66 : bX12_once_66.all (mz_ok RX12 cX12_once 4) = true := by decide +kernel
def bX12_once_72 : List mz_E := [(72, .iconst 2, 0, 0, 0, 2, 0), (73, .goto 48, 0, 121, 0, 0, 0)]
theorem oX12_once_72 : bX12_once_72.all (mz_ok RX12 cX12_once 4) = true := by decide +kernel
def bX12_once_76 : List mz_E := [(76, .iconst (-1), 0, 0, 0, -1, 0), (77, .goto 44, 0, 121, 0, 0, 0)]
theorem oX12_once_76 : bX12_once_76.all (mz_ok RX12 cX12_once 4) = true := by decide +kernel
def bX12_once_80 : List mz_E := [(80, .iload_n 2, 0, 0, 0, 0, 0), (81, .bipush 15, 0, 0, 0, 15, 0), (83, .if_icmp .ne 7, 0, 90, 0, 0, 0)]
theorem oX12_once_80 : bX12_once_80.all (mz_ok RX12 cX12_once 4) = true := by decide +kernel
def bX12_once_86 : List mz_E := [(86, .iconst 0, 0, 0, 0, 0, 0), (87, .goto 34, 0, 121, 0, 0, 0)]
theorem oX12_once_86 : bX12_once_86.all (mz_ok RX12 cX12_once 4) = true := by decide +kernel
def bX12_once_90 : List mz_E := [(90, .iload_n 2, 0, 0, 0, 0, 0), (91, .bipush 16, 0, 0, 0, 16, 0), (93, .if_icmp .ne 7, 0, 100, 0, 0, 0)]
theorem oX12_once_90 : bX12_once_90.all (mz_ok RX12 cX12_once 4) = true := by decide +kernel
def bX12_once_96 : List mz_E := [(96, .iconst 1, 0, 0, 0, 1, 0), (97, .goto 24, 0, 121, 0, 0, 0)]
theorem oX12_once_96 : bX12_once_96.all (mz_ok RX12 cX12_once 4) = true := by decide +kernel
def bX12_once_100 : List mz_E := [(100, .iload_n 2, 0, 0, 0, 0, 0), (101, .bipush 7, 0, 0, 0, 7, 0), (103, .if_icmp .ne 7, 0, 110, 0, 0, 0)]
theorem oX12_once_100 : bX12_once_100.all (mz_ok RX12 cX12_once 4) = true := by decide +kernel
def bX12_once_106 : List mz_E := [(106, .iconst 2, 0, 0, 0, 2, 0), (107, .goto 14, 0, 121, 0, 0, 0)]
theorem oX12_once_106 : bX12_once_106.all (mz_ok RX12 cX12_once 4) = true := by decide +kernel
def bX12_once_110 : List mz_E := [(110, .iload_n 2, 0, 0, 0, 0, 0), (111, .bipush 6, 0, 0, 0, 6, 0), (113, .if_icmp .ne 7, 0, 120, 0, 0, 0)]
theorem oX12_once_110 : bX12_once_110.all (mz_ok RX12 cX12_once 4) = true := by decide +kernel
def bX12_once_116 : List mz_E := [(116, .iconst 3, 0, 0, 0, 3, 0), (117, .goto 4, 0, 121, 0, 0, 0)]
theorem oX12_once_116 : bX12_once_116.all (mz_ok RX12 cX12_once 4) = true := by decide +kernel
def bX12_once_120 : List mz_E := [(120, .iconst (-1), 0, 0, 0, -1, 0)]
theorem oX12_once_120 : bX12_once_120.all (mz_ok RX12 cX12_once 4) = true := by decide +kernel
abbrev IX12_once : mz_I := (yX12_once, cX12_once, 4, (some .boolean), 0, 5, 0, 0)
theorem kX12_once : mz_okm IX12_once 1831 141 1830 1 = true := by decide +kernel
theorem vX12_once : mz_okV IX12_once 1830 69 = true := by decide +kernel
def fX12_once_150 (x3 : Int32) (s0 : Int32) (s1 : Int32) (D : mz_D) : Option (Int32 × mz_D) := (mz_gd (mz_ix (s1 + s0) 3000) (Option.bind (fX12_ahead (mz_wi D 0 201 ((s1 + s0)).toNatClampNeg x3)) fun q2 => (some ((1 : Int32), q2))))
set_option maxHeartbeats 4000000 in
theorem tX12_once_150 (r : (Int32 × mz_D)) : ∀ (x3 : Int32) (s0 : Int32) (s1 : Int32) (D : mz_D), fX12_once_150 x3 s0 s1 D = some r → mz_Go IX12_once (some (.inl r.1), r.2) 0 0 (150, [some (.inr (.inr (some (0, 200)))), none, none, some (.inl x3)], [.inl s0, .inl s1, .inr (.inr (some (0, 201)))], D) := by
  intro x3 s0 s1 D h
  rw [fX12_once_150] at h
  obtain ⟨hb1, h⟩ := mz_gd_some h
  refine mz_Go.run (gs := [mz_kz 0 0 201, mz_ix (s1 + s0) 3000]) (st' := (154, [some (.inr (.inr (some (0, 200)))), none, none, some (.inl x3)], [.inr (.inr (some (0, 200)))], (mz_wi D 0 201 ((s1 + s0)).toNatClampNeg x3))) bX12_once_150 oX12_once_150 rfl ⟨rfl, hb1, trivial⟩ ?_
  obtain ⟨q2, hq2, h⟩ := mz_bd_some h
  refine mz_Go.callV (I := IX12_once) (J := IX12_ahead) (as := []) (ci := 12) (g := 0) (o := 200) (idx := 151) (pl := 1745) (rest := []) (mX12_ahead (mz_wi D 0 201 ((s1 + s0)).toNatClampNeg x3) q2 hq2) kX12_ahead vX12_ahead (by decide +kernel) (by decide +kernel) (by decide +kernel) rfl rfl ⟨rfl, rfl⟩ rfl rfl rfl rfl ?_
  refine mz_Go.run (gs := []) (st' := (158, [some (.inr (.inr (some (0, 200)))), none, none, some (.inl x3)], [.inl (1 : Int32)], q2)) bX12_once_157 oX12_once_157 rfl trivial ?_
  cases h
  exact mz_Go.retz (by decide +kernel) rfl ⟨Nat.le_refl _, Nat.le_refl _⟩ (by decide) rfl
def fX12_once_121 (x1 : Int32) (s0 : Int32) (D : mz_D) : Option (Int32 × mz_D) := (if s0 = (-1 : Int32) then (Option.bind (fX12_fails (2 : Int32) D) fun q2 => (mz_gd (mz_bo q2.1) (some (q2.1, q2.2)))) else (if x1 = (4 : Int32) then (fX12_once_150 s0 (3 : Int32) (2000 : Int32) D) else (fX12_once_150 s0 (4 : Int32) (2000 : Int32) D)))
set_option maxHeartbeats 4000000 in
theorem tX12_once_121 (r : (Int32 × mz_D)) : ∀ (x1 : Int32) (s0 : Int32) (D : mz_D), fX12_once_121 x1 s0 D = some r → mz_Go IX12_once (some (.inl r.1), r.2) 0 0 (121, [some (.inr (.inr (some (0, 200)))), some (.inl x1), none, none], [.inl s0], D) := by
  intro x1 s0 D h
  rw [fX12_once_121] at h
  refine mz_Go.run (gs := []) (st' := (if s0 = (-1 : Int32) then (127, [some (.inr (.inr (some (0, 200)))), some (.inl x1), none, some (.inl s0)], [], D) else (133, [some (.inr (.inr (some (0, 200)))), some (.inl x1), none, some (.inl s0)], [], D))) bX12_once_121 oX12_once_121 rfl trivial ?_
  refine mz_Go.ite (fun hc1 => ?_) (fun hc1 => ?_)
  · have h := mz_ifp hc1 h
    refine mz_Go.run (gs := []) (st' := (129, [some (.inr (.inr (some (0, 200)))), some (.inl x1), none, some (.inl s0)], [.inl (2 : Int32), .inr (.inr (some (0, 200)))], D)) bX12_once_127 oX12_once_127 rfl trivial ?_
    obtain ⟨q2, hq2, h⟩ := mz_bd_some h
    refine mz_Go.callV (I := IX12_once) (J := IX12_fails) (as := [.inl (2 : Int32)]) (ci := 12) (g := 0) (o := 200) (idx := 157) (pl := 1780) (rest := []) (mX12_fails (2 : Int32) D q2 hq2) kX12_fails vX12_fails (by decide +kernel) (by decide +kernel) (by decide +kernel) rfl rfl ⟨rfl, rfl⟩ rfl rfl rfl rfl ?_
    obtain ⟨hb3, h⟩ := mz_gd_some h
    cases h
    exact mz_Go.retz (by decide +kernel) rfl ⟨Nat.le_refl _, Nat.le_refl _⟩ hb3 rfl
  · have h := mz_ifn hc1 h
    refine mz_Go.run (gs := [mz_kz 0 0 200]) (st' := (if x1 = (4 : Int32) then (145, [some (.inr (.inr (some (0, 200)))), some (.inl x1), none, some (.inl s0)], [.inl (2000 : Int32), .inr (.inr (some (0, 201)))], D) else (149, [some (.inr (.inr (some (0, 200)))), some (.inl x1), none, some (.inl s0)], [.inl (2000 : Int32), .inr (.inr (some (0, 201)))], D))) bX12_once_133 oX12_once_133 rfl ⟨rfl, trivial⟩ ?_
    refine mz_Go.ite (fun hc4 => ?_) (fun hc4 => ?_)
    · have h := mz_ifp hc4 h
      refine mz_Go.run (gs := []) (st' := (150, [some (.inr (.inr (some (0, 200)))), some (.inl x1), none, some (.inl s0)], [.inl (3 : Int32), .inl (2000 : Int32), .inr (.inr (some (0, 201)))], D)) bX12_once_145 oX12_once_145 rfl trivial ?_
      exact mz_Go.drop [true, false, false, true] (tX12_once_150 r s0 (3 : Int32) (2000 : Int32) D h)
    · have h := mz_ifn hc4 h
      refine mz_Go.run (gs := []) (st' := (150, [some (.inr (.inr (some (0, 200)))), some (.inl x1), none, some (.inl s0)], [.inl (4 : Int32), .inl (2000 : Int32), .inr (.inr (some (0, 201)))], D)) bX12_once_149 oX12_once_149 rfl trivial ?_
      exact mz_Go.drop [true, false, false, true] (tX12_once_150 r s0 (4 : Int32) (2000 : Int32) D h)
def fX12_once (x1 : Int32) (D : mz_D) : Option (Int32 × mz_D) := (if (((D.1 0 200 20) >>> (x1 &&& 31)) &&& (1 : Int32)) = (1 : Int32) then (Option.bind (fX12_fails (5 : Int32) D) fun q2 => (mz_gd (mz_bo q2.1) (some (q2.1, q2.2)))) else (Option.bind (fX12_ahead (mz_wi D 0 200 20 ((D.1 0 200 20) ||| ((1 : Int32) <<< (x1 &&& 31))))) fun q4 => (Option.bind (fX12_inWords q4) fun q5 => (if x1 = (4 : Int32) then (if q5 = (12 : Int32) then (fX12_once_121 x1 (0 : Int32) q4) else (if q5 = (13 : Int32) then (fX12_once_121 x1 (1 : Int32) q4) else (if q5 = (14 : Int32) then (fX12_once_121 x1 (2 : Int32) q4) else (fX12_once_121 x1 (-1 : Int32) q4)))) else (if q5 = (15 : Int32) then (fX12_once_121 x1 (0 : Int32) q4) else (if q5 = (16 : Int32) then (fX12_once_121 x1 (1 : Int32) q4) else (if q5 = (7 : Int32) then (fX12_once_121 x1 (2 : Int32) q4) else (if q5 = (6 : Int32) then (fX12_once_121 x1 (3 : Int32) q4) else (fX12_once_121 x1 (-1 : Int32) q4)))))))))
set_option maxHeartbeats 4000000 in
theorem mX12_once (x1 : Int32) (D : mz_D) (r : (Int32 × mz_D)) (h : fX12_once x1 D = some r) : mz_Met IX12_once [.inr (.inr (some (0, 200))), .inl x1] D (some (.inl r.1), r.2) := by
  refine mz_Met.of (by decide +kernel) (Nat.le_of_ble_eq_true rfl) ?_
  show mz_Go IX12_once (some (.inl r.1), r.2) 0 0 (0, [some (.inr (.inr (some (0, 200)))), some (.inl x1), none, none], [], D)
  rw [fX12_once] at h
  refine mz_Go.run (gs := [mz_kz 0 0 200]) (st' := (if (((D.1 0 200 20) >>> (x1 &&& 31)) &&& (1 : Int32)) = (1 : Int32) then (12, [some (.inr (.inr (some (0, 200)))), some (.inl x1), none, none], [], D) else (18, [some (.inr (.inr (some (0, 200)))), some (.inl x1), none, none], [], D))) bX12_once_0 oX12_once_0 rfl ⟨rfl, trivial⟩ ?_
  refine mz_Go.ite (fun hc1 => ?_) (fun hc1 => ?_)
  · have h := mz_ifp hc1 h
    refine mz_Go.run (gs := []) (st' := (14, [some (.inr (.inr (some (0, 200)))), some (.inl x1), none, none], [.inl (5 : Int32), .inr (.inr (some (0, 200)))], D)) bX12_once_12 oX12_once_12 rfl trivial ?_
    obtain ⟨q2, hq2, h⟩ := mz_bd_some h
    refine mz_Go.callV (I := IX12_once) (J := IX12_fails) (as := [.inl (5 : Int32)]) (ci := 12) (g := 0) (o := 200) (idx := 157) (pl := 1780) (rest := []) (mX12_fails (5 : Int32) D q2 hq2) kX12_fails vX12_fails (by decide +kernel) (by decide +kernel) (by decide +kernel) rfl rfl ⟨rfl, rfl⟩ rfl rfl rfl rfl ?_
    obtain ⟨hb3, h⟩ := mz_gd_some h
    cases h
    exact mz_Go.retz (by decide +kernel) rfl ⟨Nat.le_refl _, Nat.le_refl _⟩ hb3 rfl
  · have h := mz_ifn hc1 h
    refine mz_Go.run (gs := [mz_kz 0 0 200, mz_kz 0 0 200]) (st' := (31, [some (.inr (.inr (some (0, 200)))), some (.inl x1), none, none], [.inr (.inr (some (0, 200)))], (mz_wi D 0 200 20 ((D.1 0 200 20) ||| ((1 : Int32) <<< (x1 &&& 31)))))) bX12_once_18 oX12_once_18 rfl ⟨rfl, rfl, trivial⟩ ?_
    obtain ⟨q4, hq4, h⟩ := mz_bd_some h
    refine mz_Go.callV (I := IX12_once) (J := IX12_ahead) (as := []) (ci := 12) (g := 0) (o := 200) (idx := 151) (pl := 1745) (rest := []) (mX12_ahead (mz_wi D 0 200 20 ((D.1 0 200 20) ||| ((1 : Int32) <<< (x1 &&& 31)))) q4 hq4) kX12_ahead vX12_ahead (by decide +kernel) (by decide +kernel) (by decide +kernel) rfl rfl ⟨rfl, rfl⟩ rfl rfl rfl rfl ?_
    refine mz_Go.run (gs := []) (st' := (35, [some (.inr (.inr (some (0, 200)))), some (.inl x1), none, none], [.inr (.inr (some (0, 200)))], q4)) bX12_once_34 oX12_once_34 rfl trivial ?_
    refine mz_Go.ldcK rfl (by decide +kernel) ?_
    obtain ⟨q5, hq5, h⟩ := mz_bd_some h
    refine mz_Go.callV (I := IX12_once) (J := IX12_inWords) (as := [.inr (.inr (some (0, 401)))]) (ci := 12) (g := 0) (o := 200) (idx := 160) (pl := 1770) (rest := []) (mX12_inWords q4 q5 hq5) kX12_inWords vX12_inWords (by decide +kernel) (by decide +kernel) (by decide +kernel) rfl rfl ⟨rfl, rfl⟩ rfl rfl rfl rfl ?_
    refine mz_Go.run (gs := []) (st' := (if x1 = (4 : Int32) then (46, [some (.inr (.inr (some (0, 200)))), some (.inl x1), some (.inl q5), none], [], q4) else (80, [some (.inr (.inr (some (0, 200)))), some (.inl x1), some (.inl q5), none], [], q4))) bX12_once_40 oX12_once_40 rfl trivial ?_
    refine mz_Go.ite (fun hc6 => ?_) (fun hc6 => ?_)
    · have h := mz_ifp hc6 h
      refine mz_Go.run (gs := []) (st' := (if q5 = (12 : Int32) then (52, [some (.inr (.inr (some (0, 200)))), some (.inl x1), some (.inl q5), none], [], q4) else (56, [some (.inr (.inr (some (0, 200)))), some (.inl x1), some (.inl q5), none], [], q4))) bX12_once_46 oX12_once_46 rfl trivial ?_
      refine mz_Go.ite (fun hc7 => ?_) (fun hc7 => ?_)
      · have h := mz_ifp hc7 h
        refine mz_Go.run (gs := []) (st' := (121, [some (.inr (.inr (some (0, 200)))), some (.inl x1), some (.inl q5), none], [.inl (0 : Int32)], q4)) bX12_once_52 oX12_once_52 rfl trivial ?_
        exact mz_Go.drop [true, true, false, false] (tX12_once_121 r x1 (0 : Int32) q4 h)
      · have h := mz_ifn hc7 h
        refine mz_Go.run (gs := []) (st' := (if q5 = (13 : Int32) then (62, [some (.inr (.inr (some (0, 200)))), some (.inl x1), some (.inl q5), none], [], q4) else (66, [some (.inr (.inr (some (0, 200)))), some (.inl x1), some (.inl q5), none], [], q4))) bX12_once_56 oX12_once_56 rfl trivial ?_
        refine mz_Go.ite (fun hc8 => ?_) (fun hc8 => ?_)
        · have h := mz_ifp hc8 h
          refine mz_Go.run (gs := []) (st' := (121, [some (.inr (.inr (some (0, 200)))), some (.inl x1), some (.inl q5), none], [.inl (1 : Int32)], q4)) bX12_once_62 oX12_once_62 rfl trivial ?_
          exact mz_Go.drop [true, true, false, false] (tX12_once_121 r x1 (1 : Int32) q4 h)
        · have h := mz_ifn hc8 h
          refine mz_Go.run (gs := []) (st' := (if q5 = (14 : Int32) then (72, [some (.inr (.inr (some (0, 200)))), some (.inl x1), some (.inl q5), none], [], q4) else (76, [some (.inr (.inr (some (0, 200)))), some (.inl x1), some (.inl q5), none], [], q4))) bX12_once_66 oX12_once_66 rfl trivial ?_
          refine mz_Go.ite (fun hc9 => ?_) (fun hc9 => ?_)
          · have h := mz_ifp hc9 h
            refine mz_Go.run (gs := []) (st' := (121, [some (.inr (.inr (some (0, 200)))), some (.inl x1), some (.inl q5), none], [.inl (2 : Int32)], q4)) bX12_once_72 oX12_once_72 rfl trivial ?_
            exact mz_Go.drop [true, true, false, false] (tX12_once_121 r x1 (2 : Int32) q4 h)
          · have h := mz_ifn hc9 h
            refine mz_Go.run (gs := []) (st' := (121, [some (.inr (.inr (some (0, 200)))), some (.inl x1), some (.inl q5), none], [.inl (-1 : Int32)], q4)) bX12_once_76 oX12_once_76 rfl trivial ?_
            exact mz_Go.drop [true, true, false, false] (tX12_once_121 r x1 (-1 : Int32) q4 h)
    · have h := mz_ifn hc6 h
      refine mz_Go.run (gs := []) (st' := (if q5 = (15 : Int32) then (86, [some (.inr (.inr (some (0, 200)))), some (.inl x1), some (.inl q5), none], [], q4) else (90, [some (.inr (.inr (some (0, 200)))), some (.inl x1), some (.inl q5), none], [], q4))) bX12_once_80 oX12_once_80 rfl trivial ?_
      refine mz_Go.ite (fun hc10 => ?_) (fun hc10 => ?_)
      · have h := mz_ifp hc10 h
        refine mz_Go.run (gs := []) (st' := (121, [some (.inr (.inr (some (0, 200)))), some (.inl x1), some (.inl q5), none], [.inl (0 : Int32)], q4)) bX12_once_86 oX12_once_86 rfl trivial ?_
        exact mz_Go.drop [true, true, false, false] (tX12_once_121 r x1 (0 : Int32) q4 h)
      · have h := mz_ifn hc10 h
        refine mz_Go.run (gs := []) (st' := (if q5 = (16 : Int32) then (96, [some (.inr (.inr (some (0, 200)))), some (.inl x1), some (.inl q5), none], [], q4) else (100, [some (.inr (.inr (some (0, 200)))), some (.inl x1), some (.inl q5), none], [], q4))) bX12_once_90 oX12_once_90 rfl trivial ?_
        refine mz_Go.ite (fun hc11 => ?_) (fun hc11 => ?_)
        · have h := mz_ifp hc11 h
          refine mz_Go.run (gs := []) (st' := (121, [some (.inr (.inr (some (0, 200)))), some (.inl x1), some (.inl q5), none], [.inl (1 : Int32)], q4)) bX12_once_96 oX12_once_96 rfl trivial ?_
          exact mz_Go.drop [true, true, false, false] (tX12_once_121 r x1 (1 : Int32) q4 h)
        · have h := mz_ifn hc11 h
          refine mz_Go.run (gs := []) (st' := (if q5 = (7 : Int32) then (106, [some (.inr (.inr (some (0, 200)))), some (.inl x1), some (.inl q5), none], [], q4) else (110, [some (.inr (.inr (some (0, 200)))), some (.inl x1), some (.inl q5), none], [], q4))) bX12_once_100 oX12_once_100 rfl trivial ?_
          refine mz_Go.ite (fun hc12 => ?_) (fun hc12 => ?_)
          · have h := mz_ifp hc12 h
            refine mz_Go.run (gs := []) (st' := (121, [some (.inr (.inr (some (0, 200)))), some (.inl x1), some (.inl q5), none], [.inl (2 : Int32)], q4)) bX12_once_106 oX12_once_106 rfl trivial ?_
            exact mz_Go.drop [true, true, false, false] (tX12_once_121 r x1 (2 : Int32) q4 h)
          · have h := mz_ifn hc12 h
            refine mz_Go.run (gs := []) (st' := (if q5 = (6 : Int32) then (116, [some (.inr (.inr (some (0, 200)))), some (.inl x1), some (.inl q5), none], [], q4) else (120, [some (.inr (.inr (some (0, 200)))), some (.inl x1), some (.inl q5), none], [], q4))) bX12_once_110 oX12_once_110 rfl trivial ?_
            refine mz_Go.ite (fun hc13 => ?_) (fun hc13 => ?_)
            · have h := mz_ifp hc13 h
              refine mz_Go.run (gs := []) (st' := (121, [some (.inr (.inr (some (0, 200)))), some (.inl x1), some (.inl q5), none], [.inl (3 : Int32)], q4)) bX12_once_116 oX12_once_116 rfl trivial ?_
              exact mz_Go.drop [true, true, false, false] (tX12_once_121 r x1 (3 : Int32) q4 h)
            · have h := mz_ifn hc13 h
              refine mz_Go.run (gs := []) (st' := (121, [some (.inr (.inr (some (0, 200)))), some (.inl x1), some (.inl q5), none], [.inl (-1 : Int32)], q4)) bX12_once_120 oX12_once_120 rfl trivial ?_
              exact mz_Go.drop [true, true, false, false] (tX12_once_121 r x1 (-1 : Int32) q4 h)
def bX12_tablePart_0 : List mz_E := [(0, .aload_n 0, 0, 0, 0, 0, 0)]
theorem oX12_tablePart_0 : bX12_tablePart_0.all (mz_ok RX12 cX12_tablePart 2) = true := by decide +kernel
def bX12_tablePart_44 : List mz_E := [(44, .aload_n 0, 0, 0, 0, 0, 0)]
theorem oX12_tablePart_44 : bX12_tablePart_44.all (mz_ok RX12 cX12_tablePart 2) = true := by decide +kernel
def bX12_tablePart_48 : List mz_E := [(48, .istore_n 1, 0, 0, 0, 0, 0), (49, .goto 51, 0, 100, 0, 0, 0)]
theorem oX12_tablePart_48 : bX12_tablePart_48.all (mz_ok RX12 cX12_tablePart 2) = true := by decide +kernel
def bX12_tablePart_100 : List mz_E := [(100, .iload_n 1, 0, 0, 0, 0, 0), (101, .ifCond .eq 16, 0, 117, 0, 0, 0)]
theorem oX12_tablePart_100 : bX12_tablePart_100.all (mz_ok RX12 cX12_tablePart 2) = true := by decide +kernel
def bX12_tablePart_117 : List mz_E := [(117, .iconst 0, 0, 0, 0, 0, 0)]
theorem oX12_tablePart_117 : bX12_tablePart_117.all (mz_ok RX12 cX12_tablePart 2) = true := by decide +kernel
def bX12_tablePart_104 : List mz_E := [(104, .aload_n 0, 0, 0, 0, 0, 0), (105, .bipush 59, 0, 0, 0, 59, 0)]
theorem oX12_tablePart_104 : bX12_tablePart_104.all (mz_ok RX12 cX12_tablePart 2) = true := by decide +kernel
def bX12_tablePart_110 : List mz_E := [(110, .ifCond .eq 7, 0, 117, 0, 0, 0)]
theorem oX12_tablePart_110 : bX12_tablePart_110.all (mz_ok RX12 cX12_tablePart 2) = true := by decide +kernel
def bX12_tablePart_113 : List mz_E := [(113, .iconst 1, 0, 0, 0, 1, 0), (114, .goto 4, 0, 118, 0, 0, 0)]
theorem oX12_tablePart_113 : bX12_tablePart_113.all (mz_ok RX12 cX12_tablePart 2) = true := by decide +kernel
def bX12_tablePart_52 : List mz_E := [(52, .aload_n 0, 0, 0, 0, 0, 0)]
theorem oX12_tablePart_52 : bX12_tablePart_52.all (mz_ok RX12 cX12_tablePart 2) = true := by decide +kernel
def bX12_tablePart_56 : List mz_E := [(56, .istore_n 1, 0, 0, 0, 0, 0), (57, .goto 43, 0, 100, 0, 0, 0)]
theorem oX12_tablePart_56 : bX12_tablePart_56.all (mz_ok RX12 cX12_tablePart 2) = true := by decide +kernel
def bX12_tablePart_60 : List mz_E := [(60, .aload_n 0, 0, 0, 0, 0, 0)]
theorem oX12_tablePart_60 : bX12_tablePart_60.all (mz_ok RX12 cX12_tablePart 2) = true := by decide +kernel
def bX12_tablePart_64 : List mz_E := [(64, .istore_n 1, 0, 0, 0, 0, 0), (65, .goto 35, 0, 100, 0, 0, 0)]
theorem oX12_tablePart_64 : bX12_tablePart_64.all (mz_ok RX12 cX12_tablePart 2) = true := by decide +kernel
def bX12_tablePart_68 : List mz_E := [(68, .aload_n 0, 0, 0, 0, 0, 0)]
theorem oX12_tablePart_68 : bX12_tablePart_68.all (mz_ok RX12 cX12_tablePart 2) = true := by decide +kernel
def bX12_tablePart_72 : List mz_E := [(72, .istore_n 1, 0, 0, 0, 0, 0), (73, .goto 27, 0, 100, 0, 0, 0)]
theorem oX12_tablePart_72 : bX12_tablePart_72.all (mz_ok RX12 cX12_tablePart 2) = true := by decide +kernel
def bX12_tablePart_76 : List mz_E := [(76, .aload_n 0, 0, 0, 0, 0, 0), (77, .iconst 4, 0, 0, 0, 4, 0)]
theorem oX12_tablePart_76 : bX12_tablePart_76.all (mz_ok RX12 cX12_tablePart 2) = true := by decide +kernel
def bX12_tablePart_81 : List mz_E := [(81, .istore_n 1, 0, 0, 0, 0, 0), (82, .goto 18, 0, 100, 0, 0, 0)]
theorem oX12_tablePart_81 : bX12_tablePart_81.all (mz_ok RX12 cX12_tablePart 2) = true := by decide +kernel
def bX12_tablePart_85 : List mz_E := [(85, .aload_n 0, 0, 0, 0, 0, 0), (86, .iconst 5, 0, 0, 0, 5, 0)]
theorem oX12_tablePart_85 : bX12_tablePart_85.all (mz_ok RX12 cX12_tablePart 2) = true := by decide +kernel
def bX12_tablePart_90 : List mz_E := [(90, .istore_n 1, 0, 0, 0, 0, 0), (91, .goto 9, 0, 100, 0, 0, 0)]
theorem oX12_tablePart_90 : bX12_tablePart_90.all (mz_ok RX12 cX12_tablePart 2) = true := by decide +kernel
def bX12_tablePart_94 : List mz_E := [(94, .aload_n 0, 0, 0, 0, 0, 0), (95, .iconst 2, 0, 0, 0, 2, 0)]
theorem oX12_tablePart_94 : bX12_tablePart_94.all (mz_ok RX12 cX12_tablePart 2) = true := by decide +kernel
abbrev IX12_tablePart : mz_I := (yX12_tablePart, cX12_tablePart, 2, (some .boolean), 0, 9, 0, 0)
theorem kX12_tablePart : mz_okm IX12_tablePart 1768 141 1767 0 = true := by decide +kernel
theorem vX12_tablePart : mz_okV IX12_tablePart 1767 54 = true := by decide +kernel
def fX12_tablePart_100 (x1 : Int32) (D : mz_D) : Option (Int32 × mz_D) := (if x1 = 0 then (some ((0 : Int32), D)) else (Option.bind (fX12_wantSign (59 : Int32) D) fun q2 => (if q2.1 = 0 then (some ((0 : Int32), q2.2)) else (some ((1 : Int32), q2.2)))))
set_option maxHeartbeats 4000000 in
theorem tX12_tablePart_100 (r : (Int32 × mz_D)) : ∀ (x1 : Int32) (D : mz_D), fX12_tablePart_100 x1 D = some r → mz_Go IX12_tablePart (some (.inl r.1), r.2) 0 0 (100, [some (.inr (.inr (some (0, 200)))), some (.inl x1)], [], D) := by
  intro x1 D h
  rw [fX12_tablePart_100] at h
  refine mz_Go.run (gs := []) (st' := (if x1 = 0 then (117, [some (.inr (.inr (some (0, 200)))), some (.inl x1)], [], D) else (104, [some (.inr (.inr (some (0, 200)))), some (.inl x1)], [], D))) bX12_tablePart_100 oX12_tablePart_100 rfl trivial ?_
  refine mz_Go.ite (fun hc1 => ?_) (fun hc1 => ?_)
  · have h := mz_ifp hc1 h
    refine mz_Go.run (gs := []) (st' := (118, [some (.inr (.inr (some (0, 200)))), some (.inl x1)], [.inl (0 : Int32)], D)) bX12_tablePart_117 oX12_tablePart_117 rfl trivial ?_
    cases h
    exact mz_Go.retz (by decide +kernel) rfl ⟨Nat.le_refl _, Nat.le_refl _⟩ (by decide) rfl
  · have h := mz_ifn hc1 h
    refine mz_Go.run (gs := []) (st' := (107, [some (.inr (.inr (some (0, 200)))), some (.inl x1)], [.inl (59 : Int32), .inr (.inr (some (0, 200)))], D)) bX12_tablePart_104 oX12_tablePart_104 rfl trivial ?_
    obtain ⟨q2, hq2, h⟩ := mz_bd_some h
    refine mz_Go.callV (I := IX12_tablePart) (J := IX12_wantSign) (as := [.inl (59 : Int32)]) (ci := 12) (g := 0) (o := 200) (idx := 214) (pl := 1832) (rest := []) (mX12_wantSign (59 : Int32) D q2 hq2) kX12_wantSign vX12_wantSign (by decide +kernel) (by decide +kernel) (by decide +kernel) rfl rfl ⟨rfl, rfl⟩ rfl rfl rfl rfl ?_
    refine mz_Go.run (gs := []) (st' := (if q2.1 = 0 then (117, [some (.inr (.inr (some (0, 200)))), some (.inl x1)], [], q2.2) else (113, [some (.inr (.inr (some (0, 200)))), some (.inl x1)], [], q2.2))) bX12_tablePart_110 oX12_tablePart_110 rfl trivial ?_
    refine mz_Go.ite (fun hc3 => ?_) (fun hc3 => ?_)
    · have h := mz_ifp hc3 h
      refine mz_Go.run (gs := []) (st' := (118, [some (.inr (.inr (some (0, 200)))), some (.inl x1)], [.inl (0 : Int32)], q2.2)) bX12_tablePart_117 oX12_tablePart_117 rfl trivial ?_
      cases h
      exact mz_Go.retz (by decide +kernel) rfl ⟨Nat.le_refl _, Nat.le_refl _⟩ (by decide) rfl
    · have h := mz_ifn hc3 h
      refine mz_Go.run (gs := []) (st' := (118, [some (.inr (.inr (some (0, 200)))), some (.inl x1)], [.inl (1 : Int32)], q2.2)) bX12_tablePart_113 oX12_tablePart_113 rfl trivial ?_
      cases h
      exact mz_Go.retz (by decide +kernel) rfl ⟨Nat.le_refl _, Nat.le_refl _⟩ (by decide) rfl
def fX12_tablePart (D : mz_D) : Option (Int32 × mz_D) := (Option.bind (fX12_inWords D) fun q1 => (if q1 = (0 : Int32) then (Option.bind (fX12_aPerson D) fun q3 => (fX12_tablePart_100 q3.1 q3.2)) else (if q1 = (1 : Int32) then (Option.bind (fX12_aCouple D) fun q5 => (fX12_tablePart_100 q5.1 q5.2)) else (if q1 = (2 : Int32) then (Option.bind (fX12_aDish D) fun q7 => (fX12_tablePart_100 q7.1 q7.2)) else (if q1 = (3 : Int32) then (Option.bind (fX12_aDebt D) fun q9 => (fX12_tablePart_100 q9.1 q9.2)) else (if q1 = (4 : Int32) then (Option.bind (fX12_once (4 : Int32) D) fun q11 => (fX12_tablePart_100 q11.1 q11.2)) else (if q1 = (5 : Int32) then (Option.bind (fX12_once (5 : Int32) D) fun q13 => (fX12_tablePart_100 q13.1 q13.2)) else (Option.bind (fX12_fails (2 : Int32) D) fun q14 => (mz_gd (mz_bo q14.1) (some (q14.1, q14.2)))))))))))
set_option maxHeartbeats 4000000 in
theorem mX12_tablePart (D : mz_D) (r : (Int32 × mz_D)) (h : fX12_tablePart D = some r) : mz_Met IX12_tablePart [.inr (.inr (some (0, 200)))] D (some (.inl r.1), r.2) := by
  refine mz_Met.of (by decide +kernel) (Nat.le_of_ble_eq_true rfl) ?_
  show mz_Go IX12_tablePart (some (.inl r.1), r.2) 0 0 (0, [some (.inr (.inr (some (0, 200)))), none], [], D)
  rw [fX12_tablePart] at h
  refine mz_Go.run (gs := []) (st' := (1, [some (.inr (.inr (some (0, 200)))), none], [.inr (.inr (some (0, 200)))], D)) bX12_tablePart_0 oX12_tablePart_0 rfl trivial ?_
  refine mz_Go.ldcK rfl (by decide +kernel) ?_
  obtain ⟨q1, hq1, h⟩ := mz_bd_some h
  refine mz_Go.callV (I := IX12_tablePart) (J := IX12_inWords) (as := [.inr (.inr (some (0, 401)))]) (ci := 12) (g := 0) (o := 200) (idx := 160) (pl := 1770) (rest := []) (mX12_inWords D q1 hq1) kX12_inWords vX12_inWords (by decide +kernel) (by decide +kernel) (by decide +kernel) rfl rfl ⟨rfl, rfl⟩ rfl rfl rfl rfl ?_
  refine mz_Go.tsw [(0, 44), (1, 52), (2, 60), (3, 68), (4, 76), (5, 85)] 94 (show decode cX12_tablePart 6 = .ok (.tableswitch 88 0 5 #[38, 46, 54, 62, 70, 79], 38) by decide +kernel) (by decide +kernel) ?_
  refine mz_Go.swc (fun hc2 => ?_) (fun hc2 => ?_)
  · have h := mz_ifp hc2 h
    refine mz_Go.run (gs := []) (st' := (45, [some (.inr (.inr (some (0, 200)))), none], [.inr (.inr (some (0, 200)))], D)) bX12_tablePart_44 oX12_tablePart_44 rfl trivial ?_
    obtain ⟨q3, hq3, h⟩ := mz_bd_some h
    refine mz_Go.callV (I := IX12_tablePart) (J := IX12_aPerson) (as := []) (ci := 12) (g := 0) (o := 200) (idx := 198) (pl := 1776) (rest := []) (mX12_aPerson D q3 hq3) kX12_aPerson vX12_aPerson (by decide +kernel) (by decide +kernel) (by decide +kernel) rfl rfl ⟨rfl, rfl⟩ rfl rfl rfl rfl ?_
    refine mz_Go.run (gs := []) (st' := (100, [some (.inr (.inr (some (0, 200)))), some (.inl q3.1)], [], q3.2)) bX12_tablePart_48 oX12_tablePart_48 rfl trivial ?_
    exact mz_Go.drop [true, true] (tX12_tablePart_100 r q3.1 q3.2 h)
  · have h := mz_ifn hc2 h
    refine mz_Go.swc (fun hc4 => ?_) (fun hc4 => ?_)
    · have h := mz_ifp hc4 h
      refine mz_Go.run (gs := []) (st' := (53, [some (.inr (.inr (some (0, 200)))), none], [.inr (.inr (some (0, 200)))], D)) bX12_tablePart_52 oX12_tablePart_52 rfl trivial ?_
      obtain ⟨q5, hq5, h⟩ := mz_bd_some h
      refine mz_Go.callV (I := IX12_tablePart) (J := IX12_aCouple) (as := []) (ci := 12) (g := 0) (o := 200) (idx := 202) (pl := 1804) (rest := []) (mX12_aCouple D q5 hq5) kX12_aCouple vX12_aCouple (by decide +kernel) (by decide +kernel) (by decide +kernel) rfl rfl ⟨rfl, rfl⟩ rfl rfl rfl rfl ?_
      refine mz_Go.run (gs := []) (st' := (100, [some (.inr (.inr (some (0, 200)))), some (.inl q5.1)], [], q5.2)) bX12_tablePart_56 oX12_tablePart_56 rfl trivial ?_
      exact mz_Go.drop [true, true] (tX12_tablePart_100 r q5.1 q5.2 h)
    · have h := mz_ifn hc4 h
      refine mz_Go.swc (fun hc6 => ?_) (fun hc6 => ?_)
      · have h := mz_ifp hc6 h
        refine mz_Go.run (gs := []) (st' := (61, [some (.inr (.inr (some (0, 200)))), none], [.inr (.inr (some (0, 200)))], D)) bX12_tablePart_60 oX12_tablePart_60 rfl trivial ?_
        obtain ⟨q7, hq7, h⟩ := mz_bd_some h
        refine mz_Go.callV (I := IX12_tablePart) (J := IX12_aDish) (as := []) (ci := 12) (g := 0) (o := 200) (idx := 205) (pl := 1816) (rest := []) (mX12_aDish D q7 hq7) kX12_aDish vX12_aDish (by decide +kernel) (by decide +kernel) (by decide +kernel) rfl rfl ⟨rfl, rfl⟩ rfl rfl rfl rfl ?_
        refine mz_Go.run (gs := []) (st' := (100, [some (.inr (.inr (some (0, 200)))), some (.inl q7.1)], [], q7.2)) bX12_tablePart_64 oX12_tablePart_64 rfl trivial ?_
        exact mz_Go.drop [true, true] (tX12_tablePart_100 r q7.1 q7.2 h)
      · have h := mz_ifn hc6 h
        refine mz_Go.swc (fun hc8 => ?_) (fun hc8 => ?_)
        · have h := mz_ifp hc8 h
          refine mz_Go.run (gs := []) (st' := (69, [some (.inr (.inr (some (0, 200)))), none], [.inr (.inr (some (0, 200)))], D)) bX12_tablePart_68 oX12_tablePart_68 rfl trivial ?_
          obtain ⟨q9, hq9, h⟩ := mz_bd_some h
          refine mz_Go.callV (I := IX12_tablePart) (J := IX12_aDebt) (as := []) (ci := 12) (g := 0) (o := 200) (idx := 208) (pl := 1820) (rest := []) (mX12_aDebt D q9 hq9) kX12_aDebt vX12_aDebt (by decide +kernel) (by decide +kernel) (by decide +kernel) rfl rfl ⟨rfl, rfl⟩ rfl rfl rfl rfl ?_
          refine mz_Go.run (gs := []) (st' := (100, [some (.inr (.inr (some (0, 200)))), some (.inl q9.1)], [], q9.2)) bX12_tablePart_72 oX12_tablePart_72 rfl trivial ?_
          exact mz_Go.drop [true, true] (tX12_tablePart_100 r q9.1 q9.2 h)
        · have h := mz_ifn hc8 h
          refine mz_Go.swc (fun hc10 => ?_) (fun hc10 => ?_)
          · have h := mz_ifp hc10 h
            refine mz_Go.run (gs := []) (st' := (78, [some (.inr (.inr (some (0, 200)))), none], [.inl (4 : Int32), .inr (.inr (some (0, 200)))], D)) bX12_tablePart_76 oX12_tablePart_76 rfl trivial ?_
            obtain ⟨q11, hq11, h⟩ := mz_bd_some h
            refine mz_Go.callV (I := IX12_tablePart) (J := IX12_once) (as := [.inl (4 : Int32)]) (ci := 12) (g := 0) (o := 200) (idx := 211) (pl := 1828) (rest := []) (mX12_once (4 : Int32) D q11 hq11) kX12_once vX12_once (by decide +kernel) (by decide +kernel) (by decide +kernel) rfl rfl ⟨rfl, rfl⟩ rfl rfl rfl rfl ?_
            refine mz_Go.run (gs := []) (st' := (100, [some (.inr (.inr (some (0, 200)))), some (.inl q11.1)], [], q11.2)) bX12_tablePart_81 oX12_tablePart_81 rfl trivial ?_
            exact mz_Go.drop [true, true] (tX12_tablePart_100 r q11.1 q11.2 h)
          · have h := mz_ifn hc10 h
            refine mz_Go.swc (fun hc12 => ?_) (fun hc12 => ?_)
            · have h := mz_ifp hc12 h
              refine mz_Go.run (gs := []) (st' := (87, [some (.inr (.inr (some (0, 200)))), none], [.inl (5 : Int32), .inr (.inr (some (0, 200)))], D)) bX12_tablePart_85 oX12_tablePart_85 rfl trivial ?_
              obtain ⟨q13, hq13, h⟩ := mz_bd_some h
              refine mz_Go.callV (I := IX12_tablePart) (J := IX12_once) (as := [.inl (5 : Int32)]) (ci := 12) (g := 0) (o := 200) (idx := 211) (pl := 1828) (rest := []) (mX12_once (5 : Int32) D q13 hq13) kX12_once vX12_once (by decide +kernel) (by decide +kernel) (by decide +kernel) rfl rfl ⟨rfl, rfl⟩ rfl rfl rfl rfl ?_
              refine mz_Go.run (gs := []) (st' := (100, [some (.inr (.inr (some (0, 200)))), some (.inl q13.1)], [], q13.2)) bX12_tablePart_90 oX12_tablePart_90 rfl trivial ?_
              exact mz_Go.drop [true, true] (tX12_tablePart_100 r q13.1 q13.2 h)
            · have h := mz_ifn hc12 h
              refine mz_Go.run (gs := []) (st' := (96, [some (.inr (.inr (some (0, 200)))), none], [.inl (2 : Int32), .inr (.inr (some (0, 200)))], D)) bX12_tablePart_94 oX12_tablePart_94 rfl trivial ?_
              obtain ⟨q14, hq14, h⟩ := mz_bd_some h
              refine mz_Go.callV (I := IX12_tablePart) (J := IX12_fails) (as := [.inl (2 : Int32)]) (ci := 12) (g := 0) (o := 200) (idx := 157) (pl := 1780) (rest := []) (mX12_fails (2 : Int32) D q14 hq14) kX12_fails vX12_fails (by decide +kernel) (by decide +kernel) (by decide +kernel) rfl rfl ⟨rfl, rfl⟩ rfl rfl rfl rfl ?_
              obtain ⟨hb15, h⟩ := mz_gd_some h
              cases h
              exact mz_Go.retz (by decide +kernel) rfl ⟨Nat.le_refl _, Nat.le_refl _⟩ hb15 rfl
def bX12_table_0 : List mz_E := [(0, .aload_n 0, 0, 0, 0, 0, 0), (1, .iload_n 1, 0, 0, 0, 0, 0), (2, .sipush 900, 0, 0, 0, 900, 0)]
theorem oX12_table_0 : bX12_table_0.all (mz_ok RX12 cX12_table 4) = true := by decide +kernel
def bX12_table_8 : List mz_E := [(8, .ifCond .ne 9, 0, 17, 0, 0, 0)]
theorem oX12_table_8 : bX12_table_8.all (mz_ok RX12 cX12_table 4) = true := by decide +kernel
def bX12_table_11 : List mz_E := [(11, .aload_n 0, 0, 0, 0, 0, 0), (12, .iconst 1, 0, 0, 0, 1, 0)]
theorem oX12_table_11 : bX12_table_11.all (mz_ok RX12 cX12_table 4) = true := by decide +kernel
def bX12_table_17 : List mz_E := [(17, .aload_n 0, 0, 0, 0, 0, 0), (18, .sipush 2000, 0, 0, 0, 2000, 0)]
theorem oX12_table_17 : bX12_table_17.all (mz_ok RX12 cX12_table 4) = true := by decide +kernel
def bX12_table_24 : List mz_E := [(24, .aload_n 0, 0, 0, 0, 0, 0), (25, .iconst 0, 0, 0, 0, 0, 0), (26, .putfield 195, 12, 20, 1596, 0, 0), (29, .iconst 1, 0, 0, 0, 1, 0), (30, .istore_n 2, 0, 0, 0, 0, 0)]
theorem oX12_table_24 : bX12_table_24.all (mz_ok RX12 cX12_table 4) = true := by decide +kernel
def bX12_table_31 : List mz_E := [(31, .iload_n 2, 0, 0, 0, 0, 0), (32, .ifCond .eq 18, 0, 50, 0, 0, 0)]
theorem oX12_table_31 : bX12_table_31.all (mz_ok RX12 cX12_table 4) = true := by decide +kernel
def bX12_table_50 : List mz_E := [(50, .aload_n 0, 0, 0, 0, 0, 0), (51, .getfield 145, 12, 18, 1594, 0, 0), (54, .ifCond .ne 63, 0, 117, 0, 0, 0)]
theorem oX12_table_50 : bX12_table_50.all (mz_ok RX12 cX12_table 4) = true := by decide +kernel
def bX12_table_57 : List mz_E := [(57, .iconst 0, 0, 0, 0, 0, 0), (58, .istore_n 3, 0, 0, 0, 0, 0)]
theorem oX12_table_57 : bX12_table_57.all (mz_ok RX12 cX12_table 4) = true := by decide +kernel
def bX12_table_59 : List mz_E := [(59, .iload_n 3, 0, 0, 0, 0, 0), (60, .sipush 500, 0, 0, 0, 500, 0), (63, .if_icmp .ge 25, 0, 88, 0, 0, 0)]
theorem oX12_table_59 : bX12_table_59.all (mz_ok RX12 cX12_table 4) = true := by decide +kernel
def bX12_table_88 : List mz_E := [(88, .iconst 0, 0, 0, 0, 0, 0), (89, .istore_n 3, 0, 0, 0, 0, 0)]
theorem oX12_table_88 : bX12_table_88.all (mz_ok RX12 cX12_table 4) = true := by decide +kernel
def bX12_table_90 : List mz_E := [(90, .iload_n 3, 0, 0, 0, 0, 0), (91, .bipush 6, 0, 0, 0, 6, 0), (93, .if_icmp .ge 24, 0, 117, 0, 0, 0)]
theorem oX12_table_90 : bX12_table_90.all (mz_ok RX12 cX12_table 4) = true := by decide +kernel
def bX12_table_117 : List mz_E := [(117, .aload_n 0, 0, 0, 0, 0, 0), (118, .aload_n 0, 0, 0, 0, 0, 0), (119, .getfield 7, 12, 0, 1576, 0, 0), (122, .iconst 0, 0, 0, 0, 0, 0), (123, .iaload, 0, 0, 0, 0, 0)]
theorem oX12_table_117 : bX12_table_117.all (mz_ok RX12 cX12_table 4) = true := by decide +kernel
def bX12_table_96 : List mz_E := [(96, .aload_n 0, 0, 0, 0, 0, 0), (97, .getfield 13, 12, 1, 1577, 0, 0), (100, .iload_n 3, 0, 0, 0, 0, 0), (101, .aload_n 0, 0, 0, 0, 0, 0), (102, .getfield 13, 12, 1, 1577, 0, 0), (105, .bipush 24, 0, 0, 0, 24, 0), (107, .iload_n 3, 0, 0, 0, 0, 0), (108, .iadd, 0, 0, 0, 0, 0), (109, .laload, 0, 0, 0, 0, 0), (110, .lastore, 0, 0, 0, 0, 0), (111, .iinc 3 1, 0, 0, 0, 1, 0), (114, .goto (-24), 0, 90, 0, 0, 0)]
theorem oX12_table_96 : bX12_table_96.all (mz_ok RX12 cX12_table 4) = true := by decide +kernel
def bX12_table_66 : List mz_E := [(66, .aload_n 0, 0, 0, 0, 0, 0), (67, .getfield 7, 12, 0, 1576, 0, 0), (70, .iload_n 3, 0, 0, 0, 0, 0), (71, .aload_n 0, 0, 0, 0, 0, 0), (72, .getfield 7, 12, 0, 1576, 0, 0), (75, .sipush 2000, 0, 0, 0, 2000, 0), (78, .iload_n 3, 0, 0, 0, 0, 0), (79, .iadd, 0, 0, 0, 0, 0), (80, .iaload, 0, 0, 0, 0, 0), (81, .iastore, 0, 0, 0, 0, 0), (82, .iinc 3 1, 0, 0, 0, 1, 0), (85, .goto (-26), 0, 59, 0, 0, 0)]
theorem oX12_table_66 : bX12_table_66.all (mz_ok RX12 cX12_table 4) = true := by decide +kernel
def bX12_table_35 : List mz_E := [(35, .aload_n 0, 0, 0, 0, 0, 0), (36, .getfield 120, 12, 12, 1588, 0, 0), (39, .ifCond .eq 11, 0, 50, 0, 0, 0)]
theorem oX12_table_35 : bX12_table_35.all (mz_ok RX12 cX12_table 4) = true := by decide +kernel
def bX12_table_42 : List mz_E := [(42, .aload_n 0, 0, 0, 0, 0, 0)]
theorem oX12_table_42 : bX12_table_42.all (mz_ok RX12 cX12_table 4) = true := by decide +kernel
def bX12_table_46 : List mz_E := [(46, .istore_n 2, 0, 0, 0, 0, 0), (47, .goto (-16), 0, 31, 0, 0, 0)]
theorem oX12_table_46 : bX12_table_46.all (mz_ok RX12 cX12_table 4) = true := by decide +kernel
abbrev IX12_table : mz_I := (yX12_table, cX12_table, 4, (some .int), 0, 10, 0, 0)
theorem kX12_table : mz_okm IX12_table 1740 141 1738 1 = true := by decide +kernel
theorem vX12_table : mz_okV IX12_table 1738 1739 = true := by decide +kernel
def fX12_table_117 (D : mz_D) : Option (Int32 × mz_D) := (Option.bind (fX12_taken (D.1 0 201 ((0 : Int32)).toNatClampNeg) D) fun q1 => (some (q1.1, q1.2)))
set_option maxHeartbeats 4000000 in
theorem tX12_table_117 (r : (Int32 × mz_D)) : ∀ (D : mz_D), fX12_table_117 D = some r → mz_Go IX12_table (some (.inl r.1), r.2) 0 0 (117, [some (.inr (.inr (some (0, 200)))), none, none, none], [], D) := by
  intro D h
  rw [fX12_table_117] at h
  refine mz_Go.run (gs := [mz_kz 0 0 200, mz_kz 0 0 201, mz_ix (0 : Int32) 3000]) (st' := (124, [some (.inr (.inr (some (0, 200)))), none, none, none], [.inl (D.1 0 201 ((0 : Int32)).toNatClampNeg), .inr (.inr (some (0, 200)))], D)) bX12_table_117 oX12_table_117 rfl ⟨rfl, rfl, (by decide), trivial⟩ ?_
  obtain ⟨q1, hq1, h⟩ := mz_bd_some h
  refine mz_Go.callV (I := IX12_table) (J := IX12_taken) (as := [.inl (D.1 0 201 ((0 : Int32)).toNatClampNeg)]) (ci := 12) (g := 0) (o := 200) (idx := 223) (pl := 1840) (rest := []) (mX12_taken (D.1 0 201 ((0 : Int32)).toNatClampNeg) D q1 hq1) kX12_taken vX12_taken (by decide +kernel) (by decide +kernel) (by decide +kernel) rfl rfl ⟨rfl, rfl⟩ rfl rfl rfl rfl ?_
  cases h
  exact mz_Go.reti (by decide +kernel) rfl ⟨Nat.le_refl _, Nat.le_refl _⟩ rfl
def fX12_table_90 : Nat → Int32 → mz_D → Option (Int32 × mz_D)
  | 0 => fun _ _ => none
  | n + 1 => fun x3 D => (if (6 : Int32) ≤ x3 then (fX12_table_117 D) else (mz_gd (mz_ix ((24 : Int32) + x3) 36) (mz_gd (mz_ix x3 36) ((fX12_table_90 n) (x3 + (1 : Int32)) (mz_wg D 0 202 (x3).toNatClampNeg (D.2 0 202 (((24 : Int32) + x3)).toNatClampNeg))))))
set_option maxHeartbeats 4000000 in
theorem tX12_table_90 (r : (Int32 × mz_D)) : ∀ (n : Nat) (x3 : Int32) (D : mz_D), fX12_table_90 n x3 D = some r → mz_Go IX12_table (some (.inl r.1), r.2) 0 0 (90, [some (.inr (.inr (some (0, 200)))), none, none, some (.inl x3)], [], D) := by
  intro n
  induction n with
  | zero => intro x3 D h; have h : (none : Option (Int32 × mz_D)) = some r := h; cases h
  | succ n ih =>
    intro x3 D h
    rw [fX12_table_90] at h
    refine mz_Go.run (gs := []) (st' := (if (6 : Int32) ≤ x3 then (117, [some (.inr (.inr (some (0, 200)))), none, none, some (.inl x3)], [], D) else (96, [some (.inr (.inr (some (0, 200)))), none, none, some (.inl x3)], [], D))) bX12_table_90 oX12_table_90 rfl trivial ?_
    refine mz_Go.ite (fun hc1 => ?_) (fun hc1 => ?_)
    · have h := mz_ifp hc1 h
      exact mz_Go.drop [true, false, false, false] (tX12_table_117 r D h)
    · have h := mz_ifn hc1 h
      obtain ⟨hb2, h⟩ := mz_gd_some h
      obtain ⟨hb3, h⟩ := mz_gd_some h
      refine mz_Go.run (gs := [mz_kz 0 0 200, mz_kz 0 0 200, mz_kz 0 0 202, mz_ix ((24 : Int32) + x3) 36, mz_kz 0 0 202, mz_ix x3 36]) (st' := (90, [some (.inr (.inr (some (0, 200)))), none, none, some (.inl (x3 + (1 : Int32)))], [], (mz_wg D 0 202 (x3).toNatClampNeg (D.2 0 202 (((24 : Int32) + x3)).toNatClampNeg)))) bX12_table_96 oX12_table_96 rfl ⟨rfl, rfl, rfl, hb2, rfl, hb3, trivial⟩ ?_
      exact mz_Go.drop [true, false, false, true] (ih (x3 + (1 : Int32)) (mz_wg D 0 202 (x3).toNatClampNeg (D.2 0 202 (((24 : Int32) + x3)).toNatClampNeg)) h)
def fX12_table_59 : Nat → Int32 → mz_D → Option (Int32 × mz_D)
  | 0 => fun _ _ => none
  | n + 1 => fun x3 D => (if (500 : Int32) ≤ x3 then (fX12_table_90 mz_N (0 : Int32) D) else (mz_gd (mz_ix ((2000 : Int32) + x3) 3000) (mz_gd (mz_ix x3 3000) ((fX12_table_59 n) (x3 + (1 : Int32)) (mz_wi D 0 201 (x3).toNatClampNeg (D.1 0 201 (((2000 : Int32) + x3)).toNatClampNeg))))))
set_option maxHeartbeats 4000000 in
theorem tX12_table_59 (r : (Int32 × mz_D)) : ∀ (n : Nat) (x3 : Int32) (D : mz_D), fX12_table_59 n x3 D = some r → mz_Go IX12_table (some (.inl r.1), r.2) 0 0 (59, [some (.inr (.inr (some (0, 200)))), none, none, some (.inl x3)], [], D) := by
  intro n
  induction n with
  | zero => intro x3 D h; have h : (none : Option (Int32 × mz_D)) = some r := h; cases h
  | succ n ih =>
    intro x3 D h
    rw [fX12_table_59] at h
    refine mz_Go.run (gs := []) (st' := (if (500 : Int32) ≤ x3 then (88, [some (.inr (.inr (some (0, 200)))), none, none, some (.inl x3)], [], D) else (66, [some (.inr (.inr (some (0, 200)))), none, none, some (.inl x3)], [], D))) bX12_table_59 oX12_table_59 rfl trivial ?_
    refine mz_Go.ite (fun hc1 => ?_) (fun hc1 => ?_)
    · have h := mz_ifp hc1 h
      refine mz_Go.run (gs := []) (st' := (90, [some (.inr (.inr (some (0, 200)))), none, none, some (.inl (0 : Int32))], [], D)) bX12_table_88 oX12_table_88 rfl trivial ?_
      exact mz_Go.drop [true, false, false, true] (tX12_table_90 r mz_N (0 : Int32) D h)
    · have h := mz_ifn hc1 h
      obtain ⟨hb2, h⟩ := mz_gd_some h
      obtain ⟨hb3, h⟩ := mz_gd_some h
      refine mz_Go.run (gs := [mz_kz 0 0 200, mz_kz 0 0 200, mz_kz 0 0 201, mz_ix ((2000 : Int32) + x3) 3000, mz_kz 0 0 201, mz_ix x3 3000]) (st' := (59, [some (.inr (.inr (some (0, 200)))), none, none, some (.inl (x3 + (1 : Int32)))], [], (mz_wi D 0 201 (x3).toNatClampNeg (D.1 0 201 (((2000 : Int32) + x3)).toNatClampNeg)))) bX12_table_66 oX12_table_66 rfl ⟨rfl, rfl, rfl, hb2, rfl, hb3, trivial⟩ ?_
      exact mz_Go.drop [true, false, false, true] (ih (x3 + (1 : Int32)) (mz_wi D 0 201 (x3).toNatClampNeg (D.1 0 201 (((2000 : Int32) + x3)).toNatClampNeg)) h)
def fX12_table_50 (D : mz_D) : Option (Int32 × mz_D) := (if (D.1 0 200 18) = 0 then (fX12_table_59 mz_N (0 : Int32) D) else (fX12_table_117 D))
set_option maxHeartbeats 4000000 in
theorem tX12_table_50 (r : (Int32 × mz_D)) : ∀ (D : mz_D), fX12_table_50 D = some r → mz_Go IX12_table (some (.inl r.1), r.2) 0 0 (50, [some (.inr (.inr (some (0, 200)))), none, none, none], [], D) := by
  intro D h
  rw [fX12_table_50] at h
  refine mz_Go.run (gs := [mz_kz 0 0 200]) (st' := (if (D.1 0 200 18) = 0 then (57, [some (.inr (.inr (some (0, 200)))), none, none, none], [], D) else (117, [some (.inr (.inr (some (0, 200)))), none, none, none], [], D))) bX12_table_50 oX12_table_50 rfl ⟨rfl, trivial⟩ ?_
  refine mz_Go.ite (fun hc1 => ?_) (fun hc1 => ?_)
  · have h := mz_ifp hc1 h
    refine mz_Go.run (gs := []) (st' := (59, [some (.inr (.inr (some (0, 200)))), none, none, some (.inl (0 : Int32))], [], D)) bX12_table_57 oX12_table_57 rfl trivial ?_
    exact mz_Go.drop [true, false, false, true] (tX12_table_59 r mz_N (0 : Int32) D h)
  · have h := mz_ifn hc1 h
    exact mz_Go.drop [true, false, false, false] (tX12_table_117 r D h)
def fX12_table_31 : Nat → Int32 → mz_D → Option (Int32 × mz_D)
  | 0 => fun _ _ => none
  | n + 1 => fun x2 D => (if x2 = 0 then (fX12_table_50 D) else (if (D.1 0 200 12) = 0 then (fX12_table_50 D) else (Option.bind (fX12_tablePart D) fun q3 => ((fX12_table_31 n) q3.1 q3.2))))
set_option maxHeartbeats 4000000 in
theorem tX12_table_31 (r : (Int32 × mz_D)) : ∀ (n : Nat) (x2 : Int32) (D : mz_D), fX12_table_31 n x2 D = some r → mz_Go IX12_table (some (.inl r.1), r.2) 0 0 (31, [some (.inr (.inr (some (0, 200)))), none, some (.inl x2), none], [], D) := by
  intro n
  induction n with
  | zero => intro x2 D h; have h : (none : Option (Int32 × mz_D)) = some r := h; cases h
  | succ n ih =>
    intro x2 D h
    rw [fX12_table_31] at h
    refine mz_Go.run (gs := []) (st' := (if x2 = 0 then (50, [some (.inr (.inr (some (0, 200)))), none, some (.inl x2), none], [], D) else (35, [some (.inr (.inr (some (0, 200)))), none, some (.inl x2), none], [], D))) bX12_table_31 oX12_table_31 rfl trivial ?_
    refine mz_Go.ite (fun hc1 => ?_) (fun hc1 => ?_)
    · have h := mz_ifp hc1 h
      exact mz_Go.drop [true, false, false, false] (tX12_table_50 r D h)
    · have h := mz_ifn hc1 h
      refine mz_Go.run (gs := [mz_kz 0 0 200]) (st' := (if (D.1 0 200 12) = 0 then (50, [some (.inr (.inr (some (0, 200)))), none, some (.inl x2), none], [], D) else (42, [some (.inr (.inr (some (0, 200)))), none, some (.inl x2), none], [], D))) bX12_table_35 oX12_table_35 rfl ⟨rfl, trivial⟩ ?_
      refine mz_Go.ite (fun hc2 => ?_) (fun hc2 => ?_)
      · have h := mz_ifp hc2 h
        exact mz_Go.drop [true, false, false, false] (tX12_table_50 r D h)
      · have h := mz_ifn hc2 h
        refine mz_Go.run (gs := []) (st' := (43, [some (.inr (.inr (some (0, 200)))), none, some (.inl x2), none], [.inr (.inr (some (0, 200)))], D)) bX12_table_42 oX12_table_42 rfl trivial ?_
        obtain ⟨q3, hq3, h⟩ := mz_bd_some h
        refine mz_Go.callV (I := IX12_table) (J := IX12_tablePart) (as := []) (ci := 12) (g := 0) (o := 200) (idx := 220) (pl := 1765) (rest := []) (mX12_tablePart D q3 hq3) kX12_tablePart vX12_tablePart (by decide +kernel) (by decide +kernel) (by decide +kernel) rfl rfl ⟨rfl, rfl⟩ rfl rfl rfl rfl ?_
        refine mz_Go.run (gs := []) (st' := (31, [some (.inr (.inr (some (0, 200)))), none, some (.inl q3.1), none], [], q3.2)) bX12_table_46 oX12_table_46 rfl trivial ?_
        exact mz_Go.drop [true, false, true, false] (ih q3.1 q3.2 h)
def fX12_table (x1 : Int32) (D : mz_D) : Option (Int32 × mz_D) := (Option.bind (fX12_begins x1 (900 : Int32) D) fun q1 => (if q1.1 = 0 then (some ((-1 : Int32), (mz_wi q1.2 0 200 2 (1 : Int32)))) else (Option.bind (fX12_plain (2000 : Int32) q1.2) fun q3 => (fX12_table_31 mz_N (1 : Int32) (mz_wi q3 0 200 20 (0 : Int32))))))
set_option maxHeartbeats 4000000 in
theorem mX12_table (x1 : Int32) (D : mz_D) (r : (Int32 × mz_D)) (h : fX12_table x1 D = some r) : mz_Met IX12_table [.inr (.inr (some (0, 200))), .inl x1] D (some (.inl r.1), r.2) := by
  refine mz_Met.of (by decide +kernel) (Nat.le_of_ble_eq_true rfl) ?_
  show mz_Go IX12_table (some (.inl r.1), r.2) 0 0 (0, [some (.inr (.inr (some (0, 200)))), some (.inl x1), none, none], [], D)
  rw [fX12_table] at h
  refine mz_Go.run (gs := []) (st' := (5, [some (.inr (.inr (some (0, 200)))), some (.inl x1), none, none], [.inl (900 : Int32), .inl x1, .inr (.inr (some (0, 200)))], D)) bX12_table_0 oX12_table_0 rfl trivial ?_
  obtain ⟨q1, hq1, h⟩ := mz_bd_some h
  refine mz_Go.callV (I := IX12_table) (J := IX12_begins) (as := [.inl x1, .inl (900 : Int32)]) (ci := 12) (g := 0) (o := 200) (idx := 217) (pl := 1741) (rest := []) (mX12_begins x1 (900 : Int32) D q1 hq1) kX12_begins vX12_begins (by decide +kernel) (by decide +kernel) (by decide +kernel) rfl rfl ⟨rfl, rfl⟩ rfl rfl rfl rfl ?_
  refine mz_Go.run (gs := []) (st' := (if q1.1 = 0 then (11, [some (.inr (.inr (some (0, 200)))), some (.inl x1), none, none], [], q1.2) else (17, [some (.inr (.inr (some (0, 200)))), some (.inl x1), none, none], [], q1.2))) bX12_table_8 oX12_table_8 rfl trivial ?_
  refine mz_Go.ite (fun hc2 => ?_) (fun hc2 => ?_)
  · have h := mz_ifp hc2 h
    refine mz_Go.run (gs := []) (st' := (13, [some (.inr (.inr (some (0, 200)))), some (.inl x1), none, none], [.inl (1 : Int32), .inr (.inr (some (0, 200)))], q1.2)) bX12_table_11 oX12_table_11 rfl trivial ?_
    refine mz_Go.callV (I := IX12_table) (J := IX12_refuse) (as := [.inl (1 : Int32)]) (ci := 12) (g := 0) (o := 200) (idx := 75) (pl := 1761) (rest := []) (mX12_refuse (1 : Int32) q1.2) kX12_refuse vX12_refuse (by decide +kernel) (by decide +kernel) (by decide +kernel) rfl rfl ⟨rfl, rfl⟩ rfl rfl rfl rfl ?_
    cases h
    exact mz_Go.reti (by decide +kernel) rfl ⟨Nat.le_refl _, Nat.le_refl _⟩ rfl
  · have h := mz_ifn hc2 h
    refine mz_Go.run (gs := []) (st' := (21, [some (.inr (.inr (some (0, 200)))), some (.inl x1), none, none], [.inl (2000 : Int32), .inr (.inr (some (0, 200)))], q1.2)) bX12_table_17 oX12_table_17 rfl trivial ?_
    obtain ⟨q3, hq3, h⟩ := mz_bd_some h
    refine mz_Go.callV (I := IX12_table) (J := IX12_plain) (as := [.inl (2000 : Int32)]) (ci := 12) (g := 0) (o := 200) (idx := 65) (pl := 1572) (rest := []) (mX12_plain (2000 : Int32) q1.2 q3 hq3) kX12_plain vX12_plain (by decide +kernel) (by decide +kernel) (by decide +kernel) rfl rfl ⟨rfl, rfl⟩ rfl rfl rfl rfl ?_
    refine mz_Go.run (gs := [mz_kz 0 0 200]) (st' := (31, [some (.inr (.inr (some (0, 200)))), some (.inl x1), some (.inl (1 : Int32)), none], [], (mz_wi q3 0 200 20 (0 : Int32)))) bX12_table_24 oX12_table_24 rfl ⟨rfl, trivial⟩ ?_
    exact mz_Go.drop [true, false, true, false] (tX12_table_31 r mz_N (1 : Int32) (mz_wi q3 0 200 20 (0 : Int32)) h)
