theorem mz_Go.ldcR {I : mz_I} {rs : Option mz_V × mz_D} {nc ns pc : Nat} {L : mz_L} {S : List mz_V} {D : mz_D} (hI : I.1.cls = "LetMe$Reader") (hdg : decode I.2.1 pc = .ok (.ldc 19, 2)) (k : mz_Go I rs nc ns (pc + 2, L, .inr (.inr (some (0, 400))) :: S, D)) : mz_Go I rs nc ns (pc, L, S, D) := by
  intro p l e s m args below meth c G cA A ad ks C hr hlk H locs ls hP hD hS hl
  have hown := C.1.2.2.2.1
  rw [hI] at hown
  exact va_ldcS C.1.1 C.1.2.1 hown C.2.2.2.2.2.2.1 hdg (k p l e s m args below meth c G cA A ad ks C hr hlk H locs ls hP hD hS hl)
theorem mz_kz8 : ∀ g o, mz_kz 8 g o = true → (g, o) ∈ [((0 : Nat), (2 : Nat)), (0, 3)] := by
  intro g o hz
  unfold mz_kz at hz
  cases h2 : Nat.beq o 2 with
  | true =>
    rw [h2] at hz
    rw [Nat.eq_of_beq_eq_true h2, Nat.eq_of_beq_eq_true hz]
    exact List.mem_cons_self
  | false =>
    rw [h2] at hz
    cases h3 : Nat.beq o 3 with
    | true =>
      rw [h3] at hz
      rw [Nat.eq_of_beq_eq_true h3, Nat.eq_of_beq_eq_true hz]
      exact List.mem_cons_of_mem _ List.mem_cons_self
    | false => rw [h3] at hz; cases hz
def bX5_init_17 : List mz_E := [(17, .iconst 0, 0, 0, 0, 0, 0), (18, .istore_n 2, 0, 0, 0, 0, 0), (19, .iconst 0, 0, 0, 0, 0, 0), (20, .istore_n 3, 0, 0, 0, 0, 0)]
theorem oX5_init_17 : bX5_init_17.all (mz_ok RX5 cX5_init 5) = true := by decide +kernel
def bX5_init_21 : List mz_E := [(21, .iload_n 3, 0, 0, 0, 0, 0)]
theorem oX5_init_21 : bX5_init_21.all (mz_ok RX5 cX5_init 5) = true := by decide +kernel
def bX5_init_27 : List mz_E := [(27, .if_icmp .ge 53, 0, 80, 0, 0, 0)]
theorem oX5_init_27 : bX5_init_27.all (mz_ok RX5 cX5_init 5) = true := by decide +kernel
def bX5_init_30 : List mz_E := [(30, .iload_n 2, 0, 0, 0, 0, 0), (31, .bipush 29, 0, 0, 0, 29, 0), (33, .if_icmp .ge 47, 0, 80, 0, 0, 0)]
theorem oX5_init_30 : bX5_init_30.all (mz_ok RX5 cX5_init 5) = true := by decide +kernel
def bX5_init_38 : List mz_E := [(38, .iload_n 3, 0, 0, 0, 0, 0)]
theorem oX5_init_38 : bX5_init_38.all (mz_ok RX5 cX5_init 5) = true := by decide +kernel
def bX5_init_42 : List mz_E := [(42, .istore 4, 0, 0, 0, 0, 0), (44, .iload 4, 0, 0, 0, 0, 0), (46, .bipush 32, 0, 0, 0, 32, 0), (48, .if_icmp .ne 9, 0, 57, 0, 0, 0)]
theorem oX5_init_42 : bX5_init_42.all (mz_ok RX5 cX5_init 5) = true := by decide +kernel
def bX5_init_51 : List mz_E := [(51, .iinc 2 1, 0, 0, 0, 1, 0), (54, .goto 20, 0, 74, 0, 0, 0), (74, .iinc 3 1, 0, 0, 0, 1, 0), (77, .goto (-56), 0, 21, 0, 0, 0)]
theorem oX5_init_51 : bX5_init_51.all (mz_ok RX5 cX5_init 5) = true := by decide +kernel
def bX5_init_57 : List mz_E := [(57, .aload_n 0, 0, 0, 0, 0, 0), (58, .getfield 11, 5, 10, 228, 0, 0), (61, .iload_n 2, 0, 0, 0, 0, 0), (62, .aload_n 0, 0, 0, 0, 0, 0), (63, .getfield 11, 5, 10, 228, 0, 0), (66, .iload_n 2, 0, 0, 0, 0, 0), (67, .laload, 0, 0, 0, 0, 0), (68, .iload 4, 0, 0, 0, 0, 0)]
theorem oX5_init_57 : bX5_init_57.all (mz_ok RX5 cX5_init 5) = true := by decide +kernel
def bX5_init_73 : List mz_E := [(73, .lastore, 0, 0, 0, 0, 0), (74, .iinc 3 1, 0, 0, 0, 1, 0), (77, .goto (-56), 0, 21, 0, 0, 0)]
theorem oX5_init_73 : bX5_init_73.all (mz_ok RX5 cX5_init 5) = true := by decide +kernel
abbrev IX5_init8 : mz_I := (yX5_init, cX5_init, 5, none, 8, 4, 1, 29)
abbrev IX5_init : mz_I := (yX5_init, cX5_init, 5, none, 9, 4, 1, 29)
theorem kX5_init : mz_okm IX5_init 159 127 158 1 = true := by decide +kernel
def fX5_init8_21 : Nat → Int32 → Int32 → mz_D → Option mz_D
  | 0 => fun _ _ _ => none
  | n + 1 => fun x2 x3 D => (if (Int32.ofNat 160) ≤ x3 then (some D) else (if (29 : Int32) ≤ x2 then (some D) else (mz_gd (mz_ix x3 160) (if (st_ch 0 x3) = (32 : Int32) then ((fX5_init8_21 n) (x2 + (1 : Int32)) (x3 + (1 : Int32)) D) else (mz_gd (mz_ix x2 29) ((fX5_init8_21 n) x2 (x3 + (1 : Int32)) (mz_wg D 0 3 (x2).toNatClampNeg (((D.2 0 3 (x2).toNatClampNeg) * (32 : Int64)) + ((((st_ch 0 x3) - (97 : Int32)) + (1 : Int32))).toInt64))))))))
set_option maxHeartbeats 4000000 in
theorem tX5_init8_21 (r : mz_D) : ∀ (n : Nat) (x2 : Int32) (x3 : Int32) (D : mz_D), fX5_init8_21 n x2 x3 D = some r → mz_Go IX5_init8 (none, r) 1 29 (21, [some (.inr (.inr (some (0, 2)))), none, some (.inl x2), some (.inl x3), none], [], D) := by
  intro n
  induction n with
  | zero => intro x2 x3 D h; have h : (none : Option mz_D) = some r := h; cases h
  | succ n ih =>
    intro x2 x3 D h
    rw [fX5_init8_21] at h
    refine mz_Go.run (gs := []) (st' := (22, [some (.inr (.inr (some (0, 2)))), none, some (.inl x2), some (.inl x3), none], [.inl x3], D)) bX5_init_21 oX5_init_21 rfl trivial ?_
    refine mz_Go.ldcR rfl (by decide +kernel) ?_
    refine mz_Go.callT (I := IX5_init8) (J := Ist_le) (as := []) (i := 0) (idx := 21) (pl := 162) (rest := [.inl x3]) (by decide) (st_le 0 D (by decide)) kst_le vst_le (by decide +kernel) (by decide +kernel) (by decide +kernel) rfl rfl ⟨rfl, rfl⟩ rfl rfl ?_
    refine mz_Go.run (gs := []) (st' := (if (Int32.ofNat 160) ≤ x3 then (80, [some (.inr (.inr (some (0, 2)))), none, some (.inl x2), some (.inl x3), none], [], D) else (30, [some (.inr (.inr (some (0, 2)))), none, some (.inl x2), some (.inl x3), none], [], D))) bX5_init_27 oX5_init_27 rfl trivial ?_
    refine mz_Go.ite (fun hc1 => ?_) (fun hc1 => ?_)
    · have h := mz_ifp hc1 h
      cases h
      exact mz_Go.retv (by decide +kernel) rfl ⟨Nat.le_refl _, Nat.le_refl _⟩ rfl
    · have h := mz_ifn hc1 h
      refine mz_Go.run (gs := []) (st' := (if (29 : Int32) ≤ x2 then (80, [some (.inr (.inr (some (0, 2)))), none, some (.inl x2), some (.inl x3), none], [], D) else (36, [some (.inr (.inr (some (0, 2)))), none, some (.inl x2), some (.inl x3), none], [], D))) bX5_init_30 oX5_init_30 rfl trivial ?_
      refine mz_Go.ite (fun hc2 => ?_) (fun hc2 => ?_)
      · have h := mz_ifp hc2 h
        cases h
        exact mz_Go.retv (by decide +kernel) rfl ⟨Nat.le_refl _, Nat.le_refl _⟩ rfl
      · have h := mz_ifn hc2 h
        refine mz_Go.ldcR rfl (by decide +kernel) ?_
        refine mz_Go.run (gs := []) (st' := (39, [some (.inr (.inr (some (0, 2)))), none, some (.inl x2), some (.inl x3), none], [.inl x3, .inr (.inr (some (0, 400)))], D)) bX5_init_38 oX5_init_38 rfl trivial ?_
        obtain ⟨hb3, h⟩ := mz_gd_some h
        refine mz_Go.callT (I := IX5_init8) (J := Ist_ca) (as := [.inl x3]) (i := 0) (idx := 27) (pl := 172) (rest := []) (by decide) (st_ca 0 x3 D (by decide) hb3) kst_ca vst_ca (by decide +kernel) (by decide +kernel) (by decide +kernel) rfl rfl ⟨rfl, rfl⟩ rfl rfl ?_
        refine mz_Go.run (gs := []) (st' := (if (st_ch 0 x3) = (32 : Int32) then (51, [some (.inr (.inr (some (0, 2)))), none, some (.inl x2), some (.inl x3), some (.inl (st_ch 0 x3))], [], D) else (57, [some (.inr (.inr (some (0, 2)))), none, some (.inl x2), some (.inl x3), some (.inl (st_ch 0 x3))], [], D))) bX5_init_42 oX5_init_42 rfl trivial ?_
        refine mz_Go.ite (fun hc4 => ?_) (fun hc4 => ?_)
        · have h := mz_ifp hc4 h
          refine mz_Go.run (gs := []) (st' := (21, [some (.inr (.inr (some (0, 2)))), none, some (.inl (x2 + (1 : Int32))), some (.inl (x3 + (1 : Int32))), some (.inl (st_ch 0 x3))], [], D)) bX5_init_51 oX5_init_51 rfl trivial ?_
          exact mz_Go.drop [true, false, true, true, false] (ih (x2 + (1 : Int32)) (x3 + (1 : Int32)) D h)
        · have h := mz_ifn hc4 h
          obtain ⟨hb5, h⟩ := mz_gd_some h
          refine mz_Go.run (gs := [mz_kz 8 0 2, mz_kz 8 0 2, mz_kz 8 0 3, mz_ix x2 29]) (st' := (70, [some (.inr (.inr (some (0, 2)))), none, some (.inl x2), some (.inl x3), some (.inl (st_ch 0 x3))], [.inl (st_ch 0 x3), .inr (.inl (D.2 0 3 (x2).toNatClampNeg)), .inl x2, .inr (.inr (some (0, 3)))], D)) bX5_init_57 oX5_init_57 rfl ⟨rfl, rfl, rfl, hb5, trivial⟩ ?_
          refine mz_Go.callS (I := IX5_init8) (J := IX5_withLetter) (as := [.inr (.inl (D.2 0 3 (x2).toNatClampNeg)), .inl (st_ch 0 x3)]) (idx := 31) (pl := 210) (rest := [.inl x2, .inr (.inr (some (0, 3)))]) (mX5_withLetter (D.2 0 3 (x2).toNatClampNeg) (st_ch 0 x3) D) kX5_withLetter vX5_withLetter (by decide +kernel) (by decide +kernel) (by decide +kernel) rfl rfl ⟨rfl, rfl⟩ rfl ?_
          refine mz_Go.run (gs := [mz_kz 8 0 3, mz_ix x2 29]) (st' := (21, [some (.inr (.inr (some (0, 2)))), none, some (.inl x2), some (.inl (x3 + (1 : Int32))), some (.inl (st_ch 0 x3))], [], (mz_wg D 0 3 (x2).toNatClampNeg (((D.2 0 3 (x2).toNatClampNeg) * (32 : Int64)) + ((((st_ch 0 x3) - (97 : Int32)) + (1 : Int32))).toInt64)))) bX5_init_73 oX5_init_73 rfl ⟨rfl, hb5, trivial⟩ ?_
          exact mz_Go.drop [true, false, true, true, false] (ih x2 (x3 + (1 : Int32)) (mz_wg D 0 3 (x2).toNatClampNeg (((D.2 0 3 (x2).toNatClampNeg) * (32 : Int64)) + ((((st_ch 0 x3) - (97 : Int32)) + (1 : Int32))).toInt64)) h)
def fX5_init_t (D : mz_D) : Option mz_D := (fX5_init8_21 mz_N (0 : Int32) (0 : Int32) D)
set_option maxHeartbeats 4000000 in
theorem tX5_init_t (r : mz_D) (D : mz_D) (h : fX5_init_t D = some r) : mz_Go IX5_init8 (none, r) 1 29 (17, [some (.inr (.inr (some (0, 2)))), some (.inr (.inr (some (0, 1)))), none, none, none], [], D) := by
  rw [fX5_init_t] at h
  refine mz_Go.run (gs := []) (st' := (21, [some (.inr (.inr (some (0, 2)))), some (.inr (.inr (some (0, 1)))), some (.inl (0 : Int32)), some (.inl (0 : Int32)), none], [], D)) bX5_init_17 oX5_init_17 rfl trivial ?_
  exact mz_Go.drop [true, false, true, true, false] (tX5_init8_21 r mz_N (0 : Int32) (0 : Int32) D h)
/-- the words that are no names, as the class keeps them: letter by letter -/
def cz_kw : List Int32 → Nat → mz_D → mz_D
  | [], _, D => D
  | b :: bs, w, D => if b = 32 then cz_kw bs (w + 1) D else cz_kw bs w (mz_wg D 0 3 w (((D.2 0 3 w) * (32 : Int64)) + (((b - (97 : Int32)) + (1 : Int32))).toInt64))
def cz_cn : List Int32 → Nat
  | [] => 0
  | b :: bs => if b = 32 then cz_cn bs + 1 else cz_cn bs
def cz_el : List Int32 → Bool
  | [] => true
  | [b] => decide (b = 32)
  | _ :: bs => cz_el bs
theorem cz_el_cn : ∀ (b : Int32) (bs : List Int32), cz_el (b :: bs) = true → 1 ≤ cz_cn (b :: bs)
  | b, [], h => by
    have hb : b = 32 := of_decide_eq_true h
    subst hb
    decide
  | b, b2 :: bs, h => by
    have ih := cz_el_cn b2 bs h
    rw [cz_cn]
    split <;> omega
theorem cz_el_tl {b : Int32} {bs : List Int32} (h : cz_el (b :: bs) = true) : cz_el bs = true := by
  cases bs with
  | nil => rfl
  | cons c cs => exact h
theorem cz_kwloop : ∀ (bs : List Int32) (i w n : Nat) (D : mz_D), mz_b0.drop i = bs → i + bs.length = 160 → w + cz_cn bs = 29 → cz_el bs = true → bs.length < n → fX5_init8_21 n (nI w) (nI i) D = some (cz_kw bs w D) := by
  intro bs
  induction bs with
  | nil =>
    intro i w n D hd hi hw he hn
    obtain ⟨n, rfl⟩ : ∃ k, n = k + 1 := ⟨n - 1, by omega⟩
    rw [fX5_init8_21]
    dsimp only
    rw [if_pos (show (Int32.ofNat 160) ≤ nI i from nI_le (by simp at hi; omega) (by simp at hi; omega))]
    rfl
  | cons b bs ih =>
    intro i w n D hd hi hw he hn
    have h1 := cz_el_cn b bs he
    obtain ⟨n, rfl⟩ : ∃ k, n = k + 1 := ⟨n - 1, by omega⟩
    have hi2 : i < 160 := by simp at hi; omega
    have hb : mz_b0[i]? = some b := by
      have h2 : (mz_b0.drop i)[0]? = some b := by rw [hd]; rfl
      rw [List.getElem?_drop] at h2
      simpa using h2
    have hd2 : mz_b0.drop (i + 1) = bs := by
      have h2 : (mz_b0.drop i).drop 1 = bs := by rw [hd]; rfl
      rw [List.drop_drop] at h2
      exact h2
    have hch : st_ch 0 (nI i) = b := by
      unfold st_ch
      rw [nI_clamp (by omega)]
      show mz_b0.getD i 0 = b
      rw [List.getD_eq_getElem?_getD, hb]
      rfl
    have hix : mz_ix (nI i) 160 = true := by
      simp only [mz_ix, Bool.and_eq_true, decide_eq_true_eq]
      exact ⟨nI_pos' (by omega), by rw [nI_clamp (by omega)]; exact hi2⟩
    have hiw : mz_ix (nI w) 29 = true := by
      simp only [mz_ix, Bool.and_eq_true, decide_eq_true_eq]
      exact ⟨nI_pos' (by omega), by rw [nI_clamp (by omega)]; omega⟩
    rw [fX5_init8_21]
    dsimp only
    rw [if_neg (show ¬ (Int32.ofNat 160) ≤ nI i from nI_ge hi2 (by omega)), if_neg (show ¬ (29 : Int32) ≤ nI w from nI_ge (a := w) (b := 29) (by omega) (by omega)), hix, hch, hiw]
    rw [cz_kw]
    rw [cz_cn] at hw
    by_cases hbb : b = 32
    · rw [if_pos hbb] at hw
      rw [if_pos hbb, if_pos hbb]
      show fX5_init8_21 n (nI w + 1) (nI i + 1) D = _
      rw [nI_1, nI_1]
      exact ih (i + 1) (w + 1) n D hd2 (by simp at hi; omega) (by omega) (cz_el_tl he) (by simp at hn; omega)
    · rw [if_neg hbb] at hw
      rw [if_neg hbb, if_neg hbb]
      show fX5_init8_21 n (nI w) (nI i + 1) (mz_wg D 0 3 (nI w).toNatClampNeg (D.2 0 3 (nI w).toNatClampNeg * 32 + (b - 97 + 1).toInt64)) = _
      rw [nI_1, nI_clamp (by omega)]
      exact ih (i + 1) w n _ hd2 (by simp at hi; omega) (by omega) (cz_el_tl he) (by simp at hn; omega)
def cz_DK : mz_D := cz_kw mz_b0 0 cz_D0
theorem cz_DKeq : fX5_init_t cz_D0 = some cz_DK := cz_kwloop mz_b0 0 0 mz_N cz_D0 rfl (by decide +kernel) (by decide +kernel) (by decide +kernel) (by decide +kernel)
set_option maxHeartbeats 4000000 in
theorem mX5_init (q t : Nat) (cA : Nat → ClassId) (ad : Nat → Nat → Nat) : cz_Met IX5_init [.ref q, .ref t] [(q, .inr (5, [.int 0, .int 0, .int 0, .null, .int 0, .int 0, .int 0, .int 0, .int 0, .long 0, .null]))] cA ad (fun t1 => ∃ a : Nat → Nat, a 2 = q ∧ a 1 = t ∧ t1 = cz_tl cA [2, 3] a cz_DK) := by
  refine cz_of (by decide +kernel) (Nat.le_of_ble_eq_true rfl) rfl ?_
  intro p l e s m below meth c G A ls C hr hlk hin hP hD hl
  obtain ⟨⟨hx, hb, hml, hown, hts⟩, hK, hA, hnw, hX⟩ := id C
  have hS : va_S A s.heap s.heap [] := va_S.rf
  have hl : lv_has ls 5 [(0, .ref q), (1, .ref t)] := hl
  refine lv_aload_n hx hb (show decode cX5_init 0 = .ok (.aload_n 0, 1) by decide +kernel) rfl (lv_at hl 0 rfl) ?_
  refine W.objInit hx hb hown (hts _ (mz_wm (show lw_tbl[160]? = some (.methodLink RX5 3 objectInit) by decide +kernel) rfl)) (hts _ (mz_wm (show lw_tbl[153]? = some (.instanceMethod objectInit) by decide +kernel) rfl)) (hts _ (mz_wm (show lw_tbl[154]? = some (.code objectInit ⟨#[0xb1]⟩ 1 none) by decide +kernel) rfl)) rfl (by rw [hml]; exact hl.1) rfl (show decode cX5_init 1 = .ok (.invokespecial 3, 3) by decide +kernel) (Nat.le_of_ble_eq_true rfl) (Nat.le_of_ble_eq_true rfl) ?_
  refine W.eq (g2 := F0 m 4 ls []) rfl ?_
  refine lv_aload_n hx hb (show decode cX5_init 4 = .ok (.aload_n 0, 1) by decide +kernel) rfl (lv_at hl 0 rfl) ?_
  refine lv_bipush (v := 29) hx hb (show decode cX5_init 5 = .ok (.bipush 29, 2) by decide +kernel) (by decide) ?_
  refine va_newa (atype := .long) (ty := .long) (a0 := (29, .inr (.inl (fun _ => 0)))) (n := 29) (N' := 29) hx hb (hts _ (mz_wm (show lw_tbl[253]? = some (.arrayClass .long) by decide +kernel) rfl)) rfl hK hP hD hS hA (fun _ => rfl) (by decide) (by decide) (Nat.le_of_ble_eq_true rfl) (Nat.le_of_ble_eq_true rfl) (Nat.le_of_ble_eq_true rfl) (show decode cX5_init 7 = .ok (.newarray .long, 2) by decide +kernel) (fun q1 cq1 H hK' hP hD hS => ?_)
  obtain rfl : cA 2 = cq1 := cz_ra (by simp) (hK.2 2 (cA 2, .long) rfl).2 (hK'.2 4 (cq1, .long) rfl).2
  have hP : va_P G vwCl ([(q, .inr (5, [.int 0, .int 0, .int 0, .null, .int 0, .int 0, .int 0, .int 0, .int 0, .long 0, .null])), (q1, .inl (cA 2, 29, .inr (.inl (fun _ => 0))))]) H := hP
  have hD : va_D A ([(q, .inr (5, [.int 0, .int 0, .int 0, .null, .int 0, .int 0, .int 0, .int 0, .int 0, .long 0, .null])), (q1, .inl (cA 2, 29, .inr (.inl (fun _ => 0))))]) := hD
  refine va_putF (D := G) (ci := 5) (C := RX5) (T := TX5) (N := 11) hx hb hts (mz_cls (ci := 5) rfl).1 tyX5 tyX5_ok nmX5 hown hK hP hD hS 0 rfl rfl 10 (by decide) (hts _ (mz_wm (show lw_tbl[228]? = some (.fieldLink RX5 11 RX5 "keywords" "[J") by decide +kernel) rfl)) (fun _ h9 => h9) rfl hin rfl (ty := .array .long) (v := .ref q1) (by decide +kernel) rfl rfl (Nat.le_of_ble_eq_true rfl) (show decode cX5_init 9 = .ok (.putfield 11, 3) by decide +kernel) (fun H locs hP hD hS => ?_)
  have hP : va_P G vwCl ([(q, .inr (5, [.int 0, .int 0, .int 0, .null, .int 0, .int 0, .int 0, .int 0, .int 0, .long 0, .ref q1])), (q1, .inl (cA 2, 29, .inr (.inl (fun _ => 0))))]) H := hP
  have hD : va_D A ([(q, .inr (5, [.int 0, .int 0, .int 0, .null, .int 0, .int 0, .int 0, .int 0, .int 0, .long 0, .ref q1])), (q1, .inl (cA 2, 29, .inr (.inl (fun _ => 0))))]) := hD
  refine lv_aload_n hx hb (show decode cX5_init 12 = .ok (.aload_n 0, 1) by decide +kernel) rfl (lv_at hl 0 rfl) ?_
  refine lv_aload_n hx hb (show decode cX5_init 13 = .ok (.aload_n 1, 1) by decide +kernel) rfl (lv_at hl 1 rfl) ?_
  refine va_putF (D := G) (ci := 5) (C := RX5) (T := TX5) (N := 11) hx hb hts (mz_cls (ci := 5) rfl).1 tyX5 tyX5_ok nmX5 hown hK hP hD hS 0 rfl rfl 3 (by decide) (hts _ (mz_wm (show lw_tbl[221]? = some (.fieldLink RX5 15 RX5 "text" "[B") by decide +kernel) rfl)) (fun _ h9 => h9) rfl hin rfl (ty := .array .byte) (v := .ref t) (by decide +kernel) rfl rfl (Nat.le_of_ble_eq_true rfl) (show decode cX5_init 14 = .ok (.putfield 15, 3) by decide +kernel) (fun H locs hP hD hS => ?_)
  have hP : va_P G vwCl ([(q, .inr (5, [.int 0, .int 0, .int 0, .ref t, .int 0, .int 0, .int 0, .int 0, .int 0, .long 0, .ref q1])), (q1, .inl (cA 2, 29, .inr (.inl (fun _ => 0))))]) H := hP
  have hD : va_D A ([(q, .inr (5, [.int 0, .int 0, .int 0, .ref t, .int 0, .int 0, .int 0, .int 0, .int 0, .long 0, .ref q1])), (q1, .inl (cA 2, 29, .inr (.inl (fun _ => 0))))]) := hD
  have C8 : mz_CX p s m [Value.ref q, Value.ref t].toArray c "LetMe$Reader" cX5_init 5 G cA A (fun g o => if o = 2 then q else if o = 3 then q1 else if o = 1 then t else ad g o) [(0, 2), (0, 3)] 8 := ⟨⟨hx, hb, hml, hown, hts⟩, hK, hA, mz_kz8, hnw, mz_X_ad (fun o ho => by (try simp only []); rw [if_neg (by omega), if_neg (by omega), if_neg (by omega)]) hX⟩
  have kk := tX5_init_t cz_DK cz_D0 cz_DKeq p l e s m [Value.ref q, Value.ref t].toArray below meth c G cA A (fun g o => if o = 2 then q else if o = 3 then q1 else if o = 1 then t else ad g o) [(0, 2), (0, 3)] C8 hr hlk H locs ls hP hD hS hl
  refine cz_Wmono ?_ kk
  rintro t' ⟨o, h1, h2, ⟨⟨ho, hPt, hDt⟩, hF⟩, h4⟩
  exact ⟨o, h1, h2, ⟨⟨ho, _, ⟨fun o => (fun g o => if o = 2 then q else if o = 3 then q1 else if o = 1 then t else ad g o) 0 o, rfl, rfl, rfl⟩, hPt, hDt⟩, hF⟩, h4⟩
