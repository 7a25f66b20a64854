/-! ===== LetMe.table, LetMe.year: a text's object is made, and forgotten ===== -/
def mz_zr (D : mz_D) (g o : Nat) : mz_D := (fun a b c => if b = o ∧ a = g then 0 else D.1 a b c, D.2)
theorem mz_getD {α : Type} (l : List α) (i : Nat) (d : α) : l.getD i d = d ∨ l.getD i d ∈ l := by
  by_cases h : i < l.length
  · exact Or.inr (st_mem h)
  · refine Or.inl ?_
    rw [List.getD_eq_getElem?_getD, List.getElem?_eq_none (by omega)]
    rfl
theorem mz_ch_lo {g o j : Nat} {k : Nat × Nat} (ho : o < 300) (h : mz_ch g o j = some k) : k.2 < 300 := by
  have k0 : ∀ row ∈ mz_c0, ∀ x ∈ row, (x.all fun q => decide (q.2 < 300)) = true := by decide
  have k1 : ∀ row ∈ mz_c1, ∀ x ∈ row, x < 300 := by decide
  have k2 : ∀ x ∈ mz_c2, x < 300 := by decide
  have tk : ∀ x, x < 300 → mz_tk g x = some k → k.2 < 300 := by
    intro x hx h
    unfold mz_tk at h
    cases hb : Nat.beq x 0 with
    | true => rw [hb] at h; cases h
    | false => rw [hb] at h; cases h; exact hx
  unfold mz_ch at h
  cases h1 : Nat.blt o 100 with
  | true =>
    rw [h1, cond_true] at h
    rcases mz_getD (mz_c0.getD o []) j none with e | e
    · rw [e] at h; cases h
    · rcases mz_getD mz_c0 o [] with e2 | e2
      · rw [e2] at e; cases e
      · have := k0 _ e2 _ e
        rw [h] at this
        simpa using this
  | false =>
    rw [h1, cond_false] at h
    cases h2 : Nat.blt o 200 with
    | true =>
      rw [h2, cond_true] at h
      refine tk _ ?_ h
      rcases mz_getD (mz_c1.getD (o - 100) []) j 0 with e | e
      · rw [e]; decide
      · rcases mz_getD mz_c1 (o - 100) [] with e2 | e2
        · rw [e2] at e; cases e
        · exact k1 _ e2 _ e
    | false =>
      rw [h2, cond_false] at h
      have h3 : Nat.blt o 300 = true := by
        unfold Nat.blt
        exact Nat.ble_eq_true_of_le (by omega)
      rw [h3, cond_true] at h
      refine tk _ ?_ h
      rcases mz_getD mz_c2 j 0 with e | e
      · rw [e]; decide
      · exact k2 _ e
theorem mz_rf_lo {ad ad' : Nat → Nat → Nat} {g o j : Nat} (ho : o < 300) (had : ∀ a b, b < 300 → ad' a b = ad a b) : (mz_ch g o j).map (fun q => ad' q.1 q.2) = (mz_ch g o j).map (fun q => ad q.1 q.2) := by
  cases h : mz_ch g o j with
  | none => rfl
  | some k => simp only [Option.map_some, had _ _ (mz_ch_lo ho h)]
theorem mz_ce_lo {cA : Nat → ClassId} {ad ad' : Nat → Nat → Nat} {D D' : mz_D} {g o : Nat} (ho : o < 300) (had : ∀ a b, b < 300 → ad' a b = ad a b) (h1 : D'.1 g o = D.1 g o) (h2 : D'.2 g o = D.2 g o) : mz_ce cA ad' D' g o = mz_ce cA ad D g o := by
  have hf : ∀ t k, mz_fv ad' D' g o t k = mz_fv ad D g o t k := by
    intro t k
    unfold mz_fv mz_rf
    rw [h1, h2, mz_rf_lo ho had]
  unfold mz_ce
  simp only [hf, h1, h2]
  split <;> first | rfl | (simp only [mz_rf_lo ho had])
theorem mz_wl_lo {cA : Nat → ClassId} {ad ad' : Nat → Nat → Nat} {D D' : mz_D} {ks : List (Nat × Nat)} (hlo : mz_lo ks) (had : ∀ a b, b < 300 → ad' a b = ad a b) (h1 : ∀ g o, o < 300 → D'.1 g o = D.1 g o) (h2 : ∀ g o, o < 300 → D'.2 g o = D.2 g o) : mz_wl cA ad' ks D' = mz_wl cA ad ks D := by
  unfold mz_wl
  apply List.map_congr_left
  intro k hk
  rw [had _ _ (hlo k hk), mz_ce_lo (hlo k hk) had (h1 _ _ (hlo k hk)) (h2 _ _ (hlo k hk))]
theorem mz_X_ad {ad ad' : Nat → Nat → Nat} {A : Nat → Prop} {U : State} {H : Heap} (h : ∀ o, 400 ≤ o → ad' 0 o = ad 0 o) (hX : mz_X ad A U H) : mz_X ad' A U H := by
  unfold mz_X at hX ⊢
  rw [h 400 (by omega), h 401 (by omega)]
  rw [show (fun i => ad' 0 (400 + i)) = fun i => ad 0 (400 + i) from funext fun i => h _ (by omega), show (fun i => ad' 0 (410 + i)) = fun i => ad 0 (410 + i) from funext fun i => h _ (by omega)]
  exact hX
theorem mz_P_left {G : va_G} {cl : List vw_C} {w t : va_W} {H : Heap} (h : va_P G cl (w ++ t) H) : va_P G cl w H := fun k q hq => h k q (by rw [List.getElem?_append_left (List.getElem?_eq_some_iff.mp hq).1]; exact hq)
theorem mz_D_left {A : Nat → Prop} {w t : va_W} (h : va_D A (w ++ t)) : va_D A w := ⟨fun i j x y hi hj hxy => h.1 i j x y (by rw [List.getElem?_append_left (List.getElem?_eq_some_iff.mp hi).1]; exact hi) (by rw [List.getElem?_append_left (List.getElem?_eq_some_iff.mp hj).1]; exact hj) hxy, fun k q hq => h.2 k q (by rw [List.getElem?_append_left (List.getElem?_eq_some_iff.mp hq).1]; exact hq)⟩
theorem mz_wl_app {cA : Nat → ClassId} {ad : Nat → Nat → Nat} {k1 k2 : List (Nat × Nat)} {D : mz_D} : mz_wl cA ad (k1 ++ k2) D = mz_wl cA ad k1 D ++ mz_wl cA ad k2 D := by
  unfold mz_wl
  rw [List.map_append]
theorem mz_kzT7 {ks : List (Nat × Nat)} (h : ∀ g o, mz_kz 0 g o = true → (g, o) ∈ ks) : ∀ g o, mz_kz 1 g o = true → (g, o) ∈ ks ++ [(0, 300)] := by
  intro g o hz
  by_cases ho : o < 300
  · refine List.mem_append_left _ (h g o ?_)
    have e3 : Nat.blt o 300 = true := Nat.ble_eq_true_of_le (by omega)
    have h0 : mz_k0 1 g o = true := hz
    show mz_k0 0 g o = true
    revert h0
    unfold mz_k0
    rw [e3]
    cases Nat.blt o 100 <;> cases Nat.blt o 200 <;> simp
  · have e3 : Nat.blt o 300 = false := by
      cases hb : Nat.blt o 300 with
      | false => rfl
      | true => exact absurd (Nat.le_of_ble_eq_true hb) (by omega)
    have e1 : Nat.blt o 100 = false := by
      cases hb : Nat.blt o 100 with
      | false => rfl
      | true => exact absurd (Nat.le_of_ble_eq_true hb) (by omega)
    have e2 : Nat.blt o 200 = false := by
      cases hb : Nat.blt o 200 with
      | false => rfl
      | true => exact absurd (Nat.le_of_ble_eq_true hb) (by omega)
    have h0 : mz_k0 1 g o = true := hz
    unfold mz_k0 at h0
    rw [e1, e2, e3] at h0
    simp only [cond_false] at h0
    cases hb : Nat.beq o 300 with
    | true =>
      rw [hb] at h0
      have h5 : Nat.beq g 0 = true := h0
      rw [Nat.eq_of_beq_eq_true hb, Nat.eq_of_beq_eq_true h5]
      exact List.mem_append_right _ List.mem_cons_self
    | false =>
      rw [hb] at h0
      cases hc : Nat.ble o 302 with
      | true => rw [hc] at h0; cases h0
      | false => rw [hc] at h0; cases h0
theorem mz_kzT10 {ks : List (Nat × Nat)} (h : ∀ g o, mz_kz 0 g o = true → (g, o) ∈ ks) : ∀ g o, mz_kz 2 g o = true → (g, o) ∈ ks ++ [(0, 301), (0, 302)] := by
  intro g o hz
  by_cases ho : o < 300
  · refine List.mem_append_left _ (h g o ?_)
    have e3 : Nat.blt o 300 = true := Nat.ble_eq_true_of_le (by omega)
    have h0 : mz_k0 2 g o = true := hz
    show mz_k0 0 g o = true
    revert h0
    unfold mz_k0
    rw [e3]
    cases Nat.blt o 100 <;> cases Nat.blt o 200 <;> simp
  · have e3 : Nat.blt o 300 = false := by
      cases hb : Nat.blt o 300 with
      | false => rfl
      | true => exact absurd (Nat.le_of_ble_eq_true hb) (by omega)
    have e1 : Nat.blt o 100 = false := by
      cases hb : Nat.blt o 100 with
      | false => rfl
      | true => exact absurd (Nat.le_of_ble_eq_true hb) (by omega)
    have e2 : Nat.blt o 200 = false := by
      cases hb : Nat.blt o 200 with
      | false => rfl
      | true => exact absurd (Nat.le_of_ble_eq_true hb) (by omega)
    have h0 : mz_k0 2 g o = true := hz
    unfold mz_k0 at h0
    rw [e1, e2, e3] at h0
    simp only [cond_false] at h0
    cases hb : Nat.beq o 300 with
    | true => rw [hb] at h0; cases h0
    | false =>
      rw [hb] at h0
      cases hc : Nat.ble o 302 with
      | false => rw [hc] at h0; cases h0
      | true =>
        rw [hc] at h0
        have h5 : Nat.beq g 0 = true := h0
        have hne : o ≠ 300 := fun e => by rw [e] at hb; cases hb
        have hle := Nat.le_of_ble_eq_true hc
        rw [Nat.eq_of_beq_eq_true h5]
        have : o = 301 ∨ o = 302 := by omega
        rcases this with rfl | rfl
        · exact List.mem_append_right _ List.mem_cons_self
        · exact List.mem_append_right _ (List.mem_cons_of_mem _ List.mem_cons_self)
def bX11_table_56 : List mz_E := [(56, .istore_n 2, 0, 0, 0, 0, 0), (57, .aload_n 0, 0, 0, 0, 0, 0), (58, .iload_n 2, 0, 0, 0, 0, 0)]
theorem oX11_table_56 : bX11_table_56.all (mz_ok RX11 cX11_table 3) = true := by decide +kernel
def bX11_table_62 : List mz_E := [(62, .ifCond .ne 10, 0, 72, 0, 0, 0)]
theorem oX11_table_62 : bX11_table_62.all (mz_ok RX11 cX11_table 3) = true := by decide +kernel
def bX11_table_65 : List mz_E := [(65, .aload_n 0, 0, 0, 0, 0, 0), (66, .bipush 9, 0, 0, 0, 9, 0)]
theorem oX11_table_65 : bX11_table_65.all (mz_ok RX11 cX11_table 3) = true := by decide +kernel
def bX11_table_72 : List mz_E := [(72, .aload_n 0, 0, 0, 0, 0, 0), (73, .getfield 32, 11, 4, 563, 0, 0), (76, .aload_n 0, 0, 0, 0, 0, 0), (77, .getfield 36, 11, 5, 564, 0, 0)]
theorem oX11_table_72 : bX11_table_72.all (mz_ok RX11 cX11_table 3) = true := by decide +kernel
def bX11_table_83 : List mz_E := [(83, .aload_n 0, 0, 0, 0, 0, 0), (84, .aload_n 0, 0, 0, 0, 0, 0), (85, .getfield 32, 11, 4, 563, 0, 0), (88, .getfield 151, 6, 0, 477, 0, 0), (91, .getfield 155, 4, 0, 290, 0, 0)]
theorem oX11_table_83 : bX11_table_83.all (mz_ok RX11 cX11_table 3) = true := by decide +kernel
def bX11_table_0 : List mz_E := [(0, .iload_n 1, 0, 0, 0, 0, 0), (1, .ifCond .lt 11, 0, 12, 0, 0, 0)]
theorem oX11_table_0 : bX11_table_0.all (mz_ok RX11 cX11_table 3) = true := by decide +kernel
def bX11_table_12 : List mz_E := [(12, .aload_n 0, 0, 0, 0, 0, 0), (13, .iconst 1, 0, 0, 0, 1, 0)]
theorem oX11_table_12 : bX11_table_12.all (mz_ok RX11 cX11_table 3) = true := by decide +kernel
def bX11_table_4 : List mz_E := [(4, .iload_n 1, 0, 0, 0, 0, 0), (5, .aload_n 0, 0, 0, 0, 0, 0), (6, .getfield 122, 11, 1, 560, 0, 0), (9, .if_icmp .le 9, 0, 18, 0, 0, 0)]
theorem oX11_table_4 : bX11_table_4.all (mz_ok RX11 cX11_table 3) = true := by decide +kernel
def bX11_table_18 : List mz_E := [(18, .aload_n 0, 0, 0, 0, 0, 0), (19, .iconst 0, 0, 0, 0, 0, 0), (20, .putfield 122, 11, 1, 560, 0, 0), (23, .aload_n 0, 0, 0, 0, 0, 0), (24, .getfield 36, 11, 5, 564, 0, 0)]
theorem oX11_table_18 : bX11_table_18.all (mz_ok RX11 cX11_table 3) = true := by decide +kernel
def bX11_table_30 : List mz_E := [(30, .aload_n 0, 0, 0, 0, 0, 0), (31, .getfield 18, 11, 2, 561, 0, 0), (34, .iload_n 1, 0, 0, 0, 0, 0)]
theorem oX11_table_30 : bX11_table_30.all (mz_ok RX11 cX11_table 3) = true := by decide +kernel
abbrev IX11_table : mz_I := (yX11_table, cX11_table, 3, (some .int), 0, 6, 1, 4)
abbrev IX11_tableT : mz_I := (yX11_table, cX11_table, 3, (some .int), 1, 6, 1, 4)
theorem kX11_table : mz_okm IX11_table 707 126 705 1 = true := by decide +kernel
theorem vX11_table : mz_okV IX11_table 705 706 = true := by decide +kernel
def fX11_table_t (x1 : Int32) (D : mz_D) : Option (Int32 × mz_D) := (Option.bind (fX7_isTaken D) fun q1 => (Option.bind (fX11_hearFault q1.1 q1.2) fun q2 => (if q2.1 = 0 then (some ((-1 : Int32), (mz_wi q2.2 0 0 13 (9 : Int32)))) else (Option.bind (fX6_copyFrom 1 2 q2.2) fun q4 => (some ((q4.1 1 101 0), (mz_wi q4 0 0 13 (0 : Int32))))))))
set_option maxHeartbeats 4000000 in
theorem tX11_table (r : Int32 × mz_D) (x1 : Int32) (D : mz_D) (h : fX11_table_t x1 D = some r) : mz_Go IX11_tableT (some (.inl r.1), r.2) 1 4 (53, [some (.inr (.inr (some (0, 0)))), some (.inl x1), none], [.inr (.inr (some (0, 300)))], D) := by
  rw [fX11_table_t] at h
  obtain ⟨q1, hq1, h⟩ := mz_bd_some h
  refine mz_Go.callV (I := IX11_tableT) (J := IX7_isTaken) (as := []) (ci := 7) (g := 0) (o := 300) (idx := 140) (pl := 771) (rest := []) (mX7_isTaken D q1 hq1) kX7_isTaken vX7_isTaken (by decide +kernel) (by decide +kernel) (by decide +kernel) rfl rfl ⟨rfl, rfl⟩ rfl rfl rfl rfl ?_
  refine mz_Go.run (gs := []) (st' := (59, [some (.inr (.inr (some (0, 0)))), some (.inl x1), some (.inl q1.1)], [.inl q1.1, .inr (.inr (some (0, 0)))], q1.2)) bX11_table_56 oX11_table_56 rfl trivial ?_
  obtain ⟨q2, hq2, h⟩ := mz_bd_some h
  refine mz_Go.callV (I := IX11_tableT) (J := IX11_hearFault) (as := [.inl q1.1]) (ci := 11) (g := 0) (o := 0) (idx := 143) (pl := 876) (rest := []) (mX11_hearFault q1.1 q1.2 q2 hq2) kX11_hearFault vX11_hearFault (by decide +kernel) (by decide +kernel) (by decide +kernel) rfl rfl ⟨rfl, rfl⟩ rfl rfl rfl rfl ?_
  refine mz_Go.run (gs := []) (st' := (if q2.1 = 0 then (65, [some (.inr (.inr (some (0, 0)))), some (.inl x1), some (.inl q1.1)], [], q2.2) else (72, [some (.inr (.inr (some (0, 0)))), some (.inl x1), some (.inl q1.1)], [], q2.2))) bX11_table_62 oX11_table_62 rfl trivial ?_
  refine mz_Go.ite (fun hc3 => ?_) (fun hc3 => ?_)
  · have h := mz_ifp hc3 h
    refine mz_Go.run (gs := []) (st' := (68, [some (.inr (.inr (some (0, 0)))), some (.inl x1), some (.inl q1.1)], [.inl (9 : Int32), .inr (.inr (some (0, 0)))], q2.2)) bX11_table_65 oX11_table_65 rfl trivial ?_
    refine mz_Go.callV (I := IX11_tableT) (J := IX11_refuse) (as := [.inl (9 : Int32)]) (ci := 11) (g := 0) (o := 0) (idx := 100) (pl := 673) (rest := []) (mX11_refuse (9 : Int32) q2.2) kX11_refuse vX11_refuse (by decide +kernel) (by decide +kernel) (by decide +kernel) rfl rfl ⟨rfl, rfl⟩ rfl rfl rfl rfl ?_
    cases h
    exact mz_Go.reti (by decide +kernel) rfl ⟨Nat.le_refl _, Nat.le_refl _⟩ rfl
  · have h := mz_ifn hc3 h
    refine mz_Go.run (gs := [mz_kz 1 0 0, mz_kz 1 0 0]) (st' := (80, [some (.inr (.inr (some (0, 0)))), some (.inl x1), some (.inl q1.1)], [.inr (.inr (some (2, 100))), .inr (.inr (some (1, 100)))], q2.2)) bX11_table_72 oX11_table_72 rfl ⟨rfl, rfl, trivial⟩ ?_
    obtain ⟨q4, hq4, h⟩ := mz_bd_some h
    refine mz_Go.callV (I := IX11_tableT) (J := IX6_copyFrom) (as := [.inr (.inr (some (2, 100)))]) (ci := 6) (g := 1) (o := 100) (idx := 147) (pl := 880) (rest := []) (mX6_copyFrom 1 2 q2.2 rfl rfl q4 hq4) kX6_copyFrom vX6_copyFrom (by decide +kernel) (by decide +kernel) (by decide +kernel) rfl rfl ⟨rfl, rfl⟩ rfl rfl rfl rfl ?_
    refine mz_Go.run (gs := [mz_kz 1 0 0, mz_kz 1 1 100, mz_kz 1 1 101]) (st' := (94, [some (.inr (.inr (some (0, 0)))), some (.inl x1), some (.inl q1.1)], [.inl (q4.1 1 101 0), .inr (.inr (some (0, 0)))], q4)) bX11_table_83 oX11_table_83 rfl ⟨rfl, rfl, rfl, trivial⟩ ?_
    refine mz_Go.callV (I := IX11_tableT) (J := IX11_answer) (as := [.inl (q4.1 1 101 0)]) (ci := 11) (g := 0) (o := 0) (idx := 160) (pl := 914) (rest := []) (mX11_answer (q4.1 1 101 0) q4) kX11_answer vX11_answer (by decide +kernel) (by decide +kernel) (by decide +kernel) rfl rfl ⟨rfl, rfl⟩ rfl rfl rfl rfl ?_
    cases h
    exact mz_Go.reti (by decide +kernel) rfl ⟨Nat.le_refl _, Nat.le_refl _⟩ rfl
set_option maxHeartbeats 4000000 in
theorem nwX11_table {rs : Int32 × mz_D} {x1 : Int32} {D : mz_D} (k : mz_Go IX11_tableT (some (.inl rs.1), rs.2) 1 4 (53, [some (.inr (.inr (some (0, 0)))), some (.inl x1), none], [.inr (.inr (some (0, 300)))], (mz_zr D 0 300))) : mz_GH IX11_table (some (.inl rs.1), rs.2) 0 0 (38, [some (.inr (.inr (some (0, 0)))), some (.inl x1), none], [], D) := by
  intro p l e s m args below meth c G cA A ad ks hlo C hr hlk H locs ls hP hD hS hl
  obtain ⟨⟨hx, hb, hml, hown, hts⟩, hK, hA, hks, hnw, hX⟩ := id C
  have CZ : cz_CX p s m args c "LetMe" cX11_table 3 G cA A ad := ⟨⟨hx, hb, hml, hown, hts⟩, hK, hA, hnw, hX⟩
  refine va_new (ci := 7) (fs := [.null, .null, .int 0, .int 0]) (C := RX7) (T := TX7) (N := 4) hx hb hts (mz_cls (ci := 7) rfl).1 tyX7 tyX7_ok hown (hts _ (mz_wm (show lw_tbl[752]? = some (.classLink RX11 135 RX7) by decide +kernel) rfl)) (hts _ (mz_wm (show lw_tbl[753]? = some (.instantiable RX7 4) by decide +kernel) rfl)) (hts _ (mz_wm (show lw_tbl[144]? = some (.initialized RX7) by decide +kernel) rfl)) hK hP hD hS hA rfl (by decide +kernel) (Nat.le_of_ble_eq_true rfl) (Nat.le_of_ble_eq_true rfl) (show decode cX11_table 38 = .ok (.new 135, 3) by decide +kernel) (fun q H hP hD hS => ?_)
  refine lv_dup hx hb (show decode cX11_table 41 = .ok (.dup, 1) by decide +kernel) rfl ?_
  refine lv_aload_n (i := 0) (x := ad 0 0) hx hb (show decode cX11_table 42 = .ok (.aload_n 0, 1) by decide +kernel) rfl (mz_has_at (v := .inr (.inr (some (0, 0)))) hl rfl) ?_
  obtain ⟨ze0_0, he0_0⟩ := mz_key C (show mz_kz 0 0 0 = true from rfl)
  have e0_0 := mz_wl_at (cA := cA) (ad := ad) (D := D) he0_0
  have e0_0 := (List.getElem?_append_left (l₂ := [(q, (.inr (7, [.null, .null, .int 0, .int 0]) : va_E))]) (List.getElem?_eq_some_iff.mp e0_0).1).trans e0_0
  refine va_get (D := G) (ci := 11) (v := .ref (ad 0 2)) (C := RX11) (T := TX11) (N := 18) hx hb hts (mz_cls (ci := 11) rfl).1 hown hK hP ze0_0 e0_0 rfl 2 (by decide) (hts _ (mz_wm (show lw_tbl[561]? = some (.fieldLink RX11 18 RX11 "reader" "LLetMe$Reader;") by decide +kernel) rfl)) (fun _ h9 => h9) rfl (show decode cX11_table 43 = .ok (.getfield 18, 3) by decide +kernel) ?_
  refine lv_aload_n (i := 0) (x := ad 0 0) hx hb (show decode cX11_table 46 = .ok (.aload_n 0, 1) by decide +kernel) rfl (mz_has_at (v := .inr (.inr (some (0, 0)))) hl rfl) ?_
  refine va_get (D := G) (ci := 11) (v := .ref (ad 2 100)) (C := RX11) (T := TX11) (N := 18) hx hb hts (mz_cls (ci := 11) rfl).1 hown hK hP ze0_0 e0_0 rfl 5 (by decide) (hts _ (mz_wm (show lw_tbl[564]? = some (.fieldLink RX11 36 RX11 "spare" "LLetMe$Table;") by decide +kernel) rfl)) (fun _ h9 => h9) rfl (show decode cX11_table 47 = .ok (.getfield 36, 3) by decide +kernel) ?_
  refine cz_callI (pl := 754) (J := IX7_init) (As := [.ref (ad 0 2), .ref (ad 2 100)]) (rest := [.ref q]) (b := q) (w := mz_wl cA ad ks D) CZ (mX7_init q (ad 0 2) (ad 2 100) cA ad) kX7_init (by decide +kernel) rfl rfl (by decide +kernel) ⟨Nat.le_of_ble_eq_true rfl, Nat.le_of_ble_eq_true rfl⟩ (show decode cX11_table 50 = .ok (.invokespecial 137, 3) by decide +kernel) rfl hl.1 (Nat.le_of_ble_eq_true rfl) ⟨Nat.le_of_ble_eq_true rfl, Nat.le_of_ble_eq_true rfl⟩ hP hD hS (fun t1 H locs hp hP hD hS => ?_)
  subst hp
  have had : ∀ a b, b < 300 → (fun g o => if o = 300 then q else ad g o) a b = ad a b := fun a b hb => by
    simp only []
    rw [if_neg (by omega)]
  have hw : mz_wl cA (fun g o => if o = 300 then q else ad g o) (ks ++ [(0, 300)]) ((mz_zr D 0 300)) = mz_wl cA ad ks D ++ [(q, .inr (7, [.ref (ad 0 2), .ref (ad 2 100), .int 0, .int 0]))] := by
    rw [mz_wl_app, mz_wl_lo hlo had]
    · rfl
    · intro g o ho
      funext j
      simp only [mz_zr]
      repeat rw [if_neg (by omega)]
    · intro g o ho; rfl
  rw [← hw] at hP hD
  have C1 : mz_CX p s m args c "LetMe" cX11_table 3 G cA A (fun g o => if o = 300 then q else ad g o) (ks ++ [(0, 300)]) 1 := by
    refine ⟨⟨hx, hb, hml, hown, hts⟩, hK, hA, fun g o hz => ?_, hnw, mz_X_ad (fun o ho => by (try simp only []); rw [if_neg (by omega)]) hX⟩
    exact mz_kzT7 hks g o hz
  have kk := k p l e s m args below meth c G cA A (fun g o => if o = 300 then q else ad g o) (ks ++ [(0, 300)]) C1 hr hlk H locs ls hP hD hS hl
  refine cz_Wmono ?_ kk
  rintro t ⟨o, h1, h2, ⟨⟨ho, hPt, hDt⟩, hF⟩, h4⟩
  rw [mz_wl_app, mz_wl_lo hlo had (fun _ _ _ => rfl) (fun _ _ _ => rfl)] at hPt hDt
  exact ⟨o, h1, h2, ⟨⟨ho, mz_P_left hPt, mz_D_left hDt⟩, hF⟩, h4⟩
def fX11_table (x1 : Int32) (D : mz_D) : Option (Int32 × mz_D) := (if x1 < 0 then (some ((-1 : Int32), (mz_wi D 0 0 13 (1 : Int32)))) else (if x1 ≤ (D.1 0 0 1) then (Option.bind (fX6_clear 2 (mz_wi D 0 0 1 (0 : Int32))) fun q3 => (Option.bind (fX5_open x1 q3) fun q4 => (fX11_table_t x1 (mz_zr q4 0 300)))) else (some ((-1 : Int32), (mz_wi D 0 0 13 (1 : Int32))))))
set_option maxHeartbeats 4000000 in
theorem mX11_table (x1 : Int32) (D : mz_D) (r : Int32 × mz_D) (h : fX11_table x1 D = some r) : mz_MetH IX11_table [.inr (.inr (some (0, 0))), .inl x1] D (some (.inl r.1), r.2) := by
  refine mz_MetH.of (by decide +kernel) (Nat.le_of_ble_eq_true rfl) ?_
  show mz_GH IX11_table (some (.inl r.1), r.2) 0 0 (0, [some (.inr (.inr (some (0, 0)))), some (.inl x1), none], [], D)
  rw [fX11_table] at h
  refine mz_GH.run (gs := []) (st' := (if x1 < 0 then (12, [some (.inr (.inr (some (0, 0)))), some (.inl x1), none], [], D) else (4, [some (.inr (.inr (some (0, 0)))), some (.inl x1), none], [], D))) bX11_table_0 oX11_table_0 rfl trivial ?_
  refine mz_GH.ite (fun hc1 => ?_) (fun hc1 => ?_)
  · have h := mz_ifp hc1 h
    refine mz_GH.run (gs := []) (st' := (14, [some (.inr (.inr (some (0, 0)))), some (.inl x1), none], [.inl (1 : Int32), .inr (.inr (some (0, 0)))], D)) bX11_table_12 oX11_table_12 rfl trivial ?_
    refine mz_GH.callV (I := IX11_table) (J := IX11_refuse) (as := [.inl (1 : Int32)]) (ci := 11) (g := 0) (o := 0) (idx := 100) (pl := 673) (rest := []) (mX11_refuse (1 : Int32) D) kX11_refuse vX11_refuse (by decide +kernel) (by decide +kernel) (by decide +kernel) rfl rfl ⟨rfl, rfl⟩ rfl rfl rfl rfl ?_
    cases h
    exact mz_GH.reti (by decide +kernel) rfl ⟨Nat.le_of_ble_eq_true rfl, Nat.le_of_ble_eq_true rfl⟩ rfl
  · have h := mz_ifn hc1 h
    refine mz_GH.run (gs := [mz_kz 0 0 0]) (st' := (if x1 ≤ (D.1 0 0 1) then (18, [some (.inr (.inr (some (0, 0)))), some (.inl x1), none], [], D) else (12, [some (.inr (.inr (some (0, 0)))), some (.inl x1), none], [], D))) bX11_table_4 oX11_table_4 rfl ⟨rfl, trivial⟩ ?_
    refine mz_GH.ite (fun hc2 => ?_) (fun hc2 => ?_)
    · have h := mz_ifp hc2 h
      refine mz_GH.run (gs := [mz_kz 0 0 0, mz_kz 0 0 0]) (st' := (27, [some (.inr (.inr (some (0, 0)))), some (.inl x1), none], [.inr (.inr (some (2, 100)))], (mz_wi D 0 0 1 (0 : Int32)))) bX11_table_18 oX11_table_18 rfl ⟨rfl, rfl, trivial⟩ ?_
      obtain ⟨q3, hq3, h⟩ := mz_bd_some h
      refine mz_GH.callV (I := IX11_table) (J := IX6_clear) (as := []) (ci := 6) (g := 2) (o := 100) (idx := 129) (pl := 708) (rest := []) (mX6_clear 2 (mz_wi D 0 0 1 (0 : Int32)) rfl q3 hq3) kX6_clear vX6_clear (by decide +kernel) (by decide +kernel) (by decide +kernel) rfl rfl ⟨rfl, rfl⟩ rfl rfl rfl rfl ?_
      refine mz_GH.run (gs := [mz_kz 0 0 0]) (st' := (35, [some (.inr (.inr (some (0, 0)))), some (.inl x1), none], [.inl x1, .inr (.inr (some (0, 2)))], q3)) bX11_table_30 oX11_table_30 rfl ⟨rfl, trivial⟩ ?_
      obtain ⟨q4, hq4, h⟩ := mz_bd_some h
      refine mz_GH.callV (I := IX11_table) (J := IX5_open) (as := [.inl x1]) (ci := 5) (g := 0) (o := 2) (idx := 132) (pl := 734) (rest := []) (mX5_open x1 q3 q4 hq4) kX5_open vX5_open (by decide +kernel) (by decide +kernel) (by decide +kernel) rfl rfl ⟨rfl, rfl⟩ rfl rfl rfl rfl ?_
      exact nwX11_table (tX11_table r x1 (mz_zr q4 0 300) h)
    · have h := mz_ifn hc2 h
      refine mz_GH.run (gs := []) (st' := (14, [some (.inr (.inr (some (0, 0)))), some (.inl x1), none], [.inl (1 : Int32), .inr (.inr (some (0, 0)))], D)) bX11_table_12 oX11_table_12 rfl trivial ?_
      refine mz_GH.callV (I := IX11_table) (J := IX11_refuse) (as := [.inl (1 : Int32)]) (ci := 11) (g := 0) (o := 0) (idx := 100) (pl := 673) (rest := []) (mX11_refuse (1 : Int32) D) kX11_refuse vX11_refuse (by decide +kernel) (by decide +kernel) (by decide +kernel) rfl rfl ⟨rfl, rfl⟩ rfl rfl rfl rfl ?_
      cases h
      exact mz_GH.reti (by decide +kernel) rfl ⟨Nat.le_of_ble_eq_true rfl, Nat.le_of_ble_eq_true rfl⟩ rfl
def bX11_year_76 : List mz_E := [(76, .istore_n 2, 0, 0, 0, 0, 0), (77, .aload_n 0, 0, 0, 0, 0, 0), (78, .iload_n 2, 0, 0, 0, 0, 0)]
theorem oX11_year_76 : bX11_year_76.all (mz_ok RX11 cX11_year 3) = true := by decide +kernel
def bX11_year_82 : List mz_E := [(82, .ifCond .ne 10, 0, 92, 0, 0, 0)]
theorem oX11_year_82 : bX11_year_82.all (mz_ok RX11 cX11_year 3) = true := by decide +kernel
def bX11_year_85 : List mz_E := [(85, .aload_n 0, 0, 0, 0, 0, 0), (86, .bipush 9, 0, 0, 0, 9, 0)]
theorem oX11_year_85 : bX11_year_85.all (mz_ok RX11 cX11_year 3) = true := by decide +kernel
def bX11_year_92 : List mz_E := [(92, .aload_n 0, 0, 0, 0, 0, 0), (93, .getfield 32, 11, 4, 563, 0, 0), (96, .getfield 163, 6, 4, 492, 0, 0), (99, .aload_n 0, 0, 0, 0, 0, 0), (100, .getfield 36, 11, 5, 564, 0, 0), (103, .getfield 163, 6, 4, 492, 0, 0)]
theorem oX11_year_92 : bX11_year_92.all (mz_ok RX11 cX11_year 3) = true := by decide +kernel
def bX11_year_109 : List mz_E := [(109, .aload_n 0, 0, 0, 0, 0, 0), (110, .aload_n 0, 0, 0, 0, 0, 0), (111, .getfield 32, 11, 4, 563, 0, 0), (114, .getfield 163, 6, 4, 492, 0, 0), (117, .getfield 179, 9, 1, 433, 0, 0)]
theorem oX11_year_109 : bX11_year_109.all (mz_ok RX11 cX11_year 3) = true := by decide +kernel
def bX11_year_0 : List mz_E := [(0, .iload_n 1, 0, 0, 0, 0, 0), (1, .ifCond .lt 18, 0, 19, 0, 0, 0)]
theorem oX11_year_0 : bX11_year_0.all (mz_ok RX11 cX11_year 3) = true := by decide +kernel
def bX11_year_19 : List mz_E := [(19, .aload_n 0, 0, 0, 0, 0, 0), (20, .iconst 1, 0, 0, 0, 1, 0)]
theorem oX11_year_19 : bX11_year_19.all (mz_ok RX11 cX11_year 3) = true := by decide +kernel
def bX11_year_4 : List mz_E := [(4, .iload_n 1, 0, 0, 0, 0, 0), (5, .aload_n 0, 0, 0, 0, 0, 0), (6, .getfield 122, 11, 1, 560, 0, 0), (9, .if_icmp .gt 10, 0, 19, 0, 0, 0)]
theorem oX11_year_4 : bX11_year_4.all (mz_ok RX11 cX11_year 3) = true := by decide +kernel
def bX11_year_12 : List mz_E := [(12, .iload_n 1, 0, 0, 0, 0, 0), (13, .sipush 300, 0, 0, 0, 300, 0), (16, .if_icmp .le 9, 0, 25, 0, 0, 0)]
theorem oX11_year_12 : bX11_year_12.all (mz_ok RX11 cX11_year 3) = true := by decide +kernel
def bX11_year_25 : List mz_E := [(25, .aload_n 0, 0, 0, 0, 0, 0), (26, .iconst 0, 0, 0, 0, 0, 0), (27, .putfield 122, 11, 1, 560, 0, 0), (30, .aload_n 0, 0, 0, 0, 0, 0), (31, .getfield 36, 11, 5, 564, 0, 0), (34, .getfield 163, 6, 4, 492, 0, 0)]
theorem oX11_year_25 : bX11_year_25.all (mz_ok RX11 cX11_year 3) = true := by decide +kernel
def bX11_year_40 : List mz_E := [(40, .aload_n 0, 0, 0, 0, 0, 0), (41, .getfield 18, 11, 2, 561, 0, 0), (44, .iload_n 1, 0, 0, 0, 0, 0)]
theorem oX11_year_40 : bX11_year_40.all (mz_ok RX11 cX11_year 3) = true := by decide +kernel
abbrev IX11_year : mz_I := (yX11_year, cX11_year, 3, (some .int), 0, 6, 2, 9)
abbrev IX11_yearT : mz_I := (yX11_year, cX11_year, 3, (some .int), 2, 6, 2, 9)
theorem kX11_year : mz_okm IX11_year 921 126 919 1 = true := by decide +kernel
theorem vX11_year : mz_okV IX11_year 919 920 = true := by decide +kernel
def fX11_year_t (x1 : Int32) (D : mz_D) : Option (Int32 × mz_D) := (Option.bind (fX10_isTaken D) fun q1 => (Option.bind (fX11_hearFault q1.1 q1.2) fun q2 => (if q2.1 = 0 then (some ((-1 : Int32), (mz_wi q2.2 0 0 13 (9 : Int32)))) else (Option.bind (fX9_copyFrom 1 2 q2.2) fun q4 => (some ((q4.1 1 119 1), (mz_wi q4 0 0 13 (0 : Int32))))))))
set_option maxHeartbeats 4000000 in
theorem tX11_year (r : Int32 × mz_D) (x1 : Int32) (D : mz_D) (h : fX11_year_t x1 D = some r) : mz_Go IX11_yearT (some (.inl r.1), r.2) 2 9 (73, [some (.inr (.inr (some (0, 0)))), some (.inl x1), none], [.inr (.inr (some (0, 301)))], D) := by
  rw [fX11_year_t] at h
  obtain ⟨q1, hq1, h⟩ := mz_bd_some h
  refine mz_Go.callV (I := IX11_yearT) (J := IX10_isTaken) (as := []) (ci := 10) (g := 0) (o := 301) (idx := 175) (pl := 948) (rest := []) (mX10_isTaken D q1 hq1) kX10_isTaken vX10_isTaken (by decide +kernel) (by decide +kernel) (by decide +kernel) rfl rfl ⟨rfl, rfl⟩ rfl rfl rfl rfl ?_
  refine mz_Go.run (gs := []) (st' := (79, [some (.inr (.inr (some (0, 0)))), some (.inl x1), some (.inl q1.1)], [.inl q1.1, .inr (.inr (some (0, 0)))], q1.2)) bX11_year_76 oX11_year_76 rfl trivial ?_
  obtain ⟨q2, hq2, h⟩ := mz_bd_some h
  refine mz_Go.callV (I := IX11_yearT) (J := IX11_hearFault) (as := [.inl q1.1]) (ci := 11) (g := 0) (o := 0) (idx := 143) (pl := 876) (rest := []) (mX11_hearFault q1.1 q1.2 q2 hq2) kX11_hearFault vX11_hearFault (by decide +kernel) (by decide +kernel) (by decide +kernel) rfl rfl ⟨rfl, rfl⟩ rfl rfl rfl rfl ?_
  refine mz_Go.run (gs := []) (st' := (if q2.1 = 0 then (85, [some (.inr (.inr (some (0, 0)))), some (.inl x1), some (.inl q1.1)], [], q2.2) else (92, [some (.inr (.inr (some (0, 0)))), some (.inl x1), some (.inl q1.1)], [], q2.2))) bX11_year_82 oX11_year_82 rfl trivial ?_
  refine mz_Go.ite (fun hc3 => ?_) (fun hc3 => ?_)
  · have h := mz_ifp hc3 h
    refine mz_Go.run (gs := []) (st' := (88, [some (.inr (.inr (some (0, 0)))), some (.inl x1), some (.inl q1.1)], [.inl (9 : Int32), .inr (.inr (some (0, 0)))], q2.2)) bX11_year_85 oX11_year_85 rfl trivial ?_
    refine mz_Go.callV (I := IX11_yearT) (J := IX11_refuse) (as := [.inl (9 : Int32)]) (ci := 11) (g := 0) (o := 0) (idx := 100) (pl := 673) (rest := []) (mX11_refuse (9 : Int32) q2.2) kX11_refuse vX11_refuse (by decide +kernel) (by decide +kernel) (by decide +kernel) rfl rfl ⟨rfl, rfl⟩ rfl rfl rfl rfl ?_
    cases h
    exact mz_Go.reti (by decide +kernel) rfl ⟨Nat.le_refl _, Nat.le_refl _⟩ rfl
  · have h := mz_ifn hc3 h
    refine mz_Go.run (gs := [mz_kz 2 0 0, mz_kz 2 1 100, mz_kz 2 0 0, mz_kz 2 2 100]) (st' := (106, [some (.inr (.inr (some (0, 0)))), some (.inl x1), some (.inl q1.1)], [.inr (.inr (some (2, 119))), .inr (.inr (some (1, 119)))], q2.2)) bX11_year_92 oX11_year_92 rfl ⟨rfl, rfl, rfl, rfl, trivial⟩ ?_
    obtain ⟨q4, hq4, h⟩ := mz_bd_some h
    refine mz_Go.callV (I := IX11_yearT) (J := IX9_copyFrom) (as := [.inr (.inr (some (2, 119)))]) (ci := 9) (g := 1) (o := 119) (idx := 176) (pl := 1010) (rest := []) (mX9_copyFrom 1 2 q2.2 rfl rfl q4 hq4) kX9_copyFrom vX9_copyFrom (by decide +kernel) (by decide +kernel) (by decide +kernel) rfl rfl ⟨rfl, rfl⟩ rfl rfl rfl rfl ?_
    refine mz_Go.run (gs := [mz_kz 2 0 0, mz_kz 2 1 100, mz_kz 2 1 119]) (st' := (120, [some (.inr (.inr (some (0, 0)))), some (.inl x1), some (.inl q1.1)], [.inl (q4.1 1 119 1), .inr (.inr (some (0, 0)))], q4)) bX11_year_109 oX11_year_109 rfl ⟨rfl, rfl, rfl, trivial⟩ ?_
    refine mz_Go.callV (I := IX11_yearT) (J := IX11_answer) (as := [.inl (q4.1 1 119 1)]) (ci := 11) (g := 0) (o := 0) (idx := 160) (pl := 914) (rest := []) (mX11_answer (q4.1 1 119 1) q4) kX11_answer vX11_answer (by decide +kernel) (by decide +kernel) (by decide +kernel) rfl rfl ⟨rfl, rfl⟩ rfl rfl rfl rfl ?_
    cases h
    exact mz_Go.reti (by decide +kernel) rfl ⟨Nat.le_refl _, Nat.le_refl _⟩ rfl
set_option maxHeartbeats 4000000 in
theorem nwX11_year {rs : Int32 × mz_D} {x1 : Int32} {D : mz_D} (k : mz_Go IX11_yearT (some (.inl rs.1), rs.2) 2 9 (73, [some (.inr (.inr (some (0, 0)))), some (.inl x1), none], [.inr (.inr (some (0, 301)))], (mz_zr (mz_zr D 0 301) 0 302))) : mz_GH IX11_year (some (.inl rs.1), rs.2) 0 0 (48, [some (.inr (.inr (some (0, 0)))), some (.inl x1), none], [], D) := by
  intro p l e s m args below meth c G cA A ad ks hlo C hr hlk H locs ls hP hD hS hl
  obtain ⟨⟨hx, hb, hml, hown, hts⟩, hK, hA, hks, hnw, hX⟩ := id C
  have CZ : cz_CX p s m args c "LetMe" cX11_year 3 G cA A ad := ⟨⟨hx, hb, hml, hown, hts⟩, hK, hA, hnw, hX⟩
  refine va_new (ci := 10) (fs := [.null, .null, .null, .null, .int 0, .int 0]) (C := RX10) (T := TX10) (N := 6) hx hb hts (mz_cls (ci := 10) rfl).1 tyX10 tyX10_ok hown (hts _ (mz_wm (show lw_tbl[923]? = some (.classLink RX11 170 RX10) by decide +kernel) rfl)) (hts _ (mz_wm (show lw_tbl[924]? = some (.instantiable RX10 6) by decide +kernel) rfl)) (hts _ (mz_wm (show lw_tbl[145]? = some (.initialized RX10) by decide +kernel) rfl)) hK hP hD hS hA rfl (by decide +kernel) (Nat.le_of_ble_eq_true rfl) (Nat.le_of_ble_eq_true rfl) (show decode cX11_year 48 = .ok (.new 170, 3) by decide +kernel) (fun q H hP hD hS => ?_)
  refine lv_dup hx hb (show decode cX11_year 51 = .ok (.dup, 1) by decide +kernel) rfl ?_
  refine lv_aload_n (i := 0) (x := ad 0 0) hx hb (show decode cX11_year 52 = .ok (.aload_n 0, 1) by decide +kernel) rfl (mz_has_at (v := .inr (.inr (some (0, 0)))) hl rfl) ?_
  obtain ⟨ze0_0, he0_0⟩ := mz_key C (show mz_kz 0 0 0 = true from rfl)
  have e0_0 := mz_wl_at (cA := cA) (ad := ad) (D := D) he0_0
  have e0_0 := (List.getElem?_append_left (l₂ := [(q, (.inr (10, [.null, .null, .null, .null, .int 0, .int 0]) : va_E))]) (List.getElem?_eq_some_iff.mp e0_0).1).trans e0_0
  refine va_get (D := G) (ci := 11) (v := .ref (ad 0 2)) (C := RX11) (T := TX11) (N := 18) hx hb hts (mz_cls (ci := 11) rfl).1 hown hK hP ze0_0 e0_0 rfl 2 (by decide) (hts _ (mz_wm (show lw_tbl[561]? = some (.fieldLink RX11 18 RX11 "reader" "LLetMe$Reader;") by decide +kernel) rfl)) (fun _ h9 => h9) rfl (show decode cX11_year 53 = .ok (.getfield 18, 3) by decide +kernel) ?_
  refine lv_aload_n (i := 0) (x := ad 0 0) hx hb (show decode cX11_year 56 = .ok (.aload_n 0, 1) by decide +kernel) rfl (mz_has_at (v := .inr (.inr (some (0, 0)))) hl rfl) ?_
  refine va_get (D := G) (ci := 11) (v := .ref (ad 1 100)) (C := RX11) (T := TX11) (N := 18) hx hb hts (mz_cls (ci := 11) rfl).1 hown hK hP ze0_0 e0_0 rfl 4 (by decide) (hts _ (mz_wm (show lw_tbl[563]? = some (.fieldLink RX11 32 RX11 "table" "LLetMe$Table;") by decide +kernel) rfl)) (fun _ h9 => h9) rfl (show decode cX11_year 57 = .ok (.getfield 32, 3) by decide +kernel) ?_
  obtain ⟨ze1_100, he1_100⟩ := mz_key C (show mz_kz 0 1 100 = true from rfl)
  have e1_100 := mz_wl_at (cA := cA) (ad := ad) (D := D) he1_100
  have e1_100 := (List.getElem?_append_left (l₂ := [(q, (.inr (10, [.null, .null, .null, .null, .int 0, .int 0]) : va_E))]) (List.getElem?_eq_some_iff.mp e1_100).1).trans e1_100
  refine va_get (D := G) (ci := 6) (v := .ref (ad 1 101)) (C := RX6) (T := TX6) (N := 7) hx hb hts (mz_cls (ci := 6) rfl).1 hown hK hP ze1_100 e1_100 rfl 0 (by decide) (hts _ (mz_wm (show lw_tbl[477]? = some (.fieldLink RX11 151 RX6 "people" "LLetMe$People;") by decide +kernel) rfl)) (fun _ h9 => h9) rfl (show decode cX11_year 60 = .ok (.getfield 151, 3) by decide +kernel) ?_
  refine lv_aload_n (i := 0) (x := ad 0 0) hx hb (show decode cX11_year 63 = .ok (.aload_n 0, 1) by decide +kernel) rfl (mz_has_at (v := .inr (.inr (some (0, 0)))) hl rfl) ?_
  refine va_get (D := G) (ci := 11) (v := .ref (ad 2 100)) (C := RX11) (T := TX11) (N := 18) hx hb hts (mz_cls (ci := 11) rfl).1 hown hK hP ze0_0 e0_0 rfl 5 (by decide) (hts _ (mz_wm (show lw_tbl[564]? = some (.fieldLink RX11 36 RX11 "spare" "LLetMe$Table;") by decide +kernel) rfl)) (fun _ h9 => h9) rfl (show decode cX11_year 64 = .ok (.getfield 36, 3) by decide +kernel) ?_
  obtain ⟨ze2_100, he2_100⟩ := mz_key C (show mz_kz 0 2 100 = true from rfl)
  have e2_100 := mz_wl_at (cA := cA) (ad := ad) (D := D) he2_100
  have e2_100 := (List.getElem?_append_left (l₂ := [(q, (.inr (10, [.null, .null, .null, .null, .int 0, .int 0]) : va_E))]) (List.getElem?_eq_some_iff.mp e2_100).1).trans e2_100
  refine va_get (D := G) (ci := 6) (v := .ref (ad 2 119)) (C := RX6) (T := TX6) (N := 7) hx hb hts (mz_cls (ci := 6) rfl).1 hown hK hP ze2_100 e2_100 rfl 4 (by decide) (hts _ (mz_wm (show lw_tbl[492]? = some (.fieldLink RX11 163 RX6 "year" "LLetMe$Year;") by decide +kernel) rfl)) (fun _ h9 => h9) rfl (show decode cX11_year 67 = .ok (.getfield 163, 3) by decide +kernel) ?_
  refine cz_callI (pl := 925) (J := IX10_init) (As := [.ref (ad 0 2), .ref (ad 1 101), .ref (ad 2 119)]) (rest := [.ref q]) (b := q) (w := mz_wl cA ad ks D) CZ (mX10_init q (ad 0 2) (ad 1 101) (ad 2 119) cA ad) kX10_init (by decide +kernel) rfl rfl (by decide +kernel) ⟨Nat.le_of_ble_eq_true rfl, Nat.le_of_ble_eq_true rfl⟩ (show decode cX11_year 70 = .ok (.invokespecial 172, 3) by decide +kernel) rfl hl.1 (Nat.le_of_ble_eq_true rfl) ⟨Nat.le_of_ble_eq_true rfl, Nat.le_of_ble_eq_true rfl⟩ hP hD hS (fun t1 H locs hp hP hD hS => ?_)
  obtain ⟨q2, rfl⟩ := hp
  have had : ∀ a b, b < 300 → (fun g o => if o = 301 then q else if o = 302 then q2 else ad g o) a b = ad a b := fun a b hb => by
    simp only []
    rw [if_neg (by omega)]
    rw [if_neg (by omega)]
  have hw : mz_wl cA (fun g o => if o = 301 then q else if o = 302 then q2 else ad g o) (ks ++ [(0, 301), (0, 302)]) ((mz_zr (mz_zr D 0 301) 0 302)) = mz_wl cA ad ks D ++ [(q, .inr (10, [.ref (ad 0 2), .ref (ad 1 101), .ref (ad 2 119), .ref q2, .int 0, .int 0])), (q2, .inl (cA 0, 3, .inl (fun _ => 0)))] := by
    rw [mz_wl_app, mz_wl_lo hlo had]
    · rfl
    · intro g o ho
      funext j
      simp only [mz_zr]
      repeat rw [if_neg (by omega)]
    · intro g o ho; rfl
  rw [← hw] at hP hD
  have C1 : mz_CX p s m args c "LetMe" cX11_year 3 G cA A (fun g o => if o = 301 then q else if o = 302 then q2 else ad g o) (ks ++ [(0, 301), (0, 302)]) 2 := by
    refine ⟨⟨hx, hb, hml, hown, hts⟩, hK, hA, fun g o hz => ?_, hnw, mz_X_ad (fun o ho => by (try simp only []); rw [if_neg (by omega)]; rw [if_neg (by omega)]) hX⟩
    exact mz_kzT10 hks g o hz
  have kk := k p l e s m args below meth c G cA A (fun g o => if o = 301 then q else if o = 302 then q2 else ad g o) (ks ++ [(0, 301), (0, 302)]) C1 hr hlk H locs ls hP hD hS hl
  refine cz_Wmono ?_ kk
  rintro t ⟨o, h1, h2, ⟨⟨ho, hPt, hDt⟩, hF⟩, h4⟩
  rw [mz_wl_app, mz_wl_lo hlo had (fun _ _ _ => rfl) (fun _ _ _ => rfl)] at hPt hDt
  exact ⟨o, h1, h2, ⟨⟨ho, mz_P_left hPt, mz_D_left hDt⟩, hF⟩, h4⟩
def fX11_year (x1 : Int32) (D : mz_D) : Option (Int32 × mz_D) := (if x1 < 0 then (some ((-1 : Int32), (mz_wi D 0 0 13 (1 : Int32)))) else (if (D.1 0 0 1) < x1 then (some ((-1 : Int32), (mz_wi D 0 0 13 (1 : Int32)))) else (if x1 ≤ (300 : Int32) then (Option.bind (fX5_open x1 (mz_wi (mz_wi (mz_wi D 0 0 1 (0 : Int32)) 2 119 0 (0 : Int32)) 2 119 1 (0 : Int32))) fun q4 => (fX11_year_t x1 (mz_zr (mz_zr q4 0 301) 0 302))) else (some ((-1 : Int32), (mz_wi D 0 0 13 (1 : Int32)))))))
set_option maxHeartbeats 4000000 in
theorem mX11_year (x1 : Int32) (D : mz_D) (r : Int32 × mz_D) (h : fX11_year x1 D = some r) : mz_MetH IX11_year [.inr (.inr (some (0, 0))), .inl x1] D (some (.inl r.1), r.2) := by
  refine mz_MetH.of (by decide +kernel) (Nat.le_of_ble_eq_true rfl) ?_
  show mz_GH IX11_year (some (.inl r.1), r.2) 0 0 (0, [some (.inr (.inr (some (0, 0)))), some (.inl x1), none], [], D)
  rw [fX11_year] at h
  refine mz_GH.run (gs := []) (st' := (if x1 < 0 then (19, [some (.inr (.inr (some (0, 0)))), some (.inl x1), none], [], D) else (4, [some (.inr (.inr (some (0, 0)))), some (.inl x1), none], [], D))) bX11_year_0 oX11_year_0 rfl trivial ?_
  refine mz_GH.ite (fun hc1 => ?_) (fun hc1 => ?_)
  · have h := mz_ifp hc1 h
    refine mz_GH.run (gs := []) (st' := (21, [some (.inr (.inr (some (0, 0)))), some (.inl x1), none], [.inl (1 : Int32), .inr (.inr (some (0, 0)))], D)) bX11_year_19 oX11_year_19 rfl trivial ?_
    refine mz_GH.callV (I := IX11_year) (J := IX11_refuse) (as := [.inl (1 : Int32)]) (ci := 11) (g := 0) (o := 0) (idx := 100) (pl := 673) (rest := []) (mX11_refuse (1 : Int32) D) kX11_refuse vX11_refuse (by decide +kernel) (by decide +kernel) (by decide +kernel) rfl rfl ⟨rfl, rfl⟩ rfl rfl rfl rfl ?_
    cases h
    exact mz_GH.reti (by decide +kernel) rfl ⟨Nat.le_of_ble_eq_true rfl, Nat.le_of_ble_eq_true rfl⟩ rfl
  · have h := mz_ifn hc1 h
    refine mz_GH.run (gs := [mz_kz 0 0 0]) (st' := (if (D.1 0 0 1) < x1 then (19, [some (.inr (.inr (some (0, 0)))), some (.inl x1), none], [], D) else (12, [some (.inr (.inr (some (0, 0)))), some (.inl x1), none], [], D))) bX11_year_4 oX11_year_4 rfl ⟨rfl, trivial⟩ ?_
    refine mz_GH.ite (fun hc2 => ?_) (fun hc2 => ?_)
    · have h := mz_ifp hc2 h
      refine mz_GH.run (gs := []) (st' := (21, [some (.inr (.inr (some (0, 0)))), some (.inl x1), none], [.inl (1 : Int32), .inr (.inr (some (0, 0)))], D)) bX11_year_19 oX11_year_19 rfl trivial ?_
      refine mz_GH.callV (I := IX11_year) (J := IX11_refuse) (as := [.inl (1 : Int32)]) (ci := 11) (g := 0) (o := 0) (idx := 100) (pl := 673) (rest := []) (mX11_refuse (1 : Int32) D) kX11_refuse vX11_refuse (by decide +kernel) (by decide +kernel) (by decide +kernel) rfl rfl ⟨rfl, rfl⟩ rfl rfl rfl rfl ?_
      cases h
      exact mz_GH.reti (by decide +kernel) rfl ⟨Nat.le_of_ble_eq_true rfl, Nat.le_of_ble_eq_true rfl⟩ rfl
    · have h := mz_ifn hc2 h
      refine mz_GH.run (gs := []) (st' := (if x1 ≤ (300 : Int32) then (25, [some (.inr (.inr (some (0, 0)))), some (.inl x1), none], [], D) else (19, [some (.inr (.inr (some (0, 0)))), some (.inl x1), none], [], D))) bX11_year_12 oX11_year_12 rfl trivial ?_
      refine mz_GH.ite (fun hc3 => ?_) (fun hc3 => ?_)
      · have h := mz_ifp hc3 h
        refine mz_GH.run (gs := [mz_kz 0 0 0, mz_kz 0 0 0, mz_kz 0 2 100]) (st' := (37, [some (.inr (.inr (some (0, 0)))), some (.inl x1), none], [.inr (.inr (some (2, 119)))], (mz_wi D 0 0 1 (0 : Int32)))) bX11_year_25 oX11_year_25 rfl ⟨rfl, rfl, rfl, trivial⟩ ?_
        refine mz_GH.callV (I := IX11_year) (J := IX9_clear) (as := []) (ci := 9) (g := 2) (o := 119) (idx := 167) (pl := 922) (rest := []) (mX9_clear 2 (mz_wi D 0 0 1 (0 : Int32)) rfl) kX9_clear vX9_clear (by decide +kernel) (by decide +kernel) (by decide +kernel) rfl rfl ⟨rfl, rfl⟩ rfl rfl rfl rfl ?_
        refine mz_GH.run (gs := [mz_kz 0 0 0]) (st' := (45, [some (.inr (.inr (some (0, 0)))), some (.inl x1), none], [.inl x1, .inr (.inr (some (0, 2)))], (mz_wi (mz_wi (mz_wi D 0 0 1 (0 : Int32)) 2 119 0 (0 : Int32)) 2 119 1 (0 : Int32)))) bX11_year_40 oX11_year_40 rfl ⟨rfl, trivial⟩ ?_
        obtain ⟨q4, hq4, h⟩ := mz_bd_some h
        refine mz_GH.callV (I := IX11_year) (J := IX5_open) (as := [.inl x1]) (ci := 5) (g := 0) (o := 2) (idx := 132) (pl := 734) (rest := []) (mX5_open x1 (mz_wi (mz_wi (mz_wi D 0 0 1 (0 : Int32)) 2 119 0 (0 : Int32)) 2 119 1 (0 : Int32)) q4 hq4) kX5_open vX5_open (by decide +kernel) (by decide +kernel) (by decide +kernel) rfl rfl ⟨rfl, rfl⟩ rfl rfl rfl rfl ?_
        exact nwX11_year (tX11_year r x1 (mz_zr (mz_zr q4 0 301) 0 302) h)
      · have h := mz_ifn hc3 h
        refine mz_GH.run (gs := []) (st' := (21, [some (.inr (.inr (some (0, 0)))), some (.inl x1), none], [.inl (1 : Int32), .inr (.inr (some (0, 0)))], D)) bX11_year_19 oX11_year_19 rfl trivial ?_
        refine mz_GH.callV (I := IX11_year) (J := IX11_refuse) (as := [.inl (1 : Int32)]) (ci := 11) (g := 0) (o := 0) (idx := 100) (pl := 673) (rest := []) (mX11_refuse (1 : Int32) D) kX11_refuse vX11_refuse (by decide +kernel) (by decide +kernel) (by decide +kernel) rfl rfl ⟨rfl, rfl⟩ rfl rfl rfl rfl ?_
        cases h
        exact mz_GH.reti (by decide +kernel) rfl ⟨Nat.le_of_ble_eq_true rfl, Nat.le_of_ble_eq_true rfl⟩ rfl
