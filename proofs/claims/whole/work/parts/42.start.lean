def cz_ksM : List (Nat × Nat) := [(0, 200), (0, 201), (0, 202), (0, 203), (0, 204), (0, 205), (0, 206), (0, 207), (0, 208), (0, 209), (0, 210), (0, 211), (0, 212), (0, 213), (0, 214)]
/-- the memory behind both constructors -/
def cz_DI : mz_D := (fun g o => if o < 200 then cz_DL.1 g o else cz_DM.1 g o, fun g o => if o < 200 then cz_DL.2 g o else cz_DM.2 g o)
theorem cz_kz0 : ∀ g o, mz_kz 0 g o = true → (g, o) ∈ cz_ksL ++ cz_ksM := by
  have h1 : ∀ o, o < 16 → (0, o) ∈ cz_ksL ++ cz_ksM := by decide +kernel
  have g1 : ∀ o, o < 127 → 100 ≤ o → (1, o) ∈ cz_ksL ++ cz_ksM := by decide +kernel
  have g2 : ∀ o, o < 127 → 100 ≤ o → (2, o) ∈ cz_ksL ++ cz_ksM := by decide +kernel
  have g3 : ∀ o, o < 127 → 100 ≤ o → (3, o) ∈ cz_ksL ++ cz_ksM := by decide +kernel
  have g4 : ∀ o, o < 127 → 100 ≤ o → (4, o) ∈ cz_ksL ++ cz_ksM := by decide +kernel
  have g5 : ∀ o, o < 127 → 100 ≤ o → (5, o) ∈ cz_ksL ++ cz_ksM := by decide +kernel
  have h2 : ∀ g, g < 6 → ∀ o, o < 127 → 1 ≤ g → 100 ≤ o → (g, o) ∈ cz_ksL ++ cz_ksM := by
    intro g hg o ho h1 h2
    have hh : g = 1 ∨ g = 2 ∨ g = 3 ∨ g = 4 ∨ g = 5 := by omega
    rcases hh with rfl | rfl | rfl | rfl | rfl
    · exact g1 o ho h2
    · exact g2 o ho h2
    · exact g3 o ho h2
    · exact g4 o ho h2
    · exact g5 o ho h2
  have h3 : ∀ o, o < 215 → 200 ≤ o → (0, o) ∈ cz_ksL ++ cz_ksM := by decide +kernel
  have bl : ∀ a b : Nat, Nat.blt a b = true → a < b := fun a b h => Nat.le_of_ble_eq_true h
  have bf : ∀ a b : Nat, Nat.blt a b = false → b ≤ a := fun a b h => by
    by_cases hh : a < b
    · rw [show Nat.blt a b = true from Nat.ble_eq_true_of_le hh] at h
      cases h
    · omega
  intro g o hz
  have h0 : mz_k0 0 g o = true := hz
  unfold mz_k0 at h0
  cases e1 : Nat.blt o 100 with
  | true =>
    rw [e1, cond_true] at h0
    cases e2 : Nat.blt o 16 with
    | true =>
      rw [e2, cond_true] at h0
      rw [Nat.eq_of_beq_eq_true h0]
      exact h1 o (bl _ _ e2)
    | false => rw [e2] at h0; cases h0
  | false =>
    rw [e1, cond_false] at h0
    cases e2 : Nat.blt o 200 with
    | true =>
      rw [e2, cond_true] at h0
      cases e3 : Nat.blt o 127 with
      | true =>
        rw [e3, cond_true] at h0
        simp only [mz_tb, Bool.and_eq_true] at h0
        exact h2 g (by have := Nat.le_of_ble_eq_true h0.2; omega) o (bl _ _ e3) (Nat.le_of_ble_eq_true h0.1) (bf _ _ e1)
      | false => rw [e3] at h0; cases h0
    | false =>
      rw [e2, cond_false] at h0
      cases e3 : Nat.blt o 300 with
      | true =>
        rw [e3, cond_true] at h0
        cases e4 : Nat.blt o 215 with
        | true =>
          rw [e4, cond_true] at h0
          rw [Nat.eq_of_beq_eq_true h0]
          exact h3 o (bl _ _ e4) (bf _ _ e2)
        | false => rw [e4] at h0; cases h0
      | false =>
        rw [e3, cond_false] at h0
        cases e4 : Nat.beq o 300 with
        | true => rw [e4] at h0; cases h0
        | false =>
          rw [e4] at h0
          cases e5 : Nat.ble o 302 with
          | true => rw [e5] at h0; cases h0
          | false => rw [e5] at h0; cases h0
theorem cz_lo0 : mz_lo (cz_ksL ++ cz_ksM) := by
  unfold mz_lo
  decide +kernel
set_option maxHeartbeats 2000000 in
theorem cz_callIO {p : Program} {l : Launch} {e : Env} {R : Room} {s : State} {m : MethodId} {args : Array Value} {below : List Frame} {meth : Method} {c : Code} {H : Heap} {locs : List Loc} {cells slots : Nat} {Q : State → Prop} {G : va_G} {cA : Nat → ClassId} {A : Nat → Prop} {ad : Nat → Nat → Nat} {own : String} {cc : ByteArray} {nL pc : Nat} {ls : Array Slot} {J : mz_I} {As rest : List Value} {b idx pk pi ps pl n : Nat} {t0 w : va_W} {P : va_W → Prop} (C : cz_CX p s m args c own cc nL G cA A ad) (hO : va_AO "LetMe$Table" s) (hM : cz_MetO J (.ref b :: As) t0 cA ad P) (hm : mz_okm J pk pi ps n = true) (hi : lw_tbl[ps]? = some (.instanceMethod J.1)) (hnm : J.1.name = "<init>") (hret : J.2.2.2.1 = none) (hl : lw_tbl[pl]? = some (.methodLink own idx J.1)) (hR : J.2.2.2.2.2.1 + 1 ≤ R.frames ∧ 8 + (J.2.2.1 + 11) + 100 * J.2.2.2.2.2.1 ≤ R.locals) (hdg : decode cc pc = .ok (.invokespecial idx, 3)) (hn : As.length = n) (hsz : ls.size = nL) (hw : (rest.map fun v => v.category).sum ≤ 8) (hc : cells + J.2.2.2.2.2.2.1 ≤ R.cells ∧ slots + J.2.2.2.2.2.2.2 ≤ R.slots) (hP : va_P G vwCl (w ++ t0) H) (hD : va_D A (w ++ t0)) (hS : va_S A s.heap H locs)
    (kk : ∀ (t1 : va_W) (H1 : Heap) (locs1 : List Loc), P t1 → va_P G vwCl (w ++ t1) H1 → va_D A (w ++ t1) → va_S A s.heap H1 locs1 → W p l e R s m args below meth c H1 locs1 (cells + J.2.2.2.2.2.2.1) (slots + J.2.2.2.2.2.2.2) Q (F0 m (pc + 3) ls rest)) : W p l e R s m args below meth c H locs cells slots Q (F0 m pc ls (As.reverse ++ .ref b :: rest)) := by
  obtain ⟨⟨hx, hb, hml, hown, hts⟩, -⟩ := id C
  simp only [mz_okm, Bool.and_eq_true, decide_eq_true_eq] at hm
  have hMl := hM l G H.size
  rw [hret] at hMl
  exact cz_after (J := J) C (va_runI (As := As) (rest := rest) ⟨hx, hb, hml, hown, hts⟩ hMl ⟨callB_of (bytes := J.2.1) (maxL := J.2.2.1) (ret := none) n hts (fun w hw => (List.mem_cons.mp hw).elim (fun e => e ▸ mz_good _ (mz_wm (by rw [← hret]; exact hm.1.1) rfl)) (mz_good w)) rfl rfl rfl (hts _ (mz_wm hm.1.2 rfl)) (hts _ (mz_wm hl rfl)) hm.2 hR, hnm, hts _ (mz_wm hi rfl)⟩ ⟨fun a U g mk q => ⟨q.1, (cz_blind a U g mk ⟨q.1, q.2.1⟩).2, va_AO.moved (u := U) (U := U.calling g mk a) (Vm.Alike.refl U.vm) q.2.2⟩, fun U hU hW => ⟨rfl, cz_preU C hP hD hS hU hW, va_AO.moved hW.alike hO⟩⟩ rfl hn hsz rfl (lv_room hw) hdg hc) hP hD hS kk
theorem cz_ch_lo2 {g o j : Nat} {k : Nat × Nat} (ho : o < 200) (h : mz_ch g o j = some k) : k.2 < 200 := by
  have k0 : ∀ row ∈ mz_c0, ∀ x ∈ row, (x.all fun q => decide (q.2 < 200)) = true := by decide
  have k1 : ∀ row ∈ mz_c1, ∀ x ∈ row, x < 200 := by decide
  have tk : ∀ x, x < 200 → mz_tk g x = some k → k.2 < 200 := by
    intro x hx h
    unfold mz_tk at h
    cases hb : Nat.beq x 0 with
    | true => rw [hb] at h; cases h
    | false => rw [hb] at h; cases h; exact hx
  unfold mz_ch at h
  cases h1 : Nat.blt o 100 with
  | true =>
    rw [h1, cond_true] at h
    rcases mz_getD (mz_c0.getD o []) j none with e | e
    · rw [e] at h; cases h
    · rcases mz_getD mz_c0 o [] with e2 | e2
      · rw [e2] at e; cases e
      · have := k0 _ e2 _ e
        rw [h] at this
        simpa using this
  | false =>
    rw [h1, cond_false] at h
    have h2 : Nat.blt o 200 = true := by
      unfold Nat.blt
      exact Nat.ble_eq_true_of_le (by omega)
    rw [h2, cond_true] at h
    refine tk _ ?_ h
    rcases mz_getD (mz_c1.getD (o - 100) []) j 0 with e | e
    · rw [e]; decide
    · rcases mz_getD mz_c1 (o - 100) [] with e2 | e2
      · rw [e2] at e; cases e
      · exact k1 _ e2 _ e
theorem cz_rf_lo2 {ad ad' : Nat → Nat → Nat} {g o j : Nat} (ho : o < 200) (had : ∀ a b, b < 200 → ad' a b = ad a b) : (mz_ch g o j).map (fun q => ad' q.1 q.2) = (mz_ch g o j).map (fun q => ad q.1 q.2) := by
  cases h : mz_ch g o j with
  | none => rfl
  | some k => simp only [Option.map_some, had _ _ (cz_ch_lo2 ho h)]
theorem cz_ce_lo2 {cA : Nat → ClassId} {ad ad' : Nat → Nat → Nat} {D D' : mz_D} {g o : Nat} (ho : o < 200) (had : ∀ a b, b < 200 → ad' a b = ad a b) (h1 : D'.1 g o = D.1 g o) (h2 : D'.2 g o = D.2 g o) : mz_ce cA ad' D' g o = mz_ce cA ad D g o := by
  have hf : ∀ t k, mz_fv ad' D' g o t k = mz_fv ad D g o t k := by
    intro t k
    unfold mz_fv mz_rf
    rw [h1, h2, cz_rf_lo2 ho had]
  unfold mz_ce
  simp only [hf, h1, h2]
  split <;> first | rfl | (simp only [cz_rf_lo2 ho had])
theorem cz_wl_lo2 {cA : Nat → ClassId} {ad ad' : Nat → Nat → Nat} {D D' : mz_D} {ks : List (Nat × Nat)} (hlo : ∀ k ∈ ks, k.2 < 200) (had : ∀ a b, b < 200 → ad' a b = ad a b) (h1 : ∀ g o, o < 200 → D'.1 g o = D.1 g o) (h2 : ∀ g o, o < 200 → D'.2 g o = D.2 g o) : mz_wl cA ad' ks D' = mz_wl cA ad ks D := by
  unfold mz_wl
  apply List.map_congr_left
  intro k hk
  rw [had _ _ (hlo k hk), cz_ce_lo2 (hlo k hk) had (h1 _ _ (hlo k hk)) (h2 _ _ (hlo k hk))]
/-- the texts, as the Statement's start has them -/
def cz_tm (i : Nat) : Term := if i = 0 then .string "LetMe$Reader" 19 else .string "LetMeModel" 168
def cz_fl : List Cond := flatC (Jvm.Cond.and given_1 narrow_1)
theorem cz_f1 : ∀ i, i < 2 → Cond.exactly (cz_tm i) "java/lang/String" ∈ cz_fl := by decide +kernel
theorem cz_f2 : ∀ i, i < 2 → Cond.eq (.field (cz_tm i) "java/lang/String" "coder" "B") (.int 0) ∈ cz_fl := by decide +kernel
theorem cz_f3 : ∀ i, i < 2 → Cond.arrayOf (.field (cz_tm i) "java/lang/String" "value" "[B") .byte ∈ cz_fl := by decide +kernel
theorem cz_f4 : ∀ i, i < 2 → Cond.eq (.length (.field (cz_tm i) "java/lang/String" "value" "[B")) (.int (Int32.ofNat ([160, 161].getD i 0))) ∈ cz_fl := by decide +kernel
theorem cz_f50 : ∀ j, j < 160 → cz_fl[13 + j]? = some (Cond.eq (.elem (.field (cz_tm 0) "java/lang/String" "value" "[B") (.int (Int32.ofNat j))) (.int (mz_b0.getD j 0))) := by decide +kernel
theorem cz_f51 : ∀ j, j < 161 → cz_fl[177 + j]? = some (Cond.eq (.elem (.field (cz_tm 1) "java/lang/String" "value" "[B") (.int (Int32.ofNat j))) (.int (mz_b1.getD j 0))) := by decide +kernel
theorem cz_f5 : ∀ i, i < 2 → ∀ j, j < [160, 161].getD i 0 → Cond.eq (.elem (.field (cz_tm i) "java/lang/String" "value" "[B") (.int (Int32.ofNat j))) (.int (([mz_b0, mz_b1].getD i []).getD j 0)) ∈ cz_fl := by
  intro i hi j hj
  match i, hi with
  | 0, _ => exact List.mem_of_getElem? (cz_f50 j hj)
  | 1, _ => exact List.mem_of_getElem? (cz_f51 j hj)
theorem cz_f6 : Cond.not (Cond.eq (cz_tm 0) (cz_tm 1)) ∈ cz_fl := by decide +kernel
theorem cz_f7 : Cond.eq (.static "java/lang/String" "COMPACT_STRINGS" "Z") (.int 1) ∈ cz_fl := by decide +kernel
theorem cz_f8 : Cond.isRef (.static "jdk/internal/util/Preconditions" "SIOOBE_FORMATTER" "Ljava/util/function/BiFunction;") ∈ cz_fl := by decide +kernel
theorem cz_X0 {s : State} {b : Nat} (hts : ∀ w ∈ lw_tbl, w.before #[Value.ref b] s = true) (hgv : (Jvm.Cond.and given_1 narrow_1).before #[Value.ref b] s = true) : ∃ ad : Nat → Nat → Nat, ad 0 500 = b ∧ mz_X ad (fun q => s.heap.size ≤ q) s s.heap := by
  have hfl : ∀ w ∈ cz_fl, w.before #[Value.ref b] s = true := flat_of_before _ hgv
  have hA : ∀ a : Nat, a < s.heap.size → ¬ s.heap.size ≤ a := fun a h => Nat.not_le.mpr h
  obtain ⟨adK, adV, hvS, hvE⟩ := vk_Sof (args := #[Value.ref b]) (s := s) (N := 2) (tm := cz_tm) (len := [160, 161]) (byt := [mz_b0, mz_b1]) (A := fun q => s.heap.size ≤ q) (by decide) (fun i hi => hfl _ (cz_f1 i hi)) (fun i hi => hfl _ (cz_f2 i hi)) (fun i hi => hfl _ (cz_f3 i hi)) (fun i hi => hfl _ (cz_f4 i hi)) (fun i hi j hj => hfl _ (cz_f5 i hi j hj)) (fun i j hi hj hne => by
    have hh : (i = 0 ∧ j = 1) ∨ (i = 1 ∧ j = 0) := by omega
    rcases hh with ⟨rfl, rfl⟩ | ⟨rfl, rfl⟩
    · exact Or.inl (hfl _ cz_f6)
    · exact Or.inr (hfl _ cz_f6)) hA
  refine ⟨fun _ o => if o = 500 then b else if 410 ≤ o then adV (o - 410) else adK (o - 400), rfl, ?_, ?_, ?_, ?_, ?_⟩
  · have e1 : ∀ i, i < 2 → (fun (_ : Nat) (o : Nat) => if o = 500 then b else if 410 ≤ o then adV (o - 410) else adK (o - 400)) 0 (400 + i) = adK i := fun i hi => by
      simp only []
      rw [if_neg (by omega), if_neg (by omega), Nat.add_sub_cancel_left]
    have e2 : ∀ i, i < 2 → (fun (_ : Nat) (o : Nat) => if o = 500 then b else if 410 ≤ o then adV (o - 410) else adK (o - 400)) 0 (410 + i) = adV i := fun i hi => by
      simp only []
      rw [if_neg (by omega), if_pos (by omega), Nat.add_sub_cancel_left]
    refine ⟨fun i hi => ?_, fun i j hi hj h => ?_⟩
    · have h := hvS.1 i hi
      rw [← e1 i hi, ← e2 i hi] at h
      exact h
    · refine hvS.2 i j hi hj ?_
      rw [← e1 i hi, ← e1 j hj]
      exact h
  · exact vk_R.of (hts _ (List.mem_of_getElem? (show lw_tbl[161]? = some (.stringRef "LetMe$Reader" 19 mz_t0) by decide +kernel))) (hvE 0 (by omega))
  · exact vk_R.of (hts _ (List.mem_of_getElem? (show lw_tbl[1769]? = some (.stringRef "LetMeModel" 168 mz_t1) by decide +kernel))) (hvE 1 (by omega))
  · exact va_Zof (hts _ (List.mem_of_getElem? (show lw_tbl[171]? = some (.laysStatic "java/lang/String" "COMPACT_STRINGS" "Z") by decide +kernel))) (hts _ (List.mem_of_getElem? (show lw_tbl[128]? = some (.initialized "java/lang/String") by decide +kernel))) (va_eqi (hfl _ cz_f7)) hA
  · exact va_Zqof (hts _ (List.mem_of_getElem? (show lw_tbl[187]? = some (.laysStatic "jdk/internal/util/Preconditions" "SIOOBE_FORMATTER" "Ljava/util/function/BiFunction;") by decide +kernel))) (hts _ (List.mem_of_getElem? (show lw_tbl[130]? = some (.initialized "jdk/internal/util/Preconditions") by decide +kernel))) (hfl _ cz_f8) hA

theorem cz_K0 {s : State} {b : Nat} (hts : ∀ w ∈ lw_tbl, w.before #[Value.ref b] s = true) (htw : ∀ w ∈ mz_w, w.before #[Value.ref b] s = true) : ∃ (G : va_G) (cA : Nat → ClassId), va_K G vwCl (mz_tys cA) s := by
  obtain ⟨c0, i0, k0⟩ := u_known (C := RX0) (T := TX0) (N := 3) (n := 3) htw (mz_cls (ci := 0) rfl).1 (htw _ (mz_wm (show lw_tbl[402]? = some (.instantiable RX0 3) by decide +kernel) rfl))
  obtain ⟨c1, i1, k1⟩ := u_known (C := RX1) (T := TX1) (N := 8) (n := 8) htw (mz_cls (ci := 1) rfl).1 (htw _ (mz_wm (show lw_tbl[345]? = some (.instantiable RX1 8) by decide +kernel) rfl))
  obtain ⟨c2, i2, k2⟩ := u_known (C := RX2) (T := TX2) (N := 3) (n := 3) htw (mz_cls (ci := 2) rfl).1 (htw _ (mz_wm (show lw_tbl[386]? = some (.instantiable RX2 3) by decide +kernel) rfl))
  obtain ⟨c3, i3, k3⟩ := u_known (C := RX3) (T := TX3) (N := 12) (n := 12) htw (mz_cls (ci := 3) rfl).1 (htw _ (mz_wm (show lw_tbl[516]? = some (.instantiable RX3 12) by decide +kernel) rfl))
  obtain ⟨c4, i4, k4⟩ := u_known (C := RX4) (T := TX4) (N := 10) (n := 10) htw (mz_cls (ci := 4) rfl).1 (htw _ (mz_wm (show lw_tbl[281]? = some (.instantiable RX4 10) by decide +kernel) rfl))
  obtain ⟨c5, i5, k5⟩ := u_known (C := RX5) (T := TX5) (N := 11) (n := 11) htw (mz_cls (ci := 5) rfl).1 (htw _ (mz_wm (show lw_tbl[156]? = some (.instantiable RX5 11) by decide +kernel) rfl))
  obtain ⟨c6, i6, k6⟩ := u_known (C := RX6) (T := TX6) (N := 7) (n := 7) htw (mz_cls (ci := 6) rfl).1 (htw _ (mz_wm (show lw_tbl[275]? = some (.instantiable RX6 7) by decide +kernel) rfl))
  obtain ⟨c7, i7, k7⟩ := u_known (C := RX7) (T := TX7) (N := 4) (n := 4) htw (mz_cls (ci := 7) rfl).1 (htw _ (mz_wm (show lw_tbl[753]? = some (.instantiable RX7 4) by decide +kernel) rfl))
  obtain ⟨c8, i8, k8⟩ := u_known (C := RX8) (T := TX8) (N := 3) (n := 3) htw (mz_cls (ci := 8) rfl).1 (htw _ (mz_wm (show lw_tbl[255]? = some (.instantiable RX8 3) by decide +kernel) rfl))
  obtain ⟨c9, i9, k9⟩ := u_known (C := RX9) (T := TX9) (N := 9) (n := 9) htw (mz_cls (ci := 9) rfl).1 (htw _ (mz_wm (show lw_tbl[422]? = some (.instantiable RX9 9) by decide +kernel) rfl))
  obtain ⟨c10, i10, k10⟩ := u_known (C := RX10) (T := TX10) (N := 6) (n := 6) htw (mz_cls (ci := 10) rfl).1 (htw _ (mz_wm (show lw_tbl[924]? = some (.instantiable RX10 6) by decide +kernel) rfl))
  obtain ⟨c11, i11, k11⟩ := u_known (C := RX11) (T := TX11) (N := 18) (n := 18) htw (mz_cls (ci := 11) rfl).1 (htw _ (mz_wm (show lw_tbl[148]? = some (.instantiable RX11 18) by decide +kernel) rfl))
  obtain ⟨c12, i12, k12⟩ := u_known (C := RX12) (T := TX12) (N := 35) (n := 35) htw (mz_cls (ci := 12) rfl).1 (htw _ (mz_wm (show lw_tbl[1567]? = some (.instantiable RX12 35) by decide +kernel) rfl))
  obtain ⟨dC, dI, hKc⟩ : ∃ (dC : Nat → ClassId) (dI : Nat → Nat → Nat), ∀ (k : Nat) (q : vw_C), vwCl[k]? = some q → u_Kn s q.1 q.2.1 q.2.2 (dC k) (dI k) := by
    refine ⟨fun k => if k = 0 then c0 else if k = 1 then c1 else if k = 2 then c2 else if k = 3 then c3 else if k = 4 then c4 else if k = 5 then c5 else if k = 6 then c6 else if k = 7 then c7 else if k = 8 then c8 else if k = 9 then c9 else if k = 10 then c10 else if k = 11 then c11 else c12, fun k => if k = 0 then i0 else if k = 1 then i1 else if k = 2 then i2 else if k = 3 then i3 else if k = 4 then i4 else if k = 5 then i5 else if k = 6 then i6 else if k = 7 then i7 else if k = 8 then i8 else if k = 9 then i9 else if k = 10 then i10 else if k = 11 then i11 else i12, ?_⟩
    intro k q hq
    match k, hq with
    | 0, hq => cases hq; exact k0
    | 1, hq => cases hq; exact k1
    | 2, hq => cases hq; exact k2
    | 3, hq => cases hq; exact k3
    | 4, hq => cases hq; exact k4
    | 5, hq => cases hq; exact k5
    | 6, hq => cases hq; exact k6
    | 7, hq => cases hq; exact k7
    | 8, hq => cases hq; exact k8
    | 9, hq => cases hq; exact k9
    | 10, hq => cases hq; exact k10
    | 11, hq => cases hq; exact k11
    | 12, hq => cases hq; exact k12
    | k + 13, hq => simp [vwCl] at hq
  obtain ⟨aI, kI, cI, f1, f2, f3⟩ := Cond.arrayClass_spec (args := #[Value.ref b]) (first := s) (o := none) (idx := []) (htw _ (mz_wm (show lw_tbl[273]? = some (.arrayClass .int) by decide +kernel) rfl))
  obtain ⟨aB, kB, cB, f4, f5, f6⟩ := Cond.arrayClass_spec (args := #[Value.ref b]) (first := s) (o := none) (idx := []) (htw _ (mz_wm (show lw_tbl[252]? = some (.arrayClass .byte) by decide +kernel) rfl))
  obtain ⟨aL, kL, cL, f7, f8, f9⟩ := Cond.arrayClass_spec (args := #[Value.ref b]) (first := s) (o := none) (idx := []) (htw _ (mz_wm (show lw_tbl[253]? = some (.arrayClass .long) by decide +kernel) rfl))
  obtain ⟨cT, aT, kT, g1, -, g2, g3, g4⟩ := Cond.arrayOver_spec (args := #[Value.ref b]) (first := s) (o := none) (idx := []) (hts _ (List.mem_of_getElem? (show lw_tbl[514]? = some (.arrayOver (.object "LetMe$Table")) by decide +kernel)))
  refine ⟨(dC, dI), fun i => if i = 0 then aI else if i = 1 then aB else if i = 2 then aL else aT, hKc, ?_⟩
  intro k q hq
  match k, hq with
  | 0, hq => cases hq; exact ⟨fun n z => ⟨fun k h => (by cases h), kI, f2, cI, f3⟩, f1⟩
  | 1, hq => cases hq; exact ⟨fun n z => ⟨fun k h => (by cases h), kB, f5, cB, f6⟩, f4⟩
  | 2, hq => cases hq; exact ⟨fun n z => ⟨fun k h => (by cases h), kL, f8, cL, f9⟩, f7⟩
  | 3, hq => cases hq; exact ⟨fun n z => ⟨fun k h => (by cases h), kT, g2, cT, g3⟩, kT, cT, g2, g3, g1, g4⟩
  | k + 4, hq => simp at hq
set_option maxRecDepth 100000 in
set_option maxHeartbeats 8000000 in
theorem whole_of {Inv : Nat → mz_D → Prop} (h0 : Inv 0 cz_DI) (ho : op_all Inv) (hstay : ∀ n D, Inv n D → Inv (n + 1) D) {p : Program} {e : Env} {s : State} {m : MethodId} {below : List Frame} {meth : Method} {c : Code} (l : Launch) {b L : Nat} {xs : Nat → Int32} (hL : L ≤ 3072) (C0 : lw_At p s m meth c b L xs) : W p l e room_1 s m #[Value.ref b] below meth c s.heap [] 0 0 (lw_Z below #[Value.ref b] s) (entryFrame m ([Value.ref b] : List Value).toArray 4) := by
  obtain ⟨hx, hb, hr, hml, hown, hts, hX, hbl, hlocks, hgv⟩ := id C0
  have htw : ∀ w ∈ mz_w, w.before #[Value.ref b] s = true := fun w hw => hts w (List.mem_filter.mp hw).1
  have hnw : ∀ w ∈ mz_nw, va_Nw w s := by
    intro w hw
    have h1 := hts w (List.mem_filter.mp hw).1
    have h2 := (List.mem_filter.mp hw).2
    cases w with
    | methodLinkNest a i x h => exact va_Nw.of rfl h1
    | _ => cases h2
  obtain ⟨G, cA, hK⟩ := cz_K0 hts htw
  obtain ⟨ad, had, hXX⟩ := cz_X0 hts hgv
  have hO : va_AO "LetMe$Table" s := va_AO.of (hts _ (List.mem_of_getElem? (show lw_tbl[514]? = some (.arrayOver (.object "LetMe$Table")) by decide +kernel)))
  have hA : ∀ q : Nat, s.heap.size ≤ q → (fun q : Nat => s.heap.size ≤ q) q := fun _ h => h
  have hS : va_S (fun q : Nat => s.heap.size ≤ q) s.heap s.heap [] := va_S.rf
  have hP : va_P G vwCl [] s.heap := fun k q h => by simp at h
  have hD : va_D (fun q : Nat => s.heap.size ≤ q) [] := ⟨fun i j p q h => by simp at h, fun k q h => by simp at h⟩
  have CZ : cz_CX p s m #[Value.ref b] c "LetMeLaw" code 4 G cA (fun q : Nat => s.heap.size ≤ q) ad := ⟨⟨hx, hb, hml, hown, htw⟩, hK, hA, hnw, hXX⟩
  have hl := lv_entry ([.ref b]) (n := 4) (Nat.le_of_ble_eq_true rfl)
  rw [lg_entry_eq]
  generalize (lg_sl ([.ref b]) ++ List.replicate (4 - (lg_sl ([.ref b])).length) Slot.unset).toArray = ls at hl ⊢
  have hl : lv_has ls 4 [(0, .ref b)] := hl
  refine va_new (ci := 11) (fs := [.null, .int 0, .null, .null, .null, .null, .null, .int 0, .null, .null, .int 0, .null, .null, .int 0, .long 0, .long 0, .int 0, .int 0]) (C := RX11) (T := TX11) (N := 18) hx hb htw (mz_cls (ci := 11) rfl).1 tyX11 tyX11_ok hown (htw _ (mz_wm (show lw_tbl[147]? = some (.classLink "LetMeLaw" 7 RX11) by decide +kernel) rfl)) (htw _ (mz_wm (show lw_tbl[148]? = some (.instantiable RX11 18) by decide +kernel) rfl)) (htw _ (mz_wm (show lw_tbl[126]? = some (.initialized RX11) by decide +kernel) rfl)) hK hP hD hS hA rfl (by decide +kernel) (Nat.le_of_ble_eq_true rfl) (Nat.le_of_ble_eq_true rfl) (show decode code 0 = .ok (.new 7, 3) by decide +kernel) (fun q H hP hD hS => ?_)
  refine lv_dup hx hb (show decode code 3 = .ok (.dup, 1) by decide +kernel) rfl ?_
  refine cz_callIO (pl := 149) (J := IX11_init) (As := []) (rest := [.ref q]) (b := q) (w := []) CZ hO (mX11_init q cA ad) kX11_init (by decide +kernel) rfl rfl (by decide +kernel) ⟨Nat.le_of_ble_eq_true rfl, Nat.le_of_ble_eq_true rfl⟩ (show decode code 4 = .ok (.invokespecial 9, 3) by decide +kernel) rfl hl.1 (Nat.le_of_ble_eq_true rfl) ⟨Nat.le_of_ble_eq_true rfl, Nat.le_of_ble_eq_true rfl⟩ hP hD hS (fun t1 H locs hp hP2 hD2 hS2 => ?_)
  obtain ⟨ad2, hq, had2, rfl⟩ := hp
  subst hq
  have hS := hS2
  have hP : va_P G vwCl (mz_wl cA ad2 cz_ksL cz_DL) H := hP2
  have hD : va_D (fun q : Nat => s.heap.size ≤ q) (mz_wl cA ad2 cz_ksL cz_DL) := hD2
  refine lv_astore_n (lv' := [(1, .ref (ad2 0 0)), (0, .ref b)]) hx hb (show decode code 7 = .ok (.astore_n 1, 1) by decide +kernel) rfl hl (by decide) rfl (fun ls hl => ?_)
  refine va_new (ci := 12) (fs := [.null, .null, .int 0, .long 0, .long 0, .null, .null, .null, .null, .null, .int 0, .int 0, .int 0, .int 0, .int 0, .int 0, .int 0, .int 0, .int 0, .int 0, .int 0, .null, .int 0, .int 0, .null, .null, .null, .int 0, .int 0, .int 0, .null, .null, .null, .int 0, .int 0]) (C := RX12) (T := TX12) (N := 35) hx hb htw (mz_cls (ci := 12) rfl).1 tyX12 tyX12_ok hown (htw _ (mz_wm (show lw_tbl[1566]? = some (.classLink "LetMeLaw" 10 RX12) by decide +kernel) rfl)) (htw _ (mz_wm (show lw_tbl[1567]? = some (.instantiable RX12 35) by decide +kernel) rfl)) (htw _ (mz_wm (show lw_tbl[141]? = some (.initialized RX12) by decide +kernel) rfl)) hK hP hD hS hA rfl (by decide +kernel) (Nat.le_of_ble_eq_true rfl) (Nat.le_of_ble_eq_true rfl) (show decode code 8 = .ok (.new 10, 3) by decide +kernel) (fun q H hP hD hS => ?_)
  refine lv_dup hx hb (show decode code 11 = .ok (.dup, 1) by decide +kernel) rfl ?_
  refine cz_callI (pl := 1568) (J := IX12_init) (As := []) (rest := [.ref q]) (b := q) (w := mz_wl cA ad2 cz_ksL cz_DL) CZ (mX12_init q cA ad) kX12_init (by decide +kernel) rfl rfl (by decide +kernel) ⟨Nat.le_of_ble_eq_true rfl, Nat.le_of_ble_eq_true rfl⟩ (show decode code 12 = .ok (.invokespecial 12, 3) by decide +kernel) rfl hl.1 (Nat.le_of_ble_eq_true rfl) ⟨Nat.le_of_ble_eq_true rfl, Nat.le_of_ble_eq_true rfl⟩ hP hD hS (fun t1 H locs hp hP2 hD2 hS2 => ?_)
  obtain ⟨a, hq, rfl⟩ := hp
  subst hq
  have hS := hS2
  have hP := hP2
  have hD := hD2
  refine lv_astore_n (lv' := [(2, .ref (a 200)), (1, .ref (ad2 0 0)), (0, .ref b)]) hx hb (show decode code 15 = .ok (.astore_n 2, 1) by decide +kernel) rfl hl (by decide) rfl (fun ls hl => ?_)
  refine lv_iconst (v := 0) hx hb (show decode code 16 = .ok (.iconst 0, 1) by decide +kernel) (by decide) ?_
  refine lv_istore_n (lv' := [(3, .int 0), (2, .ref (a 200)), (1, .ref (ad2 0 0)), (0, .ref b)]) hx hb (show decode code 17 = .ok (.istore_n 3, 1) by decide +kernel) rfl hl (by decide) rfl (fun ls hl => ?_)
  have e1 : mz_wl cA (fun g o => if 200 ≤ o ∧ o < 300 then a o else if 300 ≤ o then ad g o else ad2 g o) cz_ksL cz_DI = mz_wl cA ad2 cz_ksL cz_DL := cz_wl_lo2 (by decide +kernel) (fun g o ho => by (try simp only []); rw [if_neg (by omega), if_neg (by omega)]) (fun g o ho => by unfold cz_DI; simp only [if_pos ho]) (fun g o ho => by unfold cz_DI; simp only [if_pos ho])
  have e2 : mz_wl cA (fun g o => if 200 ≤ o ∧ o < 300 then a o else if 300 ≤ o then ad g o else ad2 g o) cz_ksM cz_DI = cz_tl cA [200, 201, 202, 203, 204, 205, 206, 207, 208, 209, 210, 211, 212, 213, 214] a cz_DM := rfl
  have hw : mz_wl cA (fun g o => if 200 ≤ o ∧ o < 300 then a o else if 300 ≤ o then ad g o else ad2 g o) (cz_ksL ++ cz_ksM) cz_DI = mz_wl cA ad2 cz_ksL cz_DL ++ cz_tl cA [200, 201, 202, 203, 204, 205, 206, 207, 208, 209, 210, 211, 212, 213, 214] a cz_DM := by rw [mz_wl_app, e1, e2]
  rw [← hw] at hP hD
  have C1 : mz_CX p s m #[Value.ref b] c "LetMeLaw" code 4 G cA (fun q : Nat => s.heap.size ≤ q) (fun g o => if 200 ≤ o ∧ o < 300 then a o else if 300 ≤ o then ad g o else ad2 g o) (cz_ksL ++ cz_ksM) 0 := ⟨⟨hx, hb, hml, hown, htw⟩, hK, hA, cz_kz0, hnw, mz_X_ad (fun o ho => by (try simp only []); rw [if_neg (by omega), if_pos (by omega)]) hXX⟩
  have hl : lv_has ls 4 (mz_lm (fun g o => if 200 ≤ o ∧ o < 300 then a o else if 300 ≤ o then ad g o else ad2 g o) 0 [some (.inr (.inr (some (0, 500)))), some (.inr (.inr (some (0, 0)))), some (.inr (.inr (some (0, 200)))), some (.inl (nI (6 * 0)))]) := by
    rw [← had] at hl
    exact lv_sub hl [3, 2, 1, 0] rfl
  have kk := law_loop ho hstay (xs := xs) hL 600 0 166 8836 cz_DI (by omega) (by omega) (by omega) (by omega) h0
  exact kk p l e s m below meth c G cA (fun q : Nat => s.heap.size ≤ q) (fun g o => if 200 ≤ o ∧ o < 300 then a o else if 300 ≤ o then ad g o else ad2 g o) (cz_ksL ++ cz_ksM) b had.symm hX hbl (fun q => Iff.rfl) cz_lo0 C1 hr hlocks H locs ls hP hD hS hl
