/-! ===== texts: String.length, String.charAt of the two constants ===== -/
section ST
variable {I J : mz_I} {rs : Option mz_V × mz_D} {nc ns pc : Nat} {L : mz_L} {S : List mz_V} {D : mz_D}
theorem mz_Go.ldcK (hI : I.1.cls = "LetMeModel") (hdg : decode I.2.1 pc = .ok (.ldc 168, 2)) (k : mz_Go I rs nc ns (pc + 2, L, .inr (.inr (some (0, 401))) :: S, D)) : mz_Go I rs nc ns (pc, L, S, D) := by
  intro p l e s m args below meth c G cA A ad ks C hr hlk H locs ls hP hD hS hl
  have hown := C.1.2.2.2.1
  rw [hI] at hown
  exact va_ldcS C.1.1 C.1.2.1 hown C.2.2.2.2.2.2.2.1 hdg (k p l e s m args below meth c G cA A ad ks C hr hlk H locs ls hP hD hS hl)
theorem mz_Go.sval {i idx pos : Nat} (hi : i < 2) (hI : I.1.cls = "java/lang/String") (hw : lw_tbl[pos]? = some (.fieldLink "java/lang/String" idx "java/lang/String" "value" "[B")) (hdg : decode I.2.1 pc = .ok (.getfield idx, 3)) (k : mz_Go I rs nc ns (pc + 3, L, .inr (.inr (some (0, 410 + i))) :: S, D)) : mz_Go I rs nc ns (pc, L, .inr (.inr (some (0, 400 + i))) :: S, D) := by
  intro p l e s m args below meth c G cA A ad ks C hr hlk H locs ls hP hD hS hl
  have hown := C.1.2.2.2.1
  rw [hI] at hown
  exact vk_getf C.1.1 C.1.2.1 (C.2.2.2.2.2.1.1 i hi).2.2.1 hS hown (C.1.2.2.2.2 _ (mz_wm hw rfl)) (fun _ h => h) hdg (k p l e s m args below meth c G cA A ad ks C hr hlk H locs ls hP hD hS hl)
theorem mz_Go.scod {i idx pos : Nat} (hi : i < 2) (hI : I.1.cls = "java/lang/String") (hw : lw_tbl[pos]? = some (.fieldLink "java/lang/String" idx "java/lang/String" "coder" "B")) (hdg : decode I.2.1 pc = .ok (.getfield idx, 3)) (k : mz_Go I rs nc ns (pc + 3, L, .inl 0 :: S, D)) : mz_Go I rs nc ns (pc, L, .inr (.inr (some (0, 400 + i))) :: S, D) := by
  intro p l e s m args below meth c G cA A ad ks C hr hlk H locs ls hP hD hS hl
  have hown := C.1.2.2.2.1
  rw [hI] at hown
  exact vk_getf C.1.1 C.1.2.1 (C.2.2.2.2.2.1.1 i hi).2.1 hS hown (C.1.2.2.2.2 _ (mz_wm hw rfl)) (fun _ h => h) hdg (k p l e s m args below meth c G cA A ad ks C hr hlk H locs ls hP hD hS hl)
theorem mz_Go.slen {i : Nat} (hi : i < 2) (hdg : decode I.2.1 pc = .ok (.arraylength, 1)) (k : mz_Go I rs nc ns (pc + 1, L, .inl (Int32.ofNat ([160, 161].getD i 0)) :: S, D)) : mz_Go I rs nc ns (pc, L, .inr (.inr (some (0, 410 + i))) :: S, D) := by
  intro p l e s m args below meth c G cA A ad ks C hr hlk H locs ls hP hD hS hl
  exact va_tlen C.1.1 C.1.2.1 (C.2.2.2.2.2.1.1 i hi).2.2.2 hS rfl hdg (k p l e s m args below meth c G cA A ad ks C hr hlk H locs ls hP hD hS hl)
theorem mz_Go.sbyt {i : Nat} {j : Int32} (hi : i < 2) (hj : mz_ix j ([160, 161].getD i 0) = true) (hdg : decode I.2.1 pc = .ok (.baload, 1)) (k : mz_Go I rs nc ns (pc + 1, L, .inl (([mz_b0, mz_b1].getD i []).getD j.toNatClampNeg 0) :: S, D)) : mz_Go I rs nc ns (pc, L, .inl j :: .inr (.inr (some (0, 410 + i))) :: S, D) := by
  intro p l e s m args below meth c G cA A ad ks C hr hlk H locs ls hP hD hS hl
  exact va_tb C.1.1 C.1.2.1 (C.2.2.2.2.2.1.1 i hi).2.2.2 hS (mz_ix_in hj) rfl hdg (k p l e s m args below meth c G cA A ad ks C hr hlk H locs ls hP hD hS hl)
theorem mz_Go.gcs {idx pos : Nat} (hI : I.1.cls = "java/lang/String") (hw : lw_tbl[pos]? = some (.fieldLink "java/lang/String" idx "java/lang/String" "COMPACT_STRINGS" "Z")) (hdg : decode I.2.1 pc = .ok (.getstatic idx, 3)) (k : mz_Go I rs nc ns (pc + 3, L, .inl 1 :: S, D)) : mz_Go I rs nc ns (pc, L, S, D) := by
  intro p l e s m args below meth c G cA A ad ks C hr hlk H locs ls hP hD hS hl
  have hown := C.1.2.2.2.1
  rw [hI] at hown
  exact va_gets C.1.1 C.1.2.1 C.2.2.2.2.2.2.2.2.1 hS hown (C.1.2.2.2.2 _ (mz_wm hw rfl)) (fun _ h => h) hdg (k p l e s m args below meth c G cA A ad ks C hr hlk H locs ls hP hD hS hl)
theorem mz_Go.i2c {x v : Int32} (hv : (x.toUInt32 % 65536).toInt32 = v) (hdg : decode I.2.1 pc = .ok (.i2c, 1)) (k : mz_Go I rs nc ns (pc + 1, L, .inl v :: S, D)) : mz_Go I rs nc ns (pc, L, .inl x :: S, D) := by
  intro p l e s m args below meth c G cA A ad ks C hr hlk H locs ls hP hD hS hl
  exact lv_i2c C.1.1 C.1.2.1 hdg hv (k p l e s m args below meth c G cA A ad ks C hr hlk H locs ls hP hD hS hl)
theorem mz_Go.retn {v : Int32} {ty : FieldType} (hdg : decode I.2.1 pc = .ok (.ireturn, 1)) (hret : I.2.2.2.1 = some ty) (hm : nc ≤ I.2.2.2.2.2.2.1 ∧ ns ≤ I.2.2.2.2.2.2.2) (hv : narrow ty (.int v) = .int v) (hrs : rs = (some (.inl v), D)) : mz_Go I rs nc ns (pc, L, [.inl v], D) := by
  subst hrs
  intro p l e s m args below meth c G cA A ad ks C hr hlk H locs ls hP hD hS hl
  refine W.widen hm.1 hm.2 ?_
  exact W.zret C.1.1 C.1.2.1 (hr.trans hret) hv (fun t ht hW => ⟨⟨rfl, by rw [ht]; exact hP, hD⟩, hS.F ht⟩) hS.2.2 hdg hlk
set_option maxHeartbeats 2000000 in
/-- a call on one of the two texts -/
theorem mz_Go.callT {as rest : List mz_V} {r1 : Option mz_V × mz_D} {idx pk pi ps pv pl n i : Nat} (hi : i < 2) (hM : mz_Met J (.inr (.inr (some (0, 400 + i))) :: as) D r1) (hm : mz_okm J pk pi ps n = true) (hs : mz_okV J ps pv = true) (hl : mz_okL I J idx pl = true) (hR : mz_okR I J = true) (hdg : decode I.2.1 pc = .ok (.invokevirtual idx, 3)) (hn : as.length = n) (hw : Nat.ble (rest.map mz_cat).sum 8 = true) (hc : Nat.ble (nc + J.2.2.2.2.2.2.1) I.2.2.2.2.2.2.1 = true ∧ Nat.ble (ns + J.2.2.2.2.2.2.2) I.2.2.2.2.2.2.2 = true) (hci : J.1.cls = "java/lang/String") {S : List mz_V} (hS0 : S = as.reverse ++ .inr (.inr (some (0, 400 + i))) :: rest) (k : mz_Go I rs (nc + J.2.2.2.2.2.2.1) (ns + J.2.2.2.2.2.2.2) (pc + 3, L, r1.1.toList ++ rest, r1.2)) : mz_Go I rs nc ns (pc, L, S, D) := by
  subst hS0
  intro p l e s m args below meth c G cA A ad ks C hr hlk H locs ls hP hD hS hlv
  have hks := mz_kzJ hR C.2.2.2.1
  simp only [mz_okm, mz_okV, mz_okL, mz_okR, Bool.and_eq_true, decide_eq_true_eq] at hm hs hl hR
  obtain ⟨⟨hx, hb, hml, hown, hts⟩, hK, hA, hks0, hnw, hX⟩ := id C
  have hA1 := mz_A1 C hD hS
  have hrv := vk_recv hX.1 hi hS
  rw [← hci] at hrv
  have e1 : (as.reverse ++ .inr (.inr (some (0, 400 + i))) :: rest).map (mz_cv ad) = (as.map (mz_cv ad)).reverse ++ .ref (ad 0 (400 + i)) :: rest.map (mz_cv ad) := by rw [List.map_append, List.map_reverse]; rfl
  rw [show ((pc, L, as.reverse ++ .inr (.inr (some (0, 400 + i))) :: rest, D) : mz_S).2.2.1 = as.reverse ++ .inr (.inr (some (0, 400 + i))) :: rest from rfl, e1]
  refine mz_callK (va_runV (As := as.map (mz_cv ad)) (rest := rest.map (mz_cv ad)) ⟨hx, hb, hml, hown, hts⟩ (hM l G cA ad ks H.size hks) ⟨callB_of (bytes := J.2.1) (maxL := J.2.2.1) (ret := J.2.2.2.1) n hts (fun w hw => (List.mem_cons.mp hw).elim (fun e => e ▸ mz_good _ (mz_wm hm.1.1 rfl)) (mz_good w)) rfl rfl rfl (hts _ (mz_wm hm.1.2 rfl)) (hts _ (mz_wm hl rfl)) hm.2 ⟨Nat.le_of_ble_eq_true hR.1.1, Nat.le_of_ble_eq_true hR.1.2⟩, hts _ (mz_wm hs.1 rfl), hts _ (mz_wm hs.2 rfl)⟩ ⟨mz_blind, hrv, fun U hU hW => ⟨rfl, mz_preU C hP hD hS hU hW⟩⟩ rfl (by rw [List.length_map]; exact hn) hlv.1 rfl (lv_room (by rw [mz_sum_cat]; exact Nat.le_of_ble_eq_true hw)) hdg ⟨Nat.le_of_ble_eq_true hc.1, Nat.le_of_ble_eq_true hc.2⟩) hS (fun q _ h => hA1 q h) hA1 (fun H1 locs1 p1 d1 z1 k1 s1 => ?_)
  have e2 : (r1.1.map (mz_cv ad)).toList ++ rest.map (mz_cv ad) = (r1.1.toList ++ rest).map (mz_cv ad) := by
    rw [List.map_append]
    rcases r1 with ⟨_ | v, D1⟩ <;> rfl
  rw [e2]
  exact k p l e s m args below meth c G cA A ad ks C hr hlk H1 locs1 ls p1 (d1.weaken (fun k q _ h => hA1 q.1 h)) s1 hlv
end ST
/-! the JDK's own methods on the way -/
theorem st_ck (l : Launch) (i n : Int32) (v : Value) (h0 : ¬ i < 0) (h1 : i < n) : Met l yJ3_checkIndex_8e157 (.code yJ3_checkIndex_8e157 cJ3_checkIndex_8e157 3 (some .int) :: mz_w) (mz_rm 0 0 0) (va_Pc [.int i, .int n, v] (fun _ => True)) (fun _ st oc t => oc = .returned (some (.int i)) ∧ t.heap = st.heap) 0 0 (fun _ => False) := by
  refine va_MetF (cc := cJ3_checkIndex_8e157) (maxL := 3) (ret := some .int) (by decide +kernel) rfl ?_
  intro p e s m args below meth c s₁ B hml hv
  obtain ⟨rfl, -⟩ := hv
  have hx := B.exec
  have hb := B.bytes
  have hr := B.returns
  have hlocks := B.notSynchronized
  rw [lg_entry_eq]
  have hl0 : ∀ ls : Array Slot, ls = ((lg_sl ([.int i, .int n, v] : List Value)) ++ List.replicate (3 - (lg_sl ([.int i, .int n, v] : List Value)).length) Slot.unset).toArray → ls[0]? = some (.val (.int i)) ∧ ls[1]? = some (.val (.int n)) := by
    rintro ls rfl
    exact ⟨rfl, rfl⟩
  obtain ⟨g0, g1⟩ := hl0 _ rfl
  generalize ((lg_sl ([.int i, .int n, v] : List Value)) ++ List.replicate (3 - (lg_sl ([.int i, .int n, v] : List Value)).length) Slot.unset).toArray = ls at g0 g1 ⊢
  refine lv_iload_n hx hb (show decode cJ3_checkIndex_8e157 0 = .ok (.iload_n 0, 1) by decide +kernel) rfl g0 ?_
  refine lv_if_lt (tgt := 9) hx hb (show decode cJ3_checkIndex_8e157 1 = .ok (.ifCond .lt 8, 3) by decide +kernel) (by decide) (fun h => absurd h h0) (fun _ => ?_)
  refine lv_iload_n hx hb (show decode cJ3_checkIndex_8e157 4 = .ok (.iload_n 0, 1) by decide +kernel) rfl g0 ?_
  refine lv_iload_n hx hb (show decode cJ3_checkIndex_8e157 5 = .ok (.iload_n 1, 1) by decide +kernel) rfl g1 ?_
  refine lv_icmp_lt (tgt := 16) hx hb (show decode cJ3_checkIndex_8e157 6 = .ok (.if_icmp .lt 10, 3) by decide +kernel) (by decide) (fun _ => ?_) (fun h => absurd h1 h)
  refine lv_iload_n hx hb (show decode cJ3_checkIndex_8e157 16 = .ok (.iload_n 0, 1) by decide +kernel) rfl g0 ?_
  exact W.iret hx hb hr (fun t ht hW => ⟨rfl, ht⟩) (fun q hq => by cases hq) (by decide +kernel) hlocks
abbrev Ist_ci : mz_I := (yJ0_checkIndex_df160, cJ0_checkIndex_df160, 2, none, 9, 1, 0, 0)
theorem kst_ci : mz_okm Ist_ci 185 128 184 2 = true := by decide +kernel
theorem vst_ci : mz_okS Ist_ci 184 = true := by decide +kernel
set_option maxHeartbeats 2000000 in
theorem st_ci (i n : Int32) (D : mz_D) (h0 : ¬ i < 0) (h1 : i < n) : mz_Met Ist_ci [.inl i, .inl n] D (none, D) := by
  refine mz_Met.of (by decide +kernel) (Nat.le_of_ble_eq_true rfl) ?_
  show mz_Go Ist_ci (none, D) 0 0 (0, [some (.inl i), some (.inl n)], [], D)
  intro p l e s m args below meth c G cA A ad ks C hr hlk H locs ls hP hD hS hl
  obtain ⟨⟨hx, hb, hml, hown, hts⟩, hK, hA, hks0, hnw, hX⟩ := id C
  refine lv_iload_n (i := 0) (x := i) hx hb (show decode cJ0_checkIndex_df160 0 = .ok (.iload_n 0, 1) by decide +kernel) rfl (mz_has_at (v := .inl i) hl rfl) ?_
  refine lv_iload_n (i := 1) (x := n) hx hb (show decode cJ0_checkIndex_df160 1 = .ok (.iload_n 1, 1) by decide +kernel) rfl (mz_has_at (v := .inl n) hl rfl) ?_
  have key : ∀ v : Value, va_Z "jdk/internal/util/Preconditions" "SIOOBE_FORMATTER" "Ljava/util/function/BiFunction;" v A s s.heap → W p l e (mz_rm 1 0 0) s m args below meth c H locs 0 0 (MQ below (mz_Q G cA A ad ks (none, D)) args s 0 0 A) (F0 m 2 ls [.int n, .int i]) := by
    intro v hz
    refine va_gets hx hb hz hS hown (hts _ (mz_wm (show lw_tbl[186]? = some (.fieldLink "java/lang/String" 1053 "jdk/internal/util/Preconditions" "SIOOBE_FORMATTER" "Ljava/util/function/BiFunction;") by decide +kernel) rfl)) (fun _ h => h) (show decode cJ0_checkIndex_df160 2 = .ok (.getstatic 1053, 3) by decide +kernel) ?_
    intro T hT X
    obtain ⟨v', st₀, t, T', L', g0, X', hL, e1, e2, ⟨hv, hh⟩, st⟩ := va_runS (y := yJ3_checkIndex_8e157) (As := [.int i, .int n, v]) (rest := []) (g := F0 m 5 ls [v, .int n, .int i]) ⟨hx, hb, hml, hown, hts⟩ (st_ck l i n v h0 h1) ⟨callB_of (bytes := cJ3_checkIndex_8e157) (maxL := 3) (ret := some .int) 3 hts (fun w hw => (List.mem_cons.mp hw).elim (fun e => e ▸ mz_good _ (mz_wm (show lw_tbl[190]? = some (.code yJ3_checkIndex_8e157 cJ3_checkIndex_8e157 3 (some .int)) by decide +kernel) rfl)) (mz_good w)) rfl rfl rfl (hts _ (mz_wm (show lw_tbl[130]? = some (.initialized yJ3_checkIndex_8e157.cls) by decide +kernel) rfl)) (hts _ (mz_wm (show lw_tbl[188]? = some (.methodLink "java/lang/String" 1059 yJ3_checkIndex_8e157) by decide +kernel) rfl)) (by decide +kernel) ⟨Nat.le_of_ble_eq_true rfl, Nat.le_of_ble_eq_true rfl⟩, hts _ (mz_wm (show lw_tbl[189]? = some (.static yJ3_checkIndex_8e157) by decide +kernel) rfl)⟩ ⟨fun _ _ _ _ q => q, fun U _ _ => ⟨rfl, trivial⟩⟩ rfl rfl hl.1 rfl (lv_room (Nat.le_of_ble_eq_true rfl)) (show decode cJ0_checkIndex_df160 5 = .ok (.invokestatic 1059, 3) by decide +kernel) ⟨Nat.le_refl _, Nat.le_refl _⟩ T hT X
    cases hv
    have hTH : T'.heap = H := by rw [e1, hh, g0]
    have hS2 : va_S A s.heap H (locs ++ L') := ⟨hS.1, hS.2.1, fun q hq => (List.mem_append.mp hq).elim (hS.2.2 q) (fun h => (hL q h).elim)⟩
    have kw : W p l e (mz_rm 1 0 0) s m args below meth c H (locs ++ L') 0 0 (MQ below (mz_Q G cA A ad ks (none, D)) args s 0 0 A) (F0 m 8 ls [.int i]) := by
      refine lv_pop hx hb (show decode cJ0_checkIndex_df160 8 = .ok (.pop, 1) by decide +kernel) rfl ?_
      exact W.vret hx hb hr (fun t ht hW => ⟨⟨rfl, by rw [ht]; exact hP, hD⟩, hS2.F ht⟩) hS2.2.2 (by decide +kernel) hlk
    obtain ⟨t2, a1, b1⟩ := kw T' hTH X'
    exact ⟨t2, st t2 a1, b1⟩
  rcases hX.2.2.2.2 with hz | ⟨t, hz⟩
  · exact key _ hz
  · exact key _ hz
theorem st_b : ∀ i, i < 2 → ∀ b ∈ ([mz_b0, mz_b1].getD i [] : List Int32), ((b &&& 255).toUInt32 % 65536).toInt32 = b ∧ narrow .char (.int b) = .int b := by decide +kernel
theorem st_bl : ∀ i, i < 2 → ([mz_b0, mz_b1].getD i [] : List Int32).length = [160, 161].getD i 0 ∧ [160, 161].getD i 0 < 2 ^ 31 := by decide +kernel
def st_ch (i : Nat) (j : Int32) : Int32 := ([mz_b0, mz_b1].getD i []).getD j.toNatClampNeg 0
theorem st_mem {α : Type} {l : List α} {k : Nat} {d : α} (h : k < l.length) : l.getD k d ∈ l := by
  rw [List.getD_eq_getElem?_getD, List.getElem?_eq_getElem h]
  exact List.getElem_mem h
theorem st_chb {i : Nat} {j : Int32} (hi : i < 2) (hj : mz_ix j ([160, 161].getD i 0) = true) : ((st_ch i j &&& 255).toUInt32 % 65536).toInt32 = st_ch i j ∧ narrow .char (.int (st_ch i j)) = .int (st_ch i j) := by
  refine st_b i hi _ ?_
  have h1 := (st_bl i hi).1
  simp only [mz_ix, Bool.and_eq_true, decide_eq_true_eq] at hj
  have h2 : j.toNatClampNeg < ([mz_b0, mz_b1].getD i [] : List Int32).length := by rw [h1]; exact hj.2
  exact st_mem h2
theorem st_lt {i : Nat} {j : Int32} (hi : i < 2) (hj : mz_ix j ([160, 161].getD i 0) = true) : ¬ j < 0 ∧ j < Int32.ofNat ([160, 161].getD i 0) := by
  have h2 := (st_bl i hi).2
  obtain ⟨k, hk, rfl⟩ := vp_in_of (mz_ix_in hj) h2
  exact ⟨nI_pos (by omega), nI_lt hk h2⟩
abbrev Ist_l1 : mz_I := (yJ1_charAt_3b067, cJ1_charAt_3b067, 2, some .char, 9, 2, 0, 0)
theorem kst_l1 : mz_okm Ist_l1 182 129 181 2 = true := by decide +kernel
theorem vst_l1 : mz_okS Ist_l1 181 = true := by decide +kernel
set_option maxHeartbeats 2000000 in
theorem st_l1 (i : Nat) (j : Int32) (D : mz_D) (hi : i < 2) (hj : mz_ix j ([160, 161].getD i 0) = true) : mz_Met Ist_l1 [.inr (.inr (some (0, 410 + i))), .inl j] D (some (.inl (st_ch i j)), D) := by
  refine mz_Met.of (by decide +kernel) (Nat.le_of_ble_eq_true rfl) ?_
  show mz_Go Ist_l1 _ 0 0 (0, [some (.inr (.inr (some (0, 410 + i)))), some (.inl j)], [], D)
  refine mz_Go.run (gs := []) (st' := (2, [some (.inr (.inr (some (0, 410 + i)))), some (.inl j)], [.inr (.inr (some (0, 410 + i))), .inl j], D)) [(0, .iload_n 1, 0, 0, 0, 0, 0), (1, .aload_n 0, 0, 0, 0, 0, 0)] (by decide +kernel) rfl trivial ?_
  refine mz_Go.slen hi (by decide +kernel) ?_
  refine mz_Go.callS (I := Ist_l1) (J := Ist_ci) (as := [.inl j, .inl (Int32.ofNat ([160, 161].getD i 0))]) (idx := 9) (pl := 183) (rest := []) (st_ci _ _ D (st_lt hi hj).1 (st_lt hi hj).2) kst_ci vst_ci (by decide +kernel) (by decide +kernel) (by decide +kernel) rfl rfl ⟨rfl, rfl⟩ rfl ?_
  refine mz_Go.run (gs := []) (st' := (8, [some (.inr (.inr (some (0, 410 + i)))), some (.inl j)], [.inl j, .inr (.inr (some (0, 410 + i)))], D)) [(6, .aload_n 0, 0, 0, 0, 0, 0), (7, .iload_n 1, 0, 0, 0, 0, 0)] (by decide +kernel) rfl trivial ?_
  refine mz_Go.sbyt hi hj (by decide +kernel) ?_
  refine mz_Go.run (gs := []) (st' := (13, [some (.inr (.inr (some (0, 410 + i)))), some (.inl j)], [.inl (st_ch i j &&& 255)], D)) [(9, .sipush 255, 0, 0, 0, 255, 0), (12, .iand, 0, 0, 0, 0, 0)] (by decide +kernel) rfl trivial ?_
  refine mz_Go.i2c (st_chb hi hj).1 (by decide +kernel) ?_
  exact mz_Go.retn (by decide +kernel) rfl ⟨Nat.le_refl _, Nat.le_refl _⟩ (st_chb hi hj).2 rfl
abbrev Ist_il : mz_I := (yJ0_isLatin1_aae02, cJ0_isLatin1_aae02, 1, some .boolean, 9, 0, 0, 0)
theorem kst_il : mz_okm Ist_il 179 128 177 0 = true := by decide +kernel
theorem vst_il : mz_okV Ist_il 177 178 = true := by decide +kernel
set_option maxHeartbeats 2000000 in
theorem st_il (i : Nat) (D : mz_D) (hi : i < 2) : mz_Met Ist_il [.inr (.inr (some (0, 400 + i)))] D (some (.inl 1), D) := by
  refine mz_Met.of (by decide +kernel) (Nat.le_of_ble_eq_true rfl) ?_
  show mz_Go Ist_il _ 0 0 (0, [some (.inr (.inr (some (0, 400 + i))))], [], D)
  refine mz_Go.gcs (idx := 38) (pos := 170) rfl (by decide +kernel) (by decide +kernel) ?_
  refine mz_Go.run (gs := []) (st' := (7, [some (.inr (.inr (some (0, 400 + i))))], [.inr (.inr (some (0, 400 + i)))], D)) [(3, .ifCond .eq 14, 0, 17, 0, 0, 0), (6, .aload_n 0, 0, 0, 0, 0, 0)] (by decide +kernel) rfl trivial ?_
  refine mz_Go.scod (idx := 15) (pos := 2305) hi rfl (by decide +kernel) (by decide +kernel) ?_
  refine mz_Go.run (gs := []) (st' := (18, [some (.inr (.inr (some (0, 400 + i))))], [.inl 1], D)) [(10, .ifCond .ne 7, 0, 17, 0, 0, 0), (13, .iconst 1, 0, 0, 0, 1, 0), (14, .goto 4, 0, 18, 0, 0, 0)] (by decide +kernel) rfl trivial ?_
  exact mz_Go.retz (by decide +kernel) rfl ⟨Nat.le_refl _, Nat.le_refl _⟩ (by decide) rfl
abbrev Ist_co : mz_I := (yJ0_coder_7d493, cJ0_coder_7d493, 1, some .byte, 9, 0, 0, 0)
theorem kst_co : mz_okm Ist_co 169 128 167 0 = true := by decide +kernel
theorem vst_co : mz_okV Ist_co 167 168 = true := by decide +kernel
set_option maxHeartbeats 2000000 in
theorem st_co (i : Nat) (D : mz_D) (hi : i < 2) : mz_Met Ist_co [.inr (.inr (some (0, 400 + i)))] D (some (.inl 0), D) := by
  refine mz_Met.of (by decide +kernel) (Nat.le_of_ble_eq_true rfl) ?_
  show mz_Go Ist_co _ 0 0 (0, [some (.inr (.inr (some (0, 400 + i))))], [], D)
  refine mz_Go.gcs (idx := 38) (pos := 170) rfl (by decide +kernel) (by decide +kernel) ?_
  refine mz_Go.run (gs := []) (st' := (7, [some (.inr (.inr (some (0, 400 + i))))], [.inr (.inr (some (0, 400 + i)))], D)) [(3, .ifCond .eq 10, 0, 13, 0, 0, 0), (6, .aload_n 0, 0, 0, 0, 0, 0)] (by decide +kernel) rfl trivial ?_
  refine mz_Go.scod (idx := 15) (pos := 2305) hi rfl (by decide +kernel) (by decide +kernel) ?_
  refine mz_Go.run (gs := []) (st' := (14, [some (.inr (.inr (some (0, 400 + i))))], [.inl 0], D)) [(10, .goto 4, 0, 14, 0, 0, 0)] (by decide +kernel) rfl trivial ?_
  exact mz_Go.retn (by decide +kernel) rfl ⟨Nat.le_refl _, Nat.le_refl _⟩ rfl rfl
abbrev Ist_le : mz_I := (yJ0_length_8abf5, cJ0_length_8abf5, 1, some .int, 9, 1, 0, 0)
theorem kst_le : mz_okm Ist_le 165 128 163 0 = true := by decide +kernel
theorem vst_le : mz_okV Ist_le 163 164 = true := by decide +kernel
set_option maxHeartbeats 2000000 in
theorem st_le (i : Nat) (D : mz_D) (hi : i < 2) : mz_Met Ist_le [.inr (.inr (some (0, 400 + i)))] D (some (.inl (Int32.ofNat ([160, 161].getD i 0))), D) := by
  refine mz_Met.of (by decide +kernel) (Nat.le_of_ble_eq_true rfl) ?_
  show mz_Go Ist_le _ 0 0 (0, [some (.inr (.inr (some (0, 400 + i))))], [], D)
  refine mz_Go.run (gs := []) (st' := (1, [some (.inr (.inr (some (0, 400 + i))))], [.inr (.inr (some (0, 400 + i)))], D)) [(0, .aload_n 0, 0, 0, 0, 0, 0)] (by decide +kernel) rfl trivial ?_
  refine mz_Go.sval (idx := 9) (pos := 2304) hi rfl (by decide +kernel) (by decide +kernel) ?_
  refine mz_Go.slen hi (by decide +kernel) ?_
  refine mz_Go.run (gs := []) (st' := (6, [some (.inr (.inr (some (0, 400 + i))))], [.inr (.inr (some (0, 400 + i))), .inl (Int32.ofNat ([160, 161].getD i 0))], D)) [(5, .aload_n 0, 0, 0, 0, 0, 0)] (by decide +kernel) rfl trivial ?_
  refine mz_Go.callT (I := Ist_le) (J := Ist_co) (as := []) (idx := 335) (pl := 166) (rest := [.inl (Int32.ofNat ([160, 161].getD i 0))]) hi (st_co i D hi) kst_co vst_co (by decide +kernel) (by decide +kernel) (by decide +kernel) rfl rfl ⟨rfl, rfl⟩ rfl rfl ?_
  refine mz_Go.run (gs := []) (st' := (10, [some (.inr (.inr (some (0, 400 + i))))], [.inl (Int32.ofNat ([160, 161].getD i 0) >>> ((0 : Int32) &&& 31))], D)) [(9, .ishr, 0, 0, 0, 0, 0)] (by decide +kernel) rfl trivial ?_
  have e : ∀ i, i < 2 → Int32.ofNat ([160, 161].getD i 0) >>> ((0 : Int32) &&& 31) = Int32.ofNat ([160, 161].getD i 0) := by decide +kernel
  rw [e i hi]
  exact mz_Go.reti (by decide +kernel) rfl ⟨Nat.le_refl _, Nat.le_refl _⟩ rfl
abbrev Ist_ca : mz_I := (yJ0_charAt_5068e, cJ0_charAt_5068e, 2, some .char, 9, 3, 0, 0)
theorem kst_ca : mz_okm Ist_ca 175 128 173 1 = true := by decide +kernel
theorem vst_ca : mz_okV Ist_ca 173 174 = true := by decide +kernel
set_option maxHeartbeats 2000000 in
theorem st_ca (i : Nat) (j : Int32) (D : mz_D) (hi : i < 2) (hj : mz_ix j ([160, 161].getD i 0) = true) : mz_Met Ist_ca [.inr (.inr (some (0, 400 + i))), .inl j] D (some (.inl (st_ch i j)), D) := by
  refine mz_Met.of (by decide +kernel) (Nat.le_of_ble_eq_true rfl) ?_
  show mz_Go Ist_ca _ 0 0 (0, [some (.inr (.inr (some (0, 400 + i)))), some (.inl j)], [], D)
  refine mz_Go.run (gs := []) (st' := (1, [some (.inr (.inr (some (0, 400 + i)))), some (.inl j)], [.inr (.inr (some (0, 400 + i)))], D)) [(0, .aload_n 0, 0, 0, 0, 0, 0)] (by decide +kernel) rfl trivial ?_
  refine mz_Go.callT (I := Ist_ca) (J := Ist_il) (as := []) (idx := 492) (pl := 176) (rest := []) hi (st_il i D hi) kst_il vst_il (by decide +kernel) (by decide +kernel) (by decide +kernel) rfl rfl ⟨rfl, rfl⟩ rfl rfl ?_
  refine mz_Go.run (gs := []) (st' := (8, [some (.inr (.inr (some (0, 400 + i)))), some (.inl j)], [.inr (.inr (some (0, 400 + i)))], D)) [(4, .ifCond .eq 12, 0, 16, 0, 0, 0), (7, .aload_n 0, 0, 0, 0, 0, 0)] (by decide +kernel) rfl trivial ?_
  refine mz_Go.sval (idx := 9) (pos := 2304) hi rfl (by decide +kernel) (by decide +kernel) ?_
  refine mz_Go.run (gs := []) (st' := (12, [some (.inr (.inr (some (0, 400 + i)))), some (.inl j)], [.inl j, .inr (.inr (some (0, 410 + i)))], D)) [(11, .iload_n 1, 0, 0, 0, 0, 0)] (by decide +kernel) rfl trivial ?_
  refine mz_Go.callS (I := Ist_ca) (J := Ist_l1) (as := [.inr (.inr (some (0, 410 + i))), .inl j]) (idx := 495) (pl := 180) (rest := []) (st_l1 i j D hi hj) kst_l1 vst_l1 (by decide +kernel) (by decide +kernel) (by decide +kernel) rfl rfl ⟨rfl, rfl⟩ rfl ?_
  exact mz_Go.retn (by decide +kernel) rfl ⟨Nat.le_refl _, Nat.le_refl _⟩ (st_chb hi hj).2 rfl
