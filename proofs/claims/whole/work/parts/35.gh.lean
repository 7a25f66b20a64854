/-! ===== methods that make an object: no key of the world is that of a text ===== -/
def mz_lo (ks : List (Nat × Nat)) : Prop := ∀ k ∈ ks, k.2 < 300
def mz_GH (I : mz_I) (rs : Option mz_V × mz_D) (nc ns : Nat) (st : mz_S) : Prop :=
  ∀ (p : Program) (l : Launch) (e : Env) (s : State) (m : MethodId) (args : Array Value) (below : List Frame) (meth : Method) (c : Code) (G : va_G) (cA : Nat → ClassId) (A : Nat → Prop) (ad : Nat → Nat → Nat) (ks : List (Nat × Nat)), mz_lo ks → mz_CX p s m args c I.1.cls I.2.1 I.2.2.1 G cA A ad ks I.2.2.2.2.1 → meth.sig.returnType = I.2.2.2.1 → meth.locks = false →
  mz_AW p l e (mz_rm I.2.2.2.2.2.1 I.2.2.2.2.2.2.1 I.2.2.2.2.2.2.2) s m args below meth c G cA A ad ks I.2.2.1 nc ns (MQ below (mz_Q G cA A ad ks rs) args s I.2.2.2.2.2.2.1 I.2.2.2.2.2.2.2 A) st
theorem mz_Go.gh {I : mz_I} {rs : Option mz_V × mz_D} {nc ns : Nat} {st : mz_S} (h : mz_Go I rs nc ns st) : mz_GH I rs nc ns st := fun p l e s m args below meth c G cA A ad ks _ => h p l e s m args below meth c G cA A ad ks
def mz_MetH (I : mz_I) (as : List mz_V) (D : mz_D) (rs : Option mz_V × mz_D) : Prop :=
  ∀ (l : Launch) (G : va_G) (cA : Nat → ClassId) (ad : Nat → Nat → Nat) (ks : List (Nat × Nat)) (sz : Nat), mz_lo ks → (∀ g o, mz_kz I.2.2.2.2.1 g o = true → (g, o) ∈ ks) → Met l I.1 (.code I.1 I.2.1 I.2.2.1 I.2.2.2.1 :: mz_w) (mz_rm I.2.2.2.2.2.1 I.2.2.2.2.2.2.1 I.2.2.2.2.2.2.2) (va_Pc (as.map (mz_cv ad)) (mz_Pq G cA ad ks sz D)) (mz_Q G cA (va_A (mz_wl cA ad ks D) sz) ad ks rs) I.2.2.2.2.2.2.1 I.2.2.2.2.2.2.2 (va_A (mz_wl cA ad ks D) sz)
theorem mz_Met.h {I : mz_I} {as : List mz_V} {D : mz_D} {rs : Option mz_V × mz_D} (h : mz_Met I as D rs) : mz_MetH I as D rs := fun l G cA ad ks sz _ => h l G cA ad ks sz
theorem mz_MetH.of {I : mz_I} {as : List mz_V} {D : mz_D} {rs : Option mz_V × mz_D} (hy : plainFor I.1 = true) (hn : mz_words as ≤ I.2.2.1) (h : mz_GH I rs 0 0 (0, mz_en as I.2.2.1, [], D))   : mz_MetH I as D rs := by
  intro l G cA ad ks sz hlo hks
  refine va_MetF (cc := I.2.1) (maxL := I.2.2.1) (ret := I.2.2.2.1) hy rfl ?_
  intro p e s m args below meth c s₁ B hml hv
  obtain ⟨rfl, hsz, hP, hK, hD0, hnw, hX⟩ := hv
  have hts := atoms_spec (ws := .code I.1 I.2.1 I.2.2.1 I.2.2.2.1 :: mz_w) B.pre
  have hown : s.vm.findClass I.1.cls = some m.cls := findClass_of_methodNamed B.named
  subst hsz
  have hD := hD0.self (sz := s.heap.size)
  have hl := lv_entry (as.map (mz_cv ad)) (n := I.2.2.1) (by rw [mz_words_eq]; exact hn)
  rw [lg_entry_eq]
  rw [← mz_en_sub as I.2.2.1 0] at hl
  exact h p l e s m _ below meth c G cA _ ad ks hlo ⟨⟨B.exec, B.bytes, hml, hown, fun w hw => hts w (List.mem_cons_of_mem _ hw)⟩, hK, fun q hq => Or.inr hq, hks, hnw, hX⟩ B.returns B.notSynchronized s.heap [] _ hP hD va_S.rf hl
section GOH
variable {I : mz_I} {rs : Option mz_V × mz_D} {nc ns pc : Nat} {L : mz_L} {S : List mz_V} {D : mz_D} {st st' : mz_S}
theorem mz_GH.run {gs : List Bool} (es : List mz_E) (hok : es.all (mz_ok I.1.cls I.2.1 I.2.2.1) = true) (h : mz_run I.2.2.2.2.1 es st = some (gs, st')) (hg : mz_all gs) (k : mz_GH I rs nc ns st') : mz_GH I rs nc ns st :=
  fun p l e s m args below meth c G cA A ad ks hlo C hr hlk => mz_s_run C es st st' gs hok h hg (k p l e s m args below meth c G cA A ad ks hlo C hr hlk)
theorem mz_GH.ite {P : Prop} [hP : Decidable P] {a b : mz_S} (h1 : P → mz_GH I rs nc ns a) (h2 : ¬ P → mz_GH I rs nc ns b) : mz_GH I rs nc ns (if P then a else b) := by
  by_cases h : P
  · rw [if_pos h]; exact h1 h
  · rw [if_neg h]; exact h2 h
/-- what isn't read again is forgotten -/
theorem mz_GH.drop (bs : List Bool) (k : mz_GH I rs nc ns (pc, mz_mk bs L, S, D)) : mz_GH I rs nc ns (pc, L, S, D) := by
  intro p l e s m args below meth c G cA A ad ks hlo C hr hlk H locs ls hP hD hS hl
  refine k p l e s m args below meth c G cA A ad ks hlo C hr hlk H locs ls hP hD hS (mz_has_mono hl ?_)
  intro q hq
  obtain ⟨j, v, h, rfl⟩ := mz_lm_iff.mp hq
  exact mz_lm_iff.mpr ⟨j, v, mz_mk_at bs L j v h, rfl⟩
theorem mz_GH.reti {v : Int32} (hdg : decode I.2.1 pc = .ok (.ireturn, 1)) (hret : I.2.2.2.1 = some .int) (hm : nc ≤ I.2.2.2.2.2.2.1 ∧ ns ≤ I.2.2.2.2.2.2.2) (hrs : rs = (some (.inl v), D)) : mz_GH I rs nc ns (pc, L, [.inl v], D) := by
  subst hrs
  intro p l e s m args below meth c G cA A ad ks hlo C hr hlk H locs ls hP hD hS hl
  refine W.widen hm.1 hm.2 ?_
  exact W.iret C.1.1 C.1.2.1 (hr.trans hret) (fun t ht hW => ⟨⟨rfl, by rw [ht]; exact hP, hD⟩, hS.F ht⟩) hS.2.2 hdg hlk
theorem mz_GH.retz {v : Int32} (hdg : decode I.2.1 pc = .ok (.ireturn, 1)) (hret : I.2.2.2.1 = some .boolean) (hm : nc ≤ I.2.2.2.2.2.2.1 ∧ ns ≤ I.2.2.2.2.2.2.2) (hv : mz_bo v = true) (hrs : rs = (some (.inl v), D)) : mz_GH I rs nc ns (pc, L, [.inl v], D) := by
  subst hrs
  have hbo : v = 0 ∨ v = 1 := by simpa [mz_bo] using hv
  intro p l e s m args below meth c G cA A ad ks hlo C hr hlk H locs ls hP hD hS hl
  refine W.widen hm.1 hm.2 ?_
  exact W.zret C.1.1 C.1.2.1 (hr.trans hret) (by rcases hbo with rfl | rfl <;> rfl) (fun t ht hW => ⟨⟨rfl, by rw [ht]; exact hP, hD⟩, hS.F ht⟩) hS.2.2 hdg hlk
theorem mz_GH.retl {v : Int64} (hdg : decode I.2.1 pc = .ok (.lreturn, 1)) (hret : I.2.2.2.1 = some .long) (hm : nc ≤ I.2.2.2.2.2.2.1 ∧ ns ≤ I.2.2.2.2.2.2.2) (hrs : rs = (some (.inr (.inl v)), D)) : mz_GH I rs nc ns (pc, L, [.inr (.inl v)], D) := by
  subst hrs
  intro p l e s m args below meth c G cA A ad ks hlo C hr hlk H locs ls hP hD hS hl
  refine W.widen hm.1 hm.2 ?_
  exact W.lret C.1.1 C.1.2.1 (hr.trans hret) (fun t ht hW => ⟨⟨rfl, by rw [ht]; exact hP, hD⟩, hS.F ht⟩) hS.2.2 hdg hlk
theorem mz_GH.retv (hdg : decode I.2.1 pc = .ok (.return_, 1)) (hret : I.2.2.2.1 = none) (hm : nc ≤ I.2.2.2.2.2.2.1 ∧ ns ≤ I.2.2.2.2.2.2.2) (hrs : rs = (none, D)) : mz_GH I rs nc ns (pc, L, [], D) := by
  subst hrs
  intro p l e s m args below meth c G cA A ad ks hlo C hr hlk H locs ls hP hD hS hl
  refine W.widen hm.1 hm.2 ?_
  exact W.vret C.1.1 C.1.2.1 (hr.trans hret) (fun t ht hW => ⟨⟨rfl, by rw [ht]; exact hP, hD⟩, hS.F ht⟩) hS.2.2 hdg hlk
theorem mz_GH.reta {k : Nat × Nat} {t : FieldType} (hdg : decode I.2.1 pc = .ok (.areturn, 1)) (hret : I.2.2.2.1 = some (.array t)) (hm : nc ≤ I.2.2.2.2.2.2.1 ∧ ns ≤ I.2.2.2.2.2.2.2) (hrs : rs = (some (.inr (.inr (some k))), D)) : mz_GH I rs nc ns (pc, L, [.inr (.inr (some k))], D) := by
  subst hrs
  intro p l e s m args below meth c G cA A ad ks hlo C hr hlk H locs ls hP hD hS hl
  refine W.widen hm.1 hm.2 ?_
  exact W.aret C.1.1 C.1.2.1 (hr.trans hret) (Or.inr ⟨t, rfl⟩) (Or.inr ⟨_, rfl⟩) (fun t ht hW => ⟨⟨rfl, by rw [ht]; exact hP, hD⟩, hS.F ht⟩) hS.2.2 hdg hlk
end GOH
section CALLH
variable {I J : mz_I} {rs r1 : Option mz_V × mz_D} {nc ns pc : Nat} {L : mz_L} {D : mz_D} {as rest : List mz_V}
set_option maxHeartbeats 2000000 in
theorem mz_GH.callS {idx pk pi ps pl n : Nat} (hM : mz_Met J as D r1) (hm : mz_okm J pk pi ps n = true) (hs : mz_okS J ps = true) (hl : mz_okL I J idx pl = true) (hR : mz_okR I J = true) (hdg : decode I.2.1 pc = .ok (.invokestatic idx, 3)) (hn : as.length = n) (hw : Nat.ble (rest.map mz_cat).sum 8 = true) (hc : Nat.ble (nc + J.2.2.2.2.2.2.1) I.2.2.2.2.2.2.1 = true ∧ Nat.ble (ns + J.2.2.2.2.2.2.2) I.2.2.2.2.2.2.2 = true) {S : List mz_V} (hS0 : S = as.reverse ++ rest) (k : mz_GH I rs (nc + J.2.2.2.2.2.2.1) (ns + J.2.2.2.2.2.2.2) (pc + 3, L, r1.1.toList ++ rest, r1.2)) : mz_GH I rs nc ns (pc, L, S, D) := by
  subst hS0
  intro p l e s m args below meth c G cA A ad ks hlo C hr hlk H locs ls hP hD hS hlv
  have hks := mz_kzJ hR C.2.2.2.1
  simp only [mz_okm, mz_okS, mz_okL, mz_okR, Bool.and_eq_true, decide_eq_true_eq] at hm hs hl hR
  obtain ⟨⟨hx, hb, hml, hown, hts⟩, hK, hA, hks0, hnw, hX⟩ := id C
  have hA1 := mz_A1 C hD hS
  have e1 : (as.reverse ++ rest).map (mz_cv ad) = (as.map (mz_cv ad)).reverse ++ rest.map (mz_cv ad) := by rw [List.map_append, List.map_reverse]
  rw [show ((pc, L, as.reverse ++ rest, D) : mz_S).2.2.1 = as.reverse ++ rest from rfl, e1]
  refine mz_callK (va_runS (As := as.map (mz_cv ad)) (rest := rest.map (mz_cv ad)) ⟨hx, hb, hml, hown, hts⟩ (hM l G cA ad ks H.size hks) ⟨callB_of (bytes := J.2.1) (maxL := J.2.2.1) (ret := J.2.2.2.1) n hts (fun w hw => (List.mem_cons.mp hw).elim (fun e => e ▸ mz_good _ (mz_wm hm.1.1 rfl)) (mz_good w)) rfl rfl rfl (hts _ (mz_wm hm.1.2 rfl)) (hts _ (mz_wm hl rfl)) hm.2 ⟨Nat.le_of_ble_eq_true hR.1.1, Nat.le_of_ble_eq_true hR.1.2⟩, hts _ (mz_wm hs rfl)⟩ ⟨mz_blind, fun U hU hW => ⟨rfl, mz_preU C hP hD hS hU hW⟩⟩ rfl (by rw [List.length_map]; exact hn) hlv.1 rfl (lv_room (by rw [mz_sum_cat]; exact Nat.le_of_ble_eq_true hw)) hdg ⟨Nat.le_of_ble_eq_true hc.1, Nat.le_of_ble_eq_true hc.2⟩) hS (fun q _ h => hA1 q h) hA1 (fun H1 locs1 p1 d1 z1 k1 s1 => ?_)
  have e2 : (r1.1.map (mz_cv ad)).toList ++ rest.map (mz_cv ad) = (r1.1.toList ++ rest).map (mz_cv ad) := by
    rw [List.map_append]
    rcases r1 with ⟨_ | v, D1⟩ <;> rfl
  rw [e2]
  exact k p l e s m args below meth c G cA A ad ks hlo C hr hlk H1 locs1 ls p1 (d1.weaken (fun k q _ h => hA1 q.1 h)) s1 hlv
set_option maxHeartbeats 2000000 in
theorem mz_GH.callV {idx pk pi ps pv pl n ci g o : Nat} (hM : mz_Met J (.inr (.inr (some (g, o))) :: as) D r1) (hm : mz_okm J pk pi ps n = true) (hs : mz_okV J ps pv = true) (hl : mz_okL I J idx pl = true) (hR : mz_okR I J = true) (hdg : decode I.2.1 pc = .ok (.invokevirtual idx, 3)) (hn : as.length = n) (hw : Nat.ble (rest.map mz_cat).sum 8 = true) (hc : Nat.ble (nc + J.2.2.2.2.2.2.1) I.2.2.2.2.2.2.1 = true ∧ Nat.ble (ns + J.2.2.2.2.2.2.2) I.2.2.2.2.2.2.2 = true) (hsh : mz_sh o = (0, ci)) (hci : (vwCl[ci]?).map (·.1) = some J.1.cls) (hkz : mz_kz I.2.2.2.2.1 g o = true) {S : List mz_V} (hS0 : S = as.reverse ++ .inr (.inr (some (g, o))) :: rest) (k : mz_GH I rs (nc + J.2.2.2.2.2.2.1) (ns + J.2.2.2.2.2.2.2) (pc + 3, L, r1.1.toList ++ rest, r1.2)) : mz_GH I rs nc ns (pc, L, S, D) := by
  subst hS0
  intro p l e s m args below meth c G cA A ad ks hlo C hr hlk H locs ls hP hD hS hlv
  have hks := mz_kzJ hR C.2.2.2.1
  simp only [mz_okm, mz_okV, mz_okL, mz_okR, Bool.and_eq_true, decide_eq_true_eq] at hm hs hl hR
  obtain ⟨⟨hx, hb, hml, hown, hts⟩, hK, hA, hks0, hnw, hX⟩ := id C
  have hA1 := mz_A1 C hD hS
  obtain ⟨q0, hq0⟩ := mz_key C hkz
  have he := mz_wl_at (cA := cA) (ad := ad) (D := D) hq0
  simp only [mz_ce, hsh] at he
  obtain ⟨q, hq, hqn⟩ := Option.map_eq_some_iff.mp hci
  have hrv := va_recv hK hP hq he
  rw [hqn] at hrv
  have e1 : (as.reverse ++ .inr (.inr (some (g, o))) :: rest).map (mz_cv ad) = (as.map (mz_cv ad)).reverse ++ .ref (ad g o) :: rest.map (mz_cv ad) := by rw [List.map_append, List.map_reverse]; rfl
  rw [show ((pc, L, as.reverse ++ .inr (.inr (some (g, o))) :: rest, D) : mz_S).2.2.1 = as.reverse ++ .inr (.inr (some (g, o))) :: rest from rfl, e1]
  refine mz_callK (va_runV (As := as.map (mz_cv ad)) (rest := rest.map (mz_cv ad)) ⟨hx, hb, hml, hown, hts⟩ (hM l G cA ad ks H.size hks) ⟨callB_of (bytes := J.2.1) (maxL := J.2.2.1) (ret := J.2.2.2.1) n hts (fun w hw => (List.mem_cons.mp hw).elim (fun e => e ▸ mz_good _ (mz_wm hm.1.1 rfl)) (mz_good w)) rfl rfl rfl (hts _ (mz_wm hm.1.2 rfl)) (hts _ (mz_wm hl rfl)) hm.2 ⟨Nat.le_of_ble_eq_true hR.1.1, Nat.le_of_ble_eq_true hR.1.2⟩, hts _ (mz_wm hs.1 rfl), hts _ (mz_wm hs.2 rfl)⟩ ⟨mz_blind, hrv, fun U hU hW => ⟨rfl, mz_preU C hP hD hS hU hW⟩⟩ rfl (by rw [List.length_map]; exact hn) hlv.1 rfl (lv_room (by rw [mz_sum_cat]; exact Nat.le_of_ble_eq_true hw)) hdg ⟨Nat.le_of_ble_eq_true hc.1, Nat.le_of_ble_eq_true hc.2⟩) hS (fun q _ h => hA1 q h) hA1 (fun H1 locs1 p1 d1 z1 k1 s1 => ?_)
  have e2 : (r1.1.map (mz_cv ad)).toList ++ rest.map (mz_cv ad) = (r1.1.toList ++ rest).map (mz_cv ad) := by
    rw [List.map_append]
    rcases r1 with ⟨_ | v, D1⟩ <;> rfl
  rw [e2]
  exact k p l e s m args below meth c G cA A ad ks hlo C hr hlk H1 locs1 ls p1 (d1.weaken (fun k q _ h => hA1 q.1 h)) s1 hlv
set_option maxHeartbeats 2000000 in
theorem mz_GH.callSN {idx pk pi ps pl n : Nat} (hM : mz_Met J as D r1) (hm : mz_okm J pk pi ps n = true) (hs : mz_okS J ps = true) (hl : mz_okN I J idx pl = true) (hR : mz_okR I J = true) (hdg : decode I.2.1 pc = .ok (.invokestatic idx, 3)) (hn : as.length = n) (hw : Nat.ble (rest.map mz_cat).sum 8 = true) (hc : Nat.ble (nc + J.2.2.2.2.2.2.1) I.2.2.2.2.2.2.1 = true ∧ Nat.ble (ns + J.2.2.2.2.2.2.2) I.2.2.2.2.2.2.2 = true) {S : List mz_V} (hS0 : S = as.reverse ++ rest) (k : mz_GH I rs (nc + J.2.2.2.2.2.2.1) (ns + J.2.2.2.2.2.2.2) (pc + 3, L, r1.1.toList ++ rest, r1.2)) : mz_GH I rs nc ns (pc, L, S, D) := by
  subst hS0
  intro p l e s m args below meth c G cA A ad ks hlo C hr hlk H locs ls hP hD hS hlv
  have hks := mz_kzJ hR C.2.2.2.1
  simp only [mz_okm, mz_okS, mz_okN, mz_okR, Bool.and_eq_true, decide_eq_true_eq] at hm hs hl hR
  obtain ⟨⟨hx, hb, hml, hown, hts⟩, hK, hA, hks0, hnw, hX⟩ := id C
  have hA1 := mz_A1 C hD hS
  have e1 : (as.reverse ++ rest).map (mz_cv ad) = (as.map (mz_cv ad)).reverse ++ rest.map (mz_cv ad) := by rw [List.map_append, List.map_reverse]
  rw [show ((pc, L, as.reverse ++ rest, D) : mz_S).2.2.1 = as.reverse ++ rest from rfl, e1]
  refine mz_callK (va_runSN (host := "LetMe") (As := as.map (mz_cv ad)) (rest := rest.map (mz_cv ad)) ⟨hx, hb, hml, hown, hts⟩ (hM l G cA ad ks H.size hks) ⟨va_cnB (bytes := J.2.1) (maxL := J.2.2.1) (ret := J.2.2.2.1) n hts (fun w hw => (List.mem_cons.mp hw).elim (fun e => e ▸ mz_good _ (mz_wm hm.1.1 rfl)) (mz_good w)) rfl rfl rfl (hnw _ (mz_nwm hl rfl)) (hts _ (mz_wm hm.1.2 rfl)) hm.2 ⟨Nat.le_of_ble_eq_true hR.1.1, Nat.le_of_ble_eq_true hR.1.2⟩, hts _ (mz_wm hs rfl), trivial⟩ ⟨mz_blind, fun U hU hW => ⟨rfl, mz_preU C hP hD hS hU hW⟩⟩ rfl (by rw [List.length_map]; exact hn) hlv.1 rfl (lv_room (by rw [mz_sum_cat]; exact Nat.le_of_ble_eq_true hw)) hdg ⟨Nat.le_of_ble_eq_true hc.1, Nat.le_of_ble_eq_true hc.2⟩) hS (fun q _ h => hA1 q h) hA1 (fun H1 locs1 p1 d1 z1 k1 s1 => ?_)
  have e2 : (r1.1.map (mz_cv ad)).toList ++ rest.map (mz_cv ad) = (r1.1.toList ++ rest).map (mz_cv ad) := by
    rw [List.map_append]
    rcases r1 with ⟨_ | v, D1⟩ <;> rfl
  rw [e2]
  exact k p l e s m args below meth c G cA A ad ks hlo C hr hlk H1 locs1 ls p1 (d1.weaken (fun k q _ h => hA1 q.1 h)) s1 hlv
end CALLH
