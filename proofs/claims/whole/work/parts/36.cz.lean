/-! ===== constructors: a world of their own cells alone ===== -/
theorem cz_ra {s : State} {a b : ClassId} {ty : FieldType} (hty : ty = .int ∨ ty = .byte ∨ ty = .long) (h1 : va_RA s a ty) (h2 : va_RA s b ty) : a = b := by
  rcases hty with rfl | rfl | rfl <;> exact Option.some.inj (h1.symm.trans h2)
theorem cz_Wmono {p : Program} {l : Launch} {e : Env} {R : Room} {s : State} {m : MethodId} {args : Array Value} {below : List Frame} {meth : Method} {c : Code} {H : Heap} {locs : List Loc} {cells slots : Nat} {Q Q' : State → Prop} {g : JFrame} (h : ∀ t, Q' t → Q t) (k : W p l e R s m args below meth c H locs cells slots Q' g) : W p l e R s m args below meth c H locs cells slots Q g := by
  intro T hT X
  obtain ⟨t, a, b⟩ := k T hT X
  exact ⟨t, a, h t b⟩
/-- cells at offsets, by their addresses -/
def cz_tl (cA : Nat → ClassId) (os : List Nat) (a : Nat → Nat) (D : mz_D) : va_W := os.map fun o => (a o, mz_ce cA (fun _ o => a o) D 0 o)
def cz_D0 : mz_D := (fun _ _ _ => 0, fun _ _ _ => 0)
/-- behind a call: the other cells, and the callee's -/
theorem cz_join {A : Nat → Prop} {G : va_G} {cl : List vw_C} {w t0 t1 : va_W} {H H1 : Heap} (hP : va_P G cl (w ++ t0) H) (hD : va_D A (w ++ t0)) (hk : ∀ q : Nat, q < H.size → ¬ va_A t0 H.size q → H1[q]? = H[q]?) (hF : ∀ q, va_A t0 H.size q → A q) (hP1 : va_P G cl t1 H1) (hD1 : va_D (va_A t0 H.size) t1) : va_P G cl (w ++ t1) H1 ∧ va_D A (w ++ t1) := by
  have apart : ∀ (k : Nat) (q : Nat × va_E), w[k]? = some q → q.1 < H.size ∧ ¬ va_A t0 H.size q.1 := by
    intro k q hq
    have hkl : k < w.length := (List.getElem?_eq_some_iff.mp hq).1
    have h2 : (w ++ t0)[k]? = some q := by rw [List.getElem?_append_left hkl]; exact hq
    have hl := (hP k q h2).lt
    refine ⟨hl, fun h => ?_⟩
    rcases h with ⟨k2, e, h⟩ | h
    · have h4 : (w ++ t0)[w.length + k2]? = some (q.1, e) := by
        rw [List.getElem?_append_right (by omega)]
        simpa using h
      have := hD.1 k (w.length + k2) q (q.1, e) h2 h4 rfl
      omega
    · omega
  have hDw : va_D A w := ⟨fun i j x y hi hj hxy => hD.1 i j x y (by rw [List.getElem?_append_left (List.getElem?_eq_some_iff.mp hi).1]; exact hi) (by rw [List.getElem?_append_left (List.getElem?_eq_some_iff.mp hj).1]; exact hj) hxy, fun k q hq => hD.2 k q (by rw [List.getElem?_append_left (List.getElem?_eq_some_iff.mp hq).1]; exact hq)⟩
  refine ⟨va_P.app (fun k q hq => ?_) hP1, va_D.app hDw (hD1.weaken (fun k q _ h => hF q.1 h)) (fun i j x y hx hy hxy => ?_)⟩
  · have hkl : k < w.length := (List.getElem?_eq_some_iff.mp hq).1
    have h2 : (w ++ t0)[k]? = some q := by rw [List.getElem?_append_left hkl]; exact hq
    obtain ⟨g1, g2⟩ := apart k q hq
    exact (hP k q h2).kept (hk q.1 g1 g2)
  · exact (apart i x hx).2 (by rw [hxy]; exact hD1.2 j y hy)
def cz_Q (G : va_G) (A : Nat → Prop) (P : va_W → Prop) : Array Value → State → Outcome → State → Prop := fun _ st oc t => (oc = .returned none ∧ ∃ t1, P t1 ∧ va_P G vwCl t1 t.heap ∧ va_D A t1) ∧ va_F A st t
def cz_Pq (G : va_G) (cA : Nat → ClassId) (ad : Nat → Nat → Nat) (w : va_W) (sz : Nat) (U : State) : Prop := U.heap.size = sz ∧ va_P G vwCl w U.heap ∧ va_K G vwCl (mz_tys cA) U ∧ va_D (fun _ => True) w ∧ (∀ w ∈ mz_nw, va_Nw w U) ∧ mz_X ad (va_A w sz) U U.heap
def cz_Met (I : mz_I) (as : List Value) (t0 : va_W) (cA : Nat → ClassId) (ad : Nat → Nat → Nat) (P : va_W → Prop) : Prop :=
  ∀ (l : Launch) (G : va_G) (sz : Nat), Met l I.1 (.code I.1 I.2.1 I.2.2.1 I.2.2.2.1 :: mz_w) (mz_rm I.2.2.2.2.2.1 I.2.2.2.2.2.2.1 I.2.2.2.2.2.2.2) (va_Pc as (cz_Pq G cA ad t0 sz)) (cz_Q G (va_A t0 sz) P) I.2.2.2.2.2.2.1 I.2.2.2.2.2.2.2 (va_A t0 sz)
/-- what a constructor's body stands on -/
def cz_CX (p : Program) (s : State) (m : MethodId) (args : Array Value) (c : Code) (own : String) (cc : ByteArray) (nL : Nat) (G : va_G) (cA : Nat → ClassId) (A : Nat → Prop) (ad : Nat → Nat → Nat) : Prop :=
  CallFix p m c cc nL s args mz_w own ∧ va_K G vwCl (mz_tys cA) s ∧ (∀ q, s.heap.size ≤ q → A q) ∧ (∀ w ∈ mz_nw, va_Nw w s) ∧ mz_X ad A s s.heap
theorem cz_of {I : mz_I} {as : List Value} {t0 : va_W} {cA : Nat → ClassId} {ad : Nat → Nat → Nat} {P : va_W → Prop} (hy : plainFor I.1 = true) (hn : (lg_sl as).length ≤ I.2.2.1) (hret : I.2.2.2.1 = none)
    (body : ∀ (p : Program) (l : Launch) (e : Env) (s : State) (m : MethodId) (below : List Frame) (meth : Method) (c : Code) (G : va_G) (A : Nat → Prop) (ls : Array Slot), cz_CX p s m as.toArray c I.1.cls I.2.1 I.2.2.1 G cA A ad → meth.sig.returnType = none → meth.locks = false → meth.name = I.1.name → va_P G vwCl t0 s.heap → va_D A t0 → lv_has ls I.2.2.1 (lv_args 0 as) → W p l e (mz_rm I.2.2.2.2.2.1 I.2.2.2.2.2.2.1 I.2.2.2.2.2.2.2) s m as.toArray below meth c s.heap [] 0 0 (MQ below (cz_Q G A P) as.toArray s I.2.2.2.2.2.2.1 I.2.2.2.2.2.2.2 A) (F0 m 0 ls [])) : cz_Met I as t0 cA ad P := by
  intro l G sz
  refine va_MetF (cc := I.2.1) (maxL := I.2.2.1) (ret := I.2.2.2.1) hy rfl ?_
  intro p e s m args below meth c s₁ B hml hv
  obtain ⟨rfl, hsz, hP, hK, hD0, hnw, hX⟩ := hv
  have hts := atoms_spec (ws := .code I.1 I.2.1 I.2.2.1 I.2.2.2.1 :: mz_w) B.pre
  have hown : s.vm.findClass I.1.cls = some m.cls := findClass_of_methodNamed B.named
  have hin : meth.name = I.1.name := (name_of_methodNamed B.named B.method).1
  subst hsz
  have hD := hD0.self (sz := s.heap.size)
  have hl := lv_entry as (n := I.2.2.1) hn
  rw [lg_entry_eq]
  exact body p l e s m below meth c G _ _ ⟨⟨B.exec, B.bytes, hml, hown, fun w hw => hts w (List.mem_cons_of_mem _ hw)⟩, hK, fun q hq => Or.inr hq, hnw, hX⟩ (B.returns.trans hret) B.notSynchronized hin hP hD hl
section CZ
variable {p : Program} {l : Launch} {e : Env} {R : Room} {s : State} {m : MethodId} {args : Array Value} {below : List Frame} {meth : Method} {c : Code} {H : Heap} {locs : List Loc} {cells slots : Nat} {Q : State → Prop} {G : va_G} {cA : Nat → ClassId} {A : Nat → Prop} {ad : Nat → Nat → Nat} {own : String} {cc : ByteArray} {nL pc : Nat} {ls : Array Slot}
theorem cz_preU {w t0 : va_W} (C : cz_CX p s m args c own cc nL G cA A ad) (hP : va_P G vwCl (w ++ t0) H) (hD : va_D A (w ++ t0)) (hS : va_S A s.heap H locs) {U : State} (hU : U.heap = H) (hW : s.WarmedH U.vm) : cz_Pq G cA ad t0 H.size U := by
  obtain ⟨-, hK, hA, hnw, hX⟩ := C
  have at' : ∀ (k : Nat) (q : Nat × va_E), t0[k]? = some q → (w ++ t0)[w.length + k]? = some q := fun k q h => by
    rw [List.getElem?_append_right (by omega)]
    simpa using h
  refine ⟨by rw [hU], by rw [hU]; exact fun k q h => hP _ q (at' k q h), va_K.moved hW.alike hK, ⟨fun i j x y hi hj hxy => by
    have := hD.1 _ _ x y (at' i x hi) (at' j y hj) hxy
    omega, fun _ _ _ => trivial⟩, mz_nw_warm hW hnw, ?_⟩
  rw [hU]
  refine mz_X.warm hW ((hX.kept hS.2.1).narrow ?_)
  rintro q (⟨k, e, h⟩ | h)
  · exact hD.2 _ (q, e) (at' k (q, e) h)
  · exact hA q (Nat.le_trans hS.1 h)
theorem cz_blind {as : List Value} {sz : Nat} {w : va_W} : FrameBlind (va_Pc as (cz_Pq G cA ad w sz)) := by
  intro a U g mk q
  obtain ⟨q0, q1, qP, qK, qD, qN, qX⟩ := q
  exact ⟨q0, q1, qP, va_K.moved (u := U) (U := U.calling g mk a) (Vm.Alike.refl U.vm) qK, qD, mz_nw_same (u := U) (U := U.calling g mk a) rfl qN, mz_X.same (u := U) (U := U.calling g mk a) rfl qX⟩
theorem cz_after {J : mz_I} {t0 w : va_W} {P : va_W → Prop} {a : Array Value} {st0 rest : List Value} (C : cz_CX p s m args c own cc nL G cA A ad) (hr : va_Run p l e R s m args below meth c H locs cells slots J.2.2.2.2.2.2.1 J.2.2.2.2.2.2.2 (F0 m pc ls st0) rest (cz_Q G (va_A t0 H.size) P a) (va_A t0 H.size)) (hP : va_P G vwCl (w ++ t0) H) (hD : va_D A (w ++ t0)) (hS : va_S A s.heap H locs)
    (kk : ∀ (t1 : va_W) (H1 : Heap) (locs1 : List Loc), P t1 → va_P G vwCl (w ++ t1) H1 → va_D A (w ++ t1) → va_S A s.heap H1 locs1 → W p l e R s m args below meth c H1 locs1 (cells + J.2.2.2.2.2.2.1) (slots + J.2.2.2.2.2.2.2) Q (F0 m (pc + 3) ls rest)) : W p l e R s m args below meth c H locs cells slots Q (F0 m pc ls st0) := by
  have hA1 : ∀ q, va_A t0 H.size q → A q := by
    rintro q (⟨k, e, h⟩ | h)
    · exact hD.2 (w.length + k) (q, e) (by rw [List.getElem?_append_right (by omega)]; simpa using h)
    · exact C.2.2.1 q (Nat.le_trans hS.1 h)
  intro T hT X
  obtain ⟨v, st₀, t, T', L, h0, X', hL, e1, e2, ⟨⟨hv, t1, hp, hP1, hD1⟩, hz, hk⟩, st⟩ := hr T hT X
  cases hv
  rw [h0] at hz hk
  obtain ⟨j1, j2⟩ := cz_join hP hD hk hA1 hP1 hD1
  obtain ⟨t2, a1, b1⟩ := kk t1 T'.heap (locs ++ L) hp (by rw [e1]; exact j1) j2
    ⟨Nat.le_trans hS.1 (by rw [e1]; exact hz), fun q h1 h2 => by rw [e1, hk q (Nat.lt_of_lt_of_le h1 hS.1) (fun z => h2 (hA1 q z))]; exact hS.2.1 q h1 h2, fun q hq => by
      rcases List.mem_append.mp hq with h | h
      · exact hS.2.2 q h
      · exact hA1 _ (hL q h)⟩ T' rfl X'
  exact ⟨t2, st t2 a1, b1⟩
set_option maxHeartbeats 2000000 in
theorem cz_callI {J : mz_I} {As rest : List Value} {b idx pk pi ps pl n : Nat} {t0 w : va_W} {P : va_W → Prop} (C : cz_CX p s m args c own cc nL G cA A ad) (hM : cz_Met J (.ref b :: As) t0 cA ad P) (hm : mz_okm J pk pi ps n = true) (hi : lw_tbl[ps]? = some (.instanceMethod J.1)) (hnm : J.1.name = "<init>") (hret : J.2.2.2.1 = none) (hl : lw_tbl[pl]? = some (.methodLink own idx J.1)) (hR : J.2.2.2.2.2.1 + 1 ≤ R.frames ∧ 8 + (J.2.2.1 + 11) + 100 * J.2.2.2.2.2.1 ≤ R.locals) (hdg : decode cc pc = .ok (.invokespecial idx, 3)) (hn : As.length = n) (hsz : ls.size = nL) (hw : (rest.map fun v => v.category).sum ≤ 8) (hc : cells + J.2.2.2.2.2.2.1 ≤ R.cells ∧ slots + J.2.2.2.2.2.2.2 ≤ R.slots) (hP : va_P G vwCl (w ++ t0) H) (hD : va_D A (w ++ t0)) (hS : va_S A s.heap H locs)
    (kk : ∀ (t1 : va_W) (H1 : Heap) (locs1 : List Loc), P t1 → va_P G vwCl (w ++ t1) H1 → va_D A (w ++ t1) → va_S A s.heap H1 locs1 → W p l e R s m args below meth c H1 locs1 (cells + J.2.2.2.2.2.2.1) (slots + J.2.2.2.2.2.2.2) Q (F0 m (pc + 3) ls rest)) : W p l e R s m args below meth c H locs cells slots Q (F0 m pc ls (As.reverse ++ .ref b :: rest)) := by
  obtain ⟨⟨hx, hb, hml, hown, hts⟩, -⟩ := id C
  simp only [mz_okm, Bool.and_eq_true, decide_eq_true_eq] at hm
  have hMl := hM l G H.size
  rw [hret] at hMl
  exact cz_after (J := J) C (va_runI (As := As) (rest := rest) ⟨hx, hb, hml, hown, hts⟩ hMl ⟨callB_of (bytes := J.2.1) (maxL := J.2.2.1) (ret := none) n hts (fun w hw => (List.mem_cons.mp hw).elim (fun e => e ▸ mz_good _ (mz_wm (by rw [← hret]; exact hm.1.1) rfl)) (mz_good w)) rfl rfl rfl (hts _ (mz_wm hm.1.2 rfl)) (hts _ (mz_wm hl rfl)) hm.2 hR, hnm, hts _ (mz_wm hi rfl)⟩ ⟨cz_blind, fun U hU hW => ⟨rfl, cz_preU C hP hD hS hU hW⟩⟩ rfl hn hsz rfl (lv_room hw) hdg hc) hP hD hS kk
set_option maxHeartbeats 2000000 in
theorem cz_callIN {J : mz_I} {As rest : List Value} {b idx pk pi ps pl n : Nat} {t0 w : va_W} {P : va_W → Prop} (C : cz_CX p s m args c own cc nL G cA A ad) (hM : cz_Met J (.ref b :: As) t0 cA ad P) (hm : mz_okm J pk pi ps n = true) (hi : lw_tbl[ps]? = some (.instanceMethod J.1)) (hnm : J.1.name = "<init>") (hret : J.2.2.2.1 = none) (hl : lw_tbl[pl]? = some (.methodLinkNest own idx J.1 "LetMe")) (hR : J.2.2.2.2.2.1 + 1 ≤ R.frames ∧ 8 + (J.2.2.1 + 11) + 100 * J.2.2.2.2.2.1 ≤ R.locals) (hdg : decode cc pc = .ok (.invokespecial idx, 3)) (hn : As.length = n) (hsz : ls.size = nL) (hw : (rest.map fun v => v.category).sum ≤ 8) (hc : cells + J.2.2.2.2.2.2.1 ≤ R.cells ∧ slots + J.2.2.2.2.2.2.2 ≤ R.slots) (hP : va_P G vwCl (w ++ t0) H) (hD : va_D A (w ++ t0)) (hS : va_S A s.heap H locs)
    (kk : ∀ (t1 : va_W) (H1 : Heap) (locs1 : List Loc), P t1 → va_P G vwCl (w ++ t1) H1 → va_D A (w ++ t1) → va_S A s.heap H1 locs1 → W p l e R s m args below meth c H1 locs1 (cells + J.2.2.2.2.2.2.1) (slots + J.2.2.2.2.2.2.2) Q (F0 m (pc + 3) ls rest)) : W p l e R s m args below meth c H locs cells slots Q (F0 m pc ls (As.reverse ++ .ref b :: rest)) := by
  obtain ⟨⟨hx, hb, hml, hown, hts⟩, -, -, hnw, -⟩ := id C
  simp only [mz_okm, Bool.and_eq_true, decide_eq_true_eq] at hm
  have hMl := hM l G H.size
  rw [hret] at hMl
  exact cz_after (J := J) C (va_runIN (host := "LetMe") (As := As) (rest := rest) ⟨hx, hb, hml, hown, hts⟩ hMl ⟨va_cnB (bytes := J.2.1) (maxL := J.2.2.1) (ret := none) n hts (fun w hw => (List.mem_cons.mp hw).elim (fun e => e ▸ mz_good _ (mz_wm (by rw [← hret]; exact hm.1.1) rfl)) (mz_good w)) rfl rfl rfl (hnw _ (mz_nwm hl rfl)) (hts _ (mz_wm hm.1.2 rfl)) hm.2 hR, hnm, hts _ (mz_wm hi rfl)⟩ ⟨cz_blind, fun U hU hW => ⟨rfl, cz_preU C hP hD hS hU hW⟩⟩ rfl hn hsz rfl (lv_room hw) hdg hc) hP hD hS kk
set_option maxHeartbeats 2000000 in
theorem cz_callS {J : mz_I} {As rest : List Value} {idx pk pi ps pl n : Nat} {t0 w : va_W} {P : va_W → Prop} (C : cz_CX p s m args c own cc nL G cA A ad) (hM : cz_Met J As t0 cA ad P) (hm : mz_okm J pk pi ps n = true) (hi : mz_okS J ps = true) (hl : lw_tbl[pl]? = some (.methodLink own idx J.1)) (hR : J.2.2.2.2.2.1 + 1 ≤ R.frames ∧ 8 + (J.2.2.1 + 11) + 100 * J.2.2.2.2.2.1 ≤ R.locals) (hdg : decode cc pc = .ok (.invokestatic idx, 3)) (hn : As.length = n) (hsz : ls.size = nL) (hw : (rest.map fun v => v.category).sum ≤ 8) (hc : cells + J.2.2.2.2.2.2.1 ≤ R.cells ∧ slots + J.2.2.2.2.2.2.2 ≤ R.slots) (hP : va_P G vwCl (w ++ t0) H) (hD : va_D A (w ++ t0)) (hS : va_S A s.heap H locs)
    (kk : ∀ (t1 : va_W) (H1 : Heap) (locs1 : List Loc), P t1 → va_P G vwCl (w ++ t1) H1 → va_D A (w ++ t1) → va_S A s.heap H1 locs1 → W p l e R s m args below meth c H1 locs1 (cells + J.2.2.2.2.2.2.1) (slots + J.2.2.2.2.2.2.2) Q (F0 m (pc + 3) ls rest)) : W p l e R s m args below meth c H locs cells slots Q (F0 m pc ls (As.reverse ++ rest)) := by
  obtain ⟨⟨hx, hb, hml, hown, hts⟩, -⟩ := id C
  simp only [mz_okm, mz_okS, Bool.and_eq_true, decide_eq_true_eq] at hm hi
  exact cz_after (J := J) C (va_runS (As := As) (rest := rest) ⟨hx, hb, hml, hown, hts⟩ (hM l G H.size) ⟨callB_of (bytes := J.2.1) (maxL := J.2.2.1) (ret := J.2.2.2.1) n hts (fun w hw => (List.mem_cons.mp hw).elim (fun e => e ▸ mz_good _ (mz_wm hm.1.1 rfl)) (mz_good w)) rfl rfl rfl (hts _ (mz_wm hm.1.2 rfl)) (hts _ (mz_wm hl rfl)) hm.2 hR, hts _ (mz_wm hi rfl)⟩ ⟨cz_blind, fun U hU hW => ⟨rfl, cz_preU C hP hD hS hU hW⟩⟩ rfl hn hsz rfl (lv_room hw) hdg hc) hP hD hS kk
theorem cz_ret {t1 : va_W} {P : va_W → Prop} {mc ms : Nat} (C : cz_CX p s m args c own cc nL G cA A ad) (hr : meth.sig.returnType = none) (hlk : meth.locks = false) (hm : cells ≤ mc ∧ slots ≤ ms) (hp : P t1) (hP : va_P G vwCl t1 H) (hD : va_D A t1) (hS : va_S A s.heap H locs) (hdg : decode cc pc = .ok (.return_, 1)) : W p l e R s m args below meth c H locs cells slots (MQ below (cz_Q G A P) args s mc ms A) (F0 m pc ls []) := by
  refine W.widen hm.1 hm.2 ?_
  exact W.vret C.1.1 C.1.2.1 hr (fun t ht hW => ⟨⟨rfl, t1, hp, by rw [ht]; exact hP, hD⟩, hS.F ht⟩) hS.2.2 hdg hlk
end CZ
