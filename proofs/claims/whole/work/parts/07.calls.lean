/-! ===== methods: what runs, what a method is, calls ===== -/
/-- a method: name, code, locals, what it returns, which keys it needs, depth, new cells, new slots -/
abbrev mz_I : Type := MethodName × ByteArray × Nat × Option FieldType × Nat × Nat × Nat × Nat
abbrev mz_rm (d mc ms : Nat) : Room := { frames := d, cells := mc, slots := ms, locals := 100 * d }
def mz_Q (G : va_G) (cA : Nat → ClassId) (A : Nat → Prop) (ad : Nat → Nat → Nat) (ks : List (Nat × Nat)) (rs : Option mz_V × mz_D) : Array Value → State → Outcome → State → Prop := fun _ st oc t =>
  (oc = .returned (rs.1.map (mz_cv ad)) ∧ va_P G vwCl (mz_wl cA ad ks rs.2) t.heap ∧ va_D A (mz_wl cA ad ks rs.2)) ∧ va_F A st t
def mz_Go (I : mz_I) (rs : Option mz_V × mz_D) (nc ns : Nat) (st : mz_S) : Prop :=
  ∀ (p : Program) (l : Launch) (e : Env) (s : State) (m : MethodId) (args : Array Value) (below : List Frame) (meth : Method) (c : Code) (G : va_G) (cA : Nat → ClassId) (A : Nat → Prop) (ad : Nat → Nat → Nat) (ks : List (Nat × Nat)), mz_CX p s m args c I.1.cls I.2.1 I.2.2.1 G cA A ad ks I.2.2.2.2.1 → meth.sig.returnType = I.2.2.2.1 → meth.locks = false →
  mz_AW p l e (mz_rm I.2.2.2.2.2.1 I.2.2.2.2.2.2.1 I.2.2.2.2.2.2.2) s m args below meth c G cA A ad ks I.2.2.1 nc ns (MQ below (mz_Q G cA A ad ks rs) args s I.2.2.2.2.2.2.1 I.2.2.2.2.2.2.2 A) st
def mz_Pq (G : va_G) (cA : Nat → ClassId) (ad : Nat → Nat → Nat) (ks : List (Nat × Nat)) (sz : Nat) (D : mz_D) (U : State) : Prop := U.heap.size = sz ∧ va_P G vwCl (mz_wl cA ad ks D) U.heap ∧ va_K G vwCl (mz_tys cA) U ∧ va_D (fun _ => True) (mz_wl cA ad ks D) ∧ (∀ w ∈ mz_nw, va_Nw w U) ∧ mz_X ad (va_A (mz_wl cA ad ks D) sz) U U.heap
def mz_Met (I : mz_I) (as : List mz_V) (D : mz_D) (rs : Option mz_V × mz_D) : Prop :=
  ∀ (l : Launch) (G : va_G) (cA : Nat → ClassId) (ad : Nat → Nat → Nat) (ks : List (Nat × Nat)) (sz : Nat), (∀ g o, mz_kz I.2.2.2.2.1 g o = true → (g, o) ∈ ks) → Met l I.1 (.code I.1 I.2.1 I.2.2.1 I.2.2.2.1 :: mz_w) (mz_rm I.2.2.2.2.2.1 I.2.2.2.2.2.2.1 I.2.2.2.2.2.2.2) (va_Pc (as.map (mz_cv ad)) (mz_Pq G cA ad ks sz D)) (mz_Q G cA (va_A (mz_wl cA ad ks D) sz) ad ks rs) I.2.2.2.2.2.2.1 I.2.2.2.2.2.2.2 (va_A (mz_wl cA ad ks D) sz)
def mz_en : List mz_V → Nat → mz_L
  | [], n => List.replicate n none
  | .inr (.inl v) :: vs, n => some (.inr (.inl v)) :: none :: mz_en vs (n - 2)
  | v :: vs, n => some v :: mz_en vs (n - 1)
theorem mz_lm_rep (ad : Nat → Nat → Nat) : ∀ (n i : Nat), mz_lm ad i (List.replicate n none) = []
  | 0, _ => rfl
  | n + 1, i => by rw [List.replicate_succ, mz_lm, mz_lm_rep ad n]
theorem mz_en_sub {ad : Nat → Nat → Nat} : ∀ (vs : List mz_V) (n i : Nat), mz_lm ad i (mz_en vs n) = lv_args i (vs.map (mz_cv ad))
  | [], n, i => by rw [mz_en, mz_lm_rep]; rfl
  | v :: vs, n, i => by
    rcases v with v | v | v
    · rw [mz_en, mz_lm, mz_en_sub vs]
      · rfl
      · intro w h; cases h
    · rw [mz_en, mz_lm, mz_lm, mz_en_sub vs]
      rfl
    · rw [mz_en, mz_lm, mz_en_sub vs]
      · rcases v with _ | v <;> rfl
      · intro w h; cases h
def mz_words (vs : List mz_V) : Nat := (vs.map mz_cat).sum
theorem mz_words_eq {ad : Nat → Nat → Nat} : ∀ (vs : List mz_V), (lg_sl (vs.map (mz_cv ad))).length = mz_words vs
  | [] => rfl
  | v :: vs => by
    have ih := mz_words_eq (ad := ad) vs
    have e : (lg_sl ((v :: vs).map (mz_cv ad))) = (if (mz_cv ad v).category = 2 then [Slot.val (mz_cv ad v), .second] else [.val (mz_cv ad v)]) ++ lg_sl (vs.map (mz_cv ad)) := rfl
    rw [e, List.length_append, ih, mz_cv_cat]
    rcases v with v | v | v <;> simp [mz_cat, mz_words]
theorem mz_Met.of {I : mz_I} {as : List mz_V} {D : mz_D} {rs : Option mz_V × mz_D} (hy : plainFor I.1 = true) (hn : mz_words as ≤ I.2.2.1) (h : mz_Go I rs 0 0 (0, mz_en as I.2.2.1, [], D)) : mz_Met I as D rs := by
  intro l G cA ad ks sz hks
  refine va_MetF (cc := I.2.1) (maxL := I.2.2.1) (ret := I.2.2.2.1) hy rfl ?_
  intro p e s m args below meth c s₁ B hml hv
  obtain ⟨rfl, hsz, hP, hK, hD0, hnw, hX⟩ := hv
  have hts := atoms_spec (ws := .code I.1 I.2.1 I.2.2.1 I.2.2.2.1 :: mz_w) B.pre
  have hown : s.vm.findClass I.1.cls = some m.cls := findClass_of_methodNamed B.named
  subst hsz
  have hD := hD0.self (sz := s.heap.size)
  have hl := lv_entry (as.map (mz_cv ad)) (n := I.2.2.1) (by rw [mz_words_eq]; exact hn)
  rw [lg_entry_eq]
  rw [← mz_en_sub as I.2.2.1 0] at hl
  exact h p l e s m _ below meth c G cA _ ad ks ⟨⟨B.exec, B.bytes, hml, hown, fun w hw => hts w (List.mem_cons_of_mem _ hw)⟩, hK, fun q hq => Or.inr hq, hks, hnw, hX⟩ B.returns B.notSynchronized s.heap [] _ hP hD va_S.rf hl
section GO
variable {I : mz_I} {rs : Option mz_V × mz_D} {nc ns pc : Nat} {L : mz_L} {S : List mz_V} {D : mz_D} {st st' : mz_S}
theorem mz_Go.run {gs : List Bool} (es : List mz_E) (hok : es.all (mz_ok I.1.cls I.2.1 I.2.2.1) = true) (h : mz_run I.2.2.2.2.1 es st = some (gs, st')) (hg : mz_all gs) (k : mz_Go I rs nc ns st') : mz_Go I rs nc ns st :=
  fun p l e s m args below meth c G cA A ad ks C hr hlk => mz_s_run C es st st' gs hok h hg (k p l e s m args below meth c G cA A ad ks C hr hlk)
theorem mz_Go.ite {P : Prop} [hP : Decidable P] {a b : mz_S} (h1 : P → mz_Go I rs nc ns a) (h2 : ¬ P → mz_Go I rs nc ns b) : mz_Go I rs nc ns (if P then a else b) := by
  by_cases h : P
  · rw [if_pos h]; exact h1 h
  · rw [if_neg h]; exact h2 h
def mz_mk : List Bool → mz_L → mz_L
  | true :: bs, x :: L => x :: mz_mk bs L
  | false :: bs, _ :: L => none :: mz_mk bs L
  | _, _ => []
theorem mz_mk_at : ∀ (bs : List Bool) (L : mz_L) (j : Nat) (v : mz_V), (mz_mk bs L)[j]? = some (some v) → L[j]? = some (some v)
  | [], L, j, v, h => by simp [mz_mk] at h
  | true :: bs, [], j, v, h => by simp [mz_mk] at h
  | false :: bs, [], j, v, h => by simp [mz_mk] at h
  | true :: bs, x :: L, 0, v, h => by simpa [mz_mk] using h
  | false :: bs, x :: L, 0, v, h => by simp [mz_mk] at h
  | true :: bs, x :: L, j + 1, v, h => by
    rw [mz_mk, List.getElem?_cons_succ] at h
    rw [List.getElem?_cons_succ]
    exact mz_mk_at bs L j v h
  | false :: bs, x :: L, j + 1, v, h => by
    rw [mz_mk, List.getElem?_cons_succ] at h
    rw [List.getElem?_cons_succ]
    exact mz_mk_at bs L j v h
/-- what isn't read again is forgotten -/
theorem mz_Go.drop (bs : List Bool) (k : mz_Go I rs nc ns (pc, mz_mk bs L, S, D)) : mz_Go I rs nc ns (pc, L, S, D) := by
  intro p l e s m args below meth c G cA A ad ks C hr hlk H locs ls hP hD hS hl
  refine k p l e s m args below meth c G cA A ad ks C hr hlk H locs ls hP hD hS (mz_has_mono hl ?_)
  intro q hq
  obtain ⟨j, v, h, rfl⟩ := mz_lm_iff.mp hq
  exact mz_lm_iff.mpr ⟨j, v, mz_mk_at bs L j v h, rfl⟩
theorem mz_Go.reti {v : Int32} (hdg : decode I.2.1 pc = .ok (.ireturn, 1)) (hret : I.2.2.2.1 = some .int) (hm : nc ≤ I.2.2.2.2.2.2.1 ∧ ns ≤ I.2.2.2.2.2.2.2) (hrs : rs = (some (.inl v), D)) : mz_Go I rs nc ns (pc, L, [.inl v], D) := by
  subst hrs
  intro p l e s m args below meth c G cA A ad ks C hr hlk H locs ls hP hD hS hl
  refine W.widen hm.1 hm.2 ?_
  exact W.iret C.1.1 C.1.2.1 (hr.trans hret) (fun t ht hW => ⟨⟨rfl, by rw [ht]; exact hP, hD⟩, hS.F ht⟩) hS.2.2 hdg hlk
theorem mz_Go.retz {v : Int32} (hdg : decode I.2.1 pc = .ok (.ireturn, 1)) (hret : I.2.2.2.1 = some .boolean) (hm : nc ≤ I.2.2.2.2.2.2.1 ∧ ns ≤ I.2.2.2.2.2.2.2) (hv : mz_bo v = true) (hrs : rs = (some (.inl v), D)) : mz_Go I rs nc ns (pc, L, [.inl v], D) := by
  subst hrs
  have hbo : v = 0 ∨ v = 1 := by simpa [mz_bo] using hv
  intro p l e s m args below meth c G cA A ad ks C hr hlk H locs ls hP hD hS hl
  refine W.widen hm.1 hm.2 ?_
  exact W.zret C.1.1 C.1.2.1 (hr.trans hret) (by rcases hbo with rfl | rfl <;> rfl) (fun t ht hW => ⟨⟨rfl, by rw [ht]; exact hP, hD⟩, hS.F ht⟩) hS.2.2 hdg hlk
theorem mz_Go.retl {v : Int64} (hdg : decode I.2.1 pc = .ok (.lreturn, 1)) (hret : I.2.2.2.1 = some .long) (hm : nc ≤ I.2.2.2.2.2.2.1 ∧ ns ≤ I.2.2.2.2.2.2.2) (hrs : rs = (some (.inr (.inl v)), D)) : mz_Go I rs nc ns (pc, L, [.inr (.inl v)], D) := by
  subst hrs
  intro p l e s m args below meth c G cA A ad ks C hr hlk H locs ls hP hD hS hl
  refine W.widen hm.1 hm.2 ?_
  exact W.lret C.1.1 C.1.2.1 (hr.trans hret) (fun t ht hW => ⟨⟨rfl, by rw [ht]; exact hP, hD⟩, hS.F ht⟩) hS.2.2 hdg hlk
theorem mz_Go.retv (hdg : decode I.2.1 pc = .ok (.return_, 1)) (hret : I.2.2.2.1 = none) (hm : nc ≤ I.2.2.2.2.2.2.1 ∧ ns ≤ I.2.2.2.2.2.2.2) (hrs : rs = (none, D)) : mz_Go I rs nc ns (pc, L, [], D) := by
  subst hrs
  intro p l e s m args below meth c G cA A ad ks C hr hlk H locs ls hP hD hS hl
  refine W.widen hm.1 hm.2 ?_
  exact W.vret C.1.1 C.1.2.1 (hr.trans hret) (fun t ht hW => ⟨⟨rfl, by rw [ht]; exact hP, hD⟩, hS.F ht⟩) hS.2.2 hdg hlk
theorem mz_Go.reta {k : Nat × Nat} {t : FieldType} (hdg : decode I.2.1 pc = .ok (.areturn, 1)) (hret : I.2.2.2.1 = some (.array t)) (hm : nc ≤ I.2.2.2.2.2.2.1 ∧ ns ≤ I.2.2.2.2.2.2.2) (hrs : rs = (some (.inr (.inr (some k))), D)) : mz_Go I rs nc ns (pc, L, [.inr (.inr (some k))], D) := by
  subst hrs
  intro p l e s m args below meth c G cA A ad ks C hr hlk H locs ls hP hD hS hl
  refine W.widen hm.1 hm.2 ?_
  exact W.aret C.1.1 C.1.2.1 (hr.trans hret) (Or.inr ⟨t, rfl⟩) (Or.inr ⟨_, rfl⟩) (fun t ht hW => ⟨⟨rfl, by rw [ht]; exact hP, hD⟩, hS.F ht⟩) hS.2.2 hdg hlk
end GO
/-! calls -/
/-- what the tables say of a callee: its code, class, place of its static or instance word, its number of parameters -/
def mz_okm (J : mz_I) (pk pi ps n : Nat) : Bool := decide (lw_tbl[pk]? = some (.code J.1 J.2.1 J.2.2.1 J.2.2.2.1)) && decide (lw_tbl[pi]? = some (.initialized J.1.cls)) && decide (J.1.cls ≠ "java/lang/invoke/MethodHandle" ∧ J.1.cls ≠ "java/lang/invoke/VarHandle" ∧ (parseMethodDescriptor J.1.desc).map (fun d => d.parameters.length) = some n)
/-- static -/
def mz_okS (J : mz_I) (ps : Nat) : Bool := decide (lw_tbl[ps]? = some (.static J.1))
/-- of an object -/
def mz_okV (J : mz_I) (ps pv : Nat) : Bool := decide (lw_tbl[ps]? = some (.instanceMethod J.1)) && decide (lw_tbl[pv]? = some (.selects J.1.cls J.1 J.1))
def mz_okL (I J : mz_I) (idx pl : Nat) : Bool := decide (lw_tbl[pl]? = some (.methodLink I.1.cls idx J.1))
def mz_okN (I J : mz_I) (idx pl : Nat) : Bool := decide (lw_tbl[pl]? = some (.methodLinkNest I.1.cls idx J.1 "LetMe"))
def mz_okR (I J : mz_I) : Bool := Nat.ble (J.2.2.2.2.2.1 + 1) I.2.2.2.2.2.1 && Nat.ble (8 + (J.2.2.1 + 11) + 100 * J.2.2.2.2.2.1) (100 * I.2.2.2.2.2.1) && ((Nat.beq J.2.2.2.2.1 0 && Nat.ble I.2.2.2.2.1 2) || Nat.beq J.2.2.2.2.1 I.2.2.2.2.1 || Nat.beq J.2.2.2.2.1 9)
section CALL
variable {p : Program} {l : Launch} {e : Env} {R : Room} {s : State} {m : MethodId} {args : Array Value} {below : List Frame} {meth : Method} {c : Code} {H : Heap} {locs : List Loc} {cells slots mc ms : Nat} {Q : State → Prop} {G : va_G} {cA : Nat → ClassId} {A : Nat → Prop} {ad : Nat → Nat → Nat} {ks : List (Nat × Nat)}
theorem mz_callK {free : Addr → Prop} {rs : Option mz_V × mz_D} {A1 : Nat → Prop} {a : Array Value} {pc : Nat} {ls : Array Slot} {st0 rest : List Value} (hr : va_Run p l e R s m args below meth c H locs cells slots mc ms (F0 m pc ls st0) rest (mz_Q G cA A1 ad ks rs a) free) (hS : va_S A s.heap H locs) (hA : ∀ q, q < H.size → A1 q → A q) (hf : ∀ q, free q → A q)
    (kk : ∀ (H1 : Heap) (locs1 : List Loc), va_P G vwCl (mz_wl cA ad ks rs.2) H1 → va_D A1 (mz_wl cA ad ks rs.2) → H.size ≤ H1.size → (∀ q : Nat, q < H.size → ¬ A1 q → H1[q]? = H[q]?) → va_S A s.heap H1 locs1 → W p l e R s m args below meth c H1 locs1 (cells + mc) (slots + ms) Q (F0 m (pc + 3) ls ((rs.1.map (mz_cv ad)).toList ++ rest))) : W p l e R s m args below meth c H locs cells slots Q (F0 m pc ls st0) := by
  intro T hT X
  obtain ⟨v, st₀, t, T', L, h0, X', hL, e1, e2, ⟨⟨hv, hP1, hD1⟩, hz, hk⟩, st⟩ := hr T hT X
  cases hv
  rw [h0] at hz hk
  obtain ⟨t2, a1, b1⟩ := kk T'.heap (locs ++ L) (by rw [e1]; exact hP1) hD1 (by rw [e1]; exact hz) (fun q h1 h2 => by rw [e1]; exact hk q h1 h2)
    ⟨Nat.le_trans hS.1 (by rw [e1]; exact hz), fun q h1 h2 => by rw [e1, hk q (Nat.lt_of_lt_of_le h1 hS.1) (fun z => h2 (hA q (Nat.lt_of_lt_of_le h1 hS.1) z))]; exact hS.2.1 q h1 h2, fun q hq => by
      rcases List.mem_append.mp hq with h | h
      · exact hS.2.2 q h
      · exact hf _ (hL q h)⟩ T' rfl X'
  exact ⟨t2, st t2 a1, b1⟩
theorem mz_blind {as : List Value} {sz : Nat} {D : mz_D} : FrameBlind (va_Pc as (mz_Pq G cA ad ks sz D)) := by
  intro a U g mk q
  obtain ⟨q0, q1, qP, qK, qD, qN, qX⟩ := q
  exact ⟨q0, q1, qP, va_K.moved (u := U) (U := U.calling g mk a) (Vm.Alike.refl U.vm) qK, qD, mz_nw_same (u := U) (U := U.calling g mk a) rfl qN, mz_X.same (u := U) (U := U.calling g mk a) rfl qX⟩
theorem mz_preU {own : String} {cc : ByteArray} {nL md : Nat} {D : mz_D} (C : mz_CX p s m args c own cc nL G cA A ad ks md) (hP : va_P G vwCl (mz_wl cA ad ks D) H) (hD : va_D A (mz_wl cA ad ks D)) (hS : va_S A s.heap H locs) {U : State} (hU : U.heap = H) (hW : s.WarmedH U.vm) : mz_Pq G cA ad ks H.size D U := by
  obtain ⟨-, hK, hA, hks, hnw, hX⟩ := C
  refine ⟨by rw [hU], by rw [hU]; exact hP, va_K.moved hW.alike hK, hD.weaken (fun _ _ _ _ => trivial), mz_nw_warm hW hnw, ?_⟩
  rw [hU]
  refine mz_X.warm hW ((hX.kept hS.2.1).narrow ?_)
  rintro q (⟨k, e, h⟩ | h)
  · exact hD.2 k (q, e) h
  · exact hA q (Nat.le_trans hS.1 h)
theorem mz_A1 {own : String} {cc : ByteArray} {nL md : Nat} {D : mz_D} (C : mz_CX p s m args c own cc nL G cA A ad ks md) (hD : va_D A (mz_wl cA ad ks D)) (hS : va_S A s.heap H locs) : ∀ q, va_A (mz_wl cA ad ks D) H.size q → A q := by
  rintro q (⟨k, e, h⟩ | h)
  · exact hD.2 k (q, e) h
  · exact C.2.2.1 q (Nat.le_trans hS.1 h)
end CALL
section CALL2
variable {I J : mz_I} {rs r1 : Option mz_V × mz_D} {nc ns pc : Nat} {L : mz_L} {D : mz_D} {as rest : List mz_V}
theorem mz_k0_mono {md g o : Nat} (hz : mz_k0 0 g o = true) : mz_k0 md g o = true := by
  revert hz
  unfold mz_k0
  cases Nat.blt o 100 <;> cases Nat.blt o 200 <;> cases Nat.blt o 300 <;> simp
theorem mz_kzJ {I J : mz_I} {ks : List (Nat × Nat)} (hR : mz_okR I J = true) (h : ∀ g o, mz_kz I.2.2.2.2.1 g o = true → (g, o) ∈ ks) : ∀ g o, mz_kz J.2.2.2.2.1 g o = true → (g, o) ∈ ks := by
  simp only [mz_okR, Bool.and_eq_true, Bool.or_eq_true] at hR
  intro g o hz
  rcases hR.2 with (⟨h0, h2⟩ | h0) | h0
  · rw [Nat.eq_of_beq_eq_true h0] at hz
    refine h g o ?_
    have h2 := Nat.le_of_ble_eq_true h2
    have h3 : mz_k0 0 g o = true := hz
    have h4 : I.2.2.2.2.1 = 0 ∨ I.2.2.2.2.1 = 1 ∨ I.2.2.2.2.1 = 2 := by omega
    rcases h4 with h4 | h4 | h4
    · rw [h4]; exact hz
    · rw [h4]; exact mz_k0_mono (md := 1) h3
    · rw [h4]; exact mz_k0_mono (md := 2) h3
  · rw [Nat.eq_of_beq_eq_true h0] at hz
    exact h g o hz
  · rw [Nat.eq_of_beq_eq_true h0] at hz
    cases hz
theorem mz_sum_cat (ad : Nat → Nat → Nat) (vs : List mz_V) : ((vs.map (mz_cv ad)).map fun v => v.category).sum = (vs.map mz_cat).sum := by
  rw [List.map_map]
  congr 1
  apply List.map_congr_left
  intro v _
  exact mz_cv_cat ad v
set_option maxHeartbeats 2000000 in
theorem mz_Go.callS {idx pk pi ps pl n : Nat} (hM : mz_Met J as D r1) (hm : mz_okm J pk pi ps n = true) (hs : mz_okS J ps = true) (hl : mz_okL I J idx pl = true) (hR : mz_okR I J = true) (hdg : decode I.2.1 pc = .ok (.invokestatic idx, 3)) (hn : as.length = n) (hw : Nat.ble (rest.map mz_cat).sum 8 = true) (hc : Nat.ble (nc + J.2.2.2.2.2.2.1) I.2.2.2.2.2.2.1 = true ∧ Nat.ble (ns + J.2.2.2.2.2.2.2) I.2.2.2.2.2.2.2 = true) {S : List mz_V} (hS0 : S = as.reverse ++ rest) (k : mz_Go I rs (nc + J.2.2.2.2.2.2.1) (ns + J.2.2.2.2.2.2.2) (pc + 3, L, r1.1.toList ++ rest, r1.2)) : mz_Go I rs nc ns (pc, L, S, D) := by
  subst hS0
  intro p l e s m args below meth c G cA A ad ks C hr hlk H locs ls hP hD hS hlv
  have hks := mz_kzJ hR C.2.2.2.1
  simp only [mz_okm, mz_okS, mz_okL, mz_okR, Bool.and_eq_true, decide_eq_true_eq] at hm hs hl hR
  obtain ⟨⟨hx, hb, hml, hown, hts⟩, hK, hA, hks0, hnw, hX⟩ := id C
  have hA1 := mz_A1 C hD hS
  have e1 : (as.reverse ++ rest).map (mz_cv ad) = (as.map (mz_cv ad)).reverse ++ rest.map (mz_cv ad) := by rw [List.map_append, List.map_reverse]
  rw [show ((pc, L, as.reverse ++ rest, D) : mz_S).2.2.1 = as.reverse ++ rest from rfl, e1]
  refine mz_callK (va_runS (As := as.map (mz_cv ad)) (rest := rest.map (mz_cv ad)) ⟨hx, hb, hml, hown, hts⟩ (hM l G cA ad ks H.size hks) ⟨callB_of (bytes := J.2.1) (maxL := J.2.2.1) (ret := J.2.2.2.1) n hts (fun w hw => (List.mem_cons.mp hw).elim (fun e => e ▸ mz_good _ (mz_wm hm.1.1 rfl)) (mz_good w)) rfl rfl rfl (hts _ (mz_wm hm.1.2 rfl)) (hts _ (mz_wm hl rfl)) hm.2 ⟨Nat.le_of_ble_eq_true hR.1.1, Nat.le_of_ble_eq_true hR.1.2⟩, hts _ (mz_wm hs rfl)⟩ ⟨mz_blind, fun U hU hW => ⟨rfl, mz_preU C hP hD hS hU hW⟩⟩ rfl (by rw [List.length_map]; exact hn) hlv.1 rfl (lv_room (by rw [mz_sum_cat]; exact Nat.le_of_ble_eq_true hw)) hdg ⟨Nat.le_of_ble_eq_true hc.1, Nat.le_of_ble_eq_true hc.2⟩) hS (fun q _ h => hA1 q h) hA1 (fun H1 locs1 p1 d1 z1 k1 s1 => ?_)
  have e2 : (r1.1.map (mz_cv ad)).toList ++ rest.map (mz_cv ad) = (r1.1.toList ++ rest).map (mz_cv ad) := by
    rw [List.map_append]
    rcases r1 with ⟨_ | v, D1⟩ <;> rfl
  rw [e2]
  exact k p l e s m args below meth c G cA A ad ks C hr hlk H1 locs1 ls p1 (d1.weaken (fun k q _ h => hA1 q.1 h)) s1 hlv
set_option maxHeartbeats 2000000 in
theorem mz_Go.callV {idx pk pi ps pv pl n ci g o : Nat} (hM : mz_Met J (.inr (.inr (some (g, o))) :: as) D r1) (hm : mz_okm J pk pi ps n = true) (hs : mz_okV J ps pv = true) (hl : mz_okL I J idx pl = true) (hR : mz_okR I J = true) (hdg : decode I.2.1 pc = .ok (.invokevirtual idx, 3)) (hn : as.length = n) (hw : Nat.ble (rest.map mz_cat).sum 8 = true) (hc : Nat.ble (nc + J.2.2.2.2.2.2.1) I.2.2.2.2.2.2.1 = true ∧ Nat.ble (ns + J.2.2.2.2.2.2.2) I.2.2.2.2.2.2.2 = true) (hsh : mz_sh o = (0, ci)) (hci : (vwCl[ci]?).map (·.1) = some J.1.cls) (hkz : mz_kz I.2.2.2.2.1 g o = true) {S : List mz_V} (hS0 : S = as.reverse ++ .inr (.inr (some (g, o))) :: rest) (k : mz_Go I rs (nc + J.2.2.2.2.2.2.1) (ns + J.2.2.2.2.2.2.2) (pc + 3, L, r1.1.toList ++ rest, r1.2)) : mz_Go I rs nc ns (pc, L, S, D) := by
  subst hS0
  intro p l e s m args below meth c G cA A ad ks C hr hlk H locs ls hP hD hS hlv
  have hks := mz_kzJ hR C.2.2.2.1
  simp only [mz_okm, mz_okV, mz_okL, mz_okR, Bool.and_eq_true, decide_eq_true_eq] at hm hs hl hR
  obtain ⟨⟨hx, hb, hml, hown, hts⟩, hK, hA, hks0, hnw, hX⟩ := id C
  have hA1 := mz_A1 C hD hS
  obtain ⟨q0, hq0⟩ := mz_key C hkz
  have he := mz_wl_at (cA := cA) (ad := ad) (D := D) hq0
  simp only [mz_ce, hsh] at he
  obtain ⟨q, hq, hqn⟩ := Option.map_eq_some_iff.mp hci
  have hrv := va_recv hK hP hq he
  rw [hqn] at hrv
  have e1 : (as.reverse ++ .inr (.inr (some (g, o))) :: rest).map (mz_cv ad) = (as.map (mz_cv ad)).reverse ++ .ref (ad g o) :: rest.map (mz_cv ad) := by rw [List.map_append, List.map_reverse]; rfl
  rw [show ((pc, L, as.reverse ++ .inr (.inr (some (g, o))) :: rest, D) : mz_S).2.2.1 = as.reverse ++ .inr (.inr (some (g, o))) :: rest from rfl, e1]
  refine mz_callK (va_runV (As := as.map (mz_cv ad)) (rest := rest.map (mz_cv ad)) ⟨hx, hb, hml, hown, hts⟩ (hM l G cA ad ks H.size hks) ⟨callB_of (bytes := J.2.1) (maxL := J.2.2.1) (ret := J.2.2.2.1) n hts (fun w hw => (List.mem_cons.mp hw).elim (fun e => e ▸ mz_good _ (mz_wm hm.1.1 rfl)) (mz_good w)) rfl rfl rfl (hts _ (mz_wm hm.1.2 rfl)) (hts _ (mz_wm hl rfl)) hm.2 ⟨Nat.le_of_ble_eq_true hR.1.1, Nat.le_of_ble_eq_true hR.1.2⟩, hts _ (mz_wm hs.1 rfl), hts _ (mz_wm hs.2 rfl)⟩ ⟨mz_blind, hrv, fun U hU hW => ⟨rfl, mz_preU C hP hD hS hU hW⟩⟩ rfl (by rw [List.length_map]; exact hn) hlv.1 rfl (lv_room (by rw [mz_sum_cat]; exact Nat.le_of_ble_eq_true hw)) hdg ⟨Nat.le_of_ble_eq_true hc.1, Nat.le_of_ble_eq_true hc.2⟩) hS (fun q _ h => hA1 q h) hA1 (fun H1 locs1 p1 d1 z1 k1 s1 => ?_)
  have e2 : (r1.1.map (mz_cv ad)).toList ++ rest.map (mz_cv ad) = (r1.1.toList ++ rest).map (mz_cv ad) := by
    rw [List.map_append]
    rcases r1 with ⟨_ | v, D1⟩ <;> rfl
  rw [e2]
  exact k p l e s m args below meth c G cA A ad ks C hr hlk H1 locs1 ls p1 (d1.weaken (fun k q _ h => hA1 q.1 h)) s1 hlv
set_option maxHeartbeats 2000000 in
theorem mz_Go.callSN {idx pk pi ps pl n : Nat} (hM : mz_Met J as D r1) (hm : mz_okm J pk pi ps n = true) (hs : mz_okS J ps = true) (hl : mz_okN I J idx pl = true) (hR : mz_okR I J = true) (hdg : decode I.2.1 pc = .ok (.invokestatic idx, 3)) (hn : as.length = n) (hw : Nat.ble (rest.map mz_cat).sum 8 = true) (hc : Nat.ble (nc + J.2.2.2.2.2.2.1) I.2.2.2.2.2.2.1 = true ∧ Nat.ble (ns + J.2.2.2.2.2.2.2) I.2.2.2.2.2.2.2 = true) {S : List mz_V} (hS0 : S = as.reverse ++ rest) (k : mz_Go I rs (nc + J.2.2.2.2.2.2.1) (ns + J.2.2.2.2.2.2.2) (pc + 3, L, r1.1.toList ++ rest, r1.2)) : mz_Go I rs nc ns (pc, L, S, D) := by
  subst hS0
  intro p l e s m args below meth c G cA A ad ks C hr hlk H locs ls hP hD hS hlv
  have hks := mz_kzJ hR C.2.2.2.1
  simp only [mz_okm, mz_okS, mz_okN, mz_okR, Bool.and_eq_true, decide_eq_true_eq] at hm hs hl hR
  obtain ⟨⟨hx, hb, hml, hown, hts⟩, hK, hA, hks0, hnw, hX⟩ := id C
  have hA1 := mz_A1 C hD hS
  have e1 : (as.reverse ++ rest).map (mz_cv ad) = (as.map (mz_cv ad)).reverse ++ rest.map (mz_cv ad) := by rw [List.map_append, List.map_reverse]
  rw [show ((pc, L, as.reverse ++ rest, D) : mz_S).2.2.1 = as.reverse ++ rest from rfl, e1]
  refine mz_callK (va_runSN (host := "LetMe") (As := as.map (mz_cv ad)) (rest := rest.map (mz_cv ad)) ⟨hx, hb, hml, hown, hts⟩ (hM l G cA ad ks H.size hks) ⟨va_cnB (bytes := J.2.1) (maxL := J.2.2.1) (ret := J.2.2.2.1) n hts (fun w hw => (List.mem_cons.mp hw).elim (fun e => e ▸ mz_good _ (mz_wm hm.1.1 rfl)) (mz_good w)) rfl rfl rfl (hnw _ (mz_nwm hl rfl)) (hts _ (mz_wm hm.1.2 rfl)) hm.2 ⟨Nat.le_of_ble_eq_true hR.1.1, Nat.le_of_ble_eq_true hR.1.2⟩, hts _ (mz_wm hs rfl), trivial⟩ ⟨mz_blind, fun U hU hW => ⟨rfl, mz_preU C hP hD hS hU hW⟩⟩ rfl (by rw [List.length_map]; exact hn) hlv.1 rfl (lv_room (by rw [mz_sum_cat]; exact Nat.le_of_ble_eq_true hw)) hdg ⟨Nat.le_of_ble_eq_true hc.1, Nat.le_of_ble_eq_true hc.2⟩) hS (fun q _ h => hA1 q h) hA1 (fun H1 locs1 p1 d1 z1 k1 s1 => ?_)
  have e2 : (r1.1.map (mz_cv ad)).toList ++ rest.map (mz_cv ad) = (r1.1.toList ++ rest).map (mz_cv ad) := by
    rw [List.map_append]
    rcases r1 with ⟨_ | v, D1⟩ <;> rfl
  rw [e2]
  exact k p l e s m args below meth c G cA A ad ks C hr hlk H1 locs1 ls p1 (d1.weaken (fun k q _ h => hA1 q.1 h)) s1 hlv
end CALL2
