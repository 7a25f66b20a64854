/-! ===== the two texts, and what else stands outside the worlds ===== -/
def mz_t0 : String := "person insists quick minds means guest couple dish by owes split heads eaten couples law turn owing dinner duel lend gift round with to when paid loop end stop "
def mz_t1 : String := " person couple dish owes split law insists quick minds means guest by heads eaten couples turn owing dinner duel lend gift round with to when loop end stop paid "
def mz_b0 : List Int32 := [112, 101, 114, 115, 111, 110, 32, 105, 110, 115, 105, 115, 116, 115, 32, 113, 117, 105, 99, 107, 32, 109, 105, 110, 100, 115, 32, 109, 101, 97, 110, 115, 32, 103, 117, 101, 115, 116, 32, 99, 111, 117, 112, 108, 101, 32, 100, 105, 115, 104, 32, 98, 121, 32, 111, 119, 101, 115, 32, 115, 112, 108, 105, 116, 32, 104, 101, 97, 100, 115, 32, 101, 97, 116, 101, 110, 32, 99, 111, 117, 112, 108, 101, 115, 32, 108, 97, 119, 32, 116, 117, 114, 110, 32, 111, 119, 105, 110, 103, 32, 100, 105, 110, 110, 101, 114, 32, 100, 117, 101, 108, 32, 108, 101, 110, 100, 32, 103, 105, 102, 116, 32, 114, 111, 117, 110, 100, 32, 119, 105, 116, 104, 32, 116, 111, 32, 119, 104, 101, 110, 32, 112, 97, 105, 100, 32, 108, 111, 111, 112, 32, 101, 110, 100, 32, 115, 116, 111, 112, 32]
def mz_b1 : List Int32 := [32, 112, 101, 114, 115, 111, 110, 32, 99, 111, 117, 112, 108, 101, 32, 100, 105, 115, 104, 32, 111, 119, 101, 115, 32, 115, 112, 108, 105, 116, 32, 108, 97, 119, 32, 105, 110, 115, 105, 115, 116, 115, 32, 113, 117, 105, 99, 107, 32, 109, 105, 110, 100, 115, 32, 109, 101, 97, 110, 115, 32, 103, 117, 101, 115, 116, 32, 98, 121, 32, 104, 101, 97, 100, 115, 32, 101, 97, 116, 101, 110, 32, 99, 111, 117, 112, 108, 101, 115, 32, 116, 117, 114, 110, 32, 111, 119, 105, 110, 103, 32, 100, 105, 110, 110, 101, 114, 32, 100, 117, 101, 108, 32, 108, 101, 110, 100, 32, 103, 105, 102, 116, 32, 114, 111, 117, 110, 100, 32, 119, 105, 116, 104, 32, 116, 111, 32, 119, 104, 101, 110, 32, 108, 111, 111, 112, 32, 101, 110, 100, 32, 115, 116, 111, 112, 32, 112, 97, 105, 100, 32]
def mz_X (ad : Nat → Nat → Nat) (A : Nat → Prop) (U : State) (H : Heap) : Prop :=
  vk_S 2 [160, 161] [mz_b0, mz_b1] (fun i => ad 0 (400 + i)) (fun i => ad 0 (410 + i)) A U H ∧ vk_R "LetMe$Reader" 19 mz_t0 (ad 0 400) U ∧ vk_R "LetMeModel" 168 mz_t1 (ad 0 401) U ∧ va_Z "java/lang/String" "COMPACT_STRINGS" "Z" (.int 1) A U H ∧ va_Zq "jdk/internal/util/Preconditions" "SIOOBE_FORMATTER" "Ljava/util/function/BiFunction;" A U H
theorem mz_X.kept {ad : Nat → Nat → Nat} {A : Nat → Prop} {U : State} {H H1 : Heap} (h : mz_X ad A U H) (hq : ∀ a : Nat, a < H.size → ¬ A a → H1[a]? = H[a]?) : mz_X ad A U H1 := ⟨h.1.kept hq, h.2.1, h.2.2.1, h.2.2.2.1.kept hq, h.2.2.2.2.kept hq⟩
theorem mz_X.narrow {ad : Nat → Nat → Nat} {A B : Nat → Prop} {U : State} {H : Heap} (h : mz_X ad A U H) (hAB : ∀ q, B q → A q) : mz_X ad B U H := ⟨h.1.narrow hAB, h.2.1, h.2.2.1, h.2.2.2.1.narrow hAB, h.2.2.2.2.narrow hAB⟩
theorem mz_X.warm {ad : Nat → Nat → Nat} {A : Nat → Prop} {s U : State} {H : Heap} (hW : s.WarmedH U.vm) (h : mz_X ad A s H) : mz_X ad A U H := ⟨vk_S.moved hW.alike h.1, vk_R.warm hW h.2.1, vk_R.warm hW h.2.2.1, va_Z.moved hW.alike h.2.2.2.1, va_Zq.moved hW.alike h.2.2.2.2⟩
theorem mz_X.same {ad : Nat → Nat → Nat} {A : Nat → Prop} {u U : State} {H : Heap} (hv : U.vm = u.vm) (h : mz_X ad A u H) : mz_X ad A U H := by
  have ha : u.vm.Alike U.vm := by rw [hv]; exact Vm.Alike.refl u.vm
  exact ⟨vk_S.moved ha h.1, vk_R.same hv h.2.1, vk_R.same hv h.2.2.1, va_Z.moved ha h.2.2.2.1, va_Zq.moved ha h.2.2.2.2⟩
/-! ===== the abstract machine is the machine ===== -/
/-- what a method's body stands on: code, words, classes, keys, words of nest mates -/
def mz_CX (p : Program) (s : State) (m : MethodId) (args : Array Value) (c : Code) (own : String) (cc : ByteArray) (nL : Nat) (G : va_G) (cA : Nat → ClassId) (A : Nat → Prop) (ad : Nat → Nat → Nat) (ks : List (Nat × Nat)) (md : Nat) : Prop :=
  CallFix p m c cc nL s args mz_w own ∧ va_K G vwCl (mz_tys cA) s ∧ (∀ q, s.heap.size ≤ q → A q) ∧ (∀ g o, mz_kz md g o = true → (g, o) ∈ ks) ∧ (∀ w ∈ mz_nw, va_Nw w s) ∧ mz_X ad A s s.heap
def mz_AW (p : Program) (l : Launch) (e : Env) (R : Room) (s : State) (m : MethodId) (args : Array Value) (below : List Frame) (meth : Method) (c : Code) (G : va_G) (cA : Nat → ClassId) (A : Nat → Prop) (ad : Nat → Nat → Nat) (ks : List (Nat × Nat)) (nL cells slots : Nat) (Q : State → Prop) (st : mz_S) : Prop :=
  ∀ (H : Heap) (locs : List Loc) (ls : Array Slot), va_P G vwCl (mz_wl cA ad ks st.2.2.2) H → va_D A (mz_wl cA ad ks st.2.2.2) → va_S A s.heap H locs → lv_has ls nL (mz_lm ad 0 st.2.1) → W p l e R s m args below meth c H locs cells slots Q (F0 m st.1 ls (st.2.2.1.map (mz_cv ad)))
section MZ
variable {p : Program} {l : Launch} {e : Env} {R : Room} {s : State} {m : MethodId} {args : Array Value} {below : List Frame} {meth : Method} {c : Code} {G : va_G} {cA : Nat → ClassId} {A : Nat → Prop} {ad : Nat → Nat → Nat} {ks : List (Nat × Nat)} {nL cells slots : Nat} {Q : State → Prop} {own : String} {cc : ByteArray} {md : Nat}
variable {np pc i : Nat} {L : mz_L} {S : List mz_V} {D : mz_D} {gs : List Bool} {st : mz_S}
theorem mz_key {g o : Nat} (C : mz_CX p s m args c own cc nL G cA A ad ks md) (h : mz_kz md g o = true) : ∃ q : Nat, ks[q]? = some (g, o) := List.getElem?_of_mem (C.2.2.2.1 g o h)
theorem mz_wi_ne {g o j : Nat} {v : Int32} {a b : Nat} (h : ¬ (a = g ∧ b = o)) : (mz_wi D g o j v).1 a b = D.1 a b := by
  funext k
  simp only [mz_wi]
  rw [if_neg (fun q => h ⟨q.2.1, q.1⟩)]
theorem mz_wg_ne {g o j : Nat} {v : Int64} {a b : Nat} (h : ¬ (a = g ∧ b = o)) : (mz_wg D g o j v).2 a b = D.2 a b := by
  funext k
  simp only [mz_wg]
  rw [if_neg (fun q => h ⟨q.2.1, q.1⟩)]
theorem mz_ce_ext {D D' : mz_D} {a b : Nat} (h1 : D'.1 a b = D.1 a b) (h2 : D'.2 a b = D.2 a b) : mz_ce cA ad D' a b = mz_ce cA ad D a b := by
  simp only [mz_ce, mz_fv, h1, h2]
theorem mz_wi_eq {g o j : Nat} {v : Int32} : (mz_wi D g o j v).1 g o = upd (D.1 g o) j v := by
  funext k
  simp only [mz_wi, upd, true_and]
theorem mz_wg_eq {g o j : Nat} {v : Int64} : (mz_wg D g o j v).2 g o = vp_updL (D.2 g o) j v := by
  funext k
  simp only [mz_wg, vp_updL, true_and]
theorem mz_fl_at {ci k g o : Nat} {q : vw_C} (h : vwCl[ci]? = some q) (hk : k < q.2.2) : ((List.range (mz_nf ci)).map fun k => mz_fv ad D g o (mz_ty ci k) k)[k]? = some (mz_fv ad D g o (mz_ty ci k) k) := by
  have hn : mz_nf ci = q.2.2 := by simp only [mz_nf, h]
  rw [hn]
  simp [hk]
theorem mz_fl_set {ci k g o : Nat} {D' : mz_D} {q : vw_C} (h : vwCl[ci]? = some q) (hk : k < q.2.2) (hne : ∀ j, j ≠ k → mz_fv ad D' g o (mz_ty ci j) j = mz_fv ad D g o (mz_ty ci j) j) : ((List.range (mz_nf ci)).map fun k => mz_fv ad D g o (mz_ty ci k) k).set k (mz_fv ad D' g o (mz_ty ci k) k) = (List.range (mz_nf ci)).map fun k => mz_fv ad D' g o (mz_ty ci k) k := by
  have hn : mz_nf ci = q.2.2 := by simp only [mz_nf, h]
  rw [hn]
  apply List.ext_getElem?
  intro j
  by_cases hj : k = j
  · subst hj
    rw [List.getElem?_set_self (by simpa using hk)]
    simp [hk]
  · rw [List.getElem?_set_ne hj]
    by_cases hl : j < q.2.2
    · simp [hl, hne j (fun e => hj e.symm)]
    · simp [hl]
theorem mz_s_ldi (C : mz_CX p s m args c own cc nL G cA A ad ks md) (h : mz_ldi np i L S D = some (gs, st)) (hd : ∀ ls : Array Slot, ∀ x : Int32, ls[i]? = some (.val (.int x)) → ∀ H locs, W p l e R s m args below meth c H locs cells slots Q (F0 m np ls (.int x :: S.map (mz_cv ad))) → W p l e R s m args below meth c H locs cells slots Q (F0 m pc ls (S.map (mz_cv ad)))) (k : mz_AW p l e R s m args below meth c G cA A ad ks nL cells slots Q st) : mz_AW p l e R s m args below meth c G cA A ad ks nL cells slots Q (pc, L, S, D) := by
  unfold mz_ldi at h
  split at h
  · next v hv =>
    cases h
    intro H locs ls hP hD hS hl
    exact hd ls v (mz_has_at hl hv) H locs (k H locs ls hP hD hS hl)
  · cases h
theorem mz_s_ldl (C : mz_CX p s m args c own cc nL G cA A ad ks md) (h : mz_ldl np i L S D = some (gs, st)) (hd : ∀ ls : Array Slot, ∀ x : Int64, ls[i]? = some (.val (.long x)) → ∀ H locs, W p l e R s m args below meth c H locs cells slots Q (F0 m np ls (.long x :: S.map (mz_cv ad))) → W p l e R s m args below meth c H locs cells slots Q (F0 m pc ls (S.map (mz_cv ad)))) (k : mz_AW p l e R s m args below meth c G cA A ad ks nL cells slots Q st) : mz_AW p l e R s m args below meth c G cA A ad ks nL cells slots Q (pc, L, S, D) := by
  unfold mz_ldl at h
  split at h
  · next v hv =>
    cases h
    intro H locs ls hP hD hS hl
    exact hd ls v (mz_has_at hl hv) H locs (k H locs ls hP hD hS hl)
  · cases h
theorem mz_s_lda (C : mz_CX p s m args c own cc nL G cA A ad ks md) (h : mz_lda np i L S D = some (gs, st)) (hd : ∀ ls : Array Slot, ∀ x : Nat, ls[i]? = some (.val (.ref x)) → ∀ H locs, W p l e R s m args below meth c H locs cells slots Q (F0 m np ls (.ref x :: S.map (mz_cv ad))) → W p l e R s m args below meth c H locs cells slots Q (F0 m pc ls (S.map (mz_cv ad)))) (k : mz_AW p l e R s m args below meth c G cA A ad ks nL cells slots Q st) : mz_AW p l e R s m args below meth c G cA A ad ks nL cells slots Q (pc, L, S, D) := by
  unfold mz_lda at h
  split at h
  · next v hv =>
    cases h
    intro H locs ls hP hD hS hl
    exact hd ls _ (mz_has_at hl hv) H locs (k H locs ls hP hD hS hl)
  · cases h
theorem mz_s_get (C : mz_CX p s m args c own cc nL G cA A ad ks md) {ci k idx pos : Nat} (hdg : decode cc pc = .ok (.getfield idx, 3)) (hok : mz_okf own idx ci k pos = true) (h : mz_getv md pc ci k L S D = some (gs, st)) (hg : mz_all gs) (kk : mz_AW p l e R s m args below meth c G cA A ad ks nL cells slots Q st) : mz_AW p l e R s m args below meth c G cA A ad ks nL cells slots Q (pc, L, S, D) := by
  unfold mz_okf at hok
  split at hok
  next q hq =>
    simp only [Bool.and_eq_true, decide_eq_true_eq] at hok
    obtain ⟨⟨hk, hcl⟩, hw⟩ := hok
    obtain ⟨⟨hx, hb, hml, hown, hts⟩, hK, hA, hks, hnw⟩ := id C
    have hlink := hts _ (mz_wm hw rfl)
    have key : ∀ (g o : Nat) (S' : List mz_V), mz_kz md g o = true → mz_sh o = (0, ci) → ∀ (H : Heap) (locs : List Loc) (ls : Array Slot), va_P G vwCl (mz_wl cA ad ks D) H → W p l e R s m args below meth c H locs cells slots Q (F0 m (pc + 3) ls (mz_fv ad D g o (mz_ty ci k) k :: S'.map (mz_cv ad))) → W p l e R s m args below meth c H locs cells slots Q (F0 m pc ls (.ref (ad g o) :: S'.map (mz_cv ad))) := by
      intro g o S' hz hsh H locs ls hP kw
      obtain ⟨q0, hq0⟩ := mz_key C hz
      have he := mz_wl_at (cA := cA) (ad := ad) (D := D) hq0
      simp only [mz_ce, hsh] at he
      exact va_get hx hb hts (mz_cls hq).1 hown hK hP q0 he hq k hk hlink (fun x h9 => by rw [hcl] at h9; exact h9) (mz_fl_at hq hk) hdg kw
    unfold mz_getv at h
    split at h
    · next g o S' =>
      split at h
      · next c0 hsh =>
        cases hcc : Nat.beq c0 ci with
        | false => rw [hcc] at h; cases h
        | true =>
          rw [hcc, cond_true] at h
          have hc0 : c0 = ci := Nat.eq_of_beq_eq_true hcc
          subst hc0
          intro H locs ls hP hD hS hl
          split at h
          · next ht =>
            cases h
            refine key g o S' hg.1 hsh H locs ls hP ?_
            rw [ht]
            exact kk H locs ls hP hD hS hl
          · next ht =>
            cases h
            refine key g o S' hg.1 hsh H locs ls hP ?_
            rw [ht]
            exact kk H locs ls hP hD hS hl
          · next t ht1 ht2 =>
            cases h
            refine key g o S' hg.1 hsh H locs ls hP ?_
            have e : mz_fv ad D g o (mz_ty c0 k) k = .int (D.1 g o k) := by
              unfold mz_fv
              split
              · next hh => exact absurd hh ht1
              · next hh => exact absurd hh ht2
              · rfl
            rw [e]
            exact kk H locs ls hP hD hS hl
      · cases h
    · cases h
  next => cases hok
theorem mz_s_put (C : mz_CX p s m args c own cc nL G cA A ad ks md) {ci k idx pos : Nat} (hdg : decode cc pc = .ok (.putfield idx, 3)) (hok : mz_okf own idx ci k pos = true) (hok2 : mz_okp ci k = true) (h : mz_putv md pc ci k L S D = some (gs, st)) (hg : mz_all gs) (kk : mz_AW p l e R s m args below meth c G cA A ad ks nL cells slots Q st) : mz_AW p l e R s m args below meth c G cA A ad ks nL cells slots Q (pc, L, S, D) := by
  unfold mz_okf at hok
  split at hok
  next q hq =>
    simp only [Bool.and_eq_true, decide_eq_true_eq] at hok
    obtain ⟨⟨hk, hcl⟩, hw⟩ := hok
    unfold mz_okp at hok2
    rw [hq] at hok2
    simp only [Bool.and_eq_true, decide_eq_true_eq] at hok2
    obtain ⟨hfin, hpd⟩ := hok2
    obtain ⟨⟨hx, hb, hml, hown, hts⟩, hK, hA, hks, hnw⟩ := id C
    have hlink := hts _ (mz_wm hw rfl)
    obtain ⟨ty0, hty⟩ := (mz_cls hq).2.1
    have key : ∀ (g o : Nat) (S' : List mz_V) (D' : mz_D), mz_kz md g o = true → mz_sh o = (0, ci) → narrow (mz_fty (mz_ty ci k)) (mz_fv ad D' g o (mz_ty ci k) k) = mz_fv ad D' g o (mz_ty ci k) k → fits (mz_fty (mz_ty ci k)) (mz_fv ad D' g o (mz_ty ci k) k) = true → (∀ a b, ¬ (a = g ∧ b = o) → mz_ce cA ad D' a b = mz_ce cA ad D a b) → (∀ j, j ≠ k → mz_fv ad D' g o (mz_ty ci j) j = mz_fv ad D g o (mz_ty ci j) j) → ∀ (H : Heap) (locs : List Loc) (ls : Array Slot), va_P G vwCl (mz_wl cA ad ks D) H → va_D A (mz_wl cA ad ks D) → va_S A s.heap H locs → (∀ (H1 : Heap) (locs1 : List Loc), va_P G vwCl (mz_wl cA ad ks D') H1 → va_D A (mz_wl cA ad ks D') → va_S A s.heap H1 locs1 → W p l e R s m args below meth c H1 locs1 cells slots Q (F0 m (pc + 3) ls (S'.map (mz_cv ad)))) → W p l e R s m args below meth c H locs cells slots Q (F0 m pc ls (mz_fv ad D' g o (mz_ty ci k) k :: .ref (ad g o) :: S'.map (mz_cv ad))) := by
      intro g o S' D' hz hsh hn hf hne hnf H locs ls hP hD hS kw
      obtain ⟨q0, hq0⟩ := mz_key C hz
      have he := mz_wl_at (cA := cA) (ad := ad) (D := D) hq0
      have he2 := he
      simp only [mz_ce, hsh] at he
      have hset : (mz_wl cA ad ks D).set q0 (ad g o, .inr (ci, ((List.range (mz_nf ci)).map fun k => mz_fv ad D g o (mz_ty ci k) k).set k (mz_fv ad D' g o (mz_ty ci k) k))) = mz_wl cA ad ks D' := by
        refine mz_wl_set hD hq0 ?_ hne
        simp only [mz_ce, hsh]
        rw [mz_fl_set hq hk hnf]
      refine va_put hx hb hts (mz_cls hq).1 ty0 hty (mz_cls hq).2.2 hown hK hP hD hS q0 he hq k hk hlink (fun x h9 => by rw [hcl] at h9; exact h9) hfin hpd hn hf (by
        have := mz_fl_at (ad := ad) (D := D) (g := g) (o := o) hq hk
        exact (List.getElem?_eq_some_iff.mp this).1) hdg (fun H1 locs1 p1 d1 s1 => ?_)
      rw [hset] at p1 d1
      exact kw H1 locs1 p1 d1 s1
    have hcI : ∀ (g o : Nat) (v : Int32) (t : Nat), t ≠ 1 → t ≠ 2 → mz_fv ad (mz_wi D g o k v) g o t k = .int v := by
      intro g o v t h1 h2
      unfold mz_fv
      split
      · exact absurd rfl h1
      · exact absurd rfl h2
      · simp [mz_wi]
    have hnI : ∀ (g o : Nat) (v : Int32) (j : Nat), j ≠ k → mz_fv ad (mz_wi D g o k v) g o (mz_ty ci j) j = mz_fv ad D g o (mz_ty ci j) j := by
      intro g o v j hj
      unfold mz_fv
      split <;> simp [mz_wi, hj]
    unfold mz_putv at h
    split at h
    · next v g o S' =>
      split at h
      · next c0 hsh =>
        cases hcc : Nat.beq c0 ci with
        | false => rw [hcc] at h; cases h
        | true =>
          rw [hcc, cond_true] at h
          have hc0 : c0 = ci := Nat.eq_of_beq_eq_true hcc
          subst hc0
          intro H locs ls hP hD hS hl
          split at h
          · next ht =>
            cases h
            have h2 := key g o S' (mz_wi D g o k v) hg.1 hsh (by rw [ht]; rfl) (by rw [ht]; rfl) (fun a b hab => mz_ce_ext (mz_wi_ne hab) rfl) (hnI g o v) H locs ls hP hD hS (fun H1 locs1 p1 d1 s1 => kk H1 locs1 ls p1 d1 s1 hl)
            rw [hcI g o v _ (by rw [ht]; decide) (by rw [ht]; decide)] at h2
            exact h2
          · next ht =>
            cases h
            have hbo : v = 0 ∨ v = 1 := by simpa [mz_bo] using hg.2.1
            have e3 : mz_fv ad (mz_wi D g o k v) g o (mz_ty c0 k) k = .int v := hcI g o v _ (by rw [ht]; decide) (by rw [ht]; decide)
            have h2 := key g o S' (mz_wi D g o k v) hg.1 hsh (by rw [e3, ht]; rcases hbo with rfl | rfl <;> rfl) (by rw [e3, ht]; rcases hbo with rfl | rfl <;> rfl) (fun a b hab => mz_ce_ext (mz_wi_ne hab) rfl) (hnI g o v) H locs ls hP hD hS (fun H1 locs1 p1 d1 s1 => kk H1 locs1 ls p1 d1 s1 hl)
            rw [e3] at h2
            exact h2
          · cases h
      · cases h
    · next v g o S' =>
      split at h
      · next c0 hsh =>
        cases hcc : Nat.beq c0 ci with
        | false => rw [hcc] at h; cases h
        | true =>
          rw [hcc, cond_true] at h
          have hc0 : c0 = ci := Nat.eq_of_beq_eq_true hcc
          subst hc0
          intro H locs ls hP hD hS hl
          split at h
          · next ht =>
            cases h
            have e3 : mz_fv ad (mz_wg D g o k v) g o (mz_ty c0 k) k = .long v := by rw [ht]; simp [mz_fv, mz_wg]
            have h2 := key g o S' (mz_wg D g o k v) hg.1 hsh (by rw [e3, ht]; rfl) (by rw [e3, ht]; rfl) (fun a b hab => mz_ce_ext rfl (mz_wg_ne hab)) (fun j hj => by unfold mz_fv; split <;> simp [mz_wg, hj]) H locs ls hP hD hS (fun H1 locs1 p1 d1 s1 => kk H1 locs1 ls p1 d1 s1 hl)
            rw [e3] at h2
            exact h2
          · cases h
      · cases h
    · cases h
  next => cases hok
end MZ
