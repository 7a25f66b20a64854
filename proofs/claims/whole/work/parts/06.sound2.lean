section MZ6
variable {p : Program} {l : Launch} {e : Env} {R : Room} {s : State} {m : MethodId} {args : Array Value} {below : List Frame} {meth : Method} {c : Code} {G : va_G} {cA : Nat → ClassId} {A : Nat → Prop} {ad : Nat → Nat → Nat} {ks : List (Nat × Nat)} {nL cells slots : Nat} {Q : State → Prop} {own : String} {cc : ByteArray} {md : Nat}
variable {np pc i : Nat} {L : mz_L} {S : List mz_V} {D : mz_D} {gs : List Bool} {st : mz_S}
theorem mz_s_ald (C : mz_CX p s m args c own cc nL G cA A ad ks md) {t : Nat} {ins : Instr} (hi : (t = 1 ∧ ins = .iaload) ∨ (t = 2 ∧ ins = .baload) ∨ (t = 3 ∧ ins = .laload) ∨ (t = 4 ∧ ins = .aaload)) (hdg : decode cc pc = .ok (ins, 1)) (h : mz_ald md pc t L S D = some (gs, st)) (hg : mz_all gs) (kk : mz_AW p l e R s m args below meth c G cA A ad ks nL cells slots Q st) : mz_AW p l e R s m args below meth c G cA A ad ks nL cells slots Q (pc, L, S, D) := by
  obtain ⟨⟨hx, hb, hml, hown, hts⟩, hK, hA, hks, hnw⟩ := id C
  unfold mz_ald at h
  split at h
  · next iv g o S' =>
    split at h
    next c0 n hsh =>
    cases hcc : Nat.beq c0 t with
    | false => rw [hcc] at h; cases h
    | true =>
      rw [hcc, cond_true] at h
      have hc0 : c0 = t := Nat.eq_of_beq_eq_true hcc
      subst hc0
      intro H locs ls hP hD hS hl
      split at h
      · rcases hi with ⟨-, rfl⟩ | ⟨h9, -⟩ | ⟨h9, -⟩ | ⟨h9, -⟩
        · cases h
          obtain ⟨q0, hq0⟩ := mz_key C hg.1
          have he := mz_wl_at (cA := cA) (ad := ad) (D := D) hq0
          simp only [mz_ce, hsh] at he
          exact va_iald hx hb hK hP q0 0 he rfl (mz_ix_in hg.2.1) hdg (kk H locs ls hP hD hS hl)
        all_goals cases h9
      · rcases hi with ⟨h9, -⟩ | ⟨-, rfl⟩ | ⟨h9, -⟩ | ⟨h9, -⟩
        · cases h9
        · cases h
          obtain ⟨q0, hq0⟩ := mz_key C hg.1
          have he := mz_wl_at (cA := cA) (ad := ad) (D := D) hq0
          simp only [mz_ce, hsh] at he
          exact va_bald hx hb hK hP q0 1 he rfl (mz_ix_in hg.2.1) hdg (kk H locs ls hP hD hS hl)
        all_goals cases h9
      · rcases hi with ⟨h9, -⟩ | ⟨h9, -⟩ | ⟨-, rfl⟩ | ⟨h9, -⟩
        · cases h9
        · cases h9
        · cases h
          obtain ⟨q0, hq0⟩ := mz_key C hg.1
          have he := mz_wl_at (cA := cA) (ad := ad) (D := D) hq0
          simp only [mz_ce, hsh] at he
          exact va_lald hx hb hK hP q0 2 he rfl (mz_ix_in hg.2.1) hdg (kk H locs ls hP hD hS hl)
        · cases h9
      · rcases hi with ⟨h9, -⟩ | ⟨h9, -⟩ | ⟨h9, -⟩ | ⟨-, rfl⟩
        · cases h9
        · cases h9
        · cases h9
        · cases h
          obtain ⟨q0, hq0⟩ := mz_key C hg.1
          have he := mz_wl_at (cA := cA) (ad := ad) (D := D) hq0
          simp only [mz_ce, hsh] at he
          exact va_aldq hx hb hK hP q0 3 he rfl (mz_ix_in hg.2.1) hdg (kk H locs ls hP hD hS hl)
      · cases h
  · cases h
theorem mz_s_ast (C : mz_CX p s m args c own cc nL G cA A ad ks md) {t : Nat} {ins : Instr} (hi : (t = 1 ∧ ins = .iastore) ∨ (t = 2 ∧ ins = .bastore) ∨ (t = 3 ∧ ins = .lastore)) (hdg : decode cc pc = .ok (ins, 1)) (h : mz_ast md pc t L S D = some (gs, st)) (hg : mz_all gs) (kk : mz_AW p l e R s m args below meth c G cA A ad ks nL cells slots Q st) : mz_AW p l e R s m args below meth c G cA A ad ks nL cells slots Q (pc, L, S, D) := by
  obtain ⟨⟨hx, hb, hml, hown, hts⟩, hK, hA, hks, hnw⟩ := id C
  unfold mz_ast at h
  split at h
  · next v iv g o S' =>
    split at h
    next c0 n hsh =>
    cases hcc : Nat.beq c0 t with
    | false => rw [hcc] at h; cases h
    | true =>
      rw [hcc, cond_true] at h
      have hc0 : c0 = t := Nat.eq_of_beq_eq_true hcc
      subst hc0
      intro H locs ls hP hD hS hl
      split at h
      · rcases hi with ⟨-, rfl⟩ | ⟨h9, -⟩ | ⟨h9, -⟩
        · cases h
          obtain ⟨q0, hq0⟩ := mz_key C hg.1
          have he := mz_wl_at (cA := cA) (ad := ad) (D := D) hq0
          simp only [mz_ce, hsh] at he
          refine va_iast hx hb hK hP hD hS q0 0 he rfl (mz_ix_in hg.2.1) hdg (fun H1 locs1 p1 d1 s1 => ?_)
          have hset : (mz_wl cA ad ks D).set q0 (ad g o, .inl (cA 0, n, .inl (upd (D.1 g o) iv.toNatClampNeg v))) = mz_wl cA ad ks (mz_wi D g o iv.toNatClampNeg v) := mz_wl_set hD hq0 (by simp only [mz_ce, hsh, mz_wi_eq]) (fun a b hab => mz_ce_ext (mz_wi_ne hab) rfl)
          rw [hset] at p1 d1
          exact kk H1 locs1 ls p1 d1 s1 hl
        all_goals cases h9
      · rcases hi with ⟨h9, -⟩ | ⟨-, rfl⟩ | ⟨h9, -⟩
        · cases h9
        · cases h
          obtain ⟨q0, hq0⟩ := mz_key C hg.1
          have he := mz_wl_at (cA := cA) (ad := ad) (D := D) hq0
          simp only [mz_ce, hsh] at he
          refine va_bast hx hb hK hP hD hS q0 1 he rfl (mz_ix_in hg.2.1) hdg (fun H1 locs1 p1 d1 s1 => ?_)
          rw [vp_nar_byte] at p1 d1
          have hset : (mz_wl cA ad ks D).set q0 (ad g o, .inl (cA 1, n, .inl (upd (D.1 g o) iv.toNatClampNeg v.toInt8.toInt32))) = mz_wl cA ad ks (mz_wi D g o iv.toNatClampNeg v.toInt8.toInt32) := mz_wl_set hD hq0 (by simp only [mz_ce, hsh, mz_wi_eq]) (fun a b hab => mz_ce_ext (mz_wi_ne hab) rfl)
          rw [hset] at p1 d1
          exact kk H1 locs1 ls p1 d1 s1 hl
        · cases h9
      · cases h
  · next v iv g o S' =>
    split at h
    next c0 n hsh =>
    cases hcc : Nat.beq c0 t with
    | false => rw [hcc] at h; cases h
    | true =>
      rw [hcc, cond_true] at h
      have hc0 : c0 = t := Nat.eq_of_beq_eq_true hcc
      subst hc0
      intro H locs ls hP hD hS hl
      split at h
      · rcases hi with ⟨h9, -⟩ | ⟨h9, -⟩ | ⟨-, rfl⟩
        · cases h9
        · cases h9
        · cases h
          obtain ⟨q0, hq0⟩ := mz_key C hg.1
          have he := mz_wl_at (cA := cA) (ad := ad) (D := D) hq0
          simp only [mz_ce, hsh] at he
          refine va_last hx hb hK hP hD hS q0 2 he rfl (mz_ix_in hg.2.1) hdg (fun H1 locs1 p1 d1 s1 => ?_)
          have hset : (mz_wl cA ad ks D).set q0 (ad g o, .inl (cA 2, n, .inr (.inl (vp_updL (D.2 g o) iv.toNatClampNeg v)))) = mz_wl cA ad ks (mz_wg D g o iv.toNatClampNeg v) := mz_wl_set hD hq0 (by simp only [mz_ce, hsh, mz_wg_eq]) (fun a b hab => mz_ce_ext rfl (mz_wg_ne hab))
          rw [hset] at p1 d1
          exact kk H1 locs1 ls p1 d1 s1 hl
      · cases h
  · cases h
theorem mz_s_alen (C : mz_CX p s m args c own cc nL G cA A ad ks md) (hdg : decode cc pc = .ok (.arraylength, 1)) (h : mz_alen md pc L S D = some (gs, st)) (hg : mz_all gs) (kk : mz_AW p l e R s m args below meth c G cA A ad ks nL cells slots Q st) : mz_AW p l e R s m args below meth c G cA A ad ks nL cells slots Q (pc, L, S, D) := by
  obtain ⟨⟨hx, hb, hml, hown, hts⟩, hK, hA, hks, hnw⟩ := id C
  unfold mz_alen at h
  split at h
  · next g o S' =>
    split at h
    · cases h
    · next t n hsh ht =>
      cases h
      intro H locs ls hP hD hS hl
      obtain ⟨q0, hq0⟩ := mz_key C hg.1
      have he := mz_wl_at (cA := cA) (ad := ad) (D := D) hq0
      unfold mz_ce at he
      rw [ht] at he
      split at he
      · next ci he9 => cases he9; exact (hsh rfl).elim
      · next n2 he9 => cases he9; exact va_alen hx hb hK hP q0 0 he (ty := .int) rfl rfl hdg (kk H locs ls hP hD hS hl)
      · next n2 he9 => cases he9; exact va_alen hx hb hK hP q0 1 he (ty := .byte) rfl rfl hdg (kk H locs ls hP hD hS hl)
      · next n2 he9 => cases he9; exact va_alen hx hb hK hP q0 2 he (ty := .long) rfl rfl hdg (kk H locs ls hP hD hS hl)
      · next n2 he9 => cases he9; exact va_alen hx hb hK hP q0 3 he (ty := .object "LetMe$Table") rfl rfl hdg (kk H locs ls hP hD hS hl)
  · cases h
theorem mz_s_ite {P : Prop} [hP : Decidable P] {a b : mz_S} (k : mz_AW p l e R s m args below meth c G cA A ad ks nL cells slots Q (if P then a else b)) : (P → mz_AW p l e R s m args below meth c G cA A ad ks nL cells slots Q a) ∧ (¬ P → mz_AW p l e R s m args below meth c G cA A ad ks nL cells slots Q b) :=
  ⟨fun h => by rw [if_pos h] at k; exact k, fun h => by rw [if_neg h] at k; exact k⟩
set_option maxHeartbeats 4000000 in
theorem mz_s_ex (C : mz_CX p s m args c own cc nL G cA A ad ks md) {ins : Instr} {x y pos : Nat} {v : Int32} {w : Int64} (hdg : decode cc pc = .ok (ins, mz_len ins)) (hok : mz_okI own nL pc ins x y pos v w = true) (h : mz_ex md pc ins x y v w L S D = some (gs, st)) (hg : mz_all gs) (kk : mz_AW p l e R s m args below meth c G cA A ad ks nL cells slots Q st) : mz_AW p l e R s m args below meth c G cA A ad ks nL cells slots Q (pc, L, S, D) := by
  obtain ⟨⟨hx, hb, hml, hown, hts⟩, hK, hA, hks, hnw⟩ := id C
  unfold mz_ex at h
  split at h
  · exact mz_s_ldi C h (fun ls x hl H locs k => lv_iload hx hb hdg hl k) kk
  · exact mz_s_ldi C h (fun ls x hl H locs k => lv_iload_n hx hb hdg rfl hl k) kk
  · exact mz_s_ldl C h (fun ls x hl H locs k => lv_lload hx hb hdg hl k) kk
  · exact mz_s_ldl C h (fun ls x hl H locs k => lv_lload_n hx hb hdg rfl hl k) kk
  · exact mz_s_lda C h (fun ls x hl H locs k => lv_aload hx hb hdg hl k) kk
  · exact mz_s_lda C h (fun ls x hl H locs k => lv_aload_n hx hb hdg rfl hl k) kk
  · unfold mz_sti at h
    split at h <;> cases h
    intro H locs ls hP hD hS hl
    exact lv_istore hx hb hdg hl (of_decide_eq_true hok) rfl (fun ls' hl' => kk H locs ls' hP hD hS (mz_has_mono hl' mz_st1_sub))
  · unfold mz_sti at h
    split at h <;> cases h
    intro H locs ls hP hD hS hl
    exact lv_istore_n hx hb hdg rfl hl (of_decide_eq_true hok) rfl (fun ls' hl' => kk H locs ls' hP hD hS (mz_has_mono hl' mz_st1_sub))
  · unfold mz_stl at h
    split at h <;> cases h
    intro H locs ls hP hD hS hl
    exact lv_lstore hx hb hdg hl (of_decide_eq_true hok) rfl (fun ls' hl' => kk H locs ls' hP hD hS (mz_has_mono hl' mz_st2_sub))
  · unfold mz_stl at h
    split at h <;> cases h
    intro H locs ls hP hD hS hl
    exact lv_lstore_n hx hb hdg rfl hl (of_decide_eq_true hok) rfl (fun ls' hl' => kk H locs ls' hP hD hS (mz_has_mono hl' mz_st2_sub))
  · unfold mz_sta at h
    split at h <;> cases h
    intro H locs ls hP hD hS hl
    exact lv_astore hx hb hdg hl (of_decide_eq_true hok) rfl (fun ls' hl' => kk H locs ls' hP hD hS (mz_has_mono hl' mz_st1_sub))
  · unfold mz_sta at h
    split at h <;> cases h
    intro H locs ls hP hD hS hl
    exact lv_astore_n hx hb hdg rfl hl (of_decide_eq_true hok) rfl (fun ls' hl' => kk H locs ls' hP hD hS (mz_has_mono hl' mz_st1_sub))
  · split at h
    · next v hv =>
      cases h
      intro H locs ls hP hD hS hl
      obtain ⟨k, hk⟩ := List.getElem?_of_mem (mz_lm_iff.mpr ⟨_, _, hv, rfl⟩ : (_, mz_cv ad (.inl v)) ∈ mz_lm ad 0 L)
      rw [Nat.zero_add] at hk
      simp only [mz_okI, Bool.and_eq_true, decide_eq_true_eq] at hok
      exact lv_iinc hx hb hdg hl hk (by rw [hok.2]) hok.1 rfl (fun ls' hl' => kk H locs ls' hP hD hS (mz_has_mono hl' mz_st1_sub))
    · cases h
  · cases h
    intro H locs ls hP hD hS hl
    exact lv_iconst hx hb hdg (of_decide_eq_true hok) (kk H locs ls hP hD hS hl)
  · cases h
    intro H locs ls hP hD hS hl
    exact lv_bipush hx hb hdg (of_decide_eq_true hok) (kk H locs ls hP hD hS hl)
  · cases h
    intro H locs ls hP hD hS hl
    exact lv_sipush hx hb hdg (of_decide_eq_true hok) (kk H locs ls hP hD hS hl)
  · cases h
    intro H locs ls hP hD hS hl
    exact lv_lconst hx hb hdg (of_decide_eq_true hok) (kk H locs ls hP hD hS hl)
  · cases h
    intro H locs ls hP hD hS hl
    exact lv_ldc hx hb hown (hts _ (mz_wm (of_decide_eq_true hok) rfl)) hdg (kk H locs ls hP hD hS hl)
  · cases h
    intro H locs ls hP hD hS hl
    exact lv_ldcw hx hb hown (hts _ (mz_wm (of_decide_eq_true hok) rfl)) hdg (kk H locs ls hP hD hS hl)
  · cases h
    intro H locs ls hP hD hS hl
    exact lv_ldc2 hx hb hown (hts _ (mz_wm (of_decide_eq_true hok) rfl)) hdg (kk H locs ls hP hD hS hl)
  · unfold mz_i2 at h
    split at h <;> cases h
    intro H locs ls hP hD hS hl
    exact lv_iadd hx hb hdg (kk H locs ls hP hD hS hl)
  · unfold mz_i2 at h
    split at h <;> cases h
    intro H locs ls hP hD hS hl
    exact lv_isub hx hb hdg (kk H locs ls hP hD hS hl)
  · unfold mz_i2 at h
    split at h <;> cases h
    intro H locs ls hP hD hS hl
    exact lv_imul hx hb hdg (kk H locs ls hP hD hS hl)
  · unfold mz_i2 at h
    split at h <;> cases h
    intro H locs ls hP hD hS hl
    exact lv_iand hx hb hdg (kk H locs ls hP hD hS hl)
  · unfold mz_i2 at h
    split at h <;> cases h
    intro H locs ls hP hD hS hl
    exact lv_ior hx hb hdg (kk H locs ls hP hD hS hl)
  · unfold mz_i2 at h
    split at h <;> cases h
    intro H locs ls hP hD hS hl
    exact lv_ixor hx hb hdg (kk H locs ls hP hD hS hl)
  · unfold mz_i2 at h
    split at h <;> cases h
    intro H locs ls hP hD hS hl
    exact lv_ishl hx hb hdg (kk H locs ls hP hD hS hl)
  · unfold mz_i2 at h
    split at h <;> cases h
    intro H locs ls hP hD hS hl
    exact lv_ishr hx hb hdg (kk H locs ls hP hD hS hl)
  · unfold mz_i2 at h
    split at h <;> cases h
    intro H locs ls hP hD hS hl
    exact lv_iushr hx hb hdg rfl (kk H locs ls hP hD hS hl)
  · split at h <;> cases h
    intro H locs ls hP hD hS hl
    exact lv_idiv hx hb hdg (by simpa [mz_nz] using hg.1) (kk H locs ls hP hD hS hl)
  · split at h <;> cases h
    intro H locs ls hP hD hS hl
    exact lv_irem hx hb hdg (by simpa [mz_nz] using hg.1) (kk H locs ls hP hD hS hl)
  · unfold mz_i1 at h
    split at h <;> cases h
    intro H locs ls hP hD hS hl
    exact lv_ineg hx hb hdg (kk H locs ls hP hD hS hl)
  · unfold mz_i1 at h
    split at h <;> cases h
    intro H locs ls hP hD hS hl
    exact lv_i2b hx hb hdg rfl (kk H locs ls hP hD hS hl)
  · unfold mz_i1 at h
    split at h <;> cases h
    intro H locs ls hP hD hS hl
    exact lv_i2s hx hb hdg rfl (kk H locs ls hP hD hS hl)
  · unfold mz_l2 at h
    split at h <;> cases h
    intro H locs ls hP hD hS hl
    exact lv_ladd hx hb hdg (kk H locs ls hP hD hS hl)
  · unfold mz_l2 at h
    split at h <;> cases h
    intro H locs ls hP hD hS hl
    exact lv_lsub hx hb hdg (kk H locs ls hP hD hS hl)
  · unfold mz_l2 at h
    split at h <;> cases h
    intro H locs ls hP hD hS hl
    exact lv_lmul hx hb hdg (kk H locs ls hP hD hS hl)
  · unfold mz_l2 at h
    split at h <;> cases h
    intro H locs ls hP hD hS hl
    exact lv_lor hx hb hdg (kk H locs ls hP hD hS hl)
  · split at h <;> cases h
    intro H locs ls hP hD hS hl
    exact lv_ldiv hx hb hdg (by simpa [mz_nzl] using hg.1) (kk H locs ls hP hD hS hl)
  · split at h <;> cases h
    intro H locs ls hP hD hS hl
    exact lv_lrem hx hb hdg (by simpa [mz_nzl] using hg.1) (kk H locs ls hP hD hS hl)
  · split at h <;> cases h
    intro H locs ls hP hD hS hl
    exact lv_lneg hx hb hdg (kk H locs ls hP hD hS hl)
  · split at h <;> cases h
    intro H locs ls hP hD hS hl
    exact lv_lshl hx hb hdg rfl (kk H locs ls hP hD hS hl)
  · split at h <;> cases h
    intro H locs ls hP hD hS hl
    exact lv_i2l hx hb hdg rfl (kk H locs ls hP hD hS hl)
  · split at h <;> cases h
    intro H locs ls hP hD hS hl
    exact lv_l2i hx hb hdg rfl (kk H locs ls hP hD hS hl)
  · split at h <;> cases h
    intro H locs ls hP hD hS hl
    exact W.lcmp hx hb hdg (kk H locs ls hP hD hS hl)
  · split at h
    · cases h
    · next v S' hv =>
      cases h
      intro H locs ls hP hD hS hl
      refine lv_dup hx hb hdg ?_ (kk H locs ls hP hD hS hl)
      rcases v with v | v | (_ | v)
      · rfl
      · exact (hv v rfl).elim
      · rfl
      · rfl
    · cases h
  · split at h
    · cases h
    · next v S' hv =>
      cases h
      intro H locs ls hP hD hS hl
      refine lv_pop hx hb hdg ?_ (kk H locs ls hP hD hS hl)
      rcases v with v | v | (_ | v)
      · rfl
      · exact (hv v rfl).elim
      · rfl
      · rfl
    · cases h
  · split at h <;> cases h
    intro H locs ls hP hD hS hl
    next v k S' => exact lv_dup_x1 hx hb hdg rfl (by rcases k with _ | k <;> rfl) (kk H locs ls hP hD hS hl)
  · split at h <;> cases h
    intro H locs ls hP hD hS hl
    next v k S' => exact lv_dup2_11 hx hb hdg rfl (by rcases k with _ | k <;> rfl) (kk H locs ls hP hD hS hl)
  · cases h
    intro H locs ls hP hD hS hl
    exact lv_goto hx hb hdg (of_decide_eq_true hok) (kk H locs ls hP hD hS hl)
  · split at h <;> cases h
    intro H locs ls hP hD hS hl
    exact lv_if_eq hx hb hdg (of_decide_eq_true hok) (fun q => (mz_s_ite kk).1 q H locs ls hP hD hS hl) (fun q => (mz_s_ite kk).2 q H locs ls hP hD hS hl)
  · split at h <;> cases h
    intro H locs ls hP hD hS hl
    exact lv_if_ne hx hb hdg (of_decide_eq_true hok) (fun q => (mz_s_ite kk).2 q H locs ls hP hD hS hl) (fun q => (mz_s_ite kk).1 q H locs ls hP hD hS hl)
  · split at h <;> cases h
    intro H locs ls hP hD hS hl
    exact lv_if_lt hx hb hdg (of_decide_eq_true hok) (fun q => (mz_s_ite kk).1 q H locs ls hP hD hS hl) (fun q => (mz_s_ite kk).2 q H locs ls hP hD hS hl)
  · split at h <;> cases h
    intro H locs ls hP hD hS hl
    exact lv_if_ge hx hb hdg (of_decide_eq_true hok) (fun q => (mz_s_ite kk).1 q H locs ls hP hD hS hl) (fun q => (mz_s_ite kk).2 q H locs ls hP hD hS hl)
  · split at h <;> cases h
    intro H locs ls hP hD hS hl
    exact lv_if_gt hx hb hdg (of_decide_eq_true hok) (fun q => (mz_s_ite kk).1 q H locs ls hP hD hS hl) (fun q => (mz_s_ite kk).2 q H locs ls hP hD hS hl)
  · split at h <;> cases h
    intro H locs ls hP hD hS hl
    exact lv_if_le hx hb hdg (of_decide_eq_true hok) (fun q => (mz_s_ite kk).1 q H locs ls hP hD hS hl) (fun q => (mz_s_ite kk).2 q H locs ls hP hD hS hl)
  · split at h <;> cases h
    intro H locs ls hP hD hS hl
    exact lv_icmp_eq hx hb hdg (of_decide_eq_true hok) (fun q => (mz_s_ite kk).1 q H locs ls hP hD hS hl) (fun q => (mz_s_ite kk).2 q H locs ls hP hD hS hl)
  · split at h <;> cases h
    intro H locs ls hP hD hS hl
    exact lv_icmp_ne hx hb hdg (of_decide_eq_true hok) (fun q => (mz_s_ite kk).2 q H locs ls hP hD hS hl) (fun q => (mz_s_ite kk).1 q H locs ls hP hD hS hl)
  · split at h <;> cases h
    intro H locs ls hP hD hS hl
    exact lv_icmp_lt hx hb hdg (of_decide_eq_true hok) (fun q => (mz_s_ite kk).1 q H locs ls hP hD hS hl) (fun q => (mz_s_ite kk).2 q H locs ls hP hD hS hl)
  · split at h <;> cases h
    intro H locs ls hP hD hS hl
    exact lv_icmp_ge hx hb hdg (of_decide_eq_true hok) (fun q => (mz_s_ite kk).1 q H locs ls hP hD hS hl) (fun q => (mz_s_ite kk).2 q H locs ls hP hD hS hl)
  · split at h <;> cases h
    intro H locs ls hP hD hS hl
    exact lv_icmp_gt hx hb hdg (of_decide_eq_true hok) (fun q => (mz_s_ite kk).1 q H locs ls hP hD hS hl) (fun q => (mz_s_ite kk).2 q H locs ls hP hD hS hl)
  · split at h <;> cases h
    intro H locs ls hP hD hS hl
    exact lv_icmp_le hx hb hdg (of_decide_eq_true hok) (fun q => (mz_s_ite kk).1 q H locs ls hP hD hS hl) (fun q => (mz_s_ite kk).2 q H locs ls hP hD hS hl)
  · exact mz_s_get C hdg hok h hg kk
  · simp only [mz_okI, Bool.and_eq_true] at hok
    exact mz_s_put C hdg hok.1 hok.2 h hg kk
  · exact mz_s_ald C (Or.inl ⟨rfl, rfl⟩) hdg h hg kk
  · exact mz_s_ald C (Or.inr (Or.inl ⟨rfl, rfl⟩)) hdg h hg kk
  · exact mz_s_ald C (Or.inr (Or.inr (Or.inl ⟨rfl, rfl⟩))) hdg h hg kk
  · exact mz_s_ald C (Or.inr (Or.inr (Or.inr ⟨rfl, rfl⟩))) hdg h hg kk
  · exact mz_s_ast C (Or.inl ⟨rfl, rfl⟩) hdg h hg kk
  · exact mz_s_ast C (Or.inr (Or.inl ⟨rfl, rfl⟩)) hdg h hg kk
  · exact mz_s_ast C (Or.inr (Or.inr ⟨rfl, rfl⟩)) hdg h hg kk
  · exact mz_s_alen C hdg h hg kk
  · cases h
theorem mz_s_run (C : mz_CX p s m args c own cc nL G cA A ad ks md) : ∀ (es : List mz_E) (st st' : mz_S) (gs : List Bool), es.all (mz_ok own cc nL) = true → mz_run md es st = some (gs, st') → mz_all gs → mz_AW p l e R s m args below meth c G cA A ad ks nL cells slots Q st' → mz_AW p l e R s m args below meth c G cA A ad ks nL cells slots Q st := by
  intro es
  induction es with
  | nil =>
    intro st st' gs _ h _ k
    simp only [mz_run, Option.some.injEq, Prod.mk.injEq] at h
    rw [h.2]
    exact k
  | cons e es ih =>
    intro st st' gs hok h hg k
    simp only [List.all_cons, Bool.and_eq_true] at hok
    rw [mz_run] at h
    split at h
    · cases h
    · next b st1 h1 =>
      split at h
      · cases h
      · next b2 st2 h2 =>
        cases h
        have k1 := ih st1 st' b2 hok.2 h2 (mz_all_app hg).2 k
        unfold mz_step at h1
        cases hpc : Nat.beq st.1 e.1 with
        | false => rw [hpc] at h1; cases h1
        | true =>
          rw [hpc, cond_true] at h1
          have hpe : st.1 = e.1 := Nat.eq_of_beq_eq_true hpc
          have h0 := hok.1
          simp only [mz_ok, Bool.and_eq_true, decide_eq_true_eq] at h0
          obtain ⟨pc, L, S, D⟩ := st
          simp only at hpe
          subst hpe
          exact mz_s_ex C h0.1 h0.2 h1 (mz_all_app hg).1 k1
end MZ6
