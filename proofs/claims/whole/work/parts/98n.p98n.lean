/-! ===== texts: the fields of a step ===== -/
def aQ (S : Nat) (C C' : mz_D) : Prop := ∀ g o j, ¬ ((g = 0 ∧ o = 2 ∧ j ≠ 4) ∨ (g = 2 ∧ 121 ≤ o ∧ o ≤ 125 ∧ j = S)) → C'.1 g o j = C.1 g o j ∧ C'.2 g o j = C.2 g o j
def aP (r : Nat) (M M' : mz_D) : Prop := ∀ g o j, ¬ (g = 0 ∧ ((o = 200 ∧ ((12 ≤ j ∧ j ≤ 15) ∨ j = 17 ∨ j = 18)) ∨ (o = 201 ∧ r ≤ j ∧ j ≤ r + 5 ∧ j ≠ r + 4))) → M'.1 g o j = M.1 g o j ∧ M'.2 g o j = M.2 g o j
theorem aQ.rf {S : Nat} {D : mz_D} : aQ S D D := fun _ _ _ _ => ⟨rfl, rfl⟩
theorem aP.rf {r : Nat} {D : mz_D} : aP r D D := fun _ _ _ _ => ⟨rfl, rfl⟩
theorem aQ.tr {S : Nat} {D E F : mz_D} (h : aQ S D E) (k : aQ S E F) : aQ S D F := fun g o j hn => ⟨(k g o j hn).1.trans (h g o j hn).1, (k g o j hn).2.trans (h g o j hn).2⟩
theorem aP.tr {r : Nat} {D E F : mz_D} (h : aP r D E) (k : aP r E F) : aP r D F := fun g o j hn => ⟨(k g o j hn).1.trans (h g o j hn).1, (k g o j hn).2.trans (h g o j hn).2⟩
theorem aC.q {S : Nat} {D E : mz_D} (h : aC D E) : aQ S D E := fun g o j hn => h g o j (by omega)
theorem aM.p {r : Nat} {D E : mz_D} (h : aM D E) : aP r D E := fun g o j hn => h g o j (by omega)
theorem aT.p {t r : Nat} {D E : mz_D} (h : aT t D E) (ht : r ≤ t ∧ t ≤ r + 5 ∧ t ≠ r + 4) : aP r D E := fun g o j hn => h g o j (by omega)
theorem aQ_wi {S o : Nat} {D : mz_D} {v : Int32} (h : 121 ≤ o ∧ o ≤ 125) : aQ S D (mz_wi D 2 o S v) := fun a b c hn => ⟨wi_n (by omega), rfl⟩
theorem aP_wi {r j : Nat} {D : mz_D} {v : Int32} (h : r ≤ j ∧ j ≤ r + 5 ∧ j ≠ r + 4) : aP r D (mz_wi D 0 201 j v) := fun a b c hn => ⟨wi_n (by omega), rfl⟩
/-- what is asked, in both, of a step -/
def yo (L s S r : Nat) (Q : mz_D → mz_D → Prop) (C M : mz_D) (x y : Option (Int32 × mz_D)) : Prop := ∃ C' M', aQ S C C' ∧ aP r M M' ∧ ((x = some (1, C') ∧ y = some (1, M') ∧ ∃ s', s ≤ s' ∧ rdR L s' C' M' ∧ Q C' M') ∨ (x = some (0, C') ∧ y = some (0, M') ∧ fl C' M'))
/-- what the fields of a step stand on -/
def ys (m S r : Nat) (C M : mz_D) : Prop := pl 1 0 m C M ∧ M.1 0 201 0 = nI m ∧ C.1 0 301 5 = nI S ∧ S < 30 ∧ 2000 ≤ r ∧ r + 6 ≤ 2500
theorem ys.fr {m S r : Nat} {C M C' M' : mz_D} (h : ys m S r C M) (hc : aQ S C C') (hm : aP r M M') : ys m S r C' M' := by
  obtain ⟨h1, h2, h3, h4, h5, h6⟩ := h
  exact ⟨h1.fr (hc _ _ _ (by omega)).1 (fun p _ => (hc _ _ _ (by omega)).2) (fun p _ => (hm _ _ _ (by omega)).2), by rw [(hm _ _ _ (by omega)).1, h2], by rw [(hc _ _ _ (by omega)).1, h3], h4, h5, h6⟩
/-- a person comes to a field -/
theorem yPer {L s m S r t : Nat} {C M : mz_D} (h : rdR L s C M) (Y : ys m S r C M) (ht : r ≤ t ∧ t ≤ r + 5 ∧ t ≠ r + 4) : (∃ p s' C' M', p < m ∧ s < s' ∧ fX5_takePerson 1 C = some (nI p, C') ∧ fX12_personTo (nI t) M = some (1, M') ∧ M'.1 0 201 t = nI p ∧ rdR L s' C' M' ∧ aC C C' ∧ aT t M M') ∨ (∃ C' M', fX5_takePerson 1 C = some (-1, C') ∧ fX12_personTo (nI t) M = some (0, M') ∧ fl C' M' ∧ aC C C' ∧ aT t M M') := by
  obtain ⟨h1, h2, h3, h4, h5, h6⟩ := Y
  unfold fX12_personTo
  rw [z0, h2]
  rcases sPer h h1 (t := t) (by omega) with ⟨p, s', C', M', p1, l, x1, x2, x3, x4, x5, x6⟩ | ⟨C', M', x1, x2, x3, x4, x5⟩
  · have x2 : fX12_oldOne (0 : Int32) (nI m) (nI t) M = some (1, M') := x2
    exact Or.inl ⟨p, s', C', M', p1, l, x1, by rw [x2]; rfl, x3, x4, x5, x6⟩
  · have x2 : fX12_oldOne (0 : Int32) (nI m) (nI t) M = some (0, M') := x2
    exact Or.inr ⟨C', M', x1, by rw [x2]; rfl, x3, x4, x5⟩
/-- the second of two -/
theorem yTwo {L s m S r p : Nat} {C M : mz_D} (h : rdR L s C M) (Y : ys m S r C M) (hp : p < m) (h1 : M.1 0 201 (r + 1) = nI p) : (∃ q s' C' M', q < m ∧ q ≠ p ∧ s < s' ∧ fX10_takesTwo_35 (nI p) C = some (1, C') ∧ fX12_otherOne (0 : Int32) (nI m) (nI (r + 1)) (nI (r + 2)) M = some (1, M') ∧ C'.1 2 122 S = nI p ∧ C'.1 2 123 S = nI q ∧ M'.1 0 201 (r + 2) = nI q ∧ rdR L s' C' M' ∧ aQ S C C' ∧ aT (r + 2) M M' ∧ C'.1 2 121 S = C.1 2 121 S) ∨ (∃ C' M', fX10_takesTwo_35 (nI p) C = some (0, C') ∧ fX12_otherOne (0 : Int32) (nI m) (nI (r + 1)) (nI (r + 2)) M = some (0, M') ∧ fl C' M' ∧ aQ S C C' ∧ aT (r + 2) M M') := by
  obtain ⟨g1, g2, g3, g4, g5, g6⟩ := Y
  have hm := g1.1
  have P : pl 1 0 m (mz_wi C 2 122 S (nI p)) M := g1.fr (wi_n (by omega)) (fun p _ => rfl) (fun p _ => rfl)
  unfold fX10_takesTwo_35
  rw [g3, nI_ix g4 (by omega), gd_tt, nI_cl (by omega)]
  rcases sOth (h.fr (qC_wi (D := C) (g := 2) (o := 122) (j := S) (v := nI p) (by omega)) qM.rf) P (t := r + 2) (f := r + 1) (p0 := p) (by omega) (by omega) h1 (by omega) with ⟨q, s', C', M', q1, qp, l, x1, x2, x3, x4, x5, x6⟩ | ⟨C', M', x1, x2, x3, x4, x5⟩
  · have x2 : fX12_otherOne (0 : Int32) (nI m) (nI (r + 1)) (nI (r + 2)) M = some (1, M') := x2
    have c5' : C'.1 0 301 5 = nI S := by rw [(x5 _ _ _ (by omega)).1, wi_n (by omega), g3]
    refine Or.inl ⟨q, s', mz_wi C' 2 123 S (nI q), M', q1, qp, l, ?_, x2, ?_, wi_s _ _ _ _ _, x3, x4.fr (qC_wi (by omega)) qM.rf, ((aQ_wi (by omega)).tr x5.q).tr (aQ_wi (by omega)), x6, ?_⟩
    · rw [x1, Option.bind_some, c5', nI_ix g4 (by omega), gd_tt, nI_cl (by omega), wi_s, if_neg (fun z => (nI_ne1 (by omega)).mp z)]
    · rw [wi_n (by omega), (x5 _ _ _ (by omega)).1, wi_s]
    · rw [wi_n (by omega), (x5 _ _ _ (by omega)).1, wi_n (by omega)]
  · have x2 : fX12_otherOne (0 : Int32) (nI m) (nI (r + 1)) (nI (r + 2)) M = some (0, M') := x2
    have c5' : C'.1 0 301 5 = nI S := by rw [(x4 _ _ _ (by omega)).1, wi_n (by omega), g3]
    refine Or.inr ⟨mz_wi C' 2 123 S (-1), M', ?_, x2, ⟨by rw [wi_n (by omega)]; exact x3.1, x3.2.1, by rw [wi_n (by omega)]; exact x3.2.2⟩, ((aQ_wi (by omega)).tr x4.q).tr (aQ_wi (by omega)), x5⟩
    rw [x1, Option.bind_some, c5', nI_ix g4 (by omega), gd_tt, nI_cl (by omega), wi_s, if_pos rfl]
/-- a number comes to a field -/
theorem yCnt {L s m S r a b t : Nat} {C M : mz_D} (h : rdR L s C M) (Y : ys m S r C M) (ha : a < 100000) (hb : b < 100000) (ht : t < 3000) : (∃ v s' C' M', a ≤ v ∧ v ≤ b ∧ s < s' ∧ fX10_takesCount (nI a) (nI b) C = some (1, C') ∧ fX12_number (nI t) (nI a) (nI b) M = some (1, M') ∧ C'.1 2 125 S = nI v ∧ M'.1 0 201 t = nI v ∧ rdR L s' C' M' ∧ aQ S C C' ∧ aT t M M' ∧ (∀ o j, o ≠ 125 → C'.1 2 o j = C.1 2 o j)) ∨ (∃ C' M', fX10_takesCount (nI a) (nI b) C = some (0, C') ∧ fX12_number (nI t) (nI a) (nI b) M = some (0, M') ∧ fl C' M' ∧ aQ S C C' ∧ aT t M M') := by
  obtain ⟨g1, g2, g3, g4, g5, g6⟩ := Y
  unfold fX10_takesCount
  rcases sNum h ha hb ht with ⟨v, s', C', M', v1, v2, l, x1, x2, x3, x4, x5, x6⟩ | ⟨C', M', x1, x2, x3, x4, x5⟩
  · have c5' : C'.1 0 301 5 = nI S := by rw [(x5 _ _ _ (by omega)).1, g3]
    refine Or.inl ⟨v, s', mz_wi C' 2 125 S (nI v), M', v1, v2, l, ?_, x2, wi_s _ _ _ _ _, x3, x4.fr (qC_wi (by omega)) qM.rf, x5.q.tr (aQ_wi (by omega)), x6, fun o j ho => by rw [wi_n (by omega), (x5 _ _ _ (by omega)).1]⟩
    rw [x1, Option.bind_some, c5', g3, nI_ix g4 (by omega), gd_tt, gd_tt, nI_cl (by omega), wi_s, if_neg (fun z => (nI_ne1 (by omega)).mp z)]
  · have c5' : C'.1 0 301 5 = nI S := by rw [(x4 _ _ _ (by omega)).1, g3]
    refine Or.inr ⟨mz_wi C' 2 125 S (-1), M', ?_, x2, ⟨by rw [wi_n (by omega)]; exact x3.1, x3.2.1, by rw [wi_n (by omega)]; exact x3.2.2⟩, x4.q.tr (aQ_wi (by omega)), x5⟩
    rw [x1, Option.bind_some, c5', g3, nI_ix g4 (by omega), gd_tt, gd_tt, nI_cl (by omega), wi_s, if_pos rfl]
theorem bo1 {α : Type} (x : Option α) : mz_gd (mz_bo 1) x = x := rfl
theorem bo0 {α : Type} (x : Option α) : mz_gd (mz_bo 0) x = x := rfl
/-- dinner -/
theorem yDin {L s m S r : Nat} {C M : mz_D} (h : rdR L s C M) (Y : ys m S r C M) (c0 : C.1 2 120 S = 17) (c2 : C.1 2 122 S = -1) (m0 : M.1 0 201 r = 17) : yo L s S r (fun C' M' => yF m (fun o => C'.1 2 o S) (fun i => M'.1 0 201 (r + i))) C M (fX10_takesPayer C) (fX12_yearOrder (17 : Int32) (nI r) M) := by
  obtain ⟨g1, g2, g3, g4, g5, g6⟩ := id Y
  have hm := g1.1
  have f1 : aP r M (mz_wi M 0 201 (r + 1) (-1)) := aP_wi (by omega)
  have r1 : rdR L s C (mz_wi M 0 201 (r + 1) (-1)) := h.fr qC.rf (qM_wi (by omega))
  unfold yo fX10_takesPayer fX12_yearOrder
  rw [if_pos rfl, a1r, nI_ix (show r + 1 < 3000 by omega) (by omega), gd_tt, nI_cl (by omega)]
  rcases sThere r1 (a := 8) (b := 11) (by omega) (by decide) with ⟨e, s1, C1, M1, l, e1, e2, e3, e4, e5⟩ | ⟨e, e2⟩
  · have e : C.1 0 2 2 = (8 : Int32) := e
    have e2 : fX12_isThere (11 : Int32) (mz_wi M 0 201 (r + 1) (-1)) = some (1, M1) := e2
    have Y1 : ys m S r C1 M1 := (Y.fr aQ.rf f1).fr e4.q e5.p
    have c51 : C1.1 0 301 5 = nI S := Y1.2.2.1
    rcases yPer e3 Y1 (t := r + 1) (by omega) with ⟨p, s2, C2, M2, p1, l2, x1, x2, x3, x4, x5, x6⟩ | ⟨C2, M2, x1, x2, x3, x4, x5⟩
    · have c52 : C2.1 0 301 5 = nI S := by rw [(x5 _ _ _ (by omega)).1, c51]
      refine ⟨mz_wi C2 2 122 S (nI p), M2, (e4.q.tr x5.q).tr (aQ_wi (by omega)), (f1.tr e5.p).tr (x6.p (by omega)), Or.inl ⟨?_, ?_, s2, by omega, x4.fr (qC_wi (by omega)) qM.rf, ?_⟩⟩
      · rw [if_pos e, e1, Option.bind_some, x1, Option.bind_some, c51, c52, nI_ix g4 (by omega), gd_tt, gd_tt, nI_cl (by omega), wi_s, if_neg (fun z => (nI_ne1 (by omega)).mp z)]
      · rw [e2, Option.bind_some, if_neg one_ne, x2, Option.bind_some, if_neg one_ne]
      · refine Or.inl ⟨?_, ?_, ?_, ?_⟩
        · show M2.1 0 201 (r + 0) = 17
          rw [(x6 _ _ _ (by omega)).1, (e5 _ _ _ (by omega)).1, wi_n (by omega)]; exact m0
        · show (mz_wi C2 2 122 S (nI p)).1 2 120 S = 17
          rw [wi_n (by omega), (x5 _ _ _ (by omega)).1, (e4 _ _ _ (by omega)).1, c0]
        · show (mz_wi C2 2 122 S (nI p)).1 2 122 S = M2.1 0 201 (r + 1)
          rw [wi_s, x3]
        · show who (M2.1 0 201 (r + 1)) m
          rw [x3]; exact Or.inr ⟨p, p1, rfl⟩
    · have c52 : C2.1 0 301 5 = nI S := by rw [(x4 _ _ _ (by omega)).1, c51]
      refine ⟨mz_wi C2 2 122 S (-1), M2, (e4.q.tr x4.q).tr (aQ_wi (by omega)), (f1.tr e5.p).tr (x5.p (by omega)), Or.inr ⟨?_, ?_, ⟨by rw [wi_n (by omega)]; exact x3.1, x3.2.1, by rw [wi_n (by omega)]; exact x3.2.2⟩⟩⟩
      · rw [if_pos e, e1, Option.bind_some, x1, Option.bind_some, c51, c52, nI_ix g4 (by omega), gd_tt, gd_tt, nI_cl (by omega), wi_s, if_pos rfl]
      · rw [e2, Option.bind_some, if_neg one_ne, x2, Option.bind_some, if_pos rfl]
  · have e : ¬ C.1 0 2 2 = (8 : Int32) := e
    have e2 : fX12_isThere (11 : Int32) (mz_wi M 0 201 (r + 1) (-1)) = some (0, mz_wi M 0 201 (r + 1) (-1)) := e2
    refine ⟨C, mz_wi M 0 201 (r + 1) (-1), aQ.rf, f1, Or.inl ⟨?_, ?_, s, Nat.le_refl _, r1, ?_⟩⟩
    · rw [if_neg e]
    · rw [e2, Option.bind_some, if_pos rfl]
    · refine Or.inl ⟨?_, c0, ?_, ?_⟩
      · show (mz_wi M 0 201 (r + 1) (-1)).1 0 201 (r + 0) = 17
        rw [wi_n (by omega)]; exact m0
      · show C.1 2 122 S = (mz_wi M 0 201 (r + 1) (-1)).1 0 201 (r + 1)
        rw [wi_s, c2]
      · show who ((mz_wi M 0 201 (r + 1) (-1)).1 0 201 (r + 1)) m
        rw [wi_s]; exact Or.inl rfl
