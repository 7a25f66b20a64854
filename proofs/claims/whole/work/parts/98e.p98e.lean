/-! ===== texts: the parts of a table ===== -/
theorem qC_wi {D : mz_D} {g o j : Nat} {v : Int32} (h : ¬ (g = 0 ∧ (o = 1 ∨ o = 2))) : qC D (mz_wi D g o j v) := ⟨fun i => wi_n (by omega), fun i => wi_n (by omega), rfl, rfl⟩
theorem qM_wg {D : mz_D} {g o j : Nat} {v : Int64} : qM D (mz_wg D g o j v) := ⟨fun i _ _ => rfl, fun i => rfl⟩
theorem qC_wg {D : mz_D} {g o j : Nat} {v : Int64} (h : g ≠ 0) : qC D (mz_wg D g o j v) := ⟨fun i => rfl, fun i => rfl, wgn (by omega), by funext i; exact wgn (by omega)⟩
theorem qC.tr {D E F : mz_D} (h : qC D E) (k : qC E F) : qC D F := ⟨fun j => (k.1 j).trans (h.1 j), fun j => (k.2.1 j).trans (h.2.1 j), k.2.2.1.trans h.2.2.1, k.2.2.2.trans h.2.2.2⟩
theorem qM.tr {D E F : mz_D} (h : qM D E) (k : qM E F) : qM D F := ⟨fun j h1 h2 => (k.1 j h1 h2).trans (h.1 j h1 h2), fun j => (k.2 j).trans (h.2 j)⟩
theorem t2000 : (2000 : Int32).toNatClampNeg = 2000 := rfl
theorem t2001 : (2001 : Int32).toNatClampNeg = 2001 := rfl
theorem t2002 : (2002 : Int32).toNatClampNeg = 2002 := rfl
theorem t2007 : (2007 : Int32).toNatClampNeg = 2007 := rfl
theorem t2008 : (2008 : Int32).toNatClampNeg = 2008 := rfl
theorem t2009 : (2009 : Int32).toNatClampNeg = 2009 := rfl
theorem t2495 : (2495 : Int32).toNatClampNeg = 2495 := rfl
theorem t2496 : (2496 : Int32).toNatClampNeg = 2496 := rfl
/-- one row's cell, in the class -/
def aR (o p : Nat) (C C' : mz_D) : Prop := ∀ a b c, ¬ ((a = 0 ∧ b = 2 ∧ c ≠ 4) ∨ (a = 2 ∧ b = o ∧ c = p)) → C'.1 a b c = C.1 a b c ∧ C'.2 a b c = C.2 a b c
theorem aC.r {o p : Nat} {D E : mz_D} (h : aC D E) : aR o p D E := fun a b c hn => h a b c (by omega)
theorem aR_wi {o p : Nat} {D : mz_D} {v : Int32} : aR o p D (mz_wi D 2 o p v) := fun a b c hn => ⟨wi_n (by omega), rfl⟩
theorem aR.tr {o p : Nat} {D E F : mz_D} (h : aR o p D E) (k : aR o p E F) : aR o p D F := fun g o j hn => ⟨(k g o j hn).1.trans (h g o j hn).1, (k g o j hn).2.trans (h g o j hn).2⟩
theorem bdk {x mo : Nat} (h : x ≤ mo) (hx : x < 2147483648) : bd (nI x) 0 mo := by
  unfold bd
  rw [nI_toInt hx]
  omega
theorem aT.rf {t : Nat} {D : mz_D} : aT t D D := fun _ _ _ _ => ⟨rfl, rfl⟩
theorem sT103 {L s : Nat} {C M : mz_D} (h : rdR L s C M) {a b t p mo : Nat} {wo : Int32} (hb : b < 29) (hab : pm b = a) (hp : p < 6) (ht : t < 3000) (hmo : mo < 100000) (hw : M.1 0 201 t = wo) (hwb : bd wo 0 mo) (K : mz_D → Option (Int32 × mz_D)) :
    (∃ s' C' M', s ≤ s' ∧ fX7_takesTrait_103 (nI a) 2 (nI p) (nI mo) wo C = some (1, C') ∧ (Option.bind (fX12_isThere (nI b) M) fun q1 => (if q1.1 = 0 then (K q1.2) else (Option.bind (fX12_number (nI t) (nI 0) (nI mo) q1.2) fun q3 => (if q3.1 = 0 then (some ((0 : Int32), q3.2)) else (K q3.2))))) = K M' ∧ M'.1 0 201 t = C'.1 2 103 p ∧ bd (C'.1 2 103 p) 0 mo ∧ rdR L s' C' M' ∧ aR 103 p C C' ∧ aT t M M') ∨
    (∃ C' M', fX7_takesTrait_103 (nI a) 2 (nI p) (nI mo) wo C = some (0, C') ∧ (Option.bind (fX12_isThere (nI b) M) fun q1 => (if q1.1 = 0 then (K q1.2) else (Option.bind (fX12_number (nI t) (nI 0) (nI mo) q1.2) fun q3 => (if q3.1 = 0 then (some ((0 : Int32), q3.2)) else (K q3.2))))) = some (0, M') ∧ fl C' M' ∧ aR 103 p C C' ∧ aT t M M') := by
  have h1 : rdR L s (mz_wi C 2 103 p wo) M := h.fr (qC_wi (by omega)) qM.rf
  have hk : (mz_wi C 2 103 p wo).1 0 2 2 = C.1 0 2 2 := wi_n (by omega)
  unfold fX7_takesTrait_103
  rw [nI_ix hp (by omega), gd_tt, nI_cl (by omega)]
  rcases sThere h1 hb hab with ⟨e, s1, C2, M2, e1, e2, e3, e4, e5, e6⟩ | ⟨e, e3⟩
  · rw [hk] at e
    rw [if_pos e, e2, Option.bind_some, e3, Option.bind_some, if_neg one_ne]
    rcases sNum e4 (a := 0) (b := mo) (t := t) (by omega) hmo ht with ⟨v, s3, C3, M3, v1, v2, g1, g2, g3, g4, g5, g6, g7⟩ | ⟨C3, M3, g2, g3, g4, g5, g6⟩
    · have g2 : fX5_takeNumber (0 : Int32) (nI mo) C2 = some (nI v, C3) := g2
      refine Or.inl ⟨s3, mz_wi C3 2 103 p (nI v), M3, by omega, ?_, ?_, ?_, ?_, g5.fr (qC_wi (by omega)) qM.rf, ((aR_wi.tr e5.r).tr g6.r).tr aR_wi, e6.t.tr g7⟩
      · rw [g2, Option.bind_some, if_neg (fun q => (nI_ne1 (by omega)).mp q)]
      · rw [g3, Option.bind_some, if_neg one_ne]
      · rw [g4, wi_s]
      · rw [wi_s]
        unfold bd
        rw [nI_toInt (by omega)]
        omega
    · have g2 : fX5_takeNumber (0 : Int32) (nI mo) C2 = some (-1, C3) := g2
      refine Or.inr ⟨C3, M3, ?_, ?_, g4, (aR_wi.tr e5.r).tr g5.r, e6.t.tr g6⟩
      · rw [g2, Option.bind_some, if_pos rfl]
      · rw [g3, Option.bind_some, if_pos rfl]
  · rw [hk] at e
    rw [if_neg e, e3, Option.bind_some, if_pos rfl]
    refine Or.inl ⟨s, _, M, Nat.le_refl _, rfl, rfl, by rw [wi_s, hw], by rw [wi_s]; exact hwb, h1, aR_wi, aT.rf⟩
theorem sT104 {L s : Nat} {C M : mz_D} (h : rdR L s C M) {a b t p mo : Nat} {wo : Int32} (hb : b < 29) (hab : pm b = a) (hp : p < 6) (ht : t < 3000) (hmo : mo < 100000) (hw : M.1 0 201 t = wo) (hwb : bd wo 0 mo) (K : mz_D → Option (Int32 × mz_D)) :
    (∃ s' C' M', s ≤ s' ∧ fX7_takesTrait_104 (nI a) 2 (nI p) (nI mo) wo C = some (1, C') ∧ (Option.bind (fX12_isThere (nI b) M) fun q1 => (if q1.1 = 0 then (K q1.2) else (Option.bind (fX12_number (nI t) (nI 0) (nI mo) q1.2) fun q3 => (if q3.1 = 0 then (some ((0 : Int32), q3.2)) else (K q3.2))))) = K M' ∧ M'.1 0 201 t = C'.1 2 104 p ∧ bd (C'.1 2 104 p) 0 mo ∧ rdR L s' C' M' ∧ aR 104 p C C' ∧ aT t M M') ∨
    (∃ C' M', fX7_takesTrait_104 (nI a) 2 (nI p) (nI mo) wo C = some (0, C') ∧ (Option.bind (fX12_isThere (nI b) M) fun q1 => (if q1.1 = 0 then (K q1.2) else (Option.bind (fX12_number (nI t) (nI 0) (nI mo) q1.2) fun q3 => (if q3.1 = 0 then (some ((0 : Int32), q3.2)) else (K q3.2))))) = some (0, M') ∧ fl C' M' ∧ aR 104 p C C' ∧ aT t M M') := by
  have h1 : rdR L s (mz_wi C 2 104 p wo) M := h.fr (qC_wi (by omega)) qM.rf
  have hk : (mz_wi C 2 104 p wo).1 0 2 2 = C.1 0 2 2 := wi_n (by omega)
  unfold fX7_takesTrait_104
  rw [nI_ix hp (by omega), gd_tt, nI_cl (by omega)]
  rcases sThere h1 hb hab with ⟨e, s1, C2, M2, e1, e2, e3, e4, e5, e6⟩ | ⟨e, e3⟩
  · rw [hk] at e
    rw [if_pos e, e2, Option.bind_some, e3, Option.bind_some, if_neg one_ne]
    rcases sNum e4 (a := 0) (b := mo) (t := t) (by omega) hmo ht with ⟨v, s3, C3, M3, v1, v2, g1, g2, g3, g4, g5, g6, g7⟩ | ⟨C3, M3, g2, g3, g4, g5, g6⟩
    · have g2 : fX5_takeNumber (0 : Int32) (nI mo) C2 = some (nI v, C3) := g2
      refine Or.inl ⟨s3, mz_wi C3 2 104 p (nI v), M3, by omega, ?_, ?_, ?_, ?_, g5.fr (qC_wi (by omega)) qM.rf, ((aR_wi.tr e5.r).tr g6.r).tr aR_wi, e6.t.tr g7⟩
      · rw [g2, Option.bind_some, if_neg (fun q => (nI_ne1 (by omega)).mp q)]
      · rw [g3, Option.bind_some, if_neg one_ne]
      · rw [g4, wi_s]
      · rw [wi_s]
        unfold bd
        rw [nI_toInt (by omega)]
        omega
    · have g2 : fX5_takeNumber (0 : Int32) (nI mo) C2 = some (-1, C3) := g2
      refine Or.inr ⟨C3, M3, ?_, ?_, g4, (aR_wi.tr e5.r).tr g5.r, e6.t.tr g6⟩
      · rw [g2, Option.bind_some, if_pos rfl]
      · rw [g3, Option.bind_some, if_pos rfl]
  · rw [hk] at e
    rw [if_neg e, e3, Option.bind_some, if_pos rfl]
    refine Or.inl ⟨s, _, M, Nat.le_refl _, rfl, rfl, by rw [wi_s, hw], by rw [wi_s]; exact hwb, h1, aR_wi, aT.rf⟩
theorem sT105 {L s : Nat} {C M : mz_D} (h : rdR L s C M) {a b t p mo : Nat} {wo : Int32} (hb : b < 29) (hab : pm b = a) (hp : p < 6) (ht : t < 3000) (hmo : mo < 100000) (hw : M.1 0 201 t = wo) (hwb : bd wo 0 mo) (K : mz_D → Option (Int32 × mz_D)) :
    (∃ s' C' M', s ≤ s' ∧ fX7_takesTrait_105 (nI a) 2 (nI p) (nI mo) wo C = some (1, C') ∧ (Option.bind (fX12_isThere (nI b) M) fun q1 => (if q1.1 = 0 then (K q1.2) else (Option.bind (fX12_number (nI t) (nI 0) (nI mo) q1.2) fun q3 => (if q3.1 = 0 then (some ((0 : Int32), q3.2)) else (K q3.2))))) = K M' ∧ M'.1 0 201 t = C'.1 2 105 p ∧ bd (C'.1 2 105 p) 0 mo ∧ rdR L s' C' M' ∧ aR 105 p C C' ∧ aT t M M') ∨
    (∃ C' M', fX7_takesTrait_105 (nI a) 2 (nI p) (nI mo) wo C = some (0, C') ∧ (Option.bind (fX12_isThere (nI b) M) fun q1 => (if q1.1 = 0 then (K q1.2) else (Option.bind (fX12_number (nI t) (nI 0) (nI mo) q1.2) fun q3 => (if q3.1 = 0 then (some ((0 : Int32), q3.2)) else (K q3.2))))) = some (0, M') ∧ fl C' M' ∧ aR 105 p C C' ∧ aT t M M') := by
  have h1 : rdR L s (mz_wi C 2 105 p wo) M := h.fr (qC_wi (by omega)) qM.rf
  have hk : (mz_wi C 2 105 p wo).1 0 2 2 = C.1 0 2 2 := wi_n (by omega)
  unfold fX7_takesTrait_105
  rw [nI_ix hp (by omega), gd_tt, nI_cl (by omega)]
  rcases sThere h1 hb hab with ⟨e, s1, C2, M2, e1, e2, e3, e4, e5, e6⟩ | ⟨e, e3⟩
  · rw [hk] at e
    rw [if_pos e, e2, Option.bind_some, e3, Option.bind_some, if_neg one_ne]
    rcases sNum e4 (a := 0) (b := mo) (t := t) (by omega) hmo ht with ⟨v, s3, C3, M3, v1, v2, g1, g2, g3, g4, g5, g6, g7⟩ | ⟨C3, M3, g2, g3, g4, g5, g6⟩
    · have g2 : fX5_takeNumber (0 : Int32) (nI mo) C2 = some (nI v, C3) := g2
      refine Or.inl ⟨s3, mz_wi C3 2 105 p (nI v), M3, by omega, ?_, ?_, ?_, ?_, g5.fr (qC_wi (by omega)) qM.rf, ((aR_wi.tr e5.r).tr g6.r).tr aR_wi, e6.t.tr g7⟩
      · rw [g2, Option.bind_some, if_neg (fun q => (nI_ne1 (by omega)).mp q)]
      · rw [g3, Option.bind_some, if_neg one_ne]
      · rw [g4, wi_s]
      · rw [wi_s]
        unfold bd
        rw [nI_toInt (by omega)]
        omega
    · have g2 : fX5_takeNumber (0 : Int32) (nI mo) C2 = some (-1, C3) := g2
      refine Or.inr ⟨C3, M3, ?_, ?_, g4, (aR_wi.tr e5.r).tr g5.r, e6.t.tr g6⟩
      · rw [g2, Option.bind_some, if_pos rfl]
      · rw [g3, Option.bind_some, if_pos rfl]
  · rw [hk] at e
    rw [if_neg e, e3, Option.bind_some, if_pos rfl]
    refine Or.inl ⟨s, _, M, Nat.le_refl _, rfl, rfl, by rw [wi_s, hw], by rw [wi_s]; exact hwb, h1, aR_wi, aT.rf⟩
theorem sT106 {L s : Nat} {C M : mz_D} (h : rdR L s C M) {a b t p mo : Nat} {wo : Int32} (hb : b < 29) (hab : pm b = a) (hp : p < 6) (ht : t < 3000) (hmo : mo < 100000) (hw : M.1 0 201 t = wo) (hwb : bd wo 0 mo) (K : mz_D → Option (Int32 × mz_D)) :
    (∃ s' C' M', s ≤ s' ∧ fX7_takesTrait_106 (nI a) 2 (nI p) (nI mo) wo C = some (1, C') ∧ (Option.bind (fX12_isThere (nI b) M) fun q1 => (if q1.1 = 0 then (K q1.2) else (Option.bind (fX12_number (nI t) (nI 0) (nI mo) q1.2) fun q3 => (if q3.1 = 0 then (some ((0 : Int32), q3.2)) else (K q3.2))))) = K M' ∧ M'.1 0 201 t = C'.1 2 106 p ∧ bd (C'.1 2 106 p) 0 mo ∧ rdR L s' C' M' ∧ aR 106 p C C' ∧ aT t M M') ∨
    (∃ C' M', fX7_takesTrait_106 (nI a) 2 (nI p) (nI mo) wo C = some (0, C') ∧ (Option.bind (fX12_isThere (nI b) M) fun q1 => (if q1.1 = 0 then (K q1.2) else (Option.bind (fX12_number (nI t) (nI 0) (nI mo) q1.2) fun q3 => (if q3.1 = 0 then (some ((0 : Int32), q3.2)) else (K q3.2))))) = some (0, M') ∧ fl C' M' ∧ aR 106 p C C' ∧ aT t M M') := by
  have h1 : rdR L s (mz_wi C 2 106 p wo) M := h.fr (qC_wi (by omega)) qM.rf
  have hk : (mz_wi C 2 106 p wo).1 0 2 2 = C.1 0 2 2 := wi_n (by omega)
  unfold fX7_takesTrait_106
  rw [nI_ix hp (by omega), gd_tt, nI_cl (by omega)]
  rcases sThere h1 hb hab with ⟨e, s1, C2, M2, e1, e2, e3, e4, e5, e6⟩ | ⟨e, e3⟩
  · rw [hk] at e
    rw [if_pos e, e2, Option.bind_some, e3, Option.bind_some, if_neg one_ne]
    rcases sNum e4 (a := 0) (b := mo) (t := t) (by omega) hmo ht with ⟨v, s3, C3, M3, v1, v2, g1, g2, g3, g4, g5, g6, g7⟩ | ⟨C3, M3, g2, g3, g4, g5, g6⟩
    · have g2 : fX5_takeNumber (0 : Int32) (nI mo) C2 = some (nI v, C3) := g2
      refine Or.inl ⟨s3, mz_wi C3 2 106 p (nI v), M3, by omega, ?_, ?_, ?_, ?_, g5.fr (qC_wi (by omega)) qM.rf, ((aR_wi.tr e5.r).tr g6.r).tr aR_wi, e6.t.tr g7⟩
      · rw [g2, Option.bind_some, if_neg (fun q => (nI_ne1 (by omega)).mp q)]
      · rw [g3, Option.bind_some, if_neg one_ne]
      · rw [g4, wi_s]
      · rw [wi_s]
        unfold bd
        rw [nI_toInt (by omega)]
        omega
    · have g2 : fX5_takeNumber (0 : Int32) (nI mo) C2 = some (-1, C3) := g2
      refine Or.inr ⟨C3, M3, ?_, ?_, g4, (aR_wi.tr e5.r).tr g5.r, e6.t.tr g6⟩
      · rw [g2, Option.bind_some, if_pos rfl]
      · rw [g3, Option.bind_some, if_pos rfl]
  · rw [hk] at e
    rw [if_neg e, e3, Option.bind_some, if_pos rfl]
    refine Or.inl ⟨s, _, M, Nat.le_refl _, rfl, rfl, by rw [wi_s, hw], by rw [wi_s]; exact hwb, h1, aR_wi, aT.rf⟩
/-- reading a table, at a part's beginning -/
def st (n L s : Nat) (C M : mz_D) : Prop := rdR L s C M ∧ ∃ m d gs a b, tB n m d gs C M ∧ a ≤ 1 ∧ b ≤ 1 ∧ M.1 0 200 20 = nI (16 * a + 32 * b) ∧ C.1 0 300 2 = nI a ∧ C.1 0 300 3 = nI b
def prt (n L s : Nat) (C M : mz_D) (x y : Option (Int32 × mz_D)) : Prop := ∃ C' M', bC C C' ∧ bM M M' ∧ ((x = some (1, C') ∧ y = some (1, M') ∧ ∃ s', s < s' ∧ st n L s' C' M') ∨ (x = some (0, C') ∧ y = some (0, M') ∧ fl C' M'))
def nC (m : Nat) (C C' : mz_D) : Prop := ∀ g o j, ¬ ((g = 0 ∧ o = 2 ∧ j ≠ 4) ∨ (g = 2 ∧ ((102 ≤ o ∧ o ≤ 108 ∧ j = m) ∨ (o = 101 ∧ j ≠ 1)))) → C'.1 g o j = C.1 g o j ∧ C'.2 g o j = C.2 g o j
def nM (m : Nat) (M M' : mz_D) : Prop := ∀ g o j, ¬ (g = 0 ∧ ((o = 200 ∧ ((12 ≤ j ∧ j ≤ 15) ∨ j = 17 ∨ j = 18)) ∨ (o = 201 ∧ ((2012 + 8 * m ≤ j ∧ j < 2020 + 8 * m) ∨ j = 2000 ∨ j = 2007 ∨ j = 2008)) ∨ (o = 202 ∧ j = 24 + m))) → M'.1 g o j = M.1 g o j ∧ M'.2 g o j = M.2 g o j
theorem nC.tr {m : Nat} {D E F : mz_D} (h : nC m D E) (k : nC m E F) : nC m D F := fun g o j hn => ⟨(k g o j hn).1.trans (h g o j hn).1, (k g o j hn).2.trans (h g o j hn).2⟩
theorem nM.tr {m : Nat} {D E F : mz_D} (h : nM m D E) (k : nM m E F) : nM m D F := fun g o j hn => ⟨(k g o j hn).1.trans (h g o j hn).1, (k g o j hn).2.trans (h g o j hn).2⟩
theorem aC.n {m : Nat} {D E : mz_D} (h : aC D E) : nC m D E := fun g o j hn => h g o j (by omega)
theorem aM.n {m : Nat} {D E : mz_D} (h : aM D E) : nM m D E := fun g o j hn => h g o j (by omega)
theorem aR.n {o m : Nat} {D E : mz_D} (h : aR o m D E) (ho : 102 ≤ o ∧ o ≤ 108) : nC m D E := fun a b c hn => h a b c (by omega)
theorem aT.n {t m : Nat} {D E : mz_D} (h : aT t D E) (ht : 2012 + 8 * m ≤ t ∧ t < 2020 + 8 * m) : nM m D E := fun a b c hn => h a b c (by omega)
theorem nC.b {m : Nat} {D E : mz_D} (h : nC m D E) : bC D E := fun g o j hn => h g o j (by omega)
theorem nM.b {m : Nat} {D E : mz_D} (h : nM m D E) : bM D E := fun g o j hn => h g o j (by omega)
theorem nC_wi {m o j : Nat} {D : mz_D} {v : Int32} (h : (102 ≤ o ∧ o ≤ 108 ∧ j = m) ∨ (o = 101 ∧ j ≠ 1)) : nC m D (mz_wi D 2 o j v) := fun a b c hn => ⟨wi_n (by omega), rfl⟩
theorem nC_wg {m : Nat} {D : mz_D} {v : Int64} : nC m D (mz_wg D 2 102 m v) := fun a b c hn => ⟨rfl, wgn (by omega)⟩
theorem nM_wi {m j : Nat} {D : mz_D} {v : Int32} (h : (2012 + 8 * m ≤ j ∧ j < 2020 + 8 * m) ∨ j = 2000 ∨ j = 2007 ∨ j = 2008) : nM m D (mz_wi D 0 201 j v) := fun a b c hn => ⟨wi_n (by omega), rfl⟩
theorem nM_wg {m : Nat} {D : mz_D} {v : Int64} : nM m D (mz_wg D 0 202 (24 + m) v) := fun a b c hn => ⟨rfl, wgn (by omega)⟩
theorem p12 (m : Nat) : (2012 : Int32) + (8 : Int32) * nI m = nI (2012 + 8 * m) := by
  rw [l8m]
  exact nI_add 2012 (8 * m)
theorem gb1 : ∀ m, m < 6 → (nI (2 ^ m - 1) ||| ((1 : Int32) <<< (nI m &&& 31)) = nI (2 ^ (m + 1) - 1)) := by decide +kernel
theorem gb2 : ∀ m, m < 6 → ∀ gs, gs < 64 → (nI gs ||| ((1 : Int32) <<< (nI m &&& 31)) = nI (gs ||| 2 ^ m)) := by decide +kernel
theorem pw6 : ∀ m, m < 7 → 2 ^ m ≤ 64 := by decide +kernel
/-- the last of a person: a guest, or not -/
theorem sGuest {L s m gs : Nat} {C M : mz_D} (h : rdR L s C M) (hm : m < 6) (hg : gs < 2 ^ m) (c2 : C.1 2 101 2 = nI gs) (m7 : M.1 0 201 2007 = nI gs) (m8 : M.1 0 201 2008 = nI (2 ^ m - 1)) (m0 : M.1 0 201 2000 = nI m) : ∃ s' C' M' gs', s ≤ s' ∧ gs' < 2 ^ (m + 1) ∧ fX7_takesGuest (nI m) C = some (1, C') ∧ fX12_aPerson_202 (nI m) M = some (1, M') ∧ rdR L s' C' M' ∧ C'.1 2 101 2 = nI gs' ∧ M'.1 0 201 2007 = nI gs' ∧ M'.1 0 201 2008 = nI (2 ^ (m + 1) - 1) ∧ M'.1 0 201 2000 = nI (m + 1) ∧ (∀ a b c, ¬ ((a = 0 ∧ b = 2 ∧ c ≠ 4) ∨ (a = 2 ∧ b = 101 ∧ c = 2)) → C'.1 a b c = C.1 a b c ∧ C'.2 a b c = C.2 a b c) ∧ (∀ a b c, ¬ (a = 0 ∧ ((b = 200 ∧ ((12 ≤ c ∧ c ≤ 15) ∨ c = 17 ∨ c = 18)) ∨ (b = 201 ∧ (c = 2000 ∨ c = 2007 ∨ c = 2008)))) → M'.1 a b c = M.1 a b c ∧ M'.2 a b c = M.2 a b c) := by
  have h64 := pw6 m (by omega)
  have P := p2_t m (by omega) gs (by omega) hg
  have G2 := gb2 m hm gs (by omega)
  have G1 := gb1 m hm
  have e225 : ∀ D : mz_D, D.1 0 201 2008 = nI (2 ^ m - 1) → D.1 0 201 2000 = nI m → fX12_aPerson_225 (nI m) D = some (1, mz_wi (mz_wi D 0 201 2008 (nI (2 ^ (m + 1) - 1))) 0 201 2000 (nI (m + 1))) := fun D d8 d0 => by
    unfold fX12_aPerson_225
    rw [t2008, t2000, d8, G1, wi_n (by omega), d0, a1r]
  unfold fX7_takesGuest fX12_aPerson_202
  rw [c2, G2]
  have h1 : rdR L s (mz_wi C 2 101 2 (nI (gs ||| 2 ^ m))) M := h.fr (qC_wi (by omega)) qM.rf
  have hk : (mz_wi C 2 101 2 (nI (gs ||| 2 ^ m))).1 0 2 2 = C.1 0 2 2 := wi_n (by omega)
  rcases sThere h1 (a := 5) (b := 10) (by omega) (by decide) with ⟨e, s1, C2, M2, e1, e2, e3, e4, e5, e6⟩ | ⟨e, e3⟩
  · rw [hk] at e
    have e3 : fX12_isThere (10 : Int32) M = some (1, M2) := e3
    have e : C.1 0 2 2 = (5 : Int32) := e
    have q7 : M2.1 0 201 2007 = nI gs := by rw [(e6 _ _ _ (by omega)).1, m7]
    have w7 : mz_wi M2 0 201 ((2007 : Int32)).toNatClampNeg ((M2.1 0 201 ((2007 : Int32)).toNatClampNeg) ||| ((1 : Int32) <<< (nI m &&& 31))) = mz_wi M2 0 201 2007 (nI (gs ||| 2 ^ m)) := by rw [t2007, q7, G2]
    refine ⟨s1, C2, mz_wi (mz_wi (mz_wi M2 0 201 2007 (nI (gs ||| 2 ^ m))) 0 201 2008 (nI (2 ^ (m + 1) - 1))) 0 201 2000 (nI (m + 1)), gs ||| 2 ^ m, by omega, P.2, ?_, ?_, e4.fr qC.rf (((qM_wi (by omega)).tr (qM_wi (by omega))).tr (qM_wi (by omega))), ?_, ?_, ?_, wi_s _ _ _ _ _, fun a b c hn => ?_, fun a b c hn => ?_⟩
    · rw [if_pos e, e2]; rfl
    · rw [e3, Option.bind_some, if_neg one_ne]
      show fX12_aPerson_225 (nI m) (mz_wi M2 0 201 ((2007 : Int32)).toNatClampNeg ((M2.1 0 201 ((2007 : Int32)).toNatClampNeg) ||| ((1 : Int32) <<< (nI m &&& 31)))) = _
      rw [w7]
      exact e225 _ (by rw [wi_n (by omega), (e6 _ _ _ (by omega)).1, m8]) (by rw [wi_n (by omega), (e6 _ _ _ (by omega)).1, m0])
    · rw [(e5 _ _ _ (by omega)).1, wi_s]
    · rw [wi_n (by omega), wi_n (by omega), wi_s]
    · rw [wi_n (by omega), wi_s]
    · rw [(e5 _ _ _ (by omega)).1, (e5 _ _ _ (by omega)).2, wi_n (by omega)]; exact ⟨rfl, rfl⟩
    · rw [wi_n (by omega), wi_n (by omega), wi_n (by omega), wi_2, wi_2, wi_2]; exact e6 _ _ _ (by omega)
  · rw [hk] at e
    have e3 : fX12_isThere (10 : Int32) M = some (0, M) := e3
    have e : ¬ C.1 0 2 2 = (5 : Int32) := e
    refine ⟨s, C, mz_wi (mz_wi M 0 201 2008 (nI (2 ^ (m + 1) - 1))) 0 201 2000 (nI (m + 1)), gs, Nat.le_refl _, P.1, ?_, ?_, h.fr qC.rf ((qM_wi (by omega)).tr (qM_wi (by omega))), c2, ?_, ?_, wi_s _ _ _ _ _, fun a b c hn => ⟨rfl, rfl⟩, fun a b c hn => ?_⟩
    · rw [if_neg e]
    · rw [e3, Option.bind_some, if_pos rfl]
      exact e225 _ m8 m0
    · rw [wi_n (by omega), wi_n (by omega), m7]
    · rw [wi_n (by omega), wi_s]
    · rw [wi_n (by omega), wi_n (by omega), wi_2, wi_2]; exact ⟨rfl, rfl⟩
