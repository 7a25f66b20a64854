/-! ===== trays, the tape ===== -/
def vC (D E : mz_D) : Prop := ∀ g o j, ¬ (sCq g o j ∨ (g = 0 ∧ 5 ≤ o ∧ o ≤ 7)) → E.1 g o j = D.1 g o j ∧ E.2 g o j = D.2 g o j
def vM (D E : mz_D) : Prop := ∀ g o j, ¬ (sMq g o j ∨ (203 ≤ o ∧ o ≤ 205)) → E.1 g o j = D.1 g o j ∧ E.2 g o j = D.2 g o j
theorem vC.tr {D E F : mz_D} (h : vC D E) (k : vC E F) : vC D F := fun g o j hn => ⟨(k g o j hn).1.trans (h g o j hn).1, (k g o j hn).2.trans (h g o j hn).2⟩
theorem vM.tr {D E F : mz_D} (h : vM D E) (k : vM E F) : vM D F := fun g o j hn => ⟨(k g o j hn).1.trans (h g o j hn).1, (k g o j hn).2.trans (h g o j hn).2⟩
theorem vC.rf {D : mz_D} : vC D D := fun _ _ _ _ => ⟨rfl, rfl⟩
theorem vM.rf {D : mz_D} : vM D D := fun _ _ _ _ => ⟨rfl, rfl⟩
theorem sC.v {D E : mz_D} (h : sC D E) : vC D E := fun g o j hn => h g o j (fun e => hn (Or.inl e))
theorem sM.v {D E : mz_D} (h : sM D E) : vM D E := fun g o j hn => h g o j (fun e => hn (Or.inl e))
theorem vC.m {D E : mz_D} (h : vC D E) : eM D E := fun g o j h1 h2 => h g o j (by unfold sCq; omega)
theorem vM.c {D E : mz_D} (h : vM D E) : eC D E := fun g o j h1 => h g o j (by unfold sMq; omega)
theorem iR.trs {n : Nat} {Dc Dm Dc' Dm' : mz_D} (h : iR n Dc Dm) (hc : vC Dc Dc') (hm : vM Dm Dm') (ht : ∀ t, t < 4 → trR t Dc' Dm') : iR n Dc' Dm' := iR.mk
  (status := by rw [(hc _ _ _ (by unfold sCq; omega)).1, (hm _ _ _ (by unfold sMq; omega)).1]; exact h.status)
  (top := by rw [(hc _ _ _ (by unfold sCq; omega)).2, (hm _ _ _ (by unfold sMq; omega)).2]; exact h.top)
  (bottom := by rw [(hc _ _ _ (by unfold sCq; omega)).2, (hm _ _ _ (by unfold sMq; omega)).2]; exact h.bottom)
  (fk := by rw [(hc _ _ _ (by unfold sCq; omega)).1, (hm _ _ _ (by unfold sMq; omega)).1]; exact h.fk)
  (fp := by rw [(hc _ _ _ (by unfold sCq; omega)).1, (hm _ _ _ (by unfold sMq; omega)).1]; exact h.fp)
  (taped := by rw [(hc _ _ _ (by unfold sCq; omega)).1, (hm _ _ _ (by unfold sMq; omega)).1]; exact h.taped)
  (tape := fun j hj => by rw [(hc _ _ _ (by unfold sCq; omega)).1, (hm _ _ _ (by unfold sMq; omega)).1]; exact h.tape j hj)
  (trays := ht)
  (lived := by rw [(hc _ _ _ (by unfold sCq; omega)).1, (hm _ _ _ (by unfold sMq; omega)).1]; exact h.lived)
  (told := fun j hj => by rw [(hc _ _ _ (by unfold sCq; omega)).1, (hm _ _ _ (by unfold sMq; omega)).1]; exact h.told j hj)
  (keys := by
    rw [← h.keys]
    funext j
    exact (hc _ _ _ (by unfold sCq; omega)).2)
  (table := by
    obtain ⟨m, d, gs, ins, ht⟩ := h.table
    exact ⟨m, d, gs, ins, ht.congr (fun o j hq => hc _ _ _ (by unfold tq at hq; unfold sCq; omega)) (fun j hj => (hm _ _ _ (by unfold sMq; omega)).1) (fun p hp => (hm _ _ _ (by unfold sMq; omega)).2)⟩)
  (marks := by
    obtain ⟨mk, h1, h2, h3, h4⟩ := h.marks
    refine ⟨mk, h1, by rw [(hm _ _ _ (by unfold sMq; omega)).1]; exact h2, by rw [(hc _ _ _ (by unfold sCq; omega)).1]; exact h3, fun i hi => ?_⟩
    obtain ⟨m, d, gs, ins, ht⟩ := h4 i hi
    exact ⟨m, d, gs, ins, ht.congr (fun o j hq => hc _ _ _ (by unfold tq at hq; unfold sCq; omega)) (fun j hj => (hm _ _ _ (by unfold sMq; omega)).1) (fun p hp => (hm _ _ _ (by unfold sMq; omega)).2)⟩)
theorem q_trs {n : Nat} {D E : mz_D} {r v : Int32} {fc fm : mz_D → Option (Int32 × mz_D)} (h : Inv n D) (hc : vC D E) (e1 : fc D = some (r, mz_wi E 0 0 13 v)) (e2 : ∀ E', eM D E' → ∃ F, vM E' F ∧ fm E' = some (r, mz_wi F 0 200 2 v) ∧ ∀ t, t < 4 → trR t E F) : ∃ (r : Int32) (D1 D2 : mz_D), fc D = some (r, D1) ∧ fm D1 = some (r, D2) ∧ Inv (n + 1) D2 := by
  have hE : eM D (mz_wi E 0 0 13 v) := hc.m.tr (fun g o j h1 h2 => ⟨by rw [wi_1, if_neg (by omega)], rfl⟩)
  obtain ⟨F, hm, e2, ht⟩ := e2 _ hE
  refine ⟨r, _, _, e1, e2, ?_⟩
  have a1 : iR n D (mz_wi E 0 0 13 v) := iR.cells h eC.rf hE
  have a2 : iR (n + 1) E F := (a1.trs hc hm ht).mono (Nat.le_succ n)
  refine (a2.stat v).cells (fun g o j ho => ?_) eM.rf
  have c := hm.c g o j ho
  exact ⟨by rw [wi_1 F, if_neg (by omega)]; exact c.1, c.2⟩
theorem q_lookL {n : Nat} {D : mz_D} {r : Int64} {v : Int32} {fc fm : mz_D → Option (Int64 × mz_D)} (h : Inv n D) (e1 : fc D = some (r, mz_wi D 0 0 13 v)) (e2 : ∀ E, eM D E → fm E = some (r, mz_wi E 0 200 2 v)) : ∃ (r : Int64) (D1 D2 : mz_D), fc D = some (r, D1) ∧ fm D1 = some (r, D2) ∧ Inv (n + 1) D2 :=
  ⟨r, _, _, e1, e2 _ (fun g o j h1 h2 => ⟨by rw [wi_1, if_neg (by omega)], rfl⟩), q_end h sC.rf sM.rf⟩
theorem try_or (x : Int32) : (fX8_has x = 0 ∧ fX12_isTray x = 0) ∨ ∃ t, t < 4 ∧ x = nI t ∧ fX8_has x = 1 ∧ fX12_isTray x = 1 := by
  unfold fX8_has fX12_isTray
  by_cases h1 : x < 0
  · exact Or.inl ⟨if_pos h1, if_pos h1⟩
  · by_cases h2 : 4 ≤ x
    · exact Or.inl ⟨by rw [if_neg h1, if_pos h2], by rw [if_neg h1, if_pos h2]⟩
    · obtain ⟨t, ht, rfl⟩ := nJ_of (Int32.not_lt.mp h1)
      exact Or.inr ⟨t, by rw [ol_le (c := 4) (by omega) ht] at h2; omega, rfl, by rw [if_neg h1, if_neg h2], by rw [if_neg h1, if_neg h2]⟩
theorem trR.mE {t : Nat} {D E : mz_D} (ht : t < 4) (h : trR t D D) (he : eM D E) : trR t D E := h.congr ht (fun _ _ _ _ => ⟨rfl, rfl⟩) (fun o j h1 h2 => he _ _ _ (by omega) (by omega))
theorem iR.tE {n : Nat} {D E : mz_D} (h : iR n D D) (he : eM D E) {t : Nat} (ht : t < 4) : trR t D E := (h.trays t ht).mE ht he
/-! long cells -/
theorem wg_s (D : mz_D) (g o j : Nat) (v : Int64) : (mz_wg D g o j v).2 g o j = v := if_pos ⟨rfl, rfl, rfl⟩
theorem wg_n {D : mz_D} {g o j : Nat} {v : Int64} {a b c : Nat} (h : b ≠ o ∨ a ≠ g ∨ c ≠ j) : (mz_wg D g o j v).2 a b c = D.2 a b c := if_neg (by omega)
def wl (D : mz_D) (g o : Nat) (f : Nat → Int64) : mz_D := (D.1, fun a b c => if b = o ∧ a = g then f c else D.2 a b c)
def upl (f : Nat → Int64) (j : Nat) (v : Int64) : Nat → Int64 := fun c => if c = j then v else f c
theorem wl_s (D : mz_D) (g o : Nat) (f : Nat → Int64) (c : Nat) : (wl D g o f).2 g o c = f c := if_pos ⟨rfl, rfl⟩
theorem wl_n {D : mz_D} {g o : Nat} {f : Nat → Int64} {a b c : Nat} (h : b ≠ o ∨ a ≠ g) : (wl D g o f).2 a b c = D.2 a b c := if_neg (by omega)
theorem wl_1 (D : mz_D) (g o : Nat) (f : Nat → Int64) : (wl D g o f).1 = D.1 := rfl
theorem mzD_exl {D E : mz_D} (h1 : D.1 = E.1) (h2 : ∀ a b c, D.2 a b c = E.2 a b c) : D = E := by
  obtain ⟨d1, d2⟩ := D
  obtain ⟨e1, e2⟩ := E
  have : d2 = e2 := by funext a b c; exact h2 a b c
  subst this
  have h1 : d1 = e1 := h1
  rw [h1]
theorem wl_up (D : mz_D) (g o j : Nat) (f : Nat → Int64) (v : Int64) : mz_wg (wl D g o f) g o j v = wl D g o (upl f j v) := by
  refine mzD_exl rfl (fun a b c => ?_)
  by_cases h : b = o ∧ a = g
  · rw [h.1, h.2, wl_s]
    unfold upl
    by_cases hc : c = j
    · rw [hc, wg_s, if_pos rfl]
    · rw [wg_n (by omega), wl_s, if_neg hc]
  · rw [wg_n (by omega), wl_n (by omega), wl_n (by omega)]
theorem wl_id (D : mz_D) (g o : Nat) : wl D g o (D.2 g o) = D := by
  refine mzD_exl rfl (fun a b c => ?_)
  by_cases h : b = o ∧ a = g
  · rw [h.1, h.2, wl_s]
  · rw [wl_n (by omega)]
theorem p_op3 : op_3 Inv := by
  intro n D x1 x2 x3 h
  have ref : (fX8_has x1 = 0 ∨ x2 < 0 ∨ 3 < x2 ∨ x3 < 0 ∨ 60 < x3) → (fX8_has x1 = fX12_isTray x1) → ∃ (r : Int32) (D1 D2 : mz_D), fX11_tray x1 x2 x3 D = some (r, D1) ∧ fX12_tray x1 x2 x3 D1 = some (r, D2) ∧ Inv (n + 1) D2 := by
    intro hx he0
    refine q_look h (r := 0) (v := 1) ?_ (fun E he => ?_)
    · unfold fX11_tray
      by_cases c1 : fX8_has x1 = 0
      · rw [if_pos c1]
      · by_cases c2 : x2 < 0
        · rw [if_neg c1, if_pos c2]
        · by_cases c3 : 3 < x2
          · rw [if_neg c1, if_neg c2, if_pos c3]
          · by_cases c4 : x3 < 0
            · rw [if_neg c1, if_neg c2, if_neg c3, if_pos c4]
            · rw [if_neg c1, if_neg c2, if_neg c3, if_neg c4, if_neg (Int32.not_le.mpr (by rcases hx with h | h | h | h | h <;> first | exact absurd h c1 | exact absurd h c2 | exact absurd h c3 | exact absurd h c4 | exact h))]
    · unfold fX12_tray fX12_tray_26
      rw [← he0, is_e]
      by_cases c1 : fX8_has x1 = 0
      · rw [if_pos c1]; rfl
      · by_cases c2 : x2 < 0
        · rw [if_neg c1, if_pos c2]; rfl
        · by_cases c3 : 3 < x2
          · rw [if_neg c1, if_neg c2, if_pos c3]; rfl
          · by_cases c4 : x3 < 0
            · rw [if_neg c1, if_neg c2, if_neg c3, if_pos c4]; rfl
            · rw [if_neg c1, if_neg c2, if_neg c3, if_neg c4, if_neg (Int32.not_le.mpr (by rcases hx with h | h | h | h | h <;> first | exact absurd h c1 | exact absurd h c2 | exact absurd h c3 | exact absurd h c4 | exact h))]; rfl
  rcases try_or x1 with ⟨c1, c2⟩ | ⟨t, ht, rfl, c1, c2⟩
  · exact ref (Or.inl c1) (by rw [c1, c2])
  · have hh : fX8_has (nI t) = fX12_isTray (nI t) := by rw [c1, c2]
    by_cases k2 : x2 < 0
    · exact ref (Or.inr (Or.inl k2)) hh
    · by_cases k3 : 3 < x2
      · exact ref (Or.inr (Or.inr (Or.inl k3))) hh
      · by_cases k4 : x3 < 0
        · exact ref (Or.inr (Or.inr (Or.inr (Or.inl k4)))) hh
        · by_cases k5 : 60 < x3
          · exact ref (Or.inr (Or.inr (Or.inr (Or.inr k5)))) hh
          · have k5' := Int32.not_lt.mp k5
            have hs : x2 = 0 ∨ x2 = 1 ∨ x2 = 2 ∨ x2 = 3 := by grind
            obtain ⟨z, hz, rfl⟩ := nJ_of (Int32.not_lt.mp k4)
            have hz60 : z ≤ 60 := (ol_ler (c := 60) (by omega) hz).mp k5'
            obtain ⟨f, hf⟩ : ∃ f : Nat → Nat → Int64, f = fun k c => if 60 * t ≤ c ∧ c < 60 * t + k then 0 else D.2 0 7 c := ⟨_, rfl⟩
            have fs : ∀ k, upl (f k) (60 * t + k) 0 = f (k + 1) := fun k => by
              funext c
              rw [hf]
              unfold upl
              dsimp only
              by_cases e : c = 60 * t + k
              · rw [if_pos e, if_pos (by omega)]
              · rw [if_neg e]
                by_cases e2 : 60 * t ≤ c ∧ c < 60 * t + k
                · rw [if_pos e2, if_pos (by omega)]
                · rw [if_neg e2, if_neg (by omega)]
            have lay : fX8_lay (nI t) x2 (nI z) D = some (wl (mz_wi (mz_wi D 0 5 t x2) 0 6 t (nI z)) 0 7 (f 60)) := by
              unfold fX8_lay
              rw [nI_ix ht (by omega), gd_tt, nI_cl (by omega)]
              have f0 : wl (mz_wi (mz_wi D 0 5 t x2) 0 6 t (nI z)) 0 7 (f 0) = mz_wi (mz_wi D 0 5 t x2) 0 6 t (nI z) := by
                have : f 0 = (mz_wi (mz_wi D 0 5 t x2) 0 6 t (nI z)).2 0 7 := by rw [hf]; funext c; exact if_neg (by omega)
                rw [this, wl_id]
              have key : fX8_lay_17 mz_N (nI t) (nI 0) (wl (mz_wi (mz_wi D 0 5 t x2) 0 6 t (nI z)) 0 7 (f 0)) = _ := lpD (fun n s k => fX8_lay_17 n (nI t) k s) (fun k => wl (mz_wi (mz_wi D 0 5 t x2) 0 6 t (nI z)) 0 7 (f k)) 60 (r := some (wl (mz_wi (mz_wi D 0 5 t x2) 0 6 t (nI z)) 0 7 (f 60))) (fun n k hk => by
                show fX8_lay_17 (n + 1) (nI t) (nI k) _ = fX8_lay_17 n (nI t) (nI (k + 1)) _
                rw [fX8_lay_17]
                simp (disch := omega) only [r60m, nI_add, nI_ix, gd_tt, nI_cl, a1r, wl_up]
                rw [if_neg (by rw [ol_le (c := 60) (by omega) (by omega)]; omega), show t * 60 + k = 60 * t + k by omega, fs]) (fun n => by
                show fX8_lay_17 (n + 1) (nI t) (nI 60) _ = _
                rw [fX8_lay_17]
                dsimp only
                rw [if_pos (by decide)]) 60 0 mz_N rfl (N_lt (by omega))
              rw [f0] at key
              exact key
            refine q_trs h (r := 1) (v := 0) (E := wl (mz_wi (mz_wi D 0 5 t x2) 0 6 t (nI z)) 0 7 (f 60)) (fun g o j hn => ?_) ?_ (fun E he => ?_)
            · have hq : ¬ (g = 0 ∧ 5 ≤ o ∧ o ≤ 7) := fun q => hn (Or.inr q)
              exact ⟨by rw [wl_1, wi_n (by omega), wi_n (by omega)], by rw [wl_n (by omega)]; rfl⟩
            · unfold fX11_tray
              rw [if_neg (by rw [c1]; exact one_ne), if_neg k2, if_neg k3, if_neg k4, if_pos k5', lay]
              rfl
            · obtain ⟨g, hg⟩ : ∃ g : Nat → Nat → Int64, g = fun k c => if 60 * t ≤ c ∧ c < 60 * t + k then 0 else E.2 0 205 c := ⟨_, rfl⟩
              have gs : ∀ k, upl (g k) (60 * t + k) 0 = g (k + 1) := fun k => by
                funext c
                rw [hg]
                unfold upl
                dsimp only
                by_cases e : c = 60 * t + k
                · rw [if_pos e, if_pos (by omega)]
                · rw [if_neg e]
                  by_cases e2 : 60 * t ≤ c ∧ c < 60 * t + k
                  · rw [if_pos e2, if_pos (by omega)]
                  · rw [if_neg e2, if_neg (by omega)]
              refine ⟨wl (mz_wi (mz_wi E 0 203 t x2) 0 204 t (nI z)) 0 205 (g z), fun a o j hn => ?_, ?_, fun t' ht' => ?_⟩
              · have hq : ¬ (203 ≤ o ∧ o ≤ 205) := fun q => hn (Or.inr q)
                exact ⟨by rw [wl_1, wi_n (by omega), wi_n (by omega)], by rw [wl_n (by omega)]; rfl⟩
              · unfold fX12_tray
                rw [if_neg (by rw [c2]; exact one_ne), if_neg k2, if_neg k3, if_neg k4, if_pos k5', nI_ix ht (by omega), gd_tt, nI_cl (by omega)]
                have g0 : wl (mz_wi (mz_wi E 0 203 t x2) 0 204 t (nI z)) 0 205 (g 0) = mz_wi (mz_wi E 0 203 t x2) 0 204 t (nI z) := by
                  have : g 0 = (mz_wi (mz_wi E 0 203 t x2) 0 204 t (nI z)).2 0 205 := by rw [hg]; funext c; exact if_neg (by omega)
                  rw [this, wl_id]
                have key : fX12_tray_49 mz_N (nI t) (nI z) (nI 0) (wl (mz_wi (mz_wi E 0 203 t x2) 0 204 t (nI z)) 0 205 (g 0)) = _ := lpD (fun n s k => fX12_tray_49 n (nI t) (nI z) k s) (fun k => wl (mz_wi (mz_wi E 0 203 t x2) 0 204 t (nI z)) 0 205 (g k)) z (r := some (1, mz_wi (wl (mz_wi (mz_wi E 0 203 t x2) 0 204 t (nI z)) 0 205 (g z)) 0 200 2 0)) (fun n k hk => by
                  show fX12_tray_49 (n + 1) (nI t) (nI z) (nI k) _ = fX12_tray_49 n (nI t) (nI z) (nI (k + 1)) _
                  rw [fX12_tray_49]
                  simp (disch := omega) only [l60m, nI_add, nI_ix, gd_tt, nI_cl, a1r, wl_up, nJ_le]
                  rw [if_neg (by omega), gs]) (fun n => by
                  show fX12_tray_49 (n + 1) (nI t) (nI z) (nI z) _ = _
                  rw [fX12_tray_49]
                  dsimp only
                  rw [if_pos (Int32.le_refl _), is_e]
                  rfl) z 0 mz_N (by omega) (N_lt (by omega))
                rw [g0] at key
                exact key
              · by_cases e : t' = t
                · subst e
                  refine Or.inr ⟨z, hz60, ?_, ?_, ?_, ?_, fun j hj => ?_⟩
                  · rw [wl_1, wi_s]
                  · rw [wl_1, wi_s]
                  · rw [wl_1, wi_n (by omega), wi_s]; exact hs
                  · rw [wl_1, wl_1, wi_n (by omega), wi_s, wi_n (by omega), wi_s]
                  · rw [wl_s, wl_s, hf, hg]
                    dsimp only
                    rw [if_pos (by omega), if_pos (by omega)]
                · have tr := iR.tE h he ht'
                  unfold trR at tr ⊢
                  rw [wl_1, wl_1]
                  simp (disch := omega) only [wi_n]
                  rcases tr with tr | ⟨z', h1, h2, h3, h4, h5, h6⟩
                  · exact Or.inl tr
                  · refine Or.inr ⟨z', h1, h2, h3, h4, h5, fun j hj => ?_⟩
                    rw [wl_s, wl_s, hf, hg]
                    dsimp only
                    rw [if_neg (by omega), if_neg (by omega)]
                    exact h6 j hj
/-- a place of a tray, or what is wrong with it -/
theorem plc {n : Nat} {D : mz_D} (h : Inv n D) (x1 x2 : Int32) : (∃ v : Int32, (v = 1 ∨ v = 2 ∨ v = 3) ∧ fX11_placeTrouble x1 x2 D = some v ∧ ∀ E, eM D E → fX12_wrongPlace x1 x2 E = some v) ∨ ∃ t z j, t < 4 ∧ z ≤ 60 ∧ j < z ∧ x1 = nI t ∧ x2 = nI j ∧ fX11_placeTrouble x1 x2 D = some 0 ∧ ∀ E, eM D E → fX12_wrongPlace x1 x2 E = some 0 ∧ D.1 0 6 t = nI z ∧ E.1 0 203 t = D.1 0 5 t ∧ (∀ j, j < z → E.2 0 205 (60 * t + j) = D.2 0 7 (60 * t + j)) := by
  rcases try_or x1 with ⟨c1, c2⟩ | ⟨t, ht, rfl, c1, c2⟩
  · exact Or.inl ⟨1, Or.inl rfl, by unfold fX11_placeTrouble; rw [if_pos c1], fun E he => by unfold fX12_wrongPlace; rw [if_pos c2]⟩
  · have k1 : ¬ fX8_has (nI t) = 0 := by rw [c1]; exact one_ne
    have k2 : ¬ fX12_isTray (nI t) = 0 := by rw [c2]; exact one_ne
    rcases iR.trays h t ht with ⟨m1, m2⟩ | ⟨z, z1, z2, z3, z4, z5, z6⟩
    · refine Or.inl ⟨2, Or.inr (Or.inl rfl), ?_, fun E he => ?_⟩
      · unfold fX11_placeTrouble fX8_isMissing
        rw [if_neg k1, nI_ix ht (by omega), gd_tt, nI_cl (by omega), m1, if_pos rfl, Option.bind_some, if_neg one_ne]
      · unfold fX12_wrongPlace
        rw [if_neg k2, nI_ix ht (by omega), gd_tt, nI_cl (by omega), (he _ _ _ (by omega) (by omega)).1, m2, if_pos rfl]
    · have hs : ¬ D.1 0 5 t = -1 := by rcases z4 with e | e | e | e <;> rw [e] <;> decide
      have hz : ¬ nI z = -1 := fun e => (nI_ne1 (k := z) (by omega)).mp e
      have C0 : fX11_placeTrouble (nI t) x2 D = if x2 < 0 then some 3 else (Option.bind (fX8_holds (nI t) x2 1 D) fun q5 => if q5 = 0 then some 3 else some 0) := by
        unfold fX11_placeTrouble fX8_isMissing
        rw [if_neg k1, nI_ix ht (by omega), gd_tt, nI_cl (by omega), if_neg hs, Option.bind_some, if_pos rfl]
      have M0 : ∀ E, eM D E → fX12_wrongPlace (nI t) x2 E = if x2 < 0 then some 3 else if x2 < nI z then some 0 else some 3 := fun E he => by
        unfold fX12_wrongPlace
        rw [if_neg k2, nI_ix ht (by omega), gd_tt, nI_cl (by omega), (he _ _ _ (by omega) (by omega)).1, z3, if_neg hz]
      by_cases h0 : x2 < 0
      · exact Or.inl ⟨3, Or.inr (Or.inr rfl), by rw [C0, if_pos h0], fun E he => by rw [M0 E he, if_pos h0]⟩
      · obtain ⟨j, hj, rfl⟩ := nJ_of (Int32.not_lt.mp h0)
        by_cases hjz : j < z
        · refine Or.inr ⟨t, z, j, ht, z1, hjz, rfl, rfl, ?_, fun E he => ⟨?_, z2, ?_, fun j hj => ?_⟩⟩
          · rw [C0, if_neg h0]
            unfold fX8_holds
            rw [nI_ix ht (by omega), gd_tt, nI_cl (by omega), z2, if_neg (by rw [nJ_lt (by omega) hj]; omega), n_sub (by omega), if_neg (by rw [ol_ltr (c := 1) (by omega) (by omega)]; omega)]
            rfl
          · rw [M0 E he, if_neg h0, if_pos (by rw [nJ_lt hj (by omega)]; exact hjz)]
          · rw [(he _ _ _ (by omega) (by omega)).1]; exact z5
          · rw [(he _ _ _ (by omega) (by omega)).2]; exact z6 j hj
        · refine Or.inl ⟨3, Or.inr (Or.inr rfl), ?_, fun E he => by rw [M0 E he, if_neg h0, if_neg (by rw [nJ_lt hj (by omega)]; exact hjz)]⟩
          rw [C0, if_neg h0]
          unfold fX8_holds
          rw [nI_ix ht (by omega), gd_tt, nI_cl (by omega), z2]
          by_cases e : j = z
          · subst e
            rw [if_neg (Int32.lt_irrefl), n_sub (Nat.le_refl _), if_pos (by rw [Nat.sub_self]; decide)]
            rfl
          · rw [if_pos (by rw [nJ_lt (by omega) hj]; omega)]
            rfl
theorem v_ne0 {v : Int32} (h : v = 1 ∨ v = 2 ∨ v = 3) : ¬ v = 0 := by rcases h with rfl | rfl | rfl <;> decide
theorem p_op5 : op_5 Inv := by
  intro n D x1 x2 h
  rcases plc h x1 x2 with ⟨v, hv, e1, e2⟩ | ⟨t, z, j, ht, hz, hj, rfl, rfl, e1, e2⟩
  · refine q_lookL h (r := -1) (v := v) ?_ (fun E he => ?_)
    · unfold fX11_read
      rw [e1, Option.bind_some, if_neg (v_ne0 hv)]
      rfl
    · unfold fX12_read
      rw [e2 E he, Option.bind_some, if_neg (by rcases hv with rfl | rfl | rfl <;> decide)]
  · refine q_lookL h (r := D.2 0 7 (60 * t + j)) (v := 0) ?_ (fun E he => ?_)
    · unfold fX11_read fX8_get
      rw [e1, Option.bind_some, if_pos rfl]
      simp (disch := omega) only [r60m, nI_add, nI_ix, gd_tt, nI_cl, Option.bind_some]
      rw [show t * 60 + j = 60 * t + j by omega]
      rfl
    · obtain ⟨k1, k2, k3, k4⟩ := e2 E he
      unfold fX12_read
      rw [k1, Option.bind_some, if_pos (by decide)]
      simp (disch := omega) only [l60m, nI_add, nI_ix, gd_tt, nI_cl, k4 j hj]
theorem p_op4 : op_4 Inv := by
  intro n D x1 x2 y3 h
  rcases plc h x1 x2 with ⟨v, hv, e1, e2⟩ | ⟨t, z, j, ht, hz, hj, rfl, rfl, e1, e2⟩
  · refine q_look h (r := 0) (v := v) ?_ (fun E he => ?_)
    · unfold fX11_write
      rw [e1, Option.bind_some, if_neg (v_ne0 hv)]
    · unfold fX12_write fX12_write_34
      rw [e2 E he, Option.bind_some, if_neg (v_ne0 hv), is_e, if_neg (v_ne0 hv)]
  · refine q_trs h (r := 1) (v := 0) (E := mz_wg D 0 7 (60 * t + j) (fX8_cut (D.1 0 5 t) y3)) (fun g o c hn => ?_) ?_ (fun E he => ?_)
    · have hq : ¬ (g = 0 ∧ 5 ≤ o ∧ o ≤ 7) := fun q => hn (Or.inr q)
      exact ⟨rfl, by rw [wg_n (by omega)]⟩
    · unfold fX11_write fX8_put
      rw [e1, Option.bind_some, if_pos rfl]
      simp (disch := omega) only [r60m, nI_add, nI_ix, gd_tt, nI_cl, Option.bind_some]
      rw [show t * 60 + j = 60 * t + j by omega]
    · obtain ⟨k1, k2, k3, k4⟩ := e2 E he
      refine ⟨mz_wg E 0 205 (60 * t + j) (fX8_cut (D.1 0 5 t) y3), fun g o c hn => ?_, ?_, fun t' ht' => ?_⟩
      · have hq : ¬ (203 ≤ o ∧ o ≤ 205) := fun q => hn (Or.inr q)
        exact ⟨rfl, by rw [wg_n (by omega)]⟩
      · unfold fX12_write fX12_write_34
        rw [k1, Option.bind_some, if_pos rfl]
        simp (disch := omega) only [l60m, nI_add, nI_ix, gd_tt, nI_cl, k3]
        rw [is_e]
        rfl
      · have tr := iR.tE h he ht'
        unfold trR at tr ⊢
        rcases tr with tr | ⟨z', h1, h2, h3, h4, h5, h6⟩
        · exact Or.inl tr
        · refine Or.inr ⟨z', h1, h2, h3, h4, h5, fun i hi => ?_⟩
          by_cases e : 60 * t' + i = 60 * t + j
          · rw [e, wg_s, wg_s]
          · rw [wg_n (by omega), wg_n (by omega)]
            exact h6 i hi
