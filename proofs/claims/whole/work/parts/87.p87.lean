/-! ===== a year: lived ===== -/
def uK (g : Nat) (D E : mz_D) : Prop := (∀ a o j, ¬ ((a = g ∧ 100 ≤ o ∧ o < 119 ∧ o ≠ 109) ∨ (a = 0 ∧ (o = 9 ∨ o = 10 ∨ o = 11))) → E.1 a o j = D.1 a o j) ∧ E.2 = D.2
def uN (D E : mz_D) : Prop := (∀ a o j, ¬ (a = 0 ∧ ((o = 201 ∧ j < 128 ∧ j ≠ 9) ∨ (o = 200 ∧ (j = 28 ∨ j = 29)) ∨ o = 212 ∨ o = 213)) → E.1 a o j = D.1 a o j) ∧ E.2 = D.2
theorem uK.tr {g : Nat} {D E F : mz_D} (h1 : uK g D E) (h2 : uK g E F) : uK g D F := ⟨fun a o j h => by rw [h2.1 a o j h, h1.1 a o j h], by rw [h2.2, h1.2]⟩
theorem uN.tr {D E F : mz_D} (h1 : uN D E) (h2 : uN E F) : uN D F := ⟨fun a o j h => by rw [h2.1 a o j h, h1.1 a o j h], by rw [h2.2, h1.2]⟩
theorem fC.u {g : Nat} {D E : mz_D} (h : fC g D E) : uK g D E := ⟨fun a o j hn => h.1 a o j (by omega), h.2⟩
theorem hC.u {g : Nat} {D E : mz_D} (h : hC D E) : uK g D E := ⟨fun a o j hn => h.1 a o j (by omega), h.2⟩
theorem fM.u {D E : mz_D} (h : fM D E) : uN D E := ⟨fun a o j hn => h.1 a o j (by omega), h.2⟩
theorem hM.u {D E : mz_D} (h : hM D E) : uN D E := ⟨fun a o j hn => h.1 a o j (by omega), h.2⟩
def eS (n g B : Nat) (v : Nat → Int32) (m d gs ins : Nat) (Dc0 Dm0 Dc Dm : mz_D) : Prop := ∃ s, s ≤ 300 ∧ cR n g (B + s) v m d gs ins Dc Dm ∧ Dc.1 0 9 0 = nI s ∧ Dm.1 0 200 29 = nI s ∧ ((Dc.1 0 9 5 = 0 ∧ Dm.1 0 213 4 = 0) ∨ (Dc.1 0 9 5 = 1 ∧ Dm.1 0 213 4 = 1)) ∧ uK g Dc0 Dc ∧ uN Dm0 Dm
theorem eS.pre {n g B : Nat} {v : Nat → Int32} {m d gs ins : Nat} {Dc0 Dm0 Dc1 Dm1 Dc Dm : mz_D} (h : eS n g B v m d gs ins Dc1 Dm1 Dc Dm) (h1 : uK g Dc0 Dc1) (h2 : uN Dm0 Dm1) : eS n g B v m d gs ins Dc0 Dm0 Dc Dm := by
  obtain ⟨s, a1, a2, a3, a4, a5, a6, a7⟩ := h
  exact ⟨s, a1, a2, a3, a4, a5, h1.tr a6, h2.tr a7⟩
theorem cR.mono {n g B B' : Nat} {v : Nat → Int32} {m d gs ins : Nat} {Dc Dm : mz_D} (h : cR n g B v m d gs ins Dc Dm) (hB : B ≤ B') : cR n g B' v m d gs ins Dc Dm := by
  obtain ⟨t, h2, h3⟩ := h
  exact ⟨t, fun p hp => by have := h2 p hp; unfold bd at *; omega, h3⟩
theorem yS.fr {g N S : Nat} {w a : Nat → Nat → Int32} {Dc Dm Dc' Dm' : mz_D} (hg : g ≠ 0) (h : yS g N S w a Dc Dm) (f1 : uK g Dc Dc') (f2 : uN Dm Dm') : yS g N S w a Dc' Dm' := by
  obtain ⟨h1, h2, h3, h4⟩ := h
  exact ⟨by rw [f1.1 _ _ _ (by omega)]; exact h1, by rw [f2.1 _ _ _ (by omega)]; exact h2, fun o j ho1 ho2 => by rw [f1.1 _ _ _ (by omega)]; exact h3 o j ho1 ho2, fun k i hk hi => by rw [f2.1 _ _ _ (by omega)]; exact h4 k i hk hi⟩
theorem stop1 {g n1 : Nat} {x : Int32} {x5 : Nat} (h1 : 1 ≤ n1) (h5 : x5 < 1000000) {D : mz_D} (h6 : D.1 0 9 6 = 1) : fX3_run_38 g n1 x (nI x5) D = some D := by
  obtain ⟨n1, rfl⟩ : ∃ n', n1 = n' + 1 := ⟨n1 - 1, by omega⟩
  rw [fX3_run_38]
  dsimp only
  rw [if_neg (by show ¬ nI 1000000 ≤ nI x5; rw [nJ_le (by omega) (by omega)]; omega), h6, if_neg one_ne]
theorem m6r (i : Nat) : (130 : Int32) + (6 : Int32) * nI i = nI (130 + 6 * i) := by
  show nI 130 + nI 6 * nI i = _
  rw [nI_mul, nI_add]
theorem pot_sm {c : Nat → Nat} {Dc Dm : mz_D} : ∀ (l xs : List Nat), stk c Dc Dm l xs → sm xs ≤ 98 * l.length := by
  intro l
  induction l with
  | nil => intro xs h; cases xs with | nil => exact Nat.le_refl _ | cons _ _ => exact absurd h (fun x => x)
  | cons o r ih =>
    intro xs h
    cases xs with
    | nil => exact absurd h (fun x => x)
    | cons x xs =>
      obtain ⟨⟨-, -, -, a4⟩, a5⟩ := h
      have := ih xs a5
      rw [List.length_cons]
      show x + sm xs ≤ _
      omega
theorem runS {n g B : Nat} {v : Nat → Int32} {m d gs ins N S : Nat} {w a : Nat → Nat → Int32} {c e : Nat → Nat} {enc : Nat → List Nat} (hg : g ≠ 0) (hB : B + 300 ≤ 301 * n) (hn : n ≤ 601) (Y : yB m N S w a c e enc) : ∀ r s, s + r = 300 → ∀ k xs Dc Dm n1 n2 x5, k ≤ N → (k = N ∨ a k 0 ≠ 26) → pS n g B v m d gs ins N S w a c s (enc k) xs Dc Dm → x5 + pot xs ≤ 100 * s → 200000 ≤ n1 + x5 → 1000 ≤ n2 + s → ∃ Dc' Dm', fX3_run_38 g n1 (nI (c k)) (nI x5) Dc = some Dc' ∧ fX12_lives_32 n2 (nI k) Dm = some Dm' ∧ eS n g B v m d gs ins Dc Dm Dc' Dm' := by
  have hN := Y.hN
  have hS := Y.hS
  -- at the end
  have atN : ∀ s xs Dc Dm n1 n2 x5, s ≤ 300 → pS n g B v m d gs ins N S w a c s (enc N) xs Dc Dm → x5 + pot xs ≤ 100 * s → 200000 ≤ n1 + x5 → 1000 ≤ n2 + s → ∃ Dc' Dm', fX3_run_38 g n1 (nI (c N)) (nI x5) Dc = some Dc' ∧ fX12_lives_32 n2 (nI N) Dm = some Dm' ∧ eS n g B v m d gs ins Dc Dm Dc' Dm' := by
    intro s xs Dc Dm n1 n2 x5 hs h hx h1 h2
    obtain ⟨n1, rfl⟩ : ∃ n', n1 = n' + 1 := ⟨n1 - 1, by omega⟩
    obtain ⟨n2, rfl⟩ : ∃ n', n2 = n' + 1 := ⟨n2 - 1, by omega⟩
    obtain ⟨p1, p2, ⟨q1, q2, q3⟩, p3, p4, p5, p6⟩ := h
    refine ⟨mz_wi Dc 0 9 6 1, Dm, ?_, ?_, s, hs, p1.oth (hC_wi (by omega)) hM.rf, by rw [wi_n (by omega)]; exact p3, p4, Or.inl ⟨by rw [wi_n (by omega)]; exact p5, p6⟩, (hC_wi (by omega)).u, hM.rf.u⟩
    · rw [fX3_run_38]
      dsimp only
      rw [if_neg (by show ¬ nI 1000000 ≤ nI x5; rw [nJ_le (by omega) (by omega)]; omega), q2, if_pos rfl, q1, Y.eN, if_pos (by decide)]
      unfold fX3_run_91 fX3_run_105
      rw [if_neg (fun x => (nI_neg (by rw [Y.cN]; omega)).mp x), p2.1, Y.cN, if_neg (by rw [nJ_lt (by omega) (by omega)]; omega), a1r]
      exact stop1 (by omega) (by omega) (wi_s _ _ _ _ _)
    · rw [fX12_lives_32]
      dsimp only
      rw [z9, p2.2.1, if_pos (Int32.le_refl _)]
  -- the class comes to a step
  have go91 : ∀ s k xs Dc Dm n1 x5, k < N → a k 0 ≠ 26 → s ≤ 300 → pS n g B v m d gs ins N S w a c s (enc k) xs Dc Dm → x5 < 1000000 → c (k + 1) = c k + 1 ∧ c k < S ∧ fX3_run_38 g (n1 + 1) (nI (c k)) (nI x5) Dc = (if nI s < (300 : Int32) then (Option.bind (fX3_comeTo g (nI (c k)) (mz_wi Dc 0 9 0 (nI (s + 1)))) fun q4 => fX3_run_38 g n1 q4.1 (nI (x5 + 1)) q4.2) else fX3_run_38 g n1 (nI (c k)) (nI (x5 + 1)) (mz_wi (mz_wi Dc 0 9 5 1) 0 9 6 1)) := by
    intro s k xs Dc Dm n1 x5 hk h26 hs h hx
    obtain ⟨p1, p2, ⟨q1, q2, q3⟩, p3, p4, p5, p6⟩ := h
    have hc : c (k + 1) = c k + 1 ∧ ∀ o, o ∈ enc k → o ∈ enc (k + 1) := by
      rcases Y.row k hk with ⟨h1, h2, h3⟩ | ⟨h1, h2, h3, -⟩ | ⟨h1, h2, h3, -⟩ | ⟨h1, h2, h3⟩
      · exact ⟨h1, fun o ho => by rw [h2]; exact ho⟩
      · exact ⟨h1, fun o ho => by rw [h2]; exact List.mem_cons_of_mem _ ho⟩
      · exact ⟨h1, fun o ho => by rw [h2]; exact ho⟩
      · exact absurd h2 h26
    obtain ⟨hc1, hc2⟩ := hc
    have ckS := Y.c30 hk hc1
    refine ⟨hc1, ckS, ?_⟩
    have r91 : fX3_run_91 g (fX3_run_38 g n1) (nI (c k)) (nI x5) Dc = (if nI s < (300 : Int32) then (Option.bind (fX3_comeTo g (nI (c k)) (mz_wi Dc 0 9 0 (nI (s + 1)))) fun q4 => fX3_run_38 g n1 q4.1 (nI (x5 + 1)) q4.2) else fX3_run_38 g n1 (nI (c k)) (nI (x5 + 1)) (mz_wi (mz_wi Dc 0 9 5 1) 0 9 6 1)) := by
      unfold fX3_run_91
      rw [if_neg (fun x => (nI_neg (by omega)).mp x), p2.1, if_pos (by rw [nJ_lt (by omega) (by omega)]; omega), p3, a1r, a1r]
    rw [fX3_run_38]
    dsimp only
    rw [if_neg (by show ¬ nI 1000000 ≤ nI x5; rw [nJ_le (by omega) (by omega)]; omega), q2, if_pos rfl, q1]
    cases hl : enc k with
    | nil => rw [List.length_nil, if_pos (by decide), r91]
    | cons o l =>
      have l3 := Y.le3 k (by omega)
      rw [hl, List.length_cons] at l3
      obtain ⟨o1, o2, o3, o4, o5⟩ := Y.ein k (by omega) o (by rw [hl]; exact List.mem_cons_self ..)
      have oo := (Y.ein (k + 1) (by omega) o (hc2 o (by rw [hl]; exact List.mem_cons_self ..))).2.1
      have cob := Y.c30 (show o < N by omega) (Y.lp25 (by omega) o4).1
      have ce := Y.cm (e o - (k + 1)) (k + 1) (by omega)
      rw [show k + 1 + (e o - (k + 1)) = e o by omega] at ce
      have ceS := Y.cm (N - e o) (e o) (by omega)
      rw [show e o + (N - e o) = N by omega, Y.cN] at ceS
      rw [hl] at q3
      cases xs with
      | nil => exact absurd q3 (fun x => x)
      | cons x xs =>
        obtain ⟨⟨b1, b2, b3, b4⟩, b5⟩ := q3
        rw [List.length_cons, if_neg (by show ¬ nI _ ≤ nI 0; rw [nJ_le (by omega) (by omega)]; omega), show nI (l.length + 1) - (1 : Int32) = nI l.length from n_sub (b := 1) (by omega), nI_ix (by omega) (by omega), gd_tt, nI_cl (by omega), b1, nI_ix (by omega) (by omega), gd_tt, nI_cl (by omega), p2.2.2.1 126 _ (by omega) (by omega), o5, if_pos (by rw [nJ_lt (by omega) (by omega)]; omega), r91]
  intro r
  induction r with
  | zero =>
    intro s hs k xs Dc Dm n1 n2 x5 hk hk26 h hx h1 h2
    have hs : s = 300 := by omega
    subst hs
    by_cases ek : k = N
    · subst ek; exact atN 300 xs Dc Dm n1 n2 x5 (by omega) h hx h1 h2
    · have hkN : k < N := by omega
      have h26 : a k 0 ≠ 26 := by rcases hk26 with x | x; exact absurd x ek; exact x
      obtain ⟨n1, rfl⟩ : ∃ n', n1 = n' + 1 := ⟨n1 - 1, by omega⟩
      obtain ⟨n2, rfl⟩ : ∃ n', n2 = n' + 1 := ⟨n2 - 1, by omega⟩
      obtain ⟨c1, c2, c3⟩ := go91 300 k xs Dc Dm n1 x5 hkN h26 (by omega) h (by omega)
      obtain ⟨p1, p2, ⟨q1, q2, q3⟩, p3, p4, p5, p6⟩ := h
      refine ⟨mz_wi (mz_wi Dc 0 9 5 1) 0 9 6 1, mz_wi Dm 0 213 4 1, ?_, ?_, 300, Nat.le_refl _, p1.oth ((hC_wi (by omega)).tr (hC_wi (by omega))) (hM_wi (by omega)), by rw [wi_n (by omega), wi_n (by omega)]; exact p3, by rw [wi_n (by omega)]; exact p4, Or.inr ⟨by rw [wi_n (by omega), wi_s], wi_s _ _ _ _ _⟩, ((hC_wi (by omega)).tr (hC_wi (by omega))).u, (hM_wi (by omega)).u⟩
      · rw [c3, if_neg (by decide)]
        exact stop1 (by omega) (by omega) (wi_s _ _ _ _ _)
      · rw [fX12_lives_32]
        dsimp only
        rw [z9, p2.2.1, if_neg (by rw [nJ_le (by omega) (by omega)]; omega), p4, if_pos (by decide), z4]
  | succ r ih =>
    intro s hs k xs Dc Dm n1 n2 x5 hk hk26 h hx h1 h2
    by_cases ek : k = N
    · subst ek; exact atN s xs Dc Dm n1 n2 x5 (by omega) h hx h1 h2
    · have hkN : k < N := by omega
      have h26 : a k 0 ≠ 26 := by rcases hk26 with x | x; exact absurd x ek; exact x
      obtain ⟨n1, rfl⟩ : ∃ n', n1 = n' + 1 := ⟨n1 - 1, by omega⟩
      obtain ⟨n2, rfl⟩ : ∃ n', n2 = n' + 1 := ⟨n2 - 1, by omega⟩
      obtain ⟨c1, c2, c3⟩ := go91 s k xs Dc Dm n1 x5 hkN h26 (by omega) h (by omega)
      rw [if_pos (by show nI s < nI 300; rw [nJ_lt (by omega) (by omega)]; omega)] at c3
      obtain ⟨p1, p2, ⟨q1, q2, q3⟩, p3, p4, p5, p6⟩ := h
      have r0 : Dm.1 0 201 (130 + 6 * k) = a k 0 := p2.2.2.2 k 0 hkN (by omega)
      -- the reference comes to a step
      have M0 : fX12_lives_32 (n2 + 1) (nI k) Dm = if a k 0 = 27 then some (mz_wi Dm 0 200 29 (nI (s + 1))) else Option.bind (fX12_does (nI (130 + 6 * k)) (mz_wi Dm 0 200 29 (nI (s + 1)))) fun q5 => fX12_lives_112 (fX12_lives_32 n2) (nI k) (nI (130 + 6 * k)) (if q5.1 = 0 then 1 else 0) (Dm.1 0 213 0) 0 q5.2 := by
        rw [fX12_lives_32]
        dsimp only
        rw [z9, p2.2.1, if_neg (by rw [nJ_le (by omega) (by omega)]; omega), p4, if_neg (by show ¬ nI s = nI 300; rw [nJ_eq (by omega) (by omega)]; omega), m6r, nI_ix (by omega) (by omega), gd_tt, nI_cl (by omega), r0, a1r, z0]
        congr 1
        congr 1
        funext q5
        by_cases e : q5.1 = 0
        · rw [if_pos e, if_pos e]
        · rw [if_neg e, if_neg e]
      -- behind a step
      have nx : ∀ k1 xs1 Dc2 Dm3, k1 ≤ N → pS n g B v m d gs ins N S w a c (s + 1) (enc k1) xs1 Dc2 Dm3 → x5 + 1 + pot xs1 ≤ 100 * (s + 1) → uK g Dc Dc2 → uN Dm Dm3 → ∃ Dc' Dm', fX3_run_38 g n1 (nI (c k1)) (nI (x5 + 1)) Dc2 = some Dc' ∧ fX12_lives_178 (fX12_lives_32 n2) (nI k1) Dm3 = some Dm' ∧ eS n g B v m d gs ins Dc Dm Dc' Dm' := by
        intro k1 xs1 Dc2 Dm3 hk1 hp hx1 u1 u2
        have sb := pot_sm _ _ hp.2.2.1.2.2
        have l3 := Y.le3 k1 hk1
        obtain ⟨k', xs', Dc', Dm', j, i1, i2, i3, i4, i5, i6, i7, i8⟩ := endsS hg Y (s + 1) (61 * sm xs1 + (N - k1)) k1 xs1 Dc2 Dm3 mz_N (Nat.le_refl _) hk1 (N_lt (by omega)) hp
        obtain ⟨Dc'', Dm'', j1, j2, j3⟩ := ih (s + 1) (by omega) k' xs' Dc' Dm' (n1 - j) n2 (x5 + 1 + j) i1 i2 i3 (by omega) (by omega) (by omega)
        refine ⟨Dc'', Dm'', ?_, ?_, j3.pre (u1.tr i5.u) (u2.tr i6.u)⟩
        · have := i8 (n1 - j) (x5 + 1) (by omega)
          rw [show n1 - j + j = n1 by omega] at this
          rw [this, j1]
        · unfold fX12_lives_178 fX12_behindEnds
          rw [i7, Option.bind_some, j2]
      have f1 : hC Dc (mz_wi Dc 0 9 0 (nI (s + 1))) := hC_wi (by omega)
      have f2 : hM Dm (mz_wi Dm 0 200 29 (nI (s + 1))) := hM_wi (by omega)
      have g1 := p1.oth f1 f2
      have g2 := p2.oth hg f1 f2
      have ha : ∀ i, i < 6 → (mz_wi Dm 0 200 29 (nI (s + 1))).1 0 201 (130 + 6 * k + i) = a k i := fun i hi => g2.2.2.2 k i hkN hi
      have hw : ∀ o, 120 ≤ o → o ≤ 126 → (mz_wi Dc 0 9 0 (nI (s + 1))).1 g o (c k) = w o (c k) := fun o h1 h2 => g2.2.2.1 o (c k) h1 h2
      have i0 : mz_ix (0 : Int32) 5 = true := by decide
      have m0 : (mz_wi Dm 0 200 29 (nI (s + 1))).1 0 213 0 = Dm.1 0 213 0 := wi_n (by omega)
      have hp1 : pS n g B v m d gs ins N S w a c (s + 1) (enc k) xs (mz_wi Dc 0 9 0 (nI (s + 1))) (mz_wi Dm 0 200 29 (nI (s + 1))) := by
        refine ⟨g1.mono (by omega), g2, ⟨by rw [wi_n (by omega)]; exact q1, by rw [wi_n (by omega)]; exact q2, stk_c _ _ q3 (fun i _ => ⟨wi_n (by omega), wi_n (by omega)⟩) (fun o _ => wi_n (by omega))⟩, wi_s _ _ _ _ _, wi_s _ _ _ _ _, by rw [wi_n (by omega)]; exact p5, by rw [wi_n (by omega)]; exact p6⟩
      have id0 : mz_wi (mz_wi Dm 0 200 29 (nI (s + 1))) 0 213 0 (Dm.1 0 213 0 + 0) = mz_wi Dm 0 200 29 (nI (s + 1)) := wi_id (by rw [m0, add0])
      rcases Y.row k hkN with ⟨-, en, y⟩ | ⟨-, en, a25, w120, w125, yb⟩ | ⟨-, en, y, e1, e2, a4, w126, en2, ce⟩ | ⟨-, x, -⟩
      · have y' : yF m (fun o => (mz_wi Dc 0 9 0 (nI (s + 1))).1 g o (c k)) (a k) := y.congr (fun o h1 h2 => hw o h1 h2) (fun i _ => rfl)
        by_cases e27 : a k 0 = 27
        · have w28 : w 120 (c k) = 28 := by
            unfold yF at y
            dsimp only at y
            rcases y with ⟨h, _⟩ | ⟨h, _⟩ | ⟨h | h, _⟩ | ⟨h, _⟩ | ⟨h, h'⟩
            · rw [e27] at h; exact absurd h (by decide)
            · rw [e27] at h; exact absurd h (by decide)
            · rw [e27] at h; exact absurd h (by decide)
            · rw [e27] at h; exact absurd h (by decide)
            · rw [e27] at h; exact absurd h (by decide)
            · exact h'
          refine ⟨mz_wi (mz_wi Dc 0 9 0 (nI (s + 1))) 0 9 6 1, mz_wi Dm 0 200 29 (nI (s + 1)), ?_, by rw [M0, if_pos e27], s + 1, by omega, (g1.oth (hC_wi (by omega)) hM.rf).mono (by omega), by rw [wi_n (by omega), wi_s], wi_s _ _ _ _ _, Or.inl ⟨by rw [wi_n (by omega), wi_n (by omega)]; exact p5, by rw [wi_n (by omega)]; exact p6⟩, (f1.tr (hC_wi (by omega))).u, f2.u⟩
          rw [c3]
          unfold fX3_comeTo
          rw [nI_ix (by omega) (by omega), gd_tt, nI_cl (by omega), hw 120 (by omega) (by omega), w28, if_neg (by decide), if_neg (by decide), if_neg (by decide), if_neg (by decide), if_neg (by decide), if_neg (by decide), if_neg (by decide), if_neg (by decide), if_neg (by decide), if_neg (by decide), Option.bind_some]
          exact stop1 (by omega) (by omega) (wi_s _ _ _ _ _)
        · obtain ⟨Dc2, q, s1, s2, s3⟩ := stepF hg g1 (by omega) hn (by omega) (show 130 + 6 * k < 2900 by omega) ha y' e27
          obtain ⟨t1, t2, t3, t4, t5⟩ := s3
          rw [m0] at t5
          have row : q.2.1 0 201 (130 + 6 * k) = a k 0 := by rw [t3.1 _ _ _ (by omega)]; exact ha 0 (by omega)
          have lt : a k 0 < 2400 := by
            unfold yF at y
            dsimp only at y
            rcases y with ⟨h, _⟩ | ⟨h, _⟩ | ⟨h | h, _⟩ | ⟨h, _⟩ | ⟨h, _⟩ <;> rw [h] <;> decide
          have uM4 : uN Dm (mz_wi q.2 0 213 0 (Dm.1 0 213 0 + if q.1 = 0 then 1 else 0)) := (f2.u.tr t3.u).tr (fM_wi (by omega)).u
          have uC4 : uK g Dc Dc2 := f1.u.tr t2.u
          have hp : pS n g B v m d gs ins N S w a c (s + 1) (enc (k + 1)) xs Dc2 (mz_wi q.2 0 213 0 (Dm.1 0 213 0 + if q.1 = 0 then 1 else 0)) := by
            rw [en]
            obtain ⟨-, -, ⟨r1, r2, r3⟩, r4, r5, r6, r7⟩ := hp1
            refine ⟨t5, p2.fr hg uC4 uM4, ⟨by rw [t2.1 _ _ _ (by omega)]; exact r1, by rw [t2.1 _ _ _ (by omega)]; exact r2, stk_c _ _ r3 (fun i _ => ⟨t2.1 _ _ _ (by omega), t2.1 _ _ _ (by omega)⟩) (fun o _ => by rw [wi_n (by omega), t3.1 _ _ _ (by omega)])⟩, by rw [t2.1 _ _ _ (by omega)]; exact r4, by rw [wi_n (by omega), t3.1 _ _ _ (by omega)]; exact r5, by rw [t2.1 _ _ _ (by omega)]; exact r6, by rw [wi_n (by omega), t3.1 _ _ _ (by omega)]; exact r7⟩
          obtain ⟨Dc', Dm', n1', n2', n3'⟩ := nx (k + 1) xs Dc2 _ (by omega) hp (by omega) uC4 uM4
          refine ⟨Dc', Dm', ?_, ?_, n3'⟩
          · rw [c3, s1, Option.bind_some]
            dsimp only
            rw [← c1]
            exact n1'
          · rw [M0, if_neg e27, s2, Option.bind_some]
            unfold fX12_lives_112
            rw [i0, gd_tt, nI_ix (by omega) (by omega), gd_tt, nI_cl (by omega), row, if_neg y.n25, z0]
            unfold fX12_lives_141 fX12_lives_175
            rw [nI_ix (by omega) (by omega), gd_tt, nI_cl (by omega), wi_n (by omega), row, if_pos lt, a1r]
            exact n2'
      · obtain ⟨z, hz, ez⟩ := nJ_of (i_le.mpr (by have : (0 : Int32).toInt = 0 := rfl; unfold bd at yb; omega) : 0 ≤ a k 1)
        rw [ez] at yb w125
        unfold bd at yb
        rw [nI_toInt hz] at yb
        have l3 := Y.le3 (k + 1) (by omega)
        rw [en, List.length_cons] at l3
        obtain ⟨-, -, ⟨r1, r2, r3⟩, r4, r5, r6, r7⟩ := id hp1
        have f3 : hC (mz_wi Dc 0 9 0 (nI (s + 1))) (mz_wi (mz_wi (mz_wi (mz_wi Dc 0 9 0 (nI (s + 1))) 0 10 (enc k).length (nI (c k))) 0 11 (enc k).length (nI (z - 1))) 0 9 8 (nI ((enc k).length + 1))) := ((hC_wi (by omega)).tr (hC_wi (by omega))).tr (hC_wi (by omega))
        have f4 : hM (mz_wi Dm 0 200 29 (nI (s + 1))) (mz_wi (mz_wi Dm 0 200 29 (nI (s + 1))) 0 212 k (nI (z - 1))) := hM_wi (by omega)
        have hp : pS n g B v m d gs ins N S w a c (s + 1) (enc (k + 1)) ((z - 1) :: xs) (mz_wi (mz_wi (mz_wi (mz_wi Dc 0 9 0 (nI (s + 1))) 0 10 (enc k).length (nI (c k))) 0 11 (enc k).length (nI (z - 1))) 0 9 8 (nI ((enc k).length + 1))) (mz_wi (mz_wi Dm 0 200 29 (nI (s + 1))) 0 212 k (nI (z - 1))) := by
          rw [en]
          refine ⟨hp1.1.oth f3 f4, g2.oth hg f3 f4, ⟨by rw [wi_s, List.length_cons], by rw [wi_n (by omega), wi_n (by omega), wi_n (by omega)]; exact r2, ⟨by rw [wi_n (by omega), wi_n (by omega), wi_s], by rw [wi_n (by omega), wi_s], wi_s _ _ _ _ _, by omega⟩, stk_c _ _ r3 (fun i hi => ⟨by rw [wi_n (by omega), wi_n (by omega), wi_n (by omega)], by rw [wi_n (by omega), wi_n (by omega), wi_n (by omega)]⟩) (fun o ho => ?_)⟩, by rw [wi_n (by omega), wi_n (by omega), wi_n (by omega)]; exact r4, by rw [wi_n (by omega)]; exact r5, by rw [wi_n (by omega), wi_n (by omega), wi_n (by omega)]; exact r6, by rw [wi_n (by omega)]; exact r7⟩
          have := (Y.ein k (by omega) o ho).1
          exact wi_n (by omega)
        obtain ⟨Dc', Dm', n1', n2', n3'⟩ := nx (k + 1) ((z - 1) :: xs) _ _ (by omega) hp (by show x5 + 1 + (z - 1 + 1 + pot xs) ≤ _; omega) (f1.u.tr f3.u) (f2.u.tr f4.u)
        have row : (mz_wi Dm 0 200 29 (nI (s + 1))).1 0 201 (130 + 6 * k) = 25 := by rw [← a25]; exact ha 0 (by omega)
        refine ⟨Dc', Dm', ?_, ?_, n3'⟩
        · rw [c3]
          unfold fX3_comeTo fX3_enter
          rw [nI_ix (by omega) (by omega), gd_tt, nI_cl (by omega), hw 120 (by omega) (by omega), w120, if_neg (by decide), if_neg (by decide), if_neg (by decide), if_neg (by decide), if_neg (by decide), if_neg (by decide), if_neg (by decide), if_neg (by decide), if_neg (by decide), if_pos rfl, hw 125 (by omega) (by omega), w125, r1, if_neg (by show ¬ nI 3 ≤ nI _; rw [nJ_le (by omega) (by omega)]; omega), nI_ix (by omega) (by omega), gd_tt, nI_cl (by omega), show nI z - (1 : Int32) = nI (z - 1) from n_sub (b := 1) (by omega), a1r, a1r, Option.bind_some, Option.bind_some]
          dsimp only
          rw [← c1]
          exact n1'
        · rw [M0, if_neg (by rw [a25]; decide), does0 (by omega) (by rw [row]; decide), Option.bind_some]
          dsimp only
          unfold fX12_lives_112
          rw [i0, gd_tt, nI_ix (by omega) (by omega), gd_tt, nI_cl (by omega), row, if_pos rfl, a1r, nI_ix (by omega) (by omega), gd_tt, nI_ix (by omega) (by omega), gd_tt, nI_cl (by omega), nI_cl (by omega), z0, if_neg one_ne, id0, ha 1 (by omega), ez, show nI z - (1 : Int32) = nI (z - 1) from n_sub (b := 1) (by omega)]
          unfold fX12_lives_141 fX12_lives_175
          rw [nI_ix (by omega) (by omega), gd_tt, nI_cl (by omega), wi_n (by omega), row, if_pos (by decide), a1r]
          exact n2'
      · have y' : yT m (fun o => (mz_wi Dc 0 9 0 (nI (s + 1))).1 g o (c k)) (a k) := y.congr (fun o h1 h2 => hw o h1 h2) (fun i _ => rfl)
        have row : (mz_wi Dm 0 200 29 (nI (s + 1))).1 0 201 (130 + 6 * k) = a k 0 := ha 0 (by omega)
        obtain ⟨b, b1, b2⟩ := holdsS g1.1 (by omega) (show 130 + 6 * k < 2900 by omega) ha y'
        have vals : a k 0 ≠ 27 ∧ ¬ a k 0 < 2400 ∧ (a k 0 ≠ 17 ∧ a k 0 ≠ 18 ∧ a k 0 ≠ 19 ∧ a k 0 ≠ 20 ∧ a k 0 ≠ 21) := by
          unfold yT at y
          obtain ⟨-, -, -, h3⟩ := y
          rcases h3 with ⟨h, _⟩ | ⟨-, -, -, ⟨h, _⟩ | ⟨h, _⟩⟩ <;> rw [h] <;> decide
        have w120 : w 120 (c k) = 24 := y.1
        have M1 : fX12_lives_32 (n2 + 1) (nI k) Dm = if b = 0 then fX12_lives_178 (fX12_lives_32 n2) (nI (e k + 1)) (mz_wi Dm 0 200 29 (nI (s + 1))) else fX12_lives_178 (fX12_lives_32 n2) (nI (k + 1)) (mz_wi Dm 0 200 29 (nI (s + 1))) := by
          rw [M0, if_neg vals.1, does0 (by omega) (by rw [row]; exact vals.2.2), Option.bind_some]
          dsimp only
          unfold fX12_lives_112
          rw [i0, gd_tt, nI_ix (by omega) (by omega), gd_tt, nI_cl (by omega), row, if_neg y.n25, z0, if_neg one_ne, id0]
          unfold fX12_lives_141 fX12_lives_175
          rw [nI_ix (by omega) (by omega), gd_tt, nI_cl (by omega), row, if_neg vals.2.1, b2, Option.bind_some, a4r, nI_ix (by omega) (by omega), gd_tt, nI_cl (by omega), ha 4 (by omega), a4, a1r, a1r]
        have C1 : fX3_run_38 g (n1 + 1) (nI (c k)) (nI x5) Dc = if b = 0 then fX3_run_38 g n1 (nI (c (e k))) (nI (x5 + 1)) (mz_wi Dc 0 9 0 (nI (s + 1))) else fX3_run_38 g n1 (nI (c k + 1)) (nI (x5 + 1)) (mz_wi Dc 0 9 0 (nI (s + 1))) := by
          rw [c3]
          unfold fX3_comeTo
          rw [nI_ix (by omega) (by omega), gd_tt, nI_cl (by omega), hw 120 (by omega) (by omega), w120, if_neg (by decide), if_neg (by decide), if_neg (by decide), if_neg (by decide), if_neg (by decide), if_neg (by decide), if_neg (by decide), if_pos rfl, b1, Option.bind_some, hw 126 (by omega) (by omega), w126, a1r]
          by_cases eb : b = 0
          · rw [if_pos eb, if_pos eb, Option.bind_some]
          · rw [if_neg eb, if_neg eb, Option.bind_some]
        by_cases eb : b = 0
        · obtain ⟨Dc', Dm', n1', n2', n3'⟩ := nx (e k + 1) xs _ _ (by omega) (by rw [en2]; exact hp1) (by omega) f1.u f2.u
          refine ⟨Dc', Dm', ?_, ?_, n3'⟩
          · rw [C1, if_pos eb, ← ce]; exact n1'
          · rw [M1, if_pos eb]; exact n2'
        · obtain ⟨Dc', Dm', n1', n2', n3'⟩ := nx (k + 1) xs _ _ (by omega) (by rw [en]; exact hp1) (by omega) f1.u f2.u
          refine ⟨Dc', Dm', ?_, ?_, n3'⟩
          · rw [C1, if_neg eb, ← c1]; exact n1'
          · rw [M1, if_neg eb]; exact n2'
      · exact absurd x h26
