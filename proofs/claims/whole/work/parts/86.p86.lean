/-! ===== a year: loops ===== -/
def hC (D E : mz_D) : Prop := (∀ a o j, ¬ (a = 0 ∧ ((o = 9 ∧ (j = 0 ∨ j = 5 ∨ j = 6 ∨ j = 8)) ∨ o = 10 ∨ o = 11)) → E.1 a o j = D.1 a o j) ∧ E.2 = D.2
def hM (D E : mz_D) : Prop := (∀ a o j, ¬ (a = 0 ∧ ((o = 200 ∧ j = 29) ∨ o = 212 ∨ (o = 213 ∧ j = 4))) → E.1 a o j = D.1 a o j) ∧ E.2 = D.2
theorem hC.tr {D E F : mz_D} (h1 : hC D E) (h2 : hC E F) : hC D F := ⟨fun a o j h => by rw [h2.1 a o j h, h1.1 a o j h], by rw [h2.2, h1.2]⟩
theorem hM.tr {D E F : mz_D} (h1 : hM D E) (h2 : hM E F) : hM D F := ⟨fun a o j h => by rw [h2.1 a o j h, h1.1 a o j h], by rw [h2.2, h1.2]⟩
theorem hC.rf {D : mz_D} : hC D D := ⟨fun _ _ _ _ => rfl, rfl⟩
theorem hM.rf {D : mz_D} : hM D D := ⟨fun _ _ _ _ => rfl, rfl⟩
theorem hC_wi {o j : Nat} {D : mz_D} {x : Int32} (h : (o = 9 ∧ (j = 0 ∨ j = 5 ∨ j = 6 ∨ j = 8)) ∨ o = 10 ∨ o = 11) : hC D (mz_wi D 0 o j x) := ⟨fun a' o' j' hn => wi_n (by omega), rfl⟩
theorem hM_wi {o j : Nat} {D : mz_D} {x : Int32} (h : (o = 200 ∧ j = 29) ∨ o = 212 ∨ (o = 213 ∧ j = 4)) : hM D (mz_wi D 0 o j x) := ⟨fun a' o' j' hn => wi_n (by omega), rfl⟩
theorem cR.oth {n g B : Nat} {v : Nat → Int32} {m d gs ins : Nat} {Dc Dm Dc' Dm' : mz_D} (h : cR n g B v m d gs ins Dc Dm) (f1 : hC Dc Dc') (f2 : hM Dm Dm') : cR n g B v m d gs ins Dc' Dm' := by
  obtain ⟨t, h2, h3, h4, ⟨k0, k1, k2, k3⟩, z, hz, s1, s2⟩ := h
  refine ⟨t.congr (fun o j hq => ⟨f1.1 _ _ _ (by unfold tq at hq; omega), by rw [f1.2]⟩) (fun j _ => f2.1 _ _ _ (by omega)) (fun p _ => by rw [f2.2]), fun p hp => by rw [f1.1 _ _ _ (by omega)]; exact h2 p hp, fun i hi => by rw [f1.1 _ _ _ (by omega)]; exact h3 i hi, ?_, ⟨?_, ?_, ?_, ?_⟩, z, hz, by rw [f1.1 _ _ _ (by omega)]; exact s1, by rw [f2.1 _ _ _ (by omega)]; exact s2⟩
  · rw [h4, f1.1 g 109 1 (by omega), sDue_eq (fun j => f1.1 _ _ _ (by omega)) (fun j => f1.1 _ _ _ (by omega)) (fun j => f1.1 _ _ _ (by omega))]
  · rw [f1.1 _ _ _ (by omega), f2.1 _ _ _ (by omega)]; exact k0
  · rw [f1.1 _ _ _ (by omega), f2.1 _ _ _ (by omega)]; exact k1
  · rw [f1.1 _ _ _ (by omega), f2.1 _ _ _ (by omega)]; exact k2
  · rw [f1.1 _ _ _ (by omega), f2.1 _ _ _ (by omega)]; exact k3
/-- the open loops, and how often each goes again -/
def stk (c : Nat → Nat) (Dc Dm : mz_D) : List Nat → List Nat → Prop
  | [], [] => True
  | o :: r, x :: xs => (Dc.1 0 10 r.length = nI (c o) ∧ Dc.1 0 11 r.length = nI x ∧ Dm.1 0 212 o = nI x ∧ x ≤ 98) ∧ stk c Dc Dm r xs
  | [], _ :: _ => False
  | _ :: _, [] => False
theorem stk_c {c : Nat → Nat} {Dc Dm Dc' Dm' : mz_D} : ∀ (l xs : List Nat), stk c Dc Dm l xs → (∀ i, i < l.length → Dc'.1 0 10 i = Dc.1 0 10 i ∧ Dc'.1 0 11 i = Dc.1 0 11 i) → (∀ o, o ∈ l → Dm'.1 0 212 o = Dm.1 0 212 o) → stk c Dc' Dm' l xs := by
  intro l
  induction l with
  | nil => intro xs h _ _; cases xs with | nil => exact trivial | cons _ _ => exact h
  | cons o r ih =>
    intro xs h h1 h2
    cases xs with
    | nil => exact h
    | cons x xs =>
      obtain ⟨⟨a1, a2, a3, a4⟩, a5⟩ := h
      have e := h1 r.length (by rw [List.length_cons]; omega)
      exact ⟨⟨by rw [e.1]; exact a1, by rw [e.2]; exact a2, by rw [h2 o (List.mem_cons_self ..)]; exact a3, a4⟩, ih xs a5 (fun i hi => h1 i (by rw [List.length_cons]; omega)) (fun o' ho => h2 o' (List.mem_cons_of_mem _ ho))⟩
def pot : List Nat → Nat
  | [] => 0
  | x :: xs => x + 1 + pot xs
def sm : List Nat → Nat
  | [] => 0
  | x :: xs => x + sm xs
theorem yB.hd {m N S : Nat} {w a : Nat → Nat → Int32} {c e : Nat → Nat} {enc : Nat → List Nat} (h : yB m N S w a c e enc) : ∀ j k, k ≤ j → k ≤ N → ∀ o r, enc k = o :: r → r = enc o := by
  intro j
  induction j with
  | zero =>
    intro k hk _ o r e
    have : k = 0 := by omega
    subst this
    rw [h.e0] at e
    cases e
  | succ j ih =>
    intro k hk hN o r e
    by_cases hk' : k ≤ j
    · exact ih k hk' hN o r e
    · have : k = j + 1 := by omega
      subst this
      rcases h.row j (by omega) with ⟨-, h2, -⟩ | ⟨-, h2, -⟩ | ⟨-, h2, -⟩ | ⟨-, -, o', h3, -, ⟨-, h5, -⟩ | ⟨-, h5⟩⟩
      · rw [h2] at e; exact ih j (Nat.le_refl _) (by omega) o r e
      · rw [h2] at e; cases e; rfl
      · rw [h2] at e; exact ih j (Nat.le_refl _) (by omega) o r e
      · have q := ih j (Nat.le_refl _) (by omega) o' _ h5
        rw [e] at q
        exact ih o' (by omega) (by omega) o r q.symm
      · rw [h5] at e; exact ih j (Nat.le_refl _) (by omega) o r e
def yS (g N S : Nat) (w a : Nat → Nat → Int32) (Dc Dm : mz_D) : Prop := Dc.1 g 119 1 = nI S ∧ Dm.1 0 201 9 = nI N ∧ (∀ o j, 120 ≤ o → o ≤ 126 → Dc.1 g o j = w o j) ∧ ∀ k i, k < N → i < 6 → Dm.1 0 201 (130 + 6 * k + i) = a k i
/-- all that holds at a place k, with s steps done -/
def pS (n g B : Nat) (v : Nat → Int32) (m d gs ins N S : Nat) (w a : Nat → Nat → Int32) (c : Nat → Nat) (s : Nat) (l xs : List Nat) (Dc Dm : mz_D) : Prop :=
  cR n g (B + s) v m d gs ins Dc Dm ∧ yS g N S w a Dc Dm ∧ (Dc.1 0 9 8 = nI l.length ∧ Dc.1 0 9 6 = 0 ∧ stk c Dc Dm l xs) ∧ Dc.1 0 9 0 = nI s ∧ Dm.1 0 200 29 = nI s ∧ Dc.1 0 9 5 = 0 ∧ Dm.1 0 213 4 = 0
theorem yS.oth {g N S : Nat} {w a : Nat → Nat → Int32} {Dc Dm Dc' Dm' : mz_D} (hg : g ≠ 0) (h : yS g N S w a Dc Dm) (f1 : hC Dc Dc') (f2 : hM Dm Dm') : yS g N S w a Dc' Dm' := by
  obtain ⟨h1, h2, h3, h4⟩ := h
  exact ⟨by rw [f1.1 _ _ _ (by omega)]; exact h1, by rw [f2.1 _ _ _ (by omega)]; exact h2, fun o j ho1 ho2 => by rw [f1.1 _ _ _ (by omega)]; exact h3 o j ho1 ho2, fun k i hk hi => by rw [f2.1 _ _ _ (by omega)]; exact h4 k i hk hi⟩
/-- what ends lead to, in both -/
theorem endsS {n g B : Nat} {v : Nat → Int32} {m d gs ins N S : Nat} {w a : Nat → Nat → Int32} {c e : Nat → Nat} {enc : Nat → List Nat} (hg : g ≠ 0) (Y : yB m N S w a c e enc) (s : Nat) : ∀ M k xs Dc Dm n2, 61 * sm xs + (N - k) ≤ M → k ≤ N → M < n2 → pS n g B v m d gs ins N S w a c s (enc k) xs Dc Dm → ∃ k' xs' Dc' Dm' j, k' ≤ N ∧ (k' = N ∨ a k' 0 ≠ 26) ∧ pS n g B v m d gs ins N S w a c s (enc k') xs' Dc' Dm' ∧ pot xs' + j = pot xs ∧ hC Dc Dc' ∧ hM Dm Dm' ∧ fX12_behindEnds_2 n2 (nI k) Dm = some (nI k', Dm') ∧ ∀ n1 x5, x5 + j ≤ 1000000 → fX3_run_38 g (n1 + j) (nI (c k)) (nI x5) Dc = fX3_run_38 g n1 (nI (c k')) (nI (x5 + j)) Dc' := by
  have hN := Y.hN
  have hS := Y.hS
  intro M
  induction M with
  | zero =>
    intro k xs Dc Dm n2 hMM hk hn2 h
    have ek : k = N := by omega
    subst ek
    obtain ⟨n2, rfl⟩ : ∃ n', n2 = n' + 1 := ⟨n2 - 1, by omega⟩
    refine ⟨k, xs, Dc, Dm, 0, Nat.le_refl _, Or.inl rfl, h, rfl, hC.rf, hM.rf, ?_, fun n1 x5 _ => rfl⟩
    rw [fX12_behindEnds_2]
    dsimp only
    rw [z9, h.2.1.2.1, if_pos (Int32.le_refl _)]
  | succ M ih =>
    intro k xs Dc Dm n2 hMM hk hn2 h
    obtain ⟨n2, rfl⟩ : ∃ n', n2 = n' + 1 := ⟨n2 - 1, by omega⟩
    have hM0 := h.2.1.2.1
    by_cases ek : k = N
    · subst ek
      refine ⟨k, xs, Dc, Dm, 0, Nat.le_refl _, Or.inl rfl, h, rfl, hC.rf, hM.rf, ?_, fun n1 x5 _ => rfl⟩
      rw [fX12_behindEnds_2]
      dsimp only
      rw [z9, hM0, if_pos (Int32.le_refl _)]
    · have hkN : k < N := by omega
      have ra := h.2.1.2.2.2
      have r0 : Dm.1 0 201 (130 + 6 * k) = a k 0 := ra k 0 hkN (by omega)
      by_cases e26 : a k 0 = 26
      · have row : c (k + 1) = c k ∧ ∃ o, o < k ∧ a k 4 = nI o ∧ ((a o 0 = 25 ∧ enc k = o :: enc (k + 1) ∧ e o = k) ∨ (a o 0 ≠ 25 ∧ enc (k + 1) = enc k)) := by
          rcases Y.row k hkN with ⟨-, -, h3⟩ | ⟨-, -, h3, -⟩ | ⟨-, -, h3, -⟩ | ⟨h1, -, h3⟩
          · unfold yF at h3
            rcases h3 with ⟨h, _⟩ | ⟨h, _⟩ | ⟨h | h, _⟩ | ⟨h, _⟩ | ⟨h, _⟩ <;> rw [e26] at h <;> exact absurd h (by decide)
          · rw [e26] at h3; exact absurd h3 (by decide)
          · unfold yT at h3
            obtain ⟨-, -, -, h3⟩ := h3
            rcases h3 with ⟨h, _⟩ | ⟨-, -, -, ⟨h, _⟩ | ⟨h, _⟩⟩ <;> rw [e26] at h <;> exact absurd h (by decide)
          · exact ⟨h1, h3⟩
        obtain ⟨hc, o, ho, r4, hrow⟩ := row
        have r4' : Dm.1 0 201 (130 + 6 * k + 4) = nI o := by rw [ra k 4 hkN (by omega), r4]
        have ro : Dm.1 0 201 (130 + 6 * o) = a o 0 := ra o 0 (by omega) (by omega)
        have pre : fX12_behindEnds_2 (n2 + 1) (nI k) Dm = if a o 0 = 25 then (if Dm.1 0 212 o ≤ 0 then fX12_behindEnds_78 (fX12_behindEnds_2 n2) (nI k) (nI o) Dm else fX12_behindEnds_79 (fX12_behindEnds_2 n2) (nI k) (nI o) 1 Dm) else fX12_behindEnds_78 (fX12_behindEnds_2 n2) (nI k) (nI o) Dm := by
          rw [fX12_behindEnds_2]
          dsimp only
          have m6 : ∀ i, (130 : Int32) + (6 : Int32) * nI i = nI (130 + 6 * i) := fun i => by
            show nI 130 + nI 6 * nI i = _
            rw [nI_mul, nI_add]
          rw [z9, hM0, if_neg (by rw [nJ_le (by omega) (by omega)]; omega), m6, nI_ix (by omega) (by omega), gd_tt, nI_cl (by omega), r0, if_pos e26, a4r, nI_ix (by omega) (by omega), gd_tt, nI_cl (by omega), r4', m6, nI_ix (by omega) (by omega), gd_tt, nI_cl (by omega), ro]
          rw [nI_ix (by omega) (by omega), gd_tt, nI_cl (by omega)]
        have on : fX12_behindEnds_78 (fX12_behindEnds_2 n2) (nI k) (nI o) Dm = fX12_behindEnds_2 n2 (nI (k + 1)) Dm := by
          unfold fX12_behindEnds_78 fX12_behindEnds_79 fX12_behindEnds_98
          rw [nI_ix (by omega) (by omega), gd_tt, if_pos rfl, gd_tt, if_pos rfl, nI_cl (by omega), a1r, wi_id (by grind)]
        rcases hrow with ⟨o25, en, eo⟩ | ⟨o25, en⟩
        · rw [if_pos o25] at pre
          have hr := Y.hd k k (Nat.le_refl _) (by omega) o _ en
          obtain ⟨p1, p2, p3, p4⟩ := id h
          rw [en] at p3 h
          obtain ⟨q1, q2, q3⟩ := p3
          have l3 := Y.le3 k (by omega)
          rw [en, List.length_cons] at l3
          rw [List.length_cons] at q1
          obtain ⟨o1, o2, o3, o4, o5⟩ := Y.ein k (by omega) o (by rw [en]; exact List.mem_cons_self ..)
          have cob := Y.c30 (show o < N by omega) (Y.lp25 (by omega) o25).1
          cases xs with
          | nil => exact absurd q3 (fun x => x)
          | cons x xs =>
            obtain ⟨⟨b1, b2, b3, b4⟩, b5⟩ := q3
            have w126 : Dc.1 g 126 (c o) = nI (c k) := by rw [p2.2.2.1 126 _ (by omega) (by omega), o5, eo]
            have cS : c k ≤ S := by
              have := Y.cm (N - k) k (by omega)
              rw [show k + (N - k) = N by omega, Y.cN] at this
              exact this
            have cl : ∀ n1 x5, x5 < 1000000 → fX3_run_38 g (n1 + 1) (nI (c k)) (nI x5) Dc = Option.bind (fX3_leaveOrRepeat (nI (c k)) Dc) fun q7 => fX3_run_38 g n1 q7.1 (nI (x5 + 1)) q7.2 := fun n1 x5 hx => by
              rw [fX3_run_38]
              dsimp only
              rw [if_neg (by show ¬ nI 1000000 ≤ nI x5; rw [nJ_le (by omega) (by omega)]; omega), q2, if_pos rfl, q1, if_neg (by show ¬ nI _ ≤ nI 0; rw [nJ_le (by omega) (by omega)]; omega)]
              rw [show nI ((enc (k + 1)).length + 1) - (1 : Int32) = nI (enc (k + 1)).length from n_sub (b := 1) (by omega), nI_ix (by omega) (by omega), gd_tt, nI_cl (by omega), b1, nI_ix (by omega) (by omega), gd_tt, nI_cl (by omega), w126, if_neg (by rw [nJ_lt (by omega) (by omega)]; omega), a1r]
            by_cases x0 : x = 0
            · subst x0
              have lv : fX3_leaveOrRepeat (nI (c k)) Dc = some (nI (c k), mz_wi Dc 0 9 8 (nI (enc (k + 1)).length)) := by
                unfold fX3_leaveOrRepeat
                rw [q1, show nI ((enc (k + 1)).length + 1) - (1 : Int32) = nI (enc (k + 1)).length from n_sub (b := 1) (by omega), nI_ix (by omega) (by omega), gd_tt, nI_cl (by omega), b2, if_pos (by decide)]
              have f1 : hC Dc (mz_wi Dc 0 9 8 (nI (enc (k + 1)).length)) := hC_wi (by omega)
              have h' : pS n g B v m d gs ins N S w a c s (enc (k + 1)) xs (mz_wi Dc 0 9 8 (nI (enc (k + 1)).length)) Dm := by
                refine ⟨p1.oth f1 hM.rf, p2.oth hg f1 hM.rf, ⟨wi_s _ _ _ _ _, by rw [wi_n (by omega)]; exact q2, stk_c _ _ b5 (fun i _ => ⟨wi_n (by omega), wi_n (by omega)⟩) (fun _ _ => rfl)⟩, ?_, p4.2.1, ?_, p4.2.2.2⟩
                · rw [wi_n (by omega)]; exact p4.1
                · rw [wi_n (by omega)]; exact p4.2.2.1
              obtain ⟨k', xs', Dc', Dm', j, i1, i2, i3, i4, i5, i6, i7, i8⟩ := ih (k + 1) xs _ Dm n2 (by unfold sm at hMM; omega) (by omega) (by omega) h'
              refine ⟨k', xs', Dc', Dm', j + 1, i1, i2, i3, by show pot xs' + (j + 1) = 0 + 1 + pot xs; omega, f1.tr i5, i6, ?_, fun n1 x5 hx => ?_⟩
              · rw [pre, b3, if_pos (by decide), on, i7]
              · have := i8 n1 (x5 + 1) (by omega)
                rw [← Nat.add_assoc, cl (n1 + j) x5 (by omega), lv, Option.bind_some]
                dsimp only
                rw [← hc, this, show x5 + 1 + j = x5 + (j + 1) by omega]
            · have lv : fX3_leaveOrRepeat (nI (c k)) Dc = some (nI (c o + 1), mz_wi Dc 0 11 (enc (k + 1)).length (nI (x - 1))) := by
                unfold fX3_leaveOrRepeat
                rw [q1, show nI ((enc (k + 1)).length + 1) - (1 : Int32) = nI (enc (k + 1)).length from n_sub (b := 1) (by omega), nI_ix (by omega) (by omega), gd_tt, nI_cl (by omega), b2, if_neg (by show ¬ nI _ ≤ nI 0; rw [nJ_le (by omega) (by omega)]; omega), b1, a1r, show nI x - (1 : Int32) = nI (x - 1) from n_sub (b := 1) (by omega)]
              have f1 : hC Dc (mz_wi Dc 0 11 (enc (k + 1)).length (nI (x - 1))) := hC_wi (by omega)
              have f2 : hM Dm (mz_wi Dm 0 212 o (nI (x - 1))) := hM_wi (by omega)
              have eno : enc (o + 1) = o :: enc (k + 1) := by rw [(Y.lp25 (by omega) o25).2.1, hr]
              have h' : pS n g B v m d gs ins N S w a c s (enc (o + 1)) ((x - 1) :: xs) (mz_wi Dc 0 11 (enc (k + 1)).length (nI (x - 1))) (mz_wi Dm 0 212 o (nI (x - 1))) := by
                rw [eno]
                refine ⟨p1.oth f1 f2, p2.oth hg f1 f2, ⟨by rw [wi_n (by omega)]; exact q1, by rw [wi_n (by omega)]; exact q2, ⟨by rw [wi_n (by omega)]; exact b1, wi_s _ _ _ _ _, wi_s _ _ _ _ _, by omega⟩, stk_c _ _ b5 (fun i hi => ⟨wi_n (by omega), wi_n (by omega)⟩) (fun o' ho' => ?_)⟩, ?_, ?_, ?_, ?_⟩
                · rw [hr] at ho'
                  have := (Y.ein o (by omega) o' ho').1
                  exact wi_n (by omega)
                · rw [wi_n (by omega)]; exact p4.1
                · rw [wi_n (by omega)]; exact p4.2.1
                · rw [wi_n (by omega)]; exact p4.2.2.1
                · rw [wi_n (by omega)]; exact p4.2.2.2
              obtain ⟨k', xs', Dc', Dm', j, i1, i2, i3, i4, i5, i6, i7, i8⟩ := ih (o + 1) ((x - 1) :: xs) _ _ n2 (by unfold sm at hMM ⊢; omega) (by omega) (by omega) h'
              have i4 : pot xs' + j = x - 1 + 1 + pot xs := i4
              refine ⟨k', xs', Dc', Dm', j + 1, i1, i2, i3, by show pot xs' + (j + 1) = x + 1 + pot xs; omega, f1.tr i5, f2.tr i6, ?_, fun n1 x5 hx => ?_⟩
              · rw [pre, b3, if_neg (by show ¬ nI _ ≤ nI 0; rw [nJ_le (by omega) (by omega)]; omega)]
                unfold fX12_behindEnds_79 fX12_behindEnds_98
                rw [nI_ix (by omega) (by omega), gd_tt, if_neg one_ne, gd_tt, if_neg one_ne, nI_cl (by omega), b3, a1r, show nI x - (1 : Int32) = nI (x - 1) from n_sub (b := 1) (by omega), i7]
              · have := i8 n1 (x5 + 1) (by omega)
                rw [← Nat.add_assoc, cl (n1 + j) x5 (by omega), lv, Option.bind_some]
                dsimp only
                rw [← (Y.lp25 (show o < N by omega) o25).1, this, show x5 + 1 + j = x5 + (j + 1) by omega]
        · rw [if_neg o25] at pre
          rw [← en] at h
          obtain ⟨k', xs', Dc', Dm', j, i1, i2, i3, i4, i5, i6, i7, i8⟩ := ih (k + 1) xs Dc Dm n2 (by omega) (by omega) (by omega) h
          refine ⟨k', xs', Dc', Dm', j, i1, i2, i3, i4, i5, i6, by rw [pre, on, i7], ?_⟩
          rw [← hc]
          exact i8
      · refine ⟨k, xs, Dc, Dm, 0, by omega, Or.inr e26, h, rfl, hC.rf, hM.rf, ?_, fun n1 x5 _ => rfl⟩
        rw [fX12_behindEnds_2]
        dsimp only
        have m6 : ∀ i, (130 : Int32) + (6 : Int32) * nI i = nI (130 + 6 * i) := fun i => by
          show nI 130 + nI 6 * nI i = _
          rw [nI_mul, nI_add]
        rw [z9, hM0, if_neg (by rw [nJ_le (by omega) (by omega)]; omega), m6, nI_ix (by omega) (by omega), gd_tt, nI_cl (by omega), r0, if_neg e26]
