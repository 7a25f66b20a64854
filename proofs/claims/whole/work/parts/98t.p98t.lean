/-! ===== year ===== -/
theorem tR.yr {n g b nb g' b' nb' : Nat} {Dc Dm Dc' Dm' : mz_D} {m d gs ins : Nat} (h : tR n g b nb Dc Dm m d gs ins) (C : ∀ o j, rqi o j → o < 119 → Dc'.1 g' o j = Dc.1 g o j) (C2 : ∀ j, j < 6 → Dc'.2 g' 102 j = Dc.2 g 102 j) (hm : ∀ j, j < 130 → j ≠ 9 → Dm'.1 0 201 (b' + j) = Dm.1 0 201 (b + j)) (hn : ∀ p, p < 6 → Dm'.2 0 202 (nb' + p) = Dm.2 0 202 (nb + p)) (hy : yR m g' b' Dc' Dm') : tR n g' b' nb' Dc' Dm' m d gs ins := by
  have M : ∀ k k' j, k = b' + j → k' = b + j → j < 130 → j ≠ 9 → Dm'.1 0 201 k = Dm.1 0 201 k' := fun k k' j e e' hj h9 => by rw [e, e']; exact hm j hj h9
  have hm6 := h.hm
  have hd6 := h.hd
  exact tR.mk
    (hm := h.hm) (hd := h.hd) (hgs := h.hgs) (hins := h.hins)
    (many_c := by rw [C _ _ (by unfold rqi; omega) (by omega)]; exact h.many_c)
    (many_m := by rw [M b' b 0 (by omega) (by omega) (by omega) (by omega)]; exact h.many_m)
    (couples := by rw [C _ _ (by unfold rqi; omega) (by omega), M _ (b + 1) 1 (by omega) (by omega) (by omega) (by omega)]; exact h.couples)
    (dish_c := by rw [C _ _ (by unfold rqi; omega) (by omega)]; exact h.dish_c)
    (dish_m := by rw [M _ (b + 2) 2 (by omega) (by omega) (by omega) (by omega)]; exact h.dish_m)
    (split := by rw [C _ _ (by unfold rqi; omega) (by omega), M _ (b + 3) 3 (by omega) (by omega) (by omega) (by omega)]; exact h.split)
    (split_b := by rw [C _ _ (by unfold rqi; omega) (by omega)]; exact h.split_b)
    (law := by rw [C _ _ (by unfold rqi; omega) (by omega), M _ (b + 4) 4 (by omega) (by omega) (by omega) (by omega)]; exact h.law)
    (law_b := by rw [C _ _ (by unfold rqi; omega) (by omega)]; exact h.law_b)
    (rounds := by rw [C _ _ (by unfold rqi; omega) (by omega), M _ (b + 5) 5 (by omega) (by omega) (by omega) (by omega)]; exact h.rounds)
    (gifts := by rw [C _ _ (by unfold rqi; omega) (by omega), M _ (b + 6) 6 (by omega) (by omega) (by omega) (by omega)]; exact h.gifts)
    (guests_c := by rw [C _ _ (by unfold rqi; omega) (by omega)]; exact h.guests_c)
    (guests_m := by rw [M _ (b + 7) 7 (by omega) (by omega) (by omega) (by omega)]; exact h.guests_m)
    (in_c := by rw [C _ _ (by unfold rqi; omega) (by omega)]; exact h.in_c)
    (in_m := by rw [M _ (b + 8) 8 (by omega) (by omega) (by omega) (by omega)]; exact h.in_m)
    (names := fun p hp => by rw [C2 _ (by omega), hn p (by omega)]; exact h.names p hp)
    (insists := fun p hp => by rw [C _ _ (by unfold rqi; omega) (by omega), M _ (b + 12 + 8 * p) (12 + 8 * p) (by omega) (by omega) (by omega) (by omega)]; exact h.insists p hp)
    (quick := fun p hp => by rw [C _ _ (by unfold rqi; omega) (by omega), M _ (b + 13 + 8 * p) (13 + 8 * p) (by omega) (by omega) (by omega) (by omega)]; exact h.quick p hp)
    (minds := fun p hp => by rw [C _ _ (by unfold rqi; omega) (by omega), M _ (b + 14 + 8 * p) (14 + 8 * p) (by omega) (by omega) (by omega) (by omega)]; exact h.minds p hp)
    (means := fun p hp => by rw [C _ _ (by unfold rqi; omega) (by omega), M _ (b + 15 + 8 * p) (15 + 8 * p) (by omega) (by omega) (by omega) (by omega)]; exact h.means p hp)
    (partner := fun p hp => by rw [C _ _ (by unfold rqi; omega) (by omega), M _ (b + 16 + 8 * p) (16 + 8 * p) (by omega) (by omega) (by omega) (by omega)]; exact h.partner p hp)
    (paid := fun p hp => by rw [C _ _ (by unfold rqi; omega) (by omega), M _ (b + 17 + 8 * p) (17 + 8 * p) (by omega) (by omega) (by omega) (by omega)]; exact h.paid p hp)
    (ahead := fun p hp => by rw [C _ _ (by unfold rqi; omega) (by omega), M (b' + 18 + 8 * p) (b + 18 + 8 * p) (18 + 8 * p) (by omega) (by omega) (by omega) (by omega), M (b' + 19 + 8 * p) (b + 19 + 8 * p) (19 + 8 * p) (by omega) (by omega) (by omega) (by omega)]; exact h.ahead p hp)
    (price := fun k hk => by rw [C _ _ (by unfold rqi; omega) (by omega), M _ (b + 60 + 2 * k) (60 + 2 * k) (by omega) (by omega) (by omega) (by omega)]; exact h.price k hk)
    (eater := fun k hk => by rw [C _ _ (by unfold rqi; omega) (by omega), M _ (b + 61 + 2 * k) (61 + 2 * k) (by omega) (by omega) (by omega) (by omega)]; exact h.eater k hk)
    (debt := fun k hk => by rw [C _ _ (by unfold rqi; omega) (by omega), M _ (b + 92 + k) (92 + k) (by omega) (by omega) (by omega) (by omega)]; exact h.debt k hk)
    (nodebt := fun p q hp hq hh => by rw [C _ _ (by unfold rqi; omega) (by omega)]; exact h.nodebt p q hp hq hh)
    (year := hy)
/-- the steps of the new slot become the first's -/
theorem cpyY (M : mz_D) : fX12_year_103 mz_N (130 : Int32) M = fX12_year_132 (wr M 0 201 (fun j => if 130 ≤ j ∧ j < 495 then M.1 0 201 (2000 + j) else M.1 0 201 j)) := by
  have k1 := lpD (fun n s k => fX12_year_103 n ((130 : Int32) + k) s) (fun k => wr M 0 201 (fun j => if 130 ≤ j ∧ j < 130 + k then M.1 0 201 (2000 + j) else M.1 0 201 j)) 365 (r := fX12_year_132 (wr M 0 201 (fun j => if 130 ≤ j ∧ j < 495 then M.1 0 201 (2000 + j) else M.1 0 201 j))) (fun n k hk => by
    show fX12_year_103 (n + 1) ((130 : Int32) + nI k) _ = fX12_year_103 n ((130 : Int32) + nI (k + 1)) _
    rw [a130l, a130l, fX12_year_103]
    dsimp only
    rw [if_neg (by show ¬ nI 495 ≤ nI (130 + k); rw [nJ_le (by omega) (by omega)]; omega), a2000l, nI_ix (show 2000 + (130 + k) < 3000 by omega) (by omega), gd_tt, nI_ix (show 130 + k < 3000 by omega) (by omega), gd_tt, nI_cl (show 130 + k < 2147483648 by omega), nI_cl (show 2000 + (130 + k) < 2147483648 by omega), a1r, wr_s, if_neg (by omega), wr_up, show 130 + k + 1 = 130 + (k + 1) by omega]
    congr 2
    funext i
    unfold up
    by_cases e : i = 130 + k
    · rw [if_pos e, if_pos (by omega), e]
    · rw [if_neg e]
      dsimp only
      by_cases e2 : 130 ≤ i ∧ i < 130 + k
      · rw [if_pos e2, if_pos (by omega)]
      · rw [if_neg e2, if_neg (by omega)]) (fun n => by
    show fX12_year_103 (n + 1) ((130 : Int32) + nI 365) _ = _
    rw [a130l, fX12_year_103]
    dsimp only
    rw [if_pos (by decide)]) 365 0 mz_N rfl (N_lt (by omega))
  have k1 : fX12_year_103 mz_N (130 : Int32) (wr M 0 201 (fun j => if 130 ≤ j ∧ j < 130 + 0 then M.1 0 201 (2000 + j) else M.1 0 201 j)) = _ := k1
  rw [show (fun j => if 130 ≤ j ∧ j < 130 + 0 then M.1 0 201 (2000 + j) else M.1 0 201 j) = M.1 0 201 from by funext j; exact if_neg (by omega), wr_id] at k1
  exact k1
/-- what a year's text comes to, in both -/
def yend (m : Nat) (C M : mz_D) (x : Option (Int32 × mz_D)) (y : mz_D → Prop) : Prop := ∃ r C' M', x = some (r, C') ∧ y M' ∧ bC C C' ∧ bM M M' ∧ ((r = 1 ∧ M'.1 0 200 18 = 0 ∧ M'.1 0 200 17 = -1 ∧ C'.1 2 119 0 = 1 ∧ ∃ N S c e enc, C'.1 2 119 1 = nI S ∧ M'.1 0 201 2009 = nI N ∧ M'.1 0 200 23 = nI S ∧ yB m N S (fun o k => C'.1 2 o k) (fun k i => M'.1 0 201 (2130 + 6 * k + i)) c e enc) ∨ (r = 0 ∧ fl C' M'))
theorem i107 (C : mz_D) (n1 : Nat) (x2 : Int32) : fX10_isTaken_4 (n1 + 1) 0 x2 C = some (0, mz_wi C 2 119 0 0) := by
  have A : fX10_isTaken_107 0 C = some (0, mz_wi C 2 119 0 0) := by
    unfold fX10_isTaken_107
    rw [if_pos rfl]; rfl
  rw [fX10_isTaken_4]
  dsimp only
  rw [if_pos rfl, A]
  by_cases z : (300 : Int32) ≤ x2
  · rw [if_pos z]
  · rw [if_neg z]
theorem y57 {M : mz_D} (h : ¬ M.1 0 200 18 ≤ 0) (n2 : Nat) : fX12_year_38 (n2 + 1) 0 M = fX12_year_77 M := by
  rw [fX12_year_38]
  dsimp only
  unfold fX12_year_57
  rw [if_pos rfl, if_neg (fun q => h (by rw [q]; exact Int32.le_refl _))]
theorem fl.w {C M : mz_D} {v : Int32} (h : fl C M) : fl (mz_wi C 2 119 0 v) M := ⟨by rw [wi_n (by omega)]; exact h.1, h.2.1, by rw [wi_n (by omega)]; exact h.2.2⟩
theorem yOver {L s m N S : Nat} {C M : mz_D} {c e : Nat → Nat} {enc : Nat → List Nat} {ob : List (Nat × Bool)} (h : rdR L s C M) (W : yw m N S C M c e enc ob) (o1 : C.1 0 2 6 = 0) (o2 : M.1 0 200 12 = 0) (n1 : Nat) (x2 : Int32) : yend m C M (fX10_isTaken_4 (n1 + 1) 1 x2 C) (fun M' => ∀ n2, fX12_year_38 (n2 + 1) 1 M = fX12_year_77 M') := by
  obtain ⟨W1, W2, W3, W4, W5, W6, W7, W8, W9⟩ := W
  have l3 : ob.length ≤ 3 := W9.2.2.1
  have h18 := h.2.2.2.2.1
  have h17 := h.2.2.2.2.2.1
  have io : fX5_isOver C = 1 := by unfold fX5_isOver; rw [if_pos o1]
  have HC : fX10_isTaken_4 (n1 + 1) 1 x2 C = fX10_isTaken_107 1 C := by
    rw [fX10_isTaken_4]
    dsimp only
    rw [io, if_neg one_ne, if_neg one_ne]
    by_cases z : (300 : Int32) ≤ x2
    · rw [if_pos z]
    · rw [if_neg z]
  have HM : ∀ n2, fX12_year_38 (n2 + 1) 1 M = fX12_year_57 M := fun n2 => by
    rw [fX12_year_38]
    dsimp only
    rw [if_neg one_ne, if_pos o2]
  cases ob with
  | nil =>
    refine ⟨1, mz_wi C 2 119 0 1, M, ?_, fun n2 => ?_, bC_wi (by omega), bM.rf, Or.inl ⟨rfl, h18, h17, wi_s _ _ _ _ _, N, S, c, e, enc, by rw [wi_n (by omega), W3], W4, W5, ?_⟩⟩
    · rw [HC]
      unfold fX10_isTaken_107
      rw [if_neg one_ne, W6, if_pos (show nI ([] : List (Nat × Bool)).length ≤ 0 from by decide)]; rfl
    · rw [HM]
      unfold fX12_year_57
      rw [if_pos h18, W7, if_pos (show nI ([] : List (Nat × Bool)).length ≤ 0 from by decide)]
    · exact W9.done.cp (fun o k h1 h2 _ => wi_n (by omega)) (fun k i _ _ => rfl)
  | cons z r =>
    rw [List.length_cons] at W6 W7 l3
    have nz : ¬ nI (r.length + 1) ≤ 0 := by show ¬ nI (r.length + 1) ≤ nI 0; rw [nJ_le (by omega) (by omega)]; omega
    obtain ⟨C', M', a1, a2, a3, a4, a5⟩ := h.fail (k := 2) (by decide)
    refine ⟨0, mz_wi C' 2 119 0 0, M', ?_, fun n2 => ?_, a4.b.tr (bC_wi (by omega)), a5.b, Or.inr ⟨rfl, a3.w⟩⟩
    · rw [HC]
      unfold fX10_isTaken_107
      rw [if_neg one_ne, W6, if_neg nz, a1]; rfl
    · rw [HM]
      unfold fX12_year_57
      rw [if_pos h18, W7, if_neg nz, a2]; rfl
theorem yearL {L m : Nat} (hL3 : L ≤ 300) : ∀ d s N S (C M : mz_D) (c e : Nat → Nat) (enc : Nat → List Nat) (ob : List (Nat × Bool)) n1 n2 x, rdR L s C M → yw m N S C M c e enc ob → L - s ≤ d → 2 * x ≤ s → d + 1 < n1 → d + 1 < n2 → yend m C M (fX10_isTaken_4 n1 1 (nI x) C) (fun M' => fX12_year_38 n2 1 M = fX12_year_77 M') := by
  intro d
  induction d with
  | zero =>
    intro s N S C M c e enc ob n1 n2 x hr W hL hx hn1 hn2
    obtain ⟨n1, rfl⟩ : ∃ n', n1 = n' + 2 := ⟨n1 - 2, by omega⟩
    obtain ⟨n2, rfl⟩ : ∃ n', n2 = n' + 2 := ⟨n2 - 2, by omega⟩
    have hsL := hr.2.1
    have n9 : ¬ (300 : Int32) ≤ nI x := by
      show ¬ nI 300 ≤ nI x
      rw [nJ_le (by omega) (by omega)]
      omega
    rcases hr.ovr with ⟨o1, o2, o3⟩ | ⟨o1, o2⟩
    · obtain ⟨r, C', M', a1, a2, a3⟩ := yOver hr W o1 o2 (n1 + 1) (nI x)
      exact ⟨r, C', M', a1, a2 _, a3⟩
    · obtain ⟨C', M', f1, f2, ⟨s', N', S', c', e', enc', ob', l, a0, -⟩ | ⟨a1, a2, a3⟩⟩ := stepY hr W o1 n9
      · have := a0.2.1
        omega
      · refine ⟨0, mz_wi C' 2 119 0 0, M', ?_, ?_, f1.tr (bC_wi (by omega)), f2, Or.inr ⟨rfl, a1.w⟩⟩
        · rw [a3, i107]
        · rw [fX12_year_38]
          dsimp only
          rw [if_neg one_ne, if_neg o2, a2, Option.bind_some]
          exact y57 a1.2.1 n2
  | succ d ih =>
    intro s N S C M c e enc ob n1 n2 x hr W hL hx hn1 hn2
    obtain ⟨n1, rfl⟩ : ∃ n', n1 = n' + 2 := ⟨n1 - 2, by omega⟩
    obtain ⟨n2, rfl⟩ : ∃ n', n2 = n' + 2 := ⟨n2 - 2, by omega⟩
    have hsL := hr.2.1
    have n9 : ¬ (300 : Int32) ≤ nI x := by
      show ¬ nI 300 ≤ nI x
      rw [nJ_le (by omega) (by omega)]
      omega
    rcases hr.ovr with ⟨o1, o2, o3⟩ | ⟨o1, o2⟩
    · obtain ⟨r, C', M', a1, a2, a3⟩ := yOver hr W o1 o2 (n1 + 1) (nI x)
      exact ⟨r, C', M', a1, a2 _, a3⟩
    · obtain ⟨C', M', f1, f2, ⟨s', N', S', c', e', enc', ob', l, a0, W', a2, a3⟩ | ⟨a1, a2, a3⟩⟩ := stepY hr W o1 n9
      · have := a0.2.1
        obtain ⟨r, C2, M2, b1, b2, b3, b4, b5⟩ := ih s' N' S' C' M' c' e' enc' ob' (n1 + 1) (n2 + 1) (x + 1) a0 W' (by omega) (by omega) (by omega) (by omega)
        refine ⟨r, C2, M2, ?_, ?_, f1.tr b3, f2.tr b4, b5⟩
        · rw [a3, a1r]; exact b1
        · rw [fX12_year_38]
          dsimp only
          rw [if_neg one_ne, if_neg o2, a2, Option.bind_some]
          exact b2
      · refine ⟨0, mz_wi C' 2 119 0 0, M', ?_, ?_, f1.tr (bC_wi (by omega)), f2, Or.inr ⟨rfl, a1.w⟩⟩
        · rw [a3, i107]
        · rw [fX12_year_38]
          dsimp only
          rw [if_neg one_ne, if_neg o2, a2, Option.bind_some]
          exact y57 a1.2.1 n2
theorem p_op9 : op_9 Inv := by
  intro n D x1 h
  obtain ⟨t, t9, te, td⟩ := iR.taped h
  by_cases hx : x1 < 0 ∨ nI t < x1 ∨ ¬ x1 ≤ 300
  · refine q_look h (r := -1) (v := 1) ?_ (fun E he => ?_)
    · unfold fX11_year
      rw [td]
      by_cases h1 : x1 < 0
      · rw [if_pos h1]
      · rw [if_neg h1]
        by_cases h2 : nI t < x1
        · rw [if_pos h2]
        · rw [if_neg h2, if_neg (by rcases hx with h | h | h; exact absurd h h1; exact absurd h h2; exact h)]
    · have e10 : E.1 0 200 10 = nI t := by rw [(he _ _ _ (by omega) (by omega)).1, te]
      have b0 : fX12_begins x1 300 E = some (0, E) := by
        unfold fX12_begins
        rw [e10]
        by_cases h1 : x1 < 0
        · rw [if_pos h1]
        · rw [if_neg h1]
          by_cases h2 : nI t < x1
          · rw [if_pos h2]
          · rw [if_neg h2, if_neg (by rcases hx with h | h | h; exact absurd h h1; exact absurd h h2; exact h)]
      unfold fX12_year
      rw [b0, Option.bind_some, if_pos rfl]
  · have k1 : ¬ x1 < 0 := fun e => hx (Or.inl e)
    have k2 : ¬ nI t < x1 := fun e => hx (Or.inr (Or.inl e))
    have k3 : x1 ≤ 300 := by
      by_cases q : x1 ≤ 300
      · exact q
      · exact absurd (Or.inr (Or.inr q)) hx
    obtain ⟨L, hL, rfl⟩ := nJ_of (Int32.not_lt.mp k1)
    have hLt : L ≤ t := (nJ_le hL (by omega)).mp (Int32.not_lt.mp k2)
    have hL3 : L ≤ 300 := (nJ_le (b := 300) hL (by omega)).mp k3
    refine q_txt h (fun E hE => ?_)
    obtain ⟨t', t9', te', td'⟩ := iR.taped hE
    have tt : t' = t := (nJ_eq (by omega) (by omega)).mp (by rw [← td', td])
    subst tt
    obtain ⟨m, d, gs, ins, T⟩ := iR.table hE
    have hm := T.hm
    obtain ⟨M1, b1, m11, m10, m18, m17, m14, m207, bfr, bf2⟩ := begM (D := E) (L := L) (t := t') (mo := 300) te' t9 hLt k3 (fun j hj => by rw [(iR.tape hE j hj).1]; exact (iR.tape hE j hj).2)
    have e1t : ∀ j, (mz_wi (mz_wi (mz_wi D 0 0 1 0) 2 119 0 0) 2 119 1 0).1 0 1 j = D.1 0 1 j := fun j => by rw [wi_n (by omega), wi_n (by omega), wi_n (by omega)]
    obtain ⟨s, C1, M2, o1, o2, rd, fo, po⟩ := opn (C := mz_wi (mz_wi (mz_wi D 0 0 1 0) 2 119 0 0) 2 119 1 0) (M1 := M1) (L := L) (by omega) (by rw [wi_2, wi_2, wi_2]; exact iR.keys hE) (fun j hj => by rw [m207 j hj, e1t, (iR.tape hE j (by omega)).1]; exact ⟨rfl, (iR.tape hE j (by omega)).2⟩) m11 m14 m18 m17
    have R0 : rdR L s (mz_zr (mz_zr C1 0 301) 0 302) (mz_wi (mz_wi (mz_wi M2 0 201 2009 0) 0 200 22 0) 0 200 23 0) := rd.fr ⟨fun j => by rw [zr_n (by omega), zr_n (by omega)], fun j => by rw [zr_n (by omega), zr_n (by omega)], by rw [zr_2, zr_2], by rw [zr_2, zr_2]⟩ (((qM_wi (by omega)).tr (qM_wi (by omega))).tr (qM_wi (by omega)))
    have W0 : yw m 0 0 (mz_zr (mz_zr C1 0 301) 0 302) (mz_wi (mz_wi (mz_wi M2 0 201 2009 0) 0 200 22 0) 0 200 23 0) (fun _ => 0) (fun _ => 0) (fun _ => []) [] := by
      refine ⟨⟨hm, by omega, ?_, fun p hp => ?_⟩, ?_, ?_, ?_, wi_s _ _ _ _ _, ?_, ?_, trivial, yP.nil m _ _⟩
      · rw [zr_n (by omega), zr_n (by omega), (fo _ _ _ (by omega)).1, wi_n (by omega), wi_n (by omega), wi_n (by omega)]
        exact T.many_c
      · rw [zr_2, zr_2, (fo _ _ _ (by omega)).2, wi_2, wi_2, wi_2, wi_2, wi_2, wi_2, (po _ _ _ (by omega)).2, bf2]
        exact T.names p hp
      · rw [wi_n (by omega), wi_n (by omega), wi_n (by omega), (po _ _ _ (by omega)).1, bfr _ _ _ (by omega)]
        exact T.uMany
      · rw [zr_n (by omega), zr_n (by omega), (fo _ _ _ (by omega)).1, wi_s]; rfl
      · rw [wi_n (by omega), wi_n (by omega), wi_s]; rfl
      · rw [zr_n (by omega), zr_s]; rfl
      · rw [wi_n (by omega), wi_s]; rfl
    obtain ⟨r, C', M', l1, l2, fc, fm, res⟩ := yearL hL3 L s 0 0 _ _ _ _ _ _ mz_N mz_N 0 R0 W0 (by omega) (by omega) (N_lt (by omega)) (N_lt (by omega))
    have l1 : fX10_isTaken (mz_zr (mz_zr C1 0 301) 0 302) = some (r, C') := l1
    have HM : fX12_year (nI L) E = fX12_year_77 M' := by
      unfold fX12_year
      rw [b1, o2, Option.bind_some, Option.bind_some, if_neg one_ne, t2009]
      exact l2
    have HC : ∀ y, fX11_year_t (nI L) (mz_zr (mz_zr C1 0 301) 0 302) = y → fX11_year (nI L) D = y := fun y hy => by
      unfold fX11_year
      rw [if_neg k1, td', if_neg k2, if_pos k3, o1, Option.bind_some]
      exact hy
    have gC : ∀ g o j, ¬ ((g = 2 ∧ 100 ≤ o ∧ o < 127) ∨ (g = 0 ∧ (o = 2 ∨ 300 ≤ o ∨ (o = 0 ∧ j = 1)))) → C'.1 g o j = D.1 g o j ∧ C'.2 g o j = D.2 g o j := fun g o j hn => by
      rw [(fc _ _ _ (by omega)).1, (fc _ _ _ (by omega)).2, zr_n (by omega), zr_n (by omega), zr_2, zr_2, (fo _ _ _ (by omega)).1, (fo _ _ _ (by omega)).2, wi_n (by omega), wi_n (by omega), wi_n (by omega), wi_2, wi_2, wi_2]
      exact ⟨rfl, rfl⟩
    have gM : ∀ g o j, ¬ (g = 0 ∧ ((o = 200 ∧ 10 ≤ j ∧ j ≤ 23 ∧ j ≠ 16) ∨ o = 207 ∨ o = 208 ∨ (o = 201 ∧ 2000 ≤ j) ∨ (o = 202 ∧ 24 ≤ j))) → M'.1 g o j = E.1 g o j ∧ M'.2 g o j = E.2 g o j := fun g o j hn => by
      rw [(fm _ _ _ (by omega)).1, (fm _ _ _ (by omega)).2, wi_n (by omega), wi_n (by omega), wi_n (by omega), wi_2, wi_2, wi_2, (po _ _ _ (by omega)).1, (po _ _ _ (by omega)).2, bfr _ _ _ (by omega), bf2]
      exact ⟨rfl, rfl⟩
    have c01 : C'.1 0 0 1 = 0 := by rw [(fc _ _ _ (by omega)).1, zr_n (by omega), zr_n (by omega), (fo _ _ _ (by omega)).1, wi_n (by omega), wi_n (by omega), wi_s]
    have m210 : M'.1 0 200 10 = 0 := by rw [(fm _ _ _ (by omega)).1, wi_n (by omega), wi_n (by omega), wi_n (by omega), (po _ _ _ (by omega)).1, m10]
    rcases res with ⟨rfl, u1, u2, u3, N, S, c, e, enc, v1, v2, v3, Y⟩ | ⟨rfl, F1, F2, F3⟩
    · have b60 := Y.hN
      have b30 := Y.hS
      obtain ⟨E5, q1, q2, q3, q4⟩ := cpX9 (g0 := 1) (g1 := 2) (D := mz_wi (mz_wi C' 0 0 16 0) 0 0 17 (-1)) (by decide) (by rw [wi_n (by omega), wi_n (by omega)]; exact Or.inr u3)
      have q2' : ∀ j, j < 2 → E5.1 1 119 j = C'.1 2 119 j := fun j hj => by rw [q2 j hj, wi_n (by omega), wi_n (by omega)]
      have q3' : ∀ o j, 120 ≤ o → o ≤ 126 → j < 30 → E5.1 1 o j = C'.1 2 o j := fun o j h1 h2 h3 => by rw [q3 o j h1 h2 h3, wi_n (by omega), wi_n (by omega)]
      have w9 : ∀ j, 2000 ≤ j → (mz_wi M' 0 201 9 (M'.1 0 201 2009)).1 0 201 j = M'.1 0 201 j := fun j hj => wi_n (by omega)
      refine ⟨nI S, mz_wi E5 0 0 13 0, mz_wi (mz_wi (wr (mz_wi M' 0 201 9 (M'.1 0 201 2009)) 0 201 (fun j => if 130 ≤ j ∧ j < 495 then (mz_wi M' 0 201 9 (M'.1 0 201 2009)).1 0 201 (2000 + j) else (mz_wi M' 0 201 9 (M'.1 0 201 2009)).1 0 201 j)) 0 200 16 0) 0 200 2 0, HC _ ?_, HM.trans ?_, fun g o j h1 h2 => ?_, fun g o j h1 => ?_, hE.txt (Nat.le_succ n) (fun g o j hn => ?_) (fun g o j hn => ?_) ?_ ?_ ?_ ?_ ⟨m, d, gs, ins, (T.mono (Nat.le_succ n)).yr (fun o j hq h19 => ?_) (fun j hj => ?_) (fun j hj h9 => ?_) (fun p hp => ?_) ?_⟩⟩
      · unfold fX11_year_t
        rw [l1, Option.bind_some, hear1, Option.bind_some, if_neg one_ne, q1, Option.bind_some, q2' 1 (by omega), v1]
      · unfold fX12_year_77
        rw [if_pos u1, t2009, z9, cpyY]
        unfold fX12_year_132
        rw [taken1 (by rw [wr_n (by omega), wi_n (by omega)]; exact u1), wr_n (by omega), wi_n (by omega), v3]; rfl
      · rw [wi_n (by omega), wi_2, (q4 _ _ _ (by omega)).1, (q4 _ _ _ (by omega)).2, wi_n (by omega), wi_n (by omega), wi_2, wi_2]
        exact gC _ _ _ (by omega)
      · rw [wi_n (by omega), wi_n (by omega), wr_n (by omega), wi_n (by omega), wi_2, wi_2, wr_2, wi_2]
        exact gM _ _ _ (by omega)
      · unfold sCq at hn
        rw [wi_n (by omega), wi_2, (q4 _ _ _ (by omega)).1, (q4 _ _ _ (by omega)).2, wi_n (by omega), wi_n (by omega), wi_2, wi_2]
        exact gC _ _ _ (by omega)
      · unfold sMq at hn
        rw [wi_n (by omega), wi_n (by omega), wi_2, wi_2, wr_2, wi_2, wr_1]
        by_cases e1 : o = 201 ∧ g = 0
        · rw [if_pos e1, if_neg (by omega), wi_n (by omega)]
          obtain ⟨rfl, rfl⟩ := e1
          exact gM _ _ _ (by omega)
        · rw [if_neg e1, wi_n (by omega)]
          exact gM _ _ _ (by omega)
      · rw [wi_s, wi_s]
      · rw [wi_n (by omega), wi_s, wi_n (by omega), (q4 _ _ _ (by omega)).1, wi_n (by omega), wi_s]
      · rw [wi_n (by omega), wi_n (by omega), wr_n (by omega), wi_n (by omega), u2, wi_n (by omega), (q4 _ _ _ (by omega)).1, wi_s]
      · rw [wi_n (by omega), wi_n (by omega), wr_n (by omega), wi_n (by omega), wi_n (by omega), (q4 _ _ _ (by omega)).1, wi_n (by omega), wi_n (by omega)]
        exact ⟨m210, c01⟩
      · rw [wi_n (by omega), (q4 _ _ _ (by omega)).1, wi_n (by omega), wi_n (by omega)]
        unfold rqi at hq
        exact (gC _ _ _ (by omega)).1
      · rw [wi_2, (q4 _ _ _ (by omega)).2, wi_2, wi_2]
        exact (gC _ _ _ (by omega)).2
      · rw [Nat.zero_add, wi_n (by omega), wi_n (by omega), wr_s, if_neg (by omega), wi_n (by omega)]
        exact (gM _ _ _ (by omega)).1
      · rw [Nat.zero_add, wi_2, wi_2, wr_2, wi_2]
        exact (gM _ _ _ (by omega)).2
      · unfold yR
        refine Or.inr ⟨by rw [wi_n (by omega), q2' 0 (by omega), u3], N, S, c, e, enc, ?_, by rw [wi_n (by omega), q2' 1 (by omega), v1], Y.cp (fun o k h1 h2 h3 => by
          show (mz_wi E5 0 0 13 0).1 1 o k = C'.1 2 o k
          rw [wi_n (by omega), q3' o k h1 h2 h3]) (fun k i h1 h2 => ?_)⟩
        · rw [Nat.zero_add, wi_n (by omega), wi_n (by omega), wr_s, if_neg (by omega), wi_s, v2]
        · show (mz_wi (mz_wi (wr (mz_wi M' 0 201 9 (M'.1 0 201 2009)) 0 201 (fun j => if 130 ≤ j ∧ j < 495 then (mz_wi M' 0 201 9 (M'.1 0 201 2009)).1 0 201 (2000 + j) else (mz_wi M' 0 201 9 (M'.1 0 201 2009)).1 0 201 j)) 0 200 16 0) 0 200 2 0).1 0 201 (0 + 130 + 6 * k + i) = M'.1 0 201 (2130 + 6 * k + i)
          rw [wi_n (by omega), wi_n (by omega), wr_s, if_pos (by omega), w9 _ (by omega), show 2000 + (0 + 130 + 6 * k + i) = 2130 + 6 * k + i by omega]
    · refine ⟨-1, mz_wi (mz_wi (mz_wi C' 0 0 16 (C'.1 0 2 0)) 0 0 17 (C'.1 0 2 1)) 0 0 13 9, mz_wi (mz_wi M' 0 200 16 (M'.1 0 200 18)) 0 200 2 9, HC _ ?_, HM.trans ?_, fun g o j h1 h2 => ?_, fun g o j h1 => ?_, hE.txt (Nat.le_succ n) (fun g o j hn => ?_) (fun g o j hn => ?_) ?_ ?_ ?_ ?_ ⟨m, d, gs, ins, (T.congr (fun o j hq => ?_) (fun j hj => ?_) (fun p hp => ?_)).mono (Nat.le_succ n)⟩⟩
      · unfold fX11_year_t
        rw [l1, Option.bind_some, hear0, Option.bind_some, if_pos rfl]
      · unfold fX12_year_77 fX12_year_132
        rw [if_neg (fun q => F2 (by rw [q]; exact Int32.le_refl _)), taken0 F2]; rfl
      · rw [wi_n (by omega), wi_n (by omega), wi_n (by omega), wi_2, wi_2, wi_2]
        exact gC _ _ _ (by omega)
      · rw [wi_n (by omega), wi_n (by omega), wi_2, wi_2]
        exact gM _ _ _ (by omega)
      · unfold sCq at hn
        rw [wi_n (by omega), wi_n (by omega), wi_n (by omega), wi_2, wi_2, wi_2]
        exact gC _ _ _ (by omega)
      · unfold sMq at hn
        rw [wi_n (by omega), wi_n (by omega), wi_2, wi_2]
        exact gM _ _ _ (by omega)
      · rw [wi_s, wi_s]
      · rw [wi_n (by omega), wi_s, wi_n (by omega), wi_n (by omega), wi_s, F1]
      · rw [wi_n (by omega), wi_n (by omega), wi_n (by omega), wi_s, F3]
      · rw [wi_n (by omega), wi_n (by omega), wi_n (by omega), wi_n (by omega), wi_n (by omega)]
        exact ⟨m210, c01⟩
      · unfold tq at hq
        rw [wi_n (by omega), wi_n (by omega), wi_n (by omega), wi_2, wi_2, wi_2]
        exact gC _ _ _ (by omega)
      · rw [wi_n (by omega), wi_n (by omega)]
        exact (gM _ _ _ (by omega)).1
      · rw [wi_2, wi_2]
        exact (gM _ _ _ (by omega)).2
