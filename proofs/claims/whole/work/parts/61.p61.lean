/-! ===== calls about the bill ===== -/
theorem sC_wr {D : mz_D} {o : Nat} (h : o = 14 ∨ o = 15 ∨ o = 12) (f : Nat → Int32) : sC D (wr D 0 o f) := fun g a j hn => by
  refine ⟨?_, rfl⟩
  rw [wr_1, if_neg (fun e => hn (by unfold sCq; omega))]
theorem tC.wr {g m d gs : Nat} {D : mz_D} (t : tC g m d gs D) (hg : g ≠ 0) (o : Nat) (f : Nat → Int32) : tC g m d gs (wr D 0 o f) := by
  obtain ⟨hm, hd, hgs, e1, e2, e3, hw, hw2⟩ := t
  exact ⟨hm, hd, hgs, by rw [wr_n (Or.inr hg)]; exact e1, by rw [wr_n (Or.inr hg)]; exact e2, by rw [wr_n (Or.inr hg)]; exact e3, fun k hk => by rw [wr_n (Or.inr hg)]; exact hw k hk, fun k hk => by rw [wr_n (Or.inr hg)]; exact hw2 k hk⟩
theorem total_wr {g : Nat} {D : mz_D} (hg : g ≠ 0) (o : Nat) (f : Nat → Int32) : fX1_total g (wr D 0 o f) = fX1_total g D := by
  unfold fX1_total
  have : ∀ n a k, fX1_total_4 g (wr D 0 o f) n a k = fX1_total_4 g D n a k := by
    intro n
    induction n with
    | zero => intro a k; rfl
    | succ n ih =>
      intro a k
      rw [fX1_total_4]
      try dsimp only
      rw [fX1_total_4]
      simp only [wr_n (Or.inr hg), ih]
  exact this _ _ _
theorem sTot_wr {g : Nat} {D : mz_D} (hg : g ≠ 0) (o : Nat) (f : Nat → Int32) (d : Nat) : sTot g (wr D 0 o f) d = sTot g D d := by
  unfold sTot
  simp only [wr_n (Or.inr hg)]
theorem sEat_wr {g : Nat} {D : mz_D} (hg : g ≠ 0) (o : Nat) (f : Nat → Int32) (m d i : Nat) : sEat g (wr D 0 o f) m d i = sEat g D m d i := by
  unfold sEat sOwn sCom
  simp only [wr_n (Or.inr hg)]
theorem sDue_wr {g : Nat} {D : mz_D} (hg : g ≠ 0) (o : Nat) (f : Nat → Int32) (m d gs : Nat) (s : Int32) (i : Nat) : sDue g (wr D 0 o f) m d gs s i = sDue g D m d gs s i := by
  unfold sDue sGst uF uC
  simp only [sTot_wr hg, sEat_wr hg, wr_n (Or.inr hg)]
theorem spl_or (x : Int32) : (fX11_isSplit x = 0 ∧ fX12_isSplit x = 0) ∨ ((x = 0 ∨ x = 1 ∨ x = 2) ∧ fX11_isSplit x = 1 ∧ fX12_isSplit x = 1) := by
  unfold fX11_isSplit fX12_isSplit
  by_cases h1 : x < 0
  · exact Or.inl ⟨if_pos h1, if_pos h1⟩
  · by_cases h2 : 2 < x
    · exact Or.inl ⟨by rw [if_neg h1, if_pos h2], by rw [if_neg h1, if_pos h2]⟩
    · exact Or.inr ⟨by grind, by rw [if_neg h1, if_neg h2], by rw [if_neg h1, if_neg h2]⟩
theorem n10 : (1 : Nat) ≠ 0 := by decide
theorem q_see {n : Nat} {D E : mz_D} {r v : Int32} {fc fm : mz_D → Option (Int32 × mz_D)} (h : Inv n D) (hc : sC D E) (e1 : fc D = some (r, mz_wi E 0 0 13 v)) (e2 : ∀ E', eM D E' → fm E' = some (r, mz_wi E' 0 200 2 v)) : ∃ (r : Int32) (D1 D2 : mz_D), fc D = some (r, D1) ∧ fm D1 = some (r, D2) ∧ Inv (n + 1) D2 :=
  q_fin h hc e1 sM.rf (e2 _ (hc.m.tr (fun g o j h1 h2 => ⟨by rw [wi_1, if_neg (by omega)], rfl⟩)))
theorem p_op14 : op_14 Inv := by
  intro n D x1 h
  obtain ⟨m, d, gs, ins, t⟩ := iR.t h
  have hm := t.hm
  rcases has_or t.hm t.many_c t.many_m x1 with ⟨c1, c2⟩ | ⟨p, hp, rfl, c1, c2⟩
  · exact q_look h (r := -1) (v := 1) (by unfold fX11_eaten; rw [if_pos c1]) (fun E he => by unfold fX12_eaten; rw [if_pos (by rw [has_m he]; exact c2)])
  · refine q_see h (r := sEat 1 D m d p) (v := 0) (sC_wr (Or.inr (Or.inl rfl)) (spR (sCom 1 D d) (2 ^ m - 1) (ownR 1 D (D.1 0 15) d) 6)) ?_ (fun E he => ?_)
    · unfold fX11_eaten
      rw [if_neg (by rw [c1]; exact one_ne), eaten_15 n10 t.c, Option.bind_some, nI_ix (by omega) (by omega), gd_tt, nI_cl (by omega), wr_s]
      unfold spR ownR
      try dsimp only
      rw [if_pos (by omega), if_pos (by omega)]
      rfl
    · unfold fX12_eaten
      rw [if_neg (by rw [has_m he, c2]; exact one_ne), (t.m he).eatM hp]
      rfl
theorem p_op15 : op_15 Inv := by
  intro n D x1 x2 h
  obtain ⟨m, d, gs, ins, t⟩ := iR.t h
  have hm := t.hm
  rcases has_or t.hm t.many_c t.many_m x1 with ⟨c1, c2⟩ | ⟨p, hp, rfl, c1, c2⟩
  · exact q_look h (r := -1) (v := 1) (by unfold fX11_due; rw [if_pos c1]) (fun E he => by unfold fX12_due; rw [if_pos (by rw [has_m he]; exact c2)])
  · rcases spl_or x2 with ⟨s1, s2⟩ | ⟨hs, s1, s2⟩
    · exact q_look h (r := -1) (v := 1) (by unfold fX11_due; rw [if_neg (by rw [c1]; exact one_ne), if_pos s1]) (fun E he => by unfold fX12_due; rw [if_neg (by rw [has_m he, c2]; exact one_ne), if_pos s2])
    · obtain ⟨f, hf, ef⟩ := dues_14 n10 t.c t.total hs
      refine q_see h (r := sDue 1 D m d gs x2 p) (v := 0) (sC_wr (Or.inl rfl) f) ?_ (fun E he => ?_)
      · unfold fX11_due
        rw [if_neg (by rw [c1]; exact one_ne), if_neg (by rw [s1]; exact one_ne), ef, Option.bind_some, nI_ix (by omega) (by omega), gd_tt, nI_cl (by omega), wr_s, hf p hp]
      · unfold fX12_due
        rw [if_neg (by rw [has_m he, c2]; exact one_ne), if_neg (by rw [s2]; exact one_ne), dueM (t.m he) hp]
        rfl
def sUnf (g : Nat) (D : mz_D) (m d gs : Nat) (s : Int32) (k : Nat) : Int32 := foldN (fun j a => a + fJ9_abs_0f7a4 (sDue g D m d gs s j - sEat g D m d j)) 0 k 0
theorem sUnf_s (g : Nat) (D : mz_D) (m d gs : Nat) (s : Int32) (k : Nat) : sUnf g D m d gs s (k + 1) = sUnf g D m d gs s k + fJ9_abs_0f7a4 (sDue g D m d gs s k - sEat g D m d k) := by
  unfold sUnf
  rw [foldN_end, Nat.zero_add]
theorem sUnf_wr {g : Nat} {D : mz_D} (hg : g ≠ 0) (o : Nat) (f : Nat → Int32) (m d gs : Nat) (s : Int32) (i : Nat) : sUnf g (wr D 0 o f) m d gs s i = sUnf g D m d gs s i := by
  unfold sUnf
  simp only [sDue_wr hg, sEat_wr hg]
theorem unfC {n : Nat} {D Dm : mz_D} {m d gs ins : Nat} (t : tC 1 m d gs D) (hT : fX1_total 1 D = some (sTot 1 D d)) {s : Int32} (hs : s = 0 ∨ s = 1 ∨ s = 2) : ∃ f f', fX11_unfairness s D = some (sUnf 1 D m d gs s m, wr (wr D 0 14 f) 0 15 f') := by
  obtain ⟨f, hf, ef⟩ := dues_14 n10 t hT hs
  have hm := t.1
  have t1 : tC 1 m d gs (wr D 0 14 f) := t.wr n10 14 f
  have ee := eaten_15 n10 t1
  obtain ⟨f', hf'⟩ : ∃ f', f' = spR (sCom 1 (wr D 0 14 f) d) (2 ^ m - 1) (ownR 1 (wr D 0 14 f) ((wr D 0 14 f).1 0 15) d) 6 := ⟨_, rfl⟩
  rw [← hf'] at ee
  have hfe : ∀ i, i < m → f' i = sEat 1 D m d i := fun i hi => by
    rw [hf', ← sEat_wr n10 14 f]
    unfold spR ownR sEat
    try dsimp only
    rw [if_pos (by omega), if_pos (by omega)]
  refine ⟨f, f', ?_⟩
  unfold fX11_unfairness
  rw [ef, Option.bind_some, ee, Option.bind_some]
  have e1 : D.1 1 101 0 = nI m := t.2.2.2.1
  exact lpD (fun n s k => fX11_unfairness_47 n s k (wr (wr D 0 14 f) 0 15 f')) (fun k => sUnf 1 D m d gs s k) m (fun n k hk => by
    show fX11_unfairness_47 (n + 1) (sUnf 1 D m d gs s k) (nI k) (wr (wr D 0 14 f) 0 15 f') = fX11_unfairness_47 n (sUnf 1 D m d gs s (k + 1)) (nI (k + 1)) (wr (wr D 0 14 f) 0 15 f')
    rw [fX11_unfairness_47]
    simp (disch := omega) only [wr_n (Or.inr n10), e1, nJ_le, nI_ix, gd_tt, nI_cl, a1r, wr_s]
    rw [if_neg (by omega), wr_n (Or.inl (by omega)), wr_s, hf k hk, hfe k hk, sUnf_s]) (fun n => by
    show fX11_unfairness_47 (n + 1) (sUnf 1 D m d gs s m) (nI m) (wr (wr D 0 14 f) 0 15 f') = _
    rw [fX11_unfairness_47]
    simp (disch := omega) only [wr_n (Or.inr n10), e1]
    rw [if_pos (Int32.le_refl _)]) m 0 mz_N (by omega) (N_lt (by omega))
theorem unfM {n g : Nat} {Dc Dm : mz_D} {m d gs ins : Nat} (h : tR n g 0 0 Dc Dm m d gs ins) (s : Int32) : fX12_unfairBy s Dm = some (sUnf g Dc m d gs s m) := by
  have hm := h.hm
  exact lpD (fun n a k => fX12_unfairBy_4 Dm n s a k) (fun k => sUnf g Dc m d gs s k) m (fun n k hk => by
    show fX12_unfairBy_4 Dm (n + 1) s (sUnf g Dc m d gs s k) (nI k) = fX12_unfairBy_4 Dm n s (sUnf g Dc m d gs s (k + 1)) (nI (k + 1))
    rw [fX12_unfairBy_4]
    simp (disch := omega) only [z0, h.uMany, nJ_le, a1r, dueM h hk, h.eatM hk, Option.bind_some]
    rw [if_neg (by omega), sUnf_s]) (fun n => by
    show fX12_unfairBy_4 Dm (n + 1) s (sUnf g Dc m d gs s m) (nI m) = _
    rw [fX12_unfairBy_4]
    simp only [z0, h.uMany]
    rw [if_pos (Int32.le_refl _)]) m 0 mz_N (by omega) (N_lt (by omega))
theorem sC_w2 {D : mz_D} (f f' : Nat → Int32) : sC D (wr (wr D 0 14 f) 0 15 f') := (sC_wr (Or.inl rfl) f).tr (sC_wr (Or.inr (Or.inl rfl)) f')
theorem p_op16 : op_16 Inv := by
  intro n D x1 h
  obtain ⟨m, d, gs, ins, t⟩ := iR.t h
  rcases spl_or x1 with ⟨s1, s2⟩ | ⟨hs, s1, s2⟩
  · exact q_look h (r := -1) (v := 1) (by unfold fX11_unfair; rw [if_pos s1]) (fun E he => by unfold fX12_unfair; rw [if_pos s2])
  · obtain ⟨f, f', e⟩ := unfC (n := n) (Dm := D) (ins := ins) t.c t.total hs
    refine q_see h (r := sUnf 1 D m d gs x1 m) (v := 0) (sC_w2 f f') ?_ (fun E he => ?_)
    · unfold fX11_unfair
      rw [if_neg (by rw [s1]; exact one_ne), e]
      rfl
    · unfold fX12_unfair
      rw [if_neg (by rw [s2]; exact one_ne), unfM (t.m he)]
      rfl
theorem p_op17 : op_17 Inv := by
  intro n D h
  obtain ⟨m, d, gs, ins, t⟩ := iR.t h
  have U : ∀ s, s = 0 ∨ s = 1 ∨ s = 2 → ∀ E, sC D E → tC 1 m d gs E → fX1_total 1 E = some (sTot 1 E d) → (∀ s, sUnf 1 E m d gs s m = sUnf 1 D m d gs s m) → ∃ F, sC D F ∧ tC 1 m d gs F ∧ fX1_total 1 F = some (sTot 1 F d) ∧ (∀ s, sUnf 1 F m d gs s m = sUnf 1 D m d gs s m) ∧ fX11_unfairness s E = some (sUnf 1 D m d gs s m, F) := by
    intro s hs E hE tE hT hU
    obtain ⟨f, f', e⟩ := unfC (n := n) (Dm := D) (ins := ins) tE hT hs
    refine ⟨_, hE.tr (sC_w2 f f'), (tE.wr n10 14 f).wr n10 15 f', ?_, fun s => ?_, ?_⟩
    · rw [total_wr n10, total_wr n10, hT, sTot_wr n10, sTot_wr n10]
    · rw [sUnf_wr n10, sUnf_wr n10, hU]
    · rw [e, hU]
  obtain ⟨E0, a0, b0, c0, d0, e0⟩ := U 0 (Or.inl rfl) D sC.rf t.c t.total (fun _ => rfl)
  obtain ⟨E1, a1, b1, c1, d1, e1⟩ := U 1 (Or.inr (Or.inl rfl)) E0 a0 b0 c0 d0
  obtain ⟨E2, a2, b2, c2, d2, e2⟩ := U 2 (Or.inr (Or.inr rfl)) E1 a1 b1 c1 d1
  obtain ⟨u, hu⟩ : ∃ u : Int32 → Int32, u = fun s => sUnf 1 D m d gs s m := ⟨_, rfl⟩
  have M : ∀ E, eM D E → ∀ s, fX12_unfairBy s E = some (u s) := fun E he s => by rw [hu]; exact unfM (t.m he) s
  replace e0 : fX11_unfairness 0 D = some (u 0, E0) := by rw [hu]; exact e0
  replace e1 : fX11_unfairness 1 E0 = some (u 1, E1) := by rw [hu]; exact e1
  replace e2 : fX11_unfairness 2 E1 = some (u 2, E2) := by rw [hu]; exact e2
  have NN : mz_N = 999996 + 1 + 1 + 1 + 1 := rfl
  have k2 : ¬ (2 : Int32) < 1 := by decide
  have k3 : ¬ (2 : Int32) < 2 := by decide
  have k4 : (2 : Int32) < 3 := by decide
  have j1 : ¬ (3 : Int32) ≤ 1 := by decide
  have j2 : ¬ (3 : Int32) ≤ 2 := by decide
  have j3 : (3 : Int32) ≤ 3 := by decide
  have p1 : (1 : Int32) + 1 = 2 := rfl
  have p2 : (2 : Int32) + 1 = 3 := rfl
  refine q_see h (r := if u 0 ≤ u 1 then (if u 0 ≤ u 2 then 0 else 2) else (if u 1 ≤ u 2 then 1 else 2)) (v := 0) a2 ?_ (fun E he => ?_)
  · unfold fX11_fairest
    (rw [e0, Option.bind_some, NN, fX11_fairest_10]; try dsimp only; rw [if_neg k2, e1, Option.bind_some])
    by_cases g1 : u 0 ≤ u 1
    · (rw [if_pos g1, if_pos g1, p1, fX11_fairest_10]; try dsimp only; rw [if_neg k3, e2, Option.bind_some])
      by_cases g2 : u 0 ≤ u 2
      · (rw [if_pos g2, if_pos g2, p2, fX11_fairest_10]; try dsimp only; rw [if_pos k4])
      · (rw [if_neg g2, if_neg g2, p2, fX11_fairest_10]; try dsimp only; rw [if_pos k4])
    · (rw [if_neg g1, if_neg g1, p1, fX11_fairest_10]; try dsimp only; rw [if_neg k3, e2, Option.bind_some])
      by_cases g2 : u 1 ≤ u 2
      · (rw [if_pos g2, if_pos g2, p2, fX11_fairest_10]; try dsimp only; rw [if_pos k4])
      · (rw [if_neg g2, if_neg g2, p2, fX11_fairest_10]; try dsimp only; rw [if_pos k4])
  · unfold fX12_fairest
    (rw [NN, fX12_fairest_4]; try dsimp only; rw [if_neg j1, M E he, Option.bind_some, M E he, Option.bind_some])
    by_cases g1 : u 0 ≤ u 1
    · (rw [if_pos g1, if_pos g1, p1, fX12_fairest_4]; try dsimp only; rw [if_neg j2, M E he, Option.bind_some, M E he, Option.bind_some])
      by_cases g2 : u 0 ≤ u 2
      · (rw [if_pos g2, if_pos g2, p2, fX12_fairest_4]; try dsimp only; rw [if_pos j3])
      · (rw [if_neg g2, if_neg g2, p2, fX12_fairest_4]; try dsimp only; rw [if_pos j3])
    · (rw [if_neg g1, if_neg g1, p1, fX12_fairest_4]; try dsimp only; rw [if_neg j2, M E he, Option.bind_some, M E he, Option.bind_some])
      by_cases g2 : u 1 ≤ u 2
      · (rw [if_pos g2, if_pos g2, p2, fX12_fairest_4]; try dsimp only; rw [if_pos j3])
      · (rw [if_neg g2, if_neg g2, p2, fX12_fairest_4]; try dsimp only; rw [if_pos j3])
theorem p_op18 : op_18 Inv := by
  intro n D x1 x2 x3 h
  obtain ⟨m, d, gs, ins, t⟩ := iR.t h
  have hm := t.hm
  rcases has_or t.hm t.many_c t.many_m x1 with ⟨c1, c2⟩ | ⟨p, hp, rfl, c1, c2⟩
  · exact q_look h (r := -1) (v := 1) (by unfold fX11_dearer; rw [if_pos c1]) (fun E he => by unfold fX12_dearer; rw [if_pos (by rw [has_m he]; exact c2)])
  · have hc : ¬ fX4_has 1 (nI p) D = 0 := by rw [c1]; exact one_ne
    have hq : ∀ E, eM D E → ¬ fX12_isPerson (nI p) E = 0 := fun E he => by rw [has_m he, c2]; exact one_ne
    rcases spl_or x2 with ⟨s1, s2⟩ | ⟨hs, s1, s2⟩
    · exact q_look h (r := -1) (v := 1) (by unfold fX11_dearer; rw [if_neg hc, if_pos s1]) (fun E he => by unfold fX12_dearer; rw [if_neg (hq E he), if_pos s2])
    · rcases spl_or x3 with ⟨r1, r2⟩ | ⟨hr, r1, r2⟩
      · exact q_look h (r := -1) (v := 1) (by unfold fX11_dearer; rw [if_neg hc, if_neg (by rw [s1]; exact one_ne), if_pos r1]) (fun E he => by unfold fX12_dearer; rw [if_neg (hq E he), if_neg (by rw [s2]; exact one_ne), if_pos r2])
      · obtain ⟨f, hf, ef⟩ := dues_14 n10 t.c t.total hs
        obtain ⟨f2, hf2, ef2⟩ := dues_14 n10 (t.c.wr n10 14 f) (by rw [total_wr n10, t.total, sTot_wr n10]) hr
        rw [wr_wr] at ef2
        refine q_see h (r := sDue 1 D m d gs x2 p - sDue 1 D m d gs x3 p) (v := 0) (sC_wr (Or.inl rfl) f2) ?_ (fun E he => ?_)
        · unfold fX11_dearer
          rw [if_neg hc, if_neg (by rw [s1]; exact one_ne), if_neg (by rw [r1]; exact one_ne), ef, Option.bind_some, nI_ix (by omega) (by omega), gd_tt, ef2, Option.bind_some, nI_cl (by omega), wr_s, wr_s, hf p hp, hf2 p hp, sDue_wr n10]
        · unfold fX12_dearer
          rw [if_neg (hq E he), if_neg (by rw [s2]; exact one_ne), if_neg (by rw [r2]; exact one_ne), dueM (t.m he) hp, Option.bind_some, dueM (t.m he) hp]
          rfl
/-- the first greatest of a row, the class's way -/
theorem amx_1 {C : Nat → Bool} {gt : Nat → Nat → Bool} (h : C 0 = true) (M : Nat) : amx C gt (M + 1) = foldN (amS C gt) 1 M (some 0) := by
  show foldN (amS C gt) 1 M (amS C gt 0 none) = _
  simp [amS, h]
theorem fgB (F : Nat → Int32 → Int32 → Option Int32) (v : Nat → Int32) (cmp : Int32 → Int32 → Bool) (m : Nat) (hm : m ≤ 6) (hs : ∀ n k j, k < m → j < k → F (n + 1) (nI j) (nI k) = F n (if cmp (v k) (v j) then nI k else nI j) (nI (k + 1))) (he : ∀ n x, F (n + 1) x (nI m) = some x) (h1 : ∀ n, 0 < m → F (n + 1) (-1) 1 = F (n + 1) (-1) 1) (hm0 : 0 < m) : F mz_N 0 1 = some (enc (amx (fun _ => true) (fun k j => cmp (v k) (v j)) m)) := by
  obtain ⟨m', rfl⟩ : ∃ m', m = m' + 1 := ⟨m - 1, by omega⟩
  rw [amx_1 rfl]
  have key : ∀ d n k j, k + d = m' + 1 → j < k → d < n → F n (nI j) (nI k) = some (enc (foldN (amS (fun _ => true) (fun k j => cmp (v k) (v j))) k d (some j))) := by
    intro d
    induction d with
    | zero =>
      intro n k j hk hj hn
      obtain ⟨n, rfl⟩ : ∃ n', n = n' + 1 := ⟨n - 1, by omega⟩
      rw [show k = m' + 1 by omega, he]
      rfl
    | succ d ih =>
      intro n k j hk hj hn
      obtain ⟨n, rfl⟩ : ∃ n', n = n' + 1 := ⟨n - 1, by omega⟩
      rw [hs n k j (by omega) hj]
      show _ = some (enc (foldN (amS (fun _ => true) (fun k j => cmp (v k) (v j))) (k + 1) d (amS (fun _ => true) (fun k j => cmp (v k) (v j)) k (some j))))
      cases hc : cmp (v k) (v j) with
      | true => simp only [amS, hc, Bool.true_and, if_true]; exact ih n (k + 1) k (by omega) (by omega) (by omega)
      | false => simp only [amS, hc, Bool.true_and, Bool.false_eq_true, if_false]; exact ih n (k + 1) j (by omega) (by omega) (by omega)
  exact key m' mz_N 1 0 (by omega) (by omega) (N_lt (by omega))
theorem fgr_14 {m : Nat} (hm : m ≤ 6) (D : mz_D) : fX11_firstGreatest_14 (nI m) D = some (enc (amx (fun _ => true) (fun k j => decide (D.1 0 14 j < D.1 0 14 k)) m)) := by
  unfold fX11_firstGreatest_14
  by_cases h0 : m = 0
  · subst h0
    (rw [if_pos (by decide), show mz_N = 999999 + 1 from rfl, fX11_firstGreatest_14_12]; try dsimp only; rw [if_pos (by decide)])
    rfl
  · rw [if_neg (by rw [ol_ler (c := 0) (by omega) (by omega)]; omega)]
    refine fgB (fun n j k => fX11_firstGreatest_14_12 D n (nI m) j k) (D.1 0 14) (fun a b => decide (b < a)) m hm (fun n k j hk hj => ?_) (fun n x => ?_) (fun _ _ => rfl) (by omega)
    · show fX11_firstGreatest_14_12 D (n + 1) (nI m) (nI j) (nI k) = _
      rw [fX11_firstGreatest_14_12]
      simp (disch := omega) only [nJ_le, on_le, nI_ix, gd_tt, nI_cl, a1r]
      rw [if_neg (by omega), if_neg (by omega)]
      by_cases hg : D.1 0 14 k ≤ D.1 0 14 j
      · rw [if_pos hg]; simp [Int32.not_lt.mpr hg]
      · rw [if_neg hg]; simp [Int32.not_le.mp hg]
    · show fX11_firstGreatest_14_12 D (n + 1) (nI m) x (nI m) = _
      rw [fX11_firstGreatest_14_12]
      try dsimp only
      rw [if_pos (Int32.le_refl _)]
theorem p_op19 : op_19 Inv := by
  intro n D x1 h
  obtain ⟨m, d, gs, ins, t⟩ := iR.t h
  have hm := t.hm
  rcases spl_or x1 with ⟨s1, s2⟩ | ⟨hs, s1, s2⟩
  · exact q_look h (r := -1) (v := 1) (by unfold fX11_hardest; rw [if_pos s1]) (fun E he => by unfold fX12_hardest; rw [if_pos s2])
  · obtain ⟨f, hf, ef⟩ := dues_14 n10 t.c t.total hs
    obtain ⟨gt, hgt⟩ : ∃ gt : Nat → Nat → Bool, gt = fun k j => decide (sDue 1 D m d gs x1 j < sDue 1 D m d gs x1 k) := ⟨_, rfl⟩
    have hin := amx_in (C := fun _ => true) (gt := gt) m
    have ea : amx (fun _ => true) (fun k j => decide ((wr D 0 14 f).1 0 14 j < (wr D 0 14 f).1 0 14 k)) m = amx (fun _ => true) gt m := amx_congr (fun _ _ => rfl) (fun k j hk hj => by rw [hgt, wr_s, wr_s, hf k hk, hf j hj])
    refine q_see h (r := enc (amx (fun _ => true) gt m)) (v := sv (amx (fun _ => true) gt m)) (sC_wr (Or.inl rfl) f) ?_ (fun E he => ?_)
    · unfold fX11_hardest
      rw [if_neg (by rw [s1]; exact one_ne), ef, Option.bind_some, wr_n (Or.inl (by omega)), t.many_c, fgr_14 hm, Option.bind_some, ea, ans_c hin (by omega)]
      rfl
    · have t2 := t.m he
      unfold fX12_hardest
      rw [if_neg (by rw [s2]; exact one_ne)]
      refine (lpA (fun n s k => fX12_hardest_17 n x1 s k E) enc (fun _ => true) gt m (fun b => fX12_orNone (enc b) E) ?_ ?_ mz_N (N_lt (by omega))).trans (ans_m hin (by omega) E)
      · intro n b k hk hb
        show fX12_hardest_17 (n + 1) _ _ (nI k) E = _
        rw [fX12_hardest_17]
        unfold fX12_hardest_47
        simp (disch := omega) only [z0, t2.uMany, nJ_le, dueM t2 hk, Option.bind_some, a1r]
        rw [if_neg (by omega)]
        cases b with
        | none => simp [enc, amS]
        | some j =>
          have hj := hb j rfl
          rw [if_neg (fun e => by have := (enc_ne hb (by omega)).mp e; cases this)]
          simp only [enc, dueM t2 (show j < m by omega), Option.bind_some]
          by_cases hg : sDue 1 D m d gs x1 k ≤ sDue 1 D m d gs x1 j
          · have : gt k j = false := by rw [hgt]; simp [Int32.not_lt.mpr hg]
            simp [amS, enc, hg, this]
          · have : gt k j = true := by rw [hgt]; simp [Int32.not_le.mp hg]
            simp [amS, enc, hg, this]
      · intro n b hb
        show fX12_hardest_17 (n + 1) _ _ (nI m) E = _
        rw [fX12_hardest_17]
        simp only [z0, t2.uMany]
        rw [if_pos (Int32.le_refl _)]
        cases fX12_orNone (enc b) E <;> rfl
