/-! ===== all owes become what settles: the call ===== -/
theorem fill_114 (g : Nat) (D : mz_D) : fJ7_fill_53178_114 g 0 D = some (wr D g 114 (fun i => if i < 36 then 0 else D.1 g 114 i)) := by
  have := lpD (fun n s k => fJ7_fill_53178_114_5 g n 0 k (nI 36) s) (fun k => wr D g 114 (fun i => if i < k then 0 else D.1 g 114 i)) 36 (r := some (wr D g 114 (fun i => if i < 36 then 0 else D.1 g 114 i))) (fun n k hk => by
    show fJ7_fill_53178_114_5 g (n + 1) 0 (nI k) (nI 36) _ = _
    rw [fJ7_fill_53178_114_5]
    simp (disch := omega) only [nJ_le, nI_ix, gd_tt, nI_cl, a1r, wr_up]
    rw [if_neg (by omega), fill_up D g 114 k 0 36 hk]) (fun n => by
    show fJ7_fill_53178_114_5 g (n + 1) 0 (nI 36) (nI 36) _ = _
    rw [fJ7_fill_53178_114_5]
    dsimp only
    rw [if_pos (Int32.le_refl _)]) 36 0 mz_N rfl (N_lt (by omega))
  rw [show (fun i => if i < 0 then 0 else D.1 g 114 i) = D.1 g 114 from by funext i; exact if_neg (by omega), wr_id] at this
  exact this
def stC (D : mz_D) (W F : Nat → Int32) : mz_D := wr (wr D 1 115 W) 2 114 F
def stM (E : mz_D) (V G : Nat → Int32) : mz_D := wr (wr E 0 210 V) 0 211 G
theorem stC_w (D : mz_D) (W F : Nat → Int32) (j : Nat) : (stC D W F).1 1 115 j = W j := by unfold stC; rw [wr_n (Or.inl (by decide)), wr_s]
theorem stC_r (D : mz_D) (W F : Nat → Int32) : (stC D W F).1 1 115 = W := by funext j; exact stC_w D W F j
theorem stC_f (D : mz_D) (W F : Nat → Int32) : (stC D W F).1 2 114 = F := by funext j; unfold stC; rw [wr_s]
theorem stC_u1 (D : mz_D) (W F : Nat → Int32) (j : Nat) (v : Int32) : mz_wi (stC D W F) 2 114 j v = stC D W (up F j v) := by unfold stC; rw [wr_up]
theorem wi_wrc {D : mz_D} {g o g' o' j : Nat} {f : Nat → Int32} {v : Int32} (h : o ≠ o' ∨ g ≠ g') : mz_wi (wr D g' o' f) g o j v = wr (mz_wi D g o j v) g' o' f := by
  refine mzD_ext (fun a b c => ?_) rfl
  by_cases e1 : b = o ∧ a = g ∧ c = j
  · rw [e1.1, e1.2.1, e1.2.2, wi_s, wr_n h, wi_s]
  · rw [wi_n (by omega)]
    by_cases e2 : b = o' ∧ a = g'
    · rw [e2.1, e2.2, wr_s, wr_s]
    · rw [wr_n (by omega), wr_n (by omega), wi_n (by omega)]
theorem stC_u2 (D : mz_D) (W F : Nat → Int32) (j : Nat) (v : Int32) : mz_wi (stC D W F) 1 115 j v = stC D (up W j v) F := by unfold stC; rw [wi_wrc (Or.inl (by decide)), wr_up]
theorem stM_w (E : mz_D) (V G : Nat → Int32) (j : Nat) : (stM E V G).1 0 210 j = V j := by unfold stM; rw [wr_n (Or.inl (by decide)), wr_s]
theorem stM_r (E : mz_D) (V G : Nat → Int32) : (stM E V G).1 0 210 = V := by funext j; exact stM_w E V G j
theorem stM_g (E : mz_D) (V G : Nat → Int32) (j : Nat) : (stM E V G).1 0 211 j = G j := by unfold stM; rw [wr_s]
theorem stM_u1 (E : mz_D) (V G : Nat → Int32) (j : Nat) (v : Int32) : mz_wi (stM E V G) 0 211 j v = stM E V (up G j v) := by unfold stM; rw [wr_up]
theorem stM_u2 (E : mz_D) (V G : Nat → Int32) (j : Nat) (v : Int32) : mz_wi (stM E V G) 0 210 j v = stM E (up V j v) G := by unfold stM; rw [wi_wrc (Or.inl (by decide)), wr_up]
theorem stM_1 (E : mz_D) (V G : Nat → Int32) (j : Nat) : (stM E V G).1 0 201 j = E.1 0 201 j := by unfold stM; rw [wr_n (Or.inl (by decide)), wr_n (Or.inl (by decide))]
theorem mnE {w : Nat → Int32} {m : Nat} (hm : 0 < m) : enc (mnW w m) = nI (smp w m) := by
  obtain ⟨p, hp⟩ := mn_some (w := w) hm
  unfold smp
  rw [hp]
  rfl
theorem mxE {w : Nat → Int32} {m : Nat} (hm : 0 < m) : enc (mxW w m) = nI (smr w m) := by
  obtain ⟨p, hp⟩ := mx_some (w := w) hm
  unfold smr
  rw [hp]
  rfl
/-- the class: one turn of its loop -/
theorem slC {D : mz_D} {W F : Nat → Int32} {m : Nat} (hm : 0 < m) (hm6 : m ≤ 6) (g : goodW W m) (n k : Nat) (hk : k < 6) : fX2_settles_115_6 2 1 (n + 1) (nI m) (nI k) (stC D W F) = if W (smr W m) ≤ 0 then some (1, stC D W F) else if smu W m ≤ 999999 then fX2_settles_115_6 2 1 n (nI m) (nI (k + 1)) (stC D (smw W m) (smf W F m)) else some (0, stC D W F) := by
  obtain ⟨p1, r1, -⟩ := sm_step hm g
  rw [fX2_settles_115_6]
  dsimp only
  rw [if_neg (by rw [ol_le (c := 6) (by omega) (by omega)]; omega), fls_115 hm6, fgr_115 hm6, stC_r, Option.bind_some, Option.bind_some, mnE hm, mxE hm, if_neg (fun e => (nI_ne1 (k := smp W m) (by omega)).mp e), if_neg (fun e => (nI_ne1 (k := smr W m) (by omega)).mp e)]
  unfold fX2_put
  simp (disch := omega) only [nI_ix, gd_tt, nI_cl, stC_w, r6m, nI_add, Option.bind_some, stC_u1, stC_u2, a1r]
  by_cases c : W (smr W m) ≤ 0
  · rw [if_pos c, if_neg (Int32.not_lt.mpr c)]
  · rw [if_neg c, if_pos (Int32.not_le.mp c)]
    rfl
/-- the reference: one turn of its loop -/
theorem slM {E : mz_D} {V G : Nat → Int32} {m : Nat} (hm : 0 < m) (hm6 : m ≤ 6) (g : goodW V m) (e0 : E.1 0 201 0 = nI m) (n : Nat) (hz : ¬ V (smr V m) ≤ 0 → G (smp V m * 6 + smr V m) = 0) : fX12_simplify_25 (n + 1) (stM E V G) = if V (smr V m) ≤ 0 then fX12_simplify_113 mz_N 0 (stM E V G) else fX12_simplify_25 n (stM E (smw V m) (smf V G m)) := by
  obtain ⟨p1, r1, s3, -, s5⟩ := sm_step hm g
  have e1 : (stM E V G).1 0 201 0 = nI m := by rw [stM_1]; exact e0
  rw [fX12_simplify_25]
  dsimp only
  rw [z0, e1, if_neg (by rw [ol_ler (c := 0) (by omega) (by omega)]; omega), mnM hm6 e1, mxM hm6 e1, stM_r, Option.bind_some, Option.bind_some, Option.bind_some, mnE hm, mxE hm]
  simp (disch := omega) only [nI_ix, gd_tt, nI_cl, stM_w, stM_g, l6m, nI_add, stM_u1, stM_u2]
  by_cases c : V (smr V m) ≤ 0
  · rw [if_pos c, if_pos (s3.mp c)]
  · rw [if_neg c, if_neg (fun e => c (s3.mpr e))]
    have z := hz c
    rw [show 6 * smp V m + smr V m = smp V m * 6 + smr V m by omega, z, show ∀ x : Int32, (0 : Int32) + x = x from fun x => Int32.zero_add x]
    rfl
/-- the reference: the end of it -/
theorem enM {n : Nat} {D E : mz_D} {m d gs ins : Nat} {V G : Nat → Int32} (hb : tR n 1 0 0 D (wr (stM E V G) 0 201 (mkR (stM E V G) G)) m d gs ins) (e1 : ∀ c, c < 36 → G c ≤ 999999) : fX12_simplify_113 mz_N 0 (stM E V G) = some (tieS 1 D, mz_wi (wr (stM E V G) 0 201 (mkR (stM E V G) G)) 0 200 2 0) := by
  refine Eq.trans (lpD (fun n (_ : Unit) k => fX12_simplify_113 n k (stM E V G)) (fun _ => ()) 36 (r := fX12_simplify_146 mz_N 0 (stM E V G)) (fun n k hk => ?_) (fun n => ?_) 36 0 mz_N rfl (N_lt (by omega))) ?_
  · show fX12_simplify_113 (n + 1) (nI k) (stM E V G) = fX12_simplify_113 n (nI (k + 1)) (stM E V G)
    rw [fX12_simplify_113]
    simp (disch := omega) only [nI_ix, gd_tt, nI_cl, stM_g, a1r]
    rw [if_neg (by rw [ol_le (c := 36) (by omega) (by omega)]; omega), if_pos (e1 k hk)]
  · show fX12_simplify_113 (n + 1) (nI 36) (stM E V G) = _
    rw [fX12_simplify_113]
    dsimp only
    rw [if_pos (by decide)]
  obtain ⟨R, hR⟩ : ∃ R : Nat → Nat → Int32, R = fun k j => if 92 ≤ j ∧ j < 92 + k then G (j - 92) else (stM E V G).1 0 201 j := ⟨_, rfl⟩
  have key : fX12_simplify_146 mz_N (nI 0) (wr (stM E V G) 0 201 (R 0)) = some (tieS 1 D, mz_wi (wr (stM E V G) 0 201 (mkR (stM E V G) G)) 0 200 2 0) := lpD (fun n s k => fX12_simplify_146 n k s) (fun k => wr (stM E V G) 0 201 (R k)) 36 (fun n k hk => by
    show fX12_simplify_146 (n + 1) (nI k) (wr (stM E V G) 0 201 (R k)) = fX12_simplify_146 n (nI (k + 1)) (wr (stM E V G) 0 201 (R (k + 1)))
    have u : up (R k) (92 + k) (G k) = R (k + 1) := by
      funext j
      rw [hR]
      unfold up
      dsimp only
      by_cases h1 : j = 92 + k
      · rw [if_pos h1, if_pos (by omega), h1, show 92 + k - 92 = k by omega]
      · rw [if_neg h1]
        by_cases h2 : 92 ≤ j ∧ j < 92 + k
        · rw [if_pos h2, if_pos (by omega)]
        · rw [if_neg h2, if_neg (by omega)]
    rw [fX12_simplify_146]
    simp (disch := omega) only [nI_ix, gd_tt, nI_cl, a92l, a1r, wr_n (show 211 ≠ 201 ∨ 0 ≠ 0 from Or.inl (by decide)), stM_g, wr_up, u]
    rw [if_neg (by rw [ol_le (c := 36) (by omega) (by omega)]; omega)]) (fun n => by
    show fX12_simplify_146 (n + 1) (nI 36) (wr (stM E V G) 0 201 (R 36)) = _
    have e36 : R 36 = mkR (stM E V G) G := by rw [hR]; rfl
    rw [fX12_simplify_146]
    dsimp only
    rw [if_pos (by decide), e36, hb.tiesM]
    rfl) 36 0 mz_N rfl (N_lt (by omega))
  have z : R 0 = (stM E V G).1 0 201 := by rw [hR]; funext j; exact if_neg (by omega)
  rw [z, wr_id] at key
  exact key
theorem bdM {E : mz_D} {V G : Nat → Int32} (bad : ¬ ∀ c, c < 36 → G c ≤ 999999) : fX12_simplify_113 mz_N 0 (stM E V G) = some (-1, mz_wi (stM E V G) 0 200 2 7) := by
  obtain ⟨c, hc, hb, hlt⟩ := least bad
  exact lpD (fun n (_ : Unit) k => fX12_simplify_113 n k (stM E V G)) (fun _ => ()) c (fun n k hk => by
    show fX12_simplify_113 (n + 1) (nI k) (stM E V G) = fX12_simplify_113 n (nI (k + 1)) (stM E V G)
    rw [fX12_simplify_113]
    simp (disch := omega) only [nI_ix, gd_tt, nI_cl, stM_g, a1r]
    rw [if_neg (by rw [ol_le (c := 36) (by omega) (by omega)]; omega), if_pos (hlt k hk)]) (fun n => by
    show fX12_simplify_113 (n + 1) (nI c) (stM E V G) = _
    rw [fX12_simplify_113]
    simp (disch := omega) only [nI_ix, gd_tt, nI_cl, stM_g, a1r]
    rw [if_neg (by rw [ol_le (c := 36) (by omega) (by omega)]; omega), if_neg hb]) c 0 mz_N (by omega) (N_lt (by omega))
theorem sC_st {D : mz_D} (W F : Nat → Int32) : sC D (stC D W F) := fun a o j hn => by
  have h1 : ¬ (a = 2 ∧ o < 200) := fun e => hn (Or.inl e)
  have h2 : ¬ o = 115 := fun e => hn (by unfold sCq; omega)
  unfold stC
  exact ⟨by rw [wr_n (by omega), wr_n (by omega)], rfl⟩
theorem sM_st {E : mz_D} (V G : Nat → Int32) : sM E (stM E V G) := (sM_wr (by omega) V).tr (sM_wr (by omega) G)
theorem sI_c {f f' : Nat → Int} : ∀ {m : Nat}, (∀ i, i < m → f i = f' i) → sI f m = sI f' m := by
  intro m
  induction m with
  | zero => intro _; rfl
  | succ m ih =>
    intro h
    show sI f m + f m = sI f' m + f' m
    rw [ih (fun i hi => h i (by omega)), h m (by omega)]
theorem good1 {n g b nb : Nat} {Dc Dm : mz_D} {m d gs ins : Nat} (t : tR n g b nb Dc Dm m d gs ins) {w0 : Nat → Int32} (h : ∀ i, i < m → w0 i = sBal g Dc i) : ∀ i, i < m → -5999994 ≤ (w0 i).toInt ∧ (w0 i).toInt ≤ 5999994 := by
  intro i hi
  have hm := t.hm
  rw [h i hi]
  exact t.balB (by omega)
theorem good2 {n g b nb : Nat} {Dc Dm : mz_D} {m d gs ins : Nat} (t : tR n g b nb Dc Dm m d gs ins) {w0 : Nat → Int32} (h : ∀ i, i < m → w0 i = sBal g Dc i) : sI (fun i => (w0 i).toInt) m = 0 := by
  have e : sI (fun i => (w0 i).toInt) m = sI (fun p => (sBal g Dc p).toInt) m := sI_c (fun i hi => by rw [h i hi])
  rw [e]
  exact t.bal0
theorem good0 {n g b nb : Nat} {Dc Dm : mz_D} {m d gs ins : Nat} (t : tR n g b nb Dc Dm m d gs ins) {w0 : Nat → Int32} (h : ∀ i, i < m → w0 i = sBal g Dc i) : goodW w0 m := And.intro (good1 t h) (good2 t h)
theorem ni0 : nI 0 = (0 : Int32) := rfl
theorem p_op43 : op_43 Inv := by
  intro n D h
  obtain ⟨m, d, gs, ins, t⟩ := iR.t h
  have hm := t.hm
  obtain ⟨w0, hw0⟩ : ∃ w0, w0 = wgR 1 D (D.1 1 115) 6 := ⟨_, rfl⟩
  obtain ⟨f0, hf0⟩ : ∃ f0 : Nat → Int32, f0 = fun i => if i < 36 then 0 else D.1 2 114 i := ⟨_, rfl⟩
  have f00 : ∀ c, c < 36 → f0 c = 0 := fun c hc => by rw [hf0]; exact if_pos hc
  have C0 : fX11_simplify D = Option.bind (fX2_settles_115_6 2 1 mz_N (nI m) 0 (stC D w0 f0)) fun q2 => (if q2.1 = 0 then (some ((-1 : Int32), (mz_wi q2.2 0 0 13 (7 : Int32)))) else (Option.bind (fX2_copyFrom 1 2 q2.2) fun q4 => (Option.bind (fX2_countTies 1 q4) fun q5 => (some (q5, (mz_wi q4 0 0 13 (0 : Int32))))))) := by
    unfold fX11_simplify fX2_settles_115 fX2_clear
    have r2 : (wr D 1 115 (wgR 1 D (D.1 1 115) 6)).1 2 114 = D.1 2 114 := by funext i; exact wr_n (Or.inl (by decide))
    rw [weighC, Option.bind_some, fill_114, wr_n (Or.inl (by decide)), t.many_c, r2, ← hw0, ← hf0]
    unfold stC
    simp only [Option.bind_some]
  -- the end when all goes well: rows W, F of the class; V, G of the reference
  have fine : ∀ (W F : Nat → Int32), fX2_settles_115_6 2 1 mz_N (nI m) 0 (stC D w0 f0) = some (1, stC D W F) → (∀ c, c < 36 → bd (F c) 0 999999) → (∀ p q, p < 6 → q < 6 → m ≤ p ∨ m ≤ q → F (6 * p + q) = 0) → (∀ E, eM D E → ∃ V G, (∀ c, c < 36 → G c = F c) ∧ fX12_simplify E = fX12_simplify_113 mz_N 0 (stM E V G)) → ∃ (r : Int32) (D1 D2 : mz_D), fX11_simplify D = some (r, D1) ∧ fX12_simplify D1 = some (r, D2) ∧ Inv (n + 1) D2 := by
    intro W F ec hbF h0F em
    obtain ⟨f, hf⟩ : ∃ f, f = cpR F ((stC D W F).1 1 114) 36 := ⟨_, rfl⟩
    have fF : ∀ c, c < 36 → f c = F c := fun c hc => by rw [hf]; exact if_pos hc
    have cp : fX2_copyFrom 1 2 (stC D W F) = some (wr (stC D W F) 1 114 f) := by
      unfold fX2_copyFrom
      rw [cp_114, stC_f, ← hf]
      rfl
    have tb : ∀ E V G, eM D E → tR n 1 0 0 (stC D W F) (stM E V G) m d gs ins := fun E V G he => by
      unfold stM
      refine ((((t.m he).congr (Dc' := stC D W F) (Dm' := E) (fun o j hq => ?_) (fun _ _ => rfl) (fun _ _ => rfl)).wrM (o := 210) (by decide) V).wrM (o := 211) (by decide) G)
      unfold stC
      exact ⟨by rw [wr_n (by omega), wr_n (by unfold tq at hq; omega)], rfl⟩
    refine q_tab h (r := tieS 1 (wr (stC D W F) 1 114 f)) (v := 0) (E := wr (stC D W F) 1 114 f) ((sC_st W F).k.tr (kC_wr (by omega))) ?_ (fun E he => ?_)
    · rw [C0, ec, Option.bind_some, if_neg one_ne, cp, Option.bind_some, tiesC, tie_cm, Option.bind_some]
    · obtain ⟨V, G, hG, em⟩ := em E he
      have eG : mkR (stM E V G) G = mkR (stM E V G) f := by
        funext j
        unfold mkR
        by_cases c : 92 ≤ j ∧ j < 128
        · rw [if_pos c, if_pos c, hG _ (by omega), fF _ (by omega)]
        · rw [if_neg c, if_neg c]
      have tn : tR n 1 0 0 (wr (stC D W F) 1 114 f) (wr (stM E V G) 0 201 (mkR (stM E V G) G)) m d gs ins := by
        rw [eG]
        exact (tb E V G he).rowD (fun c hc => by rw [fF c hc]; exact hbF c hc) (fun p q hp hq hpq => by rw [fF _ (by omega)]; exact h0F p q hp hq hpq)
      refine ⟨wr (stM E V G) 0 201 (mkR (stM E V G) G), (sM_st V G).k.tr (kM_wr (fun j hj => mkR_n (by omega))), ?_, m, d, gs, ins, tn.mono (Nat.le_succ n)⟩
      rw [em, enM tn (fun c hc => by
        rw [hG c hc, i_le]
        have := (hbF c hc).2
        exact this)]
  have g0E : ∀ E, eM D E → fX12_simplify E = fX12_simplify_25 mz_N (stM E (wgR 1 D (E.1 0 210) m) (fun i => if i < 36 then 0 else E.1 0 211 i)) := fun E he => by
    unfold fX12_simplify
    rw [layM (t.m he), Option.bind_some]
    obtain ⟨E1, hE1⟩ : ∃ E1, E1 = wr E 0 210 (wgR 1 D (E.1 0 210) m) := ⟨_, rfl⟩
    rw [← hE1]
    have key : fX12_simplify_6 mz_N (nI 0) (wr E1 0 211 (fun i => if i < 0 then 0 else E1.1 0 211 i)) = fX12_simplify_25 mz_N (wr E1 0 211 (fun i => if i < 36 then 0 else E1.1 0 211 i)) := lpD (fun n s k => fX12_simplify_6 n k s) (fun k => wr E1 0 211 (fun i => if i < k then 0 else E1.1 0 211 i)) 36 (fun n k hk => by
      show fX12_simplify_6 (n + 1) (nI k) _ = fX12_simplify_6 n (nI (k + 1)) _
      rw [fX12_simplify_6]
      simp (disch := omega) only [nI_ix, gd_tt, nI_cl, a1r, wr_up]
      rw [if_neg (by rw [ol_le (c := 36) (by omega) (by omega)]; omega), fill_up E1 0 211 k 0 36 hk]) (fun n => by
      show fX12_simplify_6 (n + 1) (nI 36) _ = _
      rw [fX12_simplify_6]
      dsimp only
      rw [if_pos (by decide)]) 36 0 mz_N rfl (N_lt (by omega))
    have z : (fun i => if i < 0 then 0 else E1.1 0 211 i) = E1.1 0 211 := by funext i; exact if_neg (by omega)
    have r11 : E1.1 0 211 = E.1 0 211 := by rw [hE1]; funext i; exact wr_n (Or.inl (by decide))
    rw [z, wr_id, r11, ni0] at key
    rw [key, hE1]
    unfold stM
    rfl
  by_cases m0 : m = 0
  · subst m0
    refine fine w0 f0 ?_ (fun c hc => by rw [f00 c hc]; unfold bd; decide) (fun p q hp hq _ => f00 _ (by omega)) (fun E he => ⟨wgR 1 D (E.1 0 210) 0, fun i => if i < 36 then 0 else E.1 0 211 i, fun c hc => by rw [f00 c hc]; exact if_pos hc, ?_⟩)
    · obtain ⟨N', hN⟩ : ∃ N', mz_N = N' + 1 := ⟨999999, rfl⟩
      rw [hN, fX2_settles_115_6]
      dsimp only
      rw [if_neg (by decide), fls_115 (m := 0) (by omega), fgr_115 (m := 0) (by omega), Option.bind_some, Option.bind_some, if_pos (show enc (mnW ((stC D w0 f0).1 1 115) 0) = -1 from rfl)]
    · obtain ⟨N', hN⟩ : ∃ N', mz_N = N' + 1 := ⟨999999, rfl⟩
      have sm0 : ∀ X, X.1 0 201 0 = nI 0 → fX12_simplify_25 (N' + 1) X = fX12_simplify_113 mz_N 0 X := fun X hX => by
        rw [fX12_simplify_25]
        dsimp only
        rw [z0, hX, if_pos (by decide)]
      rw [← hN] at sm0
      rw [g0E E he]
      exact sm0 _ (by rw [stM_1]; exact (t.m he).uMany)
  · have mp : 0 < m := by omega
    have w0b : ∀ i, i < m → w0 i = sBal 1 D i := fun i hi => by rw [hw0]; exact wgR_i (by omega)
    have gd0 : goodW w0 m := good0 t w0b
    obtain ⟨K, hK, done, nd, gd⟩ := sm_run mp gd0
    have own := sm_own (f0 := f0) mp hm f00 nd gd
    -- the reference's rows
    have refr : ∀ E, eM D E → ∃ V G, (∀ c, c < 36 → G c = itF w0 f0 m K c) ∧ fX12_simplify E = fX12_simplify_113 mz_N 0 (stM E V G) := by
      intro E he
      obtain ⟨v0, hv0⟩ : ∃ v0, v0 = wgR 1 D (E.1 0 210) m := ⟨_, rfl⟩
      obtain ⟨g0, hg0⟩ : ∃ g0 : Nat → Int32, g0 = fun i => if i < 36 then 0 else E.1 0 211 i := ⟨_, rfl⟩
      have vw : ∀ i, i < m → w0 i = v0 i := fun i hi => by rw [w0b i hi, hv0]; exact (wgR_i hi).symm
      have gf : ∀ c, c < 36 → f0 c = g0 c := fun c hc => by rw [f00 c hc, hg0]; exact (if_pos hc).symm
      have cw := itW_c mp vw
      have cf := itF_c mp vw gf
      have goodV : ∀ k, k ≤ K → goodW (itW v0 m k) m := fun k hk => by
        obtain ⟨a, b⟩ := gd k hk
        refine ⟨fun i hi => by rw [← cw k i hi]; exact a i hi, ?_⟩
        rw [sI_c (f := fun i => (itW v0 m k i).toInt) (f' := fun i => (itW w0 m k i).toInt) (fun i hi => by rw [cw k i hi])]
        exact b
      have eqr : ∀ k, k ≤ K → smp (itW v0 m k) m = smp (itW w0 m k) m ∧ smr (itW v0 m k) m = smr (itW w0 m k) m ∧ itW v0 m k (smr (itW v0 m k) m) = itW w0 m k (smr (itW w0 m k) m) := fun k hk => by
        have q1 := smp_c (cw k)
        have q2 := smr_c (cw k)
        have r1 := (sm_step mp (gd k hk)).2.1
        exact ⟨q1.symm, q2.symm, by rw [← q2]; exact (cw k _ r1).symm⟩
      refine ⟨itW v0 m K, itF v0 g0 m K, fun c hc => (cf K c hc).symm, ?_⟩
      rw [g0E E he, ← hv0, ← hg0]
      have run : ∀ dd k n, k + dd = K → dd < n → fX12_simplify_25 n (stM E (itW v0 m k) (itF v0 g0 m k)) = fX12_simplify_113 mz_N 0 (stM E (itW v0 m K) (itF v0 g0 m K)) := by
        intro dd
        induction dd with
        | zero =>
          intro k n hk hn
          obtain ⟨n, rfl⟩ : ∃ n', n = n' + 1 := ⟨n - 1, by omega⟩
          have e : k = K := by omega
          subst e
          obtain ⟨-, -, q3⟩ := eqr k (Nat.le_refl _)
          rw [slM mp hm (goodV k (Nat.le_refl _)) (t.m he).uMany n (fun c => absurd (by rw [q3]; exact done) c), if_pos (by rw [q3]; exact done)]
        | succ dd ih =>
          intro k n hk hn
          obtain ⟨n, rfl⟩ : ∃ n', n = n' + 1 := ⟨n - 1, by omega⟩
          obtain ⟨q1, q2, q3⟩ := eqr k (by omega)
          have p1 := (sm_step mp (gd k (by omega))).1
          have r1 := (sm_step mp (gd k (by omega))).2.1
          rw [slM mp hm (goodV k (by omega)) (t.m he).uMany n (fun c => by
            rw [q1, q2, ← cf k _ (by omega)]
            exact (own k (by omega)).2.2 (by omega)), if_neg (by rw [q3]; exact nd k (by omega))]
          exact ih (k + 1) n (by omega) (by omega)
      have fin := run K 0 mz_N (by omega) (N_lt (by omega))
      rw [show itW v0 m 0 = v0 from rfl, show itF v0 g0 m 0 = g0 from rfl] at fin
      exact fin
    by_cases ok : ∀ k, k < K → smu (itW w0 m k) m ≤ 999999
    · have runC : fX2_settles_115_6 2 1 mz_N (nI m) (nI 0) (stC D (itW w0 m 0) (itF w0 f0 m 0)) = some (1, stC D (itW w0 m K) (itF w0 f0 m K)) := lpD (fun n s k => fX2_settles_115_6 2 1 n (nI m) k s) (fun k => stC D (itW w0 m k) (itF w0 f0 m k)) K (fun n k hk => by
        show fX2_settles_115_6 2 1 (n + 1) (nI m) (nI k) (stC D (itW w0 m k) (itF w0 f0 m k)) = fX2_settles_115_6 2 1 n (nI m) (nI (k + 1)) (stC D (itW w0 m (k + 1)) (itF w0 f0 m (k + 1)))
        rw [slC mp hm (gd k (by omega)) n k (by omega), if_neg (nd k hk), if_pos (ok k hk)]
        rfl) (fun n => by
        show fX2_settles_115_6 2 1 (n + 1) (nI m) (nI K) (stC D (itW w0 m K) (itF w0 f0 m K)) = _
        by_cases k6 : K = 6
        · rw [k6, fX2_settles_115_6]
          dsimp only
          rw [if_pos (by decide)]
        · rw [slC mp hm (gd K (Nat.le_refl _)) n K (by omega), if_pos done]) K 0 mz_N (by omega) (N_lt (by omega))
      rw [show itW w0 m 0 = w0 from rfl, show itF w0 f0 m 0 = f0 from rfl, ni0] at runC
      have small : ∀ k, k ≤ K → ∀ c, c < 36 → (itF w0 f0 m k c).toInt ≤ 999999 := by
        intro k
        induction k with
        | zero => intro _ c hc; show (f0 c).toInt ≤ 999999; rw [f00 c hc]; decide
        | succ k ih =>
          intro hk c hc
          show (up (itF w0 f0 m k) (smp (itW w0 m k) m * 6 + smr (itW w0 m k) m) (smu (itW w0 m k) m) c).toInt ≤ 999999
          unfold up
          split
          · have := i_le.mp (ok k (by omega)); exact this
          · exact ih (by omega) c hc
      refine fine (itW w0 m K) (itF w0 f0 m K) runC (fun c hc => ⟨((own K (Nat.le_refl _)).2.1 c hc).1, small K (Nat.le_refl _) c hc⟩) (fun p q hp hq hpq => ?_) refr
      by_cases e : itF w0 f0 m K (6 * p + q) = 0
      · exact e
      · rw [Nat.mul_comm] at e
        have := ((own K (Nat.le_refl _)).1 p q hp hq e).2
        omega
    · obtain ⟨j, hj, hbad, hlt⟩ := least ok
      have runC : fX2_settles_115_6 2 1 mz_N (nI m) (nI 0) (stC D (itW w0 m 0) (itF w0 f0 m 0)) = some (0, stC D (itW w0 m j) (itF w0 f0 m j)) := lpD (fun n s k => fX2_settles_115_6 2 1 n (nI m) k s) (fun k => stC D (itW w0 m k) (itF w0 f0 m k)) j (fun n k hk => by
        show fX2_settles_115_6 2 1 (n + 1) (nI m) (nI k) (stC D (itW w0 m k) (itF w0 f0 m k)) = fX2_settles_115_6 2 1 n (nI m) (nI (k + 1)) (stC D (itW w0 m (k + 1)) (itF w0 f0 m (k + 1)))
        rw [slC mp hm (gd k (by omega)) n k (by omega), if_neg (nd k (by omega)), if_pos (hlt k hk)]
        rfl) (fun n => by
        show fX2_settles_115_6 2 1 (n + 1) (nI m) (nI j) (stC D (itW w0 m j) (itF w0 f0 m j)) = _
        rw [slC mp hm (gd j (by omega)) n j (by omega), if_neg (nd j hj), if_neg hbad]) j 0 mz_N (by omega) (N_lt (by omega))
      refine q_pair h (r := -1) (v := 7) (sC_st (itW w0 m j) (itF w0 f0 m j)) ?_ (fun E he => ?_)
      · rw [C0]
        rw [show itW w0 m 0 = w0 from rfl, show itF w0 f0 m 0 = f0 from rfl, ni0] at runC
        rw [runC, Option.bind_some, if_pos rfl]
      · obtain ⟨V, G, hG, em⟩ := refr E he
        refine ⟨stM E V G, sM_st V G, ?_⟩
        rw [em]
        refine bdM (fun all => ?_)
        obtain ⟨p1, r1, -, -, s⟩ := sm_step mp (gd j (by omega))
        obtain ⟨-, -, -, s4, -⟩ := s (nd j hj)
        have e1 : itF w0 f0 m (j + 1) (smp (itW w0 m j) m * 6 + smr (itW w0 m j) m) = smu (itW w0 m j) m := if_pos rfl
        have ne : itF w0 f0 m (j + 1) (smp (itW w0 m j) m * 6 + smr (itW w0 m j) m) ≠ 0 := fun e => by rw [e1] at e; rw [e] at s4; exact absurd s4 (by decide)
        have kp := sm_keep mp hm f00 nd gd ne (K - (j + 1)) (by omega)
        rw [show j + 1 + (K - (j + 1)) = K by omega, e1] at kp
        have := all (smp (itW w0 m j) m * 6 + smr (itW w0 m j) m) (by omega)
        rw [hG _ (by omega), kp] at this
        exact hbad this
