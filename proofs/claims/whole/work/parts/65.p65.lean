/-! ===== ties, extremes, chains ===== -/
/-- a loop from a place on whose state is known at each step -/
theorem lpC {σ β : Type} (F : Nat → σ → Int32 → Option β) (e : Nat → σ) (c0 M : Nat) {r : Option β} (hs : ∀ n k, c0 ≤ k → k < M → F (n + 1) (e k) (nI k) = F n (e (k + 1)) (nI (k + 1))) (he : ∀ n, F (n + 1) (e M) (nI M) = r) : ∀ (d c n : Nat), c0 ≤ c → c + d = M → d < n → F n (e c) (nI c) = r := by
  intro d
  induction d with
  | zero =>
    intro c n h0 h hn
    obtain ⟨n, rfl⟩ : ∃ n', n = n' + 1 := ⟨n - 1, by omega⟩
    rw [show c = M by omega]
    exact he n
  | succ d ih =>
    intro c n h0 h hn
    obtain ⟨n, rfl⟩ : ∃ n', n = n' + 1 := ⟨n - 1, by omega⟩
    rw [hs n c h0 (by omega)]
    exact ih (c + 1) n (by omega) (by omega) (by omega)
def tT (g : Nat) (D : mz_D) (a b : Nat) : Int32 := if 0 < D.1 g 114 (a * 6 + b) ∨ 0 < D.1 g 114 (b * 6 + a) then 1 else 0
theorem tT_c (g : Nat) (D : mz_D) (a b : Nat) : tT g D a b = tT g D b a := by
  unfold tT
  by_cases h : 0 < D.1 g 114 (a * 6 + b) ∨ 0 < D.1 g 114 (b * 6 + a)
  · rw [if_pos h, if_pos (h.symm)]
  · rw [if_neg h, if_neg (fun e => h e.symm)]
theorem tiesC (g : Nat) (D : mz_D) : fX2_countTies g D = some (foldN (fun a x => foldN (fun b y => y + tT g D a b) (a + 1) (5 - a) x) 0 6 0) := by
  refine lpD (fun n s k => fX2_countTies_4 g D n s k) (fun k => foldN (fun a x => foldN (fun b y => y + tT g D a b) (a + 1) (5 - a) x) 0 k 0) 6 (fun n k hk => ?_) (fun n => ?_) 6 0 mz_N rfl (N_lt (by omega))
  · show fX2_countTies_4 g D (n + 1) _ (nI k) = fX2_countTies_4 g D n (foldN _ 0 (k + 1) 0) (nI (k + 1))
    rw [fX2_countTies_4]
    try dsimp only
    rw [if_neg (by rw [ol_le (c := 6) (by omega) (by omega)]; omega), foldN_end, Nat.zero_add, a1r]
    generalize foldN (fun a x => foldN (fun b y => y + tT g D a b) (a + 1) (5 - a) x) 0 k 0 = s0
    have := lpC (fun n' s j => fX2_countTies_14 g D (fX2_countTies_4 g D n) n' s (nI k) j) (fun j => foldN (fun b y => y + tT g D k b) (k + 1) (j - (k + 1)) s0) (k + 1) 6 (r := fX2_countTies_4 g D n (foldN (fun b y => y + tT g D k b) (k + 1) (5 - k) s0) (nI (k + 1))) (fun n' j h1 hj => by
      show fX2_countTies_14 g D (fX2_countTies_4 g D n) (n' + 1) (foldN (fun b y => y + tT g D k b) (k + 1) (j - (k + 1)) s0) (nI k) (nI j) = fX2_countTies_14 g D (fX2_countTies_4 g D n) n' (foldN (fun b y => y + tT g D k b) (k + 1) (j + 1 - (k + 1)) s0) (nI k) (nI (j + 1))
      rw [fX2_countTies_14]
      try dsimp only
      rw [if_neg (by rw [ol_le (c := 6) (by omega) (by omega)]; omega), show j + 1 - (k + 1) = (j - (k + 1)) + 1 by omega, foldN_end, show k + 1 + (j - (k + 1)) = j by omega]
      unfold fX2_get
      simp (disch := omega) only [r6m, nI_add, nI_ix, gd_tt, nI_cl, a1r, Option.bind_some]
      generalize foldN (fun b y => y + tT g D k b) (k + 1) (j - (k + 1)) s0 = s1
      unfold tT
      by_cases p1 : 0 < D.1 g 114 (k * 6 + j)
      · rw [if_pos p1, if_pos (Or.inl p1)]
      · rw [if_neg p1]
        by_cases p2 : D.1 g 114 (j * 6 + k) ≤ 0
        · rw [if_pos p2, if_neg (fun e => by rcases e with e | e; exact p1 e; exact absurd p2 (Int32.not_le.mpr e)), add0]
        · rw [if_neg p2, if_pos (Or.inr (Int32.not_le.mp p2))]) (fun n' => by
      show fX2_countTies_14 g D (fX2_countTies_4 g D n) (n' + 1) (foldN (fun b y => y + tT g D k b) (k + 1) (6 - (k + 1)) s0) (nI k) (nI 6) = _
      rw [fX2_countTies_14]
      try dsimp only
      rw [if_pos (by decide), a1r, show 6 - (k + 1) = 5 - k by omega]) (5 - k) (k + 1) mz_N (Nat.le_refl _) (by omega) (N_lt (by omega))
    have e0 : foldN (fun b y => y + tT g D k b) (k + 1) (k + 1 - (k + 1)) s0 = s0 := by rw [Nat.sub_self]; rfl
    have this2 : fX2_countTies_14 g D (fX2_countTies_4 g D n) mz_N (foldN (fun b y => y + tT g D k b) (k + 1) (k + 1 - (k + 1)) s0) (nI k) (nI (k + 1)) = _ := this
    rw [e0] at this2
    exact this2
  · show fX2_countTies_4 g D (n + 1) _ (nI 6) = _
    rw [fX2_countTies_4]
    try dsimp only
    rw [if_pos (by decide)]
def tieS (g : Nat) (D : mz_D) : Int32 := foldN (fun a x => foldN (fun b y => y + tT g D a b) 0 a x) 0 6 0
theorem tie_a (T : Nat → Nat → Int32) : foldN (fun a x => foldN (fun b y => y + T a b) (a + 1) (5 - a) x) 0 6 0 = (((((((((((((((0 + T 0 1) + T 0 2) + T 0 3) + T 0 4) + T 0 5) + T 1 2) + T 1 3) + T 1 4) + T 1 5) + T 2 3) + T 2 4) + T 2 5) + T 3 4) + T 3 5) + T 4 5) := rfl
theorem tie_b (T : Nat → Nat → Int32) : foldN (fun a x => foldN (fun b y => y + T a b) 0 a x) 0 6 0 = (((((((((((((((0 + T 1 0) + T 2 0) + T 2 1) + T 3 0) + T 3 1) + T 3 2) + T 4 0) + T 4 1) + T 4 2) + T 4 3) + T 5 0) + T 5 1) + T 5 2) + T 5 3) + T 5 4) := rfl
theorem i_lc (a b c : Int32) : a + (b + c) = b + (a + c) := by rw [← Int32.add_assoc, Int32.add_comm a b, Int32.add_assoc]
theorem tie_s (t01 t02 t03 t04 t05 t12 t13 t14 t15 t23 t24 t25 t34 t35 t45 : Int32) : (((((((((((((((0 + t01) + t02) + t03) + t04) + t05) + t12) + t13) + t14) + t15) + t23) + t24) + t25) + t34) + t35) + t45) = (((((((((((((((0 + t01) + t02) + t12) + t03) + t13) + t23) + t04) + t14) + t24) + t34) + t05) + t15) + t25) + t35) + t45) := by
  simp only [Int32.add_assoc, Int32.add_comm, i_lc]
theorem tie_cm (g : Nat) (D : mz_D) : foldN (fun a x => foldN (fun b y => y + tT g D a b) (a + 1) (5 - a) x) 0 6 0 = tieS g D := by
  unfold tieS
  rw [tie_a (tT g D), tie_b (tT g D), tT_c g D 1 0, tT_c g D 2 0, tT_c g D 2 1, tT_c g D 3 0, tT_c g D 3 1, tT_c g D 3 2, tT_c g D 4 0, tT_c g D 4 1, tT_c g D 4 2, tT_c g D 4 3, tT_c g D 5 0, tT_c g D 5 1, tT_c g D 5 2, tT_c g D 5 3, tT_c g D 5 4]
  exact tie_s _ _ _ _ _ _ _ _ _ _ _ _ _ _ _
theorem tR.tiesM {n g : Nat} {Dc E : mz_D} {m d gs ins : Nat} (h : tR n g 0 0 Dc E m d gs ins) : fX12_tiesNow E = some (tieS g Dc) := by
  have hm := h.hm
  have e6 : tieS g Dc = foldN (fun a x => foldN (fun b y => y + tT g Dc a b) 0 a x) 0 m 0 := by
    unfold tieS
    have := foldN_add (fun a x => foldN (fun b y => y + tT g Dc a b) 0 a x) m (6 - m) 0 0
    rw [show m + (6 - m) = 6 by omega] at this
    rw [this]
    refine foldN_id _ _ _ (fun a s h1 h2 => ?_)
    refine foldN_id _ _ _ (fun b s h3 h4 => ?_)
    have z1 := h.nodebt a b (by omega) (by omega) (by omega)
    have z2 := h.nodebt b a (by omega) (by omega) (by omega)
    rw [Nat.mul_comm] at z1 z2
    unfold tT
    rw [z1, z2, if_neg (by decide), add0]
  rw [e6]
  refine lpD (fun n s k => fX12_tiesNow_4 E n s k) (fun k => foldN (fun a x => foldN (fun b y => y + tT g Dc a b) 0 a x) 0 k 0) m (fun n k hk => ?_) (fun n => ?_) m 0 mz_N (by omega) (N_lt (by omega))
  · show fX12_tiesNow_4 E (n + 1) _ (nI k) = fX12_tiesNow_4 E n (foldN _ 0 (k + 1) 0) (nI (k + 1))
    rw [fX12_tiesNow_4]
    try dsimp only
    rw [z0, h.uMany, if_neg (by rw [nJ_le (by omega) (by omega)]; omega), foldN_end, Nat.zero_add]
    generalize foldN (fun a x => foldN (fun b y => y + tT g Dc a b) 0 a x) 0 k 0 = s0
    exact lpD (fun n' s j => fX12_tiesNow_16 E (fX12_tiesNow_4 E n) n' s (nI k) j) (fun j => foldN (fun b y => y + tT g Dc k b) 0 j s0) k (fun n' j hj => by
      show fX12_tiesNow_16 E (fX12_tiesNow_4 E n) (n' + 1) (foldN (fun b y => y + tT g Dc k b) 0 j s0) (nI k) (nI j) = fX12_tiesNow_16 E (fX12_tiesNow_4 E n) n' (foldN (fun b y => y + tT g Dc k b) 0 (j + 1) s0) (nI k) (nI (j + 1))
      rw [fX12_tiesNow_16]
      unfold fX12_tiesNow_48 fX12_tiesNow_53
      simp (disch := omega) only [nJ_le, l6m, a92l, nI_add, nI_ix, gd_tt, nI_cl, a1r, h.uDebt (show k < 6 by omega) (show j < 6 by omega), h.uDebt (show j < 6 by omega) (show k < 6 by omega)]
      rw [if_neg (by omega), foldN_end, Nat.zero_add]
      generalize foldN (fun b y => y + tT g Dc k b) 0 j s0 = s1
      unfold tT
      by_cases p1 : 0 < Dc.1 g 114 (k * 6 + j)
      · rw [if_pos p1, if_pos (Or.inl p1)]
      · rw [if_neg p1]
        by_cases p2 : Dc.1 g 114 (j * 6 + k) ≤ 0
        · rw [if_pos p2, if_neg (fun e => by rcases e with e | e; exact p1 e; exact absurd p2 (Int32.not_le.mpr e))]
        · rw [if_neg p2, if_pos (Or.inr (Int32.not_le.mp p2))]) (fun n' => by
      show fX12_tiesNow_16 E (fX12_tiesNow_4 E n) (n' + 1) (foldN (fun b y => y + tT g Dc k b) 0 k s0) (nI k) (nI k) = _
      rw [fX12_tiesNow_16]
      try dsimp only
      rw [if_pos (Int32.le_refl _), a1r]) k 0 mz_N (by omega) (N_lt (by omega))
  · show fX12_tiesNow_4 E (n + 1) _ (nI m) = _
    rw [fX12_tiesNow_4]
    try dsimp only
    rw [z0, h.uMany, if_pos (Int32.le_refl _)]
theorem p_op41 : op_41 Inv := by
  intro n D h
  obtain ⟨m, d, gs, ins, t⟩ := iR.t h
  exact q_look h (r := tieS 1 D) (v := 0) (by unfold fX11_ties; rw [tiesC, tie_cm]; rfl) (fun E he => by unfold fX12_ties; rw [(t.m he).tiesM]; rfl)
/-! the least, the greatest -/
theorem sBal_wr {g g' o : Nat} {D : mz_D} (ho : o ≠ 114) (f : Nat → Int32) (p : Nat) : sBal g (wr D g' o f) p = sBal g D p := by
  unfold sBal
  simp only [wr_n (show 114 ≠ o ∨ g ≠ g' from Or.inl (fun e => ho e.symm))]
def wgR (g : Nat) (D : mz_D) (f : Nat → Int32) (k : Nat) : Nat → Int32 := fun i => if i < k then sBal g D i else f i
theorem wgR_s (g : Nat) (D : mz_D) (f : Nat → Int32) (k : Nat) : up (wgR g D f k) k (sBal g D k) = wgR g D f (k + 1) := by
  funext i
  unfold up wgR
  try dsimp only
  by_cases h1 : i = k
  · rw [if_pos h1, if_pos (by omega), h1]
  · by_cases h2 : i < k
    · rw [if_neg h1, if_pos h2, if_pos (by omega)]
    · rw [if_neg h1, if_neg h2, if_neg (by omega)]
theorem wgR_0 (g : Nat) (D : mz_D) (f : Nat → Int32) : wgR g D f 0 = f := by funext i; exact if_neg (by omega)
theorem wgR_i {g : Nat} {D : mz_D} {f : Nat → Int32} {k i : Nat} (h : i < k) : wgR g D f k i = sBal g D i := if_pos h
theorem weighC (g : Nat) (D : mz_D) : fX2_weigh g D = some (wr D g 115 (wgR g D (D.1 g 115) 6)) := by
  have := lpD (fun n s k => fX2_weigh_2 g n k s) (fun k => wr D g 115 (wgR g D (D.1 g 115) k)) 6 (r := some (wr D g 115 (wgR g D (D.1 g 115) 6))) (fun n k hk => by
    show fX2_weigh_2 g (n + 1) (nI k) (wr D g 115 (wgR g D (D.1 g 115) k)) = fX2_weigh_2 g n (nI (k + 1)) (wr D g 115 (wgR g D (D.1 g 115) (k + 1)))
    rw [fX2_weigh_2]
    try dsimp only
    rw [if_neg (by rw [ol_le (c := 6) (by omega) (by omega)]; omega), tR.bal (by omega), Option.bind_some, nI_ix (by omega) (by omega), gd_tt, nI_cl (by omega), a1r, wr_up, sBal_wr (by decide), wgR_s]) (fun n => by
    show fX2_weigh_2 g (n + 1) (nI 6) _ = _
    rw [fX2_weigh_2]
    try dsimp only
    rw [if_pos (by decide)]) 6 0 mz_N rfl (N_lt (by omega))
  have t2 : fX2_weigh_2 g mz_N (nI 0) (wr D g 115 (wgR g D (D.1 g 115) 0)) = _ := this
  rw [wgR_0, wr_id] at t2
  exact t2
theorem tR.wrM {n g b nb : Nat} {Dc Dm : mz_D} {m d gs ins : Nat} (h : tR n g b nb Dc Dm m d gs ins) {o : Nat} (ho : o ≠ 201) (f : Nat → Int32) : tR n g b nb Dc (wr Dm 0 o f) m d gs ins := h.congr (fun _ _ _ => ⟨rfl, rfl⟩) (fun j _ => wr_n (Or.inl (fun e => ho e.symm))) (fun _ _ => rfl)
theorem layM {n g : Nat} {Dc E : mz_D} {m d gs ins : Nat} (h : tR n g 0 0 Dc E m d gs ins) : fX12_laysBalances E = some (wr E 0 210 (wgR g Dc (E.1 0 210) m)) := by
  have hm := h.hm
  have := lpD (fun n s k => fX12_laysBalances_2 n k s) (fun k => wr E 0 210 (wgR g Dc (E.1 0 210) k)) m (r := some (wr E 0 210 (wgR g Dc (E.1 0 210) m))) (fun n k hk => by
    show fX12_laysBalances_2 (n + 1) (nI k) (wr E 0 210 (wgR g Dc (E.1 0 210) k)) = fX12_laysBalances_2 n (nI (k + 1)) (wr E 0 210 (wgR g Dc (E.1 0 210) (k + 1)))
    have hk2 := h.wrM (o := 210) (by decide) (wgR g Dc (E.1 0 210) k)
    rw [fX12_laysBalances_2]
    try dsimp only
    rw [z0, hk2.uMany, if_neg (by rw [nJ_le (by omega) (by omega)]; omega), hk2.balM (by omega), Option.bind_some, nI_ix (by omega) (by omega), gd_tt, nI_cl (by omega), a1r, wr_up, wgR_s]) (fun n => by
    show fX12_laysBalances_2 (n + 1) (nI m) (wr E 0 210 (wgR g Dc (E.1 0 210) m)) = _
    have hk2 := h.wrM (o := 210) (by decide) (wgR g Dc (E.1 0 210) m)
    rw [fX12_laysBalances_2]
    try dsimp only
    rw [z0, hk2.uMany, if_pos (Int32.le_refl _)]) m 0 mz_N (by omega) (N_lt (by omega))
  have t2 : fX12_laysBalances_2 mz_N (nI 0) (wr E 0 210 (wgR g Dc (E.1 0 210) 0)) = _ := this
  rw [wgR_0, wr_id] at t2
  exact t2
/-- the first least, the first greatest of a row -/
def mnW (w : Nat → Int32) (m : Nat) : Option Nat := amx (fun _ => true) (fun k j => decide (w k < w j)) m
def mxW (w : Nat → Int32) (m : Nat) : Option Nat := amx (fun _ => true) (fun k j => decide (w j < w k)) m
theorem fgr_115 {g m : Nat} (hm : m ≤ 6) (D : mz_D) : fX11_firstGreatest_115 g (nI m) D = some (enc (mxW (D.1 g 115) m)) := by
  unfold fX11_firstGreatest_115
  by_cases h0 : m = 0
  · subst h0
    (rw [if_pos (by decide), show mz_N = 999999 + 1 from rfl, fX11_firstGreatest_115_12]; try dsimp only; rw [if_pos (by decide)])
    rfl
  · rw [if_neg (by rw [ol_ler (c := 0) (by omega) (by omega)]; omega)]
    refine fgB (fun n j k => fX11_firstGreatest_115_12 g D n (nI m) j k) (D.1 g 115) (fun a b => decide (b < a)) m hm (fun n k j hk hj => ?_) (fun n x => ?_) (fun _ _ => rfl) (by omega)
    · show fX11_firstGreatest_115_12 g D (n + 1) (nI m) (nI j) (nI k) = _
      rw [fX11_firstGreatest_115_12]
      simp (disch := omega) only [nJ_le, on_le, nI_ix, gd_tt, nI_cl, a1r]
      rw [if_neg (by omega), if_neg (by omega)]
      by_cases hg : D.1 g 115 k ≤ D.1 g 115 j
      · rw [if_pos hg]; simp [Int32.not_lt.mpr hg]
      · rw [if_neg hg]; simp [Int32.not_le.mp hg]
    · show fX11_firstGreatest_115_12 g D (n + 1) (nI m) x (nI m) = _
      rw [fX11_firstGreatest_115_12]
      try dsimp only
      rw [if_pos (Int32.le_refl _)]
theorem fls_115 {g m : Nat} (hm : m ≤ 6) (D : mz_D) : fX11_firstLeast_115 g (nI m) D = some (enc (mnW (D.1 g 115) m)) := by
  unfold fX11_firstLeast_115
  by_cases h0 : m = 0
  · subst h0
    (rw [if_pos (by decide), show mz_N = 999999 + 1 from rfl, fX11_firstLeast_115_12]; try dsimp only; rw [if_pos (by decide)])
    rfl
  · rw [if_neg (by rw [ol_ler (c := 0) (by omega) (by omega)]; omega)]
    refine fgB (fun n j k => fX11_firstLeast_115_12 g D n (nI m) j k) (D.1 g 115) (fun a b => decide (a < b)) m hm (fun n k j hk hj => ?_) (fun n x => ?_) (fun _ _ => rfl) (by omega)
    · show fX11_firstLeast_115_12 g D (n + 1) (nI m) (nI j) (nI k) = _
      rw [fX11_firstLeast_115_12]
      simp (disch := omega) only [nJ_le, on_le, nI_ix, gd_tt, nI_cl, a1r]
      rw [if_neg (by omega), if_neg (by omega)]
      by_cases hg : D.1 g 115 j ≤ D.1 g 115 k
      · rw [if_pos hg]; simp [Int32.not_lt.mpr hg]
      · rw [if_neg hg]; simp [Int32.not_le.mp hg]
    · show fX11_firstLeast_115_12 g D (n + 1) (nI m) x (nI m) = _
      rw [fX11_firstLeast_115_12]
      try dsimp only
      rw [if_pos (Int32.le_refl _)]
theorem mnM {E : mz_D} {m : Nat} (hm : m ≤ 6) (e : E.1 0 201 0 = nI m) : fX12_leastLeft E = some (enc (mnW (E.1 0 210) m)) := by
  refine lpA (fun n s k => fX12_leastLeft_4 E n s k) enc (fun _ => true) (fun k j => decide (E.1 0 210 k < E.1 0 210 j)) m (fun b => some (enc b)) ?_ ?_ mz_N (N_lt (by omega))
  · intro n b k hk hb
    show fX12_leastLeft_4 E (n + 1) _ (nI k) = _
    rw [fX12_leastLeft_4]
    unfold fX12_leastLeft_34
    simp (disch := omega) only [z0, e, nJ_le, a1r]
    rw [if_neg (by omega)]
    cases b with
    | none => simp [enc, amS]
    | some j =>
      have hj := hb j rfl
      rw [if_neg (fun e => by have := (enc_ne hb (by omega)).mp e; cases this)]
      simp (disch := omega) only [enc, nI_ix, gd_tt, nI_cl]
      by_cases hg : E.1 0 210 j ≤ E.1 0 210 k
      · simp [amS, enc, hg, Int32.not_lt.mpr hg]
      · simp [amS, enc, hg, Int32.not_le.mp hg]
  · intro n b hb
    show fX12_leastLeft_4 E (n + 1) _ (nI m) = _
    rw [fX12_leastLeft_4]
    simp only [z0, e]
    rw [if_pos (Int32.le_refl _)]
theorem mxM {E : mz_D} {m : Nat} (hm : m ≤ 6) (e : E.1 0 201 0 = nI m) : fX12_mostLeft E = some (enc (mxW (E.1 0 210) m)) := by
  refine lpA (fun n s k => fX12_mostLeft_4 E n s k) enc (fun _ => true) (fun k j => decide (E.1 0 210 j < E.1 0 210 k)) m (fun b => some (enc b)) ?_ ?_ mz_N (N_lt (by omega))
  · intro n b k hk hb
    show fX12_mostLeft_4 E (n + 1) _ (nI k) = _
    rw [fX12_mostLeft_4]
    unfold fX12_mostLeft_34
    simp (disch := omega) only [z0, e, nJ_le, a1r]
    rw [if_neg (by omega)]
    cases b with
    | none => simp [enc, amS]
    | some j =>
      have hj := hb j rfl
      rw [if_neg (fun e => by have := (enc_ne hb (by omega)).mp e; cases this)]
      simp (disch := omega) only [enc, nI_ix, gd_tt, nI_cl]
      by_cases hg : E.1 0 210 k ≤ E.1 0 210 j
      · simp [amS, enc, hg, Int32.not_lt.mpr hg]
      · simp [amS, enc, hg, Int32.not_le.mp hg]
  · intro n b hb
    show fX12_mostLeft_4 E (n + 1) _ (nI m) = _
    rw [fX12_mostLeft_4]
    simp only [z0, e]
    rw [if_pos (Int32.le_refl _)]
theorem mnW_c {w w' : Nat → Int32} {m : Nat} (h : ∀ i, i < m → w i = w' i) : mnW w m = mnW w' m := amx_congr (fun _ _ => rfl) (fun k j hk hj => by rw [h k hk, h j hj])
theorem mxW_c {w w' : Nat → Int32} {m : Nat} (h : ∀ i, i < m → w i = w' i) : mxW w m = mxW w' m := amx_congr (fun _ _ => rfl) (fun k j hk hj => by rw [h k hk, h j hj])
theorem sC_115 {D : mz_D} {g : Nat} (f : Nat → Int32) : sC D (wr D g 115 f) := fun a b c hn => ⟨by rw [wr_1, if_neg (fun e => hn (by unfold sCq; omega))], rfl⟩
theorem sM_wr {D : mz_D} {o : Nat} (h : 207 ≤ o ∧ o ≤ 213) (f : Nat → Int32) : sM D (wr D 0 o f) := fun a b c hn => ⟨by rw [wr_1, if_neg (fun e => hn (by unfold sMq; omega))], rfl⟩
theorem q_pair {n : Nat} {D E : mz_D} {r v : Int32} {fc fm : mz_D → Option (Int32 × mz_D)} (h : Inv n D) (hc : sC D E) (e1 : fc D = some (r, mz_wi E 0 0 13 v)) (e2 : ∀ E', eM D E' → ∃ F, sM E' F ∧ fm E' = some (r, mz_wi F 0 200 2 v)) : ∃ (r : Int32) (D1 D2 : mz_D), fc D = some (r, D1) ∧ fm D1 = some (r, D2) ∧ Inv (n + 1) D2 := by
  obtain ⟨F, s, e2⟩ := e2 (mz_wi E 0 0 13 v) (hc.m.tr (fun g o j h1 h2 => ⟨by rw [wi_1, if_neg (by omega)], rfl⟩))
  exact q_fin h hc e1 s e2
theorem p_op42 : op_42 Inv := by
  intro n D x1 h
  obtain ⟨m, d, gs, ins, t⟩ := iR.t h
  have hm := t.hm
  by_cases h0 : x1 < 0
  · exact q_look h (r := -1) (v := 1) (by unfold fX11_extreme; rw [if_pos h0]) (fun E he => by unfold fX12_extreme; rw [if_pos h0])
  · by_cases h1 : x1 ≤ 1
    · have wc : ∀ i, i < m → (wr D 1 115 (wgR 1 D (D.1 1 115) 6)).1 1 115 i = sBal 1 D i := fun i hi => by rw [wr_s, wgR_i (by omega)]
      have wm : ∀ E i, i < m → (wr E 0 210 (wgR 1 D (E.1 0 210) m)).1 0 210 i = sBal 1 D i := fun E i hi => by rw [wr_s, wgR_i hi]
      have e9 : ∀ E, eM D E → (wr E 0 210 (wgR 1 D (E.1 0 210) m)).1 0 201 0 = nI m := fun E he => by rw [wr_n (Or.inl (by decide))]; exact (t.m he).uMany
      by_cases hz : x1 = 0
      · have hin : inb m (mnW (sBal 1 D) m) := amx_in m
        refine q_pair h (r := enc (mnW (sBal 1 D) m)) (v := sv (mnW (sBal 1 D) m)) (sC_115 (g := 1) (wgR 1 D (D.1 1 115) 6)) ?_ (fun E he => ⟨_, sM_wr (o := 210) (by omega) (wgR 1 D (E.1 0 210) m), ?_⟩)
        · unfold fX11_extreme fX11_extreme_55
          rw [if_neg h0, if_pos h1, weighC, Option.bind_some, if_pos hz, t.many_c, fls_115 hm, Option.bind_some, mnW_c wc, ans_c hin (by omega)]
          rfl
        · unfold fX12_extreme fX12_extreme_35
          rw [if_neg h0, if_pos h1, layM (t.m he), Option.bind_some, if_pos hz, mnM hm (e9 E he), Option.bind_some, mnW_c (wm E), ans_m hin (by omega)]
          rfl
      · have hin : inb m (mxW (sBal 1 D) m) := amx_in m
        refine q_pair h (r := enc (mxW (sBal 1 D) m)) (v := sv (mxW (sBal 1 D) m)) (sC_115 (g := 1) (wgR 1 D (D.1 1 115) 6)) ?_ (fun E he => ⟨_, sM_wr (o := 210) (by omega) (wgR 1 D (E.1 0 210) m), ?_⟩)
        · unfold fX11_extreme fX11_extreme_55
          rw [if_neg h0, if_pos h1, weighC, Option.bind_some, if_neg hz, t.many_c, fgr_115 hm, Option.bind_some, mxW_c wc, ans_c hin (by omega)]
          rfl
        · unfold fX12_extreme fX12_extreme_35
          rw [if_neg h0, if_pos h1, layM (t.m he), Option.bind_some, if_neg hz, mxM hm (e9 E he), Option.bind_some, mxW_c (wm E), ans_m hin (by omega)]
          rfl
    · exact q_look h (r := -1) (v := 1) (by unfold fX11_extreme; rw [if_neg h0, if_neg h1]) (fun E he => by unfold fX12_extreme; rw [if_neg h0, if_neg h1])
