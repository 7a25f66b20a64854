/-! ===== copies, marks ===== -/
theorem yB.cm {m N S : Nat} {w : Nat → Nat → Int32} {a : Nat → Nat → Int32} {c e : Nat → Nat} {enc : Nat → List Nat} (h : yB m N S w a c e enc) : ∀ d i, i + d ≤ N → c i ≤ c (i + d) := by
  intro d
  induction d with
  | zero => intro i _; exact Nat.le_refl _
  | succ d ih =>
    intro i hd
    have := ih i (by omega)
    rcases h.row (i + d) (by omega) with ⟨h1, _⟩ | ⟨h1, _⟩ | ⟨h1, _⟩ | ⟨h1, _⟩ <;> (rw [show i + (d + 1) = i + d + 1 by omega]; omega)
theorem yB.c30 {m N S : Nat} {w : Nat → Nat → Int32} {a : Nat → Nat → Int32} {c e : Nat → Nat} {enc : Nat → List Nat} (h : yB m N S w a c e enc) {k : Nat} (hk : k < N) (h1 : c (k + 1) = c k + 1) : c k < S := by
  have := h.cm (N - (k + 1)) (k + 1) (by omega)
  rw [show k + 1 + (N - (k + 1)) = N by omega, h.cN] at this
  omega
theorem yF.n25 {m : Nat} {w a : Nat → Int32} (h : yF m w a) : a 0 ≠ 25 := by
  unfold yF at h
  rcases h with ⟨h, _⟩ | ⟨h, _⟩ | ⟨h | h, _⟩ | ⟨h, _⟩ | ⟨h, _⟩ <;> rw [h] <;> decide
theorem yT.n25 {m : Nat} {w a : Nat → Int32} (h : yT m w a) : a 0 ≠ 25 := by
  unfold yT at h
  obtain ⟨-, -, -, h⟩ := h
  rcases h with ⟨h, _⟩ | ⟨-, -, -, ⟨h, _⟩ | ⟨h, _⟩⟩ <;> rw [h] <;> decide
theorem yB.lp25 {m N S : Nat} {w : Nat → Nat → Int32} {a : Nat → Nat → Int32} {c e : Nat → Nat} {enc : Nat → List Nat} (h : yB m N S w a c e enc) {k : Nat} (hk : k < N) (h1 : a k 0 = 25) : c (k + 1) = c k + 1 ∧ enc (k + 1) = k :: enc k ∧ w 120 (c k) = 26 ∧ w 125 (c k) = a k 1 ∧ bd (a k 1) 1 99 := by
  rcases h.row k hk with ⟨_, _, h3⟩ | ⟨h1, h2, h3, h4, h5, h6⟩ | ⟨_, _, h3, _⟩ | ⟨_, h2, _⟩
  · exact absurd h1 h3.n25
  · exact ⟨h1, h2, h4, h5, h6⟩
  · exact absurd h1 h3.n25
  · rw [h1] at h2; exact absurd h2 (by decide)
theorem yB.cp {m N S : Nat} {w w' : Nat → Nat → Int32} {a a' : Nat → Nat → Int32} {c e : Nat → Nat} {enc : Nat → List Nat} (h : yB m N S w a c e enc) (hw : ∀ o k, 120 ≤ o → o ≤ 126 → k < 30 → w' o k = w o k) (ha : ∀ k i, k < N → i < 6 → a' k i = a k i) : yB m N S w' a' c e enc := by
  have hS := h.hS
  exact yB.mk
    (hN := h.hN) (hS := h.hS) (c0 := h.c0) (cN := h.cN) (e0 := h.e0) (eN := h.eN) (le3 := h.le3)
    (ein := fun k hk o ho => by
      obtain ⟨h1, h2, h3, h4, h5⟩ := h.ein k hk o ho
      have q := h.c30 (show o < N by omega) (h.lp25 (by omega) h4).1
      exact ⟨h1, h2, h3, by rw [ha o 0 (by omega) (by omega)]; exact h4, by rw [hw _ _ (by omega) (by omega) (by omega)]; exact h5⟩)
    (row := fun k hk => by
      rcases h.row k hk with ⟨h1, h2, h3⟩ | ⟨h1, h2, h3, h4, h5, h6⟩ | ⟨h1, h2, h3, h4, h5, h6, h7, h8⟩ | ⟨h1, h2, o, h3, h4, h5⟩
      · have q := h.c30 hk h1
        exact Or.inl ⟨h1, h2, h3.congr (fun o h1 h2 => hw o _ h1 h2 (by omega)) (fun i hi => ha k i hk hi)⟩
      · have q := h.c30 hk h1
        exact Or.inr (Or.inl ⟨h1, h2, by rw [ha k 0 hk (by omega)]; exact h3, by rw [hw _ _ (by omega) (by omega) (by omega)]; exact h4, by rw [hw _ _ (by omega) (by omega) (by omega), ha k 1 hk (by omega)]; exact h5, by rw [ha k 1 hk (by omega)]; exact h6⟩)
      · have q := h.c30 hk h1
        exact Or.inr (Or.inr (Or.inl ⟨h1, h2, h3.congr (fun o h1 h2 => hw o _ h1 h2 (by omega)) (fun i hi => ha k i hk hi), h4, h5, by rw [ha k 4 hk (by omega)]; exact h6, by rw [hw _ _ (by omega) (by omega) (by omega)]; exact h7, h8⟩))
      · refine Or.inr (Or.inr (Or.inr ⟨h1, by rw [ha k 0 hk (by omega)]; exact h2, o, h3, by rw [ha k 4 hk (by omega)]; exact h4, ?_⟩))
        rw [ha o 0 (by omega) (by omega)]
        exact h5)
theorem yR.cp {m g b g' b' : Nat} {Dc Dm Dc' Dm' : mz_D} (h : yR m g b Dc Dm) (h0 : ∀ j, j < 2 → Dc'.1 g' 119 j = Dc.1 g 119 j) (hc : ∀ o j, 120 ≤ o → o ≤ 126 → j < 30 → Dc'.1 g' o j = Dc.1 g o j) (h9 : Dm'.1 0 201 (b' + 9) = Dm.1 0 201 (b + 9)) (hm : ∀ j, 130 ≤ j → j < 490 → Dm'.1 0 201 (b' + j) = Dm.1 0 201 (b + j)) : yR m g' b' Dc' Dm' := by
  unfold yR at h ⊢
  rw [h0 0 (by omega), h0 1 (by omega), h9]
  rcases h with h | ⟨h1, N, S, c, e, enc, h2, h3, h4⟩
  · exact Or.inl h
  · refine Or.inr ⟨h1, N, S, c, e, enc, h2, h3, h4.cp (fun o k ho1 ho2 hk => hc o k (by omega) ho2 hk) (fun k i hk hi => ?_)⟩
    have hN := h4.hN
    have := hm (130 + 6 * k + i) (by omega) (by omega)
    simp only [Nat.add_assoc] at this ⊢
    exact this
/-- the cells of a table that are in use -/
def rqi (o j : Nat) : Prop := (o = 100 ∧ (j = 5 ∨ j = 6)) ∨ (o = 101 ∧ j < 3) ∨ (103 ≤ o ∧ o ≤ 108 ∧ j < 6) ∨ (o = 109 ∧ j < 2) ∨ (110 ≤ o ∧ o ≤ 111 ∧ j < 16) ∨ (o = 114 ∧ j < 36) ∨ (o = 117 ∧ j < 2) ∨ (o = 118 ∧ j < 6) ∨ (o = 119 ∧ j < 2) ∨ (120 ≤ o ∧ o ≤ 126 ∧ j < 30)
theorem tR.cp {n g b nb g' b' nb' : Nat} {Dc Dm Dc' Dm' : mz_D} {m d gs ins : Nat} (h : tR n g b nb Dc Dm m d gs ins) (C : ∀ o j, rqi o j → Dc'.1 g' o j = Dc.1 g o j) (C2 : ∀ j, j < 6 → Dc'.2 g' 102 j = Dc.2 g 102 j) (hm : ∀ j, j < 500 → Dm'.1 0 201 (b' + j) = Dm.1 0 201 (b + j)) (hn : ∀ p, p < 6 → Dm'.2 0 202 (nb' + p) = Dm.2 0 202 (nb + p)) : tR n g' b' nb' Dc' Dm' m d gs ins := by
  have M : ∀ k k' j, k = b' + j → k' = b + j → j < 500 → Dm'.1 0 201 k = Dm.1 0 201 k' := fun k k' j e e' hj => by rw [e, e']; exact hm j hj
  have hm6 := h.hm
  have hd6 := h.hd
  exact tR.mk
    (hm := h.hm) (hd := h.hd) (hgs := h.hgs) (hins := h.hins)
    (many_c := by rw [C _ _ (by unfold rqi; omega)]; exact h.many_c)
    (many_m := by rw [M b' b 0 (by omega) (by omega) (by omega)]; exact h.many_m)
    (couples := by rw [C _ _ (by unfold rqi; omega), M _ (b + 1) 1 (by omega) (by omega) (by omega)]; exact h.couples)
    (dish_c := by rw [C _ _ (by unfold rqi; omega)]; exact h.dish_c)
    (dish_m := by rw [M _ (b + 2) 2 (by omega) (by omega) (by omega)]; exact h.dish_m)
    (split := by rw [C _ _ (by unfold rqi; omega), M _ (b + 3) 3 (by omega) (by omega) (by omega)]; exact h.split)
    (split_b := by rw [C _ _ (by unfold rqi; omega)]; exact h.split_b)
    (law := by rw [C _ _ (by unfold rqi; omega), M _ (b + 4) 4 (by omega) (by omega) (by omega)]; exact h.law)
    (law_b := by rw [C _ _ (by unfold rqi; omega)]; exact h.law_b)
    (rounds := by rw [C _ _ (by unfold rqi; omega), M _ (b + 5) 5 (by omega) (by omega) (by omega)]; exact h.rounds)
    (gifts := by rw [C _ _ (by unfold rqi; omega), M _ (b + 6) 6 (by omega) (by omega) (by omega)]; exact h.gifts)
    (guests_c := by rw [C _ _ (by unfold rqi; omega)]; exact h.guests_c)
    (guests_m := by rw [M _ (b + 7) 7 (by omega) (by omega) (by omega)]; exact h.guests_m)
    (in_c := by rw [C _ _ (by unfold rqi; omega)]; exact h.in_c)
    (in_m := by rw [M _ (b + 8) 8 (by omega) (by omega) (by omega)]; exact h.in_m)
    (names := fun p hp => by rw [C2 _ (by omega), hn p (by omega)]; exact h.names p hp)
    (insists := fun p hp => by rw [C _ _ (by unfold rqi; omega), M _ (b + 12 + 8 * p) (12 + 8 * p) (by omega) (by omega) (by omega)]; exact h.insists p hp)
    (quick := fun p hp => by rw [C _ _ (by unfold rqi; omega), M _ (b + 13 + 8 * p) (13 + 8 * p) (by omega) (by omega) (by omega)]; exact h.quick p hp)
    (minds := fun p hp => by rw [C _ _ (by unfold rqi; omega), M _ (b + 14 + 8 * p) (14 + 8 * p) (by omega) (by omega) (by omega)]; exact h.minds p hp)
    (means := fun p hp => by rw [C _ _ (by unfold rqi; omega), M _ (b + 15 + 8 * p) (15 + 8 * p) (by omega) (by omega) (by omega)]; exact h.means p hp)
    (partner := fun p hp => by rw [C _ _ (by unfold rqi; omega), M _ (b + 16 + 8 * p) (16 + 8 * p) (by omega) (by omega) (by omega)]; exact h.partner p hp)
    (paid := fun p hp => by rw [C _ _ (by unfold rqi; omega), M _ (b + 17 + 8 * p) (17 + 8 * p) (by omega) (by omega) (by omega)]; exact h.paid p hp)
    (ahead := fun p hp => by rw [C _ _ (by unfold rqi; omega), M (b' + 18 + 8 * p) (b + 18 + 8 * p) (18 + 8 * p) (by omega) (by omega) (by omega), M (b' + 19 + 8 * p) (b + 19 + 8 * p) (19 + 8 * p) (by omega) (by omega) (by omega)]; exact h.ahead p hp)
    (price := fun k hk => by rw [C _ _ (by unfold rqi; omega), M _ (b + 60 + 2 * k) (60 + 2 * k) (by omega) (by omega) (by omega)]; exact h.price k hk)
    (eater := fun k hk => by rw [C _ _ (by unfold rqi; omega), M _ (b + 61 + 2 * k) (61 + 2 * k) (by omega) (by omega) (by omega)]; exact h.eater k hk)
    (debt := fun k hk => by rw [C _ _ (by unfold rqi; omega), M _ (b + 92 + k) (92 + k) (by omega) (by omega) (by omega)]; exact h.debt k hk)
    (nodebt := fun p q hp hq hh => by rw [C _ _ (by unfold rqi; omega)]; exact h.nodebt p q hp hq hh)
    (year := h.year.cp (fun j hj => C _ _ (by unfold rqi; omega)) (fun o j h1 h2 h3 => C _ _ (by unfold rqi; omega)) (hm 9 (by omega)) (fun j h1 h2 => hm j (by omega)))
theorem cpR_lt {f f' : Nat → Int32} {N c : Nat} (h : c < N) : cpR f f' N c = f c := if_pos h
theorem cp_110 (g0 g1 : Nat) (D : mz_D) : fX11_copyRow_110_110 g0 g1 D = some (wr D g1 110 (cpR (D.1 g0 110) (D.1 g1 110) 16)) := by
  unfold fX11_copyRow_110_110
  rw [show mz_cpg (0 : Int32) (0 : Int32) (fJ9_min_7cf53 (Int32.ofNat 16) (Int32.ofNat 16)) 16 16 = true by decide +kernel, gd_tt, show (fJ9_min_7cf53 (Int32.ofNat 16) (Int32.ofNat 16)).toNatClampNeg = 16 by decide +kernel, z0, cpi_wr]
theorem cp_111 (g0 g1 : Nat) (D : mz_D) : fX11_copyRow_111_111 g0 g1 D = some (wr D g1 111 (cpR (D.1 g0 111) (D.1 g1 111) 16)) := by
  unfold fX11_copyRow_111_111
  rw [show mz_cpg (0 : Int32) (0 : Int32) (fJ9_min_7cf53 (Int32.ofNat 16) (Int32.ofNat 16)) 16 16 = true by decide +kernel, gd_tt, show (fJ9_min_7cf53 (Int32.ofNat 16) (Int32.ofNat 16)).toNatClampNeg = 16 by decide +kernel, z0, cpi_wr]
theorem cp_114 (g0 g1 : Nat) (D : mz_D) : fX11_copyRow_114_114 g0 g1 D = some (wr D g1 114 (cpR (D.1 g0 114) (D.1 g1 114) 36)) := by
  unfold fX11_copyRow_114_114
  rw [show mz_cpg (0 : Int32) (0 : Int32) (fJ9_min_7cf53 (Int32.ofNat 36) (Int32.ofNat 36)) 36 36 = true by decide +kernel, gd_tt, show (fJ9_min_7cf53 (Int32.ofNat 36) (Int32.ofNat 36)).toNatClampNeg = 36 by decide +kernel, z0, cpi_wr]
theorem cp_120 (g0 g1 : Nat) (D : mz_D) : fX11_copyRow_120_120 g0 g1 D = some (wr D g1 120 (cpR (D.1 g0 120) (D.1 g1 120) 30)) := by
  unfold fX11_copyRow_120_120
  rw [show mz_cpg (0 : Int32) (0 : Int32) (fJ9_min_7cf53 (Int32.ofNat 30) (Int32.ofNat 30)) 30 30 = true by decide +kernel, gd_tt, show (fJ9_min_7cf53 (Int32.ofNat 30) (Int32.ofNat 30)).toNatClampNeg = 30 by decide +kernel, z0, cpi_wr]
theorem cp_121 (g0 g1 : Nat) (D : mz_D) : fX11_copyRow_121_121 g0 g1 D = some (wr D g1 121 (cpR (D.1 g0 121) (D.1 g1 121) 30)) := by
  unfold fX11_copyRow_121_121
  rw [show mz_cpg (0 : Int32) (0 : Int32) (fJ9_min_7cf53 (Int32.ofNat 30) (Int32.ofNat 30)) 30 30 = true by decide +kernel, gd_tt, show (fJ9_min_7cf53 (Int32.ofNat 30) (Int32.ofNat 30)).toNatClampNeg = 30 by decide +kernel, z0, cpi_wr]
theorem cp_122 (g0 g1 : Nat) (D : mz_D) : fX11_copyRow_122_122 g0 g1 D = some (wr D g1 122 (cpR (D.1 g0 122) (D.1 g1 122) 30)) := by
  unfold fX11_copyRow_122_122
  rw [show mz_cpg (0 : Int32) (0 : Int32) (fJ9_min_7cf53 (Int32.ofNat 30) (Int32.ofNat 30)) 30 30 = true by decide +kernel, gd_tt, show (fJ9_min_7cf53 (Int32.ofNat 30) (Int32.ofNat 30)).toNatClampNeg = 30 by decide +kernel, z0, cpi_wr]
theorem cp_123 (g0 g1 : Nat) (D : mz_D) : fX11_copyRow_123_123 g0 g1 D = some (wr D g1 123 (cpR (D.1 g0 123) (D.1 g1 123) 30)) := by
  unfold fX11_copyRow_123_123
  rw [show mz_cpg (0 : Int32) (0 : Int32) (fJ9_min_7cf53 (Int32.ofNat 30) (Int32.ofNat 30)) 30 30 = true by decide +kernel, gd_tt, show (fJ9_min_7cf53 (Int32.ofNat 30) (Int32.ofNat 30)).toNatClampNeg = 30 by decide +kernel, z0, cpi_wr]
theorem cp_124 (g0 g1 : Nat) (D : mz_D) : fX11_copyRow_124_124 g0 g1 D = some (wr D g1 124 (cpR (D.1 g0 124) (D.1 g1 124) 30)) := by
  unfold fX11_copyRow_124_124
  rw [show mz_cpg (0 : Int32) (0 : Int32) (fJ9_min_7cf53 (Int32.ofNat 30) (Int32.ofNat 30)) 30 30 = true by decide +kernel, gd_tt, show (fJ9_min_7cf53 (Int32.ofNat 30) (Int32.ofNat 30)).toNatClampNeg = 30 by decide +kernel, z0, cpi_wr]
theorem cp_125 (g0 g1 : Nat) (D : mz_D) : fX11_copyRow_125_125 g0 g1 D = some (wr D g1 125 (cpR (D.1 g0 125) (D.1 g1 125) 30)) := by
  unfold fX11_copyRow_125_125
  rw [show mz_cpg (0 : Int32) (0 : Int32) (fJ9_min_7cf53 (Int32.ofNat 30) (Int32.ofNat 30)) 30 30 = true by decide +kernel, gd_tt, show (fJ9_min_7cf53 (Int32.ofNat 30) (Int32.ofNat 30)).toNatClampNeg = 30 by decide +kernel, z0, cpi_wr]
theorem cp_126 (g0 g1 : Nat) (D : mz_D) : fX11_copyRow_126_126 g0 g1 D = some (wr D g1 126 (cpR (D.1 g0 126) (D.1 g1 126) 30)) := by
  unfold fX11_copyRow_126_126
  rw [show mz_cpg (0 : Int32) (0 : Int32) (fJ9_min_7cf53 (Int32.ofNat 30) (Int32.ofNat 30)) 30 30 = true by decide +kernel, gd_tt, show (fJ9_min_7cf53 (Int32.ofNat 30) (Int32.ofNat 30)).toNatClampNeg = 30 by decide +kernel, z0, cpi_wr]
def cfr (D E : mz_D) (g lo hi : Nat) : Prop := ∀ a o j, ¬ (a = g ∧ lo ≤ o ∧ o ≤ hi) → E.1 a o j = D.1 a o j ∧ E.2 a o j = D.2 a o j
theorem cpl_n {D : mz_D} {g g' o N a b c : Nat} (h : ¬ (b = o ∧ a = g')) : (mz_cpl D g o g' o 0 0 N).2 a b c = D.2 a b c := if_neg h
theorem cpl_s {D : mz_D} {g g' o N c : Nat} (h : c < N) : (mz_cpl D g o g' o 0 0 N).2 g' o c = D.2 g o c := by
  show (if o = o ∧ g' = g' then va_cpy (D.2 g o) (D.2 g' o) 0 0 N c else D.2 g' o c) = D.2 g o c
  rw [if_pos ⟨rfl, rfl⟩]
  unfold va_cpy
  rw [if_pos (by omega), Nat.zero_add, Nat.sub_zero]
theorem cpl_1 (D : mz_D) (g o g' o' s d N : Nat) : (mz_cpl D g o g' o' s d N).1 = D.1 := rfl
theorem cpX4 {g0 g1 : Nat} (hg : g0 ≠ g1) (D : mz_D) : ∃ E, fX4_copyFrom g0 g1 D = some E ∧ (∀ j, j < 3 → E.1 g0 101 j = D.1 g1 101 j) ∧ (∀ o j, 103 ≤ o → o ≤ 108 → j < 6 → E.1 g0 o j = D.1 g1 o j) ∧ (∀ j, j < 6 → E.2 g0 102 j = D.2 g1 102 j) ∧ cfr D E g0 101 108 := by
  have hg' : g1 ≠ g0 := fun e => hg e.symm
  unfold fX4_copyFrom
  rw [show mz_cpg (0 : Int32) (0 : Int32) (6 : Int32) 6 6 = true by decide +kernel, gd_tt, z0, show (6 : Int32).toNatClampNeg = 6 from rfl]
  simp only [cp_103, cp_104, cp_105, cp_106, cp_107, cp_108, Option.bind_some]
  refine ⟨_, rfl, fun j hj => ?_, fun o j h1 h2 hj => ?_, fun j hj => ?_, fun a o j hn => ⟨?_, ?_⟩⟩
  · have : j = 0 ∨ j = 1 ∨ j = 2 := by omega
    rcases this with rfl | rfl | rfl <;> simp (disch := omega) only [wr_n, cpl_1, wi_s, wi_n]
  · have : o = 103 ∨ o = 104 ∨ o = 105 ∨ o = 106 ∨ o = 107 ∨ o = 108 := by omega
    rcases this with rfl | rfl | rfl | rfl | rfl | rfl <;> simp (disch := omega) only [wr_s, wr_n, cpR_lt, cpl_1, wi_n]
  · simp (disch := omega) only [wr_2, cpl_s, wi_2]
  · simp (disch := omega) only [wr_n, cpl_1, wi_n]
  · simp (disch := omega) only [wr_2, cpl_n, wi_2]
theorem cpX1 {g0 g1 : Nat} (hg : g0 ≠ g1) (D : mz_D) : ∃ E, fX1_copyFrom g0 g1 D = some E ∧ (∀ j, j < 2 → E.1 g0 109 j = D.1 g1 109 j) ∧ (∀ o j, 110 ≤ o → o ≤ 111 → j < 16 → E.1 g0 o j = D.1 g1 o j) ∧ cfr D E g0 109 111 := by
  have hg' : g1 ≠ g0 := fun e => hg e.symm
  unfold fX1_copyFrom
  simp only [cp_110, cp_111, Option.bind_some]
  refine ⟨_, rfl, fun j hj => ?_, fun o j h1 h2 hj => ?_, fun a o j hn => ⟨?_, rfl⟩⟩
  · have : j = 0 ∨ j = 1 := by omega
    rcases this with rfl | rfl <;> simp (disch := omega) only [wr_n, wi_s, wi_n]
  · have : o = 110 ∨ o = 111 := by omega
    rcases this with rfl | rfl <;> simp (disch := omega) only [wr_s, wr_n, cpR_lt, wi_n]
  · simp (disch := omega) only [wr_n, wi_n]
theorem cpX2 {g0 g1 : Nat} (D : mz_D) : ∃ E, fX2_copyFrom g0 g1 D = some E ∧ (∀ j, j < 36 → E.1 g0 114 j = D.1 g1 114 j) ∧ cfr D E g0 114 114 := by
  unfold fX2_copyFrom
  rw [cp_114, Option.bind_some]
  refine ⟨_, rfl, fun j hj => by rw [wr_s, cpR_lt hj], fun a o j hn => ⟨by rw [wr_n (by omega)], rfl⟩⟩
theorem cpX0 {g0 g1 : Nat} (hg : g0 ≠ g1) (D : mz_D) : ∃ E, fX0_copyFrom g0 g1 D = some E ∧ (∀ j, j < 2 → E.1 g0 117 j = D.1 g1 117 j) ∧ (∀ j, j < 6 → E.1 g0 118 j = D.1 g1 118 j) ∧ cfr D E g0 117 118 := by
  have hg' : g1 ≠ g0 := fun e => hg e.symm
  unfold fX0_copyFrom
  simp only [cp_118, Option.bind_some]
  refine ⟨_, rfl, fun j hj => ?_, fun j hj => ?_, fun a o j hn => ⟨?_, rfl⟩⟩
  · have : j = 0 ∨ j = 1 := by omega
    rcases this with rfl | rfl <;> simp (disch := omega) only [wr_n, wi_s, wi_n]
  · simp (disch := omega) only [wr_s, cpR_lt, wi_n]
  · simp (disch := omega) only [wr_n, wi_n]
theorem cpX9 {g0 g1 : Nat} (hg : g0 ≠ g1) {D : mz_D} (hb : D.1 g1 119 0 = 0 ∨ D.1 g1 119 0 = 1) : ∃ E, fX9_copyFrom g0 g1 D = some E ∧ (∀ j, j < 2 → E.1 g0 119 j = D.1 g1 119 j) ∧ (∀ o j, 120 ≤ o → o ≤ 126 → j < 30 → E.1 g0 o j = D.1 g1 o j) ∧ cfr D E g0 119 126 := by
  have hg' : g1 ≠ g0 := fun e => hg e.symm
  have bo : mz_bo (D.1 g1 119 0) = true := by rcases hb with e | e <;> rw [e] <;> rfl
  unfold fX9_copyFrom
  rw [bo, gd_tt]
  simp only [cp_120, cp_121, cp_122, cp_123, cp_124, cp_125, cp_126, Option.bind_some]
  refine ⟨_, rfl, fun j hj => ?_, fun o j h1 h2 hj => ?_, fun a o j hn => ⟨?_, rfl⟩⟩
  · have : j = 0 ∨ j = 1 := by omega
    rcases this with rfl | rfl <;> simp (disch := omega) only [wr_n, wi_s, wi_n]
  · have : o = 120 ∨ o = 121 ∨ o = 122 ∨ o = 123 ∨ o = 124 ∨ o = 125 ∨ o = 126 := by omega
    rcases this with rfl | rfl | rfl | rfl | rfl | rfl | rfl <;> simp (disch := omega) only [wr_s, wr_n, cpR_lt, wi_n]
  · simp (disch := omega) only [wr_n, wi_n]
theorem cpT {g0 g1 : Nat} (hg : g0 ≠ g1) {D : mz_D} (hb : D.1 g1 119 0 = 0 ∨ D.1 g1 119 0 = 1) : ∃ E, fX6_copyFrom g0 g1 D = some E ∧ (∀ o j, rqi o j → E.1 g0 o j = D.1 g1 o j) ∧ (∀ j, j < 6 → E.2 g0 102 j = D.2 g1 102 j) ∧ cfr D E g0 100 126 := by
  have hg' : g1 ≠ g0 := fun e => hg e.symm
  obtain ⟨E1, e1, a1, a2, a3, f1⟩ := cpX4 hg D
  obtain ⟨E2, e2, b1, b2, f2⟩ := cpX1 hg E1
  obtain ⟨E3, e3, c1, f3⟩ := cpX2 (g0 := g0) (g1 := g1) E2
  obtain ⟨E4, e4, d1, d2, f4⟩ := cpX0 hg E3
  have s4 : ∀ o j, E4.1 g1 o j = D.1 g1 o j := fun o j => by rw [(f4 _ _ _ (by omega)).1, (f3 _ _ _ (by omega)).1, (f2 _ _ _ (by omega)).1, (f1 _ _ _ (by omega)).1]
  obtain ⟨E5, e5, p1, p2, f5⟩ := cpX9 (D := E4) hg (by rw [s4]; exact hb)
  have s5 : ∀ o j, E5.1 g1 o j = D.1 g1 o j := fun o j => by rw [(f5 _ _ _ (by omega)).1, s4]
  refine ⟨mz_wi (mz_wi E5 g0 100 5 (D.1 g1 100 5)) g0 100 6 (D.1 g1 100 6), ?_, fun o j hr => ?_, fun j hj => ?_, fun a o j hn => ⟨?_, ?_⟩⟩
  · unfold fX6_copyFrom
    rw [e1, Option.bind_some, e2, Option.bind_some, e3, Option.bind_some, e4, Option.bind_some, e5, Option.bind_some, wi_n (by omega), s5, s5]
  · by_cases h100 : o = 100
    · subst h100
      have : j = 5 ∨ j = 6 := by unfold rqi at hr; omega
      rcases this with rfl | rfl
      · rw [wi_n (by omega), wi_s]
      · rw [wi_s]
    · rw [wi_n (by omega), wi_n (by omega)]
      by_cases h119 : 119 ≤ o
      · by_cases e : o = 119
        · subst e; rw [p1 j (by unfold rqi at hr; omega), s4]
        · rw [p2 o j (by unfold rqi at hr; omega) (by unfold rqi at hr; omega) (by unfold rqi at hr; omega), s4]
      · rw [(f5 _ _ _ (by omega)).1]
        by_cases h117 : 117 ≤ o
        · have s3 : ∀ o j, E3.1 g1 o j = D.1 g1 o j := fun o j => by rw [(f3 _ _ _ (by omega)).1, (f2 _ _ _ (by omega)).1, (f1 _ _ _ (by omega)).1]
          by_cases e : o = 117
          · subst e; rw [d1 j (by unfold rqi at hr; omega), s3]
          · have e : o = 118 := by omega
            subst e; rw [d2 j (by unfold rqi at hr; omega), s3]
        · rw [(f4 _ _ _ (by omega)).1]
          by_cases h114 : o = 114
          · subst h114
            rw [c1 j (by unfold rqi at hr; omega), (f2 _ _ _ (by omega)).1, (f1 _ _ _ (by omega)).1]
          · rw [(f3 _ _ _ (by omega)).1]
            by_cases h109 : 109 ≤ o
            · by_cases e : o = 109
              · subst e; rw [b1 j (by unfold rqi at hr; omega), (f1 _ _ _ (by omega)).1]
              · rw [b2 o j (by omega) (by unfold rqi at hr; omega) (by unfold rqi at hr; omega), (f1 _ _ _ (by omega)).1]
            · rw [(f2 _ _ _ (by omega)).1]
              by_cases e : o = 101
              · subst e; exact a1 j (by unfold rqi at hr; omega)
              · exact a2 o j (by unfold rqi at hr; omega) (by unfold rqi at hr; omega) (by unfold rqi at hr; omega)
  · show E5.2 g0 102 j = _
    rw [(f5 _ _ _ (by omega)).2, (f4 _ _ _ (by omega)).2, (f3 _ _ _ (by omega)).2, (f2 _ _ _ (by omega)).2]
    exact a3 j hj
  · rw [wi_n (by omega), wi_n (by omega), (f5 _ _ _ (by omega)).1, (f4 _ _ _ (by omega)).1, (f3 _ _ _ (by omega)).1, (f2 _ _ _ (by omega)).1, (f1 _ _ _ (by omega)).1]
  · show E5.2 a o j = _
    rw [(f5 _ _ _ (by omega)).2, (f4 _ _ _ (by omega)).2, (f3 _ _ _ (by omega)).2, (f2 _ _ _ (by omega)).2, (f1 _ _ _ (by omega)).2]
theorem tR.y01 {n g b nb : Nat} {Dc Dm : mz_D} {m d gs ins : Nat} (h : tR n g b nb Dc Dm m d gs ins) : Dc.1 g 119 0 = 0 ∨ Dc.1 g 119 0 = 1 := by
  have := h.year
  unfold yR at this
  rcases this with h | h
  · exact Or.inl h.1
  · exact Or.inr h.1
/-! the reference's slots -/
def csR (f : Nat → Int32) (a b k : Nat) : Nat → Int32 := fun j => if 500 * b ≤ j ∧ j < 500 * b + k then f (500 * a + (j - 500 * b)) else f j
def clR (f : Nat → Int64) (a b k : Nat) : Nat → Int64 := fun j => if 6 * b ≤ j ∧ j < 6 * b + k then f (6 * a + (j - 6 * b)) else f j
theorem copM {E : mz_D} {a b : Nat} (ha : a < 4) (hb : b < 4) (hab : a ≠ b) : fX12_copies (nI a) (nI b) E = some (wl (wr E 0 201 (csR (E.1 0 201) a b 500)) 0 202 (clR (E.2 0 202) a b 6)) := by
  unfold fX12_copies
  have k2 : fX12_copies_41 mz_N (nI a) (nI b) (nI 0) (wl (wr E 0 201 (csR (E.1 0 201) a b 500)) 0 202 (clR (E.2 0 202) a b 0)) = some (wl (wr E 0 201 (csR (E.1 0 201) a b 500)) 0 202 (clR (E.2 0 202) a b 6)) := lpD (fun n s k => fX12_copies_41 n (nI a) (nI b) k s) (fun k => wl (wr E 0 201 (csR (E.1 0 201) a b 500)) 0 202 (clR (E.2 0 202) a b k)) 6 (fun n k hk => by
    show fX12_copies_41 (n + 1) (nI a) (nI b) (nI k) _ = fX12_copies_41 n (nI a) (nI b) (nI (k + 1)) _
    have e1 : clR (E.2 0 202) a b k (6 * a + k) = E.2 0 202 (6 * a + k) := if_neg (by omega)
    have e2 : upl (clR (E.2 0 202) a b k) (6 * b + k) (E.2 0 202 (6 * a + k)) = clR (E.2 0 202) a b (k + 1) := by
      funext c
      unfold upl clR
      by_cases h1 : c = 6 * b + k
      · rw [if_pos h1, if_pos (by omega), h1, show 6 * a + (6 * b + k - 6 * b) = 6 * a + k by omega]
      · rw [if_neg h1]
        by_cases h2 : 6 * b ≤ c ∧ c < 6 * b + k
        · rw [if_pos h2, if_pos (by omega)]
        · rw [if_neg h2, if_neg (by omega)]
    rw [fX12_copies_41]
    simp (disch := omega) only [l6m, nI_add, nI_ix, gd_tt, nI_cl, a1r, wl_s, wl_up, e1, e2]
    rw [if_neg (by rw [ol_le (c := 6) (by omega) (by omega)]; omega)]) (fun n => by
    show fX12_copies_41 (n + 1) (nI a) (nI b) (nI 6) _ = _
    rw [fX12_copies_41]
    dsimp only
    rw [if_pos (by decide)]) 6 0 mz_N rfl (N_lt (by omega))
  have z2 : wl (wr E 0 201 (csR (E.1 0 201) a b 500)) 0 202 (clR (E.2 0 202) a b 0) = wr E 0 201 (csR (E.1 0 201) a b 500) := by
    have : clR (E.2 0 202) a b 0 = (wr E 0 201 (csR (E.1 0 201) a b 500)).2 0 202 := by funext c; exact if_neg (by omega)
    rw [this, wl_id]
  rw [z2] at k2
  have k1 : fX12_copies_2 mz_N (nI a) (nI b) (nI 0) (wr E 0 201 (csR (E.1 0 201) a b 0)) = some (wl (wr E 0 201 (csR (E.1 0 201) a b 500)) 0 202 (clR (E.2 0 202) a b 6)) := lpD (fun n s k => fX12_copies_2 n (nI a) (nI b) k s) (fun k => wr E 0 201 (csR (E.1 0 201) a b k)) 500 (fun n k hk => by
    show fX12_copies_2 (n + 1) (nI a) (nI b) (nI k) _ = fX12_copies_2 n (nI a) (nI b) (nI (k + 1)) _
    have e1 : csR (E.1 0 201) a b k (500 * a + k) = E.1 0 201 (500 * a + k) := if_neg (by omega)
    have e2 : up (csR (E.1 0 201) a b k) (500 * b + k) (E.1 0 201 (500 * a + k)) = csR (E.1 0 201) a b (k + 1) := by
      funext c
      unfold up csR
      try dsimp only
      by_cases h1 : c = 500 * b + k
      · rw [if_pos h1, if_pos (by omega), h1, show 500 * a + (500 * b + k - 500 * b) = 500 * a + k by omega]
      · rw [if_neg h1]
        by_cases h2 : 500 * b ≤ c ∧ c < 500 * b + k
        · rw [if_pos h2, if_pos (by omega)]
        · rw [if_neg h2, if_neg (by omega)]
    rw [fX12_copies_2]
    simp (disch := omega) only [l500m, nI_add, nI_ix, gd_tt, nI_cl, a1r, wr_s, wr_up, e1, e2]
    rw [if_neg (by rw [ol_le (c := 500) (by omega) (by omega)]; omega)]) (fun n => by
    show fX12_copies_2 (n + 1) (nI a) (nI b) (nI 500) _ = _
    rw [fX12_copies_2]
    dsimp only
    rw [if_pos (by decide)]
    exact k2) 500 0 mz_N rfl (N_lt (by omega))
  have z1 : csR (E.1 0 201) a b 0 = E.1 0 201 := by funext c; exact if_neg (by omega)
  rw [z1, wr_id] at k1
  exact k1
/-! what a call on marks changes -/
def wC (D E : mz_D) : Prop := ∀ g o j, ¬ (sCq g o j ∨ (100 ≤ o ∧ o < 127) ∨ (o = 0 ∧ j = 7)) → E.1 g o j = D.1 g o j ∧ E.2 g o j = D.2 g o j
def wM (D E : mz_D) : Prop := ∀ g o j, ¬ (sMq g o j ∨ o = 201 ∨ o = 202 ∨ (o = 200 ∧ j = 34)) → E.1 g o j = D.1 g o j ∧ E.2 g o j = D.2 g o j
def mkS (n : Nat) (Dc Dm : mz_D) : Prop := ∃ mk, mk ≤ 3 ∧ Dm.1 0 200 34 = nI mk ∧ Dc.1 0 0 7 = nI mk ∧ ∀ i, i < mk → ∃ m d gs ins, tR n (3 + i) (500 * (i + 1)) (6 * (i + 1)) Dc Dm m d gs ins
theorem iR.mks {n : Nat} {Dc Dm Dc' Dm' : mz_D} (h : iR n Dc Dm) (hc : wC Dc Dc') (hm : wM Dm Dm') (ht : ∃ m d gs ins, tR n 1 0 0 Dc' Dm' m d gs ins) (hk : mkS n Dc' Dm') : iR n Dc' Dm' := iR.mk
  (status := by rw [(hc _ _ _ (by unfold sCq; omega)).1, (hm _ _ _ (by unfold sMq; omega)).1]; exact h.status)
  (top := by rw [(hc _ _ _ (by unfold sCq; omega)).2, (hm _ _ _ (by unfold sMq; omega)).2]; exact h.top)
  (bottom := by rw [(hc _ _ _ (by unfold sCq; omega)).2, (hm _ _ _ (by unfold sMq; omega)).2]; exact h.bottom)
  (fk := by rw [(hc _ _ _ (by unfold sCq; omega)).1, (hm _ _ _ (by unfold sMq; omega)).1]; exact h.fk)
  (fp := by rw [(hc _ _ _ (by unfold sCq; omega)).1, (hm _ _ _ (by unfold sMq; omega)).1]; exact h.fp)
  (taped := by rw [(hc _ _ _ (by unfold sCq; omega)).1, (hm _ _ _ (by unfold sMq; omega)).1]; exact h.taped)
  (tape := fun j hj => by rw [(hc _ _ _ (by unfold sCq; omega)).1, (hm _ _ _ (by unfold sMq; omega)).1]; exact h.tape j hj)
  (trays := fun t ht => (h.trays t ht).congr ht (fun o j h1 h2 => hc _ _ _ (by unfold sCq; omega)) (fun o j h1 h2 => hm _ _ _ (by unfold sMq; omega)))
  (lived := by rw [(hc _ _ _ (by unfold sCq; omega)).1, (hm _ _ _ (by unfold sMq; omega)).1]; exact h.lived)
  (told := fun j hj => by rw [(hc _ _ _ (by unfold sCq; omega)).1, (hm _ _ _ (by unfold sMq; omega)).1]; exact h.told j hj)
  (keys := by
    rw [← h.keys]
    funext j
    exact (hc _ _ _ (by unfold sCq; omega)).2)
  (table := ht)
  (marks := hk)
theorem q_mks {n : Nat} {D E : mz_D} {r v : Int32} {fc fm : mz_D → Option (Int32 × mz_D)} (h : Inv n D) (hc : wC D E) (e1 : fc D = some (r, mz_wi E 0 0 13 v)) (e2 : ∀ E', eM D E' → ∃ F, wM E' F ∧ fm E' = some (r, mz_wi F 0 200 2 v) ∧ (∃ m d gs ins, tR (n + 1) 1 0 0 E F m d gs ins) ∧ mkS (n + 1) E F) : ∃ (r : Int32) (D1 D2 : mz_D), fc D = some (r, D1) ∧ fm D1 = some (r, D2) ∧ Inv (n + 1) D2 := by
  have hE : eM D (mz_wi E 0 0 13 v) := fun g o j h1 h2 => by rw [wi_n (by omega)]; exact hc g o j (by unfold sCq; omega)
  obtain ⟨F, hm, e2, ht, hk⟩ := e2 _ hE
  refine ⟨r, _, _, e1, e2, ?_⟩
  have a1 : iR n D (mz_wi E 0 0 13 v) := iR.cells h eC.rf hE
  have a2 : iR (n + 1) E F := (a1.mono (Nat.le_succ n)).mks hc hm ht hk
  refine (a2.stat v).cells (fun g o j ho => ?_) eM.rf
  have c := hm g o j (by unfold sMq; omega)
  exact ⟨by rw [wi_1 F, if_neg (by omega)]; exact c.1, c.2⟩
theorem p_op61 : op_61 Inv := by
  intro n D h
  obtain ⟨m, d, gs, ins, t⟩ := iR.t h
  obtain ⟨mk, k1, k2, k3, k4⟩ := iR.marks h
  by_cases h3 : mk = 3
  · exact q_look h (r := -1) (v := 4) (by unfold fX11_mark; rw [k3, h3, if_neg (by decide)]) (fun E he => by unfold fX12_mark; rw [(he 0 200 34 (by omega) (by omega)).1, k2, h3, if_pos (by decide)])
  · obtain ⟨E1, e1, a1, a2, f1⟩ := cpT (g0 := 3 + mk) (g1 := 1) (by omega) t.y01
    have b7 : E1.1 0 0 7 = nI mk := by rw [(f1 _ _ _ (by omega)).1]; exact k3
    refine q_mks h (r := nI (mk + 1)) (v := 0) (E := mz_wi E1 0 0 7 (nI (mk + 1))) (fun g o j hn => ?_) ?_ (fun E he => ?_)
    · have := f1 g o j (by omega)
      exact ⟨by rw [wi_n (by omega)]; exact this.1, this.2⟩
    · unfold fX11_mark
      rw [k3, if_pos (by rw [ol_ltr (c := 3) (by omega) (by omega)]; omega), nI_ix (by omega) (by omega), gd_tt, nI_cl (by omega), e1, Option.bind_some, b7, a1r]
    · have t2 := t.m he
      have q34 : E.1 0 200 34 = nI mk := by rw [(he 0 200 34 (by omega) (by omega)).1]; exact k2
      refine ⟨wl (wr (mz_wi E 0 200 34 (nI (mk + 1))) 0 201 (csR (E.1 0 201) 0 (mk + 1) 500)) 0 202 (clR (E.2 0 202) 0 (mk + 1) 6), fun g o j hn => ⟨by rw [wl_1, wr_n (by omega), wi_n (by omega)], by rw [wl_n (by omega)]; rfl⟩, ?_, ?_, ?_⟩
      · unfold fX12_mark
        rw [q34, if_neg (by rw [ol_eqi (c := 3) (by omega) (by omega)]; exact h3), a1r]
        have cm := copM (E := mz_wi E 0 200 34 (nI (mk + 1))) (a := 0) (b := mk + 1) (by omega) (by omega) (by omega)
        have cm2 : fX12_copies 0 (nI (mk + 1)) (mz_wi E 0 200 34 (nI (mk + 1))) = _ := cm
        rw [cm2, Option.bind_some]
        have r1 : (mz_wi E 0 200 34 (nI (mk + 1))).1 0 201 = E.1 0 201 := by funext j; exact wi_n (by omega)
        have r2 : (mz_wi E 0 200 34 (nI (mk + 1))).2 0 202 = E.2 0 202 := rfl
        rw [r1, r2, wl_1, wr_n (Or.inl (by decide)), wi_s]
      · refine ⟨m, d, gs, ins, (t2.cp (fun o j hr => ?_) (fun j hj => ?_) (fun j hj => ?_) (fun p hp => ?_)).mono (Nat.le_succ n)⟩
        · rw [wi_n (by unfold rqi at hr; omega), (f1 _ _ _ (by omega)).1]
        · show E1.2 1 102 j = _
          rw [(f1 _ _ _ (by omega)).2]
        · rw [wl_1, wr_s]; exact if_neg (by omega)
        · rw [wl_s]; exact if_neg (by omega)
      · refine ⟨mk + 1, by omega, by rw [wl_1, wr_n (Or.inl (by decide)), wi_s], by rw [wi_s], fun i hi => ?_⟩
        by_cases ei : i = mk
        · subst ei
          refine ⟨m, d, gs, ins, (t2.cp (fun o j hr => ?_) (fun j hj => ?_) (fun j hj => ?_) (fun p hp => ?_)).mono (Nat.le_succ n)⟩
          · rw [wi_n (by unfold rqi at hr; omega)]; exact a1 o j hr
          · show E1.2 (3 + i) 102 j = _
            exact a2 j hj
          · rw [wl_1, wr_s]
            unfold csR
            rw [if_pos (by omega), show 500 * 0 + (500 * (i + 1) + j - 500 * (i + 1)) = 0 + j by omega]
          · rw [wl_s]
            unfold clR
            rw [if_pos (by omega), show 6 * 0 + (6 * (i + 1) + p - 6 * (i + 1)) = 0 + p by omega]
        · obtain ⟨m', d', gs', ins', t'⟩ := k4 i (by omega)
          refine ⟨m', d', gs', ins', ((t'.m he).cp (fun o j hr => ?_) (fun j hj => ?_) (fun j hj => ?_) (fun p hp => ?_)).mono (Nat.le_succ n)⟩
          · rw [wi_n (by unfold rqi at hr; omega), (f1 _ _ _ (by omega)).1]
          · show E1.2 (3 + i) 102 j = _
            rw [(f1 _ _ _ (by omega)).2]
          · rw [wl_1, wr_s]; exact if_neg (by omega)
          · rw [wl_s]; exact if_neg (by omega)
theorem p_op62 : op_62 Inv := by
  intro n D h
  obtain ⟨m, d, gs, ins, t⟩ := iR.t h
  obtain ⟨mk, k1, k2, k3, k4⟩ := iR.marks h
  by_cases h0 : mk = 0
  · exact q_look h (r := -1) (v := 6) (by unfold fX11_back; rw [k3, h0, if_neg (by decide)]) (fun E he => by unfold fX12_back; rw [(he 0 200 34 (by omega) (by omega)).1, k2, h0, if_pos (by decide)])
  · obtain ⟨q, rfl⟩ : ∃ q, mk = q + 1 := ⟨mk - 1, by omega⟩
    obtain ⟨m', d', gs', ins', t'⟩ := k4 q (by omega)
    have y1 : (mz_wi D 0 0 7 (nI q)).1 (3 + q) 119 0 = 0 ∨ (mz_wi D 0 0 7 (nI q)).1 (3 + q) 119 0 = 1 := by rw [wi_n (by omega)]; exact t'.y01
    obtain ⟨E1, e1, a1, a2, f1⟩ := cpT (g0 := 1) (g1 := 3 + q) (D := mz_wi D 0 0 7 (nI q)) (by omega) y1
    have b7 : E1.1 0 0 7 = nI q := by rw [(f1 _ _ _ (by omega)).1, wi_s]
    refine q_mks h (r := nI q) (v := 0) (E := E1) (fun g o j hn => ?_) ?_ (fun E he => ?_)
    · have := f1 g o j (by omega)
      exact ⟨by rw [this.1, wi_n (by omega)], this.2⟩
    · unfold fX11_back
      rw [k3, if_pos (by rw [ol_lt (c := 0) (by omega) (by omega)]; omega), s1r, nI_ix (by omega) (by omega), gd_tt, nI_cl (by omega), e1, Option.bind_some, b7]
    · have q34 : E.1 0 200 34 = nI (q + 1) := by rw [(he 0 200 34 (by omega) (by omega)).1]; exact k2
      have cm := copM (E := E) (a := q + 1) (b := 0) (by omega) (by omega) (by omega)
      have cm2 : fX12_copies (nI (q + 1)) 0 E = _ := cm
      refine ⟨mz_wi (wl (wr E 0 201 (csR (E.1 0 201) (q + 1) 0 500)) 0 202 (clR (E.2 0 202) (q + 1) 0 6)) 0 200 34 (nI q), fun g o j hn => ⟨by rw [wi_n (by omega), wl_1, wr_n (by omega)], by show (wl (wr E 0 201 (csR (E.1 0 201) (q + 1) 0 500)) 0 202 (clR (E.2 0 202) (q + 1) 0 6)).2 g o j = _; rw [wl_n (by omega)]; rfl⟩, ?_, ?_, ?_⟩
      · unfold fX12_back
        rw [q34, if_neg (by rw [ol_eqi (c := 0) (by omega) (by omega)]; omega), cm2, Option.bind_some]
        have r1 : (wl (wr E 0 201 (csR (E.1 0 201) (q + 1) 0 500)) 0 202 (clR (E.2 0 202) (q + 1) 0 6)).1 0 200 34 = nI (q + 1) := by rw [wl_1, wr_n (Or.inl (by decide))]; exact q34
        rw [r1, s1r]
      · refine ⟨m', d', gs', ins', ((t'.m he).cp (fun o j hr => ?_) (fun j hj => ?_) (fun j hj => ?_) (fun p hp => ?_)).mono (Nat.le_succ n)⟩
        · rw [a1 o j hr, wi_n (by omega)]
        · exact a2 j hj
        · rw [wi_n (by omega), wl_1, wr_s]
          unfold csR
          rw [if_pos (by omega), show 500 * (q + 1) + (0 + j - 500 * 0) = 500 * (q + 1) + j by omega]
        · show (wl (wr E 0 201 (csR (E.1 0 201) (q + 1) 0 500)) 0 202 (clR (E.2 0 202) (q + 1) 0 6)).2 0 202 (0 + p) = _
          rw [wl_s]
          unfold clR
          rw [if_pos (by omega), show 6 * (q + 1) + (0 + p - 6 * 0) = 6 * (q + 1) + p by omega]
      · refine ⟨q, by omega, by rw [wi_s], b7, fun i hi => ?_⟩
        obtain ⟨m2, d2, gs2, ins2, t2⟩ := k4 i (by omega)
        refine ⟨m2, d2, gs2, ins2, ((t2.m he).cp (fun o j hr => ?_) (fun j hj => ?_) (fun j hj => ?_) (fun p hp => ?_)).mono (Nat.le_succ n)⟩
        · rw [(f1 _ _ _ (by omega)).1, wi_n (by omega)]
        · rw [(f1 _ _ _ (by omega)).2]; rfl
        · rw [wi_n (by omega), wl_1, wr_s]; exact if_neg (by omega)
        · show (wl (wr E 0 201 (csR (E.1 0 201) (q + 1) 0 500)) 0 202 (clR (E.2 0 202) (q + 1) 0 6)).2 0 202 (6 * (i + 1) + p) = _
          rw [wl_s]; exact if_neg (by omega)
