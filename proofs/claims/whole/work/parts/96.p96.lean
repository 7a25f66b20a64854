/-! ===== texts: the words, in both ===== -/
def pmL : List Nat := [0, 6, 7, 9, 10, 14, 1, 2, 3, 4, 5, 8, 11, 12, 13, 15, 16, 17, 18, 19, 20, 21, 22, 23, 24, 26, 27, 28, 25]
def qmL : List Nat := [0, 6, 7, 8, 9, 10, 1, 2, 11, 3, 4, 12, 13, 14, 5, 15, 16, 17, 18, 19, 20, 21, 22, 23, 24, 28, 25, 26, 27]
def psL : List Nat := [1, 8, 15, 20, 25, 31, 35, 43, 49, 55, 61, 67, 70, 76, 82, 90, 95, 101, 108, 113, 118, 123, 129, 134, 137, 142, 147, 151, 156, 161]
def pm (j : Nat) : Nat := pmL.getD j 0
def qm (j : Nat) : Nat := qmL.getD j 0
def ps (j : Nat) : Nat := psL.getD j 0
def kw (i : Nat) : List Nat := kws.getD i []
/-- the reference's words, by its numbers -/
def wm (j : Nat) : List Nat := kw (pm j)
theorem kw_inj : ∀ i, i < 29 → ∀ j, j < 29 → (kw i = kw j → i = j) := by decide +kernel
theorem pm_q : ∀ j, j < 29 → (pm j < 29 ∧ qm j < 29 ∧ pm (qm j) = j ∧ qm (pm j) = j) := by decide +kernel
theorem ps_c : ∀ j, j < 29 → (ps j + (wm j).length + 1 = ps (j + 1) ∧ st_ch 1 (nI (ps j + (wm j).length)) = 32 ∧ ps (j + 1) ≤ 161 ∧ ∀ i, i < (wm j).length → (st_ch 1 (nI (ps j + i)) = nI ((wm j).getD i 0 + 96) ∧ st_ch 1 (nI (ps j + i)) ≠ 32)) := by decide +kernel
theorem kw_l (i : Nat) (hi : i < 29) : (kw i).length ≤ 8 ∧ ltr (kw i) := ⟨(kws_n i hi).1, (kws_n i hi).2.2⟩
theorem ltr.ix {w : List Nat} (h : ltr w) {i : Nat} (hi : i < w.length) : 1 ≤ w.getD i 0 ∧ w.getD i 0 ≤ 26 := by
  rw [List.getD_eq_getElem?_getD, List.getElem?_eq_getElem hi]
  exact h _ (List.getElem_mem hi)
theorem getD_x {a b : List Nat} (h : a.length = b.length) (e : ∀ i, i < a.length → a.getD i 0 = b.getD i 0) : a = b :=
  List.ext_getElem h (fun i h1 h2 => by
    have := e i h1
    rw [List.getD_eq_getElem?_getD, List.getD_eq_getElem?_getD, List.getElem?_eq_getElem h1, List.getElem?_eq_getElem h2] at this
    exact this)
/-- which of the class's words -/
def kI (w : List Nat) (r : Int32) : Prop := (∃ i, i < 29 ∧ r = nI i ∧ kw i = w) ∨ (r = -1 ∧ ∀ i, i < 29 → kw i ≠ w)
def mI (w : List Nat) (r : Int32) : Prop := (∃ j, j < 29 ∧ r = nI j ∧ wm j = w) ∨ (r = -1 ∧ ∀ j, j < 29 → wm j ≠ w)
def kR (kc km : Int32) : Prop := (kc = -1 ∧ km = -1) ∨ ∃ j, j < 29 ∧ km = nI j ∧ kc = nI (pm j)
theorem kR_of {w : List Nat} {kc km : Int32} (h1 : kI w kc) (h2 : mI w km) : kR kc km := by
  rcases h1 with ⟨i, hi, e1, e2⟩ | ⟨e1, e2⟩
  · rcases h2 with ⟨j, hj, f1, f2⟩ | ⟨f1, f2⟩
    · refine Or.inr ⟨j, hj, f1, ?_⟩
      have := kw_inj i hi (pm j) (pm_q j hj).1 (by rw [e2]; exact f2.symm)
      rw [e1, this]
    · refine absurd ?_ (f2 (qm i) (pm_q i hi).2.1)
      unfold wm
      rw [(pm_q i hi).2.2.1]
      exact e2
  · rcases h2 with ⟨j, hj, f1, f2⟩ | ⟨f1, f2⟩
    · exact absurd f2 (e2 (pm j) (pm_q j hj).1)
    · exact Or.inl ⟨e1, f1⟩
theorem kR.iff {kc km : Int32} (h : kR kc km) {a b : Nat} (hb : b < 29) (hab : pm b = a) : kc = nI a ↔ km = nI b := by
  have ha : a < 29 := by rw [← hab]; exact (pm_q b hb).1
  rcases h with ⟨rfl, rfl⟩ | ⟨j, hj, rfl, rfl⟩
  · exact ⟨fun e => ((nI_ne1' (by omega)).mp e).elim, fun e => ((nI_ne1' (by omega)).mp e).elim⟩
  · have h1 := (pm_q j hj).1
    rw [nJ_eq (by omega) (by omega), nJ_eq (by omega) (by omega)]
    refine ⟨fun e => ?_, fun e => by rw [e, hab]⟩
    have h2 := (pm_q j hj).2.2.2
    have h3 := (pm_q b hb).2.2.2
    rw [e, ← hab, h3] at h2
    exact h2.symm
theorem kR.no {kc km : Int32} (h : kR kc km) : kc = -1 ↔ km = -1 := by
  rcases h with ⟨rfl, rfl⟩ | ⟨j, hj, rfl, rfl⟩
  · exact ⟨fun _ => rfl, fun _ => rfl⟩
  · have h1 := (pm_q j hj).1
    exact ⟨fun e => ((nI_ne1 (by omega)).mp e).elim, fun e => ((nI_ne1 (by omega)).mp e).elim⟩
/-! the class -/
theorem kwC {C : mz_D} (hk : C.2 0 3 = cz_DK.2 0 3) {w : List Nat} (hw : ltr w) (h8 : w.length ≤ 8) (h9 : C.2 0 2 9 = c5 w) : ∀ d j n, j + d = 29 → d < n → (∀ i, i < j → kw i ≠ w) → ∃ r, fX5_keywordHere_30 C n 1 (nI j) = some r ∧ kI w r := by
  intro d
  induction d with
  | zero =>
    intro j n h hn hp
    obtain ⟨n, rfl⟩ : ∃ n', n = n' + 1 := ⟨n - 1, by omega⟩
    have e : j = 29 := by omega
    subst e
    refine ⟨-1, ?_, Or.inr ⟨rfl, fun i hi => hp i hi⟩⟩
    rw [fX5_keywordHere_30]
    exact if_pos (by decide)
  | succ d ih =>
    intro j n h hn hp
    obtain ⟨n, rfl⟩ : ∃ n', n = n' + 1 := ⟨n - 1, by omega⟩
    have hj : j < 29 := by omega
    have n1 : ¬ (29 : Int32) ≤ nI j := by
      show ¬ nI 29 ≤ nI j
      rw [nJ_le (by omega) (by omega)]
      omega
    have hc : lg_cmp (C.2 0 3 j) (C.2 0 2 9) = 0 ↔ kw j = w := by
      rw [hk, kws_k j hj, h9, cmp_eq]
      exact c5_e (kw_l j hj).2 hw (kw_l j hj).1 h8
    by_cases e : kw j = w
    · refine ⟨nI j, ?_, Or.inl ⟨j, hj, rfl, e⟩⟩
      rw [fX5_keywordHere_30]
      dsimp only
      rw [if_neg n1, if_neg one_ne, nI_ix hj (by omega), gd_tt, nI_cl (by omega), if_pos (hc.mpr e)]
    · obtain ⟨r, h1, h2⟩ := ih (j + 1) n (by omega) (by omega) (fun i hi => by
        by_cases q : i = j
        · rw [q]; exact e
        · exact hp i (by omega))
      refine ⟨r, ?_, h2⟩
      rw [fX5_keywordHere_30]
      dsimp only
      rw [if_neg n1, if_neg one_ne, nI_ix hj (by omega), gd_tt, nI_cl (by omega), if_neg (fun q => e (hc.mp q)), a1r]
      exact h1
theorem N_s : ∃ n, mz_N = n + 1 ∧ 900000 < n := ⟨999999, rfl, by omega⟩
theorem kw0 (C : mz_D) : fX5_keywordHere_26 C = some (-1) := by
  obtain ⟨n, hn, -⟩ := N_s
  unfold fX5_keywordHere_26
  rw [hn, fX5_keywordHere_30]
  dsimp only
  rw [if_neg (by decide), if_pos rfl]
theorem kwN {C : mz_D} (h6 : ¬ C.1 0 2 6 = 1) : fX5_keywordHere C = some (-1) := by
  unfold fX5_keywordHere
  rw [if_neg h6, kw0]
theorem kwH {C : mz_D} (hk : C.2 0 3 = cz_DK.2 0 3) {w : List Nat} (hw : ltr w) (hL : w.length ≤ 900) (h6 : C.1 0 2 6 = 1) (hl : C.1 0 2 5 - C.1 0 2 7 = nI w.length) (h9 : C.2 0 2 9 = c5 w) : ∃ r, fX5_keywordHere C = some r ∧ kI w r := by
  unfold fX5_keywordHere
  rw [if_pos h6, hl]
  by_cases h8 : w.length ≤ 8
  · rw [if_neg (by show ¬ nI 8 < nI w.length; rw [nJ_lt (by omega) (by omega)]; omega)]
    exact kwC hk hw h8 h9 29 0 mz_N (by omega) (N_lt (by omega)) (fun i hi => by omega)
  · rw [if_pos (by show nI 8 < nI w.length; rw [nJ_lt (by omega) (by omega)]; omega)]
    refine ⟨-1, kw0 C, Or.inr ⟨rfl, fun i hi e => ?_⟩⟩
    have := (kw_l i hi).1
    rw [e] at this
    exact h8 this
/-! the reference -/
/-- the word that stands in the reference's text -/
def wdM (s L : Nat) (w : List Nat) (M : mz_D) : Prop := ltr w ∧ L ≤ 900 ∧ s + w.length ≤ L ∧ M.1 0 200 11 = nI L ∧ M.1 0 200 13 = nI s ∧ M.1 0 200 14 = nI (s + w.length) ∧ ∀ i, i < w.length → M.1 0 207 (s + i) = nI (w.getD i 0 + 96)
theorem wdM.byt {s L : Nat} {w : List Nat} {M : mz_D} (h : wdM s L w M) {i : Nat} (hi : i < w.length) : fX12_byteAt (nI (s + i)) M = some (nI (w.getD i 0 + 96)) := by
  obtain ⟨h1, h2, h3, h4, -, -, h7⟩ := h
  have hx := h1.ix hi
  unfold fX12_byteAt
  rw [h4, if_neg (by rw [nJ_le (by omega) (by omega)]; omega), nI_ix (by omega) (by omega), gd_tt, nI_cl (by omega), h7 i hi, (let0 _ (by omega) hx.1).1]
theorem iw25 {M : mz_D} {K : Int32 → Int32 → Option Int32} {k l : Nat} (hk : k + l < 161) (hs : ∀ i, i < l → st_ch 1 (nI (k + i)) ≠ 32) (he : st_ch 1 (nI (k + l)) = 32) (x2 : Int32) : ∀ d i n, i + d = l → d < n → fX12_inWords_25 M K n x2 (nI k) (nI (k + i)) = (if nI (k + l) - nI k = M.1 0 200 14 - M.1 0 200 13 then fX12_inWords_68 M K mz_N x2 (nI k) (nI (k + l)) 1 (nI k) else fX12_inWords_68 M K mz_N x2 (nI k) (nI (k + l)) 0 (nI k)) := by
  intro d
  induction d with
  | zero =>
    intro i n h hn
    obtain ⟨n, rfl⟩ : ∃ n', n = n' + 1 := ⟨n - 1, by omega⟩
    have e : i = l := by omega
    subst e
    rw [fX12_inWords_25]
    dsimp only
    rw [nI_ix hk (by omega), gd_tt, if_pos he]
  | succ d ih =>
    intro i n h hn
    obtain ⟨n, rfl⟩ : ∃ n', n = n' + 1 := ⟨n - 1, by omega⟩
    rw [fX12_inWords_25]
    dsimp only
    rw [nI_ix (by omega) (by omega), gd_tt, if_neg (hs i (by omega)), a1r]
    exact ih (i + 1) n (by omega) (by omega)
theorem iw68z {M : mz_D} {K : Int32 → Int32 → Option Int32} {n : Nat} (hn : 0 < n) (x2 x3 x4 x6 : Int32) : fX12_inWords_68 M K n x2 x3 x4 0 x6 = K (x2 + 1) (x4 + 1) := by
  obtain ⟨n, rfl⟩ : ∃ n', n = n' + 1 := ⟨n - 1, by omega⟩
  rw [fX12_inWords_68]
  dsimp only
  unfold fX12_inWords_115
  by_cases h : x4 ≤ x6
  · rw [if_pos h, if_pos rfl]
  · rw [if_neg h, if_pos rfl, if_pos rfl]
theorem iw68 {s L : Nat} {w : List Nat} {M : mz_D} (hM : wdM s L w M) {K : Int32 → Int32 → Option Int32} {k : Nat} {W : List Nat} (hk : k + W.length < 161) (hl : W.length = w.length) (hW : ltr W) (hs : ∀ i, i < W.length → st_ch 1 (nI (k + i)) = nI (W.getD i 0 + 96)) (x2 : Int32) : ∀ d i n, i + d = W.length → d + 1 < n → (∀ i', i' < i → W.getD i' 0 = w.getD i' 0) → fX12_inWords_68 M K n x2 (nI k) (nI (k + W.length)) 1 (nI (k + i)) = if W = w then some x2 else K (x2 + 1) (nI (k + W.length) + 1) := by
  intro d
  induction d with
  | zero =>
    intro i n h hn hp
    obtain ⟨n, rfl⟩ : ∃ n', n = n' + 1 := ⟨n - 1, by omega⟩
    have e : i = W.length := by omega
    subst e
    rw [if_pos (getD_x hl hp), fX12_inWords_68]
    dsimp only
    rw [if_pos (Int32.le_refl _)]
    unfold fX12_inWords_115
    rw [if_neg one_ne]
  | succ d ih =>
    intro i n h hn hp
    obtain ⟨n, rfl⟩ : ∃ n', n = n' + 1 := ⟨n - 1, by omega⟩
    have hi : i < W.length := by omega
    have h1 := hM.1.ix (show i < w.length by omega)
    have h2 := hW.ix hi
    have h3 := hM.2.1
    have h4 := hM.2.2.1
    rw [fX12_inWords_68]
    dsimp only
    rw [if_neg (by rw [nJ_le (by omega) (by omega)]; omega), if_neg one_ne, nI_ix (by omega) (by omega), gd_tt, hM.2.2.2.2.1, nI_add, n_sub (by omega), show s + (k + i) - k = s + i by omega, hM.byt (by omega), Option.bind_some, hs i hi]
    by_cases e : W.getD i 0 = w.getD i 0
    · rw [e, if_pos rfl, a1r]
      exact ih (i + 1) n (by omega) (by omega) (fun i' hi' => by
        by_cases q : i' = i
        · rw [q]; exact e
        · exact hp i' (by omega))
    · rw [if_neg (by rw [nJ_eq (by omega) (by omega)]; omega), iw68z (by omega), if_neg (fun q => e (by rw [q]))]
theorem iwS {s L : Nat} {w : List Nat} {M : mz_D} (hM : wdM s L w M) {j : Nat} (hj : j < 29) (n : Nat) : fX12_inWords_14 M (n + 1) (nI j) (nI (ps j)) = if wm j = w then some (nI j) else fX12_inWords_14 M n (nI (j + 1)) (nI (ps (j + 1))) := by
  obtain ⟨p1, p2, p3, p4⟩ := ps_c j hj
  have hW : ltr (wm j) := (kw_l _ (pm_q j hj).1).2
  have hW8 : (wm j).length ≤ 8 := (kw_l _ (pm_q j hj).1).1
  have h3 := hM.2.1
  have h4 := hM.2.2.1
  rw [fX12_inWords_14]
  dsimp only
  rw [if_neg (by show ¬ nI 161 ≤ nI (ps j); rw [nJ_le (by omega) (by omega)]; omega)]
  have e1 := iw25 (M := M) (K := fX12_inWords_14 M n) (show ps j + (wm j).length < 161 by omega) (fun i hi => (p4 i hi).2) p2 (nI j) (wm j).length 0 mz_N (by omega) (N_lt (by omega))
  have e1 : fX12_inWords_25 M (fX12_inWords_14 M n) mz_N (nI j) (nI (ps j)) (nI (ps j)) = _ := e1
  rw [e1, n_sub (by omega), hM.2.2.2.2.1, hM.2.2.2.2.2.1, n_sub (by omega), show ps j + (wm j).length - ps j = (wm j).length by omega, show s + w.length - s = w.length by omega]
  by_cases e : (wm j).length = w.length
  · rw [if_pos (by rw [e])]
    have e2 := iw68 hM (K := fX12_inWords_14 M n) (show ps j + (wm j).length < 161 by omega) e hW (fun i hi => (p4 i hi).1) (nI j) (wm j).length 0 mz_N (by omega) (N_lt (by omega)) (fun i' hi' => by omega)
    have e2 : fX12_inWords_68 M (fX12_inWords_14 M n) mz_N (nI j) (nI (ps j)) (nI (ps j + (wm j).length)) 1 (nI (ps j)) = _ := e2
    rw [e2, a1r, a1r, p1]
  · rw [if_neg (by rw [nJ_eq (by omega) (by omega)]; exact e), iw68z (N_lt (by omega)), if_neg (fun q => e (by rw [q])), a1r, a1r, p1]
theorem iwL {s L : Nat} {w : List Nat} {M : mz_D} (hM : wdM s L w M) : ∀ d j n, j + d = 29 → d < n → (∀ i, i < j → wm i ≠ w) → ∃ r, fX12_inWords_14 M n (nI j) (nI (ps j)) = some r ∧ mI w r := by
  intro d
  induction d with
  | zero =>
    intro j n h hn hp
    obtain ⟨n, rfl⟩ : ∃ n', n = n' + 1 := ⟨n - 1, by omega⟩
    have e : j = 29 := by omega
    subst e
    refine ⟨-1, ?_, Or.inr ⟨rfl, fun i hi => hp i hi⟩⟩
    rw [fX12_inWords_14]
    exact if_pos (by decide)
  | succ d ih =>
    intro j n h hn hp
    obtain ⟨n, rfl⟩ : ∃ n', n = n' + 1 := ⟨n - 1, by omega⟩
    have hj : j < 29 := by omega
    rw [iwS hM hj]
    by_cases e : wm j = w
    · rw [if_pos e]
      exact ⟨nI j, rfl, Or.inl ⟨j, hj, rfl, e⟩⟩
    · rw [if_neg e]
      exact ih (j + 1) n (by omega) (by omega) (fun i hi => by
        by_cases q : i = j
        · rw [q]; exact e
        · exact hp i (by omega))
theorem inW {s L : Nat} {w : List Nat} {M : mz_D} (hM : wdM s L w M) (h12 : M.1 0 200 12 = 2) : ∃ r, fX12_inWords M = some r ∧ mI w r := by
  unfold fX12_inWords
  rw [if_pos h12]
  exact iwL hM 29 0 mz_N (by omega) (N_lt (by omega)) (fun i hi => by omega)
theorem inN {M : mz_D} (h12 : ¬ M.1 0 200 12 = 2) : fX12_inWords M = some (-1) := by
  unfold fX12_inWords
  rw [if_neg h12]
/-- the name that stands there -/
theorem nmH {s L : Nat} {w : List Nat} {M : mz_D} (hM : wdM s L w M) : ∀ d i n, i + d = w.length → d < n → fX12_nameHere_7 M n (c8 (w.take i)) (nI (s + i)) = some (c8 w) := by
  have h3 := hM.2.1
  have h4 := hM.2.2.1
  intro d
  induction d with
  | zero =>
    intro i n h hn
    obtain ⟨n, rfl⟩ : ∃ n', n = n' + 1 := ⟨n - 1, by omega⟩
    have e : i = w.length := by omega
    subst e
    rw [fX12_nameHere_7]
    dsimp only
    rw [hM.2.2.2.2.2.1, if_pos (Int32.le_refl _), List.take_length]
  | succ d ih =>
    intro i n h hn
    obtain ⟨n, rfl⟩ : ∃ n', n = n' + 1 := ⟨n - 1, by omega⟩
    have hi : i < w.length := by omega
    have h1 := hM.1.ix hi
    have e8 : c8 (w.take (i + 1)) = (c8 (w.take i) <<< (((8 : Int32)).toInt64 &&& 63)) ||| (nI (w.getD i 0 + 96)).toInt64 := by
      rw [List.take_succ_eq_append_getElem hi, c8_s, tl_nI (by omega), List.getD_eq_getElem?_getD, List.getElem?_eq_getElem hi]
      rfl
    rw [fX12_nameHere_7]
    dsimp only
    rw [hM.2.2.2.2.2.1, if_neg (by rw [nJ_le (by omega) (by omega)]; omega), hM.byt hi, Option.bind_some, ← e8, a1r]
    exact ih (i + 1) n (by omega) (by omega)
theorem nmM {s L : Nat} {w : List Nat} {M : mz_D} (hM : wdM s L w M) : fX12_nameHere M = some (c8 w) := by
  have h3 := hM.2.1
  have h4 := hM.2.2.1
  unfold fX12_nameHere
  rw [hM.2.2.2.2.1]
  exact nmH hM w.length 0 mz_N (by omega) (N_lt (by omega))
