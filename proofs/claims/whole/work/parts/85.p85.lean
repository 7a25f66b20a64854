/-! ===== a year: a row ===== -/
theorem stepF {n g B : Nat} {v : Nat → Int32} {m d gs ins : Nat} {Dc Dm : mz_D} (hg : g ≠ 0) (h : cR n g B v m d gs ins Dc Dm) (hB : B + 1 ≤ 301 * n) (hn : n ≤ 601) {k X : Nat} (hk : k < 30) (hX : X < 2900) {a : Nat → Int32} (ha : ∀ i, i < 6 → Dm.1 0 201 (X + i) = a i) (y : yF m (fun o => Dc.1 g o k) a) (h27 : a 0 ≠ 27) : ∃ Dc' r, fX3_comeTo g (nI k) Dc = some (nI (k + 1), Dc') ∧ fX12_does (nI X) Dm = some r ∧ stp n g B v m d gs ins Dc Dm Dc' r := by
  have a0 : Dm.1 0 201 X = a 0 := ha 0 (by omega)
  have a1 := ha 1 (by omega)
  have a2 := ha 2 (by omega)
  have a3 := ha 3 (by omega)
  have hm := h.1.hm
  unfold yF at y
  dsimp only at y
  rcases y with ⟨e0, w0, w2, hw⟩ | ⟨e0, w0, w2, w3, p, q, hp, hq, hne, e1, e2⟩ | ⟨e0, w0, w2, w3, w5, hb, p, q, hp, hq, hne, e1, e2⟩ | ⟨e0, w0⟩ | ⟨e0, w0⟩
  · rcases hw with e1 | ⟨p, hp, e1⟩
    · obtain ⟨w, Dc', r, s1, s2, s3, s4⟩ := quickS hg h hB hn
      refine ⟨Dc', r, ?_, ?_, s4⟩
      · unfold fX3_comeTo fX3_comeTo_101
        rw [nI_ix (by omega) (by omega), gd_tt, nI_cl (by omega), w0, if_pos rfl, w2, e1, if_pos rfl, s1, Option.bind_some, s2, Option.bind_some, a1r]
      · unfold fX12_does
        simp (disch := omega) only [a1r, a2r, a3r, nI_ix, gd_tt, nI_cl]
        rw [a0, a1, e0, e1, if_pos rfl, if_pos rfl, s3, Option.bind_some, bo01 s4.1, gd_tt]
    · obtain ⟨Dc', r, s2, s3, s4⟩ := dineS hg h hB hn hp
      have hne : ¬ nI p = -1 := fun e => (nI_ne1 (by omega)).mp e
      refine ⟨Dc', r, ?_, ?_, s4⟩
      · unfold fX3_comeTo fX3_comeTo_101
        rw [nI_ix (by omega) (by omega), gd_tt, nI_cl (by omega), w0, if_pos rfl, w2, e1, if_neg hne, s2, Option.bind_some, a1r]
      · unfold fX12_does
        simp (disch := omega) only [a1r, a2r, a3r, nI_ix, gd_tt, nI_cl]
        rw [a0, a1, e0, e1, if_pos rfl, if_neg hne, s3, Option.bind_some, bo01 s4.1, gd_tt]
  · obtain ⟨w, Dc', r, s1, s2, s3, s4⟩ := duelS hg hB hn hp hq 20 0 mz_N mz_N Dc Dm rfl (N_lt (by omega)) (N_lt (by omega)) h
    have s1 : fX3_winner_9 g mz_N (nI p) (nI q) 0 Dc = some w := s1
    have s3 : fX12_duels_2 mz_N (nI p) (nI q) 0 Dm = some r := s3
    refine ⟨Dc', r, ?_, ?_, s4⟩
    · unfold fX3_comeTo fX3_winner
      rw [nI_ix (by omega) (by omega), gd_tt, nI_cl (by omega), w0, if_neg (by decide), if_pos rfl, w2, w3, e1, e2, s1, Option.bind_some, s2, Option.bind_some, a1r]
    · unfold fX12_does fX12_duels
      simp (disch := omega) only [a1r, a2r, a3r, nI_ix, gd_tt, nI_cl]
      rw [a0, a1, a2, e0, e1, e2, if_neg (by decide), if_pos rfl, s3, Option.bind_some, bo01 s4.1, gd_tt]
  · rcases e0 with e0 | e0
    · obtain ⟨w, Dc', r, s1, s2, s3, s4⟩ := lendS hg h hp hq hb
      refine ⟨Dc', r, ?_, ?_, s4⟩
      · unfold fX3_comeTo
        rw [nI_ix (by omega) (by omega), gd_tt, nI_cl (by omega), w0, e0, if_neg (by decide), if_neg (by decide), if_pos rfl, w2, w3, w5, e1, e2, s1, Option.bind_some, s2, Option.bind_some, a1r]
      · unfold fX12_does
        simp (disch := omega) only [a1r, a2r, a3r, nI_ix, gd_tt, nI_cl]
        rw [a0, a1, a2, a3, e0, e1, e2, if_neg (by decide), if_neg (by decide), if_pos rfl, s3, Option.bind_some, bo01 s4.1, gd_tt]
    · obtain ⟨Dc', Dm', s1, s3, s4⟩ := giftS hg h hp hq hb
      refine ⟨Dc', _, ?_, ?_, s4⟩
      · unfold fX3_comeTo
        rw [nI_ix (by omega) (by omega), gd_tt, nI_cl (by omega), w0, e0, if_neg (by decide), if_neg (by decide), if_neg (by decide), if_pos rfl, w2, w3, w5, e1, e2, s1, Option.bind_some, a1r]
      · unfold fX12_does
        simp (disch := omega) only [a1r, a2r, a3r, nI_ix, gd_tt, nI_cl]
        rw [a0, a1, a2, a3, e0, e1, e2, if_neg (by decide), if_neg (by decide), if_neg (by decide), if_pos rfl, s3, Option.bind_some]
  · obtain ⟨Dc', r, s1, s3, s4⟩ := drinkS hg h
    refine ⟨Dc', r, ?_, ?_, s4⟩
    · unfold fX3_comeTo
      rw [nI_ix (by omega) (by omega), gd_tt, nI_cl (by omega), w0, if_neg (by decide), if_neg (by decide), if_neg (by decide), if_neg (by decide), if_pos rfl, s1, Option.bind_some, a1r]
    · unfold fX12_does
      simp (disch := omega) only [a1r, a2r, a3r, nI_ix, gd_tt, nI_cl]
      rw [a0, e0, if_neg (by decide), if_neg (by decide), if_neg (by decide), if_neg (by decide), if_pos rfl, s3]
  · exact absurd e0 h27
/-- a row that does nothing -/
theorem does0 {Dm : mz_D} {X : Nat} (hX : X < 2900) (h : Dm.1 0 201 X ≠ 17 ∧ Dm.1 0 201 X ≠ 18 ∧ Dm.1 0 201 X ≠ 19 ∧ Dm.1 0 201 X ≠ 20 ∧ Dm.1 0 201 X ≠ 21) : fX12_does (nI X) Dm = some (1, Dm) := by
  obtain ⟨h1, h2, h3, h4, h5⟩ := h
  unfold fX12_does
  simp (disch := omega) only [a1r, a2r, a3r, nI_ix, gd_tt, nI_cl]
  rw [if_neg h1, if_neg h2, if_neg h3, if_neg h4, if_neg h5]
/-- a test -/
theorem holdsS {n g : Nat} {m d gs ins : Nat} {Dc Dm : mz_D} (t : tR n g 0 0 Dc Dm m d gs ins) {k X : Nat} (hk : k < 30) (hX : X < 2900) {a : Nat → Int32} (ha : ∀ i, i < 6 → Dm.1 0 201 (X + i) = a i) (y : yT m (fun o => Dc.1 g o k) a) : ∃ b : Int32, fX3_holds g (nI k) Dc = some b ∧ fX12_holds (nI X) Dm = some b := by
  have a0 : Dm.1 0 201 X = a 0 := ha 0 (by omega)
  have a1 := ha 1 (by omega)
  have a2 := ha 2 (by omega)
  have a3 := ha 3 (by omega)
  have a5 := ha 5 (by omega)
  have hm := t.hm
  unfold yT at y
  dsimp only at y
  obtain ⟨w0, w2, ⟨p, hp, e1⟩, y⟩ := y
  have cmp : ∀ s : Int32, Dc.1 g 124 k = a 5 → Dc.1 g 125 k = a 3 → ∃ b : Int32, fX3_holds_94 g Dc (nI k) s = some b ∧ fX12_holds_83 Dm (nI X) s = some b := by
    intro s w4 w5
    unfold fX3_holds_94 fX12_holds_83
    simp (disch := omega) only [a3r, a5r, nI_ix, gd_tt, nI_cl]
    rw [w4, w5, a3, a5]
    by_cases c1 : a 5 = 60
    · rw [if_pos c1]
      by_cases c2 : a 3 ≤ s
      · exact ⟨0, by rw [if_pos c2], by rw [if_pos c2]⟩
      · exact ⟨1, by rw [if_neg c2], by rw [if_neg c2]⟩
    · rw [if_neg c1]
      by_cases c3 : a 5 = 62
      · rw [if_pos c3]
        by_cases c2 : s ≤ a 3
        · exact ⟨0, by rw [if_pos c2], by rw [if_pos c2]⟩
        · exact ⟨1, by rw [if_neg c2], by rw [if_neg c2]⟩
      · rw [if_neg c3]
        by_cases c2 : s = a 3
        · exact ⟨1, by rw [if_pos c2], by rw [if_pos c2]⟩
        · exact ⟨0, by rw [if_neg c2], by rw [if_neg c2]⟩
  rcases y with ⟨e0, w1⟩ | ⟨w4, w5, -, ⟨e0, w1⟩ | ⟨e0, w1, w3, q, hq, e2⟩⟩
  · refine ⟨if enc (trn g Dc m gs (Dc.1 g 100 5)) = nI p then 1 else 0, ?_, ?_⟩
    · unfold fX3_holds
      rw [nI_ix (by omega) (by omega), gd_tt, nI_cl (by omega), w1, if_pos rfl, t.nextC, Option.bind_some, w2, e1]
      by_cases c : enc (trn g Dc m gs (Dc.1 g 100 5)) = nI p
      · rw [if_pos c, if_pos c]
      · rw [if_neg c, if_neg c]
    · unfold fX12_holds
      simp (disch := omega) only [a1r, nI_ix, gd_tt, nI_cl]
      rw [a0, a1, e0, e1, if_pos (by decide), z4, t.uLaw, t.nextM t.law_b, Option.bind_some]
      by_cases c : enc (trn g Dc m gs (Dc.1 g 100 5)) = nI p
      · rw [if_pos c, if_pos c]
      · rw [if_neg c, if_neg c]
  · obtain ⟨b, b1, b2⟩ := cmp (Dc.1 g 108 p) w4 w5
    refine ⟨b, ?_, ?_⟩
    · unfold fX3_holds fX3_holds_59
      rw [nI_ix (by omega) (by omega), gd_tt, nI_cl (by omega), w1, if_neg (by decide), if_pos rfl, w2, e1, if_neg one_ne, nI_ix (by omega) (by omega), gd_tt, nI_cl (by omega)]
      exact b1
    · unfold fX12_holds
      simp (disch := omega) only [a1r, nI_ix, gd_tt, nI_cl]
      rw [a0, a1, e0, e1, if_neg (by decide), if_pos (by decide)]
      simp (disch := omega) only [l8m, a12l, a5r, nI_ix, gd_tt, nI_cl, t.uPaid hp]
      exact b2
  · obtain ⟨b, b1, b2⟩ := cmp (Dc.1 g 114 (p * 6 + q)) w4 w5
    refine ⟨b, ?_, ?_⟩
    · unfold fX3_holds fX3_holds_59 fX2_get
      rw [nI_ix (by omega) (by omega), gd_tt, nI_cl (by omega), w1, if_neg (by decide), if_neg (by decide), w2, e1, if_pos rfl, gd_tt, w3, e2]
      simp (disch := omega) only [r6m, nI_add, nI_ix, gd_tt, nI_cl, Option.bind_some]
      exact b1
    · unfold fX12_holds
      simp (disch := omega) only [a1r, a2r, nI_ix, gd_tt, nI_cl]
      rw [a0, a1, a2, e0, e1, e2, if_neg (by decide), if_neg (by decide)]
      simp (disch := omega) only [l6m, a92l, nI_add, nI_ix, gd_tt, nI_cl, t.uDebt (show p < 6 by omega) (show q < 6 by omega)]
      exact b2
