/-! ===== a year, from its start ===== -/
def vK (g : Nat) (D E : mz_D) : Prop := (∀ a o j, ¬ ((a = g ∧ 100 ≤ o ∧ o < 119 ∧ o ≠ 109) ∨ (a = 0 ∧ (o = 9 ∨ o = 10 ∨ o = 11 ∨ o = 12))) → E.1 a o j = D.1 a o j) ∧ E.2 = D.2
theorem yF.n26 {m : Nat} {w a : Nat → Int32} (h : yF m w a) : a 0 ≠ 26 := by
  unfold yF at h
  rcases h with ⟨h, _⟩ | ⟨h, _⟩ | ⟨h | h, _⟩ | ⟨h, _⟩ | ⟨h, _⟩ <;> rw [h] <;> decide
theorem yT.n26 {m : Nat} {w a : Nat → Int32} (h : yT m w a) : a 0 ≠ 26 := by
  unfold yT at h
  obtain ⟨-, -, -, h⟩ := h
  rcases h with ⟨h, _⟩ | ⟨-, -, -, ⟨h, _⟩ | ⟨h, _⟩⟩ <;> rw [h] <;> decide
theorem lives0 {D : mz_D} : fX12_lives_12 mz_N 0 D = fX12_lives_32 mz_N 0 (wr D 0 213 (fun j => if j < 5 then 0 else D.1 0 213 j)) := by
  have e0 : wr D 0 213 (fun j => if j < 0 then 0 else D.1 0 213 j) = D := by
    have : (fun j => if j < 0 then 0 else D.1 0 213 j) = D.1 0 213 := by funext j; exact if_neg (by omega)
    rw [this, wr_id]
  have := lpD (fun n s k => fX12_lives_12 n k s) (fun k => wr D 0 213 (fun j => if j < k then 0 else D.1 0 213 j)) 5 (r := fX12_lives_32 mz_N 0 (wr D 0 213 (fun j => if j < 5 then 0 else D.1 0 213 j))) (fun n k hk => by
    show fX12_lives_12 (n + 1) (nI k) (wr D 0 213 (fun j => if j < k then 0 else D.1 0 213 j)) = fX12_lives_12 n (nI (k + 1)) (wr D 0 213 (fun j => if j < k + 1 then 0 else D.1 0 213 j))
    rw [fX12_lives_12]
    dsimp only
    rw [if_neg (by show ¬ nI 5 ≤ nI k; rw [nJ_le (by omega) (by omega)]; omega), nI_ix (by omega) (by omega), gd_tt, nI_cl (by omega), a1r, wr_up]
    congr 2
    funext j
    unfold up
    by_cases e : j = k
    · rw [if_pos e, if_pos (by omega)]
    · rw [if_neg e]
      dsimp only
      by_cases e2 : j < k
      · rw [if_pos e2, if_pos (by omega)]
      · rw [if_neg e2, if_neg (by omega)]) (fun n => by
    show fX12_lives_12 (n + 1) (nI 5) (wr D 0 213 (fun j => if j < 5 then 0 else D.1 0 213 j)) = _
    rw [fX12_lives_12]
    dsimp only
    rw [if_pos (by decide)]) 5 0 mz_N (by omega) (N_lt (by omega))
  have this : fX12_lives_12 mz_N 0 (wr D 0 213 (fun j => if j < 0 then 0 else D.1 0 213 j)) = _ := this
  rw [e0] at this
  exact this
theorem liveS {n g : Nat} (hg : g ≠ 0) (hn : n < 600) {D E : mz_D} {m d gs ins : Nat} (t : tR n g 0 0 D E m d gs ins) (h119 : D.1 g 119 0 = 1) {z : Nat} (hz : z < 65536) : ∃ Dc Dm v, fX3_run g (nI z) D = some Dc ∧ fX12_lives (nI z) E = some Dm ∧ vK g D Dc ∧ uN E Dm ∧ ∃ s, s ≤ 300 ∧ cR (n + 1) g (301 * n + s) v m d gs ins Dc Dm ∧ Dc.1 0 9 0 = nI s ∧ Dm.1 0 200 29 = nI s ∧ ((Dc.1 0 9 5 = 0 ∧ Dm.1 0 213 4 = 0) ∨ (Dc.1 0 9 5 = 1 ∧ Dm.1 0 213 4 = 1)) := by
  obtain ⟨N, S, c, e, enc, y9, yS1, Y⟩ : ∃ N S c e enc, E.1 0 201 (0 + 9) = nI N ∧ D.1 g 119 1 = nI S ∧ yB m N S (fun o k => D.1 g o k) (fun k i => E.1 0 201 (0 + 130 + 6 * k + i)) c e enc := by
    rcases t.year with ⟨y1, -⟩ | ⟨-, y2⟩
    · rw [h119] at y1; exact absurd y1 one_ne
    · exact y2
  have hN := Y.hN
  obtain ⟨D9, e9⟩ : ∃ D9, D9 = mz_wi (mz_wi (mz_wi (mz_wi (mz_wi (mz_wi (mz_wi (mz_wi (mz_wi D 0 9 7 (nI z)) 0 9 0 (0 : Int32)) 0 9 1 (0 : Int32)) 0 9 2 (0 : Int32)) 0 9 3 (0 : Int32)) 0 9 4 (0 : Int32)) 0 9 8 (0 : Int32)) 0 9 5 (0 : Int32)) 0 9 6 (0 : Int32) := ⟨_, rfl⟩
  have k9 : ∀ a o j, ¬ (a = 0 ∧ o = 9) → D9.1 a o j = D.1 a o j := fun a o j h => by
    rw [e9, wi_n (by omega), wi_n (by omega), wi_n (by omega), wi_n (by omega), wi_n (by omega), wi_n (by omega), wi_n (by omega), wi_n (by omega), wi_n (by omega)]
  have l9 : D9.2 = D.2 := by rw [e9]; rfl
  have v7 : D9.1 0 9 7 = nI z := by rw [e9]; simp (disch := omega) only [wi_s, wi_n]
  have v0 : D9.1 0 9 0 = 0 := by rw [e9]; simp (disch := omega) only [wi_s, wi_n]
  have v1 : D9.1 0 9 1 = 0 := by rw [e9]; simp (disch := omega) only [wi_s, wi_n]
  have v2 : D9.1 0 9 2 = 0 := by rw [e9]; simp (disch := omega) only [wi_s, wi_n]
  have v3 : D9.1 0 9 3 = 0 := by rw [e9]; simp (disch := omega) only [wi_s, wi_n]
  have v4 : D9.1 0 9 4 = 0 := by rw [e9]; simp (disch := omega) only [wi_s, wi_n]
  have v8 : D9.1 0 9 8 = 0 := by rw [e9]; simp (disch := omega) only [wi_s, wi_n]
  have v5 : D9.1 0 9 5 = 0 := by rw [e9]; simp (disch := omega) only [wi_s, wi_n]
  have v6 : D9.1 0 9 6 = 0 := by rw [e9]; simp (disch := omega) only [wi_s]
  have t9 : tR n g 0 0 D9 E m d gs ins := t.congr (fun o j hq => ⟨k9 _ _ _ (by unfold tq at hq; omega), by rw [l9]⟩) (fun _ _ => rfl) (fun _ _ => rfl)
  obtain ⟨f, hf, ef⟩ := dues_12 hg t9.c t9.total t9.split_b
  have C0 : fX3_run g (nI z) D = fX3_run_38 g mz_N 0 0 (wr D9 0 12 f) := by
    unfold fX3_run
    rw [← e9, ← k9 g 109 1 (by omega), ef, Option.bind_some]
  obtain ⟨E0, h0⟩ : ∃ E0, E0 = wr (mz_wi (mz_wi E 0 200 28 (nI z)) 0 200 29 (0 : Int32)) 0 213 (fun j => if j < 5 then 0 else (mz_wi (mz_wi E 0 200 28 (nI z)) 0 200 29 (0 : Int32)).1 0 213 j) := ⟨_, rfl⟩
  have M0 : fX12_lives (nI z) E = fX12_lives_32 mz_N 0 E0 := by
    unfold fX12_lives
    rw [lives0, ← h0]
  have kE : ∀ a o j, ¬ (a = 0 ∧ (o = 200 ∨ o = 213)) → E0.1 a o j = E.1 a o j := fun a o j h => by
    rw [h0, wr_n (by omega), wi_n (by omega), wi_n (by omega)]
  have lE : E0.2 = E.2 := by rw [h0]; rfl
  have u213 : ∀ j, j < 5 → E0.1 0 213 j = 0 := fun j hj => by rw [h0, wr_s]; exact if_pos hj
  have u28 : E0.1 0 200 28 = nI z := by rw [h0, wr_n (Or.inl (by decide)), wi_n (by omega), wi_s]
  have u29 : E0.1 0 200 29 = 0 := by rw [h0, wr_n (Or.inl (by decide)), wi_s]
  have uE : uN E E0 := ⟨fun a o j hn => by
    by_cases q : a = 0 ∧ o = 200
    · obtain ⟨rfl, rfl⟩ := q
      rw [h0, wr_n (Or.inl (by decide)), wi_n (by omega), wi_n (by omega)]
    · exact kE a o j (by omega), lE⟩
  have tt : tR (n + 1) g 0 0 (wr D9 0 12 f) E0 m d gs ins := ((t9.wrC (by decide) f).congr (fun _ _ _ => ⟨rfl, rfl⟩) (fun j _ => kE _ _ _ (by omega)) (fun p _ => by rw [lE])).mono (Nat.le_succ n)
  have w12 : ∀ a o j, o ≠ 12 → (wr D9 0 12 f).1 a o j = D9.1 a o j := fun a o j h => wr_n (Or.inl h)
  have cr : cR (n + 1) g (301 * n + 0) (sDue g (wr D9 0 12 f) m d gs ((wr D9 0 12 f).1 g 109 1)) m d gs ins (wr D9 0 12 f) E0 := by
    refine ⟨tt, fun p hp => ?_, fun i hi => ?_, rfl, ⟨?_, ?_, ?_, ?_⟩, z, hz, ?_, u28⟩
    · rw [w12 _ _ _ (by decide)]
      have := (t9.paid p hp).2
      unfold bd at this ⊢
      omega
    · rw [wr_s, hf i hi, sDue_wr hg, w12 _ _ _ (by decide)]
    · rw [w12 _ _ _ (by decide), u213 _ (by omega), v1]
    · rw [w12 _ _ _ (by decide), u213 _ (by omega), v2]
    · rw [w12 _ _ _ (by decide), u213 _ (by omega), v3]
    · rw [w12 _ _ _ (by decide), u213 _ (by omega), v4]
    · rw [w12 _ _ _ (by decide), v7]
  have ys : yS g N S (fun o k => D.1 g o k) (fun k i => E.1 0 201 (0 + 130 + 6 * k + i)) (wr D9 0 12 f) E0 := by
    refine ⟨?_, ?_, fun o j h1 h2 => ?_, fun k i hk hi => ?_⟩
    · rw [w12 _ _ _ (by decide), k9 _ _ _ (by omega)]; exact yS1
    · rw [kE _ _ _ (by omega)]; exact y9
    · rw [w12 _ _ _ (by omega), k9 _ _ _ (by omega)]
    · rw [kE _ _ _ (by omega)]
  have ps : pS (n + 1) g (301 * n) (sDue g (wr D9 0 12 f) m d gs ((wr D9 0 12 f).1 g 109 1)) m d gs ins N S (fun o k => D.1 g o k) (fun k i => E.1 0 201 (0 + 130 + 6 * k + i)) c 0 (enc 0) [] (wr D9 0 12 f) E0 := by
    rw [Y.e0]
    refine ⟨cr, ys, ⟨?_, ?_, trivial⟩, ?_, u29, ?_, u213 4 (by omega)⟩
    · rw [w12 _ _ _ (by decide)]; exact v8
    · rw [w12 _ _ _ (by decide)]; exact v6
    · rw [w12 _ _ _ (by decide)]; exact v0
    · rw [w12 _ _ _ (by decide)]; exact v5
  have st : 0 = N ∨ (fun k i => E.1 0 201 (0 + 130 + 6 * k + i)) 0 0 ≠ 26 := by
    by_cases e : 0 = N
    · exact Or.inl e
    · refine Or.inr ?_
      rcases Y.row 0 (by omega) with ⟨-, -, h3⟩ | ⟨-, -, h3, -⟩ | ⟨-, -, h3, -⟩ | ⟨-, -, o, h3, -⟩
      · exact h3.n26
      · dsimp only; rw [h3]; decide
      · exact h3.n26
      · omega
  have bN : 200000 < mz_N := N_lt (by omega)
  obtain ⟨Dc, Dm, r1, r2, s, a1, a2, a3, a4, a5, a6, a7⟩ := runS hg (n := n + 1) (B := 301 * n) (by omega) (by omega) Y 300 0 rfl 0 [] (wr D9 0 12 f) E0 mz_N mz_N 0 (by omega) st ps (by show 0 + 0 ≤ 100 * 0; omega) (by omega) (by omega)
  rw [Y.c0] at r1
  refine ⟨Dc, Dm, _, by rw [C0]; exact r1, by rw [M0]; exact r2, ?_, uE.tr a7, s, a1, a2, a3, a4, a5⟩
  refine ⟨fun a o j hn => ?_, ?_⟩
  · rw [a6.1 a o j (by omega), wr_n (by omega), k9 a o j (by omega)]
  · rw [a6.2]
    exact l9
