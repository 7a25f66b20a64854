/-! ===== a year: the steps ===== -/
theorem bo01 {r : Int32} (h : r = 0 ∨ r = 1) : mz_bo r = true := by rcases h with rfl | rfl <;> rfl
theorem par_n {j : Nat} (h : j < 1000) : nI j - nI j / (2 : Int32) * (2 : Int32) = 0 ↔ j % 2 = 0 := by
  have : nI j - nI j / (2 : Int32) * (2 : Int32) = nI (j % 2) := by
    show nI j - nI j / nI 2 * nI 2 = _
    rw [n_div (by omega) (by omega), nI_mul, n_sub (Nat.div_mul_le_self _ _), Nat.mod_eq_sub_div_mul]
  rw [this]
  exact ol_eqi (c := 0) (by omega) (by omega)
theorem stp_mk {n g B : Nat} {v : Nat → Int32} {m d gs ins : Nat} {Dc Dm Dc' Dm' : mz_D} {r : Int32} (hg : g ≠ 0) (h : cR n g B v m d gs ins Dc Dm) (hr : r = 0 ∨ r = 1) (f1 : fC g Dc Dc') (f2 : fM Dm Dm') (t : tR n g 0 0 Dc' Dm' m d gs ins) (h8 : ∀ p, Dc'.1 g 108 p = Dc.1 g 108 p) (k0 : Dm'.1 0 213 0 = Dm.1 0 213 0) (q1 : Dc'.1 0 9 1 = Dc.1 0 9 1 + if r = 0 then 1 else 0) (q2 : Dm'.1 0 213 1 = Dc'.1 0 9 2) (q3 : Dm'.1 0 213 2 = Dc'.1 0 9 3) (q4 : Dm'.1 0 213 3 = Dc'.1 0 9 4) (z1 : Dc'.1 0 9 7 = Dc.1 0 9 7) (z2 : Dm'.1 0 200 28 = Dm.1 0 200 28) : stp n g B v m d gs ins Dc Dm Dc' (r, Dm') := by
  refine ⟨hr, f1, f2, k0, ?_⟩
  obtain ⟨-, h2, h3, h4, ⟨k0', -⟩, z, hz, s1, s2⟩ := id h
  refine h.up hg f1 (t.wiM (by decide) _ _) (fun p hp => by rw [h8]; exact bd_up (h2 p hp)) ⟨?_, ?_, ?_, ?_⟩ ⟨z, hz, by rw [z1, s1], by rw [wi_n (by omega), z2, s2]⟩
  · rw [wi_s, q1, k0']
  · rw [wi_n (by omega)]; exact q2
  · rw [wi_n (by omega)]; exact q3
  · rw [wi_n (by omega)]; exact q4
/-- a draw that is counted -/
theorem cR.dr3 {n g B : Nat} {v : Nat → Int32} {m d gs ins : Nat} {Dc Dm : mz_D} (hg : g ≠ 0) (h : cR n g B v m d gs ins Dc Dm) (z : Nat) : cR n g B v m d gs ins (mz_wi (mz_wi Dc 0 9 3 (Dc.1 0 9 3 + 1)) 0 9 7 (nI (nxt z))) (mz_wi (mz_wi Dm 0 200 28 (nI (nxt z))) 0 213 2 (Dm.1 0 213 2 + 1)) := by
  obtain ⟨t, h2, h3, h4, ⟨k0, k1, k2, k3⟩, _⟩ := id h
  refine h.up hg ((fC_wi (by omega)).tr (fC_wi (by omega))) ((((t.wiC (by decide) _ _).wiC (by decide) _ _).wiM (by decide) _ _).wiM (by decide) _ _) (fun i hi => by rw [wi_n (by omega), wi_n (by omega)]; exact h2 i hi) ⟨?_, ?_, ?_, ?_⟩ ⟨nxt z, nxt_lt z, wi_s _ _ _ _ _, by rw [wi_n (by omega), wi_s]⟩
  · rw [wi_n (by omega), wi_n (by omega), wi_n (by omega), wi_n (by omega)]; exact k0
  · rw [wi_n (by omega), wi_n (by omega), wi_n (by omega), wi_n (by omega)]; exact k1
  · rw [wi_s, wi_n (by omega), wi_s, k2]
  · rw [wi_n (by omega), wi_n (by omega), wi_n (by omega), wi_n (by omega)]; exact k3
theorem duelS {n g B : Nat} {v : Nat → Int32} {m d gs ins : Nat} (hg : g ≠ 0) (hB : B + 1 ≤ 301 * n) (hn : n ≤ 601) {p q : Nat} (hp : p < m) (hq : q < m) : ∀ (k j n1 n2 : Nat) (Dc Dm : mz_D), j + k = 20 → k < n1 → k < n2 → cR n g B v m d gs ins Dc Dm → ∃ w Dc' r, fX3_winner_9 g n1 (nI (if j % 2 = 0 then p else q)) (nI (if j % 2 = 0 then q else p)) (nI j) Dc = some w ∧ fX3_dine g w.1 w.2 = some Dc' ∧ fX12_duels_2 n2 (nI p) (nI q) (nI j) Dm = some r ∧ stp n g B v m d gs ins Dc Dm Dc' r := by
  have fin : ∀ (j : Nat) (Dc Dm : mz_D), j ≤ 20 → cR n g B v m d gs ins Dc Dm → ∃ Dc' r, fX3_dine g (nI (if j % 2 = 0 then q else p)) Dc = some Dc' ∧ fX12_duels_55 (nI p) (nI q) (nI j) Dm = some r ∧ stp n g B v m d gs ins Dc Dm Dc' r := by
    intro j Dc Dm hj h
    by_cases e : j % 2 = 0
    · obtain ⟨Dc', r, a1, a2, a3⟩ := dineS hg h hB hn hq
      refine ⟨Dc', r, by rw [if_pos e]; exact a1, ?_, a3⟩
      unfold fX12_duels_55 fX12_duels_67
      rw [if_pos ((par_n (by omega)).mpr e), a2, Option.bind_some, bo01 a3.1, gd_tt]
    · obtain ⟨Dc', r, a1, a2, a3⟩ := dineS hg h hB hn hp
      refine ⟨Dc', r, by rw [if_neg e]; exact a1, ?_, a3⟩
      unfold fX12_duels_55 fX12_duels_67
      rw [if_neg (fun x => e ((par_n (by omega)).mp x)), a2, Option.bind_some, bo01 a3.1, gd_tt]
  intro k
  induction k with
  | zero =>
    intro j n1 n2 Dc Dm hj h1 h2 h
    obtain ⟨n1, rfl⟩ : ∃ n', n1 = n' + 1 := ⟨n1 - 1, by omega⟩
    obtain ⟨n2, rfl⟩ : ∃ n', n2 = n' + 1 := ⟨n2 - 1, by omega⟩
    obtain ⟨Dc', r, a1, a2, a3⟩ := fin j Dc Dm (by omega) h
    have e20 : (20 : Int32) ≤ nI j := by show nI 20 ≤ nI j; rw [nJ_le (by omega) (by omega)]; omega
    refine ⟨(nI (if j % 2 = 0 then q else p), Dc), Dc', r, ?_, ?_, ?_, a3⟩
    · rw [fX3_winner_9]
      dsimp only
      rw [if_pos e20]
    · exact a1
    · rw [fX12_duels_2]
      dsimp only
      rw [if_pos e20, a2]
  | succ k ih =>
    intro j n1 n2 Dc Dm hj h1 h2 h
    obtain ⟨n1, rfl⟩ : ∃ n', n1 = n' + 1 := ⟨n1 - 1, by omega⟩
    obtain ⟨n2, rfl⟩ : ∃ n', n2 = n' + 1 := ⟨n2 - 1, by omega⟩
    have e20 : ¬ (20 : Int32) ≤ nI j := by show ¬ nI 20 ≤ nI j; rw [nJ_le (by omega) (by omega)]; omega
    obtain ⟨t, -, -, -, -, z, hz, s1, s2⟩ := id h
    have hm := t.hm
    have h' := h.dr3 hg z
    have fc : fC g Dc (mz_wi (mz_wi Dc 0 9 3 (Dc.1 0 9 3 + 1)) 0 9 7 (nI (nxt z))) := (fC_wi (by omega)).tr (fC_wi (by omega))
    have fm : fM Dm (mz_wi (mz_wi Dm 0 200 28 (nI (nxt z))) 0 213 2 (Dm.1 0 213 2 + 1)) := (fM_wi (by omega)).tr (fM_wi (by omega))
    have f0 : (mz_wi (mz_wi Dm 0 200 28 (nI (nxt z))) 0 213 2 (Dm.1 0 213 2 + 1)).1 0 213 0 = Dm.1 0 213 0 := by rw [wi_n (by omega), wi_n (by omega)]
    have dC : fX3_draw 16 (mz_wi Dc 0 9 3 (Dc.1 0 9 3 + 1)) = some (nI (nxt z / 8 % 16), mz_wi (mz_wi Dc 0 9 3 (Dc.1 0 9 3 + 1)) 0 9 7 (nI (nxt z))) := drawC (by rw [wi_n (by omega)]; exact s1) hz (k := 16) (by omega) (by omega)
    have dM : fX12_draw 16 Dm = some (nI (nxt z / 8 % 16), mz_wi Dm 0 200 28 (nI (nxt z))) := drawM s2 hz (k := 16) (by omega) (by omega)
    have g3 : ∀ a, (mz_wi (mz_wi Dc 0 9 3 (Dc.1 0 9 3 + 1)) 0 9 7 (nI (nxt z))).1 g 103 a = Dc.1 g 103 a := fun a => by rw [wi_n (by omega), wi_n (by omega)]
    have m3 : (mz_wi Dm 0 200 28 (nI (nxt z))).1 0 213 2 = Dm.1 0 213 2 := wi_n (by omega)
    generalize hx : nxt z / 8 % 16 = x at dC dM
    obtain ⟨a, ha, ea⟩ : ∃ a, a < m ∧ a = if j % 2 = 0 then p else q := by by_cases e : j % 2 = 0; exact ⟨p, hp, by rw [if_pos e]⟩; exact ⟨q, hq, by rw [if_neg e]⟩
    have hin : fX12_insists (nI a) (mz_wi (mz_wi Dm 0 200 28 (nI (nxt z))) 0 213 2 (Dm.1 0 213 2 + 1)) = some (Dc.1 g 103 a) := by rw [h'.1.insM ha, g3]
    have M1 : fX12_duels_2 (n2 + 1) (nI p) (nI q) (nI j) Dm = if nI x < Dc.1 g 103 a then fX12_duels_2 n2 (nI p) (nI q) (nI (j + 1)) (mz_wi (mz_wi Dm 0 200 28 (nI (nxt z))) 0 213 2 (Dm.1 0 213 2 + 1)) else fX12_duels_55 (nI p) (nI q) (nI j) (mz_wi (mz_wi Dm 0 200 28 (nI (nxt z))) 0 213 2 (Dm.1 0 213 2 + 1)) := by
      rw [fX12_duels_2]
      dsimp only
      rw [if_neg e20, dM, Option.bind_some]
      dsimp only
      rw [z2, m3]
      unfold fX12_duels_40
      by_cases e : j % 2 = 0
      · rw [if_pos e] at ea
        subst ea
        rw [if_pos ((par_n (by omega)).mpr e), hin, Option.bind_some, a1r]
      · rw [if_neg e] at ea
        subst ea
        rw [if_neg (fun x => e ((par_n (by omega)).mp x)), hin, Option.bind_some, a1r]
    by_cases hw : nI x < Dc.1 g 103 a
    · obtain ⟨w, Dc', r, i1, i2, i3, i4⟩ := ih (j + 1) n1 n2 _ _ (by omega) (by omega) (by omega) h'
      refine ⟨w, Dc', r, ?_, i2, by rw [M1, if_pos hw]; exact i3, i4.pre fc fm f0⟩
      rw [fX3_winner_9]
      dsimp only
      rw [if_neg e20, dC, Option.bind_some, ← ea, nI_ix (by omega) (by omega), gd_tt, nI_cl (by omega)]
      dsimp only
      rw [g3, if_pos hw, a1r, ← i1, ea]
      by_cases e : j % 2 = 0
      · rw [if_pos e, if_pos e, if_neg (by omega), if_neg (by omega)]
      · rw [if_neg e, if_neg e, if_pos (by omega), if_pos (by omega)]
    · obtain ⟨Dc', r, i1, i2, i3⟩ := fin j _ _ (by omega) h'
      refine ⟨(nI (if j % 2 = 0 then q else p), mz_wi (mz_wi Dc 0 9 3 (Dc.1 0 9 3 + 1)) 0 9 7 (nI (nxt z))), Dc', r, ?_, i1, by rw [M1, if_neg hw]; exact i2, i3.pre fc fm f0⟩
      rw [fX3_winner_9]
      dsimp only
      rw [if_neg e20, dC, Option.bind_some, ← ea, nI_ix (by omega) (by omega), gd_tt, nI_cl (by omega)]
      dsimp only
      rw [g3, if_neg hw]
