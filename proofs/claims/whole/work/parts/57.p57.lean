/-! ===== odds of three, who is easy on whom ===== -/
theorem wrs_d : ∀ a, a < 17 → ∀ b, b < 17 → ∀ c, c < 17 → (fX11_isWorse (nI a) (nI b) (nI c) = 0 ↔ (nI a * ((16 : Int32) - nI c)) * ((256 : Int32) - nI a * nI b) ≤ (nI a * ((16 : Int32) - nI b)) * ((256 : Int32) - nI a * nI c)) := by decide +kernel
theorem nev_e (a b : Int32) : fX11_neverEnds a b = if a = 16 ∧ b = 16 then 1 else 0 := by
  unfold fX11_neverEnds
  by_cases h1 : a = 16
  · by_cases h2 : b = 16 <;> simp [h1, h2]
  · simp [h1]
theorem tR.endM {n g : Nat} {Dc Dm : mz_D} {m d gs ins : Nat} (h : tR n g 0 0 Dc Dm m d gs ins) {p q : Nat} (hp : p < m) (hq : q < m) : fX12_isEndless (nI p) (nI q) Dm = some (if Dc.1 g 103 p = 16 ∧ Dc.1 g 103 q = 16 then 1 else 0) := by
  unfold fX12_isEndless
  simp only [h.insM hp, h.insM hq, Option.bind_some]
  by_cases h1 : Dc.1 g 103 p = 16
  · by_cases h2 : Dc.1 g 103 q = 16 <;> simp [h1, h2]
  · simp [h1]
theorem p_op33 : op_33 Inv := by
  intro n D x1 h
  obtain ⟨m, d, gs, ins, t⟩ := iR.t h
  have hm := t.hm
  rcases has_or t.hm t.many_c t.many_m x1 with ⟨c1, c2⟩ | ⟨p, hp, rfl, c1, c2⟩
  · exact q_look h (r := -1) (v := 1) (by unfold fX11_easyOn; rw [if_pos c1]) (fun E he => by unfold fX12_easyOn; rw [if_pos (by rw [has_m he]; exact c2)])
  · obtain ⟨C, hC⟩ : ∃ C : Nat → Bool, C = fun k => !decide (k = p) && !decide (D.1 1 103 p = 16 ∧ D.1 1 103 k = 16) := ⟨_, rfl⟩
    obtain ⟨gt, hgt⟩ : ∃ gt : Nat → Nat → Bool, gt = fun k j => !decide (fX11_isWorse (D.1 1 103 p) (D.1 1 103 k) (D.1 1 103 j) = 0) := ⟨_, rfl⟩
    have hin := amx_in (C := C) (gt := gt) m
    have one0 : ¬ (1 : Int32) = 0 := one_ne
    refine q_look h (r := enc (amx C gt m)) (v := sv (amx C gt m)) ?_ (fun E he => ?_)
    · unfold fX11_easyOn
      rw [if_neg (by rw [c1]; exact one_ne), nI_ix (by omega) (by omega), gd_tt, nI_cl (by omega)]
      refine (lpA (fun n s k => fX11_easyOn_35 n (nI p) (D.1 1 103 p) s k D) enc C gt m (fun b => fX11_answerIfAny (enc b) D) ?_ ?_ mz_N (N_lt (by omega))).trans (ans_c hin (by omega) D)
      · intro n b k hk hb
        show fX11_easyOn_35 (n + 1) _ _ _ (nI k) D = _
        rw [fX11_easyOn_35]
        unfold fX11_easyOn_93
        simp (disch := omega) only [t.many_c, nJ_le, nI_ix, gd_tt, nI_cl, nJ_eq, nev_e, a1r]
        rw [if_neg (by omega)]
        by_cases e1 : k = p
        · rw [if_pos e1]
          have : C k = false := by rw [hC]; simp [e1]
          cases b <;> simp [amS, this]
        · rw [if_neg e1]
          by_cases e2 : D.1 1 103 p = 16 ∧ D.1 1 103 k = 16
          · have : C k = false := by rw [hC]; simp [e2]
            rw [if_pos e2, if_neg one_ne]
            cases b <;> simp [amS, this]
          · have hCk : C k = true := by
              rw [hC]
              simp only [Bool.and_eq_true, Bool.not_eq_true', decide_eq_false_iff_not]
              exact ⟨e1, e2⟩
            rw [if_neg e2, if_pos rfl]
            cases b with
            | none => simp [enc, amS, hCk]
            | some j =>
              have hj := hb j rfl
              rw [if_neg (fun e => by have := (enc_ne hb (by omega)).mp e; cases this)]
              simp (disch := omega) only [enc, nI_ix, gd_tt, nI_cl]
              by_cases hg : fX11_isWorse (D.1 1 103 p) (D.1 1 103 k) (D.1 1 103 j) = 0
              · have : gt k j = false := by rw [hgt]; simp [hg]
                simp [amS, enc, this, hg, hCk]
              · have : gt k j = true := by rw [hgt]; simp [hg]
                simp [amS, enc, this, hg, hCk]
      · intro n b hb
        show fX11_easyOn_35 (n + 1) _ _ _ (nI m) D = _
        rw [fX11_easyOn_35]
        simp only [t.many_c]
        rw [if_pos (Int32.le_refl _)]
        cases fX11_answerIfAny (enc b) D <;> rfl
    · have t2 := t.m he
      unfold fX12_easyOn
      rw [if_neg (by rw [has_m he, c2]; exact one_ne)]
      refine (lpA (fun n s k => fX12_easyOn_18 n (nI p) s k E) enc C gt m (fun b => fX12_orNone (enc b) E) ?_ ?_ mz_N (N_lt (by omega))).trans (ans_m hin (by omega) E)
      · intro n b k hk hb
        show fX12_easyOn_18 (n + 1) _ _ (nI k) E = _
        rw [fX12_easyOn_18]
        unfold fX12_easyOn_79
        simp (disch := omega) only [z0, t2.uMany, nJ_le, nJ_eq, t2.endM hp hk, Option.bind_some, a1r]
        rw [if_neg (by omega)]
        by_cases e1 : k = p
        · rw [if_pos e1]
          have : C k = false := by rw [hC]; simp [e1]
          cases b <;> simp [amS, this]
        · rw [if_neg e1]
          by_cases e2 : D.1 1 103 p = 16 ∧ D.1 1 103 k = 16
          · have : C k = false := by rw [hC]; simp [e2]
            rw [if_pos e2, if_neg one_ne]
            cases b <;> simp [amS, this]
          · have hCk : C k = true := by
              rw [hC]
              simp only [Bool.and_eq_true, Bool.not_eq_true', decide_eq_false_iff_not]
              exact ⟨e1, e2⟩
            rw [if_neg e2, if_pos rfl]
            cases b with
            | none => simp [enc, amS, hCk]
            | some j =>
              have hj := hb j rfl
              rw [if_neg (fun e => by have := (enc_ne hb (by omega)).mp e; cases this)]
              obtain ⟨a, ha, ea⟩ := bd_nI (hi := 16) (t.insists p hp).2
              obtain ⟨b, hb, eb⟩ := bd_nI (hi := 16) (t.insists k hk).2
              obtain ⟨c, hc, ec⟩ := bd_nI (hi := 16) (t.insists j (by omega)).2
              have wd := wrs_d a (by omega) b (by omega) c (by omega)
              rw [← ea, ← eb, ← ec] at wd
              unfold fX12_first fX12_behind
              simp only [enc, t2.insM hp, t2.insM hk, t2.insM (show j < m by omega), Option.bind_some]
              by_cases hg : fX11_isWorse (D.1 1 103 p) (D.1 1 103 k) (D.1 1 103 j) = 0
              · have : gt k j = false := by rw [hgt]; simp [hg]
                rw [if_pos (wd.mp hg)]
                simp [amS, enc, this]
              · have : gt k j = true := by rw [hgt]; simp [hg]
                rw [if_neg (fun e => hg (wd.mpr e))]
                simp [amS, enc, this, hCk]
      · intro n b hb
        show fX12_easyOn_18 (n + 1) _ _ (nI m) E = _
        rw [fX12_easyOn_18]
        simp only [z0, t2.uMany]
        rw [if_pos (Int32.le_refl _)]
        cases fX12_orNone (enc b) E <;> rfl
/-! three -/
theorem nL_sub {a b : Nat} (h : b ≤ a) : nL a - nL b = nL (a - b) := by
  have e : nL a = nL (a - b) + nL b := by rw [nL_add, show a - b + b = a by omega]
  rw [e]
  grind
theorem tl_nI {a : Nat} (h : a < 2147483648) : (nI a).toInt64 = nL a := by
  rw [← Int64.toInt_inj, t64, nI_toInt h, nL_toInt (by omega)]
theorem tr1 : ∀ a, a < 17 → ((16 : Int32) - nI a).toInt64 = (16 : Int64) - (nI a).toInt64 := by decide +kernel
theorem tr2 : ∀ a, a < 17 → ∀ b, b < 17 → (nI a * ((16 : Int32) - nI b)).toInt64 = (nI a).toInt64 * ((16 : Int64) - (nI b).toInt64) ∧ ((256 : Int32) - nI a * nI b).toInt64 = (256 : Int64) - (nI a).toInt64 * (nI b).toInt64 ∧ (((256 : Int32) - nI a * nI b) - nI a * ((16 : Int32) - nI b)).toInt64 = (16 : Int64) * ((16 : Int64) - (nI a).toInt64) ∧ ((nI a * ((16 : Int32) - nI b)) * (16 : Int32)).toInt64 = (nI a).toInt64 * ((16 : Int64) - (nI b).toInt64) * 16 ∧ (((16 : Int32) - nI a) * (256 : Int32)).toInt64 = ((16 : Int64) - (nI a).toInt64) * 256 := by decide +kernel
theorem tr3 : ∀ a, a < 17 → ∀ b, b < 17 → ∀ c, c < 17 → ((nI a * nI b) * ((16 : Int32) - nI c)).toInt64 = (nI a).toInt64 * (nI b).toInt64 * ((16 : Int64) - (nI c).toInt64) ∧ ((nI a * nI b) * nI c).toInt64 = (nI a).toInt64 * (nI b).toInt64 * (nI c).toInt64 := by decide +kernel
