/-! ===== receipts ===== -/
theorem hld0 {D : mz_D} {t z : Nat} (ht : t < 4) (hz : z ≤ 60) (e : D.1 0 6 t = nI z) {k : Nat} (hk : k < 2147483648) : fX8_holds (nI t) 0 (nI k) D = some (if k ≤ z then 1 else 0) := by
  have := hld ht hz e (p := 0) (by omega) hk
  rw [Nat.zero_add] at this
  exact this
theorem getC {D : mz_D} {t j : Nat} (ht : t < 4) (hj : j < 60) : fX8_get (nI t) (nI j) D = some (D.2 0 7 (60 * t + j)) := by
  unfold fX8_get
  simp (disch := omega) only [r60m, nI_add, nI_ix, gd_tt, nI_cl]
  rw [show t * 60 + j = 60 * t + j by omega]
theorem cmp_le (a b : Int64) : lg_cmp a b ≤ 0 ↔ a.toInt ≤ b.toInt := by
  have := cmp_gt a b
  rw [← Int32.not_lt, this]
  omega
theorem witC {D : mz_D} {t dn : Nat} (ht : t < 4) (hd : dn ≤ 60) (lo hi : Int64) : ((∀ i, i < dn → lo.toInt ≤ (D.2 0 7 (60 * t + i)).toInt ∧ (D.2 0 7 (60 * t + i)).toInt ≤ hi.toInt) → fX8_areWithin (nI t) (nI dn) lo hi D = some 1) ∧ ((¬ ∀ i, i < dn → lo.toInt ≤ (D.2 0 7 (60 * t + i)).toInt ∧ (D.2 0 7 (60 * t + i)).toInt ≤ hi.toInt) → fX8_areWithin (nI t) (nI dn) lo hi D = some 0) := by
  have step : ∀ n k, k < dn → (lo.toInt ≤ (D.2 0 7 (60 * t + k)).toInt ∧ (D.2 0 7 (60 * t + k)).toInt ≤ hi.toInt) → fX8_areWithin_3 D (n + 1) (nI t) (nI dn) lo hi (nI k) = fX8_areWithin_3 D n (nI t) (nI dn) lo hi (nI (k + 1)) := by
    intro n k hk hok
    rw [fX8_areWithin_3]
    dsimp only
    rw [if_neg (by rw [nJ_le (by omega) (by omega)]; omega), if_neg (by rw [ol_le (c := 60) (by omega) (by omega)]; omega), getC ht (by omega), Option.bind_some, if_neg (by rw [cmp_lt]; omega), if_pos (by rw [cmp_le]; exact hok.2), a1r]
  constructor
  · intro ok
    exact lpD (fun n (_ : Unit) k => fX8_areWithin_3 D n (nI t) (nI dn) lo hi k) (fun _ => ()) dn (fun n k hk => step n k hk (ok k hk)) (fun n => by
      show fX8_areWithin_3 D (n + 1) (nI t) (nI dn) lo hi (nI dn) = _
      rw [fX8_areWithin_3]
      dsimp only
      rw [if_pos (Int32.le_refl _)]) dn 0 mz_N (by omega) (N_lt (by omega))
  · intro bad
    obtain ⟨k, hk, hb, hlt⟩ := least bad
    exact lpD (fun n (_ : Unit) k => fX8_areWithin_3 D n (nI t) (nI dn) lo hi k) (fun _ => ()) k (fun n j hj => step n j (by omega) (hlt j hj)) (fun n => by
      show fX8_areWithin_3 D (n + 1) (nI t) (nI dn) lo hi (nI k) = _
      rw [fX8_areWithin_3]
      dsimp only
      rw [if_neg (by rw [nJ_le (by omega) (by omega)]; omega), if_neg (by rw [ol_le (c := 60) (by omega) (by omega)]; omega), getC ht (by omega), Option.bind_some]
      by_cases c1 : (D.2 0 7 (60 * t + k)).toInt < lo.toInt
      · rw [if_pos (by rw [cmp_lt]; exact c1)]
      · rw [if_neg (by rw [cmp_lt]; exact c1), if_neg (by rw [cmp_le]; omega)]) k 0 mz_N (by omega) (N_lt (by omega))
/-! who is off by the most -/
def rmS (v : Nat → Int64) : Nat → Option Nat × Int64
  | 0 => (none, 0)
  | k + 1 => if 0 < lg_cmp (v k) (rmS v k).2 then (some k, v k) else rmS v k
theorem rmS_in (v : Nat → Int64) : ∀ k, inb k (rmS v k).1 := by
  intro k
  induction k with
  | zero => intro j e; cases e
  | succ k ih =>
    intro j e
    unfold rmS at e
    split at e
    · cases e; omega
    · have := ih j e; omega
theorem p_op57 : op_57 Inv := by
  intro n D x1 h
  obtain ⟨m, d, gs, ins, tt⟩ := iR.t h
  have hm := tt.hm
  rcases try_or x1 with ⟨c1, c2⟩ | ⟨t, ht, rfl, c1, c2⟩
  · exact q_look h (r := -1) (v := 1) (by unfold fX11_remembers; rw [if_pos c1]) (fun E he => by unfold fX12_remembers; rw [if_pos c2])
  · have n1 : ¬ fX8_has (nI t) = 0 := by rw [c1]; exact one_ne
    have m1 : ¬ fX12_isTray (nI t) = 0 := by rw [c2]; exact one_ne
    rcases tr_cs (iR.trays h t ht) with ⟨a1, a2⟩ | ⟨a1, a2, z, z1, z2, z3, z4, z5⟩
    · exact q_look h (r := -1) (v := 2) (by unfold fX11_remembers; rw [if_neg n1, mis ht, Option.bind_some, if_pos a1, if_neg one_ne]) (fun E he => by unfold fX12_remembers; rw [if_neg m1, nI_ix ht (by omega), gd_tt, nI_cl (by omega), (he 0 204 t (by omega) (by omega)).1, if_pos a2])
    · by_cases hz : m ≤ z
      · have C0 : fX11_remembers (nI t) D = Option.bind (fX8_areWithin (nI t) (nI m) (-9999999) 9999999 D) fun q6 => (if q6 = 0 then (some ((-1 : Int32), (mz_wi D 0 0 13 (5 : Int32)))) else (fX11_remembers_96 mz_N (nI t) (nI m) (-1 : Int32) (0 : Int64) (0 : Int32) D)) := by
          unfold fX11_remembers
          rw [if_neg n1, mis ht, Option.bind_some, if_neg a1, if_pos rfl, tt.many_c, hld0 ht z1 z2 (by omega), Option.bind_some, if_pos hz, if_neg one_ne]
        have M0 : ∀ E, eM D E → fX12_remembers (nI t) E = fX12_remembers_52 mz_N (nI t) 0 E := fun E he => by
          unfold fX12_remembers
          rw [if_neg m1, nI_ix ht (by omega), gd_tt, nI_cl (by omega), (he 0 204 t (by omega) (by omega)).1, if_neg a2, z0, (tt.m he).uMany, z3, if_pos (by rw [nJ_le (by omega) (by omega)]; exact hz)]
        have step : ∀ E, eM D E → ∀ n k, k < m → fX12_remembers_52 (n + 1) (nI t) (nI k) E = if ((-9999999 : Int64).toInt ≤ (D.2 0 7 (60 * t + k)).toInt ∧ (D.2 0 7 (60 * t + k)).toInt ≤ (9999999 : Int64).toInt) then fX12_remembers_52 n (nI t) (nI (k + 1)) E else some (-1, mz_wi E 0 200 2 5) := fun E he n k hk => by
          rw [fX12_remembers_52]
          simp (disch := omega) only [z0, (tt.m he).uMany, nJ_le, l60m, nI_add, nI_ix, gd_tt, nI_cl, a1r, (he 0 205 (60 * t + k) (by omega) (by omega)).2, z5 k (by omega), from_e]
          rw [if_neg (by omega)]
          by_cases c : ((-9999999 : Int64).toInt ≤ (D.2 0 7 (60 * t + k)).toInt ∧ (D.2 0 7 (60 * t + k)).toInt ≤ (9999999 : Int64).toInt)
          · rw [if_pos c, if_neg (show ¬ ((D.2 0 7 (60 * t + k)).toInt < (-9999999 : Int64).toInt ∨ (9999999 : Int64).toInt < (D.2 0 7 (60 * t + k)).toInt) by omega), if_neg one_ne]
          · rw [if_neg c, if_pos (show ((D.2 0 7 (60 * t + k)).toInt < (-9999999 : Int64).toInt ∨ (9999999 : Int64).toInt < (D.2 0 7 (60 * t + k)).toInt) by omega), if_pos rfl]
        by_cases ok : ∀ i, i < m → (-9999999 : Int64).toInt ≤ (D.2 0 7 (60 * t + i)).toInt ∧ (D.2 0 7 (60 * t + i)).toInt ≤ (9999999 : Int64).toInt
        · obtain ⟨v, hv⟩ : ∃ v : Nat → Int64, v = fun i => fJ9_abs_067f4 (D.2 0 7 (60 * t + i) - (sBal 1 D i).toInt64) := ⟨_, rfl⟩
          have vk : ∀ k, fJ9_abs_067f4 (D.2 0 7 (60 * t + k) - (sBal 1 D k).toInt64) = v k := fun k => by rw [hv]
          have hin := rmS_in v m
          refine q_look h (r := enc (rmS v m).1) (v := sv (rmS v m).1) ?_ (fun E he => ?_)
          · rw [C0, (witC ht (by omega) _ _).1 ok, Option.bind_some, if_neg one_ne]
            refine Eq.trans (lpD (fun n (s : Int32 × Int64) k => fX11_remembers_96 n (nI t) (nI m) s.1 s.2 k D) (fun k => (enc (rmS v k).1, (rmS v k).2)) m (r := Option.bind (fX11_answerIfAny (enc (rmS v m).1) D) fun q2 => some (q2.1, q2.2)) (fun n k hk => ?_) (fun n => ?_) m 0 mz_N (by omega) (N_lt (by omega))) ?_
            · show fX11_remembers_96 (n + 1) (nI t) (nI m) (enc (rmS v k).1) (rmS v k).2 (nI k) D = fX11_remembers_96 n (nI t) (nI m) (enc (rmS v (k + 1)).1) (rmS v (k + 1)).2 (nI (k + 1)) D
              rw [fX11_remembers_96]
              dsimp only
              rw [if_neg (by rw [nJ_le (by omega) (by omega)]; omega), getC ht (by omega), Option.bind_some, tR.bal (by omega), Option.bind_some, vk, a1r]
              conv => rhs; unfold rmS
              by_cases c : lg_cmp (v k) (rmS v k).2 ≤ 0
              · rw [if_pos c, if_neg (Int32.not_lt.mpr c)]
              · rw [if_neg c, if_pos (Int32.not_le.mp c)]
                rfl
            · show fX11_remembers_96 (n + 1) (nI t) (nI m) (enc (rmS v m).1) (rmS v m).2 (nI m) D = _
              rw [fX11_remembers_96]
              dsimp only
              rw [if_pos (Int32.le_refl _)]
            · rw [ans_c hin (by omega)]
              rfl
          · rw [M0 E he]
            refine Eq.trans (lpD (fun n (_ : Unit) k => fX12_remembers_52 n (nI t) k E) (fun _ => ()) m (r := fX12_remembers_104 mz_N (nI t) (-1) 0 0 E) (fun n k hk => ?_) (fun n => ?_) m 0 mz_N (by omega) (N_lt (by omega))) ?_
            · show fX12_remembers_52 (n + 1) (nI t) (nI k) E = fX12_remembers_52 n (nI t) (nI (k + 1)) E
              rw [step E he n k hk, if_pos (ok k hk)]
            · show fX12_remembers_52 (n + 1) (nI t) (nI m) E = _
              rw [fX12_remembers_52]
              dsimp only
              rw [z0, (tt.m he).uMany, if_pos (Int32.le_refl _)]
            refine Eq.trans (lpD (fun n (s : Int32 × Int64) k => fX12_remembers_104 n (nI t) s.1 s.2 k E) (fun k => (enc (rmS v k).1, (rmS v k).2)) m (r := Option.bind (fX12_orNone (enc (rmS v m).1) E) fun q2 => some (q2.1, q2.2)) (fun n k hk => ?_) (fun n => ?_) m 0 mz_N (by omega) (N_lt (by omega))) ?_
            · show fX12_remembers_104 (n + 1) (nI t) (enc (rmS v k).1) (rmS v k).2 (nI k) E = fX12_remembers_104 n (nI t) (enc (rmS v (k + 1)).1) (rmS v (k + 1)).2 (nI (k + 1)) E
              rw [fX12_remembers_104]
              simp (disch := omega) only [z0, (tt.m he).uMany, nJ_le, l60m, nI_add, nI_ix, gd_tt, nI_cl, a1r, (he 0 205 (60 * t + k) (by omega) (by omega)).2, z5 k (by omega), (tt.m he).balM (show k < 6 by omega), Option.bind_some, vk]
              rw [if_neg (by omega)]
              conv => rhs; unfold rmS
              by_cases c : 0 < lg_cmp (v k) (rmS v k).2
              · rw [if_pos c, if_pos c]
                rfl
              · rw [if_neg c, if_neg c]
            · show fX12_remembers_104 (n + 1) (nI t) (enc (rmS v m).1) (rmS v m).2 (nI m) E = _
              rw [fX12_remembers_104]
              dsimp only
              rw [z0, (tt.m he).uMany, if_pos (Int32.le_refl _)]
            · rw [ans_m hin (by omega)]
              rfl
        · obtain ⟨K, hK, hb, hlt⟩ := least ok
          refine q_look h (r := -1) (v := 5) ?_ (fun E he => ?_)
          · rw [C0, (witC ht (by omega) _ _).2 ok, Option.bind_some, if_pos rfl]
          · rw [M0 E he]
            exact lpD (fun n (_ : Unit) k => fX12_remembers_52 n (nI t) k E) (fun _ => ()) K (fun n k hk => by
              show fX12_remembers_52 (n + 1) (nI t) (nI k) E = fX12_remembers_52 n (nI t) (nI (k + 1)) E
              rw [step E he n k (by omega), if_pos (hlt k hk)]) (fun n => by
              show fX12_remembers_52 (n + 1) (nI t) (nI K) E = _
              rw [step E he n K hK, if_neg hb]) K 0 mz_N (by omega) (N_lt (by omega))
      · refine q_look h (r := -1) (v := 3) ?_ (fun E he => ?_)
        · unfold fX11_remembers
          rw [if_neg n1, mis ht, Option.bind_some, if_neg a1, if_pos rfl, tt.many_c, hld0 ht z1 z2 (by omega), Option.bind_some, if_neg hz, if_pos rfl]
        · unfold fX12_remembers
          rw [if_neg m1, nI_ix ht (by omega), gd_tt, nI_cl (by omega), (he 0 204 t (by omega) (by omega)).1, if_neg a2, z0, (tt.m he).uMany, z3, if_neg (by rw [nJ_le (by omega) (by omega)]; exact hz)]
/-! a row of receipts -/
def rcp (b : Nat) (x : Int32) (H k : Nat) (f : Nat → Int32) : Nat → Int32 := if k ≠ b ∧ H.testBit k = true then up (up f k (f k - x)) b (up f k (f k - x) b + x) else f
def rcA (b : Nat) (x : Int32) (H k : Nat) (f : Nat → Int32) : Nat → Int32 := foldN (rcp b x H) 0 k f
theorem rcA_s (b : Nat) (x : Int32) (H k : Nat) (f : Nat → Int32) : rcA b x H (k + 1) f = rcp b x H k (rcA b x H k f) := by
  unfold rcA
  rw [foldN_end, Nat.zero_add]
theorem rcp_c {m b : Nat} {x : Int32} {H k : Nat} {f g : Nat → Int32} (hk : k < m) (hb : b < m) (h : ∀ i, i < m → f i = g i) : ∀ i, i < m → rcp b x H k f i = rcp b x H k g i := by
  intro i hi
  unfold rcp
  by_cases c : k ≠ b ∧ H.testBit k = true
  · rw [if_pos c, if_pos c]
    unfold up
    try dsimp only
    rw [h k hk]
    by_cases e1 : i = b
    · rw [if_pos e1, if_pos e1]
      by_cases e2 : b = k
      · rw [if_pos e2, if_pos e2]
      · rw [if_neg e2, if_neg e2, h b hb]
    · rw [if_neg e1, if_neg e1, h i hi]
  · rw [if_neg c, if_neg c]; exact h i hi
theorem rcA_c {m b : Nat} {x : Int32} {H : Nat} {f g : Nat → Int32} (hb : b < m) (h : ∀ i, i < m → f i = g i) : ∀ k, k ≤ m → ∀ i, i < m → rcA b x H k f i = rcA b x H k g i := by
  intro k
  induction k with
  | zero => intro _; exact h
  | succ k ih =>
    intro hk
    rw [rcA_s, rcA_s]
    exact rcp_c (by omega) hb (ih (by omega))
theorem addRC {D : mz_D} {m gs b : Nat} {x : Int32} (hm : m ≤ 6) (hg : gs < 2 ^ m) (hb : b < m) (e1 : D.1 1 101 0 = nI m) (e2 : D.1 1 101 2 = nI gs) (f : Nat → Int32) : fX11_addReceipt (nI b) x (wr D 0 14 f) = some (wr D 0 14 (rcA b x (hdS m gs) m f)) := by
  have hH := hd_64 hm hg
  unfold fX11_addReceipt
  rw [c_heads (by rw [wr_n (Or.inl (by decide))]; exact e1) (by rw [wr_n (Or.inl (by decide))]; exact e2) hm hg]
  exact lpD (fun n s k => fX11_addReceipt_14 n (nI b) x (nI (hdS m gs)) k s) (fun k => wr D 0 14 (rcA b x (hdS m gs) k f)) m (fun n k hk => by
    show fX11_addReceipt_14 (n + 1) (nI b) x (nI (hdS m gs)) (nI k) (wr D 0 14 (rcA b x (hdS m gs) k f)) = fX11_addReceipt_14 n (nI b) x (nI (hdS m gs)) (nI (k + 1)) (wr D 0 14 (rcA b x (hdS m gs) (k + 1) f))
    rw [fX11_addReceipt_14]
    simp (disch := omega) only [wr_n (show 101 ≠ 14 ∨ 1 ≠ 0 from Or.inl (by decide)), e1, nJ_le, nJ_eq, isIn_e, nI_ix, gd_tt, nI_cl, a1r, wr_s, wr_up]
    rw [if_neg (by omega), rcA_s]
    unfold rcp
    by_cases e : k = b
    · rw [if_pos e, if_neg (fun q => q.1 e)]
    · rw [if_neg e]
      cases hbit : (hdS m gs).testBit k with
      | false => simp
      | true => rw [if_neg (by simp), if_pos ⟨e, rfl⟩]) (fun n => by
    show fX11_addReceipt_14 (n + 1) (nI b) x (nI (hdS m gs)) (nI m) (wr D 0 14 (rcA b x (hdS m gs) m f)) = _
    rw [fX11_addReceipt_14]
    simp (disch := omega) only [wr_n (show 101 ≠ 14 ∨ 1 ≠ 0 from Or.inl (by decide)), e1]
    rw [if_pos (Int32.le_refl _)]) m 0 mz_N (by omega) (N_lt (by omega))
theorem addRM {n : Nat} {D E : mz_D} {m d gs ins b : Nat} (t : tR n 1 0 0 D E m d gs ins) (hb : b < m) (k185 : Int32 → Int32 → Int32 → Int32 → Int32 → mz_D → Option (Int32 × mz_D)) (x1 x2 x3 x4 x5 : Int32) (f : Nat → Int32) : fX12_receipts_209 k185 mz_N x1 x2 x3 x4 x5 (nI b) 0 (wr E 0 210 f) = k185 x1 x2 x3 x4 (x5 + 1) (wr E 0 210 (rcA b x3 (hdS m gs) m f)) := by
  have hm := t.hm
  have hH := hd_64 hm t.hgs
  exact lpD (fun n s k => fX12_receipts_209 k185 n x1 x2 x3 x4 x5 (nI b) k s) (fun k => wr E 0 210 (rcA b x3 (hdS m gs) k f)) m (fun n k hk => by
    show fX12_receipts_209 k185 (n + 1) x1 x2 x3 x4 x5 (nI b) (nI k) (wr E 0 210 (rcA b x3 (hdS m gs) k f)) = fX12_receipts_209 k185 n x1 x2 x3 x4 x5 (nI b) (nI (k + 1)) (wr E 0 210 (rcA b x3 (hdS m gs) (k + 1) f))
    have tk := t.wrM (o := 210) (by decide) (rcA b x3 (hdS m gs) k f)
    rw [fX12_receipts_209]
    simp (disch := omega) only [z0, tk.uMany, tk.headsM, nJ_le, nJ_eq, isIn_m, isIn_e, nI_ix, gd_tt, nI_cl, a1r, wr_s, wr_up]
    rw [if_neg (by omega), rcA_s]
    unfold rcp
    by_cases e : k = b
    · rw [if_pos e, if_neg (fun q => q.1 e)]
    · rw [if_neg e]
      cases hbit : (hdS m gs).testBit k with
      | false => simp
      | true => rw [if_neg (by simp), if_pos ⟨e, rfl⟩]) (fun n => by
    show fX12_receipts_209 k185 (n + 1) x1 x2 x3 x4 x5 (nI b) (nI m) (wr E 0 210 (rcA b x3 (hdS m gs) m f)) = _
    have tk := t.wrM (o := 210) (by decide) (rcA b x3 (hdS m gs) m f)
    rw [fX12_receipts_209]
    simp (disch := omega) only [z0, tk.uMany]
    rw [if_pos (Int32.le_refl _)]) m 0 mz_N (by omega) (N_lt (by omega))
/-- rows behind so many dinners -/
def rcD (by0 : Nat → Nat) (x : Int32) (H m : Nat) (f : Nat → Int32) : Nat → (Nat → Int32)
  | 0 => f
  | k + 1 => rcA (by0 k) x H m (rcD by0 x H m f k)
theorem rcD_c {m : Nat} {by0 : Nat → Nat} {x : Int32} {H : Nat} {f g : Nat → Int32} {K : Nat} (hb : ∀ k, k < K → by0 k < m) (h : ∀ i, i < m → f i = g i) : ∀ k, k ≤ K → ∀ i, i < m → rcD by0 x H m f k i = rcD by0 x H m g k i := by
  intro k
  induction k with
  | zero => intro _; exact h
  | succ k ih =>
    intro hk
    exact rcA_c (hb k (by omega)) (ih (by omega)) m (Nat.le_refl _)
def ptR (r : Nat → Int64) (b : Nat) (s : Int32) (w : Nat → Int32) (k : Nat) : Nat → Int64 := fun c => if 60 * b ≤ c ∧ c < 60 * b + k then fX8_cut s (w (c - 60 * b)).toInt64 else r c
theorem ptR_s (r : Nat → Int64) (b : Nat) (s : Int32) (w : Nat → Int32) (k : Nat) : upl (ptR r b s w k) (60 * b + k) (fX8_cut s (w k).toInt64) = ptR r b s w (k + 1) := by
  funext c
  unfold upl ptR
  by_cases e : c = 60 * b + k
  · rw [if_pos e, if_pos (by omega), e, show 60 * b + k - 60 * b = k by omega]
  · rw [if_neg e]
    by_cases e2 : 60 * b ≤ c ∧ c < 60 * b + k
    · rw [if_pos e2, if_pos (by omega)]
    · rw [if_neg e2, if_neg (by omega)]
theorem ptR_0 (r : Nat → Int64) (b : Nat) (s : Int32) (w : Nat → Int32) : ptR r b s w 0 = r := by funext c; exact if_neg (by omega)
theorem lg_32 {y : Int64} {m : Nat} (hm : m ≤ 6) (h0 : 0 ≤ y.toInt) (h1 : y.toInt < m) : ∃ b, b < m ∧ y.toInt32 = nI b := by
  refine ⟨y.toInt.toNat, by omega, ?_⟩
  rw [i_eq, Int64.toInt_toInt32, nI_toInt (by omega), Int.bmod_eq_of_le (by omega) (by omega)]
  omega
