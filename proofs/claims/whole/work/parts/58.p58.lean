theorem pk_0 (x y z : Int32) : fX11_pick x y z 0 = x := by unfold fX11_pick; simp
theorem pk_1 (x y z : Int32) : fX11_pick x y z 1 = y := by unfold fX11_pick; simp
theorem pk_2 (x y z : Int32) : fX11_pick x y z 2 = z := by unfold fX11_pick; simp
theorem pk_3 (x y z : Int32) : fX11_pick x y z 3 = x := by unfold fX11_pick; simp
theorem pk_4 (x y z : Int32) : fX11_pick x y z 4 = y := by unfold fX11_pick; simp
theorem top_0 {a b c : Int32} (ha : ((16 : Int32) - a).toInt64 = (16 : Int64) - a.toInt64) (hb : ((16 : Int32) - b).toInt64 = (16 : Int64) - b.toInt64) (hc : ((16 : Int32) - c).toInt64 = (16 : Int64) - c.toInt64) : fX11_trioTop a b c 0 = ((((a.toInt64 * b.toInt64) * (16 - c.toInt64)) * (a.toInt64 * (16 - b.toInt64))) * (256 - c.toInt64 * a.toInt64)) + (((((a.toInt64 * (16 - b.toInt64)) * 16) * 16) * (16 - c.toInt64)) * (256 - a.toInt64 * b.toInt64)) := by
  unfold fX11_trioTop fX11_firstOut
  rw [show ((0 : Int32) + 1) = 1 from rfl, show ((0 : Int32) + 2) = 2 from rfl]
  simp only [pk_0, pk_1, pk_2, pk_3, pk_4, ha, hb, hc]
  simp
theorem bot_0 (a b c : Int32) : fX11_trioBottom a b c 0 = ((4096 - (a.toInt64 * b.toInt64) * c.toInt64) * (256 - a.toInt64 * b.toInt64)) * (256 - c.toInt64 * a.toInt64) := by
  unfold fX11_trioBottom
  rw [show ((0 : Int32) + 1) = 1 from rfl, show ((0 : Int32) + 2) = 2 from rfl]
  simp only [pk_0, pk_1, pk_2, pk_3, pk_4]
theorem top_1 {a b c : Int32} (ha : ((16 : Int32) - a).toInt64 = (16 : Int64) - a.toInt64) (hb : ((16 : Int32) - b).toInt64 = (16 : Int64) - b.toInt64) (hc : ((16 : Int32) - c).toInt64 = (16 : Int64) - c.toInt64) : fX11_trioTop a b c 1 = (((((16 - a.toInt64) * 16) * 16) * (b.toInt64 * (16 - c.toInt64))) * (256 - a.toInt64 * b.toInt64)) + (((((a.toInt64 * b.toInt64) * (16 - c.toInt64)) * 16) * (16 - a.toInt64)) * (256 - b.toInt64 * c.toInt64)) := by
  unfold fX11_trioTop fX11_firstOut
  rw [show ((1 : Int32) + 1) = 2 from rfl, show ((1 : Int32) + 2) = 3 from rfl]
  simp only [pk_0, pk_1, pk_2, pk_3, pk_4, ha, hb, hc]
  simp
theorem bot_1 (a b c : Int32) : fX11_trioBottom a b c 1 = ((4096 - (a.toInt64 * b.toInt64) * c.toInt64) * (256 - b.toInt64 * c.toInt64)) * (256 - a.toInt64 * b.toInt64) := by
  unfold fX11_trioBottom
  rw [show ((1 : Int32) + 1) = 2 from rfl, show ((1 : Int32) + 2) = 3 from rfl]
  simp only [pk_0, pk_1, pk_2, pk_3, pk_4]
theorem top_2 {a b c : Int32} (ha : ((16 : Int32) - a).toInt64 = (16 : Int64) - a.toInt64) (hb : ((16 : Int32) - b).toInt64 = (16 : Int64) - b.toInt64) (hc : ((16 : Int32) - c).toInt64 = (16 : Int64) - c.toInt64) : fX11_trioTop a b c 2 = ((((a.toInt64 * (16 - b.toInt64)) * 16) * (c.toInt64 * (16 - a.toInt64))) * (256 - b.toInt64 * c.toInt64)) + ((((((16 - a.toInt64) * 16) * 16) * 16) * (16 - b.toInt64)) * (256 - c.toInt64 * a.toInt64)) := by
  unfold fX11_trioTop fX11_firstOut
  rw [show ((2 : Int32) + 1) = 3 from rfl, show ((2 : Int32) + 2) = 4 from rfl]
  simp only [pk_0, pk_1, pk_2, pk_3, pk_4, ha, hb, hc]
  simp
theorem bot_2 (a b c : Int32) : fX11_trioBottom a b c 2 = ((4096 - (a.toInt64 * b.toInt64) * c.toInt64) * (256 - c.toInt64 * a.toInt64)) * (256 - b.toInt64 * c.toInt64) := by
  unfold fX11_trioBottom
  rw [show ((2 : Int32) + 1) = 3 from rfl, show ((2 : Int32) + 2) = 4 from rfl]
  simp only [pk_0, pk_1, pk_2, pk_3, pk_4]
theorem rg_0 (X Y Z : Int64) : ((0 : Int64) + ((((X * (16 - Y)) * 16) * (16 * (16 - Z))) * (256 - Y * Z)) * (256 - X * Y)) + ((((X * Y) * (16 - Z)) * (X * (16 - Y))) * (256 - Y * Z)) * (256 - Z * X) = (((((X * Y) * (16 - Z)) * (X * (16 - Y))) * (256 - Z * X)) + (((((X * (16 - Y)) * 16) * 16) * (16 - Z)) * (256 - X * Y))) * (256 - Y * Z) := by grind
theorem rb_0 (X Y Z : Int64) : (((4096 - (X * Y) * Z) * (256 - X * Y)) * (256 - Y * Z)) * (256 - Z * X) = (((4096 - (X * Y) * Z) * (256 - X * Y)) * (256 - Z * X)) * (256 - Y * Z) := by grind
theorem rg_1 (X Y Z : Int64) : ((0 : Int64) + ((((16 - X) * 256) * (Y * (16 - Z))) * (256 - Z * X)) * (256 - X * Y)) + ((((X * Y) * (16 - Z)) * (16 * (16 - X))) * (256 - Y * Z)) * (256 - Z * X) = ((((((16 - X) * 16) * 16) * (Y * (16 - Z))) * (256 - X * Y)) + (((((X * Y) * (16 - Z)) * 16) * (16 - X)) * (256 - Y * Z))) * (256 - Z * X) := by grind
theorem rb_1 (X Y Z : Int64) : (((4096 - (X * Y) * Z) * (256 - X * Y)) * (256 - Y * Z)) * (256 - Z * X) = (((4096 - (X * Y) * Z) * (256 - Y * Z)) * (256 - X * Y)) * (256 - Z * X) := by grind
theorem rg_2 (X Y Z : Int64) : ((0 : Int64) + ((((16 - X) * 256) * (16 * (16 - Y))) * (256 - Z * X)) * (256 - X * Y)) + ((((X * (16 - Y)) * 16) * (Z * (16 - X))) * (256 - Y * Z)) * (256 - X * Y) = (((((X * (16 - Y)) * 16) * (Z * (16 - X))) * (256 - Y * Z)) + ((((((16 - X) * 16) * 16) * 16) * (16 - Y)) * (256 - Z * X))) * (256 - X * Y) := by grind
theorem rb_2 (X Y Z : Int64) : (((4096 - (X * Y) * Z) * (256 - X * Y)) * (256 - Y * Z)) * (256 - Z * X) = (((4096 - (X * Y) * Z) * (256 - Z * X)) * (256 - Y * Z)) * (256 - X * Y) := by grind
theorem mle {a b A B : Nat} (h1 : a ≤ A) (h2 : b ≤ B) : a * b ≤ A * B := Nat.mul_le_mul h1 h2
theorem trio_f {o nx l F1 F2 W : Nat} (ho : o ≤ 16) (hn : nx ≤ 16) (hl : l ≤ 16) (h1 : F1 ≤ 4096) (h2 : F2 ≤ 4096) (h3 : W ≤ 4096) (w0 : 0 < W) (k1 : o * nx < 256) (k2 : l * o < 256) (k3 : nx * l < 256) {y1 y3 z1 z3 : Int64}
    (e1 : y1 = (nL F2 * (nL o * nL (16 - nx))) * nL (256 - l * o) + ((nL F1 * nL 16) * nL (16 - l)) * nL (256 - o * nx)) (e3 : y3 = (nL W * nL (256 - o * nx)) * nL (256 - l * o)) (f1 : z1 = y1 * nL (256 - nx * l)) (f3 : z3 = y3 * nL (256 - nx * l)) :
    0 ≤ y1.toInt ∧ 0 ≤ y3.toInt ∧ 0 < y1.toInt + y3.toInt ∧ z1.toInt = y1.toInt * ((256 - nx * l : Nat) : Int) ∧ z3.toInt = y3.toInt * ((256 - nx * l : Nat) : Int) := by
  simp only [nL_mul, nL_add] at e1 e3
  have b1 : F2 * (o * (16 - nx)) * (256 - l * o) ≤ 4096 * (16 * 16) * 256 := mle (mle h2 (mle ho (by omega))) (by omega)
  have b2 : F1 * 16 * (16 - l) * (256 - o * nx) ≤ 4096 * 16 * 16 * 256 := mle (mle (mle h1 (Nat.le_refl _)) (by omega)) (by omega)
  have b3 : W * (256 - o * nx) * (256 - l * o) ≤ 4096 * 256 * 256 := mle (mle h3 (by omega)) (by omega)
  have b4 : 0 < W * (256 - o * nx) * (256 - l * o) := Nat.mul_pos (Nat.mul_pos w0 (by omega)) (by omega)
  have b5 : F2 * (o * (16 - nx)) * (256 - l * o) + F1 * 16 * (16 - l) * (256 - o * nx) ≤ 4294967296 := by omega
  rw [f1, f3, e1, e3, nL_mul, nL_mul]
  generalize F2 * (o * (16 - nx)) * (256 - l * o) + F1 * 16 * (16 - l) * (256 - o * nx) = T at *
  generalize W * (256 - o * nx) * (256 - l * o) = B at *
  have b6 : T * (256 - nx * l) ≤ 4294967296 * 256 := mle b5 (by omega)
  have b7 : B * (256 - nx * l) ≤ 268435456 * 256 := mle b3 (by omega)
  rw [nL_toInt (by omega), nL_toInt (by omega), nL_toInt (by omega), nL_toInt (by omega)]
  exact ⟨by omega, by omega, by omega, Int.natCast_mul _ _, Int.natCast_mul _ _⟩
theorem lt256 {a b : Nat} (ha : a ≤ 16) (hb : b ≤ 16) (h : ¬ (nI a = 16 ∧ nI b = 16)) : a * b < 256 := by
  by_cases h1 : a = 16
  · by_cases h2 : b = 16
    · exact absurd ⟨by rw [h1]; rfl, by rw [h2]; rfl⟩ h
    · have := mle ha (show b ≤ 15 by omega); omega
  · have := mle (show a ≤ 15 by omega) hb; omega
theorem cb3 {a b c : Nat} (ha : a ≤ 16) (hb : b ≤ 16) (hc : c ≤ 16) : a * b * c ≤ 4096 := mle (mle ha hb) hc
theorem cb3' {a b c : Nat} (h : a * b < 256) (hc : c ≤ 16) : 0 < 4096 - a * b * c := by
  have := mle (show a * b ≤ 255 by omega) hc
  omega
/-- the refusals of three -/
theorem trio_ref {n : Nat} {D : mz_D} (h : Inv n D) (x1 x2 x3 x4 : Int32) (hx : fX11_areTwo x1 x2 D = 0 ∨ fX11_areTwo x2 x3 D = 0 ∨ fX11_areTwo x1 x3 D = 0 ∨ x4 < 0 ∨ 2 < x4) (i1 : fX11_areTwo x1 x2 D = 0 ↔ fX12_areTwo x1 x2 D = 0) (i2 : fX11_areTwo x2 x3 D = 0 ↔ fX12_areTwo x2 x3 D = 0) (i3 : fX11_areTwo x1 x3 D = 0 ↔ fX12_areTwo x1 x3 D = 0) : ∃ (r : Int32) (D1 D2 : mz_D), fX11_trio x1 x2 x3 x4 D = some (r, D1) ∧ fX12_trio x1 x2 x3 x4 D1 = some (r, D2) ∧ Inv (n + 1) D2 := by
  refine q_look h (r := 0) (v := 1) ?_ (fun E he => ?_)
  · unfold fX11_trio
    by_cases c1 : fX11_areTwo x1 x2 D = 0
    · rw [if_pos c1]
    · by_cases c2 : fX11_areTwo x2 x3 D = 0
      · rw [if_neg c1, if_pos c2]
      · by_cases c3 : fX11_areTwo x1 x3 D = 0
        · rw [if_neg c1, if_neg c2, if_pos c3]
        · by_cases c4 : x4 < 0
          · rw [if_neg c1, if_neg c2, if_neg c3, if_pos c4]
          · rw [if_neg c1, if_neg c2, if_neg c3, if_neg c4, if_neg (by grind)]
  · unfold fX12_trio fX12_trio_38
    simp only [two_m he, is_e]
    by_cases c1 : fX12_areTwo x1 x2 D = 0
    · rw [if_pos c1]; rfl
    · by_cases c3 : fX12_areTwo x1 x3 D = 0
      · rw [if_neg c1, if_pos c3]; rfl
      · by_cases c2 : fX12_areTwo x2 x3 D = 0
        · rw [if_neg c1, if_neg c3, if_pos c2]; rfl
        · by_cases c4 : x4 < 0
          · rw [if_neg c1, if_neg c3, if_neg c2, if_pos c4]; rfl
          · rw [if_neg c1, if_neg c3, if_neg c2, if_neg c4, if_neg (by rw [i1, i2, i3] at hx; grind)]; rfl
theorem two_i {g m : Nat} {Dc Dm : mz_D} (hm : m ≤ 6) (hc : Dc.1 1 101 0 = nI m) (hq : Dm.1 0 201 0 = nI m) (a b : Int32) : (fX11_areTwo a b Dc = 0 ↔ fX12_areTwo a b Dm = 0) ∧ (¬ fX11_areTwo a b Dc = 0 → ∃ p q, p < m ∧ q < m ∧ p ≠ q ∧ a = nI p ∧ b = nI q) := by
  rcases two_or (g := 1) hm hc hq a b with ⟨c1, c2⟩ | ⟨p, q, hp, hq, hne, rfl, rfl, c1, c2⟩
  · exact ⟨⟨fun _ => c2, fun _ => c1⟩, fun h => absurd c1 h⟩
  · exact ⟨by rw [c1, c2], fun _ => ⟨p, q, hp, hq, hne, rfl, rfl⟩⟩
theorem p_op31 : op_31 Inv := by
  intro n D x1 x2 x3 x4 h
  obtain ⟨m, d, gs, ins, t⟩ := iR.t h
  have hm := t.hm
  obtain ⟨i1, j1⟩ := two_i (g := 1) t.hm t.many_c t.many_m x1 x2
  obtain ⟨i2, j2⟩ := two_i (g := 1) t.hm t.many_c t.many_m x2 x3
  obtain ⟨i3, j3⟩ := two_i (g := 1) t.hm t.many_c t.many_m x1 x3
  by_cases hx : fX11_areTwo x1 x2 D = 0 ∨ fX11_areTwo x2 x3 D = 0 ∨ fX11_areTwo x1 x3 D = 0 ∨ x4 < 0 ∨ 2 < x4
  · exact trio_ref h x1 x2 x3 x4 hx i1 i2 i3
  · have n1 : ¬ fX11_areTwo x1 x2 D = 0 := fun e => hx (Or.inl e)
    have n2 : ¬ fX11_areTwo x2 x3 D = 0 := fun e => hx (Or.inr (Or.inl e))
    have n3 : ¬ fX11_areTwo x1 x3 D = 0 := fun e => hx (Or.inr (Or.inr (Or.inl e)))
    have n4 : ¬ x4 < 0 := fun e => hx (Or.inr (Or.inr (Or.inr (Or.inl e))))
    have n5 : x4 ≤ 2 := Int32.not_lt.mp (fun e => hx (Or.inr (Or.inr (Or.inr (Or.inr e)))))
    obtain ⟨p, q, hp, hq, -, rfl, rfl⟩ := j1 n1
    obtain ⟨q', r, -, hr, -, -, rfl⟩ := j2 n2
    obtain ⟨a, ha, ea⟩ := bd_nI (hi := 16) (t.insists p hp).2
    obtain ⟨b, hb, eb⟩ := bd_nI (hi := 16) (t.insists q hq).2
    obtain ⟨c, hc, ec⟩ := bd_nI (hi := 16) (t.insists r hr).2
    have m1 : ∀ E, eM D E → ¬ fX12_areTwo (nI p) (nI q) E = 0 := fun E he => by rw [two_m he]; exact fun e => n1 (i1.mpr e)
    have m2 : ∀ E, eM D E → ¬ fX12_areTwo (nI q) (nI r) E = 0 := fun E he => by rw [two_m he]; exact fun e => n2 (i2.mpr e)
    have m3 : ∀ E, eM D E → ¬ fX12_areTwo (nI p) (nI r) E = 0 := fun E he => by rw [two_m he]; exact fun e => n3 (i3.mpr e)
    have C0 : fX11_trio (nI p) (nI q) (nI r) x4 D = (if (fX11_neverEnds (nI a) (nI b)) = 0 then (if (fX11_neverEnds (nI b) (nI c)) = 0 then (if (fX11_neverEnds (nI a) (nI c)) = 0 then (Option.bind (fX11_tell (fX11_trioTop (nI a) (nI b) (nI c) x4) (fX11_trioBottom (nI a) (nI b) (nI c) x4) D) fun q12 => (mz_gd (mz_bo q12.1) (some (q12.1, q12.2)))) else (some ((0 : Int32), (mz_wi D 0 0 13 (6 : Int32))))) else (some ((0 : Int32), (mz_wi D 0 0 13 (6 : Int32))))) else (some ((0 : Int32), (mz_wi D 0 0 13 (6 : Int32))))) := by
      unfold fX11_trio
      rw [if_neg n1, if_neg n2, if_neg n3, if_neg n4, if_pos n5]
      simp (disch := omega) only [nI_ix, gd_tt, nI_cl, ea, eb, ec]
    simp only [nev_e] at C0
    by_cases z1 : nI a = 16 ∧ nI b = 16
    · refine q_look h (r := 0) (v := 6) (by rw [C0, if_pos z1, if_neg one_ne]) (fun E he => ?_)
      unfold fX12_trio fX12_trio_71
      rw [if_neg (m1 E he), if_neg (m3 E he), if_neg (m2 E he), if_neg n4, if_pos n5]
      simp only [(t.m he).endM hp hq, ea, eb, if_pos z1, Option.bind_some, one_ne, if_false, is_e]
      rfl
    · by_cases z2 : nI b = 16 ∧ nI c = 16
      · refine q_look h (r := 0) (v := 6) (by rw [C0, if_neg z1, if_pos rfl, if_pos z2, if_neg one_ne]) (fun E he => ?_)
        unfold fX12_trio fX12_trio_71
        rw [if_neg (m1 E he), if_neg (m3 E he), if_neg (m2 E he), if_neg n4, if_pos n5]
        simp only [(t.m he).endM hp hq, (t.m he).endM hp hr, (t.m he).endM hq hr, ea, eb, ec, if_neg z1, if_pos z2, Option.bind_some, one_ne, if_false, is_e, if_true]
        by_cases z3 : nI a = 16 ∧ nI c = 16
        · simp [z3]
        · simp [z3]
      · by_cases z3 : nI a = 16 ∧ nI c = 16
        · refine q_look h (r := 0) (v := 6) (by rw [C0, if_neg z1, if_pos rfl, if_neg z2, if_pos rfl, if_pos z3, if_neg one_ne]) (fun E he => ?_)
          unfold fX12_trio fX12_trio_71
          rw [if_neg (m1 E he), if_neg (m3 E he), if_neg (m2 E he), if_neg n4, if_pos n5]
          simp only [(t.m he).endM hp hq, (t.m he).endM hp hr, (t.m he).endM hq hr, ea, eb, ec, if_neg z1, if_neg z2, if_pos z3, Option.bind_some, one_ne, if_false, is_e, if_true]
          rfl
        · rw [if_neg z1, if_pos rfl, if_neg z2, if_pos rfl, if_neg z3, if_pos rfl] at C0
          have k1 := lt256 ha hb z1
          have k2 := lt256 hb hc z2
          have k3 := lt256 ha hc z3
          have a1 : ((16 : Int32) - nI a).toInt64 = (16 : Int64) - (nI a).toInt64 := tr1 a (by omega)
          have b1 : ((16 : Int32) - nI b).toInt64 = (16 : Int64) - (nI b).toInt64 := tr1 b (by omega)
          have c1 : ((16 : Int32) - nI c).toInt64 = (16 : Int64) - (nI c).toInt64 := tr1 c (by omega)
          obtain ⟨ab1, ab2, ab3, ab4, ab5⟩ := tr2 a (by omega) b (by omega)
          obtain ⟨bc1, bc2, bc3, bc4, bc5⟩ := tr2 b (by omega) c (by omega)
          obtain ⟨ca1, ca2, ca3, ca4, ca5⟩ := tr2 c (by omega) a (by omega)
          obtain ⟨t1, t2⟩ := tr3 a (by omega) b (by omega) c (by omega)
          have ta := tl_nI (show a < 2147483648 by omega)
          have tb := tl_nI (show b < 2147483648 by omega)
          have tc := tl_nI (show c < 2147483648 by omega)
          have s1 : (16 : Int64) - nL a = nL (16 - a) := nL_sub (a := 16) ha
          have s2 : (16 : Int64) - nL b = nL (16 - b) := nL_sub (a := 16) hb
          have s3 : (16 : Int64) - nL c = nL (16 - c) := nL_sub (a := 16) hc
          have v1 : (256 : Int64) - nL a * nL b = nL (256 - a * b) := by rw [nL_mul]; exact nL_sub (a := 256) (by omega)
          have v2 : (256 : Int64) - nL b * nL c = nL (256 - b * c) := by rw [nL_mul]; exact nL_sub (a := 256) (by omega)
          have v3 : (256 : Int64) - nL c * nL a = nL (256 - c * a) := by rw [nL_mul]; exact nL_sub (a := 256) (by rw [Nat.mul_comm]; omega)
          have u0 := cb3 ha hb hc
          have v4 : (4096 : Int64) - nL a * nL b * nL c = nL (4096 - a * b * c) := by rw [nL_mul, nL_mul]; exact nL_sub (a := 4096) u0
          have hw : x4 = 0 ∨ x4 = 1 ∨ x4 = 2 := by grind
          have P : ∀ E, eM D E → fX12_trio (nI p) (nI q) (nI r) x4 E = (if x4 = 0 then (fX12_trio_219 (nI p) (nI q) (nI r) x4 ((nI a * ((16 : Int32) - nI b)) * (16 : Int32)) ((nI a * nI b) * ((16 : Int32) - nI c)) ((4096 : Int64) - (((nI a * nI b) * nI c)).toInt64) (0 : Int64) E) else (if x4 = (1 : Int32) then (fX12_trio_198 (nI p) (nI q) (nI r) x4 ((nI a * ((16 : Int32) - nI b)) * (16 : Int32)) ((nI a * nI b) * ((16 : Int32) - nI c)) ((4096 : Int64) - (((nI a * nI b) * nI c)).toInt64) (nI b * ((16 : Int32) - nI c)) ((((16 : Int32) - nI a) * (256 : Int32))).toInt64 (0 : Int64) E) else (fX12_trio_198 (nI p) (nI q) (nI r) x4 ((nI a * ((16 : Int32) - nI b)) * (16 : Int32)) ((nI a * nI b) * ((16 : Int32) - nI c)) ((4096 : Int64) - (((nI a * nI b) * nI c)).toInt64) (((256 : Int32) - nI b * nI c) - nI b * ((16 : Int32) - nI c)) ((((16 : Int32) - nI a) * (256 : Int32))).toInt64 (0 : Int64) E))) := fun E he => by
            have t2 := t.m he
            unfold fX12_trio
            rw [if_neg (m1 E he), if_neg (m3 E he), if_neg (m2 E he), if_neg n4, if_pos n5]
            simp only [t2.endM hp hq, t2.endM hp hr, t2.endM hq hr, ea, eb, ec, if_neg z1, if_neg z2, if_neg z3, Option.bind_some, if_true, t2.insM hp, t2.insM hq, t2.insM hr, fX12_first, fX12_behind]
          have n16 : nL 16 = 16 := rfl
          have p1 : (nL a * nL (16 - b)) * nL 16 = nL (a * (16 - b) * 16) := by rw [nL_mul, nL_mul]
          have p2 : (nL a * nL b) * nL (16 - c) = nL (a * b * (16 - c)) := by rw [nL_mul, nL_mul]
          have p0 : (nL (16 - a) * nL 16) * nL 16 = nL ((16 - a) * 16 * 16) := by rw [nL_mul, nL_mul]
          have o1 : a * (16 - b) * 16 ≤ 4096 := mle (mle ha (show 16 - b ≤ 16 by omega)) (Nat.le_refl 16)
          have o2 : a * b * (16 - c) ≤ 4096 := cb3 ha hb (by omega)
          have o0 : (16 - a) * 16 * 16 ≤ 4096 := mle (mle (show 16 - a ≤ 16 by omega) (Nat.le_refl 16)) (Nat.le_refl 16)
          have w0 := cb3' k1 hc
          have k3' : c * a < 256 := by rw [Nat.mul_comm]; exact k3
          rcases hw with rfl | rfl | rfl
          · obtain ⟨f1, f2, f3, f4, f5⟩ := trio_f (o := a) (nx := b) (l := c) (F1 := a * (16 - b) * 16) (F2 := a * b * (16 - c)) (W := 4096 - a * b * c) (y1 := fX11_trioTop (nI a) (nI b) (nI c) 0) (y3 := fX11_trioBottom (nI a) (nI b) (nI c) 0) (z1 := ((0 : Int64) + ((((nI a * ((16 : Int32) - nI b)) * (16 : Int32)).toInt64 * (((256 : Int32) - nI c * nI a) - nI c * ((16 : Int32) - nI a)).toInt64) * ((256 : Int32) - nI b * nI c).toInt64) * ((256 : Int32) - nI a * nI b).toInt64) + ((((nI a * nI b) * ((16 : Int32) - nI c)).toInt64 * (nI a * ((16 : Int32) - nI b)).toInt64) * ((256 : Int32) - nI b * nI c).toInt64) * ((256 : Int32) - nI c * nI a).toInt64) (z3 := ((((4096 : Int64) - ((nI a * nI b) * nI c).toInt64) * ((256 : Int32) - nI a * nI b).toInt64) * ((256 : Int32) - nI b * nI c).toInt64) * ((256 : Int32) - nI c * nI a).toInt64) ha hb hc o1 o2 (by omega) w0 k1 k3' k2 (by rw [top_0 a1 b1 c1, ta, tb, tc, ← p1, ← p2]; simp only [s1, s2, s3, v1, v2, v3, n16]) (by rw [bot_0, ta, tb, tc]; simp only [v4, v1, v2, v3]) (by rw [top_0 a1 b1 c1, ← v2]; simp only [← ta, ← tb, ← tc]; rw [ab1, ab2, ab4, bc2, ca2, ca3, t1]; exact rg_0 _ _ _) (by rw [bot_0, ← v2]; simp only [← ta, ← tb, ← tc]; rw [t2, ab2, bc2, ca2]; exact rb_0 _ _ _)
            refine q_tell h (k := 256 - b * c) (by omega) f4 f5 f1 f2 f3 D sC.rf C0 id (fun E he => ⟨sM.rf, ?_⟩)
            have t2 := t.m he
            rw [P E he]
            simp [fX12_trio_198, fX12_trio_219, fX12_trio_258, fX12_trio_279, fX12_trio_317, fX12_trio_338, fX12_first, fX12_behind, t2.insM hp, t2.insM hq, t2.insM hr, ea, eb, ec]
          · obtain ⟨f1, f2, f3, f4, f5⟩ := trio_f (o := b) (nx := c) (l := a) (F1 := a * b * (16 - c)) (F2 := (16 - a) * 16 * 16) (W := 4096 - a * b * c) (y1 := fX11_trioTop (nI a) (nI b) (nI c) 1) (y3 := fX11_trioBottom (nI a) (nI b) (nI c) 1) (z1 := ((0 : Int64) + (((((16 : Int32) - nI a) * (256 : Int32)).toInt64 * (nI b * ((16 : Int32) - nI c)).toInt64) * ((256 : Int32) - nI c * nI a).toInt64) * ((256 : Int32) - nI a * nI b).toInt64) + ((((nI a * nI b) * ((16 : Int32) - nI c)).toInt64 * (((256 : Int32) - nI a * nI b) - nI a * ((16 : Int32) - nI b)).toInt64) * ((256 : Int32) - nI b * nI c).toInt64) * ((256 : Int32) - nI c * nI a).toInt64) (z3 := ((((4096 : Int64) - ((nI a * nI b) * nI c).toInt64) * ((256 : Int32) - nI a * nI b).toInt64) * ((256 : Int32) - nI b * nI c).toInt64) * ((256 : Int32) - nI c * nI a).toInt64) hb hc ha o2 o0 (by omega) w0 k2 k1 k3' (by rw [top_1 a1 b1 c1, ta, tb, tc, ← p2, ← p0]; simp only [s1, s2, s3, v1, v2, v3, n16]) (by rw [bot_1, ta, tb, tc]; simp only [v4, v1, v2, v3]) (by rw [top_1 a1 b1 c1, ← v3]; simp only [← ta, ← tb, ← tc]; rw [ab2, ab3, ab5, bc1, bc2, ca2, t1]; exact rg_1 _ _ _) (by rw [bot_1, ← v3]; simp only [← ta, ← tb, ← tc]; rw [t2, ab2, bc2, ca2]; exact rb_1 _ _ _)
            refine q_tell h (k := 256 - c * a) (by omega) f4 f5 f1 f2 f3 D sC.rf C0 id (fun E he => ⟨sM.rf, ?_⟩)
            have t2 := t.m he
            rw [P E he]
            simp [fX12_trio_198, fX12_trio_219, fX12_trio_258, fX12_trio_279, fX12_trio_317, fX12_trio_338, fX12_first, fX12_behind, t2.insM hp, t2.insM hq, t2.insM hr, ea, eb, ec]
          · obtain ⟨f1, f2, f3, f4, f5⟩ := trio_f (o := c) (nx := a) (l := b) (F1 := (16 - a) * 16 * 16) (F2 := a * (16 - b) * 16) (W := 4096 - a * b * c) (y1 := fX11_trioTop (nI a) (nI b) (nI c) 2) (y3 := fX11_trioBottom (nI a) (nI b) (nI c) 2) (z1 := ((0 : Int64) + (((((16 : Int32) - nI a) * (256 : Int32)).toInt64 * (((256 : Int32) - nI b * nI c) - nI b * ((16 : Int32) - nI c)).toInt64) * ((256 : Int32) - nI c * nI a).toInt64) * ((256 : Int32) - nI a * nI b).toInt64) + ((((nI a * ((16 : Int32) - nI b)) * (16 : Int32)).toInt64 * (nI c * ((16 : Int32) - nI a)).toInt64) * ((256 : Int32) - nI b * nI c).toInt64) * ((256 : Int32) - nI a * nI b).toInt64) (z3 := ((((4096 : Int64) - ((nI a * nI b) * nI c).toInt64) * ((256 : Int32) - nI a * nI b).toInt64) * ((256 : Int32) - nI b * nI c).toInt64) * ((256 : Int32) - nI c * nI a).toInt64) hc ha hb o0 o1 (by omega) w0 k3' k2 k1 (by rw [top_2 a1 b1 c1, ta, tb, tc, ← p0, ← p1]; simp only [s1, s2, s3, v1, v2, v3, n16]) (by rw [bot_2, ta, tb, tc]; simp only [v4, v1, v2, v3]) (by rw [top_2 a1 b1 c1, ← v1]; simp only [← ta, ← tb, ← tc]; rw [ab2, ab4, ab5, bc2, bc3, ca1, ca2]; exact rg_2 _ _ _) (by rw [bot_2, ← v1]; simp only [← ta, ← tb, ← tc]; rw [t2, ab2, bc2, ca2]; exact rb_2 _ _ _)
            refine q_tell h (k := 256 - a * b) (by omega) f4 f5 f1 f2 f3 D sC.rf C0 id (fun E he => ⟨sM.rf, ?_⟩)
            have t2 := t.m he
            rw [P E he]
            simp [fX12_trio_198, fX12_trio_219, fX12_trio_258, fX12_trio_279, fX12_trio_317, fX12_trio_338, fX12_first, fX12_behind, t2.insM hp, t2.insM hq, t2.insM hr, ea, eb, ec]
