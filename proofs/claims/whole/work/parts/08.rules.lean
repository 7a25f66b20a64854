/-! ===== switches, copies of rows, the row of marks ===== -/
def mz_sw (x : Int32) (d : Nat) : List (Int32 × Nat) → Nat
  | [] => d
  | (v, t) :: l => if x = v then t else mz_sw x d l
theorem mz_sw_out {x : Int32} {d : Nat} : ∀ (tb : List (Int32 × Nat)), (∀ q ∈ tb, x ≠ q.1) → mz_sw x d tb = d
  | [], _ => rfl
  | (v, t) :: l, h => by
    rw [mz_sw, if_neg (h (v, t) List.mem_cons_self)]
    exact mz_sw_out l (fun q hq => h q (List.mem_cons_of_mem _ hq))
theorem mz_sw_in {x : Int32} {d t : Nat} : ∀ (tb : List (Int32 × Nat)) (j : Nat), tb[j]? = some (x, t) → (∀ i v u, i < j → tb[i]? = some (v, u) → v ≠ x) → mz_sw x d tb = t
  | [], j, h, _ => by simp at h
  | (v, u) :: l, 0, h, _ => by
    simp at h
    rw [mz_sw, if_pos h.1.symm, h.2]
  | (v, u) :: l, j + 1, h, hn => by
    have h0 : v ≠ x := hn 0 v u (by omega) rfl
    rw [mz_sw, if_neg (fun e => h0 e.symm)]
    exact mz_sw_in l j (by simpa using h) (fun i w z hi hz => hn (i + 1) w z (by omega) (by simpa using hz))
def mz_okT (pc : Nat) (dflt lo hi : Int) (offs : Array Int) (tb : List (Int32 × Nat)) (d : Nat) : Bool := decide (tb.length = offs.size) && decide (hi = lo + offs.size - 1) && decide ((pc : Int) + dflt = d) && (List.range offs.size).all fun j => match tb[j]?, offs[j]? with
  | some (v, t), some off => decide (v.toInt = lo + j) && decide ((pc : Int) + off = t)
  | _, _ => false
section GO8
variable {I : mz_I} {rs : Option mz_V × mz_D} {nc ns pc : Nat} {L : mz_L} {S : List mz_V} {D : mz_D}
theorem mz_Go.tsw {dflt lo hi : Int} {offs : Array Int} {len : Nat} {x : Int32} (tb : List (Int32 × Nat)) (d : Nat) (hdg : decode I.2.1 pc = .ok (.tableswitch dflt lo hi offs, len)) (hok : mz_okT pc dflt lo hi offs tb d = true) (k : mz_Go I rs nc ns (mz_sw x d tb, L, S, D)) : mz_Go I rs nc ns (pc, L, .inl x :: S, D) := by
  simp only [mz_okT, Bool.and_eq_true, decide_eq_true_eq, List.all_eq_true, List.mem_range] at hok
  obtain ⟨⟨⟨hlen, hhi⟩, hd⟩, hall⟩ := hok
  have key : ∀ (j : Nat) (v : Int32) (t : Nat), tb[j]? = some (v, t) → v.toInt = lo + j ∧ ∃ off, offs[j]? = some off ∧ (pc : Int) + off = t := by
    intro j v t hj
    have hjl : j < tb.length := (List.getElem?_eq_some_iff.mp hj).1
    have h1 := hall j (by omega)
    rw [hj] at h1
    split at h1
    · next v2 t2 off he ho =>
      cases he
      simp only [Bool.and_eq_true, decide_eq_true_eq] at h1
      exact ⟨h1.1, off, ho, h1.2⟩
    · cases h1
  intro p l e s m args below meth c G cA A ad ks C hr hlk H locs ls hP hD hS hl
  have kw := k p l e s m args below meth c G cA A ad ks C hr hlk H locs ls hP hD hS hl
  by_cases hlo : x.toInt < lo ∨ hi < x.toInt
  · refine lv_tableOut C.1.1 C.1.2.1 hdg hlo hd ?_
    have e1 : mz_sw x d tb = d := mz_sw_out tb (fun q hq e => by
      obtain ⟨j, hj⟩ := List.getElem?_of_mem hq
      have hjl : j < tb.length := (List.getElem?_eq_some_iff.mp hj).1
      have h2 := (key j q.1 q.2 hj).1
      rw [← e] at h2
      rcases hlo with h | h <;> omega)
    rw [show ((mz_sw x d tb, L, S, D) : mz_S).1 = mz_sw x d tb from rfl, e1] at kw
    exact kw
  · have h1 : ¬ x.toInt < lo := fun h => hlo (Or.inl h)
    have h2 : ¬ hi < x.toInt := fun h => hlo (Or.inr h)
    have hjl : (x.toInt - lo).toNat < tb.length := by omega
    obtain ⟨⟨v, t⟩, hj⟩ : ∃ q, tb[(x.toInt - lo).toNat]? = some q := ⟨_, List.getElem?_eq_getElem hjl⟩
    obtain ⟨h3, off, ho, ht⟩ := key _ v t hj
    have hv : v = x := Int32.toInt_inj.mp (by omega)
    subst hv
    refine lv_tableIn C.1.1 C.1.2.1 hdg h1 h2 ho ht ?_
    have e1 : mz_sw v d tb = t := mz_sw_in tb _ hj (fun i w u hi hw e => by
      have h4 := (key i w u hw).1
      rw [e] at h4
      omega)
    rw [show ((mz_sw v d tb, L, S, D) : mz_S).1 = mz_sw v d tb from rfl, e1] at kw
    exact kw
theorem mz_Go.swc {x v : Int32} {d t : Nat} {tb : List (Int32 × Nat)} (h1 : x = v → mz_Go I rs nc ns (t, L, S, D)) (h2 : ¬ x = v → mz_Go I rs nc ns (mz_sw x d tb, L, S, D)) : mz_Go I rs nc ns (mz_sw x d ((v, t) :: tb), L, S, D) := by
  by_cases h : x = v
  · rw [mz_sw, if_pos h]; exact h1 h
  · rw [mz_sw, if_neg h]; exact h2 h
def mz_okU (pc : Nat) (dflt : Int) (ps : Array (Int × Int)) (tb : List (Int32 × Nat)) (d : Nat) : Bool := decide ((ps.toList.zip (ps.toList.drop 1)).all (fun (a, next) => a.1 < next.1) = true) && decide ((pc : Int) + dflt = d) && decide (ps.toList = tb.map fun q => (q.1.toInt, (q.2 : Int) - pc))
theorem mz_lko {pc : Nat} {dflt : Int} {d : Nat} {x : Int32} (hd : (pc : Int) + dflt = d) : ∀ tb : List (Int32 × Nat), (pc : Int) + Op.lookupswitch.offset (tb.map fun q => (q.1.toInt, (q.2 : Int) - pc)) dflt x.toInt = (mz_sw x d tb : Nat)
  | [] => by rw [List.map_nil, mz_sw]; unfold Op.lookupswitch.offset; exact hd
  | (v, t) :: l => by
    rw [List.map_cons, mz_sw]
    unfold Op.lookupswitch.offset
    by_cases h : x = v
    · rw [if_pos h]
      subst h
      simp
      omega
    · rw [if_neg h]
      have h2 : ¬ v.toInt = x.toInt := fun e => h (Int32.toInt_inj.mp e.symm)
      have h3 : ¬ x.toInt = v.toInt := fun e => h2 e.symm
      simp only [beq_iff_eq, h2, h3, if_false]
      exact mz_lko hd l
theorem mz_Go.lsw {dflt : Int} {ps : Array (Int × Int)} {len : Nat} {x : Int32} (tb : List (Int32 × Nat)) (d : Nat) (hdg : decode I.2.1 pc = .ok (.lookupswitch dflt ps, len)) (hok : mz_okU pc dflt ps tb d = true) (k : mz_Go I rs nc ns (mz_sw x d tb, L, S, D)) : mz_Go I rs nc ns (pc, L, .inl x :: S, D) := by
  simp only [mz_okU, Bool.and_eq_true, decide_eq_true_eq] at hok
  obtain ⟨⟨hsort, hd⟩, hps⟩ := hok
  intro p l e s m args below meth c G cA A ad ks C hr hlk H locs ls hP hD hS hl
  refine lv_lookup C.1.1 C.1.2.1 hdg hsort rfl ?_ (k p l e s m args below meth c G cA A ad ks C hr hlk H locs ls hP hD hS hl)
  rw [hps]
  exact mz_lko hd tb
/-! copies of rows -/
def mz_cpi (D : mz_D) (g o g' o' sp dp n : Nat) : mz_D := (fun a b c => if b = o' ∧ a = g' then va_cpy (D.1 g o) (D.1 g' o') sp dp n c else D.1 a b c, D.2)
def mz_cpl (D : mz_D) (g o g' o' sp dp n : Nat) : mz_D := (D.1, fun a b c => if b = o' ∧ a = g' then va_cpy (D.2 g o) (D.2 g' o') sp dp n c else D.2 a b c)
def mz_cpg (sp dp n : Int32) (n0 n1 : Nat) : Bool := decide (¬ sp < 0) && decide (¬ dp < 0) && decide (¬ n < 0) && decide (sp.toNatClampNeg + n.toNatClampNeg ≤ n0) && decide (dp.toNatClampNeg + n.toNatClampNeg ≤ n1)
def mz_okC (I : mz_I) (idx pl pn ps pi : Nat) : Bool := decide (lw_tbl[pl]? = some (.methodLink I.1.cls idx arraycopyName)) && decide (lw_tbl[pn]? = some (.native arraycopyName)) && decide (lw_tbl[ps]? = some (.static arraycopyName)) && decide (lw_tbl[pi]? = some (.initialized "java/lang/System")) && Nat.ble 1 I.2.2.2.2.2.1
theorem mz_nfw : nativeFrameWords "java/lang/System" "arraycopy" 5 + 11 ≤ 90 := by decide +kernel
set_option maxHeartbeats 2000000 in
theorem mz_Go.cpi {idx pl pn ps pi g o g' o' n0 n1 : Nat} {sp dp n : Int32} {rest : List mz_V} (hok : mz_okC I idx pl pn ps pi = true) (hdg : decode I.2.1 pc = .ok (.invokestatic idx, 3)) (hsh : mz_sh o = (1, n0)) (hsh' : mz_sh o' = (1, n1)) (hkz : mz_kz I.2.2.2.2.1 g o = true) (hkz' : mz_kz I.2.2.2.2.1 g' o' = true) (hg : mz_cpg sp dp n n0 n1 = true) (hw : Nat.ble (rest.map mz_cat).sum 8 = true) (k : mz_Go I rs nc ns (pc + 3, L, rest, mz_cpi D g o g' o' sp.toNatClampNeg dp.toNatClampNeg n.toNatClampNeg)) : mz_Go I rs nc ns (pc, L, .inl n :: .inl dp :: .inr (.inr (some (g', o'))) :: .inl sp :: .inr (.inr (some (g, o))) :: rest, D) := by
  intro p l e s m args below meth c G cA A ad ks C hr hlk H locs ls hP hD hS hl
  simp only [mz_okC, mz_cpg, Bool.and_eq_true, decide_eq_true_eq] at hok hg
  obtain ⟨⟨hx, hb, hml, hown, hts⟩, hK, hA, hks, hnw, hX⟩ := id C
  obtain ⟨q0, hq0⟩ := mz_key C hkz
  obtain ⟨q1, hq1⟩ := mz_key C hkz'
  have he := mz_wl_at (cA := cA) (ad := ad) (D := D) hq0
  have he' := mz_wl_at (cA := cA) (ad := ad) (D := D) hq1
  simp only [mz_ce, hsh] at he
  simp only [mz_ce, hsh'] at he'
  have h8 := Nat.le_of_ble_eq_true hw
  have hd1 := Nat.le_of_ble_eq_true hok.2
  refine va_copyi hx hb (hml.trans hl.1.symm) hown (hts _ (mz_wm hok.1.1.1.1 rfl)) (hts _ (mz_wm hok.1.1.1.2 rfl)) (hts _ (mz_wm hok.1.1.2 rfl)) (hts _ (mz_wm hok.1.2 rfl)) hK hP hD hS q0 q1 0 0 he he' rfl rfl rfl hg.1.1.1.1 hg.1.1.1.2 hg.1.1.2 hg.1.2 hg.2 (fun _ _ => rfl) hd1 ?_ hdg (fun H1 locs1 p1 d1 s1 => ?_)
  · rw [mz_sum_cat]
    have := mz_nfw
    show _ ≤ 100 * I.2.2.2.2.2.1
    omega
  · have hset : (mz_wl cA ad ks D).set q1 (ad g' o', .inl (cA 0, n1, .inl (va_cpy (D.1 g o) (D.1 g' o') sp.toNatClampNeg dp.toNatClampNeg n.toNatClampNeg))) = mz_wl cA ad ks (mz_cpi D g o g' o' sp.toNatClampNeg dp.toNatClampNeg n.toNatClampNeg) := mz_wl_set hD hq1 (by
      simp only [mz_ce, hsh']
      congr 4
      funext j
      simp [mz_cpi]) (fun a b hab => mz_ce_ext (by
        funext j
        simp only [mz_cpi]
        rw [if_neg (fun q => hab ⟨q.2, q.1⟩)]) rfl)
    rw [hset] at p1 d1
    exact k p l e s m args below meth c G cA A ad ks C hr hlk H1 locs1 ls p1 d1 s1 hl
set_option maxHeartbeats 2000000 in
theorem mz_Go.cpl {idx pl pn ps pi g o g' o' n0 n1 : Nat} {sp dp n : Int32} {rest : List mz_V} (hok : mz_okC I idx pl pn ps pi = true) (hdg : decode I.2.1 pc = .ok (.invokestatic idx, 3)) (hsh : mz_sh o = (3, n0)) (hsh' : mz_sh o' = (3, n1)) (hkz : mz_kz I.2.2.2.2.1 g o = true) (hkz' : mz_kz I.2.2.2.2.1 g' o' = true) (hg : mz_cpg sp dp n n0 n1 = true) (hw : Nat.ble (rest.map mz_cat).sum 8 = true) (k : mz_Go I rs nc ns (pc + 3, L, rest, mz_cpl D g o g' o' sp.toNatClampNeg dp.toNatClampNeg n.toNatClampNeg)) : mz_Go I rs nc ns (pc, L, .inl n :: .inl dp :: .inr (.inr (some (g', o'))) :: .inl sp :: .inr (.inr (some (g, o))) :: rest, D) := by
  intro p l e s m args below meth c G cA A ad ks C hr hlk H locs ls hP hD hS hl
  simp only [mz_okC, mz_cpg, Bool.and_eq_true, decide_eq_true_eq] at hok hg
  obtain ⟨⟨hx, hb, hml, hown, hts⟩, hK, hA, hks, hnw, hX⟩ := id C
  obtain ⟨q0, hq0⟩ := mz_key C hkz
  obtain ⟨q1, hq1⟩ := mz_key C hkz'
  have he := mz_wl_at (cA := cA) (ad := ad) (D := D) hq0
  have he' := mz_wl_at (cA := cA) (ad := ad) (D := D) hq1
  simp only [mz_ce, hsh] at he
  simp only [mz_ce, hsh'] at he'
  have h8 := Nat.le_of_ble_eq_true hw
  have hd1 := Nat.le_of_ble_eq_true hok.2
  refine va_copyl hx hb (hml.trans hl.1.symm) hown (hts _ (mz_wm hok.1.1.1.1 rfl)) (hts _ (mz_wm hok.1.1.1.2 rfl)) (hts _ (mz_wm hok.1.1.2 rfl)) (hts _ (mz_wm hok.1.2 rfl)) hK hP hD hS q0 q1 2 2 he he' rfl rfl rfl hg.1.1.1.1 hg.1.1.1.2 hg.1.1.2 hg.1.2 hg.2 (fun _ _ => rfl) hd1 ?_ hdg (fun H1 locs1 p1 d1 s1 => ?_)
  · rw [mz_sum_cat]
    have := mz_nfw
    show _ ≤ 100 * I.2.2.2.2.2.1
    omega
  · have hset : (mz_wl cA ad ks D).set q1 (ad g' o', .inl (cA 2, n1, .inr (.inl (va_cpy (D.2 g o) (D.2 g' o') sp.toNatClampNeg dp.toNatClampNeg n.toNatClampNeg)))) = mz_wl cA ad ks (mz_cpl D g o g' o' sp.toNatClampNeg dp.toNatClampNeg n.toNatClampNeg) := mz_wl_set hD hq1 (by
      simp only [mz_ce, hsh']
      congr 5
      funext j
      simp [mz_cpl]) (fun a b hab => mz_ce_ext rfl (by
        funext j
        simp only [mz_cpl]
        rw [if_neg (fun q => hab ⟨q.2, q.1⟩)]))
    rw [hset] at p1 d1
    exact k p l e s m args below meth c G cA A ad ks C hr hlk H1 locs1 ls p1 d1 s1 hl
theorem mz_ch8 {i : Int32} (h : mz_ix i 3 = true) : mz_ch 0 8 i.toNatClampNeg = some (3 + i.toNatClampNeg, 100) := by
  simp only [mz_ix, Bool.and_eq_true, decide_eq_true_eq] at h
  have h2 := h.2
  generalize i.toNatClampNeg = j at h2
  match j, h2 with
  | 0, _ => rfl
  | 1, _ => rfl
  | 2, _ => rfl
theorem mz_Go.aal8 {i : Int32} (hok : mz_ok I.1.cls I.2.1 I.2.2.1 (pc, .aaload, 0, 0, 0, 0, 0) = true) (hkz : mz_kz I.2.2.2.2.1 0 8 = true) (hg : mz_ix i 3 = true) (k : mz_Go I rs nc ns (pc + 1, L, .inr (.inr (some (3 + i.toNatClampNeg, 100))) :: S, D)) : mz_Go I rs nc ns (pc, L, .inl i :: .inr (.inr (some (0, 8))) :: S, D) := by
  refine mz_Go.run (gs := [mz_kz I.2.2.2.2.1 0 8, mz_ix i 3]) (st' := (pc + 1, L, .inr (.inr (mz_ch 0 8 i.toNatClampNeg)) :: S, D)) [(pc, .aaload, 0, 0, 0, 0, 0)] (by rw [List.all_cons, hok]; rfl) ?_ ⟨hkz, hg, trivial⟩ ?_
  · simp only [mz_run, mz_step, mz_ex, mz_ald]
    rw [show Nat.beq pc pc = true from Nat.beq_refl pc]
    rfl
  · rw [mz_ch8 hg]
    exact k
end GO8
/-! what the functions are made of -/
def mz_gd {α : Type} (b : Bool) (x : Option α) : Option α := bif b then x else none
theorem mz_gd_some {α : Type} {b : Bool} {x : Option α} {y : α} (h : mz_gd b x = some y) : b = true ∧ x = some y := by
  cases b with
  | false => cases h
  | true => exact ⟨rfl, h⟩
theorem mz_bd_some {α β : Type} {x : Option α} {f : α → Option β} {y : β} (h : x.bind f = some y) : ∃ a, x = some a ∧ f a = some y := by
  cases x with
  | none => cases h
  | some a => exact ⟨a, rfl, h⟩
def mz_N : Nat := 1000000
theorem mz_ifp {α : Type} {c : Prop} {hd : Decidable c} {a b y : α} (hc : c) (h : @ite α c hd a b = y) : a = y := by
  rw [if_pos hc] at h
  exact h
theorem mz_ifn {α : Type} {c : Prop} {hd : Decidable c} {a b y : α} (hc : ¬ c) (h : @ite α c hd a b = y) : b = y := by
  rw [if_neg hc] at h
  exact h
theorem mz_tb8 {i : Int32} (h : mz_ix i 3 = true) : mz_tb (3 + i.toNatClampNeg) = true := by
  simp only [mz_ix, Bool.and_eq_true, decide_eq_true_eq] at h
  have h2 := h.2
  simp only [mz_tb, Bool.and_eq_true]
  exact ⟨Nat.ble_eq_true_of_le (by omega), Nat.ble_eq_true_of_le (by omega)⟩
