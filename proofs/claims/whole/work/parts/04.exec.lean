/-! ===== the abstract machine: an instruction ===== -/
def mz_ldi (np i : Nat) (L : mz_L) (S : List mz_V) (D : mz_D) : Option (List Bool × mz_S) := match L[i]? with
  | some (some (.inl v)) => some ([], (np, L, .inl v :: S, D))
  | _ => none
def mz_ldl (np i : Nat) (L : mz_L) (S : List mz_V) (D : mz_D) : Option (List Bool × mz_S) := match L[i]? with
  | some (some (.inr (.inl v))) => some ([], (np, L, .inr (.inl v) :: S, D))
  | _ => none
def mz_lda (np i : Nat) (L : mz_L) (S : List mz_V) (D : mz_D) : Option (List Bool × mz_S) := match L[i]? with
  | some (some (.inr (.inr (some k)))) => some ([], (np, L, .inr (.inr (some k)) :: S, D))
  | _ => none
def mz_sti (np i : Nat) (L : mz_L) (S : List mz_V) (D : mz_D) : Option (List Bool × mz_S) := match S with
  | .inl v :: S => some ([], (np, mz_st1 L i (.inl v), S, D))
  | _ => none
def mz_stl (np i : Nat) (L : mz_L) (S : List mz_V) (D : mz_D) : Option (List Bool × mz_S) := match S with
  | .inr (.inl v) :: S => some ([], (np, mz_st2 L i (.inr (.inl v)), S, D))
  | _ => none
def mz_sta (np i : Nat) (L : mz_L) (S : List mz_V) (D : mz_D) : Option (List Bool × mz_S) := match S with
  | .inr (.inr (some k)) :: S => some ([], (np, mz_st1 L i (.inr (.inr (some k))), S, D))
  | _ => none
def mz_i2 (np : Nat) (f : Int32 → Int32 → Int32) (L : mz_L) (S : List mz_V) (D : mz_D) : Option (List Bool × mz_S) := match S with
  | .inl y :: .inl x :: S => some ([], (np, L, .inl (f x y) :: S, D))
  | _ => none
def mz_l2 (np : Nat) (f : Int64 → Int64 → Int64) (L : mz_L) (S : List mz_V) (D : mz_D) : Option (List Bool × mz_S) := match S with
  | .inr (.inl y) :: .inr (.inl x) :: S => some ([], (np, L, .inr (.inl (f x y)) :: S, D))
  | _ => none
def mz_i1 (np : Nat) (f : Int32 → Int32) (L : mz_L) (S : List mz_V) (D : mz_D) : Option (List Bool × mz_S) := match S with
  | .inl x :: S => some ([], (np, L, .inl (f x) :: S, D))
  | _ => none
def mz_jz (A B : mz_S) (c : Int32 → Prop) (hc : DecidablePred c) (x : Int32) : mz_S := @ite _ (c x) (hc x) A B
def mz_cz (P : Int32 → Bool) (x : Int32) (A B : mz_S) : mz_S := bif P x then A else B
def mz_getv (md pc ci k : Nat) (L : mz_L) (S : List mz_V) (D : mz_D) : Option (List Bool × mz_S) := match S with
  | .inr (.inr (some (g, o))) :: S => match mz_sh o with
    | (0, c) => bif Nat.beq c ci then (match mz_ty ci k with
      | 1 => some ([mz_kz md g o], (pc + 3, L, .inr (.inl (D.2 g o k)) :: S, D))
      | 2 => some ([mz_kz md g o], (pc + 3, L, .inr (.inr (mz_ch g o k)) :: S, D))
      | _ => some ([mz_kz md g o], (pc + 3, L, .inl (D.1 g o k) :: S, D))) else none
    | _ => none
  | _ => none
def mz_putv (md pc ci k : Nat) (L : mz_L) (S : List mz_V) (D : mz_D) : Option (List Bool × mz_S) := match S with
  | .inl v :: .inr (.inr (some (g, o))) :: S => match mz_sh o with
    | (0, c) => bif Nat.beq c ci then (match mz_ty ci k with
      | 0 => some ([mz_kz md g o], (pc + 3, L, S, mz_wi D g o k v))
      | 3 => some ([mz_kz md g o, mz_bo v], (pc + 3, L, S, mz_wi D g o k v))
      | _ => none) else none
    | _ => none
  | .inr (.inl v) :: .inr (.inr (some (g, o))) :: S => match mz_sh o with
    | (0, c) => bif Nat.beq c ci then (match mz_ty ci k with
      | 1 => some ([mz_kz md g o], (pc + 3, L, S, mz_wg D g o k v))
      | _ => none) else none
    | _ => none
  | _ => none
def mz_ald (md pc t : Nat) (L : mz_L) (S : List mz_V) (D : mz_D) : Option (List Bool × mz_S) := match S with
  | .inl i :: .inr (.inr (some (g, o))) :: S => match mz_sh o with
    | (c, n) => bif Nat.beq c t then (match t with
      | 1 => some ([mz_kz md g o, mz_ix i n], (pc + 1, L, .inl (D.1 g o i.toNatClampNeg) :: S, D))
      | 2 => some ([mz_kz md g o, mz_ix i n], (pc + 1, L, .inl (D.1 g o i.toNatClampNeg) :: S, D))
      | 3 => some ([mz_kz md g o, mz_ix i n], (pc + 1, L, .inr (.inl (D.2 g o i.toNatClampNeg)) :: S, D))
      | 4 => some ([mz_kz md g o, mz_ix i n], (pc + 1, L, .inr (.inr (mz_ch g o i.toNatClampNeg)) :: S, D))
      | _ => none) else none
  | _ => none
def mz_ast (md pc t : Nat) (L : mz_L) (S : List mz_V) (D : mz_D) : Option (List Bool × mz_S) := match S with
  | .inl v :: .inl i :: .inr (.inr (some (g, o))) :: S => match mz_sh o with
    | (c, n) => bif Nat.beq c t then (match t with
      | 1 => some ([mz_kz md g o, mz_ix i n], (pc + 1, L, S, mz_wi D g o i.toNatClampNeg v))
      | 2 => some ([mz_kz md g o, mz_ix i n], (pc + 1, L, S, mz_wi D g o i.toNatClampNeg v.toInt8.toInt32))
      | _ => none) else none
  | .inr (.inl v) :: .inl i :: .inr (.inr (some (g, o))) :: S => match mz_sh o with
    | (c, n) => bif Nat.beq c t then (match t with
      | 3 => some ([mz_kz md g o, mz_ix i n], (pc + 1, L, S, mz_wg D g o i.toNatClampNeg v))
      | _ => none) else none
  | _ => none
def mz_alen (md pc : Nat) (L : mz_L) (S : List mz_V) (D : mz_D) : Option (List Bool × mz_S) := match S with
  | .inr (.inr (some (g, o))) :: S => match mz_sh o with
    | (0, _) => none
    | (_, n) => some ([mz_kz md g o], (pc + 1, L, .inl (Int32.ofNat n) :: S, D))
  | _ => none
/-- the case of a switch -/
def mz_swt (x : Int32) (d : Nat) : List (Int × Nat) → Nat
  | [] => d
  | (v, t) :: l => if x.toInt = v then t else mz_swt x d l
def mz_ex (md pc : Nat) (ins : Instr) (x y : Nat) (v : Int32) (w : Int64) (L : mz_L) (S : List mz_V) (D : mz_D) : Option (List Bool × mz_S) := match ins with
  | .iload i => mz_ldi (pc + 2) i L S D
  | .iload_n i => mz_ldi (pc + 1) i.val L S D
  | .lload i => mz_ldl (pc + 2) i L S D
  | .lload_n i => mz_ldl (pc + 1) i.val L S D
  | .aload i => mz_lda (pc + 2) i L S D
  | .aload_n i => mz_lda (pc + 1) i.val L S D
  | .istore i => mz_sti (pc + 2) i L S D
  | .istore_n i => mz_sti (pc + 1) i.val L S D
  | .lstore i => mz_stl (pc + 2) i L S D
  | .lstore_n i => mz_stl (pc + 1) i.val L S D
  | .astore i => mz_sta (pc + 2) i L S D
  | .astore_n i => mz_sta (pc + 1) i.val L S D
  | .iinc i _ => match L[i]? with
    | some (some (.inl u)) => some ([], (pc + 3, mz_st1 L i (.inl (u + v)), S, D))
    | _ => none
  | .iconst _ => some ([], (pc + 1, L, .inl v :: S, D))
  | .bipush _ => some ([], (pc + 2, L, .inl v :: S, D))
  | .sipush _ => some ([], (pc + 3, L, .inl v :: S, D))
  | .lconst _ => some ([], (pc + 1, L, .inr (.inl w) :: S, D))
  | .ldc _ => some ([], (pc + 2, L, .inl v :: S, D))
  | .ldc_w _ => some ([], (pc + 3, L, .inl v :: S, D))
  | .ldc2_w _ => some ([], (pc + 3, L, .inr (.inl w) :: S, D))
  | .iadd => mz_i2 (pc + 1) (fun x y => x + y) L S D
  | .isub => mz_i2 (pc + 1) (fun x y => x - y) L S D
  | .imul => mz_i2 (pc + 1) (fun x y => x * y) L S D
  | .iand => mz_i2 (pc + 1) (fun x y => x &&& y) L S D
  | .ior => mz_i2 (pc + 1) (fun x y => x ||| y) L S D
  | .ixor => mz_i2 (pc + 1) (fun x y => x ^^^ y) L S D
  | .ishl => mz_i2 (pc + 1) (fun x y => x <<< (y &&& 31)) L S D
  | .ishr => mz_i2 (pc + 1) (fun x y => x >>> (y &&& 31)) L S D
  | .iushr => mz_i2 (pc + 1) (fun x y => (x.toUInt32 >>> (y.toUInt32 &&& Int32.toUInt32 31)).toInt32) L S D
  | .idiv => match S with
    | .inl y :: .inl x :: S => some ([mz_nz y], (pc + 1, L, .inl (x / y) :: S, D))
    | _ => none
  | .irem => match S with
    | .inl y :: .inl x :: S => some ([mz_nz y], (pc + 1, L, .inl (x - x / y * y) :: S, D))
    | _ => none
  | .ineg => mz_i1 (pc + 1) (fun x => -x) L S D
  | .i2b => mz_i1 (pc + 1) (fun x => x.toInt8.toInt32) L S D
  | .i2s => mz_i1 (pc + 1) (fun x => x.toInt16.toInt32) L S D
  | .ladd => mz_l2 (pc + 1) (fun x y => x + y) L S D
  | .lsub => mz_l2 (pc + 1) (fun x y => x - y) L S D
  | .lmul => mz_l2 (pc + 1) (fun x y => x * y) L S D
  | .lor => mz_l2 (pc + 1) (fun x y => x ||| y) L S D
  | .ldiv => match S with
    | .inr (.inl y) :: .inr (.inl x) :: S => some ([mz_nzl y], (pc + 1, L, .inr (.inl (x / y)) :: S, D))
    | _ => none
  | .lrem => match S with
    | .inr (.inl y) :: .inr (.inl x) :: S => some ([mz_nzl y], (pc + 1, L, .inr (.inl (x - x / y * y)) :: S, D))
    | _ => none
  | .lneg => match S with
    | .inr (.inl x) :: S => some ([], (pc + 1, L, .inr (.inl (-x)) :: S, D))
    | _ => none
  | .lshl => match S with
    | .inl y :: .inr (.inl x) :: S => some ([], (pc + 1, L, .inr (.inl (x <<< (y.toInt64 &&& 63))) :: S, D))
    | _ => none
  | .i2l => match S with
    | .inl x :: S => some ([], (pc + 1, L, .inr (.inl x.toInt64) :: S, D))
    | _ => none
  | .l2i => match S with
    | .inr (.inl x) :: S => some ([], (pc + 1, L, .inl x.toInt32 :: S, D))
    | _ => none
  | .lcmp => match S with
    | .inr (.inl y) :: .inr (.inl x) :: S => some ([], (pc + 1, L, .inl (lg_cmp x y) :: S, D))
    | _ => none
  | .dup => match S with
    | .inr (.inl _) :: _ => none
    | v :: S => some ([], (pc + 1, L, v :: v :: S, D))
    | _ => none
  | .pop => match S with
    | .inr (.inl _) :: _ => none
    | _ :: S => some ([], (pc + 1, L, S, D))
    | _ => none
  | .dup_x1 => match S with
    | .inl v :: .inr (.inr k) :: S => some ([], (pc + 1, L, .inl v :: .inr (.inr k) :: .inl v :: S, D))
    | _ => none
  | .dup2 => match S with
    | .inl v :: .inr (.inr k) :: S => some ([], (pc + 1, L, .inl v :: .inr (.inr k) :: .inl v :: .inr (.inr k) :: S, D))
    | _ => none
  | .goto _ => some ([], (y, L, S, D))
  | .ifCond .eq _ => match S with
    | .inl u :: S => some ([], if u = 0 then (y, L, S, D) else (pc + 3, L, S, D))
    | _ => none
  | .ifCond .ne _ => match S with
    | .inl u :: S => some ([], if u = 0 then (pc + 3, L, S, D) else (y, L, S, D))
    | _ => none
  | .ifCond .lt _ => match S with
    | .inl u :: S => some ([], if u < 0 then (y, L, S, D) else (pc + 3, L, S, D))
    | _ => none
  | .ifCond .ge _ => match S with
    | .inl u :: S => some ([], if 0 ≤ u then (y, L, S, D) else (pc + 3, L, S, D))
    | _ => none
  | .ifCond .gt _ => match S with
    | .inl u :: S => some ([], if 0 < u then (y, L, S, D) else (pc + 3, L, S, D))
    | _ => none
  | .ifCond .le _ => match S with
    | .inl u :: S => some ([], if u ≤ 0 then (y, L, S, D) else (pc + 3, L, S, D))
    | _ => none
  | .if_icmp .eq _ => match S with
    | .inl b :: .inl a :: S => some ([], if a = b then (y, L, S, D) else (pc + 3, L, S, D))
    | _ => none
  | .if_icmp .ne _ => match S with
    | .inl b :: .inl a :: S => some ([], if a = b then (pc + 3, L, S, D) else (y, L, S, D))
    | _ => none
  | .if_icmp .lt _ => match S with
    | .inl b :: .inl a :: S => some ([], if a < b then (y, L, S, D) else (pc + 3, L, S, D))
    | _ => none
  | .if_icmp .ge _ => match S with
    | .inl b :: .inl a :: S => some ([], if b ≤ a then (y, L, S, D) else (pc + 3, L, S, D))
    | _ => none
  | .if_icmp .gt _ => match S with
    | .inl b :: .inl a :: S => some ([], if b < a then (y, L, S, D) else (pc + 3, L, S, D))
    | _ => none
  | .if_icmp .le _ => match S with
    | .inl b :: .inl a :: S => some ([], if a ≤ b then (y, L, S, D) else (pc + 3, L, S, D))
    | _ => none
  | .getfield _ => mz_getv md pc x y L S D
  | .putfield _ => mz_putv md pc x y L S D
  | .iaload => mz_ald md pc 1 L S D
  | .baload => mz_ald md pc 2 L S D
  | .laload => mz_ald md pc 3 L S D
  | .aaload => mz_ald md pc 4 L S D
  | .iastore => mz_ast md pc 1 L S D
  | .bastore => mz_ast md pc 2 L S D
  | .lastore => mz_ast md pc 3 L S D
  | .arraylength => mz_alen md pc L S D
  | _ => none
def mz_len (ins : Instr) : Nat := match ins with
  | .iload _ | .lload _ | .aload _ | .istore _ | .lstore _ | .astore _ | .bipush _ | .ldc _ => 2
  | .iinc _ _ | .sipush _ | .ldc_w _ | .ldc2_w _ | .goto _ | .ifCond _ _ | .if_icmp _ _ | .getfield _ | .putfield _ | .invokevirtual _ | .invokestatic _ | .invokespecial _ => 3
  | _ => 1
def mz_okf (own : String) (idx x y pos : Nat) : Bool := match vwCl[x]? with
  | some q => decide (y < q.2.2) && decide ((q.2.1 y).1 = q.1) && decide (lw_tbl[pos]? = some (.fieldLink own idx q.1 (q.2.1 y).2.1 (q.2.1 y).2.2.1))
  | none => false
def mz_fty (t : Nat) : FieldType := match t with
  | 0 => .int
  | 1 => .long
  | _ => .boolean
def mz_okp (x y : Nat) : Bool := match vwCl[x]? with
  | some q => decide ((q.2.1 y).2.2.2 = false) && decide (parseFieldDescriptor (q.2.1 y).2.2.1 = some (mz_fty (mz_ty x y)))
  | none => false
def mz_okI (own : String) (nL pc : Nat) (ins : Instr) (x y pos : Nat) (v : Int32) (w : Int64) : Bool := match ins with
  | .istore i | .astore i => decide (i < nL)
  | .iinc i n => decide (i < nL) && decide (Int32.ofInt n = v)
  | .iconst n => decide (Int32.ofInt n = v)
  | .bipush n => decide ((Int8.ofInt n).toInt32 = v)
  | .sipush n => decide ((Int16.ofInt n).toInt32 = v)
  | .lconst n => decide (Int64.ofNat n.val = w)
  | .istore_n i | .astore_n i => decide (i.val < nL)
  | .lstore i => decide (i + 1 < nL)
  | .lstore_n i => decide (i.val + 1 < nL)
  | .ldc idx | .ldc_w idx => decide (lw_tbl[pos]? = some (.constant own idx v))
  | .ldc2_w idx => decide (lw_tbl[pos]? = some (.constantLong own idx w))
  | .goto off | .ifCond _ off | .if_icmp _ off => decide ((pc : Int) + off = (y : Int))
  | .getfield idx => mz_okf own idx x y pos
  | .putfield idx => mz_okf own idx x y pos && mz_okp x y
  | _ => true
def mz_ok (own : String) (cc : ByteArray) (nL : Nat) (e : mz_E) : Bool := decide (decode cc e.1 = .ok (e.2.1, mz_len e.2.1)) && mz_okI own nL e.1 e.2.1 e.2.2.1 e.2.2.2.1 e.2.2.2.2.1 e.2.2.2.2.2.1 e.2.2.2.2.2.2
def mz_step (md : Nat) (e : mz_E) (st : mz_S) : Option (List Bool × mz_S) := bif Nat.beq st.1 e.1 then mz_ex md e.1 e.2.1 e.2.2.1 e.2.2.2.1 e.2.2.2.2.2.1 e.2.2.2.2.2.2 st.2.1 st.2.2.1 st.2.2.2 else none
def mz_run (md : Nat) : List mz_E → mz_S → Option (List Bool × mz_S)
  | [], st => some ([], st)
  | e :: es, st => match mz_step md e st with
    | none => none
    | some (b, st') => match mz_run md es st' with
      | none => none
      | some (b2, st2) => some (b ++ b2, st2)
/-- the words that stay -/
def mz_w : List Cond := lw_tbl.filter goodWord
theorem mz_wm {w : Cond} {pos : Nat} (h : lw_tbl[pos]? = some w) (hg : goodWord w = true) : w ∈ mz_w := List.mem_filter.mpr ⟨List.mem_of_getElem? h, hg⟩
theorem mz_ing {ws : List Cond} (h : ∀ w ∈ ws, w ∈ lw_tbl) (hg : ws.all goodWord = true) : ∀ w ∈ ws, w ∈ mz_w := fun w hw => List.mem_filter.mpr ⟨h w hw, List.all_eq_true.mp hg w hw⟩
theorem mz_good : GoodIn mz_w mz_w := fun w hw => ⟨hw, good_of_word (List.mem_filter.mp hw).2⟩
def mz_isN (w : Cond) : Bool := match w with
  | .methodLinkNest _ _ _ _ => true
  | _ => false
def mz_nw : List Cond := lw_tbl.filter mz_isN
theorem mz_nwm {w : Cond} {pos : Nat} (h : lw_tbl[pos]? = some w) (hg : mz_isN w = true) : w ∈ mz_nw := List.mem_filter.mpr ⟨List.mem_of_getElem? h, hg⟩
theorem mz_nw_warm {s U : State} (hW : s.WarmedH U.vm) (h : ∀ w ∈ mz_nw, va_Nw w s) : ∀ w ∈ mz_nw, va_Nw w U := by
  intro w hw
  have h1 := h w hw
  have h2 := (List.mem_filter.mp hw).2
  cases w with
  | methodLinkNest a i x h => exact va_Nw.warmM hW h1
  | _ => cases h2
theorem mz_nw_same {u U : State} (hv : u.vm = U.vm) (h : ∀ w ∈ mz_nw, va_Nw w u) : ∀ w ∈ mz_nw, va_Nw w U := by
  intro w hw
  have h1 := h w hw
  have h2 := (List.mem_filter.mp hw).2
  cases w with
  | methodLinkNest a i x h => exact va_Nw.same rfl hv h1
  | _ => cases h2
theorem mz_cls {ci : Nat} {q : vw_C} (h : vwCl[ci]? = some q) : (∀ w ∈ u_ws q.1 q.2.1 q.2.2, w ∈ mz_w) ∧ (∃ ty : Nat → FieldType, ∀ k, k < q.2.2 → parseFieldDescriptor (q.2.1 k).2.2.1 = some (ty k)) ∧ (∀ a, a < q.2.2 → ∀ b, b < q.2.2 → a ≠ b → (q.2.1 a).2.1 ≠ (q.2.1 b).2.1) := by
  match ci, h with
  | 0, h => cases h; exact ⟨mz_ing (by decide +kernel) (by decide +kernel), ⟨tyX0, tyX0_ok⟩, nmX0⟩
  | 1, h => cases h; exact ⟨mz_ing (by decide +kernel) (by decide +kernel), ⟨tyX1, tyX1_ok⟩, nmX1⟩
  | 2, h => cases h; exact ⟨mz_ing (by decide +kernel) (by decide +kernel), ⟨tyX2, tyX2_ok⟩, nmX2⟩
  | 3, h => cases h; exact ⟨mz_ing (by decide +kernel) (by decide +kernel), ⟨tyX3, tyX3_ok⟩, nmX3⟩
  | 4, h => cases h; exact ⟨mz_ing (by decide +kernel) (by decide +kernel), ⟨tyX4, tyX4_ok⟩, nmX4⟩
  | 5, h => cases h; exact ⟨mz_ing (by decide +kernel) (by decide +kernel), ⟨tyX5, tyX5_ok⟩, nmX5⟩
  | 6, h => cases h; exact ⟨mz_ing (by decide +kernel) (by decide +kernel), ⟨tyX6, tyX6_ok⟩, nmX6⟩
  | 7, h => cases h; exact ⟨mz_ing (by decide +kernel) (by decide +kernel), ⟨tyX7, tyX7_ok⟩, nmX7⟩
  | 8, h => cases h; exact ⟨mz_ing (by decide +kernel) (by decide +kernel), ⟨tyX8, tyX8_ok⟩, nmX8⟩
  | 9, h => cases h; exact ⟨mz_ing (by decide +kernel) (by decide +kernel), ⟨tyX9, tyX9_ok⟩, nmX9⟩
  | 10, h => cases h; exact ⟨mz_ing (by decide +kernel) (by decide +kernel), ⟨tyX10, tyX10_ok⟩, nmX10⟩
  | 11, h => cases h; exact ⟨mz_ing (by decide +kernel) (by decide +kernel), ⟨tyX11, tyX11_ok⟩, nmX11⟩
  | 12, h => cases h; exact ⟨mz_ing (by decide +kernel) (by decide +kernel), ⟨tyX12, tyX12_ok⟩, nmX12⟩
  | n + 13, h => exact absurd h (by simp [vwCl])
