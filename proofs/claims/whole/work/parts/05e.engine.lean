/-! A SMALL MACHINE over a memory of numbers: what a method's rows do to locals, stack and memory, as a function. Later parts show that the real machine follows it. -/
abbrev xM : Type := (Nat → Nat → Int32) × (Nat → Nat → Int64) × (Nat → Nat)
abbrev xL : Type := List (Option Value)
abbrev xS : Type := Nat × xL × List Value × xM
def xe_fetch (y pc : Nat) : Option xI := (xe_rows y).find? (fun e => e.1 == pc)
def xe_cls (k : Nat) : Nat := if k < 122 then xt_cls.getD k 999 else if k = 1010 then 110 else if 1020 ≤ k ∧ k < 1026 then 110 else if 1100 ≤ k ∧ k < 1114 then 50 else if 1200 ≤ k ∧ k < 1214 then 112 else 999
def xe_len (σ : xM) (k : Nat) : Nat := if k < 122 then xt_len.getD k 0 else if k = 1010 then (σ.1 1011 0).toNatClampNeg else if k < 1100 then (xt_ro.getD (k - 1020) []).length else (xt_str.getD (k - 1200) []).length
def xe_ax (σ : xM) (k j : Nat) : Int32 := if k < 1020 then σ.1 k j else if k < 1100 then (xt_ro.getD (k - 1020) []).getD j 0 else (xt_str.getD (k - 1200) []).getD j 0
def xe_rf (k j : Nat) : Nat := (xt_rf.getD k []).getD j 0
def xe_si (σ : xM) (k j : Nat) (v : Int32) : xM := (fun a b => if a = k ∧ b = j then v else σ.1 a b, σ.2.1, σ.2.2)
def xe_sl (σ : xM) (k j : Nat) (v : Int64) : xM := (σ.1, fun a b => if a = k ∧ b = j then v else σ.2.1 a b, σ.2.2)
def xe_sp (σ : xM) (j t : Nat) : xM := (σ.1, σ.2.1, fun b => if b = j then t else σ.2.2 b)
def xe_cp (σ : xM) (k k2 : Nat) (sp dp n : Nat) : xM := (fun a b => if a = k2 ∧ dp ≤ b ∧ b < dp + n then σ.1 k (sp + (b - dp)) else σ.1 a b, σ.2.1, σ.2.2)
/-- a long whose second half is written over is there no more -/
def xe_cl : Option Value → Option Value
  | some (.long _) => none
  | some (.double _) => none
  | o => o
def xe_md : xL → Nat → xL
  | [], _ => []
  | a :: l, 0 => xe_cl a :: l
  | a :: l, n + 1 => a :: xe_md l n
def xe_pv (ls : xL) : Nat → xL
  | 0 => ls
  | j + 1 => xe_md ls j
def xe_st1 (ls : xL) (i : Nat) (v : Value) : Option xL := if i < ls.length then some ((xe_pv ls i).set i (some v)) else none
def xe_st2 (ls : xL) (i : Nat) (v : Value) : Option xL := if i + 1 < ls.length then some (((xe_pv ls i).set i (some v)).set (i + 1) none) else none
def xe_lo (ls : xL) (i : Nat) : Value := match ls[i]? with
  | some (some v) => v
  | _ => .double 0
def xe_go (pc : Nat) (o : Option xL) (st : List Value) (σ : xM) : Option xS := match o with
  | some ls => some (pc, ls, st, σ)
  | none => none
def xe_ldi (n : Nat) (ls : xL) (st : List Value) (σ : xM) (v : Value) : Option xS := match v with
  | .int x => some (n, ls, .int x :: st, σ)
  | _ => none
def xe_ldl (n : Nat) (ls : xL) (st : List Value) (σ : xM) (v : Value) : Option xS := match v with
  | .long x => some (n, ls, .long x :: st, σ)
  | _ => none
def xe_lda (n : Nat) (ls : xL) (st : List Value) (σ : xM) (v : Value) : Option xS := match v with
  | .ref x => some (n, ls, .ref x :: st, σ)
  | .null => some (n, ls, .null :: st, σ)
  | _ => none
def xe_sti (n : Nat) (ls : xL) (st : List Value) (σ : xM) (i : Nat) : Option xS := match st with
  | .int x :: r => xe_go n (xe_st1 ls i (.int x)) r σ
  | _ => none
def xe_stl (n : Nat) (ls : xL) (st : List Value) (σ : xM) (i : Nat) : Option xS := match st with
  | .long x :: r => xe_go n (xe_st2 ls i (.long x)) r σ
  | _ => none
def xe_sta (n : Nat) (ls : xL) (st : List Value) (σ : xM) (i : Nat) : Option xS := match st with
  | .ref x :: r => xe_go n (xe_st1 ls i (.ref x)) r σ
  | .null :: r => xe_go n (xe_st1 ls i .null) r σ
  | _ => none
def xe_inc (n : Nat) (ls : xL) (st : List Value) (σ : xM) (i : Nat) (c : Int32) : Option xS := match xe_lo ls i with
  | .int x => xe_go n (xe_st1 ls i (.int (x + c))) st σ
  | _ => none
def xe_b (n : Nat) (ls : xL) (st : List Value) (σ : xM) (f : Int32 → Int32 → Int32) : Option xS := match st with
  | .int y :: .int x :: r => some (n, ls, .int (f x y) :: r, σ)
  | _ => none
def xe_d (n : Nat) (ls : xL) (st : List Value) (σ : xM) (f : Int32 → Int32 → Int32) : Option xS := match st with
  | .int y :: .int x :: r => if y = 0 then none else some (n, ls, .int (f x y) :: r, σ)
  | _ => none
def xe_bl (n : Nat) (ls : xL) (st : List Value) (σ : xM) (f : Int64 → Int64 → Int64) : Option xS := match st with
  | .long y :: .long x :: r => some (n, ls, .long (f x y) :: r, σ)
  | _ => none
def xe_u (n : Nat) (ls : xL) (st : List Value) (σ : xM) (f : Int32 → Value) : Option xS := match st with
  | .int x :: r => some (n, ls, f x :: r, σ)
  | _ => none
def xe_ul (n : Nat) (ls : xL) (st : List Value) (σ : xM) (f : Int64 → Value) : Option xS := match st with
  | .long x :: r => some (n, ls, f x :: r, σ)
  | _ => none
def xe_i1 (t n : Nat) (ls : xL) (st : List Value) (σ : xM) (p : Int32 → Prop) [∀ x, Decidable (p x)] : Option xS := match st with
  | .int x :: r => if p x then some (t, ls, r, σ) else some (n, ls, r, σ)
  | _ => none
def xe_i2 (t n : Nat) (ls : xL) (st : List Value) (σ : xM) (p : Int32 → Int32 → Prop) [∀ x y, Decidable (p x y)] : Option xS := match st with
  | .int y :: .int x :: r => if p x y then some (t, ls, r, σ) else some (n, ls, r, σ)
  | _ => none
def xe_fv (σ : xM) (k a b : Nat) : Option Value := match a with
  | 50 => (match b with
    | 0 => some (.int 0)
    | _ => some (.ref (k + 100)))
  | _ => (match xe_kd a b with
    | 0 => some (.int (σ.1 k b))
    | 1 => some (.int (σ.1 k b))
    | 2 => some (.long (σ.2.1 k b))
    | 3 => some (.ref (xe_rf k b))
    | 4 => some (.ref (σ.2.2 b))
    | _ => none)
def xe_fp (σ : xM) (k a b : Nat) (v : Value) : Option xM := match xe_kd a b, v with
  | 0, .int x => some (xe_si σ k b x)
  | 1, .int x => if x = 0 ∨ x = 1 then some (xe_si σ k b x) else none
  | 2, .long x => some (xe_sl σ k b x)
  | 4, .ref t => some (xe_sp σ b t)
  | _, _ => none
def xe_get (n : Nat) (ls : xL) (st : List Value) (σ : xM) (a b : Nat) : Option xS := match st with
  | .ref k :: r => if xe_cls k = a then (match xe_fv σ k a b with
    | some v => some (n, ls, v :: r, σ)
    | none => none) else none
  | _ => none
def xe_put (n : Nat) (ls : xL) (st : List Value) (σ : xM) (a b : Nat) : Option xS := match st with
  | v :: .ref k :: r => if xe_cls k = a then (match xe_fp σ k a b v with
    | some σ' => some (n, ls, r, σ')
    | none => none) else none
  | _ => none
def xe_ial (n : Nat) (ls : xL) (st : List Value) (σ : xM) : Option xS := match st with
  | .int i :: .ref k :: r => if (xe_cls k = 100 ∨ xe_cls k = 110) ∧ 0 ≤ i ∧ i.toNatClampNeg < xe_len σ k then some (n, ls, .int (xe_ax σ k i.toNatClampNeg) :: r, σ) else none
  | _ => none
def xe_bal (n : Nat) (ls : xL) (st : List Value) (σ : xM) : Option xS := match st with
  | .int i :: .ref k :: r => if (xe_cls k = 102 ∨ xe_cls k = 103 ∨ xe_cls k = 112) ∧ 0 ≤ i ∧ i.toNatClampNeg < xe_len σ k then some (n, ls, .int (xe_ax σ k i.toNatClampNeg) :: r, σ) else none
  | _ => none
def xe_lal (n : Nat) (ls : xL) (st : List Value) (σ : xM) : Option xS := match st with
  | .int i :: .ref k :: r => if xe_cls k = 101 ∧ 0 ≤ i ∧ i.toNatClampNeg < xe_len σ k then some (n, ls, .long (σ.2.1 k i.toNatClampNeg) :: r, σ) else none
  | _ => none
def xe_aal (n : Nat) (ls : xL) (st : List Value) (σ : xM) : Option xS := match st with
  | .int i :: .ref k :: r => if xe_cls k = 104 ∧ 0 ≤ i ∧ i.toNatClampNeg < xe_len σ k then some (n, ls, .ref (xe_rf k i.toNatClampNeg) :: r, σ) else none
  | _ => none
def xe_ias (n : Nat) (ls : xL) (st : List Value) (σ : xM) : Option xS := match st with
  | .int x :: .int i :: .ref k :: r => if xe_cls k = 100 ∧ 0 ≤ i ∧ i.toNatClampNeg < xe_len σ k then some (n, ls, r, xe_si σ k i.toNatClampNeg x) else none
  | _ => none
def xe_bas (n : Nat) (ls : xL) (st : List Value) (σ : xM) : Option xS := match st with
  | .int x :: .int i :: .ref k :: r => if xe_cls k = 102 ∧ 0 ≤ i ∧ i.toNatClampNeg < xe_len σ k then some (n, ls, r, xe_si σ k i.toNatClampNeg x.toInt8.toInt32) else
      if xe_cls k = 103 ∧ 0 ≤ i ∧ i.toNatClampNeg < xe_len σ k then some (n, ls, r, xe_si σ k i.toNatClampNeg (x &&& 1)) else none
  | _ => none
def xe_las (n : Nat) (ls : xL) (st : List Value) (σ : xM) : Option xS := match st with
  | .long x :: .int i :: .ref k :: r => if xe_cls k = 101 ∧ 0 ≤ i ∧ i.toNatClampNeg < xe_len σ k then some (n, ls, r, xe_sl σ k i.toNatClampNeg x) else none
  | _ => none
def xe_aln (n : Nat) (ls : xL) (st : List Value) (σ : xM) : Option xS := match st with
  | .ref k :: r => if 100 ≤ xe_cls k ∧ xe_cls k < 113 then some (n, ls, .int (Int32.ofNat (xe_len σ k)) :: r, σ) else none
  | _ => none
def xe_nul (t n : Nat) (ls : xL) (st : List Value) (σ : xM) : Option xS := match st with
  | .ref _ :: r => some (n, ls, r, σ)
  | .null :: r => some (t, ls, r, σ)
  | _ => none
def xe_dup (n : Nat) (ls : xL) (st : List Value) (σ : xM) : Option xS := match st with
  | .int x :: r => some (n, ls, .int x :: .int x :: r, σ)
  | .ref x :: r => some (n, ls, .ref x :: .ref x :: r, σ)
  | _ => none
def xe_dup2 (n : Nat) (ls : xL) (st : List Value) (σ : xM) : Option xS := match st with
  | .int x :: .ref k :: r => some (n, ls, .int x :: .ref k :: .int x :: .ref k :: r, σ)
  | _ => none
def xe_pop (n : Nat) (ls : xL) (st : List Value) (σ : xM) : Option xS := match st with
  | .int _ :: r => some (n, ls, r, σ)
  | _ => none
def xe_tab (pc : Nat) (ls : xL) (st : List Value) (σ : xM) (d lo hi : Int) (offs : Array Int) : Option xS := match st with
  | .int x :: r => if x.toInt < lo ∨ hi < x.toInt then (if 0 ≤ (pc : Int) + d then some (((pc : Int) + d).toNat, ls, r, σ) else none) else (match offs[(x.toInt - lo).toNat]? with
    | some o => if 0 ≤ (pc : Int) + o then some (((pc : Int) + o).toNat, ls, r, σ) else none
    | none => none)
  | _ => none
def xe_lsh (n : Nat) (ls : xL) (st : List Value) (σ : xM) : Option xS := match st with
  | .int y :: .long x :: r => some (n, ls, .long (x <<< (y.toInt64 &&& 63)) :: r, σ)
  | _ => none
def xe_ldv (n : Nat) (ls : xL) (st : List Value) (σ : xM) : Option xS := match st with
  | .long y :: .long x :: r => if y = 0 then none else some (n, ls, .long (x / y) :: r, σ)
  | _ => none
def xe_lc (n : Nat) (ls : xL) (st : List Value) (σ : xM) : Option xS := match st with
  | .long y :: .long x :: r => some (n, ls, .int (lg_cmp x y) :: r, σ)
  | _ => none
def xe_cpy (n : Nat) (ls : xL) (st : List Value) (σ : xM) : Option xS := match st with
  | .int c :: .int dp :: .ref k2 :: .int sp :: .ref k :: r => if xe_cls k = 100 ∧ xe_cls k2 = 100 ∧ 0 ≤ sp ∧ 0 ≤ dp ∧ 0 ≤ c ∧ sp.toNatClampNeg + c.toNatClampNeg ≤ xe_len σ k ∧ dp.toNatClampNeg + c.toNatClampNeg ≤ xe_len σ k2 ∧ r.length ≤ 4 then some (n, ls, r, xe_cp σ k k2 sp.toNatClampNeg dp.toNatClampNeg c.toNatClampNeg) else none
  | _ => none
/-- one instruction that is no call and no return -/
def xe_step (pc : Nat) (ins : Instr) (a b : Nat) (v : Value) (ls : xL) (st : List Value) (σ : xM) : Option xS := match ins with
  | .aconst_null => some (pc + 1, ls, .null :: st, σ)
  | .iconst _ => some (pc + 1, ls, v :: st, σ)
  | .lconst _ => some (pc + 1, ls, v :: st, σ)
  | .bipush _ => some (pc + 2, ls, v :: st, σ)
  | .sipush _ => some (pc + 3, ls, v :: st, σ)
  | .ldc _ => some (pc + 2, ls, v :: st, σ)
  | .ldc_w _ => some (pc + 3, ls, v :: st, σ)
  | .ldc2_w _ => some (pc + 3, ls, v :: st, σ)
  | .getstatic _ => some (pc + 3, ls, v :: st, σ)
  | .iload_n k => xe_ldi (pc + 1) ls st σ (xe_lo ls k)
  | .iload k => xe_ldi (pc + 2) ls st σ (xe_lo ls k)
  | .lload_n k => xe_ldl (pc + 1) ls st σ (xe_lo ls k)
  | .lload k => xe_ldl (pc + 2) ls st σ (xe_lo ls k)
  | .aload_n k => xe_lda (pc + 1) ls st σ (xe_lo ls k)
  | .aload k => xe_lda (pc + 2) ls st σ (xe_lo ls k)
  | .istore_n k => xe_sti (pc + 1) ls st σ k
  | .istore k => xe_sti (pc + 2) ls st σ k
  | .lstore_n k => xe_stl (pc + 1) ls st σ k
  | .lstore k => xe_stl (pc + 2) ls st σ k
  | .astore_n k => xe_sta (pc + 1) ls st σ k
  | .astore k => xe_sta (pc + 2) ls st σ k
  | .iinc k c => xe_inc (pc + 3) ls st σ k (Int32.ofInt c)
  | .iadd => xe_b (pc + 1) ls st σ (fun x y => x + y)
  | .isub => xe_b (pc + 1) ls st σ (fun x y => x - y)
  | .imul => xe_b (pc + 1) ls st σ (fun x y => x * y)
  | .iand => xe_b (pc + 1) ls st σ (fun x y => x &&& y)
  | .ior => xe_b (pc + 1) ls st σ (fun x y => x ||| y)
  | .ixor => xe_b (pc + 1) ls st σ (fun x y => x ^^^ y)
  | .ishl => xe_b (pc + 1) ls st σ (fun x y => x <<< (y &&& 31))
  | .ishr => xe_b (pc + 1) ls st σ (fun x y => x >>> (y &&& 31))
  | .iushr => xe_b (pc + 1) ls st σ (fun x y => (x.toUInt32 >>> (y.toUInt32 &&& Int32.toUInt32 31)).toInt32)
  | .idiv => xe_d (pc + 1) ls st σ (fun x y => x / y)
  | .irem => xe_d (pc + 1) ls st σ (fun x y => x - x / y * y)
  | .ineg => xe_u (pc + 1) ls st σ (fun x => .int (-x))
  | .i2l => xe_u (pc + 1) ls st σ (fun x => .long x.toInt64)
  | .i2b => xe_u (pc + 1) ls st σ (fun x => .int x.toInt8.toInt32)
  | .i2c => xe_u (pc + 1) ls st σ (fun x => .int (x.toUInt32 % 65536).toInt32)
  | .l2i => xe_ul (pc + 1) ls st σ (fun x => .int x.toInt32)
  | .ladd => xe_bl (pc + 1) ls st σ (fun x y => x + y)
  | .lsub => xe_bl (pc + 1) ls st σ (fun x y => x - y)
  | .lmul => xe_bl (pc + 1) ls st σ (fun x y => x * y)
  | .lor => xe_bl (pc + 1) ls st σ (fun x y => x ||| y)
  | .ldiv => xe_ldv (pc + 1) ls st σ
  | .lshl => xe_lsh (pc + 1) ls st σ
  | .lcmp => xe_lc (pc + 1) ls st σ
  | .ifCond .eq _ => xe_i1 a (pc + 3) ls st σ (fun x => x = 0)
  | .ifCond .ne _ => xe_i1 a (pc + 3) ls st σ (fun x => ¬ x = 0)
  | .ifCond .lt _ => xe_i1 a (pc + 3) ls st σ (fun x => x < 0)
  | .ifCond .ge _ => xe_i1 a (pc + 3) ls st σ (fun x => 0 ≤ x)
  | .ifCond .gt _ => xe_i1 a (pc + 3) ls st σ (fun x => 0 < x)
  | .ifCond .le _ => xe_i1 a (pc + 3) ls st σ (fun x => x ≤ 0)
  | .if_icmp .eq _ => xe_i2 a (pc + 3) ls st σ (fun x y => x = y)
  | .if_icmp .ne _ => xe_i2 a (pc + 3) ls st σ (fun x y => ¬ x = y)
  | .if_icmp .lt _ => xe_i2 a (pc + 3) ls st σ (fun x y => x < y)
  | .if_icmp .ge _ => xe_i2 a (pc + 3) ls st σ (fun x y => y ≤ x)
  | .if_icmp .gt _ => xe_i2 a (pc + 3) ls st σ (fun x y => y < x)
  | .if_icmp .le _ => xe_i2 a (pc + 3) ls st σ (fun x y => x ≤ y)
  | .ifnull _ => xe_nul a (pc + 3) ls st σ
  | .goto _ => some (a, ls, st, σ)
  | .dup => xe_dup (pc + 1) ls st σ
  | .dup2 => xe_dup2 (pc + 1) ls st σ
  | .pop => xe_pop (pc + 1) ls st σ
  | .getfield _ => xe_get (pc + 3) ls st σ a b
  | .putfield _ => xe_put (pc + 3) ls st σ a b
  | .iaload => xe_ial (pc + 1) ls st σ
  | .baload => xe_bal (pc + 1) ls st σ
  | .laload => xe_lal (pc + 1) ls st σ
  | .aaload => xe_aal (pc + 1) ls st σ
  | .iastore => xe_ias (pc + 1) ls st σ
  | .bastore => xe_bas (pc + 1) ls st σ
  | .lastore => xe_las (pc + 1) ls st σ
  | .arraylength => xe_aln (pc + 1) ls st σ
  | .tableswitch d lo hi offs => xe_tab pc ls st σ d lo hi offs
  | .invokestatic _ => if a = 999 then xe_cpy (pc + 3) ls st σ else none
  | _ => none
/-- the locals at a method's start -/
def xe_args : List Value → xL
  | [] => []
  | .long x :: r => some (.long x) :: none :: xe_args r
  | .double x :: r => some (.double x) :: none :: xe_args r
  | v :: r => some v :: xe_args r
def xe_init (y : Nat) (As : List Value) : xL := xe_args As ++ List.replicate (xm_l y - (xe_args As).length) none
/-- the receiver is of the method's class -/
def xe_rc (c : Nat) (As : List Value) : Bool := match As with
  | .ref k :: _ => xe_cls k == c
  | _ => false
/-- what a call puts on the stack -/
def xe_ps (r : Option FieldType) (rv : Option Value) (rest : List Value) : Option (List Value) := match r, rv with
  | none, none => some rest
  | some .long, some (.long x) => some (.long x :: rest)
  | some (.object _), some (.ref k) => some (.ref k :: rest)
  | some (.object _), some .null => some (.null :: rest)
  | some .int, some (.int x) => some (.int x :: rest)
  | some .boolean, some (.int x) => some (.int x :: rest)
  | some .byte, some (.int x) => some (.int x :: rest)
  | some .char, some (.int x) => some (.int x :: rest)
  | _, _ => none
/-- what a method may answer -/
def xe_rt (ins : Instr) (r : Option FieldType) (st : List Value) : Option (Option Value) := match ins, r, st with
  | .return_, none, [] => some none
  | .lreturn, some .long, [.long x] => some (some (.long x))
  | .areturn, some (.object _), [.ref k] => some (some (.ref k))
  | .areturn, some (.object _), [.null] => some (some .null)
  | .ireturn, some .int, [.int x] => some (some (.int x))
  | .ireturn, some .boolean, [.int x] => if x = 0 ∨ x = 1 then some (some (.int x)) else none
  | .ireturn, some .byte, [.int x] => if x.toInt8.toInt32 = x then some (some (.int x)) else none
  | .ireturn, some .char, [.int x] => if x.toUInt32.toUInt16.toUInt32.toInt32 = x then some (some (.int x)) else none
  | _, _, _ => none
/-- words that a stack takes -/
def xe_cw : List Value → Nat
  | [] => 0
  | .int _ :: r => xe_cw r + 1
  | .ref _ :: r => xe_cw r + 1
  | .null :: r => xe_cw r + 1
  | _ :: r => xe_cw r + 2
def xe_isC (ins : Instr) (a : Nat) : Bool := match ins with
  | .invokestatic _ => a != 999
  | .invokevirtual _ => true
  | _ => false
def xe_isR (ins : Instr) : Bool := match ins with
  | .ireturn => true
  | .lreturn => true
  | .areturn => true
  | .return_ => true
  | _ => false
def xe_run : Nat → Nat → xS → Option (Option Value × xM)
  | 0, _, _ => none
  | n + 1, y, (pc, ls, st, σ) => match xe_fetch y pc with
    | none => none
    | some (_, ins, _, _, a, b, v) =>
      if xe_isR ins then (match xe_rt ins (xm_r y) st with
        | some rv => some (rv, σ)
        | none => none)
      else if xe_isC ins a then
        (if b ≤ st.length ∧ (st.length ≤ b + 4 ∨ xe_cw (st.drop b) ≤ 8) ∧ xm_a a = b ∧ (xm_c a = 200 ∨ xe_rc (xm_c a) (st.take b).reverse = true) ∧ (xe_args (st.take b).reverse).length ≤ xm_l a then
          (match xe_run n a (0, xe_init a (st.take b).reverse, [], σ) with
          | some (rv, σ') => (match xe_ps (xm_r a) rv (st.drop b) with
            | some st' => xe_run n y (pc + 3, ls, st', σ')
            | none => none)
          | none => none)
        else none)
      else (match xe_step pc ins a b v ls st σ with
        | some s' => xe_run n y s'
        | none => none)
theorem xe_mono : ∀ (n k y : Nat) (s : xS) (r : Option Value × xM), xe_run n y s = some r → xe_run (n + k) y s = some r := by
  intro n
  induction n with
  | zero => intro k y s r h; simp [xe_run] at h
  | succ n ih =>
    intro k y s r h
    obtain ⟨pc, ls, st, σ⟩ := s
    rw [Nat.succ_add]
    unfold xe_run at h ⊢
    cases hf : xe_fetch y pc with
    | none => rw [hf] at h; simp at h
    | some e =>
      obtain ⟨pc', ins, len, pl, a, b, v⟩ := e
      rw [hf] at h
      dsimp only at h ⊢
      by_cases hR : xe_isR ins = true
      · rw [if_pos hR] at h ⊢; exact h
      · rw [if_neg hR] at h ⊢
        by_cases hC : xe_isC ins a = true
        · rw [if_pos hC] at h ⊢
          by_cases hc : b ≤ st.length ∧ (st.length ≤ b + 4 ∨ xe_cw (st.drop b) ≤ 8) ∧ xm_a a = b ∧ (xm_c a = 200 ∨ xe_rc (xm_c a) (st.take b).reverse = true) ∧ (xe_args (st.take b).reverse).length ≤ xm_l a
          · rw [if_pos hc] at h ⊢
            cases hr : xe_run n a (0, xe_init a (st.take b).reverse, [], σ) with
            | none => rw [hr] at h; simp at h
            | some q =>
              obtain ⟨rv, σ'⟩ := q
              rw [hr] at h
              rw [ih k _ _ _ hr]
              dsimp only at h ⊢
              cases hp : xe_ps (xm_r a) rv (st.drop b) with
              | none => rw [hp] at h; simp at h
              | some st' => rw [hp] at h; dsimp only at h ⊢; exact ih k _ _ _ h
          · rw [if_neg hc] at h; simp at h
        · rw [if_neg hC] at h ⊢
          cases hs : xe_step pc ins a b v ls st σ with
          | none => rw [hs] at h; simp at h
          | some s' => rw [hs] at h; dsimp only at h ⊢; exact ih k _ _ _ h
/-- from here the method comes to an end with an answer and a memory of which Q holds -/
def xC (y pc : Nat) (ls : xL) (st : List Value) (σ : xM) (Q : Option Value → xM → Prop) : Prop := ∃ (n : Nat) (rv : Option Value) (σ' : xM), xe_run n y (pc, ls, st, σ) = some (rv, σ') ∧ Q rv σ'
def xV (y : Nat) (As : List Value) (σ : xM) (Q : xM → Prop) : Prop := xC y 0 (xe_init y As) [] σ (fun rv σ' => rv = none ∧ Q σ')
def xI1 (y : Nat) (As : List Value) (σ : xM) (Q : Int32 → xM → Prop) : Prop := xC y 0 (xe_init y As) [] σ (fun rv σ' => ∃ x, rv = some (.int x) ∧ Q x σ')
def xJ1 (y : Nat) (As : List Value) (σ : xM) (Q : Int64 → xM → Prop) : Prop := xC y 0 (xe_init y As) [] σ (fun rv σ' => ∃ x, rv = some (.long x) ∧ Q x σ')
def xA1 (y : Nat) (As : List Value) (σ : xM) (Q : Value → xM → Prop) : Prop := xC y 0 (xe_init y As) [] σ (fun rv σ' => ∃ v, rv = some v ∧ (v = .null ∨ ∃ k, v = .ref k) ∧ Q v σ')
section XC
variable {y pc : Nat} {ls : xL} {st : List Value} {σ : xM} {Q : Option Value → xM → Prop}
variable {p1 len pl a b : Nat} {ins : Instr} {v : Value}
theorem xC_run1 (hf : xe_fetch y pc = some (p1, ins, len, pl, a, b, v)) (hR : xe_isR ins = false) (hC : xe_isC ins a = false) (n : Nat) : xe_run (n + 1) y (pc, ls, st, σ) = (match xe_step pc ins a b v ls st σ with
        | some s' => xe_run n y s'
        | none => none) := by
  rw [xe_run]
  simp only [hf, hR, hC]
  rfl
theorem xC_no (h : ∀ n, xe_run n y (pc, ls, st, σ) = none) : xC y pc ls st σ Q = False := by
  apply propext
  constructor
  · rintro ⟨n, rv, σ', h1, -⟩
    rw [h n] at h1; cases h1
  · exact False.elim
theorem xC_step {pc' : Nat} {ls' : xL} {st' : List Value} {σ' : xM} (hf : xe_fetch y pc = some (p1, ins, len, pl, a, b, v)) (hR : xe_isR ins = false) (hC : xe_isC ins a = false) (h : xe_step pc ins a b v ls st σ = some (pc', ls', st', σ')) : xC y pc ls st σ Q = xC y pc' ls' st' σ' Q := by
  have e : ∀ n, xe_run (n + 1) y (pc, ls, st, σ) = xe_run n y (pc', ls', st', σ') := fun n => by rw [xC_run1 hf hR hC, h]
  apply propext
  constructor
  · rintro ⟨n, rv, σ2, h1, h2⟩
    cases n with
    | zero => simp [xe_run] at h1
    | succ n => rw [e n] at h1; exact ⟨n, rv, σ2, h1, h2⟩
  · rintro ⟨n, rv, σ2, h1, h2⟩
    exact ⟨n + 1, rv, σ2, by rw [e n]; exact h1, h2⟩
theorem xC_none (hf : xe_fetch y pc = some (p1, ins, len, pl, a, b, v)) (hR : xe_isR ins = false) (hC : xe_isC ins a = false) (h : xe_step pc ins a b v ls st σ = none) : xC y pc ls st σ Q = False := by
  apply xC_no
  intro n
  cases n with
  | zero => rfl
  | succ n => rw [xC_run1 hf hR hC, h]
theorem xC_if {c : Prop} [Decidable c] {p2 p3 : Nat} {l2 l3 : xL} {t2 t3 : List Value} {m2 m3 : xM} (hf : xe_fetch y pc = some (p1, ins, len, pl, a, b, v)) (hR : xe_isR ins = false) (hC : xe_isC ins a = false) (h : xe_step pc ins a b v ls st σ = if c then some (p2, l2, t2, m2) else some (p3, l3, t3, m3)) : xC y pc ls st σ Q = if c then xC y p2 l2 t2 m2 Q else xC y p3 l3 t3 m3 Q := by
  by_cases hc : c
  · rw [if_pos hc] at h ⊢; exact xC_step hf hR hC h
  · rw [if_neg hc] at h ⊢; exact xC_step hf hR hC h
theorem xC_and {c : Prop} [Decidable c] {p2 : Nat} {l2 : xL} {t2 : List Value} {m2 : xM} (hf : xe_fetch y pc = some (p1, ins, len, pl, a, b, v)) (hR : xe_isR ins = false) (hC : xe_isC ins a = false) (h : xe_step pc ins a b v ls st σ = if c then some (p2, l2, t2, m2) else none) : xC y pc ls st σ Q = (c ∧ xC y p2 l2 t2 m2 Q) := by
  by_cases hc : c
  · rw [if_pos hc] at h; rw [xC_step hf hR hC h]; simp [hc]
  · rw [if_neg hc] at h; rw [xC_none hf hR hC h]; simp [hc]
theorem xC_andN {c : Prop} [Decidable c] {p2 : Nat} {l2 : xL} {t2 : List Value} {m2 : xM} (hf : xe_fetch y pc = some (p1, ins, len, pl, a, b, v)) (hR : xe_isR ins = false) (hC : xe_isC ins a = false) (h : xe_step pc ins a b v ls st σ = if c then none else some (p2, l2, t2, m2)) : xC y pc ls st σ Q = (¬ c ∧ xC y p2 l2 t2 m2 Q) := by
  by_cases hc : c
  · rw [if_pos hc] at h; rw [xC_none hf hR hC h]; simp [hc]
  · rw [if_neg hc] at h; rw [xC_step hf hR hC h]; simp [hc]
theorem xC_ret {rv : Option Value} (hf : xe_fetch y pc = some (p1, ins, len, pl, a, b, v)) (hR : xe_isR ins = true) (h : xe_rt ins (xm_r y) st = some rv) : xC y pc ls st σ Q = Q rv σ := by
  have e : ∀ n, xe_run (n + 1) y (pc, ls, st, σ) = some (rv, σ) := fun n => by
    rw [xe_run]
    simp only [hf, hR, h]
    rfl
  apply propext
  constructor
  · rintro ⟨n, rv2, σ2, h1, h2⟩
    cases n with
    | zero => simp [xe_run] at h1
    | succ n => rw [e n] at h1; cases h1; exact h2
  · intro h2
    exact ⟨1, rv, σ, e 0, h2⟩
theorem xC_retNo (hf : xe_fetch y pc = some (p1, ins, len, pl, a, b, v)) (hR : xe_isR ins = true) (h : xe_rt ins (xm_r y) st = none) : xC y pc ls st σ Q = False := by
  apply xC_no
  intro n
  cases n with
  | zero => rfl
  | succ n =>
    rw [xe_run]
    simp only [hf, hR, h]
    rfl
theorem xC_retIf {c : Prop} [Decidable c] {rv : Option Value} (hf : xe_fetch y pc = some (p1, ins, len, pl, a, b, v)) (hR : xe_isR ins = true) (h : xe_rt ins (xm_r y) st = if c then some rv else none) : xC y pc ls st σ Q = (c ∧ Q rv σ) := by
  by_cases hc : c
  · rw [if_pos hc] at h; rw [xC_ret hf hR h]; simp [hc]
  · rw [if_neg hc] at h; rw [xC_retNo hf hR h]; simp [hc]
/-- a call: the callee's end, and what comes behind it -/
theorem xC_call (hf : xe_fetch y pc = some (p1, ins, len, pl, a, b, v)) (hR : xe_isR ins = false) (hC : xe_isC ins a = true) (hc : b ≤ st.length ∧ (st.length ≤ b + 4 ∨ xe_cw (st.drop b) ≤ 8) ∧ xm_a a = b ∧ (xm_c a = 200 ∨ xe_rc (xm_c a) (st.take b).reverse = true) ∧ (xe_args (st.take b).reverse).length ≤ xm_l a) :
    xC y pc ls st σ Q = xC a 0 (xe_init a (st.take b).reverse) [] σ (fun rv σ' => ∃ st', xe_ps (xm_r a) rv (st.drop b) = some st' ∧ xC y (pc + 3) ls st' σ' Q) := by
  have e : ∀ n, xe_run (n + 1) y (pc, ls, st, σ) = (match xe_run n a (0, xe_init a (st.take b).reverse, [], σ) with
          | some (rv, σ') => (match xe_ps (xm_r a) rv (st.drop b) with
            | some st' => xe_run n y (pc + 3, ls, st', σ')
            | none => none)
          | none => none) := fun n => by
    rw [xe_run]
    simp only [hf, hR, hC]
    rw [if_pos hc]
    rfl
  apply propext
  constructor
  · rintro ⟨n, rv2, σ2, h1, h2⟩
    cases n with
    | zero => simp [xe_run] at h1
    | succ n =>
      rw [e n] at h1
      cases hr : xe_run n a (0, xe_init a (st.take b).reverse, [], σ) with
      | none => rw [hr] at h1; simp at h1
      | some q =>
        obtain ⟨rv, σ'⟩ := q
        rw [hr] at h1
        dsimp only at h1
        cases hp : xe_ps (xm_r a) rv (st.drop b) with
        | none => rw [hp] at h1; simp at h1
        | some st' =>
          rw [hp] at h1
          exact ⟨n, rv, σ', hr, st', hp, n, rv2, σ2, h1, h2⟩
  · rintro ⟨n, rv, σ', h1, st', hp, n2, rv2, σ2, h2, h3⟩
    refine ⟨n + n2 + 1, rv2, σ2, ?_, h3⟩
    rw [e, xe_mono n n2 _ _ _ h1]
    dsimp only
    rw [hp]
    dsimp only
    rw [Nat.add_comm]
    exact xe_mono n2 n _ _ _ h2
theorem xC_mono {Q' : Option Value → xM → Prop} (h : xC y pc ls st σ Q) (hq : ∀ rv σ', Q rv σ' → Q' rv σ') : xC y pc ls st σ Q' := by
  obtain ⟨n, rv, σ', h1, h2⟩ := h
  exact ⟨n, rv, σ', h1, hq _ _ h2⟩
theorem xC_congr {Q' : Option Value → xM → Prop} (hq : ∀ rv σ', Q rv σ' ↔ Q' rv σ') : xC y pc ls st σ Q = xC y pc ls st σ Q' := propext ⟨fun h => xC_mono h fun rv σ' => (hq rv σ').mp, fun h => xC_mono h fun rv σ' => (hq rv σ').mpr⟩
/-- calls by what the callee answers -/
theorem xC_callV (hf : xe_fetch y pc = some (p1, ins, len, pl, a, b, v)) (hR : xe_isR ins = false) (hC : xe_isC ins a = true) (hc : b ≤ st.length ∧ (st.length ≤ b + 4 ∨ xe_cw (st.drop b) ≤ 8) ∧ xm_a a = b ∧ (xm_c a = 200 ∨ xe_rc (xm_c a) (st.take b).reverse = true) ∧ (xe_args (st.take b).reverse).length ≤ xm_l a) (hr : xm_r a = none) :
    xC y pc ls st σ Q = xV a (st.take b).reverse σ (fun σ' => xC y (pc + 3) ls (st.drop b) σ' Q) := by
  rw [xC_call hf hR hC hc, hr]
  refine xC_congr fun rv σ' => ⟨?_, ?_⟩
  · rintro ⟨st', h1, h2⟩
    cases rv with
    | none => cases h1; exact ⟨rfl, h2⟩
    | some w => cases w <;> simp [xe_ps] at h1
  · rintro ⟨rfl, h2⟩
    exact ⟨_, rfl, h2⟩
theorem xC_callI (hf : xe_fetch y pc = some (p1, ins, len, pl, a, b, v)) (hR : xe_isR ins = false) (hC : xe_isC ins a = true) (hc : b ≤ st.length ∧ (st.length ≤ b + 4 ∨ xe_cw (st.drop b) ≤ 8) ∧ xm_a a = b ∧ (xm_c a = 200 ∨ xe_rc (xm_c a) (st.take b).reverse = true) ∧ (xe_args (st.take b).reverse).length ≤ xm_l a) (hr : xm_r a = some .int ∨ xm_r a = some .boolean ∨ xm_r a = some .byte ∨ xm_r a = some .char) :
    xC y pc ls st σ Q = xI1 a (st.take b).reverse σ (fun x σ' => xC y (pc + 3) ls (.int x :: st.drop b) σ' Q) := by
  rw [xC_call hf hR hC hc]
  refine xC_congr fun rv σ' => ⟨?_, ?_⟩
  · rintro ⟨st', h1, h2⟩
    rcases hr with hr | hr | hr | hr <;> rw [hr] at h1 <;> (cases rv with
      | none => simp [xe_ps] at h1
      | some w => cases w <;> simp [xe_ps] at h1 <;> (subst h1; exact ⟨_, rfl, h2⟩))
  · rintro ⟨x, rfl, h2⟩
    rcases hr with hr | hr | hr | hr <;> rw [hr] <;> exact ⟨_, rfl, h2⟩
theorem xC_callJ (hf : xe_fetch y pc = some (p1, ins, len, pl, a, b, v)) (hR : xe_isR ins = false) (hC : xe_isC ins a = true) (hc : b ≤ st.length ∧ (st.length ≤ b + 4 ∨ xe_cw (st.drop b) ≤ 8) ∧ xm_a a = b ∧ (xm_c a = 200 ∨ xe_rc (xm_c a) (st.take b).reverse = true) ∧ (xe_args (st.take b).reverse).length ≤ xm_l a) (hr : xm_r a = some .long) :
    xC y pc ls st σ Q = xJ1 a (st.take b).reverse σ (fun x σ' => xC y (pc + 3) ls (.long x :: st.drop b) σ' Q) := by
  rw [xC_call hf hR hC hc, hr]
  refine xC_congr fun rv σ' => ⟨?_, ?_⟩
  · rintro ⟨st', h1, h2⟩
    cases rv with
      | none => simp [xe_ps] at h1
      | some w => cases w <;> simp [xe_ps] at h1 <;> (subst h1; exact ⟨_, rfl, h2⟩)
  · rintro ⟨x, rfl, h2⟩
    exact ⟨_, rfl, h2⟩
theorem xC_callA {C : String} (hf : xe_fetch y pc = some (p1, ins, len, pl, a, b, v)) (hR : xe_isR ins = false) (hC : xe_isC ins a = true) (hc : b ≤ st.length ∧ (st.length ≤ b + 4 ∨ xe_cw (st.drop b) ≤ 8) ∧ xm_a a = b ∧ (xm_c a = 200 ∨ xe_rc (xm_c a) (st.take b).reverse = true) ∧ (xe_args (st.take b).reverse).length ≤ xm_l a) (hr : xm_r a = some (.object C)) :
    xC y pc ls st σ Q = xA1 a (st.take b).reverse σ (fun w σ' => xC y (pc + 3) ls (w :: st.drop b) σ' Q) := by
  rw [xC_call hf hR hC hc, hr]
  refine xC_congr fun rv σ' => ⟨?_, ?_⟩
  · rintro ⟨st', h1, h2⟩
    cases rv with
      | none => simp [xe_ps] at h1
      | some w => cases w <;> simp [xe_ps] at h1 <;> (subst h1; exact ⟨_, rfl, by simp, h2⟩)
  · rintro ⟨w, rfl, h1, h2⟩
    rcases h1 with rfl | ⟨k, rfl⟩ <;> exact ⟨_, rfl, h2⟩
end XC
theorem xe_fetch_ok {y pc : Nat} {p1 : Nat} {ins : Instr} {len pl a b : Nat} {v : Value} (hf : xe_fetch y pc = some (p1, ins, len, pl, a, b, v)) : p1 = pc ∧ xe_okb y (pc, ins, len, pl, a, b, v) = true := by
  unfold xe_fetch at hf
  have h1 := List.mem_of_find?_eq_some hf
  have h2 := List.find?_some hf
  have h3 : p1 = pc := by simpa using h2
  subst h3
  exact ⟨rfl, xo_all h1⟩
