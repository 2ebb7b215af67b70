def xt_son : List (Nat × Nat) := [(9, 81), (9, 87), (9, 89), (9, 91), (9, 93), (9, 95), (9, 97), (12, 201), (12, 209), (12, 213), (12, 217), (12, 221), (12, 226), (12, 228)]
/-! WHAT THE TABLES MUST SAY of the small machine's rows: one test a row, run by the kernel; numbers alone. -/
def xTT : List Cond := lw_tbl.filter goodWord
theorem xTT_of {w : Cond} (h : w ∈ lw_tbl) (hg : goodWord w = true) : w ∈ xTT := List.mem_filter.mpr ⟨h, hg⟩
/-- kinds of a slot by its descriptor -/
def xe_rok (y a : Nat) : Bool := decide (xm_f a + 1 ≤ xm_f y) && decide (8 + (xm_l a + 11) + xm_k a ≤ xm_k y)
def xe_okb (y : Nat) (e : xI) : Bool := match e with
  | (pc, ins, ln, pl, a, b, v) => decide (decode (xm_b y) pc = .ok (ins, ln)) && (match ins with
    | .iconst i => decide (ln = 1) && decide (v = .int (Int32.ofInt i))
    | .lconst i => decide (ln = 1) && decide (v = .long (Int64.ofNat (i : Nat)))
    | .bipush i => decide (ln = 2) && decide (v = .int (Int8.ofInt i).toInt32)
    | .sipush i => decide (ln = 3) && decide (v = .int (Int16.ofInt i).toInt32)
    | .ldc ix => decide (ln = 2) && (match v with
      | .int x => decide (xl pl = (8, xm_o y, ix, 0, 0, x.toInt))
      | .ref k => decide (k = 1100 + b) && decide (b < 14) && decide (((xt_son.getD b (99, 0)).1 = xm_o y)) && decide ((xt_son.getD b (99, 0)).2 = ix)
      | _ => false)
    | .ldc_w ix => decide (ln = 3) && (match v with
      | .int x => decide (xl pl = (8, xm_o y, ix, 0, 0, x.toInt))
      | _ => false)
    | .ldc2_w ix => decide (ln = 3) && (match v with
      | .long x => decide (xl pl = (9, xm_o y, ix, 0, 0, x.toInt))
      | _ => false)
    | .getstatic ix => decide (ln = 3) && decide (b < 8) && decide (xt_sv.getD b (.double 0) = v) && (decide (xl pl = (3, xm_o y, ix, 0, b, 0)) || decide (xl pl = (4, xm_o y, ix, 0, b, 0)))
    | .getfield ix => decide (ln = 3) && (match xe_kd a b with
      | 9 => decide (a = 50) && decide (b < 2) && decide (xl pl = (2, xm_o y, ix, 50, b, 0))
      | _ => decide (a < 13) && decide (xl pl = (1, xm_o y, ix, a, b, 0)))
    | .putfield ix => decide (ln = 3) && decide (a < 13) && decide (xl pl = (1, xm_o y, ix, a, b, 0)) && decide (xe_kd a b ≠ 3) && decide (xe_kd a b ≠ 9)
    | .goto off => decide (ln = 3) && decide ((pc : Int) + off = (a : Int))
    | .ifCond _ off => decide (ln = 3) && decide ((pc : Int) + off = (a : Int))
    | .if_icmp _ off => decide (ln = 3) && decide ((pc : Int) + off = (a : Int))
    | .ifnull off => decide (ln = 3) && decide ((pc : Int) + off = (a : Int))
    | .iinc _ _ => decide (ln = 3)
    | .iload _ => decide (ln = 2)
    | .lload _ => decide (ln = 2)
    | .aload _ => decide (ln = 2)
    | .istore _ => decide (ln = 2)
    | .lstore _ => decide (ln = 2)
    | .astore _ => decide (ln = 2)
    | .tableswitch _ _ _ _ => true
    | .invokestatic ix => decide (ln = 3) && (decide (a = 998) || (if a = 999 then decide (xl pl = (7, xm_o y, ix, 0, 0, 0)) && decide (1 ≤ xm_f y) && decide (26 ≤ xm_k y)
      else decide (a < 245) && decide (xm_c a = 200) && xe_rok y a && (decide (xl pl = (5, xm_o y, ix, a, 0, 0)) || decide (xl pl = (6, xm_o y, ix, a, 0, 0)))))
    | .invokevirtual ix => decide (ln = 3) && (decide (a = 998) || (decide (a < 245) && decide (xm_c a ≠ 200) && xe_rok y a && decide (xl pl = (5, xm_o y, ix, a, 0, 0))))
    | .invokespecial _ => true
    | .new _ => true
    | _ => decide (ln = 1))
/-- a method of the table: where its words stand -/
def xe_mok (y : Nat) : Bool := match xm_p y with
  | p0 :: p1 :: p2 :: ps => decide (xl p0 = (10, 0, 0, y, 0, 0)) && decide (xl p2 = (13, xm_o y, 0, 0, 0, 0)) &&
    (if xm_c y = 200 then decide (xl p1 = (11, 0, 0, y, 0, 0)) else decide (xl p1 = (12, 0, 0, y, 0, 0)) && (match ps with
      | p3 :: _ => decide (xl p3 = (14, 0, 0, y, 0, 0))
      | [] => false) && (decide (xm_c y < 13 ∧ xm_o y = xm_c y) || decide (xm_c y = 50 ∧ xm_o y = 15)))
  | _ => false
