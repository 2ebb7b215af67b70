/-! WHAT IS ONLY READ, at the law's start -/
theorem xfl_a0 : Cond.arrayOf (.static "QuayRopes" "MOST_TOLD" "[I") .int ∈ flatC (Cond.and given_1 narrow_1) ∧ Cond.eq (.length (.static "QuayRopes" "MOST_TOLD" "[I")) (.int (Int32.ofNat 7)) ∈ flatC (Cond.and given_1 narrow_1) := by decide +kernel
theorem xfl_e0 : ∀ j : Nat, j < 7 → Cond.eq (.elem (.static "QuayRopes" "MOST_TOLD" "[I") (.int (Int32.ofNat j))) (.int ((xt_ro.getD 0 []).getD j 0)) ∈ flatC (Cond.and given_1 narrow_1) := by decide +kernel
theorem xfl_z0 : Cond.laysStatic "QuayRopes" "MOST_TOLD" "[I" ∈ tables_1 := by decide +kernel
theorem xfl_a1 : Cond.arrayOf (.static "QuayRopes" "FIELDS" "[I") .int ∈ flatC (Cond.and given_1 narrow_1) ∧ Cond.eq (.length (.static "QuayRopes" "FIELDS" "[I")) (.int (Int32.ofNat 7)) ∈ flatC (Cond.and given_1 narrow_1) := by decide +kernel
theorem xfl_e1 : ∀ j : Nat, j < 7 → Cond.eq (.elem (.static "QuayRopes" "FIELDS" "[I") (.int (Int32.ofNat j))) (.int ((xt_ro.getD 1 []).getD j 0)) ∈ flatC (Cond.and given_1 narrow_1) := by decide +kernel
theorem xfl_z1 : Cond.laysStatic "QuayRopes" "FIELDS" "[I" ∈ tables_1 := by decide +kernel
theorem xfl_a2 : Cond.arrayOf (.static "QuayRopes" "NUMBERS_AT" "[I") .int ∈ flatC (Cond.and given_1 narrow_1) ∧ Cond.eq (.length (.static "QuayRopes" "NUMBERS_AT" "[I")) (.int (Int32.ofNat 7)) ∈ flatC (Cond.and given_1 narrow_1) := by decide +kernel
theorem xfl_e2 : ∀ j : Nat, j < 7 → Cond.eq (.elem (.static "QuayRopes" "NUMBERS_AT" "[I") (.int (Int32.ofNat j))) (.int ((xt_ro.getD 2 []).getD j 0)) ∈ flatC (Cond.and given_1 narrow_1) := by decide +kernel
theorem xfl_z2 : Cond.laysStatic "QuayRopes" "NUMBERS_AT" "[I" ∈ tables_1 := by decide +kernel
theorem xfl_a3 : Cond.arrayOf (.static "QuayRopes" "FIRST_LIMIT" "[I") .int ∈ flatC (Cond.and given_1 narrow_1) ∧ Cond.eq (.length (.static "QuayRopes" "FIRST_LIMIT" "[I")) (.int (Int32.ofNat 7)) ∈ flatC (Cond.and given_1 narrow_1) := by decide +kernel
theorem xfl_e3 : ∀ j : Nat, j < 7 → Cond.eq (.elem (.static "QuayRopes" "FIRST_LIMIT" "[I") (.int (Int32.ofNat j))) (.int ((xt_ro.getD 3 []).getD j 0)) ∈ flatC (Cond.and given_1 narrow_1) := by decide +kernel
theorem xfl_z3 : Cond.laysStatic "QuayRopes" "FIRST_LIMIT" "[I" ∈ tables_1 := by decide +kernel
theorem xfl_a4 : Cond.arrayOf (.static "QuayRopes" "LEAST_NUMBER" "[I") .int ∈ flatC (Cond.and given_1 narrow_1) ∧ Cond.eq (.length (.static "QuayRopes" "LEAST_NUMBER" "[I")) (.int (Int32.ofNat 19)) ∈ flatC (Cond.and given_1 narrow_1) := by decide +kernel
theorem xfl_e4 : ∀ j : Nat, j < 19 → Cond.eq (.elem (.static "QuayRopes" "LEAST_NUMBER" "[I") (.int (Int32.ofNat j))) (.int ((xt_ro.getD 4 []).getD j 0)) ∈ flatC (Cond.and given_1 narrow_1) := by decide +kernel
theorem xfl_z4 : Cond.laysStatic "QuayRopes" "LEAST_NUMBER" "[I" ∈ tables_1 := by decide +kernel
theorem xfl_a5 : Cond.arrayOf (.static "QuayRopes" "GREATEST_NUMBER" "[I") .int ∈ flatC (Cond.and given_1 narrow_1) ∧ Cond.eq (.length (.static "QuayRopes" "GREATEST_NUMBER" "[I")) (.int (Int32.ofNat 19)) ∈ flatC (Cond.and given_1 narrow_1) := by decide +kernel
theorem xfl_e5 : ∀ j : Nat, j < 19 → Cond.eq (.elem (.static "QuayRopes" "GREATEST_NUMBER" "[I") (.int (Int32.ofNat j))) (.int ((xt_ro.getD 5 []).getD j 0)) ∈ flatC (Cond.and given_1 narrow_1) := by decide +kernel
theorem xfl_z5 : Cond.laysStatic "QuayRopes" "GREATEST_NUMBER" "[I" ∈ tables_1 := by decide +kernel
theorem xfl_q : Cond.initialized "QuayRopes" ∈ tables_1 ∧ Cond.initialized "java/lang/String" ∈ tables_1 ∧ Cond.laysStatic "java/lang/String" "COMPACT_STRINGS" "Z" ∈ tables_1 ∧ Cond.initialized "jdk/internal/util/Preconditions" ∈ tables_1 ∧ Cond.laysStatic "jdk/internal/util/Preconditions" "SIOOBE_FORMATTER" "Ljava/util/function/BiFunction;" ∈ tables_1 := by decide +kernel
theorem xfl_p : Cond.eq (.static "java/lang/String" "COMPACT_STRINGS" "Z") (.int 1) ∈ flatC (Cond.and given_1 narrow_1) ∧ Cond.isRef (.static "jdk/internal/util/Preconditions" "SIOOBE_FORMATTER" "Ljava/util/function/BiFunction;") ∈ flatC (Cond.and given_1 narrow_1) := by decide +kernel
def xtm (i : Nat) : Term := .string (xt_so.getD i ("", 0, "")).1 (xt_so.getD i ("", 0, "")).2.1
theorem xfl_s1 : ∀ i : Nat, i < 14 → Cond.exactly (xtm i) "java/lang/String" ∈ flatC (Cond.and given_1 narrow_1) ∧ Cond.eq (.field (xtm i) "java/lang/String" "coder" "B") (.int 0) ∈ flatC (Cond.and given_1 narrow_1) ∧ Cond.arrayOf (.field (xtm i) "java/lang/String" "value" "[B") .byte ∈ flatC (Cond.and given_1 narrow_1) ∧ Cond.eq (.length (.field (xtm i) "java/lang/String" "value" "[B")) (.int (Int32.ofNat ((xt_str.map List.length).getD i 0))) ∈ flatC (Cond.and given_1 narrow_1) := by decide +kernel
theorem xfl_s2 : ∀ i : Nat, i < 14 → ∀ j : Nat, j < (xt_str.map List.length).getD i 0 → Cond.eq (.elem (.field (xtm i) "java/lang/String" "value" "[B") (.int (Int32.ofNat j))) (.int ((xt_str.getD i []).getD j 0)) ∈ flatC (Cond.and given_1 narrow_1) := by decide +kernel
theorem xfl_s3 : ∀ i : Nat, i < 14 → Cond.stringRef (xt_so.getD i ("", 0, "")).1 (xt_so.getD i ("", 0, "")).2.1 (xt_so.getD i ("", 0, "")).2.2 ∈ tables_1 := by decide +kernel
theorem xi_str {args : Array Value} {s : State} {A : Nat → Prop} (hf : ∀ c ∈ flatC (Cond.and given_1 narrow_1), c.before args s = true) (hA : ∀ a : Nat, a < s.heap.size → ¬ A a) : ∃ adK adV : Nat → Nat, xe_vS (xt_str.map List.length) xt_str adK adV A s s.heap ∧ ∀ i : Nat, i < 14 → (xtm i).eval args s none [] s = some (.ref (adK i)) := by
  have h0 : ∀ i : Nat, ∃ adK adV : Nat → Nat, i < 14 → vk_S 1 [(xt_str.map List.length).getD i 0] [xt_str.getD i []] adK adV A s s.heap ∧ (xtm i).eval args s none [] s = some (.ref (adK 0)) := by
    intro i
    by_cases hi : i < 14
    · obtain ⟨m1, m2, m3, m4⟩ := xfl_s1 i hi
      have l31 : (xt_str.map List.length).getD i 0 < 2 ^ 31 := by
        have : ∀ i : Nat, i < 14 → (xt_str.map List.length).getD i 0 < 2 ^ 31 := by decide +kernel
        exact this i hi
      have z : ∀ k : Nat, k < 1 → k = 0 := fun k hk => by omega
      obtain ⟨adK, adV, q1, q2⟩ := vk_Sof (N := 1) (tm := fun _ => xtm i) (len := [(xt_str.map List.length).getD i 0]) (byt := [xt_str.getD i []]) (A := A) (s := s) (args := args) (fun k hk => by rw [z k hk]; exact l31) (fun k hk => hf _ m1) (fun k hk => hf _ m2) (fun k hk => hf _ m3) (fun k hk => by rw [z k hk]; exact hf _ m4) (fun k hk j hj => by
        rw [z k hk] at hj ⊢
        exact hf _ (xfl_s2 i hi j hj)) (fun a b ha hb hab => absurd ((z a ha).trans (z b hb).symm) hab) hA
      exact ⟨adK, adV, fun _ => ⟨q1, q2 0 (by decide)⟩⟩
    · exact ⟨fun _ => 0, fun _ => 0, fun h => absurd h hi⟩
  obtain ⟨fK, h1⟩ := Classical.axiomOfChoice h0
  obtain ⟨fV, h2⟩ := Classical.axiomOfChoice h1
  exact ⟨fun i => fK i 0, fun i => fV i 0, ⟨fun i hi => (h2 i hi).1.1 0 (by decide), trivial⟩, fun i hi => (h2 i hi).2⟩
theorem xi_RO {args : Array Value} {s : State} {b L : Nat} {xs : Nat → Int32} (hts0 : ∀ w ∈ lw_tbl, w.before args s = true) (hX : va_X b L xs s s.heap) (hbl : b < s.heap.size) (hL : L ≤ 3072) (hgv : (Cond.and given_1 narrow_1).before args s = true) : ∃ (ro : Nat → Nat) (F : Value), F.category = 1 ∧ ro 1010 = b ∧ ∀ ad : Nat → Nat, (∀ k, 1000 ≤ k → ad k = ro k) → xe_RO ad F xs L (fun q => s.heap.size ≤ q) s s.heap := by
  have hf : ∀ c ∈ flatC (Cond.and given_1 narrow_1), c.before args s = true := flat_of_before _ hgv
  have hA : ∀ a : Nat, a < s.heap.size → ¬ (fun q => s.heap.size ≤ q) a := fun a h => Nat.not_le.mpr h
  have ht : ∀ w ∈ tables_1, w.before args s = true := fun w hw => hts0 w (List.mem_append_right _ hw)
  obtain ⟨i1, i2, i3, i4, i5⟩ := xfl_q
  obtain ⟨t0, v0, T0⟩ := va_Tof (tm := .static "QuayRopes" "MOST_TOLD" "[I") (N := 7) (f := fun j => .int ((xt_ro.getD 0 []).getD j 0)) (A := fun q => s.heap.size ≤ q) (by decide) (hf _ xfl_a0.1) (va_eqt (hf _ xfl_a0.2)) (fun j hj => va_eqt (hf _ (xfl_e0 j hj))) hA
  obtain ⟨t1, v1, T1⟩ := va_Tof (tm := .static "QuayRopes" "FIELDS" "[I") (N := 7) (f := fun j => .int ((xt_ro.getD 1 []).getD j 0)) (A := fun q => s.heap.size ≤ q) (by decide) (hf _ xfl_a1.1) (va_eqt (hf _ xfl_a1.2)) (fun j hj => va_eqt (hf _ (xfl_e1 j hj))) hA
  obtain ⟨t2, v2, T2⟩ := va_Tof (tm := .static "QuayRopes" "NUMBERS_AT" "[I") (N := 7) (f := fun j => .int ((xt_ro.getD 2 []).getD j 0)) (A := fun q => s.heap.size ≤ q) (by decide) (hf _ xfl_a2.1) (va_eqt (hf _ xfl_a2.2)) (fun j hj => va_eqt (hf _ (xfl_e2 j hj))) hA
  obtain ⟨t3, v3, T3⟩ := va_Tof (tm := .static "QuayRopes" "FIRST_LIMIT" "[I") (N := 7) (f := fun j => .int ((xt_ro.getD 3 []).getD j 0)) (A := fun q => s.heap.size ≤ q) (by decide) (hf _ xfl_a3.1) (va_eqt (hf _ xfl_a3.2)) (fun j hj => va_eqt (hf _ (xfl_e3 j hj))) hA
  obtain ⟨t4, v4, T4⟩ := va_Tof (tm := .static "QuayRopes" "LEAST_NUMBER" "[I") (N := 19) (f := fun j => .int ((xt_ro.getD 4 []).getD j 0)) (A := fun q => s.heap.size ≤ q) (by decide) (hf _ xfl_a4.1) (va_eqt (hf _ xfl_a4.2)) (fun j hj => va_eqt (hf _ (xfl_e4 j hj))) hA
  obtain ⟨t5, v5, T5⟩ := va_Tof (tm := .static "QuayRopes" "GREATEST_NUMBER" "[I") (N := 19) (f := fun j => .int ((xt_ro.getD 5 []).getD j 0)) (A := fun q => s.heap.size ≤ q) (by decide) (hf _ xfl_a5.1) (va_eqt (hf _ xfl_a5.2)) (fun j hj => va_eqt (hf _ (xfl_e5 j hj))) hA
  obtain ⟨adK, adV, hstr, hev⟩ := xi_str hf hA
  obtain ⟨F, hF, hZ⟩ : ∃ F : Value, F.category = 1 ∧ va_Z "jdk/internal/util/Preconditions" "SIOOBE_FORMATTER" "Ljava/util/function/BiFunction;" F (fun q => s.heap.size ≤ q) s s.heap := by
    rcases va_Zqof (A := fun q => s.heap.size ≤ q) (ht _ i5) (ht _ i4) (hf _ xfl_p.2) hA with h | ⟨t, h⟩
    · exact ⟨.null, rfl, h⟩
    · exact ⟨.ref t, rfl, h⟩
  have hZ6 := va_Zof (A := fun q => s.heap.size ≤ q) (ht _ i3) (ht _ i2) (va_eqt (hf _ xfl_p.1)) hA
  refine ⟨fun k => if k = 1010 then b else if k < 1100 then [t0, t1, t2, t3, t4, t5].getD (k - 1020) 0 else if k < 1200 then adK (k - 1100) else adV (k - 1200), F, hF, rfl, fun ad had => ⟨by omega, ?_, ?_, ?_, ?_, ?_, ?_⟩⟩
  · obtain ⟨scr, h1, h2, h3, h4, h5⟩ := hX
    rw [had 1010 (by decide)]
    exact ⟨scr, h1, h2, h3, by omega, by rw [h4], h5, Nat.not_le.mpr hbl⟩
  · intro i hi
    rw [had (1020 + i) (by omega)]
    match i, hi with
    | 0, _ => exact T0
    | 1, _ => exact T1
    | 2, _ => exact T2
    | 3, _ => exact T3
    | 4, _ => exact T4
    | 5, _ => exact T5
    | i + 6, h => exact absurd h (by omega)
  · refine ⟨fun i hi => ?_, trivial⟩
    have e1 : ad (1100 + i) = adK i := by
      rw [had (1100 + i) (by omega)]
      show (if 1100 + i = 1010 then b else if 1100 + i < 1100 then [t0, t1, t2, t3, t4, t5].getD (1100 + i - 1020) 0 else if 1100 + i < 1200 then adK (1100 + i - 1100) else adV (1100 + i - 1200)) = _
      rw [if_neg (by omega), if_neg (by omega), if_pos (by omega), show 1100 + i - 1100 = i by omega]
    have e2 : ad (1200 + i) = adV i := by
      rw [had (1200 + i) (by omega)]
      show (if 1200 + i = 1010 then b else if 1200 + i < 1100 then [t0, t1, t2, t3, t4, t5].getD (1200 + i - 1020) 0 else if 1200 + i < 1200 then adK (1200 + i - 1100) else adV (1200 + i - 1200)) = _
      rw [if_neg (by omega), if_neg (by omega), if_neg (by omega), show 1200 + i - 1200 = i by omega]
    dsimp only
    rw [e1, e2]
    exact hstr.1 i hi
  · intro i q hq
    have hi : i < 14 := (List.getElem?_eq_some_iff.mp hq).1
    have e1 : ad (1100 + i) = adK i := by
      rw [had (1100 + i) (by omega)]
      show (if 1100 + i = 1010 then b else if 1100 + i < 1100 then [t0, t1, t2, t3, t4, t5].getD (1100 + i - 1020) 0 else if 1100 + i < 1200 then adK (1100 + i - 1100) else adV (1100 + i - 1200)) = _
      rw [if_neg (by omega), if_neg (by omega), if_pos (by omega), show 1100 + i - 1100 = i by omega]
    have eq : xt_so.getD i ("", 0, "") = q := by rw [List.getD_eq_getElem?_getD, hq]; rfl
    have w := ht _ (xfl_s3 i hi)
    have v := hev i hi
    unfold xtm at v
    rw [eq] at w v
    rw [e1]
    exact vk_R.of w v
  · intro i q hq
    have hi : i < 8 := (List.getElem?_eq_some_iff.mp hq).1
    match i, hi, hq with
    | 0, _, hq =>
      cases hq
      have e : ad 1020 = t0 := had 1020 (by decide)
      show va_Z _ _ _ (.ref (ad 1020)) _ _ _
      rw [e]
      exact va_Zof (ht _ xfl_z0) (ht _ i1) v0 hA
    | 1, _, hq =>
      cases hq
      have e : ad 1021 = t1 := had 1021 (by decide)
      show va_Z _ _ _ (.ref (ad 1021)) _ _ _
      rw [e]
      exact va_Zof (ht _ xfl_z1) (ht _ i1) v1 hA
    | 2, _, hq =>
      cases hq
      have e : ad 1022 = t2 := had 1022 (by decide)
      show va_Z _ _ _ (.ref (ad 1022)) _ _ _
      rw [e]
      exact va_Zof (ht _ xfl_z2) (ht _ i1) v2 hA
    | 3, _, hq =>
      cases hq
      have e : ad 1023 = t3 := had 1023 (by decide)
      show va_Z _ _ _ (.ref (ad 1023)) _ _ _
      rw [e]
      exact va_Zof (ht _ xfl_z3) (ht _ i1) v3 hA
    | 4, _, hq =>
      cases hq
      have e : ad 1024 = t4 := had 1024 (by decide)
      show va_Z _ _ _ (.ref (ad 1024)) _ _ _
      rw [e]
      exact va_Zof (ht _ xfl_z4) (ht _ i1) v4 hA
    | 5, _, hq =>
      cases hq
      have e : ad 1025 = t5 := had 1025 (by decide)
      show va_Z _ _ _ (.ref (ad 1025)) _ _ _
      rw [e]
      exact va_Zof (ht _ xfl_z5) (ht _ i1) v5 hA
    | 6, _, hq => cases hq; exact hZ6
    | 7, _, hq => cases hq; exact hZ
    | i + 8, h, _ => exact absurd h (by omega)
  · intro w hw hn
    have hb := hts0 w hw
    cases w <;> simp only [xe_NW, Bool.false_eq_true] at hn
    · exact va_Nw.of rfl hb
    · exact va_Nw.of rfl hb
/-! classes and array classes at the law's start -/
theorem xi_known {args : Array Value} {s : State} (hts : ∀ w ∈ xTT, w.before args s = true) : ∃ D : va_G, ∀ (c : Nat) (q : vw_C), xCls[c]? = some q → u_Kn s q.1 q.2.1 q.2.2 (D.1 c) (D.2 c) := by
  have h : ∀ c : Nat, ∃ x : ClassId × (Nat → Nat), ∀ q : vw_C, xCls[c]? = some q → u_Kn s q.1 q.2.1 q.2.2 x.1 x.2 := by
    intro c
    match c with
    | 0 =>
      obtain ⟨x, y, hk⟩ := u_known (C := RX0) (T := TX0) (N := 11) (n := 11) hts (xi_u xk_w0) (hts (Cond.instantiable RX0 11) (xi_in 267 (by decide +kernel) rfl))
      exact ⟨(x, y), fun q hq => by cases hq; exact hk⟩
    | 1 =>
      obtain ⟨x, y, hk⟩ := u_known (C := RX1) (T := TX1) (N := 12) (n := 12) hts (xi_u xk_w1) (hts (Cond.instantiable RX1 12) (xi_in 197 (by decide +kernel) rfl))
      exact ⟨(x, y), fun q hq => by cases hq; exact hk⟩
    | 2 =>
      obtain ⟨x, y, hk⟩ := u_known (C := RX2) (T := TX2) (N := 4) (n := 4) hts (xi_u xk_w2) (hts (Cond.instantiable RX2 4) (xi_in 174 (by decide +kernel) rfl))
      exact ⟨(x, y), fun q hq => by cases hq; exact hk⟩
    | 3 =>
      obtain ⟨x, y, hk⟩ := u_known (C := RX3) (T := TX3) (N := 6) (n := 6) hts (xi_u xk_w3) (hts (Cond.instantiable RX3 6) (xi_in 364 (by decide +kernel) rfl))
      exact ⟨(x, y), fun q hq => by cases hq; exact hk⟩
    | 4 =>
      obtain ⟨x, y, hk⟩ := u_known (C := RX4) (T := TX4) (N := 16) (n := 16) hts (xi_u xk_w4) (hts (Cond.instantiable RX4 16) (xi_in 111 (by decide +kernel) rfl))
      exact ⟨(x, y), fun q hq => by cases hq; exact hk⟩
    | 5 =>
      obtain ⟨x, y, hk⟩ := u_known (C := RX5) (T := TX5) (N := 7) (n := 7) hts (xi_u xk_w5) (hts (Cond.instantiable RX5 7) (xi_in 316 (by decide +kernel) rfl))
      exact ⟨(x, y), fun q hq => by cases hq; exact hk⟩
    | 6 =>
      obtain ⟨x, y, hk⟩ := u_known (C := RX6) (T := TX6) (N := 2) (n := 2) hts (xi_u xk_w6) (hts (Cond.instantiable RX6 2) (xi_in 348 (by decide +kernel) rfl))
      exact ⟨(x, y), fun q hq => by cases hq; exact hk⟩
    | 7 =>
      obtain ⟨x, y, hk⟩ := u_known (C := RX7) (T := TX7) (N := 2) (n := 2) hts (xi_u xk_w7) (hts (Cond.instantiable RX7 2) (xi_in 49 (by decide +kernel) rfl))
      exact ⟨(x, y), fun q hq => by cases hq; exact hk⟩
    | 8 =>
      obtain ⟨x, y, hk⟩ := u_known (C := RX8) (T := TX8) (N := 4) (n := 4) hts (xi_u xk_w8) (hts (Cond.instantiable RX8 4) (xi_in 246 (by decide +kernel) rfl))
      exact ⟨(x, y), fun q hq => by cases hq; exact hk⟩
    | 9 =>
      obtain ⟨x, y, hk⟩ := u_known (C := RX9) (T := TX9) (N := 3) (n := 3) hts (xi_u xk_w9) (hts (Cond.instantiable RX9 3) (xi_in 31 (by decide +kernel) rfl))
      exact ⟨(x, y), fun q hq => by cases hq; exact hk⟩
    | 10 =>
      obtain ⟨x, y, hk⟩ := u_known (C := RX10) (T := TX10) (N := 10) (n := 10) hts (xi_u xk_w10) (hts (Cond.instantiable RX10 10) (xi_in 62 (by decide +kernel) rfl))
      exact ⟨(x, y), fun q hq => by cases hq; exact hk⟩
    | 11 =>
      obtain ⟨x, y, hk⟩ := u_known (C := RX11) (T := TX11) (N := 13) (n := 13) hts (xi_u xk_w11) (hts (Cond.instantiable RX11 13) (xi_in 23 (by decide +kernel) rfl))
      exact ⟨(x, y), fun q hq => by cases hq; exact hk⟩
    | 12 =>
      obtain ⟨x, y, hk⟩ := u_known (C := RX12) (T := TX12) (N := 64) (n := 64) hts (xi_u xk_w12) (hts (Cond.instantiable RX12 64) (xi_in 1163 (by decide +kernel) rfl))
      exact ⟨(x, y), fun q hq => by cases hq; exact hk⟩
    | c + 13 => exact ⟨(0, fun _ => 0), fun q hq => by cases hq⟩
  obtain ⟨f, hf⟩ := Classical.axiomOfChoice h
  exact ⟨(fun c => (f c).1, fun c => (f c).2), fun c q hq => hf c q hq⟩
theorem xi_arrs {args : Array Value} {s : State} (hts : ∀ w ∈ xTT, w.before args s = true) (hAO : (Cond.arrayOver (.object "QuayRopes$Ship")).before args s = true) : ∃ cA : Nat → ClassId, ∀ (k : Nat) (q : ClassId × FieldType), (xtys cA)[k]? = some q → ArrOfT s q.1 q.2 ∧ va_RA s q.1 q.2 := by
  obtain ⟨c0, k0, p0, f0, g0, h0⟩ := Cond.arrayClass_spec (hts (Cond.arrayClass .int) (xi_in 47 (by decide +kernel) rfl))
  obtain ⟨c1, k1, p1, f1, g1, h1⟩ := Cond.arrayClass_spec (hts (Cond.arrayClass .long) (xi_in 265 (by decide +kernel) rfl))
  obtain ⟨c2, k2, p2, f2, g2, h2⟩ := Cond.arrayClass_spec (hts (Cond.arrayClass .byte) (xi_in 599 (by decide +kernel) rfl))
  obtain ⟨c3, k3, p3, f3, g3, h3⟩ := Cond.arrayClass_spec (hts (Cond.arrayClass .boolean) (xi_in 1361 (by decide +kernel) rfl))
  obtain ⟨p4, c4, k4, m1, m2, m3, m4, m5⟩ := Cond.arrayOver_spec hAO
  refine ⟨fun k => [c0, c1, c2, c3, c4].getD k 0, fun k q hq => ?_⟩
  match k, hq with
  | 0, hq => cases hq; exact ⟨fun n z => ⟨fun _ h => (by cases h), k0, g0, p0, h0⟩, f0⟩
  | 1, hq => cases hq; exact ⟨fun n z => ⟨fun _ h => (by cases h), k1, g1, p1, h1⟩, f1⟩
  | 2, hq => cases hq; exact ⟨fun n z => ⟨fun _ h => (by cases h), k2, g2, p2, h2⟩, f2⟩
  | 3, hq => cases hq; exact ⟨fun n z => ⟨fun _ h => (by cases h), k3, g3, p3, h3⟩, f3⟩
  | 4, hq => cases hq; exact ⟨fun n z => ⟨fun _ h => (by cases h), k4, m3, p4, m4⟩, k4, p4, m3, m4, m1, m5⟩
  | k + 5, hq => cases hq
