/-! THE REAL MACHINE FOLLOWS THE SMALL ONE: every step, told apart by its instruction. -/
section XSD
variable {p : Program} {l : Launch} {e : Env} {R : Room} {s : State} {m : MethodId} {args : Array Value} {below : List Frame} {meth : Method} {c : Code} {H : Heap} {locs : List Loc} {cells slots : Nat} {Q : State → Prop}
variable {cA : Nat → ClassId} {ad : Nat → Nat} {F : Value} {D : va_G} {xs : Nat → Int32} {L : Nat} {A : Nat → Prop} {y pc : Nat}
theorem xe_lo_get {ls : xL} {i : Nat} {v : Value} (h : xe_lo ls i = v) (hne : v ≠ .double 0) : ls[i]? = some (some v) := by
  unfold xe_lo at h
  split at h
  · rename_i w hw; subst h; exact hw
  · exact absurd h.symm hne
theorem xe_lv_at {ls : xL} {i : Nat} {v : Value} (h : ls[i]? = some (some v)) : ∃ k : Nat, (xe_lv ad F ls)[k]? = some (i, xe_c ad F v) := List.getElem?_of_mem (xe_lv_mem.mpr ⟨v, h, rfl⟩)
theorem xe_b2 {a b : Bool} (h : (a && b) = true) : a = true ∧ b = true := by rw [Bool.and_eq_true] at h; exact h
theorem xs_step {ins : Instr} {a b v pl ln} {ls : xL} {st : List Value} {σ : xM} {t : xS} {lsA : Array Slot} (X : xe_X p R s m args c cells slots y cA ad F D xs L A) (ok0 : xe_okb y (pc, ins, ln, pl, a, b, v) = true) (h : xe_step pc ins a b v ls st σ = some t)
    (K : xe_K p l e R s m args below meth c cells slots Q cA ad F D xs L A y t) (hL : xe_LR ad F lsA ls (xm_l y)) (hW : xe_WH cA ad D xs L A s.heap σ H locs) : W p l e R s m args below meth c H locs cells slots Q (F0 m pc lsA (st.map (xe_c ad F))) := by
  have hd := of_decide_eq_true (xe_b2 ok0).1
  have ok := (xe_b2 ok0).2
  clear ok0
  have X' := X
  obtain ⟨hx, hb, hml, hown, hts, hK, hRO, hF, hR, hA, hinj⟩ := X'
  cases ins
  all_goals (try dsimp only at ok)
  case aconst_null =>
    have o1 : ln = 1 := of_decide_eq_true ok
    clear ok
    subst o1
    cases h
    exact lv_null hx hb hd (K lsA H locs hL hW)
  case iconst i =>
    have o1 := (xe_b2 ok).1
    replace ok := (xe_b2 ok).2
    replace o1 : ln = 1 := of_decide_eq_true o1
    subst o1
    have o2 := of_decide_eq_true ok
    clear ok
    subst o2
    cases h
    exact lv_iconst hx hb hd rfl (K lsA H locs hL hW)
  case lconst i =>
    have o1 := (xe_b2 ok).1
    replace ok := (xe_b2 ok).2
    replace o1 : ln = 1 := of_decide_eq_true o1
    subst o1
    have o2 := of_decide_eq_true ok
    clear ok
    subst o2
    cases h
    exact lv_lconst hx hb hd rfl (K lsA H locs hL hW)
  case bipush i =>
    have o1 := (xe_b2 ok).1
    replace ok := (xe_b2 ok).2
    replace o1 : ln = 2 := of_decide_eq_true o1
    subst o1
    have o2 := of_decide_eq_true ok
    clear ok
    subst o2
    cases h
    exact lv_bipush hx hb hd rfl (K lsA H locs hL hW)
  case sipush i =>
    have o1 := (xe_b2 ok).1
    replace ok := (xe_b2 ok).2
    replace o1 : ln = 3 := of_decide_eq_true o1
    subst o1
    have o2 := of_decide_eq_true ok
    clear ok
    subst o2
    cases h
    exact lv_sipush hx hb hd rfl (K lsA H locs hL hW)
  case ldc ix =>
    have o1 := (xe_b2 ok).1
    replace ok := (xe_b2 ok).2
    replace o1 : ln = 2 := of_decide_eq_true o1
    subst o1
    cases h
    split at ok
    · rename_i x
      have o2 := of_decide_eq_true ok
      clear ok
      obtain ⟨w, hw, hok⟩ := xe_xl o2 (by simp)
      have hok2 : w = .constant (xown (xm_o y)) ix (Int32.ofInt x.toInt) := hok
      rw [Int32.ofInt_toInt] at hok2
      have hlink := xg_mem hts hw (by rw [hok2]; rfl)
      rw [hok2] at hlink
      exact lv_ldc hx hb hown hlink hd (K lsA H locs hL hW)
    · rename_i k
      have o5 := (xe_b2 ok).2
      replace ok := (xe_b2 ok).1
      have o4 := (xe_b2 ok).2
      replace ok := (xe_b2 ok).1
      have o2 := (xe_b2 ok).1
      have o3 := (xe_b2 ok).2
      clear ok
      replace o2 := of_decide_eq_true o2
      replace o3 := of_decide_eq_true o3
      replace o4 := of_decide_eq_true o4
      replace o5 := of_decide_eq_true o5
      subst o2
      obtain ⟨-, -, -, -, hR5, -⟩ := hRO
      have hall : ∀ i : Nat, i < 14 → ∃ q, xt_so[i]? = some q ∧ q.1 = xown (xt_son.getD i (99, 0)).1 ∧ q.2.1 = (xt_son.getD i (99, 0)).2 := by
        intro i hi
        match i, hi with
        | 0, _ => exact ⟨_, rfl, rfl, rfl⟩
        | 1, _ => exact ⟨_, rfl, rfl, rfl⟩
        | 2, _ => exact ⟨_, rfl, rfl, rfl⟩
        | 3, _ => exact ⟨_, rfl, rfl, rfl⟩
        | 4, _ => exact ⟨_, rfl, rfl, rfl⟩
        | 5, _ => exact ⟨_, rfl, rfl, rfl⟩
        | 6, _ => exact ⟨_, rfl, rfl, rfl⟩
        | 7, _ => exact ⟨_, rfl, rfl, rfl⟩
        | 8, _ => exact ⟨_, rfl, rfl, rfl⟩
        | 9, _ => exact ⟨_, rfl, rfl, rfl⟩
        | 10, _ => exact ⟨_, rfl, rfl, rfl⟩
        | 11, _ => exact ⟨_, rfl, rfl, rfl⟩
        | 12, _ => exact ⟨_, rfl, rfl, rfl⟩
        | 13, _ => exact ⟨_, rfl, rfl, rfl⟩
        | n + 14, h => exact absurd h (by omega)
      obtain ⟨q, hq, e1, e2⟩ := hall b o3
      have hv := hR5 b q hq
      rw [e1, o4, e2, o5] at hv
      exact va_ldcS hx hb hown hv hd (K lsA H locs hL hW)
    · cases ok
  case ldc_w ix =>
    have o1 := (xe_b2 ok).1
    replace ok := (xe_b2 ok).2
    replace o1 : ln = 3 := of_decide_eq_true o1
    subst o1
    cases h
    split at ok
    · rename_i x
      have o2 := of_decide_eq_true ok
      clear ok
      obtain ⟨w, hw, hok⟩ := xe_xl o2 (by simp)
      have hok2 : w = .constant (xown (xm_o y)) ix (Int32.ofInt x.toInt) := hok
      rw [Int32.ofInt_toInt] at hok2
      have hlink := xg_mem hts hw (by rw [hok2]; rfl)
      rw [hok2] at hlink
      exact lv_ldcw hx hb hown hlink hd (K lsA H locs hL hW)
    · cases ok
  case ldc2_w ix =>
    have o1 := (xe_b2 ok).1
    replace ok := (xe_b2 ok).2
    replace o1 : ln = 3 := of_decide_eq_true o1
    subst o1
    cases h
    split at ok
    · rename_i x
      have o2 := of_decide_eq_true ok
      clear ok
      obtain ⟨w, hw, hok⟩ := xe_xl o2 (by simp)
      have hok2 : w = .constantLong (xown (xm_o y)) ix (Int64.ofInt x.toInt) := hok
      rw [Int64.ofInt_toInt] at hok2
      have hlink := xg_mem hts hw (by rw [hok2]; rfl)
      rw [hok2] at hlink
      exact lv_ldc2 hx hb hown hlink hd (K lsA H locs hL hW)
    · cases ok
  case getstatic ix =>
    have o4 := (xe_b2 ok).2
    replace ok := (xe_b2 ok).1
    have o3 := (xe_b2 ok).2
    replace ok := (xe_b2 ok).1
    have o1 := (xe_b2 ok).1
    have o2 := (xe_b2 ok).2
    clear ok
    replace o1 : ln = 3 := of_decide_eq_true o1
    subst o1
    replace o2 := of_decide_eq_true o2
    replace o3 := of_decide_eq_true o3
    cases h
    obtain ⟨-, -, -, -, -, hR6, -⟩ := hRO
    rw [Bool.or_eq_true] at o4
    rcases o4 with o4 | o4
    · obtain ⟨w, hw, hok⟩ := xe_xl (of_decide_eq_true o4) (by simp)
      obtain ⟨C, n, d, hq, hok2⟩ : ∃ C n d, xt_sn[b]? = some (C, n, d) ∧ w = .fieldLink (xown (xm_o y)) ix C n d := hok
      have hlink := xg_mem hts hw (by rw [hok2]; rfl)
      rw [hok2] at hlink
      have hZ := hR6 b _ hq
      rw [o3] at hZ
      exact va_gets hx hb hZ hW.2.2.1 hown hlink (fun _ z => z) hd (K lsA H locs hL hW)
    · obtain ⟨w, hw, hok⟩ := xe_xl (of_decide_eq_true o4) (by simp)
      obtain ⟨C, n, d, hq, hok2⟩ : ∃ C n d, xt_sn[b]? = some (C, n, d) ∧ w = .fieldLinkNest (xown (xm_o y)) ix C n d "QuayRopes" := hok
      have hZ := hR6 b _ hq
      rw [o3] at hZ
      have hN := X.2.2.2.2.2.2.1.2.2.2.2.2.2 w hw (by rw [hok2]; rfl)
      rw [hok2] at hN
      exact va_getsN hx hb hZ hW.2.2.1 hown (va_Nw.use rfl hN) (fun _ z => z) hd (K lsA H locs hL hW)
  case iload_n k =>
    have o1 : ln = 1 := of_decide_eq_true ok
    clear ok
    subst o1
    have h1 : xe_ldi (pc + 1) ls st σ (xe_lo ls k) = some t := h
    unfold xe_ldi at h1
    split at h1
    · rename_i x hxx
      cases h1
      exact lv_iload_n hx hb hd rfl (hL.lo hxx (by simp)) (K lsA H locs hL hW)
    · cases h1
  case iload k =>
    have o1 : ln = 2 := of_decide_eq_true ok
    clear ok
    subst o1
    have h1 : xe_ldi (pc + 2) ls st σ (xe_lo ls k) = some t := h
    unfold xe_ldi at h1
    split at h1
    · rename_i x hxx
      cases h1
      exact lv_iload hx hb hd (hL.lo hxx (by simp)) (K lsA H locs hL hW)
    · cases h1
  case lload_n k =>
    have o1 : ln = 1 := of_decide_eq_true ok
    clear ok
    subst o1
    have h1 : xe_ldl (pc + 1) ls st σ (xe_lo ls k) = some t := h
    unfold xe_ldl at h1
    split at h1
    · rename_i x hxx
      cases h1
      exact lv_lload_n hx hb hd rfl (hL.lo hxx (by simp)) (K lsA H locs hL hW)
    · cases h1
  case lload k =>
    have o1 : ln = 2 := of_decide_eq_true ok
    clear ok
    subst o1
    have h1 : xe_ldl (pc + 2) ls st σ (xe_lo ls k) = some t := h
    unfold xe_ldl at h1
    split at h1
    · rename_i x hxx
      cases h1
      exact lv_lload hx hb hd (hL.lo hxx (by simp)) (K lsA H locs hL hW)
    · cases h1
  case aload_n k =>
    have o1 : ln = 1 := of_decide_eq_true ok
    clear ok
    subst o1
    have h1 : xe_lda (pc + 1) ls st σ (xe_lo ls k) = some t := h
    unfold xe_lda at h1
    split at h1
    · rename_i x hxx
      cases h1
      exact lv_aload_n hx hb hd rfl (hL.lo hxx (by simp)) (K lsA H locs hL hW)
    · rename_i hxx
      cases h1
      exact lv_aload_nN hx hb hd rfl (hL.lo hxx (by simp)) (K lsA H locs hL hW)
    · cases h1
  case aload k =>
    have o1 : ln = 2 := of_decide_eq_true ok
    clear ok
    subst o1
    have h1 : xe_lda (pc + 2) ls st σ (xe_lo ls k) = some t := h
    unfold xe_lda at h1
    split at h1
    · rename_i x hxx
      cases h1
      exact lv_aload hx hb hd (hL.lo hxx (by simp)) (K lsA H locs hL hW)
    · rename_i hxx
      cases h1
      exact lv_aloadN hx hb hd (hL.lo hxx (by simp)) (K lsA H locs hL hW)
    · cases h1
  case istore_n k =>
    have o1 : ln = 1 := of_decide_eq_true ok
    clear ok
    subst o1
    have h1 : xe_sti (pc + 1) ls st σ k = some t := h
    unfold xe_sti at h1
    split at h1
    · rename_i x r
      cases hst : xe_st1 ls k (.int x) with
      | none => rw [hst] at h1; cases h1
      | some ls2 =>
        rw [hst] at h1
        cases h1
        exact lv_istore_n hx hb hd rfl hL.has (by rw [← hL.1]; exact xe_st1_lt hst) rfl (fun lsB hB => K lsB H locs (hL.st1 hF hst hB) hW)
    · cases h1
  case istore k =>
    have o1 : ln = 2 := of_decide_eq_true ok
    clear ok
    subst o1
    have h1 : xe_sti (pc + 2) ls st σ k = some t := h
    unfold xe_sti at h1
    split at h1
    · rename_i x r
      cases hst : xe_st1 ls k (.int x) with
      | none => rw [hst] at h1; cases h1
      | some ls2 =>
        rw [hst] at h1
        cases h1
        exact lv_istore hx hb hd hL.has (by rw [← hL.1]; exact xe_st1_lt hst) rfl (fun lsB hB => K lsB H locs (hL.st1 hF hst hB) hW)
    · cases h1
  case lstore_n k =>
    have o1 : ln = 1 := of_decide_eq_true ok
    clear ok
    subst o1
    have h1 : xe_stl (pc + 1) ls st σ k = some t := h
    unfold xe_stl at h1
    split at h1
    · rename_i x r
      cases hst : xe_st2 ls k (.long x) with
      | none => rw [hst] at h1; cases h1
      | some ls2 =>
        rw [hst] at h1
        cases h1
        exact lv_lstore_n hx hb hd rfl hL.has (by rw [← hL.1]; exact xe_st2_lt hst) rfl (fun lsB hB => K lsB H locs (hL.st2 hF hst hB) hW)
    · cases h1
  case lstore k =>
    have o1 : ln = 2 := of_decide_eq_true ok
    clear ok
    subst o1
    have h1 : xe_stl (pc + 2) ls st σ k = some t := h
    unfold xe_stl at h1
    split at h1
    · rename_i x r
      cases hst : xe_st2 ls k (.long x) with
      | none => rw [hst] at h1; cases h1
      | some ls2 =>
        rw [hst] at h1
        cases h1
        exact lv_lstore hx hb hd hL.has (by rw [← hL.1]; exact xe_st2_lt hst) rfl (fun lsB hB => K lsB H locs (hL.st2 hF hst hB) hW)
    · cases h1
  case astore_n k =>
    have o1 : ln = 1 := of_decide_eq_true ok
    clear ok
    subst o1
    have h1 : xe_sta (pc + 1) ls st σ k = some t := h
    unfold xe_sta at h1
    split at h1
    · rename_i x r
      cases hst : xe_st1 ls k (.ref x) with
      | none => rw [hst] at h1; cases h1
      | some ls2 =>
        rw [hst] at h1
        cases h1
        exact lv_astore_n hx hb hd rfl hL.has (by rw [← hL.1]; exact xe_st1_lt hst) rfl (fun lsB hB => K lsB H locs (hL.st1 hF hst hB) hW)
    · rename_i r
      cases hst : xe_st1 ls k (.null) with
      | none => rw [hst] at h1; cases h1
      | some ls2 =>
        rw [hst] at h1
        cases h1
        exact lv_astore_nN hx hb hd rfl hL.has (by rw [← hL.1]; exact xe_st1_lt hst) rfl (fun lsB hB => K lsB H locs (hL.st1 hF hst hB) hW)
    · cases h1
  case astore k =>
    have o1 : ln = 2 := of_decide_eq_true ok
    clear ok
    subst o1
    have h1 : xe_sta (pc + 2) ls st σ k = some t := h
    unfold xe_sta at h1
    split at h1
    · rename_i x r
      cases hst : xe_st1 ls k (.ref x) with
      | none => rw [hst] at h1; cases h1
      | some ls2 =>
        rw [hst] at h1
        cases h1
        exact lv_astore hx hb hd hL.has (by rw [← hL.1]; exact xe_st1_lt hst) rfl (fun lsB hB => K lsB H locs (hL.st1 hF hst hB) hW)
    · rename_i r
      cases hst : xe_st1 ls k (.null) with
      | none => rw [hst] at h1; cases h1
      | some ls2 =>
        rw [hst] at h1
        cases h1
        exact lv_astoreN hx hb hd hL.has (by rw [← hL.1]; exact xe_st1_lt hst) rfl (fun lsB hB => K lsB H locs (hL.st1 hF hst hB) hW)
    · cases h1
  case iinc k cc =>
    have o1 : ln = 3 := of_decide_eq_true ok
    clear ok
    subst o1
    have h1 : xe_inc (pc + 3) ls st σ k (Int32.ofInt cc) = some t := h
    unfold xe_inc at h1
    split at h1
    · rename_i x hxx
      cases hst : xe_st1 ls k (.int (x + Int32.ofInt cc)) with
      | none => rw [hst] at h1; cases h1
      | some ls2 =>
        rw [hst] at h1
        cases h1
        obtain ⟨kk, hkk⟩ := xe_lv_at (ad := ad) (F := F) (xe_lo_get hxx (by simp))
        exact lv_iinc hx hb hd hL.has hkk rfl (by rw [← hL.1]; exact xe_st1_lt hst) rfl (fun lsB hB => K lsB H locs (hL.st1 hF hst hB) hW)
    · cases h1
  case iadd =>
    have o1 : ln = 1 := of_decide_eq_true ok
    clear ok
    subst o1
    have h1 : xe_b (pc + 1) ls st σ (fun x y => x + y) = some t := h
    unfold xe_b at h1
    split at h1
    · cases h1
      exact lv_iadd hx hb hd (K lsA H locs hL hW)
    · cases h1
  case isub =>
    have o1 : ln = 1 := of_decide_eq_true ok
    clear ok
    subst o1
    have h1 : xe_b (pc + 1) ls st σ (fun x y => x - y) = some t := h
    unfold xe_b at h1
    split at h1
    · cases h1
      exact lv_isub hx hb hd (K lsA H locs hL hW)
    · cases h1
  case imul =>
    have o1 : ln = 1 := of_decide_eq_true ok
    clear ok
    subst o1
    have h1 : xe_b (pc + 1) ls st σ (fun x y => x * y) = some t := h
    unfold xe_b at h1
    split at h1
    · cases h1
      exact lv_imul hx hb hd (K lsA H locs hL hW)
    · cases h1
  case iand =>
    have o1 : ln = 1 := of_decide_eq_true ok
    clear ok
    subst o1
    have h1 : xe_b (pc + 1) ls st σ (fun x y => x &&& y) = some t := h
    unfold xe_b at h1
    split at h1
    · cases h1
      exact lv_iand hx hb hd (K lsA H locs hL hW)
    · cases h1
  case ior =>
    have o1 : ln = 1 := of_decide_eq_true ok
    clear ok
    subst o1
    have h1 : xe_b (pc + 1) ls st σ (fun x y => x ||| y) = some t := h
    unfold xe_b at h1
    split at h1
    · cases h1
      exact lv_ior hx hb hd (K lsA H locs hL hW)
    · cases h1
  case ixor =>
    have o1 : ln = 1 := of_decide_eq_true ok
    clear ok
    subst o1
    have h1 : xe_b (pc + 1) ls st σ (fun x y => x ^^^ y) = some t := h
    unfold xe_b at h1
    split at h1
    · cases h1
      exact lv_ixor hx hb hd (K lsA H locs hL hW)
    · cases h1
  case ishl =>
    have o1 : ln = 1 := of_decide_eq_true ok
    clear ok
    subst o1
    have h1 : xe_b (pc + 1) ls st σ (fun x y => x <<< (y &&& 31)) = some t := h
    unfold xe_b at h1
    split at h1
    · cases h1
      exact lv_ishl hx hb hd (K lsA H locs hL hW)
    · cases h1
  case ishr =>
    have o1 : ln = 1 := of_decide_eq_true ok
    clear ok
    subst o1
    have h1 : xe_b (pc + 1) ls st σ (fun x y => x >>> (y &&& 31)) = some t := h
    unfold xe_b at h1
    split at h1
    · cases h1
      exact lv_ishr hx hb hd (K lsA H locs hL hW)
    · cases h1
  case iushr =>
    have o1 : ln = 1 := of_decide_eq_true ok
    clear ok
    subst o1
    have h1 : xe_b (pc + 1) ls st σ (fun x y => (x.toUInt32 >>> (y.toUInt32 &&& Int32.toUInt32 31)).toInt32) = some t := h
    unfold xe_b at h1
    split at h1
    · cases h1
      exact lv_iushr hx hb hd rfl (K lsA H locs hL hW)
    · cases h1
  case idiv =>
    have o1 : ln = 1 := of_decide_eq_true ok
    clear ok
    subst o1
    have h1 : xe_d (pc + 1) ls st σ (fun x y => x / y) = some t := h
    unfold xe_d at h1
    split at h1
    · split at h1
      · cases h1
      · rename_i hne
        cases h1
        exact lv_idiv hx hb hd hne (K lsA H locs hL hW)
    · cases h1
  case irem =>
    have o1 : ln = 1 := of_decide_eq_true ok
    clear ok
    subst o1
    have h1 : xe_d (pc + 1) ls st σ (fun x y => x - x / y * y) = some t := h
    unfold xe_d at h1
    split at h1
    · split at h1
      · cases h1
      · rename_i hne
        cases h1
        exact lv_irem hx hb hd hne (K lsA H locs hL hW)
    · cases h1
  case ineg =>
    have o1 : ln = 1 := of_decide_eq_true ok
    clear ok
    subst o1
    have h1 : xe_u (pc + 1) ls st σ (fun x => .int (-x)) = some t := h
    unfold xe_u at h1
    split at h1
    · cases h1
      exact lv_ineg hx hb hd (K lsA H locs hL hW)
    · cases h1
  case i2l =>
    have o1 : ln = 1 := of_decide_eq_true ok
    clear ok
    subst o1
    have h1 : xe_u (pc + 1) ls st σ (fun x => .long x.toInt64) = some t := h
    unfold xe_u at h1
    split at h1
    · cases h1
      exact lv_i2l hx hb hd rfl (K lsA H locs hL hW)
    · cases h1
  case i2b =>
    have o1 : ln = 1 := of_decide_eq_true ok
    clear ok
    subst o1
    have h1 : xe_u (pc + 1) ls st σ (fun x => .int x.toInt8.toInt32) = some t := h
    unfold xe_u at h1
    split at h1
    · cases h1
      exact lv_i2b hx hb hd rfl (K lsA H locs hL hW)
    · cases h1
  case i2c =>
    have o1 : ln = 1 := of_decide_eq_true ok
    clear ok
    subst o1
    have h1 : xe_u (pc + 1) ls st σ (fun x => .int (x.toUInt32 % 65536).toInt32) = some t := h
    unfold xe_u at h1
    split at h1
    · cases h1
      exact lv_i2c hx hb hd rfl (K lsA H locs hL hW)
    · cases h1
  case l2i =>
    have o1 : ln = 1 := of_decide_eq_true ok
    clear ok
    subst o1
    have h1 : xe_ul (pc + 1) ls st σ (fun x => .int x.toInt32) = some t := h
    unfold xe_ul at h1
    split at h1
    · cases h1
      exact lv_l2i hx hb hd rfl (K lsA H locs hL hW)
    · cases h1
  case ladd =>
    have o1 : ln = 1 := of_decide_eq_true ok
    clear ok
    subst o1
    have h1 : xe_bl (pc + 1) ls st σ (fun x y => x + y) = some t := h
    unfold xe_bl at h1
    split at h1
    · cases h1
      exact lv_ladd hx hb hd (K lsA H locs hL hW)
    · cases h1
  case lsub =>
    have o1 : ln = 1 := of_decide_eq_true ok
    clear ok
    subst o1
    have h1 : xe_bl (pc + 1) ls st σ (fun x y => x - y) = some t := h
    unfold xe_bl at h1
    split at h1
    · cases h1
      exact lv_lsub hx hb hd (K lsA H locs hL hW)
    · cases h1
  case lmul =>
    have o1 : ln = 1 := of_decide_eq_true ok
    clear ok
    subst o1
    have h1 : xe_bl (pc + 1) ls st σ (fun x y => x * y) = some t := h
    unfold xe_bl at h1
    split at h1
    · cases h1
      exact lv_lmul hx hb hd (K lsA H locs hL hW)
    · cases h1
  case lor =>
    have o1 : ln = 1 := of_decide_eq_true ok
    clear ok
    subst o1
    have h1 : xe_bl (pc + 1) ls st σ (fun x y => x ||| y) = some t := h
    unfold xe_bl at h1
    split at h1
    · cases h1
      exact lv_lor hx hb hd (K lsA H locs hL hW)
    · cases h1
  case ldiv =>
    have o1 : ln = 1 := of_decide_eq_true ok
    clear ok
    subst o1
    have h1 : xe_ldv (pc + 1) ls st σ = some t := h
    unfold xe_ldv at h1
    split at h1
    · split at h1
      · cases h1
      · rename_i hne
        cases h1
        exact lv_ldiv hx hb hd hne (K lsA H locs hL hW)
    · cases h1
  case lshl =>
    have o1 : ln = 1 := of_decide_eq_true ok
    clear ok
    subst o1
    have h1 : xe_lsh (pc + 1) ls st σ = some t := h
    unfold xe_lsh at h1
    split at h1
    · cases h1
      exact lv_lshl hx hb hd rfl (K lsA H locs hL hW)
    · cases h1
  case lcmp =>
    have o1 : ln = 1 := of_decide_eq_true ok
    clear ok
    subst o1
    have h1 : xe_lc (pc + 1) ls st σ = some t := h
    unfold xe_lc at h1
    split at h1
    · cases h1
      exact W.lcmp hx hb hd (K lsA H locs hL hW)
    · cases h1
  case ifCond cd off =>
    have o1 := (xe_b2 ok).1
    replace ok := (xe_b2 ok).2
    replace o1 : ln = 3 := of_decide_eq_true o1
    subst o1
    have ht := of_decide_eq_true ok
    cases cd
    case eq =>
      have h1 : xe_i1 a (pc + 3) ls st σ (fun x => x = 0) = some t := h
      unfold xe_i1 at h1
      split at h1
      · exact lv_if_eq hx hb hd ht (fun hc => by rw [if_pos hc] at h1; cases h1; exact K lsA H locs hL hW) (fun hc => by rw [if_neg (hc)] at h1; cases h1; exact K lsA H locs hL hW)
      · cases h1
    case ne =>
      have h1 : xe_i1 a (pc + 3) ls st σ (fun x => ¬ x = 0) = some t := h
      unfold xe_i1 at h1
      split at h1
      · exact lv_if_ne hx hb hd ht (fun hc => by rw [if_pos hc] at h1; cases h1; exact K lsA H locs hL hW) (fun hc => by rw [if_neg (not_not_intro hc)] at h1; cases h1; exact K lsA H locs hL hW)
      · cases h1
    case lt =>
      have h1 : xe_i1 a (pc + 3) ls st σ (fun x => x < 0) = some t := h
      unfold xe_i1 at h1
      split at h1
      · exact lv_if_lt hx hb hd ht (fun hc => by rw [if_pos hc] at h1; cases h1; exact K lsA H locs hL hW) (fun hc => by rw [if_neg (hc)] at h1; cases h1; exact K lsA H locs hL hW)
      · cases h1
    case ge =>
      have h1 : xe_i1 a (pc + 3) ls st σ (fun x => 0 ≤ x) = some t := h
      unfold xe_i1 at h1
      split at h1
      · exact lv_if_ge hx hb hd ht (fun hc => by rw [if_pos hc] at h1; cases h1; exact K lsA H locs hL hW) (fun hc => by rw [if_neg (hc)] at h1; cases h1; exact K lsA H locs hL hW)
      · cases h1
    case gt =>
      have h1 : xe_i1 a (pc + 3) ls st σ (fun x => 0 < x) = some t := h
      unfold xe_i1 at h1
      split at h1
      · exact lv_if_gt hx hb hd ht (fun hc => by rw [if_pos hc] at h1; cases h1; exact K lsA H locs hL hW) (fun hc => by rw [if_neg (hc)] at h1; cases h1; exact K lsA H locs hL hW)
      · cases h1
    case le =>
      have h1 : xe_i1 a (pc + 3) ls st σ (fun x => x ≤ 0) = some t := h
      unfold xe_i1 at h1
      split at h1
      · exact lv_if_le hx hb hd ht (fun hc => by rw [if_pos hc] at h1; cases h1; exact K lsA H locs hL hW) (fun hc => by rw [if_neg (hc)] at h1; cases h1; exact K lsA H locs hL hW)
      · cases h1
  case if_icmp cd off =>
    have o1 := (xe_b2 ok).1
    replace ok := (xe_b2 ok).2
    replace o1 : ln = 3 := of_decide_eq_true o1
    subst o1
    have ht := of_decide_eq_true ok
    cases cd
    case eq =>
      have h1 : xe_i2 a (pc + 3) ls st σ (fun x y => x = y) = some t := h
      unfold xe_i2 at h1
      split at h1
      · exact lv_icmp_eq hx hb hd ht (fun hc => by rw [if_pos hc] at h1; cases h1; exact K lsA H locs hL hW) (fun hc => by rw [if_neg (hc)] at h1; cases h1; exact K lsA H locs hL hW)
      · cases h1
    case ne =>
      have h1 : xe_i2 a (pc + 3) ls st σ (fun x y => ¬ x = y) = some t := h
      unfold xe_i2 at h1
      split at h1
      · exact lv_icmp_ne hx hb hd ht (fun hc => by rw [if_pos hc] at h1; cases h1; exact K lsA H locs hL hW) (fun hc => by rw [if_neg (not_not_intro hc)] at h1; cases h1; exact K lsA H locs hL hW)
      · cases h1
    case lt =>
      have h1 : xe_i2 a (pc + 3) ls st σ (fun x y => x < y) = some t := h
      unfold xe_i2 at h1
      split at h1
      · exact lv_icmp_lt hx hb hd ht (fun hc => by rw [if_pos hc] at h1; cases h1; exact K lsA H locs hL hW) (fun hc => by rw [if_neg (hc)] at h1; cases h1; exact K lsA H locs hL hW)
      · cases h1
    case ge =>
      have h1 : xe_i2 a (pc + 3) ls st σ (fun x y => y ≤ x) = some t := h
      unfold xe_i2 at h1
      split at h1
      · exact lv_icmp_ge hx hb hd ht (fun hc => by rw [if_pos hc] at h1; cases h1; exact K lsA H locs hL hW) (fun hc => by rw [if_neg (hc)] at h1; cases h1; exact K lsA H locs hL hW)
      · cases h1
    case gt =>
      have h1 : xe_i2 a (pc + 3) ls st σ (fun x y => y < x) = some t := h
      unfold xe_i2 at h1
      split at h1
      · exact lv_icmp_gt hx hb hd ht (fun hc => by rw [if_pos hc] at h1; cases h1; exact K lsA H locs hL hW) (fun hc => by rw [if_neg (hc)] at h1; cases h1; exact K lsA H locs hL hW)
      · cases h1
    case le =>
      have h1 : xe_i2 a (pc + 3) ls st σ (fun x y => x ≤ y) = some t := h
      unfold xe_i2 at h1
      split at h1
      · exact lv_icmp_le hx hb hd ht (fun hc => by rw [if_pos hc] at h1; cases h1; exact K lsA H locs hL hW) (fun hc => by rw [if_neg (hc)] at h1; cases h1; exact K lsA H locs hL hW)
      · cases h1
  case ifnull off =>
    have o1 := (xe_b2 ok).1
    replace ok := (xe_b2 ok).2
    replace o1 : ln = 3 := of_decide_eq_true o1
    subst o1
    have ht := of_decide_eq_true ok
    have h1 : xe_nul a (pc + 3) ls st σ = some t := h
    unfold xe_nul at h1
    split at h1
    · cases h1
      exact lv_ifnull hx hb hd (K lsA H locs hL hW)
    · cases h1
      exact lv_ifnullN hx hb hd ht (K lsA H locs hL hW)
    · cases h1
  case goto off =>
    have o1 := (xe_b2 ok).1
    replace ok := (xe_b2 ok).2
    replace o1 : ln = 3 := of_decide_eq_true o1
    subst o1
    have ht := of_decide_eq_true ok
    cases h
    exact lv_goto hx hb hd ht (K lsA H locs hL hW)
  case dup =>
    have o1 : ln = 1 := of_decide_eq_true ok
    clear ok
    subst o1
    have h1 : xe_dup (pc + 1) ls st σ = some t := h
    unfold xe_dup at h1
    split at h1
    · cases h1
      exact lv_dup hx hb hd rfl (K lsA H locs hL hW)
    · cases h1
      exact lv_dup hx hb hd rfl (K lsA H locs hL hW)
    · cases h1
  case dup2 =>
    have o1 : ln = 1 := of_decide_eq_true ok
    clear ok
    subst o1
    have h1 : xe_dup2 (pc + 1) ls st σ = some t := h
    unfold xe_dup2 at h1
    split at h1
    · cases h1
      exact lv_dup2_11 hx hb hd rfl rfl (K lsA H locs hL hW)
    · cases h1
  case pop =>
    have o1 : ln = 1 := of_decide_eq_true ok
    clear ok
    subst o1
    have h1 : xe_pop (pc + 1) ls st σ = some t := h
    unfold xe_pop at h1
    split at h1
    · cases h1
      exact lv_pop hx hb hd rfl (K lsA H locs hL hW)
    · cases h1
  case getfield ix =>
    have h1 : xe_get (pc + 3) ls st σ a b = some t := h
    have o1 := (xe_b2 ok).1
    replace ok := (xe_b2 ok).2
    replace o1 : ln = 3 := of_decide_eq_true o1
    subst o1
    split at ok
    · have o4 := (xe_b2 ok).2
      replace ok := (xe_b2 ok).1
      have o2 := (xe_b2 ok).1
      have o3 := (xe_b2 ok).2
      clear ok
      replace o2 := of_decide_eq_true o2
      subst o2
      exact xs_getS X hd (of_decide_eq_true o3) (of_decide_eq_true o4) h1 K hL hW
    · have o2 := (xe_b2 ok).1
      have o3 := (xe_b2 ok).2
      clear ok
      exact xs_get X hd (of_decide_eq_true o2) (of_decide_eq_true o3) h1 K hL hW
  case putfield ix =>
    have h1 : xe_put (pc + 3) ls st σ a b = some t := h
    have o5 := (xe_b2 ok).2
    replace ok := (xe_b2 ok).1
    have o4 := (xe_b2 ok).2
    replace ok := (xe_b2 ok).1
    have o3 := (xe_b2 ok).2
    replace ok := (xe_b2 ok).1
    have o1 := (xe_b2 ok).1
    have o2 := (xe_b2 ok).2
    clear ok
    replace o1 : ln = 3 := of_decide_eq_true o1
    subst o1
    exact xs_put X hd (of_decide_eq_true o2) (of_decide_eq_true o3) (of_decide_eq_true o4) (of_decide_eq_true o5) h1 K hL hW
  case iaload =>
    have o1 : ln = 1 := of_decide_eq_true ok
    clear ok
    subst o1
    exact xs_ial X hd h K hL hW
  case baload =>
    have o1 : ln = 1 := of_decide_eq_true ok
    clear ok
    subst o1
    exact xs_bal X hd h K hL hW
  case laload =>
    have o1 : ln = 1 := of_decide_eq_true ok
    clear ok
    subst o1
    exact xs_lal X hd h K hL hW
  case aaload =>
    have o1 : ln = 1 := of_decide_eq_true ok
    clear ok
    subst o1
    exact xs_aal X hd h K hL hW
  case iastore =>
    have o1 : ln = 1 := of_decide_eq_true ok
    clear ok
    subst o1
    exact xs_ias X hd h K hL hW
  case bastore =>
    have o1 : ln = 1 := of_decide_eq_true ok
    clear ok
    subst o1
    exact xs_bas X hd h K hL hW
  case lastore =>
    have o1 : ln = 1 := of_decide_eq_true ok
    clear ok
    subst o1
    exact xs_las X hd h K hL hW
  case arraylength =>
    have o1 : ln = 1 := of_decide_eq_true ok
    clear ok
    subst o1
    exact xs_aln X hd h K hL hW
  case tableswitch d lo hi offs =>
    have h1 : xe_tab pc ls st σ d lo hi offs = some t := h
    unfold xe_tab at h1
    split at h1
    · rename_i x r
      split at h1
      · rename_i ho
        split at h1
        · rename_i h0
          cases h1
          exact lv_tableOut hx hb hd ho (by rw [Int.toNat_of_nonneg h0]) (K lsA H locs hL hW)
        · cases h1
      · rename_i ho
        split at h1
        · rename_i o2 hoo
          split at h1
          · rename_i h0
            cases h1
            exact lv_tableIn hx hb hd (fun q => ho (Or.inl q)) (fun q => ho (Or.inr q)) hoo (by rw [Int.toNat_of_nonneg h0]) (K lsA H locs hL hW)
          · cases h1
        · cases h1
    · cases h1
  case invokestatic ix =>
    have h1 : (if a = 999 then xe_cpy (pc + 3) ls st σ else none) = some t := h
    have o1 := (xe_b2 ok).1
    replace ok := (xe_b2 ok).2
    replace o1 : ln = 3 := of_decide_eq_true o1
    subst o1
    split at h1
    · rename_i ha
      subst ha
      have ok1 : (decide (xl pl = (7, xm_o y, ix, 0, 0, 0)) && decide (1 ≤ xm_f y) && decide (26 ≤ xm_k y)) = true := by
        simpa using ok
      have ok2 := (xe_b2 ok1).1
      have o5 := (xe_b2 ok1).2
      clear ok1
      have o3 := (xe_b2 ok2).1
      have o4 := (xe_b2 ok2).2
      clear ok2
      exact xs_cpy X hd (of_decide_eq_true o3) (of_decide_eq_true o4) (of_decide_eq_true o5) h1 K hL hW
    · cases h1
  all_goals cases h
end XSD
