set_option maxRecDepth 100000 in
theorem xo_m : ((List.range 245).all xe_mok) = true := by decide +kernel
theorem xo_sh : ∀ (c : Nat) (l : List (List xI)), xt_code[c]? = some l → ∀ (i : Nat) (r : List xI), l[i]? = some r → r.all (xe_okb (16 * c + i)) = true := by
  have go : ∀ (c : Nat) (l : List (List xI)), (l.zipIdx.all fun q => q.1.all (xe_okb (16 * c + q.2))) = true → ∀ (i : Nat) (r : List xI), l[i]? = some r → r.all (xe_okb (16 * c + i)) = true := by
    intro c l h i r hr
    exact List.all_eq_true.mp h (r, i) (by
        rw [List.mem_iff_getElem?]
        exact ⟨i, by rw [List.getElem?_zipIdx, hr]; simp⟩)
  intro c l hl
  match c, hl with
  | 0, hl => cases hl; exact go _ _ xo_0
  | 1, hl => cases hl; exact go _ _ xo_1
  | 2, hl => cases hl; exact go _ _ xo_2
  | 3, hl => cases hl; exact go _ _ xo_3
  | 4, hl => cases hl; exact go _ _ xo_4
  | 5, hl => cases hl; exact go _ _ xo_5
  | 6, hl => cases hl; exact go _ _ xo_6
  | 7, hl => cases hl; exact go _ _ xo_7
  | 8, hl => cases hl; exact go _ _ xo_8
  | 9, hl => cases hl; exact go _ _ xo_9
  | 10, hl => cases hl; exact go _ _ xo_10
  | 11, hl => cases hl; exact go _ _ xo_11
  | 12, hl => cases hl; exact go _ _ xo_12
  | 13, hl => cases hl; exact go _ _ xo_13
  | 14, hl => cases hl; exact go _ _ xo_14
  | 15, hl =>
    cases hl
    intro i r hr
    match i, hr with
    | 0, hr => cases hr; exact xo_m240
    | 1, hr => cases hr; exact xo_m241
    | 2, hr => cases hr; exact xo_m242
    | 3, hr => cases hr; exact xo_m243
    | 4, hr => cases hr; exact xo_m244
    | 5, hr => cases hr; exact xo_m245
    | n + 6, hr => simp [xt_code_15] at hr
  | n + 16, hl => simp [xt_code] at hl
theorem xo_all {y : Nat} {e : xI} (h : e ∈ xe_rows y) : xe_okb y e = true := by
  unfold xe_rows at h
  rw [List.getD_eq_getElem?_getD, List.getD_eq_getElem?_getD] at h
  cases h1 : xt_code[y / 16]? with
  | none => rw [h1] at h; simp at h
  | some l =>
    rw [h1] at h
    simp only [Option.getD_some] at h
    cases h2 : l[y % 16]? with
    | none => rw [h2] at h; simp at h
    | some r =>
      rw [h2] at h
      simp only [Option.getD_some] at h
      have h4 := List.all_eq_true.mp (xo_sh _ _ h1 _ _ h2) e h
      rw [Nat.div_add_mod y 16] at h4
      exact h4
theorem xe_m_ok {y : Nat} (h : y < 245) : xe_mok y = true := List.all_eq_true.mp xo_m y (List.mem_range.mpr h)
