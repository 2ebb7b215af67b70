/-! constructors -/
def xh_X0 (cA : Nat → ClassId) (h0 : Nat) (ws : va_W) : Prop := ∃ a1 a2 a3 a4 a5 a6 a7 a8 a9 : Nat, ws = [(h0, .inr (0, [.int 0, .ref a1, .ref a2, .ref a3, .ref a4, .ref a5, .ref a6, .int 0, .ref a7, .ref a8, .ref a9])), (a1, .inl (cA 0, 5, .inl (fun _ => 0))), (a2, .inl (cA 0, 5, .inl (fun _ => 0))), (a3, .inl (cA 0, 5, .inl (fun _ => 0))), (a4, .inl (cA 0, 5, .inl (fun _ => 0))), (a5, .inl (cA 0, 5, .inl (fun _ => 0))), (a6, .inl (cA 0, 5, .inl (fun _ => 0))), (a7, .inl (cA 0, 5, .inl (fun _ => 0))), (a8, .inl (cA 0, 5, .inl (fun _ => 0))), (a9, .inl (cA 0, 100, .inl (fun _ => 0)))]
theorem xdf_X0 : ∀ j, j < 11 → defaultValue (tyX0 j) = vp_V [.int 0, .null, .null, .null, .null, .null, .null, .int 0, .null, .null, .null] j := by
  intro j hj
  match j, hj with
  | 0, _ => rfl
  | 1, _ => rfl
  | 2, _ => rfl
  | 3, _ => rfl
  | 4, _ => rfl
  | 5, _ => rfl
  | 6, _ => rfl
  | 7, _ => rfl
  | 8, _ => rfl
  | 9, _ => rfl
  | 10, _ => rfl
  | q + 11, h => exact absurd h (by omega)
theorem xc_X0 (l : Launch) (D : va_G) (cA : Nat → ClassId) (h0 sz : Nat) : xi_Met l yX0_init cX0_init 1 1 12 D cA 0 [.int 0, .null, .null, .null, .null, .null, .null, .int 0, .null, .null, .null] h0 sz (xh_X0 cA h0) 9 140 := by
  refine xi_open (idx := 3) (by decide) rfl (Nat.le_refl 1) (Nat.le_refl 1) (Nat.le_refl 12) xq_271 xq_28 xq_29 (by decide +kernel) (by decide +kernel) ?_
  intro p e s m below meth c A Q ls hx hb hts hown hmn hK hAO hA hml hl hP hD hS kk
  have hin := xi_u xk_w0
  refine xi_fld (T := TX0) (N := 11) (lp := 1) (n := 5) (t0 := 0) (cT := cA 0) (N' := 5) (a0 := (5, .inl (fun _ => 0))) (k := 1) (index := 9) hx hb hts hin tyX0_ok nmX0 hown rfl hmn hK hP hD hS hA (lv_at hl 0 rfl) (fun _ _ _ _ k => lv_iconst (n := 5) hx hb (by decide +kernel) (by decide +kernel) k) xq_47 rfl rfl (fun _ => rfl) (by decide) rfl (by decide) (Nat.le_of_ble_eq_true rfl) (Nat.le_of_ble_eq_true rfl) (by decide) xq_274 rfl rfl rfl (Nat.le_of_ble_eq_true rfl) (by decide +kernel) (by decide +kernel) (by decide +kernel) (fun a1 H locs hP hD hS => ?_)
  have hP : va_P D xCls [(h0, .inr (0, [.int 0, .ref a1, .null, .null, .null, .null, .null, .int 0, .null, .null, .null])), (a1, .inl (cA 0, 5, .inl (fun _ => 0)))] H := hP
  have hD : va_D A [(h0, .inr (0, [.int 0, .ref a1, .null, .null, .null, .null, .null, .int 0, .null, .null, .null])), (a1, .inl (cA 0, 5, .inl (fun _ => 0)))] := hD
  refine xi_fld (T := TX0) (N := 11) (lp := 1) (n := 5) (t0 := 0) (cT := cA 0) (N' := 5) (a0 := (5, .inl (fun _ => 0))) (k := 2) (index := 15) hx hb hts hin tyX0_ok nmX0 hown rfl hmn hK hP hD hS hA (lv_at hl 0 rfl) (fun _ _ _ _ k => lv_iconst (n := 5) hx hb (by decide +kernel) (by decide +kernel) k) xq_47 rfl rfl (fun _ => rfl) (by decide) rfl (by decide) (Nat.le_of_ble_eq_true rfl) (Nat.le_of_ble_eq_true rfl) (by decide) xq_276 rfl rfl rfl (Nat.le_of_ble_eq_true rfl) (by decide +kernel) (by decide +kernel) (by decide +kernel) (fun a2 H locs hP hD hS => ?_)
  have hP : va_P D xCls [(h0, .inr (0, [.int 0, .ref a1, .ref a2, .null, .null, .null, .null, .int 0, .null, .null, .null])), (a1, .inl (cA 0, 5, .inl (fun _ => 0))), (a2, .inl (cA 0, 5, .inl (fun _ => 0)))] H := hP
  have hD : va_D A [(h0, .inr (0, [.int 0, .ref a1, .ref a2, .null, .null, .null, .null, .int 0, .null, .null, .null])), (a1, .inl (cA 0, 5, .inl (fun _ => 0))), (a2, .inl (cA 0, 5, .inl (fun _ => 0)))] := hD
  refine xi_fld (T := TX0) (N := 11) (lp := 1) (n := 5) (t0 := 0) (cT := cA 0) (N' := 5) (a0 := (5, .inl (fun _ => 0))) (k := 3) (index := 18) hx hb hts hin tyX0_ok nmX0 hown rfl hmn hK hP hD hS hA (lv_at hl 0 rfl) (fun _ _ _ _ k => lv_iconst (n := 5) hx hb (by decide +kernel) (by decide +kernel) k) xq_47 rfl rfl (fun _ => rfl) (by decide) rfl (by decide) (Nat.le_of_ble_eq_true rfl) (Nat.le_of_ble_eq_true rfl) (by decide) xq_278 rfl rfl rfl (Nat.le_of_ble_eq_true rfl) (by decide +kernel) (by decide +kernel) (by decide +kernel) (fun a3 H locs hP hD hS => ?_)
  have hP : va_P D xCls [(h0, .inr (0, [.int 0, .ref a1, .ref a2, .ref a3, .null, .null, .null, .int 0, .null, .null, .null])), (a1, .inl (cA 0, 5, .inl (fun _ => 0))), (a2, .inl (cA 0, 5, .inl (fun _ => 0))), (a3, .inl (cA 0, 5, .inl (fun _ => 0)))] H := hP
  have hD : va_D A [(h0, .inr (0, [.int 0, .ref a1, .ref a2, .ref a3, .null, .null, .null, .int 0, .null, .null, .null])), (a1, .inl (cA 0, 5, .inl (fun _ => 0))), (a2, .inl (cA 0, 5, .inl (fun _ => 0))), (a3, .inl (cA 0, 5, .inl (fun _ => 0)))] := hD
  refine xi_fld (T := TX0) (N := 11) (lp := 1) (n := 5) (t0 := 0) (cT := cA 0) (N' := 5) (a0 := (5, .inl (fun _ => 0))) (k := 4) (index := 21) hx hb hts hin tyX0_ok nmX0 hown rfl hmn hK hP hD hS hA (lv_at hl 0 rfl) (fun _ _ _ _ k => lv_iconst (n := 5) hx hb (by decide +kernel) (by decide +kernel) k) xq_47 rfl rfl (fun _ => rfl) (by decide) rfl (by decide) (Nat.le_of_ble_eq_true rfl) (Nat.le_of_ble_eq_true rfl) (by decide) xq_280 rfl rfl rfl (Nat.le_of_ble_eq_true rfl) (by decide +kernel) (by decide +kernel) (by decide +kernel) (fun a4 H locs hP hD hS => ?_)
  have hP : va_P D xCls [(h0, .inr (0, [.int 0, .ref a1, .ref a2, .ref a3, .ref a4, .null, .null, .int 0, .null, .null, .null])), (a1, .inl (cA 0, 5, .inl (fun _ => 0))), (a2, .inl (cA 0, 5, .inl (fun _ => 0))), (a3, .inl (cA 0, 5, .inl (fun _ => 0))), (a4, .inl (cA 0, 5, .inl (fun _ => 0)))] H := hP
  have hD : va_D A [(h0, .inr (0, [.int 0, .ref a1, .ref a2, .ref a3, .ref a4, .null, .null, .int 0, .null, .null, .null])), (a1, .inl (cA 0, 5, .inl (fun _ => 0))), (a2, .inl (cA 0, 5, .inl (fun _ => 0))), (a3, .inl (cA 0, 5, .inl (fun _ => 0))), (a4, .inl (cA 0, 5, .inl (fun _ => 0)))] := hD
  refine xi_fld (T := TX0) (N := 11) (lp := 1) (n := 5) (t0 := 0) (cT := cA 0) (N' := 5) (a0 := (5, .inl (fun _ => 0))) (k := 5) (index := 24) hx hb hts hin tyX0_ok nmX0 hown rfl hmn hK hP hD hS hA (lv_at hl 0 rfl) (fun _ _ _ _ k => lv_iconst (n := 5) hx hb (by decide +kernel) (by decide +kernel) k) xq_47 rfl rfl (fun _ => rfl) (by decide) rfl (by decide) (Nat.le_of_ble_eq_true rfl) (Nat.le_of_ble_eq_true rfl) (by decide) xq_282 rfl rfl rfl (Nat.le_of_ble_eq_true rfl) (by decide +kernel) (by decide +kernel) (by decide +kernel) (fun a5 H locs hP hD hS => ?_)
  have hP : va_P D xCls [(h0, .inr (0, [.int 0, .ref a1, .ref a2, .ref a3, .ref a4, .ref a5, .null, .int 0, .null, .null, .null])), (a1, .inl (cA 0, 5, .inl (fun _ => 0))), (a2, .inl (cA 0, 5, .inl (fun _ => 0))), (a3, .inl (cA 0, 5, .inl (fun _ => 0))), (a4, .inl (cA 0, 5, .inl (fun _ => 0))), (a5, .inl (cA 0, 5, .inl (fun _ => 0)))] H := hP
  have hD : va_D A [(h0, .inr (0, [.int 0, .ref a1, .ref a2, .ref a3, .ref a4, .ref a5, .null, .int 0, .null, .null, .null])), (a1, .inl (cA 0, 5, .inl (fun _ => 0))), (a2, .inl (cA 0, 5, .inl (fun _ => 0))), (a3, .inl (cA 0, 5, .inl (fun _ => 0))), (a4, .inl (cA 0, 5, .inl (fun _ => 0))), (a5, .inl (cA 0, 5, .inl (fun _ => 0)))] := hD
  refine xi_fld (T := TX0) (N := 11) (lp := 1) (n := 5) (t0 := 0) (cT := cA 0) (N' := 5) (a0 := (5, .inl (fun _ => 0))) (k := 6) (index := 27) hx hb hts hin tyX0_ok nmX0 hown rfl hmn hK hP hD hS hA (lv_at hl 0 rfl) (fun _ _ _ _ k => lv_iconst (n := 5) hx hb (by decide +kernel) (by decide +kernel) k) xq_47 rfl rfl (fun _ => rfl) (by decide) rfl (by decide) (Nat.le_of_ble_eq_true rfl) (Nat.le_of_ble_eq_true rfl) (by decide) xq_284 rfl rfl rfl (Nat.le_of_ble_eq_true rfl) (by decide +kernel) (by decide +kernel) (by decide +kernel) (fun a6 H locs hP hD hS => ?_)
  have hP : va_P D xCls [(h0, .inr (0, [.int 0, .ref a1, .ref a2, .ref a3, .ref a4, .ref a5, .ref a6, .int 0, .null, .null, .null])), (a1, .inl (cA 0, 5, .inl (fun _ => 0))), (a2, .inl (cA 0, 5, .inl (fun _ => 0))), (a3, .inl (cA 0, 5, .inl (fun _ => 0))), (a4, .inl (cA 0, 5, .inl (fun _ => 0))), (a5, .inl (cA 0, 5, .inl (fun _ => 0))), (a6, .inl (cA 0, 5, .inl (fun _ => 0)))] H := hP
  have hD : va_D A [(h0, .inr (0, [.int 0, .ref a1, .ref a2, .ref a3, .ref a4, .ref a5, .ref a6, .int 0, .null, .null, .null])), (a1, .inl (cA 0, 5, .inl (fun _ => 0))), (a2, .inl (cA 0, 5, .inl (fun _ => 0))), (a3, .inl (cA 0, 5, .inl (fun _ => 0))), (a4, .inl (cA 0, 5, .inl (fun _ => 0))), (a5, .inl (cA 0, 5, .inl (fun _ => 0))), (a6, .inl (cA 0, 5, .inl (fun _ => 0)))] := hD
  refine xi_fld (T := TX0) (N := 11) (lp := 1) (n := 5) (t0 := 0) (cT := cA 0) (N' := 5) (a0 := (5, .inl (fun _ => 0))) (k := 8) (index := 30) hx hb hts hin tyX0_ok nmX0 hown rfl hmn hK hP hD hS hA (lv_at hl 0 rfl) (fun _ _ _ _ k => lv_iconst (n := 5) hx hb (by decide +kernel) (by decide +kernel) k) xq_47 rfl rfl (fun _ => rfl) (by decide) rfl (by decide) (Nat.le_of_ble_eq_true rfl) (Nat.le_of_ble_eq_true rfl) (by decide) xq_288 rfl rfl rfl (Nat.le_of_ble_eq_true rfl) (by decide +kernel) (by decide +kernel) (by decide +kernel) (fun a7 H locs hP hD hS => ?_)
  have hP : va_P D xCls [(h0, .inr (0, [.int 0, .ref a1, .ref a2, .ref a3, .ref a4, .ref a5, .ref a6, .int 0, .ref a7, .null, .null])), (a1, .inl (cA 0, 5, .inl (fun _ => 0))), (a2, .inl (cA 0, 5, .inl (fun _ => 0))), (a3, .inl (cA 0, 5, .inl (fun _ => 0))), (a4, .inl (cA 0, 5, .inl (fun _ => 0))), (a5, .inl (cA 0, 5, .inl (fun _ => 0))), (a6, .inl (cA 0, 5, .inl (fun _ => 0))), (a7, .inl (cA 0, 5, .inl (fun _ => 0)))] H := hP
  have hD : va_D A [(h0, .inr (0, [.int 0, .ref a1, .ref a2, .ref a3, .ref a4, .ref a5, .ref a6, .int 0, .ref a7, .null, .null])), (a1, .inl (cA 0, 5, .inl (fun _ => 0))), (a2, .inl (cA 0, 5, .inl (fun _ => 0))), (a3, .inl (cA 0, 5, .inl (fun _ => 0))), (a4, .inl (cA 0, 5, .inl (fun _ => 0))), (a5, .inl (cA 0, 5, .inl (fun _ => 0))), (a6, .inl (cA 0, 5, .inl (fun _ => 0))), (a7, .inl (cA 0, 5, .inl (fun _ => 0)))] := hD
  refine xi_fld (T := TX0) (N := 11) (lp := 1) (n := 5) (t0 := 0) (cT := cA 0) (N' := 5) (a0 := (5, .inl (fun _ => 0))) (k := 9) (index := 33) hx hb hts hin tyX0_ok nmX0 hown rfl hmn hK hP hD hS hA (lv_at hl 0 rfl) (fun _ _ _ _ k => lv_iconst (n := 5) hx hb (by decide +kernel) (by decide +kernel) k) xq_47 rfl rfl (fun _ => rfl) (by decide) rfl (by decide) (Nat.le_of_ble_eq_true rfl) (Nat.le_of_ble_eq_true rfl) (by decide) xq_290 rfl rfl rfl (Nat.le_of_ble_eq_true rfl) (by decide +kernel) (by decide +kernel) (by decide +kernel) (fun a8 H locs hP hD hS => ?_)
  have hP : va_P D xCls [(h0, .inr (0, [.int 0, .ref a1, .ref a2, .ref a3, .ref a4, .ref a5, .ref a6, .int 0, .ref a7, .ref a8, .null])), (a1, .inl (cA 0, 5, .inl (fun _ => 0))), (a2, .inl (cA 0, 5, .inl (fun _ => 0))), (a3, .inl (cA 0, 5, .inl (fun _ => 0))), (a4, .inl (cA 0, 5, .inl (fun _ => 0))), (a5, .inl (cA 0, 5, .inl (fun _ => 0))), (a6, .inl (cA 0, 5, .inl (fun _ => 0))), (a7, .inl (cA 0, 5, .inl (fun _ => 0))), (a8, .inl (cA 0, 5, .inl (fun _ => 0)))] H := hP
  have hD : va_D A [(h0, .inr (0, [.int 0, .ref a1, .ref a2, .ref a3, .ref a4, .ref a5, .ref a6, .int 0, .ref a7, .ref a8, .null])), (a1, .inl (cA 0, 5, .inl (fun _ => 0))), (a2, .inl (cA 0, 5, .inl (fun _ => 0))), (a3, .inl (cA 0, 5, .inl (fun _ => 0))), (a4, .inl (cA 0, 5, .inl (fun _ => 0))), (a5, .inl (cA 0, 5, .inl (fun _ => 0))), (a6, .inl (cA 0, 5, .inl (fun _ => 0))), (a7, .inl (cA 0, 5, .inl (fun _ => 0))), (a8, .inl (cA 0, 5, .inl (fun _ => 0)))] := hD
  refine xi_fld (T := TX0) (N := 11) (lp := 2) (n := 100) (t0 := 0) (cT := cA 0) (N' := 100) (a0 := (100, .inl (fun _ => 0))) (k := 10) (index := 36) hx hb hts hin tyX0_ok nmX0 hown rfl hmn hK hP hD hS hA (lv_at hl 0 rfl) (fun _ _ _ _ k => lv_bipush (n := 100) hx hb (by decide +kernel) (by decide +kernel) k) xq_47 rfl rfl (fun _ => rfl) (by decide) rfl (by decide) (Nat.le_of_ble_eq_true rfl) (Nat.le_of_ble_eq_true rfl) (by decide) xq_291 rfl rfl rfl (Nat.le_of_ble_eq_true rfl) (by decide +kernel) (by decide +kernel) (by decide +kernel) (fun a9 H locs hP hD hS => ?_)
  have hP : va_P D xCls [(h0, .inr (0, [.int 0, .ref a1, .ref a2, .ref a3, .ref a4, .ref a5, .ref a6, .int 0, .ref a7, .ref a8, .ref a9])), (a1, .inl (cA 0, 5, .inl (fun _ => 0))), (a2, .inl (cA 0, 5, .inl (fun _ => 0))), (a3, .inl (cA 0, 5, .inl (fun _ => 0))), (a4, .inl (cA 0, 5, .inl (fun _ => 0))), (a5, .inl (cA 0, 5, .inl (fun _ => 0))), (a6, .inl (cA 0, 5, .inl (fun _ => 0))), (a7, .inl (cA 0, 5, .inl (fun _ => 0))), (a8, .inl (cA 0, 5, .inl (fun _ => 0))), (a9, .inl (cA 0, 100, .inl (fun _ => 0)))] H := hP
  have hD : va_D A [(h0, .inr (0, [.int 0, .ref a1, .ref a2, .ref a3, .ref a4, .ref a5, .ref a6, .int 0, .ref a7, .ref a8, .ref a9])), (a1, .inl (cA 0, 5, .inl (fun _ => 0))), (a2, .inl (cA 0, 5, .inl (fun _ => 0))), (a3, .inl (cA 0, 5, .inl (fun _ => 0))), (a4, .inl (cA 0, 5, .inl (fun _ => 0))), (a5, .inl (cA 0, 5, .inl (fun _ => 0))), (a6, .inl (cA 0, 5, .inl (fun _ => 0))), (a7, .inl (cA 0, 5, .inl (fun _ => 0))), (a8, .inl (cA 0, 5, .inl (fun _ => 0))), (a9, .inl (cA 0, 100, .inl (fun _ => 0)))] := hD
  exact kk _ _ _ 68 _ (by decide +kernel) ⟨a1, a2, a3, a4, a5, a6, a7, a8, a9, rfl⟩ hP hD hS
def xh_X1 (cA : Nat → ClassId) (h0 : Nat) (ws : va_W) : Prop := ∃ a1 a2 a3 a4 a5 a6 a7 : Nat, ws = [(h0, .inr (1, [.int 0, .int 0, .int 0, .int 0, .int 0, .ref a1, .ref a2, .ref a3, .ref a4, .ref a5, .ref a6, .ref a7])), (a1, .inl (cA 0, 6, .inl (fun _ => 0))), (a2, .inl (cA 0, 6, .inl (fun _ => 0))), (a3, .inl (cA 0, 6, .inl (fun _ => 0))), (a4, .inl (cA 0, 6, .inl (fun _ => 0))), (a5, .inl (cA 0, 6, .inl (fun _ => 0))), (a6, .inl (cA 0, 4, .inl (fun _ => 0))), (a7, .inl (cA 0, 6, .inl (fun _ => 0)))]
theorem xdf_X1 : ∀ j, j < 12 → defaultValue (tyX1 j) = vp_V [.int 0, .int 0, .int 0, .int 0, .int 0, .null, .null, .null, .null, .null, .null, .null] j := by
  intro j hj
  match j, hj with
  | 0, _ => rfl
  | 1, _ => rfl
  | 2, _ => rfl
  | 3, _ => rfl
  | 4, _ => rfl
  | 5, _ => rfl
  | 6, _ => rfl
  | 7, _ => rfl
  | 8, _ => rfl
  | 9, _ => rfl
  | 10, _ => rfl
  | 11, _ => rfl
  | q + 12, h => exact absurd h (by omega)
theorem xc_X1 (l : Launch) (D : va_G) (cA : Nat → ClassId) (h0 sz : Nat) : xi_Met l yX1_init cX1_init 1 1 12 D cA 1 [.int 0, .int 0, .int 0, .int 0, .int 0, .null, .null, .null, .null, .null, .null, .null] h0 sz (xh_X1 cA h0) 7 40 := by
  refine xi_open (idx := 3) (by decide) rfl (Nat.le_refl 1) (Nat.le_refl 1) (Nat.le_refl 12) xq_201 xq_28 xq_29 (by decide +kernel) (by decide +kernel) ?_
  intro p e s m below meth c A Q ls hx hb hts hown hmn hK hAO hA hml hl hP hD hS kk
  have hin := xi_u xk_w1
  refine xi_fld (T := TX1) (N := 12) (lp := 2) (n := 6) (t0 := 0) (cT := cA 0) (N' := 6) (a0 := (6, .inl (fun _ => 0))) (k := 5) (index := 9) hx hb hts hin tyX1_ok nmX1 hown rfl hmn hK hP hD hS hA (lv_at hl 0 rfl) (fun _ _ _ _ k => lv_bipush (n := 6) hx hb (by decide +kernel) (by decide +kernel) k) xq_47 rfl rfl (fun _ => rfl) (by decide) rfl (by decide) (Nat.le_of_ble_eq_true rfl) (Nat.le_of_ble_eq_true rfl) (by decide) xq_212 rfl rfl rfl (Nat.le_of_ble_eq_true rfl) (by decide +kernel) (by decide +kernel) (by decide +kernel) (fun a1 H locs hP hD hS => ?_)
  have hP : va_P D xCls [(h0, .inr (1, [.int 0, .int 0, .int 0, .int 0, .int 0, .ref a1, .null, .null, .null, .null, .null, .null])), (a1, .inl (cA 0, 6, .inl (fun _ => 0)))] H := hP
  have hD : va_D A [(h0, .inr (1, [.int 0, .int 0, .int 0, .int 0, .int 0, .ref a1, .null, .null, .null, .null, .null, .null])), (a1, .inl (cA 0, 6, .inl (fun _ => 0)))] := hD
  refine xi_fld (T := TX1) (N := 12) (lp := 2) (n := 6) (t0 := 0) (cT := cA 0) (N' := 6) (a0 := (6, .inl (fun _ => 0))) (k := 6) (index := 15) hx hb hts hin tyX1_ok nmX1 hown rfl hmn hK hP hD hS hA (lv_at hl 0 rfl) (fun _ _ _ _ k => lv_bipush (n := 6) hx hb (by decide +kernel) (by decide +kernel) k) xq_47 rfl rfl (fun _ => rfl) (by decide) rfl (by decide) (Nat.le_of_ble_eq_true rfl) (Nat.le_of_ble_eq_true rfl) (by decide) xq_214 rfl rfl rfl (Nat.le_of_ble_eq_true rfl) (by decide +kernel) (by decide +kernel) (by decide +kernel) (fun a2 H locs hP hD hS => ?_)
  have hP : va_P D xCls [(h0, .inr (1, [.int 0, .int 0, .int 0, .int 0, .int 0, .ref a1, .ref a2, .null, .null, .null, .null, .null])), (a1, .inl (cA 0, 6, .inl (fun _ => 0))), (a2, .inl (cA 0, 6, .inl (fun _ => 0)))] H := hP
  have hD : va_D A [(h0, .inr (1, [.int 0, .int 0, .int 0, .int 0, .int 0, .ref a1, .ref a2, .null, .null, .null, .null, .null])), (a1, .inl (cA 0, 6, .inl (fun _ => 0))), (a2, .inl (cA 0, 6, .inl (fun _ => 0)))] := hD
  refine xi_fld (T := TX1) (N := 12) (lp := 2) (n := 6) (t0 := 0) (cT := cA 0) (N' := 6) (a0 := (6, .inl (fun _ => 0))) (k := 7) (index := 18) hx hb hts hin tyX1_ok nmX1 hown rfl hmn hK hP hD hS hA (lv_at hl 0 rfl) (fun _ _ _ _ k => lv_bipush (n := 6) hx hb (by decide +kernel) (by decide +kernel) k) xq_47 rfl rfl (fun _ => rfl) (by decide) rfl (by decide) (Nat.le_of_ble_eq_true rfl) (Nat.le_of_ble_eq_true rfl) (by decide) xq_215 rfl rfl rfl (Nat.le_of_ble_eq_true rfl) (by decide +kernel) (by decide +kernel) (by decide +kernel) (fun a3 H locs hP hD hS => ?_)
  have hP : va_P D xCls [(h0, .inr (1, [.int 0, .int 0, .int 0, .int 0, .int 0, .ref a1, .ref a2, .ref a3, .null, .null, .null, .null])), (a1, .inl (cA 0, 6, .inl (fun _ => 0))), (a2, .inl (cA 0, 6, .inl (fun _ => 0))), (a3, .inl (cA 0, 6, .inl (fun _ => 0)))] H := hP
  have hD : va_D A [(h0, .inr (1, [.int 0, .int 0, .int 0, .int 0, .int 0, .ref a1, .ref a2, .ref a3, .null, .null, .null, .null])), (a1, .inl (cA 0, 6, .inl (fun _ => 0))), (a2, .inl (cA 0, 6, .inl (fun _ => 0))), (a3, .inl (cA 0, 6, .inl (fun _ => 0)))] := hD
  refine xi_fld (T := TX1) (N := 12) (lp := 2) (n := 6) (t0 := 0) (cT := cA 0) (N' := 6) (a0 := (6, .inl (fun _ => 0))) (k := 8) (index := 21) hx hb hts hin tyX1_ok nmX1 hown rfl hmn hK hP hD hS hA (lv_at hl 0 rfl) (fun _ _ _ _ k => lv_bipush (n := 6) hx hb (by decide +kernel) (by decide +kernel) k) xq_47 rfl rfl (fun _ => rfl) (by decide) rfl (by decide) (Nat.le_of_ble_eq_true rfl) (Nat.le_of_ble_eq_true rfl) (by decide) xq_216 rfl rfl rfl (Nat.le_of_ble_eq_true rfl) (by decide +kernel) (by decide +kernel) (by decide +kernel) (fun a4 H locs hP hD hS => ?_)
  have hP : va_P D xCls [(h0, .inr (1, [.int 0, .int 0, .int 0, .int 0, .int 0, .ref a1, .ref a2, .ref a3, .ref a4, .null, .null, .null])), (a1, .inl (cA 0, 6, .inl (fun _ => 0))), (a2, .inl (cA 0, 6, .inl (fun _ => 0))), (a3, .inl (cA 0, 6, .inl (fun _ => 0))), (a4, .inl (cA 0, 6, .inl (fun _ => 0)))] H := hP
  have hD : va_D A [(h0, .inr (1, [.int 0, .int 0, .int 0, .int 0, .int 0, .ref a1, .ref a2, .ref a3, .ref a4, .null, .null, .null])), (a1, .inl (cA 0, 6, .inl (fun _ => 0))), (a2, .inl (cA 0, 6, .inl (fun _ => 0))), (a3, .inl (cA 0, 6, .inl (fun _ => 0))), (a4, .inl (cA 0, 6, .inl (fun _ => 0)))] := hD
  refine xi_fld (T := TX1) (N := 12) (lp := 2) (n := 6) (t0 := 0) (cT := cA 0) (N' := 6) (a0 := (6, .inl (fun _ => 0))) (k := 9) (index := 24) hx hb hts hin tyX1_ok nmX1 hown rfl hmn hK hP hD hS hA (lv_at hl 0 rfl) (fun _ _ _ _ k => lv_bipush (n := 6) hx hb (by decide +kernel) (by decide +kernel) k) xq_47 rfl rfl (fun _ => rfl) (by decide) rfl (by decide) (Nat.le_of_ble_eq_true rfl) (Nat.le_of_ble_eq_true rfl) (by decide) xq_217 rfl rfl rfl (Nat.le_of_ble_eq_true rfl) (by decide +kernel) (by decide +kernel) (by decide +kernel) (fun a5 H locs hP hD hS => ?_)
  have hP : va_P D xCls [(h0, .inr (1, [.int 0, .int 0, .int 0, .int 0, .int 0, .ref a1, .ref a2, .ref a3, .ref a4, .ref a5, .null, .null])), (a1, .inl (cA 0, 6, .inl (fun _ => 0))), (a2, .inl (cA 0, 6, .inl (fun _ => 0))), (a3, .inl (cA 0, 6, .inl (fun _ => 0))), (a4, .inl (cA 0, 6, .inl (fun _ => 0))), (a5, .inl (cA 0, 6, .inl (fun _ => 0)))] H := hP
  have hD : va_D A [(h0, .inr (1, [.int 0, .int 0, .int 0, .int 0, .int 0, .ref a1, .ref a2, .ref a3, .ref a4, .ref a5, .null, .null])), (a1, .inl (cA 0, 6, .inl (fun _ => 0))), (a2, .inl (cA 0, 6, .inl (fun _ => 0))), (a3, .inl (cA 0, 6, .inl (fun _ => 0))), (a4, .inl (cA 0, 6, .inl (fun _ => 0))), (a5, .inl (cA 0, 6, .inl (fun _ => 0)))] := hD
  refine xi_fld (T := TX1) (N := 12) (lp := 1) (n := 4) (t0 := 0) (cT := cA 0) (N' := 4) (a0 := (4, .inl (fun _ => 0))) (k := 10) (index := 27) hx hb hts hin tyX1_ok nmX1 hown rfl hmn hK hP hD hS hA (lv_at hl 0 rfl) (fun _ _ _ _ k => lv_iconst (n := 4) hx hb (by decide +kernel) (by decide +kernel) k) xq_47 rfl rfl (fun _ => rfl) (by decide) rfl (by decide) (Nat.le_of_ble_eq_true rfl) (Nat.le_of_ble_eq_true rfl) (by decide) xq_218 rfl rfl rfl (Nat.le_of_ble_eq_true rfl) (by decide +kernel) (by decide +kernel) (by decide +kernel) (fun a6 H locs hP hD hS => ?_)
  have hP : va_P D xCls [(h0, .inr (1, [.int 0, .int 0, .int 0, .int 0, .int 0, .ref a1, .ref a2, .ref a3, .ref a4, .ref a5, .ref a6, .null])), (a1, .inl (cA 0, 6, .inl (fun _ => 0))), (a2, .inl (cA 0, 6, .inl (fun _ => 0))), (a3, .inl (cA 0, 6, .inl (fun _ => 0))), (a4, .inl (cA 0, 6, .inl (fun _ => 0))), (a5, .inl (cA 0, 6, .inl (fun _ => 0))), (a6, .inl (cA 0, 4, .inl (fun _ => 0)))] H := hP
  have hD : va_D A [(h0, .inr (1, [.int 0, .int 0, .int 0, .int 0, .int 0, .ref a1, .ref a2, .ref a3, .ref a4, .ref a5, .ref a6, .null])), (a1, .inl (cA 0, 6, .inl (fun _ => 0))), (a2, .inl (cA 0, 6, .inl (fun _ => 0))), (a3, .inl (cA 0, 6, .inl (fun _ => 0))), (a4, .inl (cA 0, 6, .inl (fun _ => 0))), (a5, .inl (cA 0, 6, .inl (fun _ => 0))), (a6, .inl (cA 0, 4, .inl (fun _ => 0)))] := hD
  refine xi_fld (T := TX1) (N := 12) (lp := 2) (n := 6) (t0 := 0) (cT := cA 0) (N' := 6) (a0 := (6, .inl (fun _ => 0))) (k := 11) (index := 30) hx hb hts hin tyX1_ok nmX1 hown rfl hmn hK hP hD hS hA (lv_at hl 0 rfl) (fun _ _ _ _ k => lv_bipush (n := 6) hx hb (by decide +kernel) (by decide +kernel) k) xq_47 rfl rfl (fun _ => rfl) (by decide) rfl (by decide) (Nat.le_of_ble_eq_true rfl) (Nat.le_of_ble_eq_true rfl) (by decide) xq_219 rfl rfl rfl (Nat.le_of_ble_eq_true rfl) (by decide +kernel) (by decide +kernel) (by decide +kernel) (fun a7 H locs hP hD hS => ?_)
  have hP : va_P D xCls [(h0, .inr (1, [.int 0, .int 0, .int 0, .int 0, .int 0, .ref a1, .ref a2, .ref a3, .ref a4, .ref a5, .ref a6, .ref a7])), (a1, .inl (cA 0, 6, .inl (fun _ => 0))), (a2, .inl (cA 0, 6, .inl (fun _ => 0))), (a3, .inl (cA 0, 6, .inl (fun _ => 0))), (a4, .inl (cA 0, 6, .inl (fun _ => 0))), (a5, .inl (cA 0, 6, .inl (fun _ => 0))), (a6, .inl (cA 0, 4, .inl (fun _ => 0))), (a7, .inl (cA 0, 6, .inl (fun _ => 0)))] H := hP
  have hD : va_D A [(h0, .inr (1, [.int 0, .int 0, .int 0, .int 0, .int 0, .ref a1, .ref a2, .ref a3, .ref a4, .ref a5, .ref a6, .ref a7])), (a1, .inl (cA 0, 6, .inl (fun _ => 0))), (a2, .inl (cA 0, 6, .inl (fun _ => 0))), (a3, .inl (cA 0, 6, .inl (fun _ => 0))), (a4, .inl (cA 0, 6, .inl (fun _ => 0))), (a5, .inl (cA 0, 6, .inl (fun _ => 0))), (a6, .inl (cA 0, 4, .inl (fun _ => 0))), (a7, .inl (cA 0, 6, .inl (fun _ => 0)))] := hD
  exact kk _ _ _ 59 _ (by decide +kernel) ⟨a1, a2, a3, a4, a5, a6, a7, rfl⟩ hP hD hS
def xh_X2 (cA : Nat → ClassId) (h0 : Nat) (ws : va_W) : Prop := ∃ a1 a2 : Nat, ws = [(h0, .inr (2, [.int 0, .ref a1, .int 0, .ref a2])), (a1, .inl (cA 0, 6, .inl (fun _ => 0))), (a2, .inl (cA 0, 6, .inl (fun _ => 0)))]
theorem xdf_X2 : ∀ j, j < 4 → defaultValue (tyX2 j) = vp_V [.int 0, .null, .int 0, .null] j := by
  intro j hj
  match j, hj with
  | 0, _ => rfl
  | 1, _ => rfl
  | 2, _ => rfl
  | 3, _ => rfl
  | q + 4, h => exact absurd h (by omega)
theorem xc_X2 (l : Launch) (D : va_G) (cA : Nat → ClassId) (h0 sz : Nat) : xi_Met l yX2_init cX2_init 1 1 12 D cA 2 [.int 0, .null, .int 0, .null] h0 sz (xh_X2 cA h0) 2 12 := by
  refine xi_open (idx := 3) (by decide) rfl (Nat.le_refl 1) (Nat.le_refl 1) (Nat.le_refl 12) xq_178 xq_28 xq_29 (by decide +kernel) (by decide +kernel) ?_
  intro p e s m below meth c A Q ls hx hb hts hown hmn hK hAO hA hml hl hP hD hS kk
  have hin := xi_u xk_w2
  refine xi_fld (T := TX2) (N := 4) (lp := 2) (n := 6) (t0 := 0) (cT := cA 0) (N' := 6) (a0 := (6, .inl (fun _ => 0))) (k := 1) (index := 9) hx hb hts hin tyX2_ok nmX2 hown rfl hmn hK hP hD hS hA (lv_at hl 0 rfl) (fun _ _ _ _ k => lv_bipush (n := 6) hx hb (by decide +kernel) (by decide +kernel) k) xq_47 rfl rfl (fun _ => rfl) (by decide) rfl (by decide) (Nat.le_of_ble_eq_true rfl) (Nat.le_of_ble_eq_true rfl) (by decide) xq_181 rfl rfl rfl (Nat.le_of_ble_eq_true rfl) (by decide +kernel) (by decide +kernel) (by decide +kernel) (fun a1 H locs hP hD hS => ?_)
  have hP : va_P D xCls [(h0, .inr (2, [.int 0, .ref a1, .int 0, .null])), (a1, .inl (cA 0, 6, .inl (fun _ => 0)))] H := hP
  have hD : va_D A [(h0, .inr (2, [.int 0, .ref a1, .int 0, .null])), (a1, .inl (cA 0, 6, .inl (fun _ => 0)))] := hD
  refine xi_fld (T := TX2) (N := 4) (lp := 2) (n := 6) (t0 := 0) (cT := cA 0) (N' := 6) (a0 := (6, .inl (fun _ => 0))) (k := 3) (index := 15) hx hb hts hin tyX2_ok nmX2 hown rfl hmn hK hP hD hS hA (lv_at hl 0 rfl) (fun _ _ _ _ k => lv_bipush (n := 6) hx hb (by decide +kernel) (by decide +kernel) k) xq_47 rfl rfl (fun _ => rfl) (by decide) rfl (by decide) (Nat.le_of_ble_eq_true rfl) (Nat.le_of_ble_eq_true rfl) (by decide) xq_185 rfl rfl rfl (Nat.le_of_ble_eq_true rfl) (by decide +kernel) (by decide +kernel) (by decide +kernel) (fun a2 H locs hP hD hS => ?_)
  have hP : va_P D xCls [(h0, .inr (2, [.int 0, .ref a1, .int 0, .ref a2])), (a1, .inl (cA 0, 6, .inl (fun _ => 0))), (a2, .inl (cA 0, 6, .inl (fun _ => 0)))] H := hP
  have hD : va_D A [(h0, .inr (2, [.int 0, .ref a1, .int 0, .ref a2])), (a1, .inl (cA 0, 6, .inl (fun _ => 0))), (a2, .inl (cA 0, 6, .inl (fun _ => 0)))] := hD
  exact kk _ _ _ 20 _ (by decide +kernel) ⟨a1, a2, rfl⟩ hP hD hS
def xh_X3 (cA : Nat → ClassId) (h0 : Nat) (ws : va_W) : Prop := ∃ a1 a2 a3 : Nat, ws = [(h0, .inr (3, [.int 0, .int 0, .int 0, .ref a1, .ref a2, .ref a3])), (a1, .inl (cA 0, 12, .inl (fun _ => 0))), (a2, .inl (cA 0, 12, .inl (fun _ => 0))), (a3, .inl (cA 0, 12, .inl (fun _ => 0)))]
theorem xdf_X3 : ∀ j, j < 6 → defaultValue (tyX3 j) = vp_V [.int 0, .int 0, .int 0, .null, .null, .null] j := by
  intro j hj
  match j, hj with
  | 0, _ => rfl
  | 1, _ => rfl
  | 2, _ => rfl
  | 3, _ => rfl
  | 4, _ => rfl
  | 5, _ => rfl
  | q + 6, h => exact absurd h (by omega)
theorem xc_X3 (l : Launch) (D : va_G) (cA : Nat → ClassId) (h0 sz : Nat) : xi_Met l yX3_init cX3_init 1 1 12 D cA 3 [.int 0, .int 0, .int 0, .null, .null, .null] h0 sz (xh_X3 cA h0) 3 36 := by
  refine xi_open (idx := 3) (by decide) rfl (Nat.le_refl 1) (Nat.le_refl 1) (Nat.le_refl 12) xq_368 xq_28 xq_29 (by decide +kernel) (by decide +kernel) ?_
  intro p e s m below meth c A Q ls hx hb hts hown hmn hK hAO hA hml hl hP hD hS kk
  have hin := xi_u xk_w3
  refine xi_fld (T := TX3) (N := 6) (lp := 2) (n := 12) (t0 := 0) (cT := cA 0) (N' := 12) (a0 := (12, .inl (fun _ => 0))) (k := 3) (index := 9) hx hb hts hin tyX3_ok nmX3 hown rfl hmn hK hP hD hS hA (lv_at hl 0 rfl) (fun _ _ _ _ k => lv_bipush (n := 12) hx hb (by decide +kernel) (by decide +kernel) k) xq_47 rfl rfl (fun _ => rfl) (by decide) rfl (by decide) (Nat.le_of_ble_eq_true rfl) (Nat.le_of_ble_eq_true rfl) (by decide) xq_375 rfl rfl rfl (Nat.le_of_ble_eq_true rfl) (by decide +kernel) (by decide +kernel) (by decide +kernel) (fun a1 H locs hP hD hS => ?_)
  have hP : va_P D xCls [(h0, .inr (3, [.int 0, .int 0, .int 0, .ref a1, .null, .null])), (a1, .inl (cA 0, 12, .inl (fun _ => 0)))] H := hP
  have hD : va_D A [(h0, .inr (3, [.int 0, .int 0, .int 0, .ref a1, .null, .null])), (a1, .inl (cA 0, 12, .inl (fun _ => 0)))] := hD
  refine xi_fld (T := TX3) (N := 6) (lp := 2) (n := 12) (t0 := 0) (cT := cA 0) (N' := 12) (a0 := (12, .inl (fun _ => 0))) (k := 4) (index := 15) hx hb hts hin tyX3_ok nmX3 hown rfl hmn hK hP hD hS hA (lv_at hl 0 rfl) (fun _ _ _ _ k => lv_bipush (n := 12) hx hb (by decide +kernel) (by decide +kernel) k) xq_47 rfl rfl (fun _ => rfl) (by decide) rfl (by decide) (Nat.le_of_ble_eq_true rfl) (Nat.le_of_ble_eq_true rfl) (by decide) xq_376 rfl rfl rfl (Nat.le_of_ble_eq_true rfl) (by decide +kernel) (by decide +kernel) (by decide +kernel) (fun a2 H locs hP hD hS => ?_)
  have hP : va_P D xCls [(h0, .inr (3, [.int 0, .int 0, .int 0, .ref a1, .ref a2, .null])), (a1, .inl (cA 0, 12, .inl (fun _ => 0))), (a2, .inl (cA 0, 12, .inl (fun _ => 0)))] H := hP
  have hD : va_D A [(h0, .inr (3, [.int 0, .int 0, .int 0, .ref a1, .ref a2, .null])), (a1, .inl (cA 0, 12, .inl (fun _ => 0))), (a2, .inl (cA 0, 12, .inl (fun _ => 0)))] := hD
  refine xi_fld (T := TX3) (N := 6) (lp := 2) (n := 12) (t0 := 0) (cT := cA 0) (N' := 12) (a0 := (12, .inl (fun _ => 0))) (k := 5) (index := 18) hx hb hts hin tyX3_ok nmX3 hown rfl hmn hK hP hD hS hA (lv_at hl 0 rfl) (fun _ _ _ _ k => lv_bipush (n := 12) hx hb (by decide +kernel) (by decide +kernel) k) xq_47 rfl rfl (fun _ => rfl) (by decide) rfl (by decide) (Nat.le_of_ble_eq_true rfl) (Nat.le_of_ble_eq_true rfl) (by decide) xq_377 rfl rfl rfl (Nat.le_of_ble_eq_true rfl) (by decide +kernel) (by decide +kernel) (by decide +kernel) (fun a3 H locs hP hD hS => ?_)
  have hP : va_P D xCls [(h0, .inr (3, [.int 0, .int 0, .int 0, .ref a1, .ref a2, .ref a3])), (a1, .inl (cA 0, 12, .inl (fun _ => 0))), (a2, .inl (cA 0, 12, .inl (fun _ => 0))), (a3, .inl (cA 0, 12, .inl (fun _ => 0)))] H := hP
  have hD : va_D A [(h0, .inr (3, [.int 0, .int 0, .int 0, .ref a1, .ref a2, .ref a3])), (a1, .inl (cA 0, 12, .inl (fun _ => 0))), (a2, .inl (cA 0, 12, .inl (fun _ => 0))), (a3, .inl (cA 0, 12, .inl (fun _ => 0)))] := hD
  exact kk _ _ _ 28 _ (by decide +kernel) ⟨a1, a2, a3, rfl⟩ hP hD hS
def xh_X4 (cA : Nat → ClassId) (h0 : Nat) (ws : va_W) : Prop := ∃ a1 a2 a3 a4 a5 a6 a7 a8 a9 : Nat, ws = [(h0, .inr (4, [.int 0, .int 0, .int 0, .int 0, .int 0, .int 0, .ref a1, .int 0, .ref a2, .ref a3, .ref a4, .ref a5, .ref a6, .ref a7, .ref a8, .ref a9])), (a1, .inl (cA 0, 6, .inl (fun _ => 0))), (a2, .inl (cA 0, 6, .inl (fun _ => 0))), (a3, .inl (cA 0, 6, .inl (fun _ => 0))), (a4, .inl (cA 0, 6, .inl (fun _ => 0))), (a5, .inl (cA 0, 6, .inl (fun _ => 0))), (a6, .inl (cA 0, 6, .inl (fun _ => 0))), (a7, .inl (cA 0, 6, .inl (fun _ => 0))), (a8, .inl (cA 0, 861, .inl (fun _ => 0))), (a9, .inl (cA 0, 861, .inl (fun _ => 0)))]
theorem xdf_X4 : ∀ j, j < 16 → defaultValue (tyX4 j) = vp_V [.int 0, .int 0, .int 0, .int 0, .int 0, .int 0, .null, .int 0, .null, .null, .null, .null, .null, .null, .null, .null] j := by
  intro j hj
  match j, hj with
  | 0, _ => rfl
  | 1, _ => rfl
  | 2, _ => rfl
  | 3, _ => rfl
  | 4, _ => rfl
  | 5, _ => rfl
  | 6, _ => rfl
  | 7, _ => rfl
  | 8, _ => rfl
  | 9, _ => rfl
  | 10, _ => rfl
  | 11, _ => rfl
  | 12, _ => rfl
  | 13, _ => rfl
  | 14, _ => rfl
  | 15, _ => rfl
  | q + 16, h => exact absurd h (by omega)
theorem xc_X4 (l : Launch) (D : va_G) (cA : Nat → ClassId) (h0 sz : Nat) : xi_Met l yX4_init cX4_init 1 1 12 D cA 4 [.int 0, .int 0, .int 0, .int 0, .int 0, .int 0, .null, .int 0, .null, .null, .null, .null, .null, .null, .null, .null] h0 sz (xh_X4 cA h0) 9 1764 := by
  refine xi_open (idx := 3) (by decide) rfl (Nat.le_refl 1) (Nat.le_refl 1) (Nat.le_refl 12) xq_115 xq_28 xq_29 (by decide +kernel) (by decide +kernel) ?_
  intro p e s m below meth c A Q ls hx hb hts hown hmn hK hAO hA hml hl hP hD hS kk
  have hin := xi_u xk_w4
  refine xi_fld (T := TX4) (N := 16) (lp := 2) (n := 6) (t0 := 0) (cT := cA 0) (N' := 6) (a0 := (6, .inl (fun _ => 0))) (k := 6) (index := 9) hx hb hts hin tyX4_ok nmX4 hown rfl hmn hK hP hD hS hA (lv_at hl 0 rfl) (fun _ _ _ _ k => lv_bipush (n := 6) hx hb (by decide +kernel) (by decide +kernel) k) xq_47 rfl rfl (fun _ => rfl) (by decide) rfl (by decide) (Nat.le_of_ble_eq_true rfl) (Nat.le_of_ble_eq_true rfl) (by decide) xq_128 rfl rfl rfl (Nat.le_of_ble_eq_true rfl) (by decide +kernel) (by decide +kernel) (by decide +kernel) (fun a1 H locs hP hD hS => ?_)
  have hP : va_P D xCls [(h0, .inr (4, [.int 0, .int 0, .int 0, .int 0, .int 0, .int 0, .ref a1, .int 0, .null, .null, .null, .null, .null, .null, .null, .null])), (a1, .inl (cA 0, 6, .inl (fun _ => 0)))] H := hP
  have hD : va_D A [(h0, .inr (4, [.int 0, .int 0, .int 0, .int 0, .int 0, .int 0, .ref a1, .int 0, .null, .null, .null, .null, .null, .null, .null, .null])), (a1, .inl (cA 0, 6, .inl (fun _ => 0)))] := hD
  refine xi_fld (T := TX4) (N := 16) (lp := 2) (n := 6) (t0 := 0) (cT := cA 0) (N' := 6) (a0 := (6, .inl (fun _ => 0))) (k := 8) (index := 15) hx hb hts hin tyX4_ok nmX4 hown rfl hmn hK hP hD hS hA (lv_at hl 0 rfl) (fun _ _ _ _ k => lv_bipush (n := 6) hx hb (by decide +kernel) (by decide +kernel) k) xq_47 rfl rfl (fun _ => rfl) (by decide) rfl (by decide) (Nat.le_of_ble_eq_true rfl) (Nat.le_of_ble_eq_true rfl) (by decide) xq_131 rfl rfl rfl (Nat.le_of_ble_eq_true rfl) (by decide +kernel) (by decide +kernel) (by decide +kernel) (fun a2 H locs hP hD hS => ?_)
  have hP : va_P D xCls [(h0, .inr (4, [.int 0, .int 0, .int 0, .int 0, .int 0, .int 0, .ref a1, .int 0, .ref a2, .null, .null, .null, .null, .null, .null, .null])), (a1, .inl (cA 0, 6, .inl (fun _ => 0))), (a2, .inl (cA 0, 6, .inl (fun _ => 0)))] H := hP
  have hD : va_D A [(h0, .inr (4, [.int 0, .int 0, .int 0, .int 0, .int 0, .int 0, .ref a1, .int 0, .ref a2, .null, .null, .null, .null, .null, .null, .null])), (a1, .inl (cA 0, 6, .inl (fun _ => 0))), (a2, .inl (cA 0, 6, .inl (fun _ => 0)))] := hD
  refine xi_fld (T := TX4) (N := 16) (lp := 2) (n := 6) (t0 := 0) (cT := cA 0) (N' := 6) (a0 := (6, .inl (fun _ => 0))) (k := 9) (index := 18) hx hb hts hin tyX4_ok nmX4 hown rfl hmn hK hP hD hS hA (lv_at hl 0 rfl) (fun _ _ _ _ k => lv_bipush (n := 6) hx hb (by decide +kernel) (by decide +kernel) k) xq_47 rfl rfl (fun _ => rfl) (by decide) rfl (by decide) (Nat.le_of_ble_eq_true rfl) (Nat.le_of_ble_eq_true rfl) (by decide) xq_132 rfl rfl rfl (Nat.le_of_ble_eq_true rfl) (by decide +kernel) (by decide +kernel) (by decide +kernel) (fun a3 H locs hP hD hS => ?_)
  have hP : va_P D xCls [(h0, .inr (4, [.int 0, .int 0, .int 0, .int 0, .int 0, .int 0, .ref a1, .int 0, .ref a2, .ref a3, .null, .null, .null, .null, .null, .null])), (a1, .inl (cA 0, 6, .inl (fun _ => 0))), (a2, .inl (cA 0, 6, .inl (fun _ => 0))), (a3, .inl (cA 0, 6, .inl (fun _ => 0)))] H := hP
  have hD : va_D A [(h0, .inr (4, [.int 0, .int 0, .int 0, .int 0, .int 0, .int 0, .ref a1, .int 0, .ref a2, .ref a3, .null, .null, .null, .null, .null, .null])), (a1, .inl (cA 0, 6, .inl (fun _ => 0))), (a2, .inl (cA 0, 6, .inl (fun _ => 0))), (a3, .inl (cA 0, 6, .inl (fun _ => 0)))] := hD
  refine xi_fld (T := TX4) (N := 16) (lp := 2) (n := 6) (t0 := 0) (cT := cA 0) (N' := 6) (a0 := (6, .inl (fun _ => 0))) (k := 10) (index := 21) hx hb hts hin tyX4_ok nmX4 hown rfl hmn hK hP hD hS hA (lv_at hl 0 rfl) (fun _ _ _ _ k => lv_bipush (n := 6) hx hb (by decide +kernel) (by decide +kernel) k) xq_47 rfl rfl (fun _ => rfl) (by decide) rfl (by decide) (Nat.le_of_ble_eq_true rfl) (Nat.le_of_ble_eq_true rfl) (by decide) xq_133 rfl rfl rfl (Nat.le_of_ble_eq_true rfl) (by decide +kernel) (by decide +kernel) (by decide +kernel) (fun a4 H locs hP hD hS => ?_)
  have hP : va_P D xCls [(h0, .inr (4, [.int 0, .int 0, .int 0, .int 0, .int 0, .int 0, .ref a1, .int 0, .ref a2, .ref a3, .ref a4, .null, .null, .null, .null, .null])), (a1, .inl (cA 0, 6, .inl (fun _ => 0))), (a2, .inl (cA 0, 6, .inl (fun _ => 0))), (a3, .inl (cA 0, 6, .inl (fun _ => 0))), (a4, .inl (cA 0, 6, .inl (fun _ => 0)))] H := hP
  have hD : va_D A [(h0, .inr (4, [.int 0, .int 0, .int 0, .int 0, .int 0, .int 0, .ref a1, .int 0, .ref a2, .ref a3, .ref a4, .null, .null, .null, .null, .null])), (a1, .inl (cA 0, 6, .inl (fun _ => 0))), (a2, .inl (cA 0, 6, .inl (fun _ => 0))), (a3, .inl (cA 0, 6, .inl (fun _ => 0))), (a4, .inl (cA 0, 6, .inl (fun _ => 0)))] := hD
  refine xi_fld (T := TX4) (N := 16) (lp := 2) (n := 6) (t0 := 0) (cT := cA 0) (N' := 6) (a0 := (6, .inl (fun _ => 0))) (k := 11) (index := 24) hx hb hts hin tyX4_ok nmX4 hown rfl hmn hK hP hD hS hA (lv_at hl 0 rfl) (fun _ _ _ _ k => lv_bipush (n := 6) hx hb (by decide +kernel) (by decide +kernel) k) xq_47 rfl rfl (fun _ => rfl) (by decide) rfl (by decide) (Nat.le_of_ble_eq_true rfl) (Nat.le_of_ble_eq_true rfl) (by decide) xq_134 rfl rfl rfl (Nat.le_of_ble_eq_true rfl) (by decide +kernel) (by decide +kernel) (by decide +kernel) (fun a5 H locs hP hD hS => ?_)
  have hP : va_P D xCls [(h0, .inr (4, [.int 0, .int 0, .int 0, .int 0, .int 0, .int 0, .ref a1, .int 0, .ref a2, .ref a3, .ref a4, .ref a5, .null, .null, .null, .null])), (a1, .inl (cA 0, 6, .inl (fun _ => 0))), (a2, .inl (cA 0, 6, .inl (fun _ => 0))), (a3, .inl (cA 0, 6, .inl (fun _ => 0))), (a4, .inl (cA 0, 6, .inl (fun _ => 0))), (a5, .inl (cA 0, 6, .inl (fun _ => 0)))] H := hP
  have hD : va_D A [(h0, .inr (4, [.int 0, .int 0, .int 0, .int 0, .int 0, .int 0, .ref a1, .int 0, .ref a2, .ref a3, .ref a4, .ref a5, .null, .null, .null, .null])), (a1, .inl (cA 0, 6, .inl (fun _ => 0))), (a2, .inl (cA 0, 6, .inl (fun _ => 0))), (a3, .inl (cA 0, 6, .inl (fun _ => 0))), (a4, .inl (cA 0, 6, .inl (fun _ => 0))), (a5, .inl (cA 0, 6, .inl (fun _ => 0)))] := hD
  refine xi_fld (T := TX4) (N := 16) (lp := 2) (n := 6) (t0 := 0) (cT := cA 0) (N' := 6) (a0 := (6, .inl (fun _ => 0))) (k := 12) (index := 27) hx hb hts hin tyX4_ok nmX4 hown rfl hmn hK hP hD hS hA (lv_at hl 0 rfl) (fun _ _ _ _ k => lv_bipush (n := 6) hx hb (by decide +kernel) (by decide +kernel) k) xq_47 rfl rfl (fun _ => rfl) (by decide) rfl (by decide) (Nat.le_of_ble_eq_true rfl) (Nat.le_of_ble_eq_true rfl) (by decide) xq_135 rfl rfl rfl (Nat.le_of_ble_eq_true rfl) (by decide +kernel) (by decide +kernel) (by decide +kernel) (fun a6 H locs hP hD hS => ?_)
  have hP : va_P D xCls [(h0, .inr (4, [.int 0, .int 0, .int 0, .int 0, .int 0, .int 0, .ref a1, .int 0, .ref a2, .ref a3, .ref a4, .ref a5, .ref a6, .null, .null, .null])), (a1, .inl (cA 0, 6, .inl (fun _ => 0))), (a2, .inl (cA 0, 6, .inl (fun _ => 0))), (a3, .inl (cA 0, 6, .inl (fun _ => 0))), (a4, .inl (cA 0, 6, .inl (fun _ => 0))), (a5, .inl (cA 0, 6, .inl (fun _ => 0))), (a6, .inl (cA 0, 6, .inl (fun _ => 0)))] H := hP
  have hD : va_D A [(h0, .inr (4, [.int 0, .int 0, .int 0, .int 0, .int 0, .int 0, .ref a1, .int 0, .ref a2, .ref a3, .ref a4, .ref a5, .ref a6, .null, .null, .null])), (a1, .inl (cA 0, 6, .inl (fun _ => 0))), (a2, .inl (cA 0, 6, .inl (fun _ => 0))), (a3, .inl (cA 0, 6, .inl (fun _ => 0))), (a4, .inl (cA 0, 6, .inl (fun _ => 0))), (a5, .inl (cA 0, 6, .inl (fun _ => 0))), (a6, .inl (cA 0, 6, .inl (fun _ => 0)))] := hD
  refine xi_fld (T := TX4) (N := 16) (lp := 2) (n := 6) (t0 := 0) (cT := cA 0) (N' := 6) (a0 := (6, .inl (fun _ => 0))) (k := 13) (index := 30) hx hb hts hin tyX4_ok nmX4 hown rfl hmn hK hP hD hS hA (lv_at hl 0 rfl) (fun _ _ _ _ k => lv_bipush (n := 6) hx hb (by decide +kernel) (by decide +kernel) k) xq_47 rfl rfl (fun _ => rfl) (by decide) rfl (by decide) (Nat.le_of_ble_eq_true rfl) (Nat.le_of_ble_eq_true rfl) (by decide) xq_136 rfl rfl rfl (Nat.le_of_ble_eq_true rfl) (by decide +kernel) (by decide +kernel) (by decide +kernel) (fun a7 H locs hP hD hS => ?_)
  have hP : va_P D xCls [(h0, .inr (4, [.int 0, .int 0, .int 0, .int 0, .int 0, .int 0, .ref a1, .int 0, .ref a2, .ref a3, .ref a4, .ref a5, .ref a6, .ref a7, .null, .null])), (a1, .inl (cA 0, 6, .inl (fun _ => 0))), (a2, .inl (cA 0, 6, .inl (fun _ => 0))), (a3, .inl (cA 0, 6, .inl (fun _ => 0))), (a4, .inl (cA 0, 6, .inl (fun _ => 0))), (a5, .inl (cA 0, 6, .inl (fun _ => 0))), (a6, .inl (cA 0, 6, .inl (fun _ => 0))), (a7, .inl (cA 0, 6, .inl (fun _ => 0)))] H := hP
  have hD : va_D A [(h0, .inr (4, [.int 0, .int 0, .int 0, .int 0, .int 0, .int 0, .ref a1, .int 0, .ref a2, .ref a3, .ref a4, .ref a5, .ref a6, .ref a7, .null, .null])), (a1, .inl (cA 0, 6, .inl (fun _ => 0))), (a2, .inl (cA 0, 6, .inl (fun _ => 0))), (a3, .inl (cA 0, 6, .inl (fun _ => 0))), (a4, .inl (cA 0, 6, .inl (fun _ => 0))), (a5, .inl (cA 0, 6, .inl (fun _ => 0))), (a6, .inl (cA 0, 6, .inl (fun _ => 0))), (a7, .inl (cA 0, 6, .inl (fun _ => 0)))] := hD
  refine xi_fld (T := TX4) (N := 16) (lp := 3) (n := 861) (t0 := 0) (cT := cA 0) (N' := 861) (a0 := (861, .inl (fun _ => 0))) (k := 14) (index := 33) hx hb hts hin tyX4_ok nmX4 hown rfl hmn hK hP hD hS hA (lv_at hl 0 rfl) (fun _ _ _ _ k => lv_sipush (n := 861) hx hb (by decide +kernel) (by decide +kernel) k) xq_47 rfl rfl (fun _ => rfl) (by decide) rfl (by decide) (Nat.le_of_ble_eq_true rfl) (Nat.le_of_ble_eq_true rfl) (by decide) xq_138 rfl rfl rfl (Nat.le_of_ble_eq_true rfl) (by decide +kernel) (by decide +kernel) (by decide +kernel) (fun a8 H locs hP hD hS => ?_)
  have hP : va_P D xCls [(h0, .inr (4, [.int 0, .int 0, .int 0, .int 0, .int 0, .int 0, .ref a1, .int 0, .ref a2, .ref a3, .ref a4, .ref a5, .ref a6, .ref a7, .ref a8, .null])), (a1, .inl (cA 0, 6, .inl (fun _ => 0))), (a2, .inl (cA 0, 6, .inl (fun _ => 0))), (a3, .inl (cA 0, 6, .inl (fun _ => 0))), (a4, .inl (cA 0, 6, .inl (fun _ => 0))), (a5, .inl (cA 0, 6, .inl (fun _ => 0))), (a6, .inl (cA 0, 6, .inl (fun _ => 0))), (a7, .inl (cA 0, 6, .inl (fun _ => 0))), (a8, .inl (cA 0, 861, .inl (fun _ => 0)))] H := hP
  have hD : va_D A [(h0, .inr (4, [.int 0, .int 0, .int 0, .int 0, .int 0, .int 0, .ref a1, .int 0, .ref a2, .ref a3, .ref a4, .ref a5, .ref a6, .ref a7, .ref a8, .null])), (a1, .inl (cA 0, 6, .inl (fun _ => 0))), (a2, .inl (cA 0, 6, .inl (fun _ => 0))), (a3, .inl (cA 0, 6, .inl (fun _ => 0))), (a4, .inl (cA 0, 6, .inl (fun _ => 0))), (a5, .inl (cA 0, 6, .inl (fun _ => 0))), (a6, .inl (cA 0, 6, .inl (fun _ => 0))), (a7, .inl (cA 0, 6, .inl (fun _ => 0))), (a8, .inl (cA 0, 861, .inl (fun _ => 0)))] := hD
  refine xi_fld (T := TX4) (N := 16) (lp := 3) (n := 861) (t0 := 0) (cT := cA 0) (N' := 861) (a0 := (861, .inl (fun _ => 0))) (k := 15) (index := 36) hx hb hts hin tyX4_ok nmX4 hown rfl hmn hK hP hD hS hA (lv_at hl 0 rfl) (fun _ _ _ _ k => lv_sipush (n := 861) hx hb (by decide +kernel) (by decide +kernel) k) xq_47 rfl rfl (fun _ => rfl) (by decide) rfl (by decide) (Nat.le_of_ble_eq_true rfl) (Nat.le_of_ble_eq_true rfl) (by decide) xq_139 rfl rfl rfl (Nat.le_of_ble_eq_true rfl) (by decide +kernel) (by decide +kernel) (by decide +kernel) (fun a9 H locs hP hD hS => ?_)
  have hP : va_P D xCls [(h0, .inr (4, [.int 0, .int 0, .int 0, .int 0, .int 0, .int 0, .ref a1, .int 0, .ref a2, .ref a3, .ref a4, .ref a5, .ref a6, .ref a7, .ref a8, .ref a9])), (a1, .inl (cA 0, 6, .inl (fun _ => 0))), (a2, .inl (cA 0, 6, .inl (fun _ => 0))), (a3, .inl (cA 0, 6, .inl (fun _ => 0))), (a4, .inl (cA 0, 6, .inl (fun _ => 0))), (a5, .inl (cA 0, 6, .inl (fun _ => 0))), (a6, .inl (cA 0, 6, .inl (fun _ => 0))), (a7, .inl (cA 0, 6, .inl (fun _ => 0))), (a8, .inl (cA 0, 861, .inl (fun _ => 0))), (a9, .inl (cA 0, 861, .inl (fun _ => 0)))] H := hP
  have hD : va_D A [(h0, .inr (4, [.int 0, .int 0, .int 0, .int 0, .int 0, .int 0, .ref a1, .int 0, .ref a2, .ref a3, .ref a4, .ref a5, .ref a6, .ref a7, .ref a8, .ref a9])), (a1, .inl (cA 0, 6, .inl (fun _ => 0))), (a2, .inl (cA 0, 6, .inl (fun _ => 0))), (a3, .inl (cA 0, 6, .inl (fun _ => 0))), (a4, .inl (cA 0, 6, .inl (fun _ => 0))), (a5, .inl (cA 0, 6, .inl (fun _ => 0))), (a6, .inl (cA 0, 6, .inl (fun _ => 0))), (a7, .inl (cA 0, 6, .inl (fun _ => 0))), (a8, .inl (cA 0, 861, .inl (fun _ => 0))), (a9, .inl (cA 0, 861, .inl (fun _ => 0)))] := hD
  exact kk _ _ _ 78 _ (by decide +kernel) ⟨a1, a2, a3, a4, a5, a6, a7, a8, a9, rfl⟩ hP hD hS
def xh_X5 (cA : Nat → ClassId) (h0 : Nat) (ws : va_W) : Prop := ∃ a1 a2 a3 a4 : Nat, ws = [(h0, .inr (5, [.int 0, .int 0, .ref a1, .int 0, .ref a2, .ref a3, .ref a4])), (a1, .inl (cA 0, 6, .inl (fun _ => 0))), (a2, .inl (cA 0, 6, .inl (fun _ => 0))), (a3, .inl (cA 0, 6, .inl (fun _ => 0))), (a4, .inl (cA 0, 6, .inl (fun _ => 0)))]
theorem xdf_X5 : ∀ j, j < 7 → defaultValue (tyX5 j) = vp_V [.int 0, .int 0, .null, .int 0, .null, .null, .null] j := by
  intro j hj
  match j, hj with
  | 0, _ => rfl
  | 1, _ => rfl
  | 2, _ => rfl
  | 3, _ => rfl
  | 4, _ => rfl
  | 5, _ => rfl
  | 6, _ => rfl
  | q + 7, h => exact absurd h (by omega)
theorem xc_X5 (l : Launch) (D : va_G) (cA : Nat → ClassId) (h0 sz : Nat) : xi_Met l yX5_init cX5_init 1 1 12 D cA 5 [.int 0, .int 0, .null, .int 0, .null, .null, .null] h0 sz (xh_X5 cA h0) 4 24 := by
  refine xi_open (idx := 3) (by decide) rfl (Nat.le_refl 1) (Nat.le_refl 1) (Nat.le_refl 12) xq_320 xq_28 xq_29 (by decide +kernel) (by decide +kernel) ?_
  intro p e s m below meth c A Q ls hx hb hts hown hmn hK hAO hA hml hl hP hD hS kk
  have hin := xi_u xk_w5
  refine xi_fld (T := TX5) (N := 7) (lp := 2) (n := 6) (t0 := 0) (cT := cA 0) (N' := 6) (a0 := (6, .inl (fun _ => 0))) (k := 2) (index := 9) hx hb hts hin tyX5_ok nmX5 hown rfl hmn hK hP hD hS hA (lv_at hl 0 rfl) (fun _ _ _ _ k => lv_bipush (n := 6) hx hb (by decide +kernel) (by decide +kernel) k) xq_47 rfl rfl (fun _ => rfl) (by decide) rfl (by decide) (Nat.le_of_ble_eq_true rfl) (Nat.le_of_ble_eq_true rfl) (by decide) xq_325 rfl rfl rfl (Nat.le_of_ble_eq_true rfl) (by decide +kernel) (by decide +kernel) (by decide +kernel) (fun a1 H locs hP hD hS => ?_)
  have hP : va_P D xCls [(h0, .inr (5, [.int 0, .int 0, .ref a1, .int 0, .null, .null, .null])), (a1, .inl (cA 0, 6, .inl (fun _ => 0)))] H := hP
  have hD : va_D A [(h0, .inr (5, [.int 0, .int 0, .ref a1, .int 0, .null, .null, .null])), (a1, .inl (cA 0, 6, .inl (fun _ => 0)))] := hD
  refine xi_fld (T := TX5) (N := 7) (lp := 2) (n := 6) (t0 := 0) (cT := cA 0) (N' := 6) (a0 := (6, .inl (fun _ => 0))) (k := 4) (index := 15) hx hb hts hin tyX5_ok nmX5 hown rfl hmn hK hP hD hS hA (lv_at hl 0 rfl) (fun _ _ _ _ k => lv_bipush (n := 6) hx hb (by decide +kernel) (by decide +kernel) k) xq_47 rfl rfl (fun _ => rfl) (by decide) rfl (by decide) (Nat.le_of_ble_eq_true rfl) (Nat.le_of_ble_eq_true rfl) (by decide) xq_329 rfl rfl rfl (Nat.le_of_ble_eq_true rfl) (by decide +kernel) (by decide +kernel) (by decide +kernel) (fun a2 H locs hP hD hS => ?_)
  have hP : va_P D xCls [(h0, .inr (5, [.int 0, .int 0, .ref a1, .int 0, .ref a2, .null, .null])), (a1, .inl (cA 0, 6, .inl (fun _ => 0))), (a2, .inl (cA 0, 6, .inl (fun _ => 0)))] H := hP
  have hD : va_D A [(h0, .inr (5, [.int 0, .int 0, .ref a1, .int 0, .ref a2, .null, .null])), (a1, .inl (cA 0, 6, .inl (fun _ => 0))), (a2, .inl (cA 0, 6, .inl (fun _ => 0)))] := hD
  refine xi_fld (T := TX5) (N := 7) (lp := 2) (n := 6) (t0 := 0) (cT := cA 0) (N' := 6) (a0 := (6, .inl (fun _ => 0))) (k := 5) (index := 18) hx hb hts hin tyX5_ok nmX5 hown rfl hmn hK hP hD hS hA (lv_at hl 0 rfl) (fun _ _ _ _ k => lv_bipush (n := 6) hx hb (by decide +kernel) (by decide +kernel) k) xq_47 rfl rfl (fun _ => rfl) (by decide) rfl (by decide) (Nat.le_of_ble_eq_true rfl) (Nat.le_of_ble_eq_true rfl) (by decide) xq_330 rfl rfl rfl (Nat.le_of_ble_eq_true rfl) (by decide +kernel) (by decide +kernel) (by decide +kernel) (fun a3 H locs hP hD hS => ?_)
  have hP : va_P D xCls [(h0, .inr (5, [.int 0, .int 0, .ref a1, .int 0, .ref a2, .ref a3, .null])), (a1, .inl (cA 0, 6, .inl (fun _ => 0))), (a2, .inl (cA 0, 6, .inl (fun _ => 0))), (a3, .inl (cA 0, 6, .inl (fun _ => 0)))] H := hP
  have hD : va_D A [(h0, .inr (5, [.int 0, .int 0, .ref a1, .int 0, .ref a2, .ref a3, .null])), (a1, .inl (cA 0, 6, .inl (fun _ => 0))), (a2, .inl (cA 0, 6, .inl (fun _ => 0))), (a3, .inl (cA 0, 6, .inl (fun _ => 0)))] := hD
  refine xi_fld (T := TX5) (N := 7) (lp := 2) (n := 6) (t0 := 0) (cT := cA 0) (N' := 6) (a0 := (6, .inl (fun _ => 0))) (k := 6) (index := 21) hx hb hts hin tyX5_ok nmX5 hown rfl hmn hK hP hD hS hA (lv_at hl 0 rfl) (fun _ _ _ _ k => lv_bipush (n := 6) hx hb (by decide +kernel) (by decide +kernel) k) xq_47 rfl rfl (fun _ => rfl) (by decide) rfl (by decide) (Nat.le_of_ble_eq_true rfl) (Nat.le_of_ble_eq_true rfl) (by decide) xq_331 rfl rfl rfl (Nat.le_of_ble_eq_true rfl) (by decide +kernel) (by decide +kernel) (by decide +kernel) (fun a4 H locs hP hD hS => ?_)
  have hP : va_P D xCls [(h0, .inr (5, [.int 0, .int 0, .ref a1, .int 0, .ref a2, .ref a3, .ref a4])), (a1, .inl (cA 0, 6, .inl (fun _ => 0))), (a2, .inl (cA 0, 6, .inl (fun _ => 0))), (a3, .inl (cA 0, 6, .inl (fun _ => 0))), (a4, .inl (cA 0, 6, .inl (fun _ => 0)))] H := hP
  have hD : va_D A [(h0, .inr (5, [.int 0, .int 0, .ref a1, .int 0, .ref a2, .ref a3, .ref a4])), (a1, .inl (cA 0, 6, .inl (fun _ => 0))), (a2, .inl (cA 0, 6, .inl (fun _ => 0))), (a3, .inl (cA 0, 6, .inl (fun _ => 0))), (a4, .inl (cA 0, 6, .inl (fun _ => 0)))] := hD
  exact kk _ _ _ 36 _ (by decide +kernel) ⟨a1, a2, a3, a4, rfl⟩ hP hD hS
def xh_X6 (cA : Nat → ClassId) (h0 : Nat) (ws : va_W) : Prop := ∃ a1 : Nat, ws = [(h0, .inr (6, [.int 0, .ref a1])), (a1, .inl (cA 0, 6, .inl (fun _ => 0)))]
theorem xdf_X6 : ∀ j, j < 2 → defaultValue (tyX6 j) = vp_V [.int 0, .null] j := by
  intro j hj
  match j, hj with
  | 0, _ => rfl
  | 1, _ => rfl
  | q + 2, h => exact absurd h (by omega)
theorem xc_X6 (l : Launch) (D : va_G) (cA : Nat → ClassId) (h0 sz : Nat) : xi_Met l yX6_init cX6_init 1 1 12 D cA 6 [.int 0, .null] h0 sz (xh_X6 cA h0) 1 6 := by
  refine xi_open (idx := 3) (by decide) rfl (Nat.le_refl 1) (Nat.le_refl 1) (Nat.le_refl 12) xq_352 xq_28 xq_29 (by decide +kernel) (by decide +kernel) ?_
  intro p e s m below meth c A Q ls hx hb hts hown hmn hK hAO hA hml hl hP hD hS kk
  have hin := xi_u xk_w6
  refine xi_fld (T := TX6) (N := 2) (lp := 2) (n := 6) (t0 := 0) (cT := cA 0) (N' := 6) (a0 := (6, .inl (fun _ => 0))) (k := 1) (index := 9) hx hb hts hin tyX6_ok nmX6 hown rfl hmn hK hP hD hS hA (lv_at hl 0 rfl) (fun _ _ _ _ k => lv_bipush (n := 6) hx hb (by decide +kernel) (by decide +kernel) k) xq_47 rfl rfl (fun _ => rfl) (by decide) rfl (by decide) (Nat.le_of_ble_eq_true rfl) (Nat.le_of_ble_eq_true rfl) (by decide) xq_355 rfl rfl rfl (Nat.le_of_ble_eq_true rfl) (by decide +kernel) (by decide +kernel) (by decide +kernel) (fun a1 H locs hP hD hS => ?_)
  have hP : va_P D xCls [(h0, .inr (6, [.int 0, .ref a1])), (a1, .inl (cA 0, 6, .inl (fun _ => 0)))] H := hP
  have hD : va_D A [(h0, .inr (6, [.int 0, .ref a1])), (a1, .inl (cA 0, 6, .inl (fun _ => 0)))] := hD
  exact kk _ _ _ 12 _ (by decide +kernel) ⟨a1, rfl⟩ hP hD hS
def xh_X7 (cA : Nat → ClassId) (h0 : Nat) (ws : va_W) : Prop := ∃ a1 a2 : Nat, ws = [(h0, .inr (7, [.ref a1, .ref a2])), (a1, .inl (cA 0, 54, .inl (fun _ => 0))), (a2, .inl (cA 0, 7, .inl (fun _ => 0)))]
theorem xdf_X7 : ∀ j, j < 2 → defaultValue (tyX7 j) = vp_V [.null, .null] j := by
  intro j hj
  match j, hj with
  | 0, _ => rfl
  | 1, _ => rfl
  | q + 2, h => exact absurd h (by omega)
theorem xc_X7 (l : Launch) (D : va_G) (cA : Nat → ClassId) (h0 sz : Nat) : xi_Met l yX7_init cX7_init 1 1 12 D cA 7 [.null, .null] h0 sz (xh_X7 cA h0) 2 61 := by
  refine xi_open (idx := 3) (by decide) rfl (Nat.le_refl 1) (Nat.le_refl 1) (Nat.le_refl 12) xq_53 xq_28 xq_29 (by decide +kernel) (by decide +kernel) ?_
  intro p e s m below meth c A Q ls hx hb hts hown hmn hK hAO hA hml hl hP hD hS kk
  have hin := xi_u xk_w7
  refine xi_fld (T := TX7) (N := 2) (lp := 2) (n := 54) (t0 := 0) (cT := cA 0) (N' := 54) (a0 := (54, .inl (fun _ => 0))) (k := 0) (index := 9) hx hb hts hin tyX7_ok nmX7 hown rfl hmn hK hP hD hS hA (lv_at hl 0 rfl) (fun _ _ _ _ k => lv_bipush (n := 54) hx hb (by decide +kernel) (by decide +kernel) k) xq_47 rfl rfl (fun _ => rfl) (by decide) rfl (by decide) (Nat.le_of_ble_eq_true rfl) (Nat.le_of_ble_eq_true rfl) (by decide) xq_54 rfl rfl rfl (Nat.le_of_ble_eq_true rfl) (by decide +kernel) (by decide +kernel) (by decide +kernel) (fun a1 H locs hP hD hS => ?_)
  have hP : va_P D xCls [(h0, .inr (7, [.ref a1, .null])), (a1, .inl (cA 0, 54, .inl (fun _ => 0)))] H := hP
  have hD : va_D A [(h0, .inr (7, [.ref a1, .null])), (a1, .inl (cA 0, 54, .inl (fun _ => 0)))] := hD
  refine xi_fld (T := TX7) (N := 2) (lp := 2) (n := 7) (t0 := 0) (cT := cA 0) (N' := 7) (a0 := (7, .inl (fun _ => 0))) (k := 1) (index := 15) hx hb hts hin tyX7_ok nmX7 hown rfl hmn hK hP hD hS hA (lv_at hl 0 rfl) (fun _ _ _ _ k => lv_bipush (n := 7) hx hb (by decide +kernel) (by decide +kernel) k) xq_47 rfl rfl (fun _ => rfl) (by decide) rfl (by decide) (Nat.le_of_ble_eq_true rfl) (Nat.le_of_ble_eq_true rfl) (by decide) xq_55 rfl rfl rfl (Nat.le_of_ble_eq_true rfl) (by decide +kernel) (by decide +kernel) (by decide +kernel) (fun a2 H locs hP hD hS => ?_)
  have hP : va_P D xCls [(h0, .inr (7, [.ref a1, .ref a2])), (a1, .inl (cA 0, 54, .inl (fun _ => 0))), (a2, .inl (cA 0, 7, .inl (fun _ => 0)))] H := hP
  have hD : va_D A [(h0, .inr (7, [.ref a1, .ref a2])), (a1, .inl (cA 0, 54, .inl (fun _ => 0))), (a2, .inl (cA 0, 7, .inl (fun _ => 0)))] := hD
  exact kk _ _ _ 20 _ (by decide +kernel) ⟨a1, a2, rfl⟩ hP hD hS
def xh_X8 (cA : Nat → ClassId) (h0 : Nat) (ws : va_W) : Prop := ∃ a1 a2 a3 : Nat, ws = [(h0, .inr (8, [.int 0, .ref a1, .ref a2, .ref a3])), (a1, .inl (cA 0, 20, .inl (fun _ => 0))), (a2, .inl (cA 0, 20, .inl (fun _ => 0))), (a3, .inl (cA 1, 21, .inr (.inl (fun _ => 0))))]
theorem xdf_X8 : ∀ j, j < 4 → defaultValue (tyX8 j) = vp_V [.int 0, .null, .null, .null] j := by
  intro j hj
  match j, hj with
  | 0, _ => rfl
  | 1, _ => rfl
  | 2, _ => rfl
  | 3, _ => rfl
  | q + 4, h => exact absurd h (by omega)
theorem xc_X8 (l : Launch) (D : va_G) (cA : Nat → ClassId) (h0 sz : Nat) : xi_Met l yX8_init cX8_init 1 1 12 D cA 8 [.int 0, .null, .null, .null] h0 sz (xh_X8 cA h0) 3 61 := by
  refine xi_open (idx := 3) (by decide) rfl (Nat.le_refl 1) (Nat.le_refl 1) (Nat.le_refl 12) xq_250 xq_28 xq_29 (by decide +kernel) (by decide +kernel) ?_
  intro p e s m below meth c A Q ls hx hb hts hown hmn hK hAO hA hml hl hP hD hS kk
  have hin := xi_u xk_w8
  refine xi_fld (T := TX8) (N := 4) (lp := 2) (n := 20) (t0 := 0) (cT := cA 0) (N' := 20) (a0 := (20, .inl (fun _ => 0))) (k := 1) (index := 9) hx hb hts hin tyX8_ok nmX8 hown rfl hmn hK hP hD hS hA (lv_at hl 0 rfl) (fun _ _ _ _ k => lv_bipush (n := 20) hx hb (by decide +kernel) (by decide +kernel) k) xq_47 rfl rfl (fun _ => rfl) (by decide) rfl (by decide) (Nat.le_of_ble_eq_true rfl) (Nat.le_of_ble_eq_true rfl) (by decide) xq_253 rfl rfl rfl (Nat.le_of_ble_eq_true rfl) (by decide +kernel) (by decide +kernel) (by decide +kernel) (fun a1 H locs hP hD hS => ?_)
  have hP : va_P D xCls [(h0, .inr (8, [.int 0, .ref a1, .null, .null])), (a1, .inl (cA 0, 20, .inl (fun _ => 0)))] H := hP
  have hD : va_D A [(h0, .inr (8, [.int 0, .ref a1, .null, .null])), (a1, .inl (cA 0, 20, .inl (fun _ => 0)))] := hD
  refine xi_fld (T := TX8) (N := 4) (lp := 2) (n := 20) (t0 := 0) (cT := cA 0) (N' := 20) (a0 := (20, .inl (fun _ => 0))) (k := 2) (index := 15) hx hb hts hin tyX8_ok nmX8 hown rfl hmn hK hP hD hS hA (lv_at hl 0 rfl) (fun _ _ _ _ k => lv_bipush (n := 20) hx hb (by decide +kernel) (by decide +kernel) k) xq_47 rfl rfl (fun _ => rfl) (by decide) rfl (by decide) (Nat.le_of_ble_eq_true rfl) (Nat.le_of_ble_eq_true rfl) (by decide) xq_254 rfl rfl rfl (Nat.le_of_ble_eq_true rfl) (by decide +kernel) (by decide +kernel) (by decide +kernel) (fun a2 H locs hP hD hS => ?_)
  have hP : va_P D xCls [(h0, .inr (8, [.int 0, .ref a1, .ref a2, .null])), (a1, .inl (cA 0, 20, .inl (fun _ => 0))), (a2, .inl (cA 0, 20, .inl (fun _ => 0)))] H := hP
  have hD : va_D A [(h0, .inr (8, [.int 0, .ref a1, .ref a2, .null])), (a1, .inl (cA 0, 20, .inl (fun _ => 0))), (a2, .inl (cA 0, 20, .inl (fun _ => 0)))] := hD
  refine xi_fld (T := TX8) (N := 4) (lp := 2) (n := 21) (t0 := 1) (cT := cA 1) (N' := 21) (a0 := (21, .inr (.inl (fun _ => 0)))) (k := 3) (index := 18) hx hb hts hin tyX8_ok nmX8 hown rfl hmn hK hP hD hS hA (lv_at hl 0 rfl) (fun _ _ _ _ k => lv_bipush (n := 21) hx hb (by decide +kernel) (by decide +kernel) k) xq_265 rfl rfl (fun _ => rfl) (by decide) rfl (by decide) (Nat.le_of_ble_eq_true rfl) (Nat.le_of_ble_eq_true rfl) (by decide) xq_255 rfl rfl rfl (Nat.le_of_ble_eq_true rfl) (by decide +kernel) (by decide +kernel) (by decide +kernel) (fun a3 H locs hP hD hS => ?_)
  have hP : va_P D xCls [(h0, .inr (8, [.int 0, .ref a1, .ref a2, .ref a3])), (a1, .inl (cA 0, 20, .inl (fun _ => 0))), (a2, .inl (cA 0, 20, .inl (fun _ => 0))), (a3, .inl (cA 1, 21, .inr (.inl (fun _ => 0))))] H := hP
  have hD : va_D A [(h0, .inr (8, [.int 0, .ref a1, .ref a2, .ref a3])), (a1, .inl (cA 0, 20, .inl (fun _ => 0))), (a2, .inl (cA 0, 20, .inl (fun _ => 0))), (a3, .inl (cA 1, 21, .inr (.inl (fun _ => 0))))] := hD
  exact kk _ _ _ 28 _ (by decide +kernel) ⟨a1, a2, a3, rfl⟩ hP hD hS
def xh_X9 (cA : Nat → ClassId) (h0 : Nat) (ws : va_W) : Prop := ∃ a1 : Nat, ws = [(h0, .inr (9, [.ref a1, .int 0, .int 0])), (a1, .inl (cA 0, 500, .inl (fun _ => 0)))]
theorem xdf_X9 : ∀ j, j < 3 → defaultValue (tyX9 j) = vp_V [.null, .int 0, .int 0] j := by
  intro j hj
  match j, hj with
  | 0, _ => rfl
  | 1, _ => rfl
  | 2, _ => rfl
  | q + 3, h => exact absurd h (by omega)
theorem xc_X9 (l : Launch) (D : va_G) (cA : Nat → ClassId) (h0 sz : Nat) : xi_Met l yX9_init cX9_init 1 1 12 D cA 9 [.null, .int 0, .int 0] h0 sz (xh_X9 cA h0) 1 500 := by
  refine xi_open (idx := 3) (by decide) rfl (Nat.le_refl 1) (Nat.le_refl 1) (Nat.le_refl 12) xq_35 xq_28 xq_29 (by decide +kernel) (by decide +kernel) ?_
  intro p e s m below meth c A Q ls hx hb hts hown hmn hK hAO hA hml hl hP hD hS kk
  have hin := xi_u xk_w9
  refine xi_fld (T := TX9) (N := 3) (lp := 3) (n := 500) (t0 := 0) (cT := cA 0) (N' := 500) (a0 := (500, .inl (fun _ => 0))) (k := 0) (index := 9) hx hb hts hin tyX9_ok nmX9 hown rfl hmn hK hP hD hS hA (lv_at hl 0 rfl) (fun _ _ _ _ k => lv_sipush (n := 500) hx hb (by decide +kernel) (by decide +kernel) k) xq_47 rfl rfl (fun _ => rfl) (by decide) rfl (by decide) (Nat.le_of_ble_eq_true rfl) (Nat.le_of_ble_eq_true rfl) (by decide) xq_36 rfl rfl rfl (Nat.le_of_ble_eq_true rfl) (by decide +kernel) (by decide +kernel) (by decide +kernel) (fun a1 H locs hP hD hS => ?_)
  have hP : va_P D xCls [(h0, .inr (9, [.ref a1, .int 0, .int 0])), (a1, .inl (cA 0, 500, .inl (fun _ => 0)))] H := hP
  have hD : va_D A [(h0, .inr (9, [.ref a1, .int 0, .int 0])), (a1, .inl (cA 0, 500, .inl (fun _ => 0)))] := hD
  exact kk _ _ _ 13 _ (by decide +kernel) ⟨a1, rfl⟩ hP hD hS
def xh_X10 (cA : Nat → ClassId) (h0 : Nat) (ws : va_W) : Prop := ∃ a1 a2 a3 a4 a5 a6 : Nat, ws = [(h0, .inr (10, [.int 0, .int 0, .int 0, .int 0, .ref a1, .ref a2, .ref a3, .ref a4, .ref a5, .ref a6])), (a1, .inl (cA 0, 6, .inl (fun _ => 0))), (a2, .inl (cA 0, 6, .inl (fun _ => 0))), (a3, .inl (cA 0, 6, .inl (fun _ => 0))), (a4, .inl (cA 0, 6, .inl (fun _ => 0))), (a5, .inl (cA 0, 6, .inl (fun _ => 0))), (a6, .inl (cA 0, 6, .inl (fun _ => 0)))]
theorem xdf_X10 : ∀ j, j < 10 → defaultValue (tyX10 j) = vp_V [.int 0, .int 0, .int 0, .int 0, .null, .null, .null, .null, .null, .null] j := by
  intro j hj
  match j, hj with
  | 0, _ => rfl
  | 1, _ => rfl
  | 2, _ => rfl
  | 3, _ => rfl
  | 4, _ => rfl
  | 5, _ => rfl
  | 6, _ => rfl
  | 7, _ => rfl
  | 8, _ => rfl
  | 9, _ => rfl
  | q + 10, h => exact absurd h (by omega)
theorem xc_X10 (l : Launch) (D : va_G) (cA : Nat → ClassId) (h0 sz : Nat) : xi_Met l yX10_init cX10_init 1 1 12 D cA 10 [.int 0, .int 0, .int 0, .int 0, .null, .null, .null, .null, .null, .null] h0 sz (xh_X10 cA h0) 6 36 := by
  refine xi_open (idx := 3) (by decide) rfl (Nat.le_refl 1) (Nat.le_refl 1) (Nat.le_refl 12) xq_66 xq_28 xq_29 (by decide +kernel) (by decide +kernel) ?_
  intro p e s m below meth c A Q ls hx hb hts hown hmn hK hAO hA hml hl hP hD hS kk
  have hin := xi_u xk_w10
  refine xi_fld (T := TX10) (N := 10) (lp := 2) (n := 6) (t0 := 0) (cT := cA 0) (N' := 6) (a0 := (6, .inl (fun _ => 0))) (k := 4) (index := 9) hx hb hts hin tyX10_ok nmX10 hown rfl hmn hK hP hD hS hA (lv_at hl 0 rfl) (fun _ _ _ _ k => lv_bipush (n := 6) hx hb (by decide +kernel) (by decide +kernel) k) xq_47 rfl rfl (fun _ => rfl) (by decide) rfl (by decide) (Nat.le_of_ble_eq_true rfl) (Nat.le_of_ble_eq_true rfl) (by decide) xq_74 rfl rfl rfl (Nat.le_of_ble_eq_true rfl) (by decide +kernel) (by decide +kernel) (by decide +kernel) (fun a1 H locs hP hD hS => ?_)
  have hP : va_P D xCls [(h0, .inr (10, [.int 0, .int 0, .int 0, .int 0, .ref a1, .null, .null, .null, .null, .null])), (a1, .inl (cA 0, 6, .inl (fun _ => 0)))] H := hP
  have hD : va_D A [(h0, .inr (10, [.int 0, .int 0, .int 0, .int 0, .ref a1, .null, .null, .null, .null, .null])), (a1, .inl (cA 0, 6, .inl (fun _ => 0)))] := hD
  refine xi_fld (T := TX10) (N := 10) (lp := 2) (n := 6) (t0 := 0) (cT := cA 0) (N' := 6) (a0 := (6, .inl (fun _ => 0))) (k := 5) (index := 15) hx hb hts hin tyX10_ok nmX10 hown rfl hmn hK hP hD hS hA (lv_at hl 0 rfl) (fun _ _ _ _ k => lv_bipush (n := 6) hx hb (by decide +kernel) (by decide +kernel) k) xq_47 rfl rfl (fun _ => rfl) (by decide) rfl (by decide) (Nat.le_of_ble_eq_true rfl) (Nat.le_of_ble_eq_true rfl) (by decide) xq_75 rfl rfl rfl (Nat.le_of_ble_eq_true rfl) (by decide +kernel) (by decide +kernel) (by decide +kernel) (fun a2 H locs hP hD hS => ?_)
  have hP : va_P D xCls [(h0, .inr (10, [.int 0, .int 0, .int 0, .int 0, .ref a1, .ref a2, .null, .null, .null, .null])), (a1, .inl (cA 0, 6, .inl (fun _ => 0))), (a2, .inl (cA 0, 6, .inl (fun _ => 0)))] H := hP
  have hD : va_D A [(h0, .inr (10, [.int 0, .int 0, .int 0, .int 0, .ref a1, .ref a2, .null, .null, .null, .null])), (a1, .inl (cA 0, 6, .inl (fun _ => 0))), (a2, .inl (cA 0, 6, .inl (fun _ => 0)))] := hD
  refine xi_fld (T := TX10) (N := 10) (lp := 2) (n := 6) (t0 := 0) (cT := cA 0) (N' := 6) (a0 := (6, .inl (fun _ => 0))) (k := 6) (index := 18) hx hb hts hin tyX10_ok nmX10 hown rfl hmn hK hP hD hS hA (lv_at hl 0 rfl) (fun _ _ _ _ k => lv_bipush (n := 6) hx hb (by decide +kernel) (by decide +kernel) k) xq_47 rfl rfl (fun _ => rfl) (by decide) rfl (by decide) (Nat.le_of_ble_eq_true rfl) (Nat.le_of_ble_eq_true rfl) (by decide) xq_77 rfl rfl rfl (Nat.le_of_ble_eq_true rfl) (by decide +kernel) (by decide +kernel) (by decide +kernel) (fun a3 H locs hP hD hS => ?_)
  have hP : va_P D xCls [(h0, .inr (10, [.int 0, .int 0, .int 0, .int 0, .ref a1, .ref a2, .ref a3, .null, .null, .null])), (a1, .inl (cA 0, 6, .inl (fun _ => 0))), (a2, .inl (cA 0, 6, .inl (fun _ => 0))), (a3, .inl (cA 0, 6, .inl (fun _ => 0)))] H := hP
  have hD : va_D A [(h0, .inr (10, [.int 0, .int 0, .int 0, .int 0, .ref a1, .ref a2, .ref a3, .null, .null, .null])), (a1, .inl (cA 0, 6, .inl (fun _ => 0))), (a2, .inl (cA 0, 6, .inl (fun _ => 0))), (a3, .inl (cA 0, 6, .inl (fun _ => 0)))] := hD
  refine xi_fld (T := TX10) (N := 10) (lp := 2) (n := 6) (t0 := 0) (cT := cA 0) (N' := 6) (a0 := (6, .inl (fun _ => 0))) (k := 7) (index := 21) hx hb hts hin tyX10_ok nmX10 hown rfl hmn hK hP hD hS hA (lv_at hl 0 rfl) (fun _ _ _ _ k => lv_bipush (n := 6) hx hb (by decide +kernel) (by decide +kernel) k) xq_47 rfl rfl (fun _ => rfl) (by decide) rfl (by decide) (Nat.le_of_ble_eq_true rfl) (Nat.le_of_ble_eq_true rfl) (by decide) xq_80 rfl rfl rfl (Nat.le_of_ble_eq_true rfl) (by decide +kernel) (by decide +kernel) (by decide +kernel) (fun a4 H locs hP hD hS => ?_)
  have hP : va_P D xCls [(h0, .inr (10, [.int 0, .int 0, .int 0, .int 0, .ref a1, .ref a2, .ref a3, .ref a4, .null, .null])), (a1, .inl (cA 0, 6, .inl (fun _ => 0))), (a2, .inl (cA 0, 6, .inl (fun _ => 0))), (a3, .inl (cA 0, 6, .inl (fun _ => 0))), (a4, .inl (cA 0, 6, .inl (fun _ => 0)))] H := hP
  have hD : va_D A [(h0, .inr (10, [.int 0, .int 0, .int 0, .int 0, .ref a1, .ref a2, .ref a3, .ref a4, .null, .null])), (a1, .inl (cA 0, 6, .inl (fun _ => 0))), (a2, .inl (cA 0, 6, .inl (fun _ => 0))), (a3, .inl (cA 0, 6, .inl (fun _ => 0))), (a4, .inl (cA 0, 6, .inl (fun _ => 0)))] := hD
  refine xi_fld (T := TX10) (N := 10) (lp := 2) (n := 6) (t0 := 0) (cT := cA 0) (N' := 6) (a0 := (6, .inl (fun _ => 0))) (k := 8) (index := 24) hx hb hts hin tyX10_ok nmX10 hown rfl hmn hK hP hD hS hA (lv_at hl 0 rfl) (fun _ _ _ _ k => lv_bipush (n := 6) hx hb (by decide +kernel) (by decide +kernel) k) xq_47 rfl rfl (fun _ => rfl) (by decide) rfl (by decide) (Nat.le_of_ble_eq_true rfl) (Nat.le_of_ble_eq_true rfl) (by decide) xq_83 rfl rfl rfl (Nat.le_of_ble_eq_true rfl) (by decide +kernel) (by decide +kernel) (by decide +kernel) (fun a5 H locs hP hD hS => ?_)
  have hP : va_P D xCls [(h0, .inr (10, [.int 0, .int 0, .int 0, .int 0, .ref a1, .ref a2, .ref a3, .ref a4, .ref a5, .null])), (a1, .inl (cA 0, 6, .inl (fun _ => 0))), (a2, .inl (cA 0, 6, .inl (fun _ => 0))), (a3, .inl (cA 0, 6, .inl (fun _ => 0))), (a4, .inl (cA 0, 6, .inl (fun _ => 0))), (a5, .inl (cA 0, 6, .inl (fun _ => 0)))] H := hP
  have hD : va_D A [(h0, .inr (10, [.int 0, .int 0, .int 0, .int 0, .ref a1, .ref a2, .ref a3, .ref a4, .ref a5, .null])), (a1, .inl (cA 0, 6, .inl (fun _ => 0))), (a2, .inl (cA 0, 6, .inl (fun _ => 0))), (a3, .inl (cA 0, 6, .inl (fun _ => 0))), (a4, .inl (cA 0, 6, .inl (fun _ => 0))), (a5, .inl (cA 0, 6, .inl (fun _ => 0)))] := hD
  refine xi_fld (T := TX10) (N := 10) (lp := 2) (n := 6) (t0 := 0) (cT := cA 0) (N' := 6) (a0 := (6, .inl (fun _ => 0))) (k := 9) (index := 27) hx hb hts hin tyX10_ok nmX10 hown rfl hmn hK hP hD hS hA (lv_at hl 0 rfl) (fun _ _ _ _ k => lv_bipush (n := 6) hx hb (by decide +kernel) (by decide +kernel) k) xq_47 rfl rfl (fun _ => rfl) (by decide) rfl (by decide) (Nat.le_of_ble_eq_true rfl) (Nat.le_of_ble_eq_true rfl) (by decide) xq_85 rfl rfl rfl (Nat.le_of_ble_eq_true rfl) (by decide +kernel) (by decide +kernel) (by decide +kernel) (fun a6 H locs hP hD hS => ?_)
  have hP : va_P D xCls [(h0, .inr (10, [.int 0, .int 0, .int 0, .int 0, .ref a1, .ref a2, .ref a3, .ref a4, .ref a5, .ref a6])), (a1, .inl (cA 0, 6, .inl (fun _ => 0))), (a2, .inl (cA 0, 6, .inl (fun _ => 0))), (a3, .inl (cA 0, 6, .inl (fun _ => 0))), (a4, .inl (cA 0, 6, .inl (fun _ => 0))), (a5, .inl (cA 0, 6, .inl (fun _ => 0))), (a6, .inl (cA 0, 6, .inl (fun _ => 0)))] H := hP
  have hD : va_D A [(h0, .inr (10, [.int 0, .int 0, .int 0, .int 0, .ref a1, .ref a2, .ref a3, .ref a4, .ref a5, .ref a6])), (a1, .inl (cA 0, 6, .inl (fun _ => 0))), (a2, .inl (cA 0, 6, .inl (fun _ => 0))), (a3, .inl (cA 0, 6, .inl (fun _ => 0))), (a4, .inl (cA 0, 6, .inl (fun _ => 0))), (a5, .inl (cA 0, 6, .inl (fun _ => 0))), (a6, .inl (cA 0, 6, .inl (fun _ => 0)))] := hD
  exact kk _ _ _ 52 _ (by decide +kernel) ⟨a1, a2, a3, a4, a5, a6, rfl⟩ hP hD hS
