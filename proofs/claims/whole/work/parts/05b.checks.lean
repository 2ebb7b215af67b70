set_option maxRecDepth 100000 in
theorem xo_m240 : xt_c240.all (xe_okb 240) = true := by decide +kernel
set_option maxRecDepth 100000 in
theorem xo_m241 : xt_c241.all (xe_okb 241) = true := by decide +kernel
set_option maxRecDepth 100000 in
theorem xo_m242 : xt_c242.all (xe_okb 242) = true := by decide +kernel
set_option maxRecDepth 100000 in
theorem xo_m243 : xt_c243.all (xe_okb 243) = true := by decide +kernel
set_option maxRecDepth 100000 in
theorem xo_m244 : xt_c244.all (xe_okb 244) = true := by decide +kernel
set_option maxRecDepth 100000 in
theorem xo_l0 : xt_c245_0.all (xe_okb 245) = true := by decide +kernel
set_option maxRecDepth 100000 in
theorem xo_l1 : xt_c245_1.all (xe_okb 245) = true := by decide +kernel
set_option maxRecDepth 100000 in
theorem xo_l2 : xt_c245_2.all (xe_okb 245) = true := by decide +kernel
set_option maxRecDepth 100000 in
theorem xo_l3 : xt_c245_3.all (xe_okb 245) = true := by decide +kernel
set_option maxRecDepth 100000 in
theorem xo_l4 : xt_c245_4.all (xe_okb 245) = true := by decide +kernel
set_option maxRecDepth 100000 in
theorem xo_l5 : xt_c245_5.all (xe_okb 245) = true := by decide +kernel
set_option maxRecDepth 100000 in
theorem xo_l6 : xt_c245_6.all (xe_okb 245) = true := by decide +kernel
set_option maxRecDepth 100000 in
theorem xo_l7 : xt_c245_7.all (xe_okb 245) = true := by decide +kernel
set_option maxRecDepth 100000 in
theorem xo_l8 : xt_c245_8.all (xe_okb 245) = true := by decide +kernel
set_option maxRecDepth 100000 in
theorem xo_l9 : xt_c245_9.all (xe_okb 245) = true := by decide +kernel
theorem xo_m245 : xt_c245.all (xe_okb 245) = true := by
  unfold xt_c245
  simp only [List.all_append, xo_l0, xo_l1, xo_l2, xo_l3, xo_l4, xo_l5, xo_l6, xo_l7, xo_l8, xo_l9]
  rfl
