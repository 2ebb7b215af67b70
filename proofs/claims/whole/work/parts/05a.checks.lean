set_option maxRecDepth 100000 in
theorem xo_0 : (xt_code_0.zipIdx.all fun q => q.1.all (xe_okb (16 * 0 + q.2))) = true := by decide +kernel
set_option maxRecDepth 100000 in
theorem xo_1 : (xt_code_1.zipIdx.all fun q => q.1.all (xe_okb (16 * 1 + q.2))) = true := by decide +kernel
set_option maxRecDepth 100000 in
theorem xo_2 : (xt_code_2.zipIdx.all fun q => q.1.all (xe_okb (16 * 2 + q.2))) = true := by decide +kernel
set_option maxRecDepth 100000 in
theorem xo_3 : (xt_code_3.zipIdx.all fun q => q.1.all (xe_okb (16 * 3 + q.2))) = true := by decide +kernel
set_option maxRecDepth 100000 in
theorem xo_4 : (xt_code_4.zipIdx.all fun q => q.1.all (xe_okb (16 * 4 + q.2))) = true := by decide +kernel
set_option maxRecDepth 100000 in
theorem xo_5 : (xt_code_5.zipIdx.all fun q => q.1.all (xe_okb (16 * 5 + q.2))) = true := by decide +kernel
set_option maxRecDepth 100000 in
theorem xo_6 : (xt_code_6.zipIdx.all fun q => q.1.all (xe_okb (16 * 6 + q.2))) = true := by decide +kernel
set_option maxRecDepth 100000 in
theorem xo_7 : (xt_code_7.zipIdx.all fun q => q.1.all (xe_okb (16 * 7 + q.2))) = true := by decide +kernel
set_option maxRecDepth 100000 in
theorem xo_8 : (xt_code_8.zipIdx.all fun q => q.1.all (xe_okb (16 * 8 + q.2))) = true := by decide +kernel
set_option maxRecDepth 100000 in
theorem xo_9 : (xt_code_9.zipIdx.all fun q => q.1.all (xe_okb (16 * 9 + q.2))) = true := by decide +kernel
set_option maxRecDepth 100000 in
theorem xo_10 : (xt_code_10.zipIdx.all fun q => q.1.all (xe_okb (16 * 10 + q.2))) = true := by decide +kernel
set_option maxRecDepth 100000 in
theorem xo_11 : (xt_code_11.zipIdx.all fun q => q.1.all (xe_okb (16 * 11 + q.2))) = true := by decide +kernel
set_option maxRecDepth 100000 in
theorem xo_12 : (xt_code_12.zipIdx.all fun q => q.1.all (xe_okb (16 * 12 + q.2))) = true := by decide +kernel
set_option maxRecDepth 100000 in
theorem xo_13 : (xt_code_13.zipIdx.all fun q => q.1.all (xe_okb (16 * 13 + q.2))) = true := by decide +kernel
set_option maxRecDepth 100000 in
theorem xo_14 : (xt_code_14.zipIdx.all fun q => q.1.all (xe_okb (16 * 14 + q.2))) = true := by decide +kernel
