set_option maxRecDepth 100000 in
theorem s245_1119 {l0 l1 l2 l3 : Option Value} {s0 s1 : Value} {i : Int32} {k : Nat} {σ : xM} {Q : Option Value → xM → Prop} (hk : xe_cls k = 100) : xC 245 1119 [l0, l1, l2, l3] [.int i, .ref k, s0, s1] σ Q = ((0 ≤ i ∧ i.toNatClampNeg < xt_len.getD k 0) ∧ xC 245 1120 [l0, l1, l2, l3] [.int (σ.1 k i.toNatClampNeg), s0, s1] σ Q) := xC_and (y := 245) (pc := 1119) (p1 := 1119) (ins := .iaload) (len := 1) (pl := 0) (a := 0) (b := 0) (v := .null) rfl rfl rfl (xa_ial hk)
set_option maxRecDepth 100000 in
theorem s245_1119_g {l0 l1 l2 l3 : Option Value} {s0 s1 : Value} {i : Int32} {k : Nat} {σ : xM} {Q : Option Value → xM → Prop} (hk : xe_cls k = 110) : xC 245 1119 [l0, l1, l2, l3] [.int i, .ref k, s0, s1] σ Q = ((0 ≤ i ∧ i.toNatClampNeg < xe_len σ k) ∧ xC 245 1120 [l0, l1, l2, l3] [.int (xe_ax σ k i.toNatClampNeg), s0, s1] σ Q) := by
  have e := xC_and (Q := Q) (ls := [l0, l1, l2, l3]) (st := [.int i, .ref k, s0, s1]) (σ := σ) (y := 245) (pc := 1119) (p1 := 1119) (ins := .iaload) (len := 1) (pl := 0) (a := 0) (b := 0) (v := .null) rfl rfl rfl rfl
  simpa [hk] using e
set_option maxRecDepth 100000 in
theorem s245_1120 {l0 l1 l2 l3 : Option Value} {x1 : Int32} {x2 : Int32} {σ : xM} {Q : Option Value → xM → Prop} : xC 245 1120 [l0, l1, l2, l3] [.int x2, .int x1, .ref 0] σ Q = xI1 134 [.ref 0, .int x1, .int x2] σ (fun r σ' => xC 245 1123 [l0, l1, l2, l3] [.int r] σ' Q) := xC_callI (p1 := 1120) (ins := .invokevirtual 122) (len := 3) (pl := 920) (a := 134) (b := 3) (v := .null) rfl rfl rfl ⟨Nat.le_of_ble_eq_true rfl, Or.inl (Nat.le_of_ble_eq_true rfl), xa_134, Or.inr rfl, Nat.le_of_ble_eq_true rfl⟩ (Or.inl xr_134)
set_option maxRecDepth 100000 in
theorem s245_1123 {l0 l1 l3 : Option Value} {s0 : Value} {k : Nat} {σ : xM} {Q : Option Value → xM → Prop} : xC 245 1123 [l0, l1, some (.ref k), l3] [s0] σ Q = xC 245 1124 [l0, l1, some (.ref k), l3] [.ref k, s0] σ Q := xC_step (y := 245) (pc := 1123) (p1 := 1123) (ins := .aload_n 2) (len := 1) (pl := 0) (a := 0) (b := 0) (v := .null) rfl rfl rfl rfl
set_option maxRecDepth 100000 in
theorem s245_1124 {l1 l2 l3 : Option Value} {s0 s1 : Value} {k : Nat} {σ : xM} {Q : Option Value → xM → Prop} : xC 245 1124 [some (.ref k), l1, l2, l3] [s0, s1] σ Q = xC 245 1125 [some (.ref k), l1, l2, l3] [.ref k, s0, s1] σ Q := xC_step (y := 245) (pc := 1124) (p1 := 1124) (ins := .aload_n 0) (len := 1) (pl := 0) (a := 0) (b := 0) (v := .null) rfl rfl rfl rfl
set_option maxRecDepth 100000 in
theorem s245_1125 {l0 l1 l2 : Option Value} {s0 s1 s2 : Value} {x : Int32} {σ : xM} {Q : Option Value → xM → Prop} : xC 245 1125 [l0, l1, l2, some (.int x)] [s0, s1, s2] σ Q = xC 245 1126 [l0, l1, l2, some (.int x)] [.int x, s0, s1, s2] σ Q := xC_step (y := 245) (pc := 1125) (p1 := 1125) (ins := .iload_n 3) (len := 1) (pl := 0) (a := 0) (b := 0) (v := .null) rfl rfl rfl rfl
set_option maxRecDepth 100000 in
theorem s245_1126 {l0 l1 l2 l3 : Option Value} {s0 s1 s2 s3 : Value} {σ : xM} {Q : Option Value → xM → Prop} : xC 245 1126 [l0, l1, l2, l3] [s0, s1, s2, s3] σ Q = xC 245 1127 [l0, l1, l2, l3] [.int (1), s0, s1, s2, s3] σ Q := xC_step (y := 245) (pc := 1126) (p1 := 1126) (ins := .iconst 1) (len := 1) (pl := 0) (a := 0) (b := 0) (v := .int (1)) rfl rfl rfl rfl
set_option maxRecDepth 100000 in
theorem s245_1127 {l0 l1 l2 l3 : Option Value} {s0 s1 s2 : Value} {x y : Int32} {σ : xM} {Q : Option Value → xM → Prop} : xC 245 1127 [l0, l1, l2, l3] [.int y, .int x, s0, s1, s2] σ Q = xC 245 1128 [l0, l1, l2, l3] [.int (x + y), s0, s1, s2] σ Q := xC_step (y := 245) (pc := 1127) (p1 := 1127) (ins := .iadd) (len := 1) (pl := 0) (a := 0) (b := 0) (v := .null) rfl rfl rfl rfl
set_option maxRecDepth 100000 in
theorem s245_1128 {l0 l1 l2 l3 : Option Value} {s0 s1 : Value} {i : Int32} {k : Nat} {σ : xM} {Q : Option Value → xM → Prop} (hk : xe_cls k = 100) : xC 245 1128 [l0, l1, l2, l3] [.int i, .ref k, s0, s1] σ Q = ((0 ≤ i ∧ i.toNatClampNeg < xt_len.getD k 0) ∧ xC 245 1129 [l0, l1, l2, l3] [.int (σ.1 k i.toNatClampNeg), s0, s1] σ Q) := xC_and (y := 245) (pc := 1128) (p1 := 1128) (ins := .iaload) (len := 1) (pl := 0) (a := 0) (b := 0) (v := .null) rfl rfl rfl (xa_ial hk)
set_option maxRecDepth 100000 in
theorem s245_1128_g {l0 l1 l2 l3 : Option Value} {s0 s1 : Value} {i : Int32} {k : Nat} {σ : xM} {Q : Option Value → xM → Prop} (hk : xe_cls k = 110) : xC 245 1128 [l0, l1, l2, l3] [.int i, .ref k, s0, s1] σ Q = ((0 ≤ i ∧ i.toNatClampNeg < xe_len σ k) ∧ xC 245 1129 [l0, l1, l2, l3] [.int (xe_ax σ k i.toNatClampNeg), s0, s1] σ Q) := by
  have e := xC_and (Q := Q) (ls := [l0, l1, l2, l3]) (st := [.int i, .ref k, s0, s1]) (σ := σ) (y := 245) (pc := 1128) (p1 := 1128) (ins := .iaload) (len := 1) (pl := 0) (a := 0) (b := 0) (v := .null) rfl rfl rfl rfl
  simpa [hk] using e
set_option maxRecDepth 100000 in
theorem s245_1129 {l1 l2 l3 : Option Value} {s0 s1 s2 : Value} {k : Nat} {σ : xM} {Q : Option Value → xM → Prop} : xC 245 1129 [some (.ref k), l1, l2, l3] [s0, s1, s2] σ Q = xC 245 1130 [some (.ref k), l1, l2, l3] [.ref k, s0, s1, s2] σ Q := xC_step (y := 245) (pc := 1129) (p1 := 1129) (ins := .aload_n 0) (len := 1) (pl := 0) (a := 0) (b := 0) (v := .null) rfl rfl rfl rfl
set_option maxRecDepth 100000 in
theorem s245_1130 {l0 l1 l2 : Option Value} {s0 s1 s2 s3 : Value} {x : Int32} {σ : xM} {Q : Option Value → xM → Prop} : xC 245 1130 [l0, l1, l2, some (.int x)] [s0, s1, s2, s3] σ Q = xC 245 1131 [l0, l1, l2, some (.int x)] [.int x, s0, s1, s2, s3] σ Q := xC_step (y := 245) (pc := 1130) (p1 := 1130) (ins := .iload_n 3) (len := 1) (pl := 0) (a := 0) (b := 0) (v := .null) rfl rfl rfl rfl
set_option maxRecDepth 100000 in
theorem s245_1131 {l0 l1 l2 l3 : Option Value} {s0 s1 s2 s3 s4 : Value} {σ : xM} {Q : Option Value → xM → Prop} : xC 245 1131 [l0, l1, l2, l3] [s0, s1, s2, s3, s4] σ Q = xC 245 1132 [l0, l1, l2, l3] [.int (2), s0, s1, s2, s3, s4] σ Q := xC_step (y := 245) (pc := 1131) (p1 := 1131) (ins := .iconst 2) (len := 1) (pl := 0) (a := 0) (b := 0) (v := .int (2)) rfl rfl rfl rfl
set_option maxRecDepth 100000 in
theorem s245_1132 {l0 l1 l2 l3 : Option Value} {s0 s1 s2 s3 : Value} {x y : Int32} {σ : xM} {Q : Option Value → xM → Prop} : xC 245 1132 [l0, l1, l2, l3] [.int y, .int x, s0, s1, s2, s3] σ Q = xC 245 1133 [l0, l1, l2, l3] [.int (x + y), s0, s1, s2, s3] σ Q := xC_step (y := 245) (pc := 1132) (p1 := 1132) (ins := .iadd) (len := 1) (pl := 0) (a := 0) (b := 0) (v := .null) rfl rfl rfl rfl
set_option maxRecDepth 100000 in
theorem s245_1133 {l0 l1 l2 l3 : Option Value} {s0 s1 s2 : Value} {i : Int32} {k : Nat} {σ : xM} {Q : Option Value → xM → Prop} (hk : xe_cls k = 100) : xC 245 1133 [l0, l1, l2, l3] [.int i, .ref k, s0, s1, s2] σ Q = ((0 ≤ i ∧ i.toNatClampNeg < xt_len.getD k 0) ∧ xC 245 1134 [l0, l1, l2, l3] [.int (σ.1 k i.toNatClampNeg), s0, s1, s2] σ Q) := xC_and (y := 245) (pc := 1133) (p1 := 1133) (ins := .iaload) (len := 1) (pl := 0) (a := 0) (b := 0) (v := .null) rfl rfl rfl (xa_ial hk)
set_option maxRecDepth 100000 in
theorem s245_1133_g {l0 l1 l2 l3 : Option Value} {s0 s1 s2 : Value} {i : Int32} {k : Nat} {σ : xM} {Q : Option Value → xM → Prop} (hk : xe_cls k = 110) : xC 245 1133 [l0, l1, l2, l3] [.int i, .ref k, s0, s1, s2] σ Q = ((0 ≤ i ∧ i.toNatClampNeg < xe_len σ k) ∧ xC 245 1134 [l0, l1, l2, l3] [.int (xe_ax σ k i.toNatClampNeg), s0, s1, s2] σ Q) := by
  have e := xC_and (Q := Q) (ls := [l0, l1, l2, l3]) (st := [.int i, .ref k, s0, s1, s2]) (σ := σ) (y := 245) (pc := 1133) (p1 := 1133) (ins := .iaload) (len := 1) (pl := 0) (a := 0) (b := 0) (v := .null) rfl rfl rfl rfl
  simpa [hk] using e
set_option maxRecDepth 100000 in
theorem s245_1134 {l0 l1 l2 l3 : Option Value} {s0 : Value} {x1 : Int32} {x2 : Int32} {σ : xM} {Q : Option Value → xM → Prop} : xC 245 1134 [l0, l1, l2, l3] [.int x2, .int x1, .ref 84, s0] σ Q = xI1 224 [.ref 84, .int x1, .int x2] σ (fun r σ' => xC 245 1137 [l0, l1, l2, l3] [.int r, s0] σ' Q) := xC_callI (p1 := 1134) (ins := .invokevirtual 125) (len := 3) (pl := 1420) (a := 224) (b := 3) (v := .null) rfl rfl rfl ⟨Nat.le_of_ble_eq_true rfl, Or.inl (Nat.le_of_ble_eq_true rfl), xa_224, Or.inr rfl, Nat.le_of_ble_eq_true rfl⟩ (Or.inl xr_224)
set_option maxRecDepth 100000 in
theorem s245_1137 {l0 l1 l2 l3 : Option Value} {x y : Int32} {σ : xM} {Q : Option Value → xM → Prop} : xC 245 1137 [l0, l1, l2, l3] [.int y, .int x] σ Q = (if x = y then xC 245 1551 [l0, l1, l2, l3] [] σ Q else xC 245 1140 [l0, l1, l2, l3] [] σ Q) := xC_if (y := 245) (pc := 1137) (p1 := 1137) (ins := .if_icmp .eq 414) (len := 3) (pl := 0) (a := 1551) (b := 0) (v := .null) rfl rfl rfl rfl
set_option maxRecDepth 100000 in
theorem s245_1140 {l0 l1 l2 l3 : Option Value} {σ : xM} {Q : Option Value → xM → Prop} : xC 245 1140 [l0, l1, l2, l3] [] σ Q = xC 245 1141 [l0, l1, l2, l3] [.int (0)] σ Q := xC_step (y := 245) (pc := 1140) (p1 := 1140) (ins := .iconst 0) (len := 1) (pl := 0) (a := 0) (b := 0) (v := .int (0)) rfl rfl rfl rfl
set_option maxRecDepth 100000 in
theorem s245_1141 {l0 l1 l2 l3 : Option Value} {x : Int32} {σ : xM} {Q : Option Value → xM → Prop} : xC 245 1141 [l0, l1, l2, l3] [.int x] σ Q = ((x = 0 ∨ x = 1) ∧ Q (some (.int x)) σ) := xC_retIf (y := 245) (pc := 1141) (p1 := 1141) (ins := .ireturn) (len := 1) (pl := 0) (a := 0) (b := 0) (v := .null) rfl rfl (by rw [xr_245]; rfl)
set_option maxRecDepth 100000 in
theorem s245_1142 {l0 l2 l3 : Option Value} {k : Nat} {σ : xM} {Q : Option Value → xM → Prop} : xC 245 1142 [l0, some (.ref k), l2, l3] [] σ Q = xC 245 1143 [l0, some (.ref k), l2, l3] [.ref k] σ Q := xC_step (y := 245) (pc := 1142) (p1 := 1142) (ins := .aload_n 1) (len := 1) (pl := 0) (a := 0) (b := 0) (v := .null) rfl rfl rfl rfl
set_option maxRecDepth 100000 in
theorem s245_1143 {l1 l2 l3 : Option Value} {s0 : Value} {k : Nat} {σ : xM} {Q : Option Value → xM → Prop} : xC 245 1143 [some (.ref k), l1, l2, l3] [s0] σ Q = xC 245 1144 [some (.ref k), l1, l2, l3] [.ref k, s0] σ Q := xC_step (y := 245) (pc := 1143) (p1 := 1143) (ins := .aload_n 0) (len := 1) (pl := 0) (a := 0) (b := 0) (v := .null) rfl rfl rfl rfl
set_option maxRecDepth 100000 in
theorem s245_1144 {l0 l1 l2 : Option Value} {s0 s1 : Value} {x : Int32} {σ : xM} {Q : Option Value → xM → Prop} : xC 245 1144 [l0, l1, l2, some (.int x)] [s0, s1] σ Q = xC 245 1145 [l0, l1, l2, some (.int x)] [.int x, s0, s1] σ Q := xC_step (y := 245) (pc := 1144) (p1 := 1144) (ins := .iload_n 3) (len := 1) (pl := 0) (a := 0) (b := 0) (v := .null) rfl rfl rfl rfl
set_option maxRecDepth 100000 in
theorem s245_1145 {l0 l1 l2 l3 : Option Value} {s0 s1 s2 : Value} {σ : xM} {Q : Option Value → xM → Prop} : xC 245 1145 [l0, l1, l2, l3] [s0, s1, s2] σ Q = xC 245 1146 [l0, l1, l2, l3] [.int (1), s0, s1, s2] σ Q := xC_step (y := 245) (pc := 1145) (p1 := 1145) (ins := .iconst 1) (len := 1) (pl := 0) (a := 0) (b := 0) (v := .int (1)) rfl rfl rfl rfl
set_option maxRecDepth 100000 in
theorem s245_1146 {l0 l1 l2 l3 : Option Value} {s0 s1 : Value} {x y : Int32} {σ : xM} {Q : Option Value → xM → Prop} : xC 245 1146 [l0, l1, l2, l3] [.int y, .int x, s0, s1] σ Q = xC 245 1147 [l0, l1, l2, l3] [.int (x + y), s0, s1] σ Q := xC_step (y := 245) (pc := 1146) (p1 := 1146) (ins := .iadd) (len := 1) (pl := 0) (a := 0) (b := 0) (v := .null) rfl rfl rfl rfl
set_option maxRecDepth 100000 in
theorem s245_1147 {l0 l1 l2 l3 : Option Value} {s0 : Value} {i : Int32} {k : Nat} {σ : xM} {Q : Option Value → xM → Prop} (hk : xe_cls k = 100) : xC 245 1147 [l0, l1, l2, l3] [.int i, .ref k, s0] σ Q = ((0 ≤ i ∧ i.toNatClampNeg < xt_len.getD k 0) ∧ xC 245 1148 [l0, l1, l2, l3] [.int (σ.1 k i.toNatClampNeg), s0] σ Q) := xC_and (y := 245) (pc := 1147) (p1 := 1147) (ins := .iaload) (len := 1) (pl := 0) (a := 0) (b := 0) (v := .null) rfl rfl rfl (xa_ial hk)
set_option maxRecDepth 100000 in
theorem s245_1147_g {l0 l1 l2 l3 : Option Value} {s0 : Value} {i : Int32} {k : Nat} {σ : xM} {Q : Option Value → xM → Prop} (hk : xe_cls k = 110) : xC 245 1147 [l0, l1, l2, l3] [.int i, .ref k, s0] σ Q = ((0 ≤ i ∧ i.toNatClampNeg < xe_len σ k) ∧ xC 245 1148 [l0, l1, l2, l3] [.int (xe_ax σ k i.toNatClampNeg), s0] σ Q) := by
  have e := xC_and (Q := Q) (ls := [l0, l1, l2, l3]) (st := [.int i, .ref k, s0]) (σ := σ) (y := 245) (pc := 1147) (p1 := 1147) (ins := .iaload) (len := 1) (pl := 0) (a := 0) (b := 0) (v := .null) rfl rfl rfl rfl
  simpa [hk] using e
set_option maxRecDepth 100000 in
theorem s245_1148 {l1 l2 l3 : Option Value} {s0 s1 : Value} {k : Nat} {σ : xM} {Q : Option Value → xM → Prop} : xC 245 1148 [some (.ref k), l1, l2, l3] [s0, s1] σ Q = xC 245 1149 [some (.ref k), l1, l2, l3] [.ref k, s0, s1] σ Q := xC_step (y := 245) (pc := 1148) (p1 := 1148) (ins := .aload_n 0) (len := 1) (pl := 0) (a := 0) (b := 0) (v := .null) rfl rfl rfl rfl
set_option maxRecDepth 100000 in
theorem s245_1149 {l0 l1 l2 : Option Value} {s0 s1 s2 : Value} {x : Int32} {σ : xM} {Q : Option Value → xM → Prop} : xC 245 1149 [l0, l1, l2, some (.int x)] [s0, s1, s2] σ Q = xC 245 1150 [l0, l1, l2, some (.int x)] [.int x, s0, s1, s2] σ Q := xC_step (y := 245) (pc := 1149) (p1 := 1149) (ins := .iload_n 3) (len := 1) (pl := 0) (a := 0) (b := 0) (v := .null) rfl rfl rfl rfl
set_option maxRecDepth 100000 in
theorem s245_1150 {l0 l1 l2 l3 : Option Value} {s0 s1 s2 s3 : Value} {σ : xM} {Q : Option Value → xM → Prop} : xC 245 1150 [l0, l1, l2, l3] [s0, s1, s2, s3] σ Q = xC 245 1151 [l0, l1, l2, l3] [.int (2), s0, s1, s2, s3] σ Q := xC_step (y := 245) (pc := 1150) (p1 := 1150) (ins := .iconst 2) (len := 1) (pl := 0) (a := 0) (b := 0) (v := .int (2)) rfl rfl rfl rfl
set_option maxRecDepth 100000 in
theorem s245_1151 {l0 l1 l2 l3 : Option Value} {s0 s1 s2 : Value} {x y : Int32} {σ : xM} {Q : Option Value → xM → Prop} : xC 245 1151 [l0, l1, l2, l3] [.int y, .int x, s0, s1, s2] σ Q = xC 245 1152 [l0, l1, l2, l3] [.int (x + y), s0, s1, s2] σ Q := xC_step (y := 245) (pc := 1151) (p1 := 1151) (ins := .iadd) (len := 1) (pl := 0) (a := 0) (b := 0) (v := .null) rfl rfl rfl rfl
set_option maxRecDepth 100000 in
theorem s245_1152 {l0 l1 l2 l3 : Option Value} {s0 s1 : Value} {i : Int32} {k : Nat} {σ : xM} {Q : Option Value → xM → Prop} (hk : xe_cls k = 100) : xC 245 1152 [l0, l1, l2, l3] [.int i, .ref k, s0, s1] σ Q = ((0 ≤ i ∧ i.toNatClampNeg < xt_len.getD k 0) ∧ xC 245 1153 [l0, l1, l2, l3] [.int (σ.1 k i.toNatClampNeg), s0, s1] σ Q) := xC_and (y := 245) (pc := 1152) (p1 := 1152) (ins := .iaload) (len := 1) (pl := 0) (a := 0) (b := 0) (v := .null) rfl rfl rfl (xa_ial hk)
set_option maxRecDepth 100000 in
theorem s245_1152_g {l0 l1 l2 l3 : Option Value} {s0 s1 : Value} {i : Int32} {k : Nat} {σ : xM} {Q : Option Value → xM → Prop} (hk : xe_cls k = 110) : xC 245 1152 [l0, l1, l2, l3] [.int i, .ref k, s0, s1] σ Q = ((0 ≤ i ∧ i.toNatClampNeg < xe_len σ k) ∧ xC 245 1153 [l0, l1, l2, l3] [.int (xe_ax σ k i.toNatClampNeg), s0, s1] σ Q) := by
  have e := xC_and (Q := Q) (ls := [l0, l1, l2, l3]) (st := [.int i, .ref k, s0, s1]) (σ := σ) (y := 245) (pc := 1152) (p1 := 1152) (ins := .iaload) (len := 1) (pl := 0) (a := 0) (b := 0) (v := .null) rfl rfl rfl rfl
  simpa [hk] using e
set_option maxRecDepth 100000 in
theorem s245_1153 {l1 l2 l3 : Option Value} {s0 s1 s2 : Value} {k : Nat} {σ : xM} {Q : Option Value → xM → Prop} : xC 245 1153 [some (.ref k), l1, l2, l3] [s0, s1, s2] σ Q = xC 245 1154 [some (.ref k), l1, l2, l3] [.ref k, s0, s1, s2] σ Q := xC_step (y := 245) (pc := 1153) (p1 := 1153) (ins := .aload_n 0) (len := 1) (pl := 0) (a := 0) (b := 0) (v := .null) rfl rfl rfl rfl
set_option maxRecDepth 100000 in
theorem s245_1154 {l0 l1 l2 : Option Value} {s0 s1 s2 s3 : Value} {x : Int32} {σ : xM} {Q : Option Value → xM → Prop} : xC 245 1154 [l0, l1, l2, some (.int x)] [s0, s1, s2, s3] σ Q = xC 245 1155 [l0, l1, l2, some (.int x)] [.int x, s0, s1, s2, s3] σ Q := xC_step (y := 245) (pc := 1154) (p1 := 1154) (ins := .iload_n 3) (len := 1) (pl := 0) (a := 0) (b := 0) (v := .null) rfl rfl rfl rfl
set_option maxRecDepth 100000 in
theorem s245_1155 {l0 l1 l2 l3 : Option Value} {s0 s1 s2 s3 s4 : Value} {σ : xM} {Q : Option Value → xM → Prop} : xC 245 1155 [l0, l1, l2, l3] [s0, s1, s2, s3, s4] σ Q = xC 245 1156 [l0, l1, l2, l3] [.int (3), s0, s1, s2, s3, s4] σ Q := xC_step (y := 245) (pc := 1155) (p1 := 1155) (ins := .iconst 3) (len := 1) (pl := 0) (a := 0) (b := 0) (v := .int (3)) rfl rfl rfl rfl
set_option maxRecDepth 100000 in
theorem s245_1156 {l0 l1 l2 l3 : Option Value} {s0 s1 s2 s3 : Value} {x y : Int32} {σ : xM} {Q : Option Value → xM → Prop} : xC 245 1156 [l0, l1, l2, l3] [.int y, .int x, s0, s1, s2, s3] σ Q = xC 245 1157 [l0, l1, l2, l3] [.int (x + y), s0, s1, s2, s3] σ Q := xC_step (y := 245) (pc := 1156) (p1 := 1156) (ins := .iadd) (len := 1) (pl := 0) (a := 0) (b := 0) (v := .null) rfl rfl rfl rfl
set_option maxRecDepth 100000 in
theorem s245_1157 {l0 l1 l2 l3 : Option Value} {s0 s1 s2 : Value} {i : Int32} {k : Nat} {σ : xM} {Q : Option Value → xM → Prop} (hk : xe_cls k = 100) : xC 245 1157 [l0, l1, l2, l3] [.int i, .ref k, s0, s1, s2] σ Q = ((0 ≤ i ∧ i.toNatClampNeg < xt_len.getD k 0) ∧ xC 245 1158 [l0, l1, l2, l3] [.int (σ.1 k i.toNatClampNeg), s0, s1, s2] σ Q) := xC_and (y := 245) (pc := 1157) (p1 := 1157) (ins := .iaload) (len := 1) (pl := 0) (a := 0) (b := 0) (v := .null) rfl rfl rfl (xa_ial hk)
set_option maxRecDepth 100000 in
theorem s245_1157_g {l0 l1 l2 l3 : Option Value} {s0 s1 s2 : Value} {i : Int32} {k : Nat} {σ : xM} {Q : Option Value → xM → Prop} (hk : xe_cls k = 110) : xC 245 1157 [l0, l1, l2, l3] [.int i, .ref k, s0, s1, s2] σ Q = ((0 ≤ i ∧ i.toNatClampNeg < xe_len σ k) ∧ xC 245 1158 [l0, l1, l2, l3] [.int (xe_ax σ k i.toNatClampNeg), s0, s1, s2] σ Q) := by
  have e := xC_and (Q := Q) (ls := [l0, l1, l2, l3]) (st := [.int i, .ref k, s0, s1, s2]) (σ := σ) (y := 245) (pc := 1157) (p1 := 1157) (ins := .iaload) (len := 1) (pl := 0) (a := 0) (b := 0) (v := .null) rfl rfl rfl rfl
  simpa [hk] using e
set_option maxRecDepth 100000 in
theorem s245_1158 {l0 l1 l2 l3 : Option Value} {x1 : Int32} {x2 : Int32} {x3 : Int32} {σ : xM} {Q : Option Value → xM → Prop} : xC 245 1158 [l0, l1, l2, l3] [.int x3, .int x2, .int x1, .ref 0] σ Q = xI1 135 [.ref 0, .int x1, .int x2, .int x3] σ (fun r σ' => xC 245 1161 [l0, l1, l2, l3] [.int r] σ' Q) := xC_callI (p1 := 1158) (ins := .invokevirtual 126) (len := 3) (pl := 939) (a := 135) (b := 4) (v := .null) rfl rfl rfl ⟨Nat.le_of_ble_eq_true rfl, Or.inl (Nat.le_of_ble_eq_true rfl), xa_135, Or.inr rfl, Nat.le_of_ble_eq_true rfl⟩ (Or.inl xr_135)
set_option maxRecDepth 100000 in
theorem s245_1161 {l0 l1 l3 : Option Value} {s0 : Value} {k : Nat} {σ : xM} {Q : Option Value → xM → Prop} : xC 245 1161 [l0, l1, some (.ref k), l3] [s0] σ Q = xC 245 1162 [l0, l1, some (.ref k), l3] [.ref k, s0] σ Q := xC_step (y := 245) (pc := 1161) (p1 := 1161) (ins := .aload_n 2) (len := 1) (pl := 0) (a := 0) (b := 0) (v := .null) rfl rfl rfl rfl
set_option maxRecDepth 100000 in
theorem s245_1162 {l1 l2 l3 : Option Value} {s0 s1 : Value} {k : Nat} {σ : xM} {Q : Option Value → xM → Prop} : xC 245 1162 [some (.ref k), l1, l2, l3] [s0, s1] σ Q = xC 245 1163 [some (.ref k), l1, l2, l3] [.ref k, s0, s1] σ Q := xC_step (y := 245) (pc := 1162) (p1 := 1162) (ins := .aload_n 0) (len := 1) (pl := 0) (a := 0) (b := 0) (v := .null) rfl rfl rfl rfl
set_option maxRecDepth 100000 in
theorem s245_1163 {l0 l1 l2 : Option Value} {s0 s1 s2 : Value} {x : Int32} {σ : xM} {Q : Option Value → xM → Prop} : xC 245 1163 [l0, l1, l2, some (.int x)] [s0, s1, s2] σ Q = xC 245 1164 [l0, l1, l2, some (.int x)] [.int x, s0, s1, s2] σ Q := xC_step (y := 245) (pc := 1163) (p1 := 1163) (ins := .iload_n 3) (len := 1) (pl := 0) (a := 0) (b := 0) (v := .null) rfl rfl rfl rfl
set_option maxRecDepth 100000 in
theorem s245_1164 {l0 l1 l2 l3 : Option Value} {s0 s1 s2 s3 : Value} {σ : xM} {Q : Option Value → xM → Prop} : xC 245 1164 [l0, l1, l2, l3] [s0, s1, s2, s3] σ Q = xC 245 1165 [l0, l1, l2, l3] [.int (1), s0, s1, s2, s3] σ Q := xC_step (y := 245) (pc := 1164) (p1 := 1164) (ins := .iconst 1) (len := 1) (pl := 0) (a := 0) (b := 0) (v := .int (1)) rfl rfl rfl rfl
set_option maxRecDepth 100000 in
theorem s245_1165 {l0 l1 l2 l3 : Option Value} {s0 s1 s2 : Value} {x y : Int32} {σ : xM} {Q : Option Value → xM → Prop} : xC 245 1165 [l0, l1, l2, l3] [.int y, .int x, s0, s1, s2] σ Q = xC 245 1166 [l0, l1, l2, l3] [.int (x + y), s0, s1, s2] σ Q := xC_step (y := 245) (pc := 1165) (p1 := 1165) (ins := .iadd) (len := 1) (pl := 0) (a := 0) (b := 0) (v := .null) rfl rfl rfl rfl
set_option maxRecDepth 100000 in
theorem s245_1166 {l0 l1 l2 l3 : Option Value} {s0 s1 : Value} {i : Int32} {k : Nat} {σ : xM} {Q : Option Value → xM → Prop} (hk : xe_cls k = 100) : xC 245 1166 [l0, l1, l2, l3] [.int i, .ref k, s0, s1] σ Q = ((0 ≤ i ∧ i.toNatClampNeg < xt_len.getD k 0) ∧ xC 245 1167 [l0, l1, l2, l3] [.int (σ.1 k i.toNatClampNeg), s0, s1] σ Q) := xC_and (y := 245) (pc := 1166) (p1 := 1166) (ins := .iaload) (len := 1) (pl := 0) (a := 0) (b := 0) (v := .null) rfl rfl rfl (xa_ial hk)
set_option maxRecDepth 100000 in
theorem s245_1166_g {l0 l1 l2 l3 : Option Value} {s0 s1 : Value} {i : Int32} {k : Nat} {σ : xM} {Q : Option Value → xM → Prop} (hk : xe_cls k = 110) : xC 245 1166 [l0, l1, l2, l3] [.int i, .ref k, s0, s1] σ Q = ((0 ≤ i ∧ i.toNatClampNeg < xe_len σ k) ∧ xC 245 1167 [l0, l1, l2, l3] [.int (xe_ax σ k i.toNatClampNeg), s0, s1] σ Q) := by
  have e := xC_and (Q := Q) (ls := [l0, l1, l2, l3]) (st := [.int i, .ref k, s0, s1]) (σ := σ) (y := 245) (pc := 1166) (p1 := 1166) (ins := .iaload) (len := 1) (pl := 0) (a := 0) (b := 0) (v := .null) rfl rfl rfl rfl
  simpa [hk] using e
set_option maxRecDepth 100000 in
theorem s245_1167 {l1 l2 l3 : Option Value} {s0 s1 s2 : Value} {k : Nat} {σ : xM} {Q : Option Value → xM → Prop} : xC 245 1167 [some (.ref k), l1, l2, l3] [s0, s1, s2] σ Q = xC 245 1168 [some (.ref k), l1, l2, l3] [.ref k, s0, s1, s2] σ Q := xC_step (y := 245) (pc := 1167) (p1 := 1167) (ins := .aload_n 0) (len := 1) (pl := 0) (a := 0) (b := 0) (v := .null) rfl rfl rfl rfl
set_option maxRecDepth 100000 in
theorem s245_1168 {l0 l1 l2 : Option Value} {s0 s1 s2 s3 : Value} {x : Int32} {σ : xM} {Q : Option Value → xM → Prop} : xC 245 1168 [l0, l1, l2, some (.int x)] [s0, s1, s2, s3] σ Q = xC 245 1169 [l0, l1, l2, some (.int x)] [.int x, s0, s1, s2, s3] σ Q := xC_step (y := 245) (pc := 1168) (p1 := 1168) (ins := .iload_n 3) (len := 1) (pl := 0) (a := 0) (b := 0) (v := .null) rfl rfl rfl rfl
set_option maxRecDepth 100000 in
theorem s245_1169 {l0 l1 l2 l3 : Option Value} {s0 s1 s2 s3 s4 : Value} {σ : xM} {Q : Option Value → xM → Prop} : xC 245 1169 [l0, l1, l2, l3] [s0, s1, s2, s3, s4] σ Q = xC 245 1170 [l0, l1, l2, l3] [.int (2), s0, s1, s2, s3, s4] σ Q := xC_step (y := 245) (pc := 1169) (p1 := 1169) (ins := .iconst 2) (len := 1) (pl := 0) (a := 0) (b := 0) (v := .int (2)) rfl rfl rfl rfl
set_option maxRecDepth 100000 in
theorem s245_1170 {l0 l1 l2 l3 : Option Value} {s0 s1 s2 s3 : Value} {x y : Int32} {σ : xM} {Q : Option Value → xM → Prop} : xC 245 1170 [l0, l1, l2, l3] [.int y, .int x, s0, s1, s2, s3] σ Q = xC 245 1171 [l0, l1, l2, l3] [.int (x + y), s0, s1, s2, s3] σ Q := xC_step (y := 245) (pc := 1170) (p1 := 1170) (ins := .iadd) (len := 1) (pl := 0) (a := 0) (b := 0) (v := .null) rfl rfl rfl rfl
set_option maxRecDepth 100000 in
theorem s245_1171 {l0 l1 l2 l3 : Option Value} {s0 s1 s2 : Value} {i : Int32} {k : Nat} {σ : xM} {Q : Option Value → xM → Prop} (hk : xe_cls k = 100) : xC 245 1171 [l0, l1, l2, l3] [.int i, .ref k, s0, s1, s2] σ Q = ((0 ≤ i ∧ i.toNatClampNeg < xt_len.getD k 0) ∧ xC 245 1172 [l0, l1, l2, l3] [.int (σ.1 k i.toNatClampNeg), s0, s1, s2] σ Q) := xC_and (y := 245) (pc := 1171) (p1 := 1171) (ins := .iaload) (len := 1) (pl := 0) (a := 0) (b := 0) (v := .null) rfl rfl rfl (xa_ial hk)
set_option maxRecDepth 100000 in
theorem s245_1171_g {l0 l1 l2 l3 : Option Value} {s0 s1 s2 : Value} {i : Int32} {k : Nat} {σ : xM} {Q : Option Value → xM → Prop} (hk : xe_cls k = 110) : xC 245 1171 [l0, l1, l2, l3] [.int i, .ref k, s0, s1, s2] σ Q = ((0 ≤ i ∧ i.toNatClampNeg < xe_len σ k) ∧ xC 245 1172 [l0, l1, l2, l3] [.int (xe_ax σ k i.toNatClampNeg), s0, s1, s2] σ Q) := by
  have e := xC_and (Q := Q) (ls := [l0, l1, l2, l3]) (st := [.int i, .ref k, s0, s1, s2]) (σ := σ) (y := 245) (pc := 1171) (p1 := 1171) (ins := .iaload) (len := 1) (pl := 0) (a := 0) (b := 0) (v := .null) rfl rfl rfl rfl
  simpa [hk] using e
set_option maxRecDepth 100000 in
theorem s245_1172 {l1 l2 l3 : Option Value} {s0 s1 s2 s3 : Value} {k : Nat} {σ : xM} {Q : Option Value → xM → Prop} : xC 245 1172 [some (.ref k), l1, l2, l3] [s0, s1, s2, s3] σ Q = xC 245 1173 [some (.ref k), l1, l2, l3] [.ref k, s0, s1, s2, s3] σ Q := xC_step (y := 245) (pc := 1172) (p1 := 1172) (ins := .aload_n 0) (len := 1) (pl := 0) (a := 0) (b := 0) (v := .null) rfl rfl rfl rfl
set_option maxRecDepth 100000 in
theorem s245_1173 {l0 l1 l2 : Option Value} {s0 s1 s2 s3 s4 : Value} {x : Int32} {σ : xM} {Q : Option Value → xM → Prop} : xC 245 1173 [l0, l1, l2, some (.int x)] [s0, s1, s2, s3, s4] σ Q = xC 245 1174 [l0, l1, l2, some (.int x)] [.int x, s0, s1, s2, s3, s4] σ Q := xC_step (y := 245) (pc := 1173) (p1 := 1173) (ins := .iload_n 3) (len := 1) (pl := 0) (a := 0) (b := 0) (v := .null) rfl rfl rfl rfl
set_option maxRecDepth 100000 in
theorem s245_1174 {l0 l1 l2 l3 : Option Value} {s0 s1 s2 s3 s4 s5 : Value} {σ : xM} {Q : Option Value → xM → Prop} : xC 245 1174 [l0, l1, l2, l3] [s0, s1, s2, s3, s4, s5] σ Q = xC 245 1175 [l0, l1, l2, l3] [.int (3), s0, s1, s2, s3, s4, s5] σ Q := xC_step (y := 245) (pc := 1174) (p1 := 1174) (ins := .iconst 3) (len := 1) (pl := 0) (a := 0) (b := 0) (v := .int (3)) rfl rfl rfl rfl
set_option maxRecDepth 100000 in
theorem s245_1175 {l0 l1 l2 l3 : Option Value} {s0 s1 s2 s3 s4 : Value} {x y : Int32} {σ : xM} {Q : Option Value → xM → Prop} : xC 245 1175 [l0, l1, l2, l3] [.int y, .int x, s0, s1, s2, s3, s4] σ Q = xC 245 1176 [l0, l1, l2, l3] [.int (x + y), s0, s1, s2, s3, s4] σ Q := xC_step (y := 245) (pc := 1175) (p1 := 1175) (ins := .iadd) (len := 1) (pl := 0) (a := 0) (b := 0) (v := .null) rfl rfl rfl rfl
set_option maxRecDepth 100000 in
theorem s245_1176 {l0 l1 l2 l3 : Option Value} {s0 s1 s2 s3 : Value} {i : Int32} {k : Nat} {σ : xM} {Q : Option Value → xM → Prop} (hk : xe_cls k = 100) : xC 245 1176 [l0, l1, l2, l3] [.int i, .ref k, s0, s1, s2, s3] σ Q = ((0 ≤ i ∧ i.toNatClampNeg < xt_len.getD k 0) ∧ xC 245 1177 [l0, l1, l2, l3] [.int (σ.1 k i.toNatClampNeg), s0, s1, s2, s3] σ Q) := xC_and (y := 245) (pc := 1176) (p1 := 1176) (ins := .iaload) (len := 1) (pl := 0) (a := 0) (b := 0) (v := .null) rfl rfl rfl (xa_ial hk)
set_option maxRecDepth 100000 in
theorem s245_1176_g {l0 l1 l2 l3 : Option Value} {s0 s1 s2 s3 : Value} {i : Int32} {k : Nat} {σ : xM} {Q : Option Value → xM → Prop} (hk : xe_cls k = 110) : xC 245 1176 [l0, l1, l2, l3] [.int i, .ref k, s0, s1, s2, s3] σ Q = ((0 ≤ i ∧ i.toNatClampNeg < xe_len σ k) ∧ xC 245 1177 [l0, l1, l2, l3] [.int (xe_ax σ k i.toNatClampNeg), s0, s1, s2, s3] σ Q) := by
  have e := xC_and (Q := Q) (ls := [l0, l1, l2, l3]) (st := [.int i, .ref k, s0, s1, s2, s3]) (σ := σ) (y := 245) (pc := 1176) (p1 := 1176) (ins := .iaload) (len := 1) (pl := 0) (a := 0) (b := 0) (v := .null) rfl rfl rfl rfl
  simpa [hk] using e
set_option maxRecDepth 100000 in
theorem s245_1177 {l0 l1 l2 l3 : Option Value} {s0 : Value} {x1 : Int32} {x2 : Int32} {x3 : Int32} {σ : xM} {Q : Option Value → xM → Prop} : xC 245 1177 [l0, l1, l2, l3] [.int x3, .int x2, .int x1, .ref 84, s0] σ Q = xI1 229 [.ref 84, .int x1, .int x2, .int x3] σ (fun r σ' => xC 245 1180 [l0, l1, l2, l3] [.int r, s0] σ' Q) := xC_callI (p1 := 1177) (ins := .invokevirtual 129) (len := 3) (pl := 1424) (a := 229) (b := 4) (v := .null) rfl rfl rfl ⟨Nat.le_of_ble_eq_true rfl, Or.inl (Nat.le_of_ble_eq_true rfl), xa_229, Or.inr rfl, Nat.le_of_ble_eq_true rfl⟩ (Or.inl xr_229)
set_option maxRecDepth 100000 in
theorem s245_1180 {l0 l1 l2 l3 : Option Value} {x y : Int32} {σ : xM} {Q : Option Value → xM → Prop} : xC 245 1180 [l0, l1, l2, l3] [.int y, .int x] σ Q = (if x = y then xC 245 1551 [l0, l1, l2, l3] [] σ Q else xC 245 1183 [l0, l1, l2, l3] [] σ Q) := xC_if (y := 245) (pc := 1180) (p1 := 1180) (ins := .if_icmp .eq 371) (len := 3) (pl := 0) (a := 1551) (b := 0) (v := .null) rfl rfl rfl rfl
set_option maxRecDepth 100000 in
theorem s245_1183 {l0 l1 l2 l3 : Option Value} {σ : xM} {Q : Option Value → xM → Prop} : xC 245 1183 [l0, l1, l2, l3] [] σ Q = xC 245 1184 [l0, l1, l2, l3] [.int (0)] σ Q := xC_step (y := 245) (pc := 1183) (p1 := 1183) (ins := .iconst 0) (len := 1) (pl := 0) (a := 0) (b := 0) (v := .int (0)) rfl rfl rfl rfl
set_option maxRecDepth 100000 in
theorem s245_1184 {l0 l1 l2 l3 : Option Value} {x : Int32} {σ : xM} {Q : Option Value → xM → Prop} : xC 245 1184 [l0, l1, l2, l3] [.int x] σ Q = ((x = 0 ∨ x = 1) ∧ Q (some (.int x)) σ) := xC_retIf (y := 245) (pc := 1184) (p1 := 1184) (ins := .ireturn) (len := 1) (pl := 0) (a := 0) (b := 0) (v := .null) rfl rfl (by rw [xr_245]; rfl)
set_option maxRecDepth 100000 in
theorem s245_1185 {l0 l2 l3 : Option Value} {k : Nat} {σ : xM} {Q : Option Value → xM → Prop} : xC 245 1185 [l0, some (.ref k), l2, l3] [] σ Q = xC 245 1186 [l0, some (.ref k), l2, l3] [.ref k] σ Q := xC_step (y := 245) (pc := 1185) (p1 := 1185) (ins := .aload_n 1) (len := 1) (pl := 0) (a := 0) (b := 0) (v := .null) rfl rfl rfl rfl
set_option maxRecDepth 100000 in
theorem s245_1186 {l1 l2 l3 : Option Value} {s0 : Value} {k : Nat} {σ : xM} {Q : Option Value → xM → Prop} : xC 245 1186 [some (.ref k), l1, l2, l3] [s0] σ Q = xC 245 1187 [some (.ref k), l1, l2, l3] [.ref k, s0] σ Q := xC_step (y := 245) (pc := 1186) (p1 := 1186) (ins := .aload_n 0) (len := 1) (pl := 0) (a := 0) (b := 0) (v := .null) rfl rfl rfl rfl
set_option maxRecDepth 100000 in
theorem s245_1187 {l0 l1 l2 : Option Value} {s0 s1 : Value} {x : Int32} {σ : xM} {Q : Option Value → xM → Prop} : xC 245 1187 [l0, l1, l2, some (.int x)] [s0, s1] σ Q = xC 245 1188 [l0, l1, l2, some (.int x)] [.int x, s0, s1] σ Q := xC_step (y := 245) (pc := 1187) (p1 := 1187) (ins := .iload_n 3) (len := 1) (pl := 0) (a := 0) (b := 0) (v := .null) rfl rfl rfl rfl
set_option maxRecDepth 100000 in
theorem s245_1188 {l0 l1 l2 l3 : Option Value} {s0 s1 s2 : Value} {σ : xM} {Q : Option Value → xM → Prop} : xC 245 1188 [l0, l1, l2, l3] [s0, s1, s2] σ Q = xC 245 1189 [l0, l1, l2, l3] [.int (1), s0, s1, s2] σ Q := xC_step (y := 245) (pc := 1188) (p1 := 1188) (ins := .iconst 1) (len := 1) (pl := 0) (a := 0) (b := 0) (v := .int (1)) rfl rfl rfl rfl
set_option maxRecDepth 100000 in
theorem s245_1189 {l0 l1 l2 l3 : Option Value} {s0 s1 : Value} {x y : Int32} {σ : xM} {Q : Option Value → xM → Prop} : xC 245 1189 [l0, l1, l2, l3] [.int y, .int x, s0, s1] σ Q = xC 245 1190 [l0, l1, l2, l3] [.int (x + y), s0, s1] σ Q := xC_step (y := 245) (pc := 1189) (p1 := 1189) (ins := .iadd) (len := 1) (pl := 0) (a := 0) (b := 0) (v := .null) rfl rfl rfl rfl
set_option maxRecDepth 100000 in
theorem s245_1190 {l0 l1 l2 l3 : Option Value} {s0 : Value} {i : Int32} {k : Nat} {σ : xM} {Q : Option Value → xM → Prop} (hk : xe_cls k = 100) : xC 245 1190 [l0, l1, l2, l3] [.int i, .ref k, s0] σ Q = ((0 ≤ i ∧ i.toNatClampNeg < xt_len.getD k 0) ∧ xC 245 1191 [l0, l1, l2, l3] [.int (σ.1 k i.toNatClampNeg), s0] σ Q) := xC_and (y := 245) (pc := 1190) (p1 := 1190) (ins := .iaload) (len := 1) (pl := 0) (a := 0) (b := 0) (v := .null) rfl rfl rfl (xa_ial hk)
set_option maxRecDepth 100000 in
theorem s245_1190_g {l0 l1 l2 l3 : Option Value} {s0 : Value} {i : Int32} {k : Nat} {σ : xM} {Q : Option Value → xM → Prop} (hk : xe_cls k = 110) : xC 245 1190 [l0, l1, l2, l3] [.int i, .ref k, s0] σ Q = ((0 ≤ i ∧ i.toNatClampNeg < xe_len σ k) ∧ xC 245 1191 [l0, l1, l2, l3] [.int (xe_ax σ k i.toNatClampNeg), s0] σ Q) := by
  have e := xC_and (Q := Q) (ls := [l0, l1, l2, l3]) (st := [.int i, .ref k, s0]) (σ := σ) (y := 245) (pc := 1190) (p1 := 1190) (ins := .iaload) (len := 1) (pl := 0) (a := 0) (b := 0) (v := .null) rfl rfl rfl rfl
  simpa [hk] using e
set_option maxRecDepth 100000 in
theorem s245_1191 {l1 l2 l3 : Option Value} {s0 s1 : Value} {k : Nat} {σ : xM} {Q : Option Value → xM → Prop} : xC 245 1191 [some (.ref k), l1, l2, l3] [s0, s1] σ Q = xC 245 1192 [some (.ref k), l1, l2, l3] [.ref k, s0, s1] σ Q := xC_step (y := 245) (pc := 1191) (p1 := 1191) (ins := .aload_n 0) (len := 1) (pl := 0) (a := 0) (b := 0) (v := .null) rfl rfl rfl rfl
set_option maxRecDepth 100000 in
theorem s245_1192 {l0 l1 l2 : Option Value} {s0 s1 s2 : Value} {x : Int32} {σ : xM} {Q : Option Value → xM → Prop} : xC 245 1192 [l0, l1, l2, some (.int x)] [s0, s1, s2] σ Q = xC 245 1193 [l0, l1, l2, some (.int x)] [.int x, s0, s1, s2] σ Q := xC_step (y := 245) (pc := 1192) (p1 := 1192) (ins := .iload_n 3) (len := 1) (pl := 0) (a := 0) (b := 0) (v := .null) rfl rfl rfl rfl
set_option maxRecDepth 100000 in
theorem s245_1193 {l0 l1 l2 l3 : Option Value} {s0 s1 s2 s3 : Value} {σ : xM} {Q : Option Value → xM → Prop} : xC 245 1193 [l0, l1, l2, l3] [s0, s1, s2, s3] σ Q = xC 245 1194 [l0, l1, l2, l3] [.int (2), s0, s1, s2, s3] σ Q := xC_step (y := 245) (pc := 1193) (p1 := 1193) (ins := .iconst 2) (len := 1) (pl := 0) (a := 0) (b := 0) (v := .int (2)) rfl rfl rfl rfl
set_option maxRecDepth 100000 in
theorem s245_1194 {l0 l1 l2 l3 : Option Value} {s0 s1 s2 : Value} {x y : Int32} {σ : xM} {Q : Option Value → xM → Prop} : xC 245 1194 [l0, l1, l2, l3] [.int y, .int x, s0, s1, s2] σ Q = xC 245 1195 [l0, l1, l2, l3] [.int (x + y), s0, s1, s2] σ Q := xC_step (y := 245) (pc := 1194) (p1 := 1194) (ins := .iadd) (len := 1) (pl := 0) (a := 0) (b := 0) (v := .null) rfl rfl rfl rfl
set_option maxRecDepth 100000 in
theorem s245_1195 {l0 l1 l2 l3 : Option Value} {s0 s1 : Value} {i : Int32} {k : Nat} {σ : xM} {Q : Option Value → xM → Prop} (hk : xe_cls k = 100) : xC 245 1195 [l0, l1, l2, l3] [.int i, .ref k, s0, s1] σ Q = ((0 ≤ i ∧ i.toNatClampNeg < xt_len.getD k 0) ∧ xC 245 1196 [l0, l1, l2, l3] [.int (σ.1 k i.toNatClampNeg), s0, s1] σ Q) := xC_and (y := 245) (pc := 1195) (p1 := 1195) (ins := .iaload) (len := 1) (pl := 0) (a := 0) (b := 0) (v := .null) rfl rfl rfl (xa_ial hk)
set_option maxRecDepth 100000 in
theorem s245_1195_g {l0 l1 l2 l3 : Option Value} {s0 s1 : Value} {i : Int32} {k : Nat} {σ : xM} {Q : Option Value → xM → Prop} (hk : xe_cls k = 110) : xC 245 1195 [l0, l1, l2, l3] [.int i, .ref k, s0, s1] σ Q = ((0 ≤ i ∧ i.toNatClampNeg < xe_len σ k) ∧ xC 245 1196 [l0, l1, l2, l3] [.int (xe_ax σ k i.toNatClampNeg), s0, s1] σ Q) := by
  have e := xC_and (Q := Q) (ls := [l0, l1, l2, l3]) (st := [.int i, .ref k, s0, s1]) (σ := σ) (y := 245) (pc := 1195) (p1 := 1195) (ins := .iaload) (len := 1) (pl := 0) (a := 0) (b := 0) (v := .null) rfl rfl rfl rfl
  simpa [hk] using e
set_option maxRecDepth 100000 in
theorem s245_1196 {l1 l2 l3 : Option Value} {s0 s1 s2 : Value} {k : Nat} {σ : xM} {Q : Option Value → xM → Prop} : xC 245 1196 [some (.ref k), l1, l2, l3] [s0, s1, s2] σ Q = xC 245 1197 [some (.ref k), l1, l2, l3] [.ref k, s0, s1, s2] σ Q := xC_step (y := 245) (pc := 1196) (p1 := 1196) (ins := .aload_n 0) (len := 1) (pl := 0) (a := 0) (b := 0) (v := .null) rfl rfl rfl rfl
set_option maxRecDepth 100000 in
theorem s245_1197 {l0 l1 l2 : Option Value} {s0 s1 s2 s3 : Value} {x : Int32} {σ : xM} {Q : Option Value → xM → Prop} : xC 245 1197 [l0, l1, l2, some (.int x)] [s0, s1, s2, s3] σ Q = xC 245 1198 [l0, l1, l2, some (.int x)] [.int x, s0, s1, s2, s3] σ Q := xC_step (y := 245) (pc := 1197) (p1 := 1197) (ins := .iload_n 3) (len := 1) (pl := 0) (a := 0) (b := 0) (v := .null) rfl rfl rfl rfl
set_option maxRecDepth 100000 in
theorem s245_1198 {l0 l1 l2 l3 : Option Value} {s0 s1 s2 s3 s4 : Value} {σ : xM} {Q : Option Value → xM → Prop} : xC 245 1198 [l0, l1, l2, l3] [s0, s1, s2, s3, s4] σ Q = xC 245 1199 [l0, l1, l2, l3] [.int (3), s0, s1, s2, s3, s4] σ Q := xC_step (y := 245) (pc := 1198) (p1 := 1198) (ins := .iconst 3) (len := 1) (pl := 0) (a := 0) (b := 0) (v := .int (3)) rfl rfl rfl rfl
set_option maxRecDepth 100000 in
theorem s245_1199 {l0 l1 l2 l3 : Option Value} {s0 s1 s2 s3 : Value} {x y : Int32} {σ : xM} {Q : Option Value → xM → Prop} : xC 245 1199 [l0, l1, l2, l3] [.int y, .int x, s0, s1, s2, s3] σ Q = xC 245 1200 [l0, l1, l2, l3] [.int (x + y), s0, s1, s2, s3] σ Q := xC_step (y := 245) (pc := 1199) (p1 := 1199) (ins := .iadd) (len := 1) (pl := 0) (a := 0) (b := 0) (v := .null) rfl rfl rfl rfl
set_option maxRecDepth 100000 in
theorem s245_1200 {l0 l1 l2 l3 : Option Value} {s0 s1 s2 : Value} {i : Int32} {k : Nat} {σ : xM} {Q : Option Value → xM → Prop} (hk : xe_cls k = 100) : xC 245 1200 [l0, l1, l2, l3] [.int i, .ref k, s0, s1, s2] σ Q = ((0 ≤ i ∧ i.toNatClampNeg < xt_len.getD k 0) ∧ xC 245 1201 [l0, l1, l2, l3] [.int (σ.1 k i.toNatClampNeg), s0, s1, s2] σ Q) := xC_and (y := 245) (pc := 1200) (p1 := 1200) (ins := .iaload) (len := 1) (pl := 0) (a := 0) (b := 0) (v := .null) rfl rfl rfl (xa_ial hk)
set_option maxRecDepth 100000 in
theorem s245_1200_g {l0 l1 l2 l3 : Option Value} {s0 s1 s2 : Value} {i : Int32} {k : Nat} {σ : xM} {Q : Option Value → xM → Prop} (hk : xe_cls k = 110) : xC 245 1200 [l0, l1, l2, l3] [.int i, .ref k, s0, s1, s2] σ Q = ((0 ≤ i ∧ i.toNatClampNeg < xe_len σ k) ∧ xC 245 1201 [l0, l1, l2, l3] [.int (xe_ax σ k i.toNatClampNeg), s0, s1, s2] σ Q) := by
  have e := xC_and (Q := Q) (ls := [l0, l1, l2, l3]) (st := [.int i, .ref k, s0, s1, s2]) (σ := σ) (y := 245) (pc := 1200) (p1 := 1200) (ins := .iaload) (len := 1) (pl := 0) (a := 0) (b := 0) (v := .null) rfl rfl rfl rfl
  simpa [hk] using e
set_option maxRecDepth 100000 in
theorem s245_1201 {l0 l1 l2 l3 : Option Value} {x1 : Int32} {x2 : Int32} {x3 : Int32} {σ : xM} {Q : Option Value → xM → Prop} : xC 245 1201 [l0, l1, l2, l3] [.int x3, .int x2, .int x1, .ref 0] σ Q = xI1 136 [.ref 0, .int x1, .int x2, .int x3] σ (fun r σ' => xC 245 1204 [l0, l1, l2, l3] [.int r] σ' Q) := xC_callI (p1 := 1201) (ins := .invokevirtual 130) (len := 3) (pl := 957) (a := 136) (b := 4) (v := .null) rfl rfl rfl ⟨Nat.le_of_ble_eq_true rfl, Or.inl (Nat.le_of_ble_eq_true rfl), xa_136, Or.inr rfl, Nat.le_of_ble_eq_true rfl⟩ (Or.inr <| Or.inl xr_136)
set_option maxRecDepth 100000 in
theorem s245_1204 {l0 l1 l3 : Option Value} {s0 : Value} {k : Nat} {σ : xM} {Q : Option Value → xM → Prop} : xC 245 1204 [l0, l1, some (.ref k), l3] [s0] σ Q = xC 245 1205 [l0, l1, some (.ref k), l3] [.ref k, s0] σ Q := xC_step (y := 245) (pc := 1204) (p1 := 1204) (ins := .aload_n 2) (len := 1) (pl := 0) (a := 0) (b := 0) (v := .null) rfl rfl rfl rfl
set_option maxRecDepth 100000 in
theorem s245_1205 {l1 l2 l3 : Option Value} {s0 s1 : Value} {k : Nat} {σ : xM} {Q : Option Value → xM → Prop} : xC 245 1205 [some (.ref k), l1, l2, l3] [s0, s1] σ Q = xC 245 1206 [some (.ref k), l1, l2, l3] [.ref k, s0, s1] σ Q := xC_step (y := 245) (pc := 1205) (p1 := 1205) (ins := .aload_n 0) (len := 1) (pl := 0) (a := 0) (b := 0) (v := .null) rfl rfl rfl rfl
set_option maxRecDepth 100000 in
theorem s245_1206 {l0 l1 l2 : Option Value} {s0 s1 s2 : Value} {x : Int32} {σ : xM} {Q : Option Value → xM → Prop} : xC 245 1206 [l0, l1, l2, some (.int x)] [s0, s1, s2] σ Q = xC 245 1207 [l0, l1, l2, some (.int x)] [.int x, s0, s1, s2] σ Q := xC_step (y := 245) (pc := 1206) (p1 := 1206) (ins := .iload_n 3) (len := 1) (pl := 0) (a := 0) (b := 0) (v := .null) rfl rfl rfl rfl
set_option maxRecDepth 100000 in
theorem s245_1207 {l0 l1 l2 l3 : Option Value} {s0 s1 s2 s3 : Value} {σ : xM} {Q : Option Value → xM → Prop} : xC 245 1207 [l0, l1, l2, l3] [s0, s1, s2, s3] σ Q = xC 245 1208 [l0, l1, l2, l3] [.int (1), s0, s1, s2, s3] σ Q := xC_step (y := 245) (pc := 1207) (p1 := 1207) (ins := .iconst 1) (len := 1) (pl := 0) (a := 0) (b := 0) (v := .int (1)) rfl rfl rfl rfl
set_option maxRecDepth 100000 in
theorem s245_1208 {l0 l1 l2 l3 : Option Value} {s0 s1 s2 : Value} {x y : Int32} {σ : xM} {Q : Option Value → xM → Prop} : xC 245 1208 [l0, l1, l2, l3] [.int y, .int x, s0, s1, s2] σ Q = xC 245 1209 [l0, l1, l2, l3] [.int (x + y), s0, s1, s2] σ Q := xC_step (y := 245) (pc := 1208) (p1 := 1208) (ins := .iadd) (len := 1) (pl := 0) (a := 0) (b := 0) (v := .null) rfl rfl rfl rfl
set_option maxRecDepth 100000 in
theorem s245_1209 {l0 l1 l2 l3 : Option Value} {s0 s1 : Value} {i : Int32} {k : Nat} {σ : xM} {Q : Option Value → xM → Prop} (hk : xe_cls k = 100) : xC 245 1209 [l0, l1, l2, l3] [.int i, .ref k, s0, s1] σ Q = ((0 ≤ i ∧ i.toNatClampNeg < xt_len.getD k 0) ∧ xC 245 1210 [l0, l1, l2, l3] [.int (σ.1 k i.toNatClampNeg), s0, s1] σ Q) := xC_and (y := 245) (pc := 1209) (p1 := 1209) (ins := .iaload) (len := 1) (pl := 0) (a := 0) (b := 0) (v := .null) rfl rfl rfl (xa_ial hk)
set_option maxRecDepth 100000 in
theorem s245_1209_g {l0 l1 l2 l3 : Option Value} {s0 s1 : Value} {i : Int32} {k : Nat} {σ : xM} {Q : Option Value → xM → Prop} (hk : xe_cls k = 110) : xC 245 1209 [l0, l1, l2, l3] [.int i, .ref k, s0, s1] σ Q = ((0 ≤ i ∧ i.toNatClampNeg < xe_len σ k) ∧ xC 245 1210 [l0, l1, l2, l3] [.int (xe_ax σ k i.toNatClampNeg), s0, s1] σ Q) := by
  have e := xC_and (Q := Q) (ls := [l0, l1, l2, l3]) (st := [.int i, .ref k, s0, s1]) (σ := σ) (y := 245) (pc := 1209) (p1 := 1209) (ins := .iaload) (len := 1) (pl := 0) (a := 0) (b := 0) (v := .null) rfl rfl rfl rfl
  simpa [hk] using e
set_option maxRecDepth 100000 in
theorem s245_1210 {l1 l2 l3 : Option Value} {s0 s1 s2 : Value} {k : Nat} {σ : xM} {Q : Option Value → xM → Prop} : xC 245 1210 [some (.ref k), l1, l2, l3] [s0, s1, s2] σ Q = xC 245 1211 [some (.ref k), l1, l2, l3] [.ref k, s0, s1, s2] σ Q := xC_step (y := 245) (pc := 1210) (p1 := 1210) (ins := .aload_n 0) (len := 1) (pl := 0) (a := 0) (b := 0) (v := .null) rfl rfl rfl rfl
set_option maxRecDepth 100000 in
theorem s245_1211 {l0 l1 l2 : Option Value} {s0 s1 s2 s3 : Value} {x : Int32} {σ : xM} {Q : Option Value → xM → Prop} : xC 245 1211 [l0, l1, l2, some (.int x)] [s0, s1, s2, s3] σ Q = xC 245 1212 [l0, l1, l2, some (.int x)] [.int x, s0, s1, s2, s3] σ Q := xC_step (y := 245) (pc := 1211) (p1 := 1211) (ins := .iload_n 3) (len := 1) (pl := 0) (a := 0) (b := 0) (v := .null) rfl rfl rfl rfl
set_option maxRecDepth 100000 in
theorem s245_1212 {l0 l1 l2 l3 : Option Value} {s0 s1 s2 s3 s4 : Value} {σ : xM} {Q : Option Value → xM → Prop} : xC 245 1212 [l0, l1, l2, l3] [s0, s1, s2, s3, s4] σ Q = xC 245 1213 [l0, l1, l2, l3] [.int (2), s0, s1, s2, s3, s4] σ Q := xC_step (y := 245) (pc := 1212) (p1 := 1212) (ins := .iconst 2) (len := 1) (pl := 0) (a := 0) (b := 0) (v := .int (2)) rfl rfl rfl rfl
set_option maxRecDepth 100000 in
theorem s245_1213 {l0 l1 l2 l3 : Option Value} {s0 s1 s2 s3 : Value} {x y : Int32} {σ : xM} {Q : Option Value → xM → Prop} : xC 245 1213 [l0, l1, l2, l3] [.int y, .int x, s0, s1, s2, s3] σ Q = xC 245 1214 [l0, l1, l2, l3] [.int (x + y), s0, s1, s2, s3] σ Q := xC_step (y := 245) (pc := 1213) (p1 := 1213) (ins := .iadd) (len := 1) (pl := 0) (a := 0) (b := 0) (v := .null) rfl rfl rfl rfl
set_option maxRecDepth 100000 in
theorem s245_1214 {l0 l1 l2 l3 : Option Value} {s0 s1 s2 : Value} {i : Int32} {k : Nat} {σ : xM} {Q : Option Value → xM → Prop} (hk : xe_cls k = 100) : xC 245 1214 [l0, l1, l2, l3] [.int i, .ref k, s0, s1, s2] σ Q = ((0 ≤ i ∧ i.toNatClampNeg < xt_len.getD k 0) ∧ xC 245 1215 [l0, l1, l2, l3] [.int (σ.1 k i.toNatClampNeg), s0, s1, s2] σ Q) := xC_and (y := 245) (pc := 1214) (p1 := 1214) (ins := .iaload) (len := 1) (pl := 0) (a := 0) (b := 0) (v := .null) rfl rfl rfl (xa_ial hk)
set_option maxRecDepth 100000 in
theorem s245_1214_g {l0 l1 l2 l3 : Option Value} {s0 s1 s2 : Value} {i : Int32} {k : Nat} {σ : xM} {Q : Option Value → xM → Prop} (hk : xe_cls k = 110) : xC 245 1214 [l0, l1, l2, l3] [.int i, .ref k, s0, s1, s2] σ Q = ((0 ≤ i ∧ i.toNatClampNeg < xe_len σ k) ∧ xC 245 1215 [l0, l1, l2, l3] [.int (xe_ax σ k i.toNatClampNeg), s0, s1, s2] σ Q) := by
  have e := xC_and (Q := Q) (ls := [l0, l1, l2, l3]) (st := [.int i, .ref k, s0, s1, s2]) (σ := σ) (y := 245) (pc := 1214) (p1 := 1214) (ins := .iaload) (len := 1) (pl := 0) (a := 0) (b := 0) (v := .null) rfl rfl rfl rfl
  simpa [hk] using e
set_option maxRecDepth 100000 in
theorem s245_1215 {l1 l2 l3 : Option Value} {s0 s1 s2 s3 : Value} {k : Nat} {σ : xM} {Q : Option Value → xM → Prop} : xC 245 1215 [some (.ref k), l1, l2, l3] [s0, s1, s2, s3] σ Q = xC 245 1216 [some (.ref k), l1, l2, l3] [.ref k, s0, s1, s2, s3] σ Q := xC_step (y := 245) (pc := 1215) (p1 := 1215) (ins := .aload_n 0) (len := 1) (pl := 0) (a := 0) (b := 0) (v := .null) rfl rfl rfl rfl
set_option maxRecDepth 100000 in
theorem s245_1216 {l0 l1 l2 : Option Value} {s0 s1 s2 s3 s4 : Value} {x : Int32} {σ : xM} {Q : Option Value → xM → Prop} : xC 245 1216 [l0, l1, l2, some (.int x)] [s0, s1, s2, s3, s4] σ Q = xC 245 1217 [l0, l1, l2, some (.int x)] [.int x, s0, s1, s2, s3, s4] σ Q := xC_step (y := 245) (pc := 1216) (p1 := 1216) (ins := .iload_n 3) (len := 1) (pl := 0) (a := 0) (b := 0) (v := .null) rfl rfl rfl rfl
set_option maxRecDepth 100000 in
theorem s245_1217 {l0 l1 l2 l3 : Option Value} {s0 s1 s2 s3 s4 s5 : Value} {σ : xM} {Q : Option Value → xM → Prop} : xC 245 1217 [l0, l1, l2, l3] [s0, s1, s2, s3, s4, s5] σ Q = xC 245 1218 [l0, l1, l2, l3] [.int (3), s0, s1, s2, s3, s4, s5] σ Q := xC_step (y := 245) (pc := 1217) (p1 := 1217) (ins := .iconst 3) (len := 1) (pl := 0) (a := 0) (b := 0) (v := .int (3)) rfl rfl rfl rfl
set_option maxRecDepth 100000 in
theorem s245_1218 {l0 l1 l2 l3 : Option Value} {s0 s1 s2 s3 s4 : Value} {x y : Int32} {σ : xM} {Q : Option Value → xM → Prop} : xC 245 1218 [l0, l1, l2, l3] [.int y, .int x, s0, s1, s2, s3, s4] σ Q = xC 245 1219 [l0, l1, l2, l3] [.int (x + y), s0, s1, s2, s3, s4] σ Q := xC_step (y := 245) (pc := 1218) (p1 := 1218) (ins := .iadd) (len := 1) (pl := 0) (a := 0) (b := 0) (v := .null) rfl rfl rfl rfl
set_option maxRecDepth 100000 in
theorem s245_1219 {l0 l1 l2 l3 : Option Value} {s0 s1 s2 s3 : Value} {i : Int32} {k : Nat} {σ : xM} {Q : Option Value → xM → Prop} (hk : xe_cls k = 100) : xC 245 1219 [l0, l1, l2, l3] [.int i, .ref k, s0, s1, s2, s3] σ Q = ((0 ≤ i ∧ i.toNatClampNeg < xt_len.getD k 0) ∧ xC 245 1220 [l0, l1, l2, l3] [.int (σ.1 k i.toNatClampNeg), s0, s1, s2, s3] σ Q) := xC_and (y := 245) (pc := 1219) (p1 := 1219) (ins := .iaload) (len := 1) (pl := 0) (a := 0) (b := 0) (v := .null) rfl rfl rfl (xa_ial hk)
set_option maxRecDepth 100000 in
theorem s245_1219_g {l0 l1 l2 l3 : Option Value} {s0 s1 s2 s3 : Value} {i : Int32} {k : Nat} {σ : xM} {Q : Option Value → xM → Prop} (hk : xe_cls k = 110) : xC 245 1219 [l0, l1, l2, l3] [.int i, .ref k, s0, s1, s2, s3] σ Q = ((0 ≤ i ∧ i.toNatClampNeg < xe_len σ k) ∧ xC 245 1220 [l0, l1, l2, l3] [.int (xe_ax σ k i.toNatClampNeg), s0, s1, s2, s3] σ Q) := by
  have e := xC_and (Q := Q) (ls := [l0, l1, l2, l3]) (st := [.int i, .ref k, s0, s1, s2, s3]) (σ := σ) (y := 245) (pc := 1219) (p1 := 1219) (ins := .iaload) (len := 1) (pl := 0) (a := 0) (b := 0) (v := .null) rfl rfl rfl rfl
  simpa [hk] using e
set_option maxRecDepth 100000 in
theorem s245_1220 {l0 l1 l2 l3 : Option Value} {s0 : Value} {x1 : Int32} {x2 : Int32} {x3 : Int32} {σ : xM} {Q : Option Value → xM → Prop} : xC 245 1220 [l0, l1, l2, l3] [.int x3, .int x2, .int x1, .ref 84, s0] σ Q = xI1 230 [.ref 84, .int x1, .int x2, .int x3] σ (fun r σ' => xC 245 1223 [l0, l1, l2, l3] [.int r, s0] σ' Q) := xC_callI (p1 := 1220) (ins := .invokevirtual 133) (len := 3) (pl := 1441) (a := 230) (b := 4) (v := .null) rfl rfl rfl ⟨Nat.le_of_ble_eq_true rfl, Or.inl (Nat.le_of_ble_eq_true rfl), xa_230, Or.inr rfl, Nat.le_of_ble_eq_true rfl⟩ (Or.inr <| Or.inl xr_230)
set_option maxRecDepth 100000 in
theorem s245_1223 {l0 l1 l2 l3 : Option Value} {x y : Int32} {σ : xM} {Q : Option Value → xM → Prop} : xC 245 1223 [l0, l1, l2, l3] [.int y, .int x] σ Q = (if x = y then xC 245 1551 [l0, l1, l2, l3] [] σ Q else xC 245 1226 [l0, l1, l2, l3] [] σ Q) := xC_if (y := 245) (pc := 1223) (p1 := 1223) (ins := .if_icmp .eq 328) (len := 3) (pl := 0) (a := 1551) (b := 0) (v := .null) rfl rfl rfl rfl
set_option maxRecDepth 100000 in
theorem s245_1226 {l0 l1 l2 l3 : Option Value} {σ : xM} {Q : Option Value → xM → Prop} : xC 245 1226 [l0, l1, l2, l3] [] σ Q = xC 245 1227 [l0, l1, l2, l3] [.int (0)] σ Q := xC_step (y := 245) (pc := 1226) (p1 := 1226) (ins := .iconst 0) (len := 1) (pl := 0) (a := 0) (b := 0) (v := .int (0)) rfl rfl rfl rfl
set_option maxRecDepth 100000 in
theorem s245_1227 {l0 l1 l2 l3 : Option Value} {x : Int32} {σ : xM} {Q : Option Value → xM → Prop} : xC 245 1227 [l0, l1, l2, l3] [.int x] σ Q = ((x = 0 ∨ x = 1) ∧ Q (some (.int x)) σ) := xC_retIf (y := 245) (pc := 1227) (p1 := 1227) (ins := .ireturn) (len := 1) (pl := 0) (a := 0) (b := 0) (v := .null) rfl rfl (by rw [xr_245]; rfl)
set_option maxRecDepth 100000 in
theorem s245_1228 {l0 l2 l3 : Option Value} {k : Nat} {σ : xM} {Q : Option Value → xM → Prop} : xC 245 1228 [l0, some (.ref k), l2, l3] [] σ Q = xC 245 1229 [l0, some (.ref k), l2, l3] [.ref k] σ Q := xC_step (y := 245) (pc := 1228) (p1 := 1228) (ins := .aload_n 1) (len := 1) (pl := 0) (a := 0) (b := 0) (v := .null) rfl rfl rfl rfl
set_option maxRecDepth 100000 in
theorem s245_1229 {l1 l2 l3 : Option Value} {s0 : Value} {k : Nat} {σ : xM} {Q : Option Value → xM → Prop} : xC 245 1229 [some (.ref k), l1, l2, l3] [s0] σ Q = xC 245 1230 [some (.ref k), l1, l2, l3] [.ref k, s0] σ Q := xC_step (y := 245) (pc := 1229) (p1 := 1229) (ins := .aload_n 0) (len := 1) (pl := 0) (a := 0) (b := 0) (v := .null) rfl rfl rfl rfl
set_option maxRecDepth 100000 in
theorem s245_1230 {l0 l1 l2 : Option Value} {s0 s1 : Value} {x : Int32} {σ : xM} {Q : Option Value → xM → Prop} : xC 245 1230 [l0, l1, l2, some (.int x)] [s0, s1] σ Q = xC 245 1231 [l0, l1, l2, some (.int x)] [.int x, s0, s1] σ Q := xC_step (y := 245) (pc := 1230) (p1 := 1230) (ins := .iload_n 3) (len := 1) (pl := 0) (a := 0) (b := 0) (v := .null) rfl rfl rfl rfl
set_option maxRecDepth 100000 in
theorem s245_1231 {l0 l1 l2 l3 : Option Value} {s0 s1 s2 : Value} {σ : xM} {Q : Option Value → xM → Prop} : xC 245 1231 [l0, l1, l2, l3] [s0, s1, s2] σ Q = xC 245 1232 [l0, l1, l2, l3] [.int (1), s0, s1, s2] σ Q := xC_step (y := 245) (pc := 1231) (p1 := 1231) (ins := .iconst 1) (len := 1) (pl := 0) (a := 0) (b := 0) (v := .int (1)) rfl rfl rfl rfl
set_option maxRecDepth 100000 in
theorem s245_1232 {l0 l1 l2 l3 : Option Value} {s0 s1 : Value} {x y : Int32} {σ : xM} {Q : Option Value → xM → Prop} : xC 245 1232 [l0, l1, l2, l3] [.int y, .int x, s0, s1] σ Q = xC 245 1233 [l0, l1, l2, l3] [.int (x + y), s0, s1] σ Q := xC_step (y := 245) (pc := 1232) (p1 := 1232) (ins := .iadd) (len := 1) (pl := 0) (a := 0) (b := 0) (v := .null) rfl rfl rfl rfl
set_option maxRecDepth 100000 in
theorem s245_1233 {l0 l1 l2 l3 : Option Value} {s0 : Value} {i : Int32} {k : Nat} {σ : xM} {Q : Option Value → xM → Prop} (hk : xe_cls k = 100) : xC 245 1233 [l0, l1, l2, l3] [.int i, .ref k, s0] σ Q = ((0 ≤ i ∧ i.toNatClampNeg < xt_len.getD k 0) ∧ xC 245 1234 [l0, l1, l2, l3] [.int (σ.1 k i.toNatClampNeg), s0] σ Q) := xC_and (y := 245) (pc := 1233) (p1 := 1233) (ins := .iaload) (len := 1) (pl := 0) (a := 0) (b := 0) (v := .null) rfl rfl rfl (xa_ial hk)
set_option maxRecDepth 100000 in
theorem s245_1233_g {l0 l1 l2 l3 : Option Value} {s0 : Value} {i : Int32} {k : Nat} {σ : xM} {Q : Option Value → xM → Prop} (hk : xe_cls k = 110) : xC 245 1233 [l0, l1, l2, l3] [.int i, .ref k, s0] σ Q = ((0 ≤ i ∧ i.toNatClampNeg < xe_len σ k) ∧ xC 245 1234 [l0, l1, l2, l3] [.int (xe_ax σ k i.toNatClampNeg), s0] σ Q) := by
  have e := xC_and (Q := Q) (ls := [l0, l1, l2, l3]) (st := [.int i, .ref k, s0]) (σ := σ) (y := 245) (pc := 1233) (p1 := 1233) (ins := .iaload) (len := 1) (pl := 0) (a := 0) (b := 0) (v := .null) rfl rfl rfl rfl
  simpa [hk] using e
set_option maxRecDepth 100000 in
theorem s245_1234 {l0 l1 l2 l3 : Option Value} {x1 : Int32} {σ : xM} {Q : Option Value → xM → Prop} : xC 245 1234 [l0, l1, l2, l3] [.int x1, .ref 0] σ Q = xI1 137 [.ref 0, .int x1] σ (fun r σ' => xC 245 1237 [l0, l1, l2, l3] [.int r] σ' Q) := xC_callI (p1 := 1234) (ins := .invokevirtual 134) (len := 3) (pl := 962) (a := 137) (b := 2) (v := .null) rfl rfl rfl ⟨Nat.le_of_ble_eq_true rfl, Or.inl (Nat.le_of_ble_eq_true rfl), xa_137, Or.inr rfl, Nat.le_of_ble_eq_true rfl⟩ (Or.inr <| Or.inl xr_137)
set_option maxRecDepth 100000 in
theorem s245_1237 {l0 l1 l3 : Option Value} {s0 : Value} {k : Nat} {σ : xM} {Q : Option Value → xM → Prop} : xC 245 1237 [l0, l1, some (.ref k), l3] [s0] σ Q = xC 245 1238 [l0, l1, some (.ref k), l3] [.ref k, s0] σ Q := xC_step (y := 245) (pc := 1237) (p1 := 1237) (ins := .aload_n 2) (len := 1) (pl := 0) (a := 0) (b := 0) (v := .null) rfl rfl rfl rfl
set_option maxRecDepth 100000 in
theorem s245_1238 {l1 l2 l3 : Option Value} {s0 s1 : Value} {k : Nat} {σ : xM} {Q : Option Value → xM → Prop} : xC 245 1238 [some (.ref k), l1, l2, l3] [s0, s1] σ Q = xC 245 1239 [some (.ref k), l1, l2, l3] [.ref k, s0, s1] σ Q := xC_step (y := 245) (pc := 1238) (p1 := 1238) (ins := .aload_n 0) (len := 1) (pl := 0) (a := 0) (b := 0) (v := .null) rfl rfl rfl rfl
set_option maxRecDepth 100000 in
theorem s245_1239 {l0 l1 l2 : Option Value} {s0 s1 s2 : Value} {x : Int32} {σ : xM} {Q : Option Value → xM → Prop} : xC 245 1239 [l0, l1, l2, some (.int x)] [s0, s1, s2] σ Q = xC 245 1240 [l0, l1, l2, some (.int x)] [.int x, s0, s1, s2] σ Q := xC_step (y := 245) (pc := 1239) (p1 := 1239) (ins := .iload_n 3) (len := 1) (pl := 0) (a := 0) (b := 0) (v := .null) rfl rfl rfl rfl
set_option maxRecDepth 100000 in
theorem s245_1240 {l0 l1 l2 l3 : Option Value} {s0 s1 s2 s3 : Value} {σ : xM} {Q : Option Value → xM → Prop} : xC 245 1240 [l0, l1, l2, l3] [s0, s1, s2, s3] σ Q = xC 245 1241 [l0, l1, l2, l3] [.int (1), s0, s1, s2, s3] σ Q := xC_step (y := 245) (pc := 1240) (p1 := 1240) (ins := .iconst 1) (len := 1) (pl := 0) (a := 0) (b := 0) (v := .int (1)) rfl rfl rfl rfl
set_option maxRecDepth 100000 in
theorem s245_1241 {l0 l1 l2 l3 : Option Value} {s0 s1 s2 : Value} {x y : Int32} {σ : xM} {Q : Option Value → xM → Prop} : xC 245 1241 [l0, l1, l2, l3] [.int y, .int x, s0, s1, s2] σ Q = xC 245 1242 [l0, l1, l2, l3] [.int (x + y), s0, s1, s2] σ Q := xC_step (y := 245) (pc := 1241) (p1 := 1241) (ins := .iadd) (len := 1) (pl := 0) (a := 0) (b := 0) (v := .null) rfl rfl rfl rfl
set_option maxRecDepth 100000 in
theorem s245_1242 {l0 l1 l2 l3 : Option Value} {s0 s1 : Value} {i : Int32} {k : Nat} {σ : xM} {Q : Option Value → xM → Prop} (hk : xe_cls k = 100) : xC 245 1242 [l0, l1, l2, l3] [.int i, .ref k, s0, s1] σ Q = ((0 ≤ i ∧ i.toNatClampNeg < xt_len.getD k 0) ∧ xC 245 1243 [l0, l1, l2, l3] [.int (σ.1 k i.toNatClampNeg), s0, s1] σ Q) := xC_and (y := 245) (pc := 1242) (p1 := 1242) (ins := .iaload) (len := 1) (pl := 0) (a := 0) (b := 0) (v := .null) rfl rfl rfl (xa_ial hk)
set_option maxRecDepth 100000 in
theorem s245_1242_g {l0 l1 l2 l3 : Option Value} {s0 s1 : Value} {i : Int32} {k : Nat} {σ : xM} {Q : Option Value → xM → Prop} (hk : xe_cls k = 110) : xC 245 1242 [l0, l1, l2, l3] [.int i, .ref k, s0, s1] σ Q = ((0 ≤ i ∧ i.toNatClampNeg < xe_len σ k) ∧ xC 245 1243 [l0, l1, l2, l3] [.int (xe_ax σ k i.toNatClampNeg), s0, s1] σ Q) := by
  have e := xC_and (Q := Q) (ls := [l0, l1, l2, l3]) (st := [.int i, .ref k, s0, s1]) (σ := σ) (y := 245) (pc := 1242) (p1 := 1242) (ins := .iaload) (len := 1) (pl := 0) (a := 0) (b := 0) (v := .null) rfl rfl rfl rfl
  simpa [hk] using e
set_option maxRecDepth 100000 in
theorem s245_1243 {l0 l1 l2 l3 : Option Value} {s0 : Value} {x1 : Int32} {σ : xM} {Q : Option Value → xM → Prop} : xC 245 1243 [l0, l1, l2, l3] [.int x1, .ref 84, s0] σ Q = xI1 231 [.ref 84, .int x1] σ (fun r σ' => xC 245 1246 [l0, l1, l2, l3] [.int r, s0] σ' Q) := xC_callI (p1 := 1243) (ins := .invokevirtual 137) (len := 3) (pl := 1446) (a := 231) (b := 2) (v := .null) rfl rfl rfl ⟨Nat.le_of_ble_eq_true rfl, Or.inl (Nat.le_of_ble_eq_true rfl), xa_231, Or.inr rfl, Nat.le_of_ble_eq_true rfl⟩ (Or.inr <| Or.inl xr_231)
set_option maxRecDepth 100000 in
theorem s245_1246 {l0 l1 l2 l3 : Option Value} {x y : Int32} {σ : xM} {Q : Option Value → xM → Prop} : xC 245 1246 [l0, l1, l2, l3] [.int y, .int x] σ Q = (if x = y then xC 245 1551 [l0, l1, l2, l3] [] σ Q else xC 245 1249 [l0, l1, l2, l3] [] σ Q) := xC_if (y := 245) (pc := 1246) (p1 := 1246) (ins := .if_icmp .eq 305) (len := 3) (pl := 0) (a := 1551) (b := 0) (v := .null) rfl rfl rfl rfl
set_option maxRecDepth 100000 in
theorem s245_1249 {l0 l1 l2 l3 : Option Value} {σ : xM} {Q : Option Value → xM → Prop} : xC 245 1249 [l0, l1, l2, l3] [] σ Q = xC 245 1250 [l0, l1, l2, l3] [.int (0)] σ Q := xC_step (y := 245) (pc := 1249) (p1 := 1249) (ins := .iconst 0) (len := 1) (pl := 0) (a := 0) (b := 0) (v := .int (0)) rfl rfl rfl rfl
set_option maxRecDepth 100000 in
theorem s245_1250 {l0 l1 l2 l3 : Option Value} {x : Int32} {σ : xM} {Q : Option Value → xM → Prop} : xC 245 1250 [l0, l1, l2, l3] [.int x] σ Q = ((x = 0 ∨ x = 1) ∧ Q (some (.int x)) σ) := xC_retIf (y := 245) (pc := 1250) (p1 := 1250) (ins := .ireturn) (len := 1) (pl := 0) (a := 0) (b := 0) (v := .null) rfl rfl (by rw [xr_245]; rfl)
set_option maxRecDepth 100000 in
theorem s245_1251 {l0 l2 l3 : Option Value} {k : Nat} {σ : xM} {Q : Option Value → xM → Prop} : xC 245 1251 [l0, some (.ref k), l2, l3] [] σ Q = xC 245 1252 [l0, some (.ref k), l2, l3] [.ref k] σ Q := xC_step (y := 245) (pc := 1251) (p1 := 1251) (ins := .aload_n 1) (len := 1) (pl := 0) (a := 0) (b := 0) (v := .null) rfl rfl rfl rfl
set_option maxRecDepth 100000 in
theorem s245_1252 {l1 l2 l3 : Option Value} {s0 : Value} {k : Nat} {σ : xM} {Q : Option Value → xM → Prop} : xC 245 1252 [some (.ref k), l1, l2, l3] [s0] σ Q = xC 245 1253 [some (.ref k), l1, l2, l3] [.ref k, s0] σ Q := xC_step (y := 245) (pc := 1252) (p1 := 1252) (ins := .aload_n 0) (len := 1) (pl := 0) (a := 0) (b := 0) (v := .null) rfl rfl rfl rfl
set_option maxRecDepth 100000 in
theorem s245_1253 {l0 l1 l2 : Option Value} {s0 s1 : Value} {x : Int32} {σ : xM} {Q : Option Value → xM → Prop} : xC 245 1253 [l0, l1, l2, some (.int x)] [s0, s1] σ Q = xC 245 1254 [l0, l1, l2, some (.int x)] [.int x, s0, s1] σ Q := xC_step (y := 245) (pc := 1253) (p1 := 1253) (ins := .iload_n 3) (len := 1) (pl := 0) (a := 0) (b := 0) (v := .null) rfl rfl rfl rfl
set_option maxRecDepth 100000 in
theorem s245_1254 {l0 l1 l2 l3 : Option Value} {s0 s1 s2 : Value} {σ : xM} {Q : Option Value → xM → Prop} : xC 245 1254 [l0, l1, l2, l3] [s0, s1, s2] σ Q = xC 245 1255 [l0, l1, l2, l3] [.int (1), s0, s1, s2] σ Q := xC_step (y := 245) (pc := 1254) (p1 := 1254) (ins := .iconst 1) (len := 1) (pl := 0) (a := 0) (b := 0) (v := .int (1)) rfl rfl rfl rfl
set_option maxRecDepth 100000 in
theorem s245_1255 {l0 l1 l2 l3 : Option Value} {s0 s1 : Value} {x y : Int32} {σ : xM} {Q : Option Value → xM → Prop} : xC 245 1255 [l0, l1, l2, l3] [.int y, .int x, s0, s1] σ Q = xC 245 1256 [l0, l1, l2, l3] [.int (x + y), s0, s1] σ Q := xC_step (y := 245) (pc := 1255) (p1 := 1255) (ins := .iadd) (len := 1) (pl := 0) (a := 0) (b := 0) (v := .null) rfl rfl rfl rfl
set_option maxRecDepth 100000 in
theorem s245_1256 {l0 l1 l2 l3 : Option Value} {s0 : Value} {i : Int32} {k : Nat} {σ : xM} {Q : Option Value → xM → Prop} (hk : xe_cls k = 100) : xC 245 1256 [l0, l1, l2, l3] [.int i, .ref k, s0] σ Q = ((0 ≤ i ∧ i.toNatClampNeg < xt_len.getD k 0) ∧ xC 245 1257 [l0, l1, l2, l3] [.int (σ.1 k i.toNatClampNeg), s0] σ Q) := xC_and (y := 245) (pc := 1256) (p1 := 1256) (ins := .iaload) (len := 1) (pl := 0) (a := 0) (b := 0) (v := .null) rfl rfl rfl (xa_ial hk)
set_option maxRecDepth 100000 in
theorem s245_1256_g {l0 l1 l2 l3 : Option Value} {s0 : Value} {i : Int32} {k : Nat} {σ : xM} {Q : Option Value → xM → Prop} (hk : xe_cls k = 110) : xC 245 1256 [l0, l1, l2, l3] [.int i, .ref k, s0] σ Q = ((0 ≤ i ∧ i.toNatClampNeg < xe_len σ k) ∧ xC 245 1257 [l0, l1, l2, l3] [.int (xe_ax σ k i.toNatClampNeg), s0] σ Q) := by
  have e := xC_and (Q := Q) (ls := [l0, l1, l2, l3]) (st := [.int i, .ref k, s0]) (σ := σ) (y := 245) (pc := 1256) (p1 := 1256) (ins := .iaload) (len := 1) (pl := 0) (a := 0) (b := 0) (v := .null) rfl rfl rfl rfl
  simpa [hk] using e
set_option maxRecDepth 100000 in
theorem s245_1257 {l1 l2 l3 : Option Value} {s0 s1 : Value} {k : Nat} {σ : xM} {Q : Option Value → xM → Prop} : xC 245 1257 [some (.ref k), l1, l2, l3] [s0, s1] σ Q = xC 245 1258 [some (.ref k), l1, l2, l3] [.ref k, s0, s1] σ Q := xC_step (y := 245) (pc := 1257) (p1 := 1257) (ins := .aload_n 0) (len := 1) (pl := 0) (a := 0) (b := 0) (v := .null) rfl rfl rfl rfl
set_option maxRecDepth 100000 in
theorem s245_1258 {l0 l1 l2 : Option Value} {s0 s1 s2 : Value} {x : Int32} {σ : xM} {Q : Option Value → xM → Prop} : xC 245 1258 [l0, l1, l2, some (.int x)] [s0, s1, s2] σ Q = xC 245 1259 [l0, l1, l2, some (.int x)] [.int x, s0, s1, s2] σ Q := xC_step (y := 245) (pc := 1258) (p1 := 1258) (ins := .iload_n 3) (len := 1) (pl := 0) (a := 0) (b := 0) (v := .null) rfl rfl rfl rfl
set_option maxRecDepth 100000 in
theorem s245_1259 {l0 l1 l2 l3 : Option Value} {s0 s1 s2 s3 : Value} {σ : xM} {Q : Option Value → xM → Prop} : xC 245 1259 [l0, l1, l2, l3] [s0, s1, s2, s3] σ Q = xC 245 1260 [l0, l1, l2, l3] [.int (2), s0, s1, s2, s3] σ Q := xC_step (y := 245) (pc := 1259) (p1 := 1259) (ins := .iconst 2) (len := 1) (pl := 0) (a := 0) (b := 0) (v := .int (2)) rfl rfl rfl rfl
set_option maxRecDepth 100000 in
theorem s245_1260 {l0 l1 l2 l3 : Option Value} {s0 s1 s2 : Value} {x y : Int32} {σ : xM} {Q : Option Value → xM → Prop} : xC 245 1260 [l0, l1, l2, l3] [.int y, .int x, s0, s1, s2] σ Q = xC 245 1261 [l0, l1, l2, l3] [.int (x + y), s0, s1, s2] σ Q := xC_step (y := 245) (pc := 1260) (p1 := 1260) (ins := .iadd) (len := 1) (pl := 0) (a := 0) (b := 0) (v := .null) rfl rfl rfl rfl
set_option maxRecDepth 100000 in
theorem s245_1261 {l0 l1 l2 l3 : Option Value} {s0 s1 : Value} {i : Int32} {k : Nat} {σ : xM} {Q : Option Value → xM → Prop} (hk : xe_cls k = 100) : xC 245 1261 [l0, l1, l2, l3] [.int i, .ref k, s0, s1] σ Q = ((0 ≤ i ∧ i.toNatClampNeg < xt_len.getD k 0) ∧ xC 245 1262 [l0, l1, l2, l3] [.int (σ.1 k i.toNatClampNeg), s0, s1] σ Q) := xC_and (y := 245) (pc := 1261) (p1 := 1261) (ins := .iaload) (len := 1) (pl := 0) (a := 0) (b := 0) (v := .null) rfl rfl rfl (xa_ial hk)
set_option maxRecDepth 100000 in
theorem s245_1261_g {l0 l1 l2 l3 : Option Value} {s0 s1 : Value} {i : Int32} {k : Nat} {σ : xM} {Q : Option Value → xM → Prop} (hk : xe_cls k = 110) : xC 245 1261 [l0, l1, l2, l3] [.int i, .ref k, s0, s1] σ Q = ((0 ≤ i ∧ i.toNatClampNeg < xe_len σ k) ∧ xC 245 1262 [l0, l1, l2, l3] [.int (xe_ax σ k i.toNatClampNeg), s0, s1] σ Q) := by
  have e := xC_and (Q := Q) (ls := [l0, l1, l2, l3]) (st := [.int i, .ref k, s0, s1]) (σ := σ) (y := 245) (pc := 1261) (p1 := 1261) (ins := .iaload) (len := 1) (pl := 0) (a := 0) (b := 0) (v := .null) rfl rfl rfl rfl
  simpa [hk] using e
set_option maxRecDepth 100000 in
theorem s245_1262 {l0 l1 l2 l3 : Option Value} {x1 : Int32} {x2 : Int32} {σ : xM} {Q : Option Value → xM → Prop} : xC 245 1262 [l0, l1, l2, l3] [.int x2, .int x1, .ref 0] σ Q = xI1 138 [.ref 0, .int x1, .int x2] σ (fun r σ' => xC 245 1265 [l0, l1, l2, l3] [.int r] σ' Q) := xC_callI (p1 := 1262) (ins := .invokevirtual 138) (len := 3) (pl := 970) (a := 138) (b := 3) (v := .null) rfl rfl rfl ⟨Nat.le_of_ble_eq_true rfl, Or.inl (Nat.le_of_ble_eq_true rfl), xa_138, Or.inr rfl, Nat.le_of_ble_eq_true rfl⟩ (Or.inl xr_138)
set_option maxRecDepth 100000 in
theorem s245_1265 {l0 l1 l3 : Option Value} {s0 : Value} {k : Nat} {σ : xM} {Q : Option Value → xM → Prop} : xC 245 1265 [l0, l1, some (.ref k), l3] [s0] σ Q = xC 245 1266 [l0, l1, some (.ref k), l3] [.ref k, s0] σ Q := xC_step (y := 245) (pc := 1265) (p1 := 1265) (ins := .aload_n 2) (len := 1) (pl := 0) (a := 0) (b := 0) (v := .null) rfl rfl rfl rfl
set_option maxRecDepth 100000 in
theorem s245_1266 {l1 l2 l3 : Option Value} {s0 s1 : Value} {k : Nat} {σ : xM} {Q : Option Value → xM → Prop} : xC 245 1266 [some (.ref k), l1, l2, l3] [s0, s1] σ Q = xC 245 1267 [some (.ref k), l1, l2, l3] [.ref k, s0, s1] σ Q := xC_step (y := 245) (pc := 1266) (p1 := 1266) (ins := .aload_n 0) (len := 1) (pl := 0) (a := 0) (b := 0) (v := .null) rfl rfl rfl rfl
set_option maxRecDepth 100000 in
theorem s245_1267 {l0 l1 l2 : Option Value} {s0 s1 s2 : Value} {x : Int32} {σ : xM} {Q : Option Value → xM → Prop} : xC 245 1267 [l0, l1, l2, some (.int x)] [s0, s1, s2] σ Q = xC 245 1268 [l0, l1, l2, some (.int x)] [.int x, s0, s1, s2] σ Q := xC_step (y := 245) (pc := 1267) (p1 := 1267) (ins := .iload_n 3) (len := 1) (pl := 0) (a := 0) (b := 0) (v := .null) rfl rfl rfl rfl
set_option maxRecDepth 100000 in
theorem s245_1268 {l0 l1 l2 l3 : Option Value} {s0 s1 s2 s3 : Value} {σ : xM} {Q : Option Value → xM → Prop} : xC 245 1268 [l0, l1, l2, l3] [s0, s1, s2, s3] σ Q = xC 245 1269 [l0, l1, l2, l3] [.int (1), s0, s1, s2, s3] σ Q := xC_step (y := 245) (pc := 1268) (p1 := 1268) (ins := .iconst 1) (len := 1) (pl := 0) (a := 0) (b := 0) (v := .int (1)) rfl rfl rfl rfl
set_option maxRecDepth 100000 in
theorem s245_1269 {l0 l1 l2 l3 : Option Value} {s0 s1 s2 : Value} {x y : Int32} {σ : xM} {Q : Option Value → xM → Prop} : xC 245 1269 [l0, l1, l2, l3] [.int y, .int x, s0, s1, s2] σ Q = xC 245 1270 [l0, l1, l2, l3] [.int (x + y), s0, s1, s2] σ Q := xC_step (y := 245) (pc := 1269) (p1 := 1269) (ins := .iadd) (len := 1) (pl := 0) (a := 0) (b := 0) (v := .null) rfl rfl rfl rfl
set_option maxRecDepth 100000 in
theorem s245_1270 {l0 l1 l2 l3 : Option Value} {s0 s1 : Value} {i : Int32} {k : Nat} {σ : xM} {Q : Option Value → xM → Prop} (hk : xe_cls k = 100) : xC 245 1270 [l0, l1, l2, l3] [.int i, .ref k, s0, s1] σ Q = ((0 ≤ i ∧ i.toNatClampNeg < xt_len.getD k 0) ∧ xC 245 1271 [l0, l1, l2, l3] [.int (σ.1 k i.toNatClampNeg), s0, s1] σ Q) := xC_and (y := 245) (pc := 1270) (p1 := 1270) (ins := .iaload) (len := 1) (pl := 0) (a := 0) (b := 0) (v := .null) rfl rfl rfl (xa_ial hk)
set_option maxRecDepth 100000 in
theorem s245_1270_g {l0 l1 l2 l3 : Option Value} {s0 s1 : Value} {i : Int32} {k : Nat} {σ : xM} {Q : Option Value → xM → Prop} (hk : xe_cls k = 110) : xC 245 1270 [l0, l1, l2, l3] [.int i, .ref k, s0, s1] σ Q = ((0 ≤ i ∧ i.toNatClampNeg < xe_len σ k) ∧ xC 245 1271 [l0, l1, l2, l3] [.int (xe_ax σ k i.toNatClampNeg), s0, s1] σ Q) := by
  have e := xC_and (Q := Q) (ls := [l0, l1, l2, l3]) (st := [.int i, .ref k, s0, s1]) (σ := σ) (y := 245) (pc := 1270) (p1 := 1270) (ins := .iaload) (len := 1) (pl := 0) (a := 0) (b := 0) (v := .null) rfl rfl rfl rfl
  simpa [hk] using e
set_option maxRecDepth 100000 in
theorem s245_1271 {l1 l2 l3 : Option Value} {s0 s1 s2 : Value} {k : Nat} {σ : xM} {Q : Option Value → xM → Prop} : xC 245 1271 [some (.ref k), l1, l2, l3] [s0, s1, s2] σ Q = xC 245 1272 [some (.ref k), l1, l2, l3] [.ref k, s0, s1, s2] σ Q := xC_step (y := 245) (pc := 1271) (p1 := 1271) (ins := .aload_n 0) (len := 1) (pl := 0) (a := 0) (b := 0) (v := .null) rfl rfl rfl rfl
set_option maxRecDepth 100000 in
theorem s245_1272 {l0 l1 l2 : Option Value} {s0 s1 s2 s3 : Value} {x : Int32} {σ : xM} {Q : Option Value → xM → Prop} : xC 245 1272 [l0, l1, l2, some (.int x)] [s0, s1, s2, s3] σ Q = xC 245 1273 [l0, l1, l2, some (.int x)] [.int x, s0, s1, s2, s3] σ Q := xC_step (y := 245) (pc := 1272) (p1 := 1272) (ins := .iload_n 3) (len := 1) (pl := 0) (a := 0) (b := 0) (v := .null) rfl rfl rfl rfl
set_option maxRecDepth 100000 in
theorem s245_1273 {l0 l1 l2 l3 : Option Value} {s0 s1 s2 s3 s4 : Value} {σ : xM} {Q : Option Value → xM → Prop} : xC 245 1273 [l0, l1, l2, l3] [s0, s1, s2, s3, s4] σ Q = xC 245 1274 [l0, l1, l2, l3] [.int (2), s0, s1, s2, s3, s4] σ Q := xC_step (y := 245) (pc := 1273) (p1 := 1273) (ins := .iconst 2) (len := 1) (pl := 0) (a := 0) (b := 0) (v := .int (2)) rfl rfl rfl rfl
set_option maxRecDepth 100000 in
theorem s245_1274 {l0 l1 l2 l3 : Option Value} {s0 s1 s2 s3 : Value} {x y : Int32} {σ : xM} {Q : Option Value → xM → Prop} : xC 245 1274 [l0, l1, l2, l3] [.int y, .int x, s0, s1, s2, s3] σ Q = xC 245 1275 [l0, l1, l2, l3] [.int (x + y), s0, s1, s2, s3] σ Q := xC_step (y := 245) (pc := 1274) (p1 := 1274) (ins := .iadd) (len := 1) (pl := 0) (a := 0) (b := 0) (v := .null) rfl rfl rfl rfl
set_option maxRecDepth 100000 in
theorem s245_1275 {l0 l1 l2 l3 : Option Value} {s0 s1 s2 : Value} {i : Int32} {k : Nat} {σ : xM} {Q : Option Value → xM → Prop} (hk : xe_cls k = 100) : xC 245 1275 [l0, l1, l2, l3] [.int i, .ref k, s0, s1, s2] σ Q = ((0 ≤ i ∧ i.toNatClampNeg < xt_len.getD k 0) ∧ xC 245 1276 [l0, l1, l2, l3] [.int (σ.1 k i.toNatClampNeg), s0, s1, s2] σ Q) := xC_and (y := 245) (pc := 1275) (p1 := 1275) (ins := .iaload) (len := 1) (pl := 0) (a := 0) (b := 0) (v := .null) rfl rfl rfl (xa_ial hk)
set_option maxRecDepth 100000 in
theorem s245_1275_g {l0 l1 l2 l3 : Option Value} {s0 s1 s2 : Value} {i : Int32} {k : Nat} {σ : xM} {Q : Option Value → xM → Prop} (hk : xe_cls k = 110) : xC 245 1275 [l0, l1, l2, l3] [.int i, .ref k, s0, s1, s2] σ Q = ((0 ≤ i ∧ i.toNatClampNeg < xe_len σ k) ∧ xC 245 1276 [l0, l1, l2, l3] [.int (xe_ax σ k i.toNatClampNeg), s0, s1, s2] σ Q) := by
  have e := xC_and (Q := Q) (ls := [l0, l1, l2, l3]) (st := [.int i, .ref k, s0, s1, s2]) (σ := σ) (y := 245) (pc := 1275) (p1 := 1275) (ins := .iaload) (len := 1) (pl := 0) (a := 0) (b := 0) (v := .null) rfl rfl rfl rfl
  simpa [hk] using e
set_option maxRecDepth 100000 in
theorem s245_1276 {l0 l1 l2 l3 : Option Value} {s0 : Value} {x1 : Int32} {x2 : Int32} {σ : xM} {Q : Option Value → xM → Prop} : xC 245 1276 [l0, l1, l2, l3] [.int x2, .int x1, .ref 84, s0] σ Q = xI1 232 [.ref 84, .int x1, .int x2] σ (fun r σ' => xC 245 1279 [l0, l1, l2, l3] [.int r, s0] σ' Q) := xC_callI (p1 := 1276) (ins := .invokevirtual 141) (len := 3) (pl := 1450) (a := 232) (b := 3) (v := .null) rfl rfl rfl ⟨Nat.le_of_ble_eq_true rfl, Or.inl (Nat.le_of_ble_eq_true rfl), xa_232, Or.inr rfl, Nat.le_of_ble_eq_true rfl⟩ (Or.inl xr_232)
set_option maxRecDepth 100000 in
theorem s245_1279 {l0 l1 l2 l3 : Option Value} {x y : Int32} {σ : xM} {Q : Option Value → xM → Prop} : xC 245 1279 [l0, l1, l2, l3] [.int y, .int x] σ Q = (if x = y then xC 245 1551 [l0, l1, l2, l3] [] σ Q else xC 245 1282 [l0, l1, l2, l3] [] σ Q) := xC_if (y := 245) (pc := 1279) (p1 := 1279) (ins := .if_icmp .eq 272) (len := 3) (pl := 0) (a := 1551) (b := 0) (v := .null) rfl rfl rfl rfl
set_option maxRecDepth 100000 in
theorem s245_1282 {l0 l1 l2 l3 : Option Value} {σ : xM} {Q : Option Value → xM → Prop} : xC 245 1282 [l0, l1, l2, l3] [] σ Q = xC 245 1283 [l0, l1, l2, l3] [.int (0)] σ Q := xC_step (y := 245) (pc := 1282) (p1 := 1282) (ins := .iconst 0) (len := 1) (pl := 0) (a := 0) (b := 0) (v := .int (0)) rfl rfl rfl rfl
set_option maxRecDepth 100000 in
theorem s245_1283 {l0 l1 l2 l3 : Option Value} {x : Int32} {σ : xM} {Q : Option Value → xM → Prop} : xC 245 1283 [l0, l1, l2, l3] [.int x] σ Q = ((x = 0 ∨ x = 1) ∧ Q (some (.int x)) σ) := xC_retIf (y := 245) (pc := 1283) (p1 := 1283) (ins := .ireturn) (len := 1) (pl := 0) (a := 0) (b := 0) (v := .null) rfl rfl (by rw [xr_245]; rfl)
set_option maxRecDepth 100000 in
theorem s245_1284 {l0 l2 l3 : Option Value} {k : Nat} {σ : xM} {Q : Option Value → xM → Prop} : xC 245 1284 [l0, some (.ref k), l2, l3] [] σ Q = xC 245 1285 [l0, some (.ref k), l2, l3] [.ref k] σ Q := xC_step (y := 245) (pc := 1284) (p1 := 1284) (ins := .aload_n 1) (len := 1) (pl := 0) (a := 0) (b := 0) (v := .null) rfl rfl rfl rfl
set_option maxRecDepth 100000 in
theorem s245_1285 {l1 l2 l3 : Option Value} {s0 : Value} {k : Nat} {σ : xM} {Q : Option Value → xM → Prop} : xC 245 1285 [some (.ref k), l1, l2, l3] [s0] σ Q = xC 245 1286 [some (.ref k), l1, l2, l3] [.ref k, s0] σ Q := xC_step (y := 245) (pc := 1285) (p1 := 1285) (ins := .aload_n 0) (len := 1) (pl := 0) (a := 0) (b := 0) (v := .null) rfl rfl rfl rfl
set_option maxRecDepth 100000 in
theorem s245_1286 {l0 l1 l2 : Option Value} {s0 s1 : Value} {x : Int32} {σ : xM} {Q : Option Value → xM → Prop} : xC 245 1286 [l0, l1, l2, some (.int x)] [s0, s1] σ Q = xC 245 1287 [l0, l1, l2, some (.int x)] [.int x, s0, s1] σ Q := xC_step (y := 245) (pc := 1286) (p1 := 1286) (ins := .iload_n 3) (len := 1) (pl := 0) (a := 0) (b := 0) (v := .null) rfl rfl rfl rfl
set_option maxRecDepth 100000 in
theorem s245_1287 {l0 l1 l2 l3 : Option Value} {s0 s1 s2 : Value} {σ : xM} {Q : Option Value → xM → Prop} : xC 245 1287 [l0, l1, l2, l3] [s0, s1, s2] σ Q = xC 245 1288 [l0, l1, l2, l3] [.int (1), s0, s1, s2] σ Q := xC_step (y := 245) (pc := 1287) (p1 := 1287) (ins := .iconst 1) (len := 1) (pl := 0) (a := 0) (b := 0) (v := .int (1)) rfl rfl rfl rfl
set_option maxRecDepth 100000 in
theorem s245_1288 {l0 l1 l2 l3 : Option Value} {s0 s1 : Value} {x y : Int32} {σ : xM} {Q : Option Value → xM → Prop} : xC 245 1288 [l0, l1, l2, l3] [.int y, .int x, s0, s1] σ Q = xC 245 1289 [l0, l1, l2, l3] [.int (x + y), s0, s1] σ Q := xC_step (y := 245) (pc := 1288) (p1 := 1288) (ins := .iadd) (len := 1) (pl := 0) (a := 0) (b := 0) (v := .null) rfl rfl rfl rfl
set_option maxRecDepth 100000 in
theorem s245_1289 {l0 l1 l2 l3 : Option Value} {s0 : Value} {i : Int32} {k : Nat} {σ : xM} {Q : Option Value → xM → Prop} (hk : xe_cls k = 100) : xC 245 1289 [l0, l1, l2, l3] [.int i, .ref k, s0] σ Q = ((0 ≤ i ∧ i.toNatClampNeg < xt_len.getD k 0) ∧ xC 245 1290 [l0, l1, l2, l3] [.int (σ.1 k i.toNatClampNeg), s0] σ Q) := xC_and (y := 245) (pc := 1289) (p1 := 1289) (ins := .iaload) (len := 1) (pl := 0) (a := 0) (b := 0) (v := .null) rfl rfl rfl (xa_ial hk)
set_option maxRecDepth 100000 in
theorem s245_1289_g {l0 l1 l2 l3 : Option Value} {s0 : Value} {i : Int32} {k : Nat} {σ : xM} {Q : Option Value → xM → Prop} (hk : xe_cls k = 110) : xC 245 1289 [l0, l1, l2, l3] [.int i, .ref k, s0] σ Q = ((0 ≤ i ∧ i.toNatClampNeg < xe_len σ k) ∧ xC 245 1290 [l0, l1, l2, l3] [.int (xe_ax σ k i.toNatClampNeg), s0] σ Q) := by
  have e := xC_and (Q := Q) (ls := [l0, l1, l2, l3]) (st := [.int i, .ref k, s0]) (σ := σ) (y := 245) (pc := 1289) (p1 := 1289) (ins := .iaload) (len := 1) (pl := 0) (a := 0) (b := 0) (v := .null) rfl rfl rfl rfl
  simpa [hk] using e
set_option maxRecDepth 100000 in
theorem s245_1290 {l0 l1 l2 l3 : Option Value} {x1 : Int32} {σ : xM} {Q : Option Value → xM → Prop} : xC 245 1290 [l0, l1, l2, l3] [.int x1, .ref 0] σ Q = xI1 139 [.ref 0, .int x1] σ (fun r σ' => xC 245 1293 [l0, l1, l2, l3] [.int r] σ' Q) := xC_callI (p1 := 1290) (ins := .invokevirtual 142) (len := 3) (pl := 978) (a := 139) (b := 2) (v := .null) rfl rfl rfl ⟨Nat.le_of_ble_eq_true rfl, Or.inl (Nat.le_of_ble_eq_true rfl), xa_139, Or.inr rfl, Nat.le_of_ble_eq_true rfl⟩ (Or.inl xr_139)
set_option maxRecDepth 100000 in
theorem s245_1293 {l0 l1 l3 : Option Value} {s0 : Value} {k : Nat} {σ : xM} {Q : Option Value → xM → Prop} : xC 245 1293 [l0, l1, some (.ref k), l3] [s0] σ Q = xC 245 1294 [l0, l1, some (.ref k), l3] [.ref k, s0] σ Q := xC_step (y := 245) (pc := 1293) (p1 := 1293) (ins := .aload_n 2) (len := 1) (pl := 0) (a := 0) (b := 0) (v := .null) rfl rfl rfl rfl
set_option maxRecDepth 100000 in
theorem s245_1294 {l1 l2 l3 : Option Value} {s0 s1 : Value} {k : Nat} {σ : xM} {Q : Option Value → xM → Prop} : xC 245 1294 [some (.ref k), l1, l2, l3] [s0, s1] σ Q = xC 245 1295 [some (.ref k), l1, l2, l3] [.ref k, s0, s1] σ Q := xC_step (y := 245) (pc := 1294) (p1 := 1294) (ins := .aload_n 0) (len := 1) (pl := 0) (a := 0) (b := 0) (v := .null) rfl rfl rfl rfl
set_option maxRecDepth 100000 in
theorem s245_1295 {l0 l1 l2 : Option Value} {s0 s1 s2 : Value} {x : Int32} {σ : xM} {Q : Option Value → xM → Prop} : xC 245 1295 [l0, l1, l2, some (.int x)] [s0, s1, s2] σ Q = xC 245 1296 [l0, l1, l2, some (.int x)] [.int x, s0, s1, s2] σ Q := xC_step (y := 245) (pc := 1295) (p1 := 1295) (ins := .iload_n 3) (len := 1) (pl := 0) (a := 0) (b := 0) (v := .null) rfl rfl rfl rfl
set_option maxRecDepth 100000 in
theorem s245_1296 {l0 l1 l2 l3 : Option Value} {s0 s1 s2 s3 : Value} {σ : xM} {Q : Option Value → xM → Prop} : xC 245 1296 [l0, l1, l2, l3] [s0, s1, s2, s3] σ Q = xC 245 1297 [l0, l1, l2, l3] [.int (1), s0, s1, s2, s3] σ Q := xC_step (y := 245) (pc := 1296) (p1 := 1296) (ins := .iconst 1) (len := 1) (pl := 0) (a := 0) (b := 0) (v := .int (1)) rfl rfl rfl rfl
set_option maxRecDepth 100000 in
theorem s245_1297 {l0 l1 l2 l3 : Option Value} {s0 s1 s2 : Value} {x y : Int32} {σ : xM} {Q : Option Value → xM → Prop} : xC 245 1297 [l0, l1, l2, l3] [.int y, .int x, s0, s1, s2] σ Q = xC 245 1298 [l0, l1, l2, l3] [.int (x + y), s0, s1, s2] σ Q := xC_step (y := 245) (pc := 1297) (p1 := 1297) (ins := .iadd) (len := 1) (pl := 0) (a := 0) (b := 0) (v := .null) rfl rfl rfl rfl
set_option maxRecDepth 100000 in
theorem s245_1298 {l0 l1 l2 l3 : Option Value} {s0 s1 : Value} {i : Int32} {k : Nat} {σ : xM} {Q : Option Value → xM → Prop} (hk : xe_cls k = 100) : xC 245 1298 [l0, l1, l2, l3] [.int i, .ref k, s0, s1] σ Q = ((0 ≤ i ∧ i.toNatClampNeg < xt_len.getD k 0) ∧ xC 245 1299 [l0, l1, l2, l3] [.int (σ.1 k i.toNatClampNeg), s0, s1] σ Q) := xC_and (y := 245) (pc := 1298) (p1 := 1298) (ins := .iaload) (len := 1) (pl := 0) (a := 0) (b := 0) (v := .null) rfl rfl rfl (xa_ial hk)
set_option maxRecDepth 100000 in
theorem s245_1298_g {l0 l1 l2 l3 : Option Value} {s0 s1 : Value} {i : Int32} {k : Nat} {σ : xM} {Q : Option Value → xM → Prop} (hk : xe_cls k = 110) : xC 245 1298 [l0, l1, l2, l3] [.int i, .ref k, s0, s1] σ Q = ((0 ≤ i ∧ i.toNatClampNeg < xe_len σ k) ∧ xC 245 1299 [l0, l1, l2, l3] [.int (xe_ax σ k i.toNatClampNeg), s0, s1] σ Q) := by
  have e := xC_and (Q := Q) (ls := [l0, l1, l2, l3]) (st := [.int i, .ref k, s0, s1]) (σ := σ) (y := 245) (pc := 1298) (p1 := 1298) (ins := .iaload) (len := 1) (pl := 0) (a := 0) (b := 0) (v := .null) rfl rfl rfl rfl
  simpa [hk] using e
set_option maxRecDepth 100000 in
theorem s245_1299 {l0 l1 l2 l3 : Option Value} {s0 : Value} {x1 : Int32} {σ : xM} {Q : Option Value → xM → Prop} : xC 245 1299 [l0, l1, l2, l3] [.int x1, .ref 84, s0] σ Q = xI1 234 [.ref 84, .int x1] σ (fun r σ' => xC 245 1302 [l0, l1, l2, l3] [.int r, s0] σ' Q) := xC_callI (p1 := 1299) (ins := .invokevirtual 145) (len := 3) (pl := 1454) (a := 234) (b := 2) (v := .null) rfl rfl rfl ⟨Nat.le_of_ble_eq_true rfl, Or.inl (Nat.le_of_ble_eq_true rfl), xa_234, Or.inr rfl, Nat.le_of_ble_eq_true rfl⟩ (Or.inl xr_234)
set_option maxRecDepth 100000 in
theorem s245_1302 {l0 l1 l2 l3 : Option Value} {x y : Int32} {σ : xM} {Q : Option Value → xM → Prop} : xC 245 1302 [l0, l1, l2, l3] [.int y, .int x] σ Q = (if x = y then xC 245 1551 [l0, l1, l2, l3] [] σ Q else xC 245 1305 [l0, l1, l2, l3] [] σ Q) := xC_if (y := 245) (pc := 1302) (p1 := 1302) (ins := .if_icmp .eq 249) (len := 3) (pl := 0) (a := 1551) (b := 0) (v := .null) rfl rfl rfl rfl
set_option maxRecDepth 100000 in
theorem s245_1305 {l0 l1 l2 l3 : Option Value} {σ : xM} {Q : Option Value → xM → Prop} : xC 245 1305 [l0, l1, l2, l3] [] σ Q = xC 245 1306 [l0, l1, l2, l3] [.int (0)] σ Q := xC_step (y := 245) (pc := 1305) (p1 := 1305) (ins := .iconst 0) (len := 1) (pl := 0) (a := 0) (b := 0) (v := .int (0)) rfl rfl rfl rfl
set_option maxRecDepth 100000 in
theorem s245_1306 {l0 l1 l2 l3 : Option Value} {x : Int32} {σ : xM} {Q : Option Value → xM → Prop} : xC 245 1306 [l0, l1, l2, l3] [.int x] σ Q = ((x = 0 ∨ x = 1) ∧ Q (some (.int x)) σ) := xC_retIf (y := 245) (pc := 1306) (p1 := 1306) (ins := .ireturn) (len := 1) (pl := 0) (a := 0) (b := 0) (v := .null) rfl rfl (by rw [xr_245]; rfl)
set_option maxRecDepth 100000 in
theorem s245_1307 {l0 l2 l3 : Option Value} {k : Nat} {σ : xM} {Q : Option Value → xM → Prop} : xC 245 1307 [l0, some (.ref k), l2, l3] [] σ Q = xC 245 1308 [l0, some (.ref k), l2, l3] [.ref k] σ Q := xC_step (y := 245) (pc := 1307) (p1 := 1307) (ins := .aload_n 1) (len := 1) (pl := 0) (a := 0) (b := 0) (v := .null) rfl rfl rfl rfl
set_option maxRecDepth 100000 in
theorem s245_1308 {l1 l2 l3 : Option Value} {s0 : Value} {k : Nat} {σ : xM} {Q : Option Value → xM → Prop} : xC 245 1308 [some (.ref k), l1, l2, l3] [s0] σ Q = xC 245 1309 [some (.ref k), l1, l2, l3] [.ref k, s0] σ Q := xC_step (y := 245) (pc := 1308) (p1 := 1308) (ins := .aload_n 0) (len := 1) (pl := 0) (a := 0) (b := 0) (v := .null) rfl rfl rfl rfl
set_option maxRecDepth 100000 in
theorem s245_1309 {l0 l1 l2 : Option Value} {s0 s1 : Value} {x : Int32} {σ : xM} {Q : Option Value → xM → Prop} : xC 245 1309 [l0, l1, l2, some (.int x)] [s0, s1] σ Q = xC 245 1310 [l0, l1, l2, some (.int x)] [.int x, s0, s1] σ Q := xC_step (y := 245) (pc := 1309) (p1 := 1309) (ins := .iload_n 3) (len := 1) (pl := 0) (a := 0) (b := 0) (v := .null) rfl rfl rfl rfl
set_option maxRecDepth 100000 in
theorem s245_1310 {l0 l1 l2 l3 : Option Value} {s0 s1 s2 : Value} {σ : xM} {Q : Option Value → xM → Prop} : xC 245 1310 [l0, l1, l2, l3] [s0, s1, s2] σ Q = xC 245 1311 [l0, l1, l2, l3] [.int (1), s0, s1, s2] σ Q := xC_step (y := 245) (pc := 1310) (p1 := 1310) (ins := .iconst 1) (len := 1) (pl := 0) (a := 0) (b := 0) (v := .int (1)) rfl rfl rfl rfl
set_option maxRecDepth 100000 in
theorem s245_1311 {l0 l1 l2 l3 : Option Value} {s0 s1 : Value} {x y : Int32} {σ : xM} {Q : Option Value → xM → Prop} : xC 245 1311 [l0, l1, l2, l3] [.int y, .int x, s0, s1] σ Q = xC 245 1312 [l0, l1, l2, l3] [.int (x + y), s0, s1] σ Q := xC_step (y := 245) (pc := 1311) (p1 := 1311) (ins := .iadd) (len := 1) (pl := 0) (a := 0) (b := 0) (v := .null) rfl rfl rfl rfl
set_option maxRecDepth 100000 in
theorem s245_1312 {l0 l1 l2 l3 : Option Value} {s0 : Value} {i : Int32} {k : Nat} {σ : xM} {Q : Option Value → xM → Prop} (hk : xe_cls k = 100) : xC 245 1312 [l0, l1, l2, l3] [.int i, .ref k, s0] σ Q = ((0 ≤ i ∧ i.toNatClampNeg < xt_len.getD k 0) ∧ xC 245 1313 [l0, l1, l2, l3] [.int (σ.1 k i.toNatClampNeg), s0] σ Q) := xC_and (y := 245) (pc := 1312) (p1 := 1312) (ins := .iaload) (len := 1) (pl := 0) (a := 0) (b := 0) (v := .null) rfl rfl rfl (xa_ial hk)
set_option maxRecDepth 100000 in
theorem s245_1312_g {l0 l1 l2 l3 : Option Value} {s0 : Value} {i : Int32} {k : Nat} {σ : xM} {Q : Option Value → xM → Prop} (hk : xe_cls k = 110) : xC 245 1312 [l0, l1, l2, l3] [.int i, .ref k, s0] σ Q = ((0 ≤ i ∧ i.toNatClampNeg < xe_len σ k) ∧ xC 245 1313 [l0, l1, l2, l3] [.int (xe_ax σ k i.toNatClampNeg), s0] σ Q) := by
  have e := xC_and (Q := Q) (ls := [l0, l1, l2, l3]) (st := [.int i, .ref k, s0]) (σ := σ) (y := 245) (pc := 1312) (p1 := 1312) (ins := .iaload) (len := 1) (pl := 0) (a := 0) (b := 0) (v := .null) rfl rfl rfl rfl
  simpa [hk] using e
set_option maxRecDepth 100000 in
theorem s245_1313 {l0 l1 l2 l3 : Option Value} {x1 : Int32} {σ : xM} {Q : Option Value → xM → Prop} : xC 245 1313 [l0, l1, l2, l3] [.int x1, .ref 0] σ Q = xI1 140 [.ref 0, .int x1] σ (fun r σ' => xC 245 1316 [l0, l1, l2, l3] [.int r] σ' Q) := xC_callI (p1 := 1313) (ins := .invokevirtual 146) (len := 3) (pl := 990) (a := 140) (b := 2) (v := .null) rfl rfl rfl ⟨Nat.le_of_ble_eq_true rfl, Or.inl (Nat.le_of_ble_eq_true rfl), xa_140, Or.inr rfl, Nat.le_of_ble_eq_true rfl⟩ (Or.inl xr_140)
set_option maxRecDepth 100000 in
theorem s245_1316 {l0 l1 l3 : Option Value} {s0 : Value} {k : Nat} {σ : xM} {Q : Option Value → xM → Prop} : xC 245 1316 [l0, l1, some (.ref k), l3] [s0] σ Q = xC 245 1317 [l0, l1, some (.ref k), l3] [.ref k, s0] σ Q := xC_step (y := 245) (pc := 1316) (p1 := 1316) (ins := .aload_n 2) (len := 1) (pl := 0) (a := 0) (b := 0) (v := .null) rfl rfl rfl rfl
set_option maxRecDepth 100000 in
theorem s245_1317 {l1 l2 l3 : Option Value} {s0 s1 : Value} {k : Nat} {σ : xM} {Q : Option Value → xM → Prop} : xC 245 1317 [some (.ref k), l1, l2, l3] [s0, s1] σ Q = xC 245 1318 [some (.ref k), l1, l2, l3] [.ref k, s0, s1] σ Q := xC_step (y := 245) (pc := 1317) (p1 := 1317) (ins := .aload_n 0) (len := 1) (pl := 0) (a := 0) (b := 0) (v := .null) rfl rfl rfl rfl
set_option maxRecDepth 100000 in
theorem s245_1318 {l0 l1 l2 : Option Value} {s0 s1 s2 : Value} {x : Int32} {σ : xM} {Q : Option Value → xM → Prop} : xC 245 1318 [l0, l1, l2, some (.int x)] [s0, s1, s2] σ Q = xC 245 1319 [l0, l1, l2, some (.int x)] [.int x, s0, s1, s2] σ Q := xC_step (y := 245) (pc := 1318) (p1 := 1318) (ins := .iload_n 3) (len := 1) (pl := 0) (a := 0) (b := 0) (v := .null) rfl rfl rfl rfl
set_option maxRecDepth 100000 in
theorem s245_1319 {l0 l1 l2 l3 : Option Value} {s0 s1 s2 s3 : Value} {σ : xM} {Q : Option Value → xM → Prop} : xC 245 1319 [l0, l1, l2, l3] [s0, s1, s2, s3] σ Q = xC 245 1320 [l0, l1, l2, l3] [.int (1), s0, s1, s2, s3] σ Q := xC_step (y := 245) (pc := 1319) (p1 := 1319) (ins := .iconst 1) (len := 1) (pl := 0) (a := 0) (b := 0) (v := .int (1)) rfl rfl rfl rfl
set_option maxRecDepth 100000 in
theorem s245_1320 {l0 l1 l2 l3 : Option Value} {s0 s1 s2 : Value} {x y : Int32} {σ : xM} {Q : Option Value → xM → Prop} : xC 245 1320 [l0, l1, l2, l3] [.int y, .int x, s0, s1, s2] σ Q = xC 245 1321 [l0, l1, l2, l3] [.int (x + y), s0, s1, s2] σ Q := xC_step (y := 245) (pc := 1320) (p1 := 1320) (ins := .iadd) (len := 1) (pl := 0) (a := 0) (b := 0) (v := .null) rfl rfl rfl rfl
set_option maxRecDepth 100000 in
theorem s245_1321 {l0 l1 l2 l3 : Option Value} {s0 s1 : Value} {i : Int32} {k : Nat} {σ : xM} {Q : Option Value → xM → Prop} (hk : xe_cls k = 100) : xC 245 1321 [l0, l1, l2, l3] [.int i, .ref k, s0, s1] σ Q = ((0 ≤ i ∧ i.toNatClampNeg < xt_len.getD k 0) ∧ xC 245 1322 [l0, l1, l2, l3] [.int (σ.1 k i.toNatClampNeg), s0, s1] σ Q) := xC_and (y := 245) (pc := 1321) (p1 := 1321) (ins := .iaload) (len := 1) (pl := 0) (a := 0) (b := 0) (v := .null) rfl rfl rfl (xa_ial hk)
set_option maxRecDepth 100000 in
theorem s245_1321_g {l0 l1 l2 l3 : Option Value} {s0 s1 : Value} {i : Int32} {k : Nat} {σ : xM} {Q : Option Value → xM → Prop} (hk : xe_cls k = 110) : xC 245 1321 [l0, l1, l2, l3] [.int i, .ref k, s0, s1] σ Q = ((0 ≤ i ∧ i.toNatClampNeg < xe_len σ k) ∧ xC 245 1322 [l0, l1, l2, l3] [.int (xe_ax σ k i.toNatClampNeg), s0, s1] σ Q) := by
  have e := xC_and (Q := Q) (ls := [l0, l1, l2, l3]) (st := [.int i, .ref k, s0, s1]) (σ := σ) (y := 245) (pc := 1321) (p1 := 1321) (ins := .iaload) (len := 1) (pl := 0) (a := 0) (b := 0) (v := .null) rfl rfl rfl rfl
  simpa [hk] using e
set_option maxRecDepth 100000 in
theorem s245_1322 {l0 l1 l2 l3 : Option Value} {s0 : Value} {x1 : Int32} {σ : xM} {Q : Option Value → xM → Prop} : xC 245 1322 [l0, l1, l2, l3] [.int x1, .ref 84, s0] σ Q = xI1 236 [.ref 84, .int x1] σ (fun r σ' => xC 245 1325 [l0, l1, l2, l3] [.int r, s0] σ' Q) := xC_callI (p1 := 1322) (ins := .invokevirtual 149) (len := 3) (pl := 1474) (a := 236) (b := 2) (v := .null) rfl rfl rfl ⟨Nat.le_of_ble_eq_true rfl, Or.inl (Nat.le_of_ble_eq_true rfl), xa_236, Or.inr rfl, Nat.le_of_ble_eq_true rfl⟩ (Or.inl xr_236)
set_option maxRecDepth 100000 in
theorem s245_1325 {l0 l1 l2 l3 : Option Value} {x y : Int32} {σ : xM} {Q : Option Value → xM → Prop} : xC 245 1325 [l0, l1, l2, l3] [.int y, .int x] σ Q = (if x = y then xC 245 1551 [l0, l1, l2, l3] [] σ Q else xC 245 1328 [l0, l1, l2, l3] [] σ Q) := xC_if (y := 245) (pc := 1325) (p1 := 1325) (ins := .if_icmp .eq 226) (len := 3) (pl := 0) (a := 1551) (b := 0) (v := .null) rfl rfl rfl rfl
set_option maxRecDepth 100000 in
theorem s245_1328 {l0 l1 l2 l3 : Option Value} {σ : xM} {Q : Option Value → xM → Prop} : xC 245 1328 [l0, l1, l2, l3] [] σ Q = xC 245 1329 [l0, l1, l2, l3] [.int (0)] σ Q := xC_step (y := 245) (pc := 1328) (p1 := 1328) (ins := .iconst 0) (len := 1) (pl := 0) (a := 0) (b := 0) (v := .int (0)) rfl rfl rfl rfl
set_option maxRecDepth 100000 in
theorem s245_1329 {l0 l1 l2 l3 : Option Value} {x : Int32} {σ : xM} {Q : Option Value → xM → Prop} : xC 245 1329 [l0, l1, l2, l3] [.int x] σ Q = ((x = 0 ∨ x = 1) ∧ Q (some (.int x)) σ) := xC_retIf (y := 245) (pc := 1329) (p1 := 1329) (ins := .ireturn) (len := 1) (pl := 0) (a := 0) (b := 0) (v := .null) rfl rfl (by rw [xr_245]; rfl)
set_option maxRecDepth 100000 in
theorem s245_1330 {l0 l2 l3 : Option Value} {k : Nat} {σ : xM} {Q : Option Value → xM → Prop} : xC 245 1330 [l0, some (.ref k), l2, l3] [] σ Q = xC 245 1331 [l0, some (.ref k), l2, l3] [.ref k] σ Q := xC_step (y := 245) (pc := 1330) (p1 := 1330) (ins := .aload_n 1) (len := 1) (pl := 0) (a := 0) (b := 0) (v := .null) rfl rfl rfl rfl
set_option maxRecDepth 100000 in
theorem s245_1331 {l1 l2 l3 : Option Value} {s0 : Value} {k : Nat} {σ : xM} {Q : Option Value → xM → Prop} : xC 245 1331 [some (.ref k), l1, l2, l3] [s0] σ Q = xC 245 1332 [some (.ref k), l1, l2, l3] [.ref k, s0] σ Q := xC_step (y := 245) (pc := 1331) (p1 := 1331) (ins := .aload_n 0) (len := 1) (pl := 0) (a := 0) (b := 0) (v := .null) rfl rfl rfl rfl
set_option maxRecDepth 100000 in
theorem s245_1332 {l0 l1 l2 : Option Value} {s0 s1 : Value} {x : Int32} {σ : xM} {Q : Option Value → xM → Prop} : xC 245 1332 [l0, l1, l2, some (.int x)] [s0, s1] σ Q = xC 245 1333 [l0, l1, l2, some (.int x)] [.int x, s0, s1] σ Q := xC_step (y := 245) (pc := 1332) (p1 := 1332) (ins := .iload_n 3) (len := 1) (pl := 0) (a := 0) (b := 0) (v := .null) rfl rfl rfl rfl
set_option maxRecDepth 100000 in
theorem s245_1333 {l0 l1 l2 l3 : Option Value} {s0 s1 s2 : Value} {σ : xM} {Q : Option Value → xM → Prop} : xC 245 1333 [l0, l1, l2, l3] [s0, s1, s2] σ Q = xC 245 1334 [l0, l1, l2, l3] [.int (1), s0, s1, s2] σ Q := xC_step (y := 245) (pc := 1333) (p1 := 1333) (ins := .iconst 1) (len := 1) (pl := 0) (a := 0) (b := 0) (v := .int (1)) rfl rfl rfl rfl
set_option maxRecDepth 100000 in
theorem s245_1334 {l0 l1 l2 l3 : Option Value} {s0 s1 : Value} {x y : Int32} {σ : xM} {Q : Option Value → xM → Prop} : xC 245 1334 [l0, l1, l2, l3] [.int y, .int x, s0, s1] σ Q = xC 245 1335 [l0, l1, l2, l3] [.int (x + y), s0, s1] σ Q := xC_step (y := 245) (pc := 1334) (p1 := 1334) (ins := .iadd) (len := 1) (pl := 0) (a := 0) (b := 0) (v := .null) rfl rfl rfl rfl
set_option maxRecDepth 100000 in
theorem s245_1335 {l0 l1 l2 l3 : Option Value} {s0 : Value} {i : Int32} {k : Nat} {σ : xM} {Q : Option Value → xM → Prop} (hk : xe_cls k = 100) : xC 245 1335 [l0, l1, l2, l3] [.int i, .ref k, s0] σ Q = ((0 ≤ i ∧ i.toNatClampNeg < xt_len.getD k 0) ∧ xC 245 1336 [l0, l1, l2, l3] [.int (σ.1 k i.toNatClampNeg), s0] σ Q) := xC_and (y := 245) (pc := 1335) (p1 := 1335) (ins := .iaload) (len := 1) (pl := 0) (a := 0) (b := 0) (v := .null) rfl rfl rfl (xa_ial hk)
set_option maxRecDepth 100000 in
theorem s245_1335_g {l0 l1 l2 l3 : Option Value} {s0 : Value} {i : Int32} {k : Nat} {σ : xM} {Q : Option Value → xM → Prop} (hk : xe_cls k = 110) : xC 245 1335 [l0, l1, l2, l3] [.int i, .ref k, s0] σ Q = ((0 ≤ i ∧ i.toNatClampNeg < xe_len σ k) ∧ xC 245 1336 [l0, l1, l2, l3] [.int (xe_ax σ k i.toNatClampNeg), s0] σ Q) := by
  have e := xC_and (Q := Q) (ls := [l0, l1, l2, l3]) (st := [.int i, .ref k, s0]) (σ := σ) (y := 245) (pc := 1335) (p1 := 1335) (ins := .iaload) (len := 1) (pl := 0) (a := 0) (b := 0) (v := .null) rfl rfl rfl rfl
  simpa [hk] using e
set_option maxRecDepth 100000 in
theorem s245_1336 {l1 l2 l3 : Option Value} {s0 s1 : Value} {k : Nat} {σ : xM} {Q : Option Value → xM → Prop} : xC 245 1336 [some (.ref k), l1, l2, l3] [s0, s1] σ Q = xC 245 1337 [some (.ref k), l1, l2, l3] [.ref k, s0, s1] σ Q := xC_step (y := 245) (pc := 1336) (p1 := 1336) (ins := .aload_n 0) (len := 1) (pl := 0) (a := 0) (b := 0) (v := .null) rfl rfl rfl rfl
set_option maxRecDepth 100000 in
theorem s245_1337 {l0 l1 l2 : Option Value} {s0 s1 s2 : Value} {x : Int32} {σ : xM} {Q : Option Value → xM → Prop} : xC 245 1337 [l0, l1, l2, some (.int x)] [s0, s1, s2] σ Q = xC 245 1338 [l0, l1, l2, some (.int x)] [.int x, s0, s1, s2] σ Q := xC_step (y := 245) (pc := 1337) (p1 := 1337) (ins := .iload_n 3) (len := 1) (pl := 0) (a := 0) (b := 0) (v := .null) rfl rfl rfl rfl
set_option maxRecDepth 100000 in
theorem s245_1338 {l0 l1 l2 l3 : Option Value} {s0 s1 s2 s3 : Value} {σ : xM} {Q : Option Value → xM → Prop} : xC 245 1338 [l0, l1, l2, l3] [s0, s1, s2, s3] σ Q = xC 245 1339 [l0, l1, l2, l3] [.int (2), s0, s1, s2, s3] σ Q := xC_step (y := 245) (pc := 1338) (p1 := 1338) (ins := .iconst 2) (len := 1) (pl := 0) (a := 0) (b := 0) (v := .int (2)) rfl rfl rfl rfl
set_option maxRecDepth 100000 in
theorem s245_1339 {l0 l1 l2 l3 : Option Value} {s0 s1 s2 : Value} {x y : Int32} {σ : xM} {Q : Option Value → xM → Prop} : xC 245 1339 [l0, l1, l2, l3] [.int y, .int x, s0, s1, s2] σ Q = xC 245 1340 [l0, l1, l2, l3] [.int (x + y), s0, s1, s2] σ Q := xC_step (y := 245) (pc := 1339) (p1 := 1339) (ins := .iadd) (len := 1) (pl := 0) (a := 0) (b := 0) (v := .null) rfl rfl rfl rfl
set_option maxRecDepth 100000 in
theorem s245_1340 {l0 l1 l2 l3 : Option Value} {s0 s1 : Value} {i : Int32} {k : Nat} {σ : xM} {Q : Option Value → xM → Prop} (hk : xe_cls k = 100) : xC 245 1340 [l0, l1, l2, l3] [.int i, .ref k, s0, s1] σ Q = ((0 ≤ i ∧ i.toNatClampNeg < xt_len.getD k 0) ∧ xC 245 1341 [l0, l1, l2, l3] [.int (σ.1 k i.toNatClampNeg), s0, s1] σ Q) := xC_and (y := 245) (pc := 1340) (p1 := 1340) (ins := .iaload) (len := 1) (pl := 0) (a := 0) (b := 0) (v := .null) rfl rfl rfl (xa_ial hk)
set_option maxRecDepth 100000 in
theorem s245_1340_g {l0 l1 l2 l3 : Option Value} {s0 s1 : Value} {i : Int32} {k : Nat} {σ : xM} {Q : Option Value → xM → Prop} (hk : xe_cls k = 110) : xC 245 1340 [l0, l1, l2, l3] [.int i, .ref k, s0, s1] σ Q = ((0 ≤ i ∧ i.toNatClampNeg < xe_len σ k) ∧ xC 245 1341 [l0, l1, l2, l3] [.int (xe_ax σ k i.toNatClampNeg), s0, s1] σ Q) := by
  have e := xC_and (Q := Q) (ls := [l0, l1, l2, l3]) (st := [.int i, .ref k, s0, s1]) (σ := σ) (y := 245) (pc := 1340) (p1 := 1340) (ins := .iaload) (len := 1) (pl := 0) (a := 0) (b := 0) (v := .null) rfl rfl rfl rfl
  simpa [hk] using e
set_option maxRecDepth 100000 in
theorem s245_1341 {l1 l2 l3 : Option Value} {s0 s1 s2 : Value} {k : Nat} {σ : xM} {Q : Option Value → xM → Prop} : xC 245 1341 [some (.ref k), l1, l2, l3] [s0, s1, s2] σ Q = xC 245 1342 [some (.ref k), l1, l2, l3] [.ref k, s0, s1, s2] σ Q := xC_step (y := 245) (pc := 1341) (p1 := 1341) (ins := .aload_n 0) (len := 1) (pl := 0) (a := 0) (b := 0) (v := .null) rfl rfl rfl rfl
set_option maxRecDepth 100000 in
theorem s245_1342 {l0 l1 l2 : Option Value} {s0 s1 s2 s3 : Value} {x : Int32} {σ : xM} {Q : Option Value → xM → Prop} : xC 245 1342 [l0, l1, l2, some (.int x)] [s0, s1, s2, s3] σ Q = xC 245 1343 [l0, l1, l2, some (.int x)] [.int x, s0, s1, s2, s3] σ Q := xC_step (y := 245) (pc := 1342) (p1 := 1342) (ins := .iload_n 3) (len := 1) (pl := 0) (a := 0) (b := 0) (v := .null) rfl rfl rfl rfl
set_option maxRecDepth 100000 in
theorem s245_1343 {l0 l1 l2 l3 : Option Value} {s0 s1 s2 s3 s4 : Value} {σ : xM} {Q : Option Value → xM → Prop} : xC 245 1343 [l0, l1, l2, l3] [s0, s1, s2, s3, s4] σ Q = xC 245 1344 [l0, l1, l2, l3] [.int (3), s0, s1, s2, s3, s4] σ Q := xC_step (y := 245) (pc := 1343) (p1 := 1343) (ins := .iconst 3) (len := 1) (pl := 0) (a := 0) (b := 0) (v := .int (3)) rfl rfl rfl rfl
set_option maxRecDepth 100000 in
theorem s245_1344 {l0 l1 l2 l3 : Option Value} {s0 s1 s2 s3 : Value} {x y : Int32} {σ : xM} {Q : Option Value → xM → Prop} : xC 245 1344 [l0, l1, l2, l3] [.int y, .int x, s0, s1, s2, s3] σ Q = xC 245 1345 [l0, l1, l2, l3] [.int (x + y), s0, s1, s2, s3] σ Q := xC_step (y := 245) (pc := 1344) (p1 := 1344) (ins := .iadd) (len := 1) (pl := 0) (a := 0) (b := 0) (v := .null) rfl rfl rfl rfl
set_option maxRecDepth 100000 in
theorem s245_1345 {l0 l1 l2 l3 : Option Value} {s0 s1 s2 : Value} {i : Int32} {k : Nat} {σ : xM} {Q : Option Value → xM → Prop} (hk : xe_cls k = 100) : xC 245 1345 [l0, l1, l2, l3] [.int i, .ref k, s0, s1, s2] σ Q = ((0 ≤ i ∧ i.toNatClampNeg < xt_len.getD k 0) ∧ xC 245 1346 [l0, l1, l2, l3] [.int (σ.1 k i.toNatClampNeg), s0, s1, s2] σ Q) := xC_and (y := 245) (pc := 1345) (p1 := 1345) (ins := .iaload) (len := 1) (pl := 0) (a := 0) (b := 0) (v := .null) rfl rfl rfl (xa_ial hk)
set_option maxRecDepth 100000 in
theorem s245_1345_g {l0 l1 l2 l3 : Option Value} {s0 s1 s2 : Value} {i : Int32} {k : Nat} {σ : xM} {Q : Option Value → xM → Prop} (hk : xe_cls k = 110) : xC 245 1345 [l0, l1, l2, l3] [.int i, .ref k, s0, s1, s2] σ Q = ((0 ≤ i ∧ i.toNatClampNeg < xe_len σ k) ∧ xC 245 1346 [l0, l1, l2, l3] [.int (xe_ax σ k i.toNatClampNeg), s0, s1, s2] σ Q) := by
  have e := xC_and (Q := Q) (ls := [l0, l1, l2, l3]) (st := [.int i, .ref k, s0, s1, s2]) (σ := σ) (y := 245) (pc := 1345) (p1 := 1345) (ins := .iaload) (len := 1) (pl := 0) (a := 0) (b := 0) (v := .null) rfl rfl rfl rfl
  simpa [hk] using e
set_option maxRecDepth 100000 in
theorem s245_1346 {l0 l1 l2 l3 : Option Value} {x1 : Int32} {x2 : Int32} {x3 : Int32} {σ : xM} {Q : Option Value → xM → Prop} : xC 245 1346 [l0, l1, l2, l3] [.int x3, .int x2, .int x1, .ref 0] σ Q = xI1 141 [.ref 0, .int x1, .int x2, .int x3] σ (fun r σ' => xC 245 1349 [l0, l1, l2, l3] [.int r] σ' Q) := xC_callI (p1 := 1346) (ins := .invokevirtual 150) (len := 3) (pl := 1020) (a := 141) (b := 4) (v := .null) rfl rfl rfl ⟨Nat.le_of_ble_eq_true rfl, Or.inl (Nat.le_of_ble_eq_true rfl), xa_141, Or.inr rfl, Nat.le_of_ble_eq_true rfl⟩ (Or.inl xr_141)
set_option maxRecDepth 100000 in
theorem s245_1349 {l0 l1 l3 : Option Value} {s0 : Value} {k : Nat} {σ : xM} {Q : Option Value → xM → Prop} : xC 245 1349 [l0, l1, some (.ref k), l3] [s0] σ Q = xC 245 1350 [l0, l1, some (.ref k), l3] [.ref k, s0] σ Q := xC_step (y := 245) (pc := 1349) (p1 := 1349) (ins := .aload_n 2) (len := 1) (pl := 0) (a := 0) (b := 0) (v := .null) rfl rfl rfl rfl
set_option maxRecDepth 100000 in
theorem s245_1350 {l1 l2 l3 : Option Value} {s0 s1 : Value} {k : Nat} {σ : xM} {Q : Option Value → xM → Prop} : xC 245 1350 [some (.ref k), l1, l2, l3] [s0, s1] σ Q = xC 245 1351 [some (.ref k), l1, l2, l3] [.ref k, s0, s1] σ Q := xC_step (y := 245) (pc := 1350) (p1 := 1350) (ins := .aload_n 0) (len := 1) (pl := 0) (a := 0) (b := 0) (v := .null) rfl rfl rfl rfl
set_option maxRecDepth 100000 in
theorem s245_1351 {l0 l1 l2 : Option Value} {s0 s1 s2 : Value} {x : Int32} {σ : xM} {Q : Option Value → xM → Prop} : xC 245 1351 [l0, l1, l2, some (.int x)] [s0, s1, s2] σ Q = xC 245 1352 [l0, l1, l2, some (.int x)] [.int x, s0, s1, s2] σ Q := xC_step (y := 245) (pc := 1351) (p1 := 1351) (ins := .iload_n 3) (len := 1) (pl := 0) (a := 0) (b := 0) (v := .null) rfl rfl rfl rfl
set_option maxRecDepth 100000 in
theorem s245_1352 {l0 l1 l2 l3 : Option Value} {s0 s1 s2 s3 : Value} {σ : xM} {Q : Option Value → xM → Prop} : xC 245 1352 [l0, l1, l2, l3] [s0, s1, s2, s3] σ Q = xC 245 1353 [l0, l1, l2, l3] [.int (1), s0, s1, s2, s3] σ Q := xC_step (y := 245) (pc := 1352) (p1 := 1352) (ins := .iconst 1) (len := 1) (pl := 0) (a := 0) (b := 0) (v := .int (1)) rfl rfl rfl rfl
set_option maxRecDepth 100000 in
theorem s245_1353 {l0 l1 l2 l3 : Option Value} {s0 s1 s2 : Value} {x y : Int32} {σ : xM} {Q : Option Value → xM → Prop} : xC 245 1353 [l0, l1, l2, l3] [.int y, .int x, s0, s1, s2] σ Q = xC 245 1354 [l0, l1, l2, l3] [.int (x + y), s0, s1, s2] σ Q := xC_step (y := 245) (pc := 1353) (p1 := 1353) (ins := .iadd) (len := 1) (pl := 0) (a := 0) (b := 0) (v := .null) rfl rfl rfl rfl
set_option maxRecDepth 100000 in
theorem s245_1354 {l0 l1 l2 l3 : Option Value} {s0 s1 : Value} {i : Int32} {k : Nat} {σ : xM} {Q : Option Value → xM → Prop} (hk : xe_cls k = 100) : xC 245 1354 [l0, l1, l2, l3] [.int i, .ref k, s0, s1] σ Q = ((0 ≤ i ∧ i.toNatClampNeg < xt_len.getD k 0) ∧ xC 245 1355 [l0, l1, l2, l3] [.int (σ.1 k i.toNatClampNeg), s0, s1] σ Q) := xC_and (y := 245) (pc := 1354) (p1 := 1354) (ins := .iaload) (len := 1) (pl := 0) (a := 0) (b := 0) (v := .null) rfl rfl rfl (xa_ial hk)
set_option maxRecDepth 100000 in
theorem s245_1354_g {l0 l1 l2 l3 : Option Value} {s0 s1 : Value} {i : Int32} {k : Nat} {σ : xM} {Q : Option Value → xM → Prop} (hk : xe_cls k = 110) : xC 245 1354 [l0, l1, l2, l3] [.int i, .ref k, s0, s1] σ Q = ((0 ≤ i ∧ i.toNatClampNeg < xe_len σ k) ∧ xC 245 1355 [l0, l1, l2, l3] [.int (xe_ax σ k i.toNatClampNeg), s0, s1] σ Q) := by
  have e := xC_and (Q := Q) (ls := [l0, l1, l2, l3]) (st := [.int i, .ref k, s0, s1]) (σ := σ) (y := 245) (pc := 1354) (p1 := 1354) (ins := .iaload) (len := 1) (pl := 0) (a := 0) (b := 0) (v := .null) rfl rfl rfl rfl
  simpa [hk] using e
set_option maxRecDepth 100000 in
theorem s245_1355 {l1 l2 l3 : Option Value} {s0 s1 s2 : Value} {k : Nat} {σ : xM} {Q : Option Value → xM → Prop} : xC 245 1355 [some (.ref k), l1, l2, l3] [s0, s1, s2] σ Q = xC 245 1356 [some (.ref k), l1, l2, l3] [.ref k, s0, s1, s2] σ Q := xC_step (y := 245) (pc := 1355) (p1 := 1355) (ins := .aload_n 0) (len := 1) (pl := 0) (a := 0) (b := 0) (v := .null) rfl rfl rfl rfl
set_option maxRecDepth 100000 in
theorem s245_1356 {l0 l1 l2 : Option Value} {s0 s1 s2 s3 : Value} {x : Int32} {σ : xM} {Q : Option Value → xM → Prop} : xC 245 1356 [l0, l1, l2, some (.int x)] [s0, s1, s2, s3] σ Q = xC 245 1357 [l0, l1, l2, some (.int x)] [.int x, s0, s1, s2, s3] σ Q := xC_step (y := 245) (pc := 1356) (p1 := 1356) (ins := .iload_n 3) (len := 1) (pl := 0) (a := 0) (b := 0) (v := .null) rfl rfl rfl rfl
set_option maxRecDepth 100000 in
theorem s245_1357 {l0 l1 l2 l3 : Option Value} {s0 s1 s2 s3 s4 : Value} {σ : xM} {Q : Option Value → xM → Prop} : xC 245 1357 [l0, l1, l2, l3] [s0, s1, s2, s3, s4] σ Q = xC 245 1358 [l0, l1, l2, l3] [.int (2), s0, s1, s2, s3, s4] σ Q := xC_step (y := 245) (pc := 1357) (p1 := 1357) (ins := .iconst 2) (len := 1) (pl := 0) (a := 0) (b := 0) (v := .int (2)) rfl rfl rfl rfl
set_option maxRecDepth 100000 in
theorem s245_1358 {l0 l1 l2 l3 : Option Value} {s0 s1 s2 s3 : Value} {x y : Int32} {σ : xM} {Q : Option Value → xM → Prop} : xC 245 1358 [l0, l1, l2, l3] [.int y, .int x, s0, s1, s2, s3] σ Q = xC 245 1359 [l0, l1, l2, l3] [.int (x + y), s0, s1, s2, s3] σ Q := xC_step (y := 245) (pc := 1358) (p1 := 1358) (ins := .iadd) (len := 1) (pl := 0) (a := 0) (b := 0) (v := .null) rfl rfl rfl rfl
set_option maxRecDepth 100000 in
theorem s245_1359 {l0 l1 l2 l3 : Option Value} {s0 s1 s2 : Value} {i : Int32} {k : Nat} {σ : xM} {Q : Option Value → xM → Prop} (hk : xe_cls k = 100) : xC 245 1359 [l0, l1, l2, l3] [.int i, .ref k, s0, s1, s2] σ Q = ((0 ≤ i ∧ i.toNatClampNeg < xt_len.getD k 0) ∧ xC 245 1360 [l0, l1, l2, l3] [.int (σ.1 k i.toNatClampNeg), s0, s1, s2] σ Q) := xC_and (y := 245) (pc := 1359) (p1 := 1359) (ins := .iaload) (len := 1) (pl := 0) (a := 0) (b := 0) (v := .null) rfl rfl rfl (xa_ial hk)
set_option maxRecDepth 100000 in
theorem s245_1359_g {l0 l1 l2 l3 : Option Value} {s0 s1 s2 : Value} {i : Int32} {k : Nat} {σ : xM} {Q : Option Value → xM → Prop} (hk : xe_cls k = 110) : xC 245 1359 [l0, l1, l2, l3] [.int i, .ref k, s0, s1, s2] σ Q = ((0 ≤ i ∧ i.toNatClampNeg < xe_len σ k) ∧ xC 245 1360 [l0, l1, l2, l3] [.int (xe_ax σ k i.toNatClampNeg), s0, s1, s2] σ Q) := by
  have e := xC_and (Q := Q) (ls := [l0, l1, l2, l3]) (st := [.int i, .ref k, s0, s1, s2]) (σ := σ) (y := 245) (pc := 1359) (p1 := 1359) (ins := .iaload) (len := 1) (pl := 0) (a := 0) (b := 0) (v := .null) rfl rfl rfl rfl
  simpa [hk] using e
set_option maxRecDepth 100000 in
theorem s245_1360 {l1 l2 l3 : Option Value} {s0 s1 s2 s3 : Value} {k : Nat} {σ : xM} {Q : Option Value → xM → Prop} : xC 245 1360 [some (.ref k), l1, l2, l3] [s0, s1, s2, s3] σ Q = xC 245 1361 [some (.ref k), l1, l2, l3] [.ref k, s0, s1, s2, s3] σ Q := xC_step (y := 245) (pc := 1360) (p1 := 1360) (ins := .aload_n 0) (len := 1) (pl := 0) (a := 0) (b := 0) (v := .null) rfl rfl rfl rfl
set_option maxRecDepth 100000 in
theorem s245_1361 {l0 l1 l2 : Option Value} {s0 s1 s2 s3 s4 : Value} {x : Int32} {σ : xM} {Q : Option Value → xM → Prop} : xC 245 1361 [l0, l1, l2, some (.int x)] [s0, s1, s2, s3, s4] σ Q = xC 245 1362 [l0, l1, l2, some (.int x)] [.int x, s0, s1, s2, s3, s4] σ Q := xC_step (y := 245) (pc := 1361) (p1 := 1361) (ins := .iload_n 3) (len := 1) (pl := 0) (a := 0) (b := 0) (v := .null) rfl rfl rfl rfl
set_option maxRecDepth 100000 in
theorem s245_1362 {l0 l1 l2 l3 : Option Value} {s0 s1 s2 s3 s4 s5 : Value} {σ : xM} {Q : Option Value → xM → Prop} : xC 245 1362 [l0, l1, l2, l3] [s0, s1, s2, s3, s4, s5] σ Q = xC 245 1363 [l0, l1, l2, l3] [.int (3), s0, s1, s2, s3, s4, s5] σ Q := xC_step (y := 245) (pc := 1362) (p1 := 1362) (ins := .iconst 3) (len := 1) (pl := 0) (a := 0) (b := 0) (v := .int (3)) rfl rfl rfl rfl
set_option maxRecDepth 100000 in
theorem s245_1363 {l0 l1 l2 l3 : Option Value} {s0 s1 s2 s3 s4 : Value} {x y : Int32} {σ : xM} {Q : Option Value → xM → Prop} : xC 245 1363 [l0, l1, l2, l3] [.int y, .int x, s0, s1, s2, s3, s4] σ Q = xC 245 1364 [l0, l1, l2, l3] [.int (x + y), s0, s1, s2, s3, s4] σ Q := xC_step (y := 245) (pc := 1363) (p1 := 1363) (ins := .iadd) (len := 1) (pl := 0) (a := 0) (b := 0) (v := .null) rfl rfl rfl rfl
set_option maxRecDepth 100000 in
theorem s245_1364 {l0 l1 l2 l3 : Option Value} {s0 s1 s2 s3 : Value} {i : Int32} {k : Nat} {σ : xM} {Q : Option Value → xM → Prop} (hk : xe_cls k = 100) : xC 245 1364 [l0, l1, l2, l3] [.int i, .ref k, s0, s1, s2, s3] σ Q = ((0 ≤ i ∧ i.toNatClampNeg < xt_len.getD k 0) ∧ xC 245 1365 [l0, l1, l2, l3] [.int (σ.1 k i.toNatClampNeg), s0, s1, s2, s3] σ Q) := xC_and (y := 245) (pc := 1364) (p1 := 1364) (ins := .iaload) (len := 1) (pl := 0) (a := 0) (b := 0) (v := .null) rfl rfl rfl (xa_ial hk)
set_option maxRecDepth 100000 in
theorem s245_1364_g {l0 l1 l2 l3 : Option Value} {s0 s1 s2 s3 : Value} {i : Int32} {k : Nat} {σ : xM} {Q : Option Value → xM → Prop} (hk : xe_cls k = 110) : xC 245 1364 [l0, l1, l2, l3] [.int i, .ref k, s0, s1, s2, s3] σ Q = ((0 ≤ i ∧ i.toNatClampNeg < xe_len σ k) ∧ xC 245 1365 [l0, l1, l2, l3] [.int (xe_ax σ k i.toNatClampNeg), s0, s1, s2, s3] σ Q) := by
  have e := xC_and (Q := Q) (ls := [l0, l1, l2, l3]) (st := [.int i, .ref k, s0, s1, s2, s3]) (σ := σ) (y := 245) (pc := 1364) (p1 := 1364) (ins := .iaload) (len := 1) (pl := 0) (a := 0) (b := 0) (v := .null) rfl rfl rfl rfl
  simpa [hk] using e
set_option maxRecDepth 100000 in
theorem s245_1365 {l0 l1 l2 l3 : Option Value} {s0 : Value} {x1 : Int32} {x2 : Int32} {x3 : Int32} {σ : xM} {Q : Option Value → xM → Prop} : xC 245 1365 [l0, l1, l2, l3] [.int x3, .int x2, .int x1, .ref 84, s0] σ Q = xI1 237 [.ref 84, .int x1, .int x2, .int x3] σ (fun r σ' => xC 245 1368 [l0, l1, l2, l3] [.int r, s0] σ' Q) := xC_callI (p1 := 1365) (ins := .invokevirtual 153) (len := 3) (pl := 1481) (a := 237) (b := 4) (v := .null) rfl rfl rfl ⟨Nat.le_of_ble_eq_true rfl, Or.inl (Nat.le_of_ble_eq_true rfl), xa_237, Or.inr rfl, Nat.le_of_ble_eq_true rfl⟩ (Or.inl xr_237)
set_option maxRecDepth 100000 in
theorem s245_1368 {l0 l1 l2 l3 : Option Value} {x y : Int32} {σ : xM} {Q : Option Value → xM → Prop} : xC 245 1368 [l0, l1, l2, l3] [.int y, .int x] σ Q = (if x = y then xC 245 1551 [l0, l1, l2, l3] [] σ Q else xC 245 1371 [l0, l1, l2, l3] [] σ Q) := xC_if (y := 245) (pc := 1368) (p1 := 1368) (ins := .if_icmp .eq 183) (len := 3) (pl := 0) (a := 1551) (b := 0) (v := .null) rfl rfl rfl rfl
set_option maxRecDepth 100000 in
theorem s245_1371 {l0 l1 l2 l3 : Option Value} {σ : xM} {Q : Option Value → xM → Prop} : xC 245 1371 [l0, l1, l2, l3] [] σ Q = xC 245 1372 [l0, l1, l2, l3] [.int (0)] σ Q := xC_step (y := 245) (pc := 1371) (p1 := 1371) (ins := .iconst 0) (len := 1) (pl := 0) (a := 0) (b := 0) (v := .int (0)) rfl rfl rfl rfl
set_option maxRecDepth 100000 in
theorem s245_1372 {l0 l1 l2 l3 : Option Value} {x : Int32} {σ : xM} {Q : Option Value → xM → Prop} : xC 245 1372 [l0, l1, l2, l3] [.int x] σ Q = ((x = 0 ∨ x = 1) ∧ Q (some (.int x)) σ) := xC_retIf (y := 245) (pc := 1372) (p1 := 1372) (ins := .ireturn) (len := 1) (pl := 0) (a := 0) (b := 0) (v := .null) rfl rfl (by rw [xr_245]; rfl)
set_option maxRecDepth 100000 in
theorem s245_1373 {l0 l2 l3 : Option Value} {k : Nat} {σ : xM} {Q : Option Value → xM → Prop} : xC 245 1373 [l0, some (.ref k), l2, l3] [] σ Q = xC 245 1374 [l0, some (.ref k), l2, l3] [.ref k] σ Q := xC_step (y := 245) (pc := 1373) (p1 := 1373) (ins := .aload_n 1) (len := 1) (pl := 0) (a := 0) (b := 0) (v := .null) rfl rfl rfl rfl
set_option maxRecDepth 100000 in
theorem s245_1374 {l1 l2 l3 : Option Value} {s0 : Value} {k : Nat} {σ : xM} {Q : Option Value → xM → Prop} : xC 245 1374 [some (.ref k), l1, l2, l3] [s0] σ Q = xC 245 1375 [some (.ref k), l1, l2, l3] [.ref k, s0] σ Q := xC_step (y := 245) (pc := 1374) (p1 := 1374) (ins := .aload_n 0) (len := 1) (pl := 0) (a := 0) (b := 0) (v := .null) rfl rfl rfl rfl
set_option maxRecDepth 100000 in
theorem s245_1375 {l0 l1 l2 : Option Value} {s0 s1 : Value} {x : Int32} {σ : xM} {Q : Option Value → xM → Prop} : xC 245 1375 [l0, l1, l2, some (.int x)] [s0, s1] σ Q = xC 245 1376 [l0, l1, l2, some (.int x)] [.int x, s0, s1] σ Q := xC_step (y := 245) (pc := 1375) (p1 := 1375) (ins := .iload_n 3) (len := 1) (pl := 0) (a := 0) (b := 0) (v := .null) rfl rfl rfl rfl
set_option maxRecDepth 100000 in
theorem s245_1376 {l0 l1 l2 l3 : Option Value} {s0 s1 s2 : Value} {σ : xM} {Q : Option Value → xM → Prop} : xC 245 1376 [l0, l1, l2, l3] [s0, s1, s2] σ Q = xC 245 1377 [l0, l1, l2, l3] [.int (1), s0, s1, s2] σ Q := xC_step (y := 245) (pc := 1376) (p1 := 1376) (ins := .iconst 1) (len := 1) (pl := 0) (a := 0) (b := 0) (v := .int (1)) rfl rfl rfl rfl
set_option maxRecDepth 100000 in
theorem s245_1377 {l0 l1 l2 l3 : Option Value} {s0 s1 : Value} {x y : Int32} {σ : xM} {Q : Option Value → xM → Prop} : xC 245 1377 [l0, l1, l2, l3] [.int y, .int x, s0, s1] σ Q = xC 245 1378 [l0, l1, l2, l3] [.int (x + y), s0, s1] σ Q := xC_step (y := 245) (pc := 1377) (p1 := 1377) (ins := .iadd) (len := 1) (pl := 0) (a := 0) (b := 0) (v := .null) rfl rfl rfl rfl
set_option maxRecDepth 100000 in
theorem s245_1378 {l0 l1 l2 l3 : Option Value} {s0 : Value} {i : Int32} {k : Nat} {σ : xM} {Q : Option Value → xM → Prop} (hk : xe_cls k = 100) : xC 245 1378 [l0, l1, l2, l3] [.int i, .ref k, s0] σ Q = ((0 ≤ i ∧ i.toNatClampNeg < xt_len.getD k 0) ∧ xC 245 1379 [l0, l1, l2, l3] [.int (σ.1 k i.toNatClampNeg), s0] σ Q) := xC_and (y := 245) (pc := 1378) (p1 := 1378) (ins := .iaload) (len := 1) (pl := 0) (a := 0) (b := 0) (v := .null) rfl rfl rfl (xa_ial hk)
set_option maxRecDepth 100000 in
theorem s245_1378_g {l0 l1 l2 l3 : Option Value} {s0 : Value} {i : Int32} {k : Nat} {σ : xM} {Q : Option Value → xM → Prop} (hk : xe_cls k = 110) : xC 245 1378 [l0, l1, l2, l3] [.int i, .ref k, s0] σ Q = ((0 ≤ i ∧ i.toNatClampNeg < xe_len σ k) ∧ xC 245 1379 [l0, l1, l2, l3] [.int (xe_ax σ k i.toNatClampNeg), s0] σ Q) := by
  have e := xC_and (Q := Q) (ls := [l0, l1, l2, l3]) (st := [.int i, .ref k, s0]) (σ := σ) (y := 245) (pc := 1378) (p1 := 1378) (ins := .iaload) (len := 1) (pl := 0) (a := 0) (b := 0) (v := .null) rfl rfl rfl rfl
  simpa [hk] using e
set_option maxRecDepth 100000 in
theorem s245_1379 {l1 l2 l3 : Option Value} {s0 s1 : Value} {k : Nat} {σ : xM} {Q : Option Value → xM → Prop} : xC 245 1379 [some (.ref k), l1, l2, l3] [s0, s1] σ Q = xC 245 1380 [some (.ref k), l1, l2, l3] [.ref k, s0, s1] σ Q := xC_step (y := 245) (pc := 1379) (p1 := 1379) (ins := .aload_n 0) (len := 1) (pl := 0) (a := 0) (b := 0) (v := .null) rfl rfl rfl rfl
set_option maxRecDepth 100000 in
theorem s245_1380 {l0 l1 l2 : Option Value} {s0 s1 s2 : Value} {x : Int32} {σ : xM} {Q : Option Value → xM → Prop} : xC 245 1380 [l0, l1, l2, some (.int x)] [s0, s1, s2] σ Q = xC 245 1381 [l0, l1, l2, some (.int x)] [.int x, s0, s1, s2] σ Q := xC_step (y := 245) (pc := 1380) (p1 := 1380) (ins := .iload_n 3) (len := 1) (pl := 0) (a := 0) (b := 0) (v := .null) rfl rfl rfl rfl
set_option maxRecDepth 100000 in
theorem s245_1381 {l0 l1 l2 l3 : Option Value} {s0 s1 s2 s3 : Value} {σ : xM} {Q : Option Value → xM → Prop} : xC 245 1381 [l0, l1, l2, l3] [s0, s1, s2, s3] σ Q = xC 245 1382 [l0, l1, l2, l3] [.int (2), s0, s1, s2, s3] σ Q := xC_step (y := 245) (pc := 1381) (p1 := 1381) (ins := .iconst 2) (len := 1) (pl := 0) (a := 0) (b := 0) (v := .int (2)) rfl rfl rfl rfl
set_option maxRecDepth 100000 in
theorem s245_1382 {l0 l1 l2 l3 : Option Value} {s0 s1 s2 : Value} {x y : Int32} {σ : xM} {Q : Option Value → xM → Prop} : xC 245 1382 [l0, l1, l2, l3] [.int y, .int x, s0, s1, s2] σ Q = xC 245 1383 [l0, l1, l2, l3] [.int (x + y), s0, s1, s2] σ Q := xC_step (y := 245) (pc := 1382) (p1 := 1382) (ins := .iadd) (len := 1) (pl := 0) (a := 0) (b := 0) (v := .null) rfl rfl rfl rfl
set_option maxRecDepth 100000 in
theorem s245_1383 {l0 l1 l2 l3 : Option Value} {s0 s1 : Value} {i : Int32} {k : Nat} {σ : xM} {Q : Option Value → xM → Prop} (hk : xe_cls k = 100) : xC 245 1383 [l0, l1, l2, l3] [.int i, .ref k, s0, s1] σ Q = ((0 ≤ i ∧ i.toNatClampNeg < xt_len.getD k 0) ∧ xC 245 1384 [l0, l1, l2, l3] [.int (σ.1 k i.toNatClampNeg), s0, s1] σ Q) := xC_and (y := 245) (pc := 1383) (p1 := 1383) (ins := .iaload) (len := 1) (pl := 0) (a := 0) (b := 0) (v := .null) rfl rfl rfl (xa_ial hk)
set_option maxRecDepth 100000 in
theorem s245_1383_g {l0 l1 l2 l3 : Option Value} {s0 s1 : Value} {i : Int32} {k : Nat} {σ : xM} {Q : Option Value → xM → Prop} (hk : xe_cls k = 110) : xC 245 1383 [l0, l1, l2, l3] [.int i, .ref k, s0, s1] σ Q = ((0 ≤ i ∧ i.toNatClampNeg < xe_len σ k) ∧ xC 245 1384 [l0, l1, l2, l3] [.int (xe_ax σ k i.toNatClampNeg), s0, s1] σ Q) := by
  have e := xC_and (Q := Q) (ls := [l0, l1, l2, l3]) (st := [.int i, .ref k, s0, s1]) (σ := σ) (y := 245) (pc := 1383) (p1 := 1383) (ins := .iaload) (len := 1) (pl := 0) (a := 0) (b := 0) (v := .null) rfl rfl rfl rfl
  simpa [hk] using e
set_option maxRecDepth 100000 in
theorem s245_1384 {l0 l1 l2 l3 : Option Value} {x1 : Int32} {x2 : Int32} {σ : xM} {Q : Option Value → xM → Prop} : xC 245 1384 [l0, l1, l2, l3] [.int x2, .int x1, .ref 0] σ Q = xI1 142 [.ref 0, .int x1, .int x2] σ (fun r σ' => xC 245 1387 [l0, l1, l2, l3] [.int r] σ' Q) := xC_callI (p1 := 1384) (ins := .invokevirtual 154) (len := 3) (pl := 1029) (a := 142) (b := 3) (v := .null) rfl rfl rfl ⟨Nat.le_of_ble_eq_true rfl, Or.inl (Nat.le_of_ble_eq_true rfl), xa_142, Or.inr rfl, Nat.le_of_ble_eq_true rfl⟩ (Or.inl xr_142)
set_option maxRecDepth 100000 in
theorem s245_1387 {l0 l1 l3 : Option Value} {s0 : Value} {k : Nat} {σ : xM} {Q : Option Value → xM → Prop} : xC 245 1387 [l0, l1, some (.ref k), l3] [s0] σ Q = xC 245 1388 [l0, l1, some (.ref k), l3] [.ref k, s0] σ Q := xC_step (y := 245) (pc := 1387) (p1 := 1387) (ins := .aload_n 2) (len := 1) (pl := 0) (a := 0) (b := 0) (v := .null) rfl rfl rfl rfl
set_option maxRecDepth 100000 in
theorem s245_1388 {l1 l2 l3 : Option Value} {s0 s1 : Value} {k : Nat} {σ : xM} {Q : Option Value → xM → Prop} : xC 245 1388 [some (.ref k), l1, l2, l3] [s0, s1] σ Q = xC 245 1389 [some (.ref k), l1, l2, l3] [.ref k, s0, s1] σ Q := xC_step (y := 245) (pc := 1388) (p1 := 1388) (ins := .aload_n 0) (len := 1) (pl := 0) (a := 0) (b := 0) (v := .null) rfl rfl rfl rfl
set_option maxRecDepth 100000 in
theorem s245_1389 {l0 l1 l2 : Option Value} {s0 s1 s2 : Value} {x : Int32} {σ : xM} {Q : Option Value → xM → Prop} : xC 245 1389 [l0, l1, l2, some (.int x)] [s0, s1, s2] σ Q = xC 245 1390 [l0, l1, l2, some (.int x)] [.int x, s0, s1, s2] σ Q := xC_step (y := 245) (pc := 1389) (p1 := 1389) (ins := .iload_n 3) (len := 1) (pl := 0) (a := 0) (b := 0) (v := .null) rfl rfl rfl rfl
set_option maxRecDepth 100000 in
theorem s245_1390 {l0 l1 l2 l3 : Option Value} {s0 s1 s2 s3 : Value} {σ : xM} {Q : Option Value → xM → Prop} : xC 245 1390 [l0, l1, l2, l3] [s0, s1, s2, s3] σ Q = xC 245 1391 [l0, l1, l2, l3] [.int (1), s0, s1, s2, s3] σ Q := xC_step (y := 245) (pc := 1390) (p1 := 1390) (ins := .iconst 1) (len := 1) (pl := 0) (a := 0) (b := 0) (v := .int (1)) rfl rfl rfl rfl
set_option maxRecDepth 100000 in
theorem s245_1391 {l0 l1 l2 l3 : Option Value} {s0 s1 s2 : Value} {x y : Int32} {σ : xM} {Q : Option Value → xM → Prop} : xC 245 1391 [l0, l1, l2, l3] [.int y, .int x, s0, s1, s2] σ Q = xC 245 1392 [l0, l1, l2, l3] [.int (x + y), s0, s1, s2] σ Q := xC_step (y := 245) (pc := 1391) (p1 := 1391) (ins := .iadd) (len := 1) (pl := 0) (a := 0) (b := 0) (v := .null) rfl rfl rfl rfl
set_option maxRecDepth 100000 in
theorem s245_1392 {l0 l1 l2 l3 : Option Value} {s0 s1 : Value} {i : Int32} {k : Nat} {σ : xM} {Q : Option Value → xM → Prop} (hk : xe_cls k = 100) : xC 245 1392 [l0, l1, l2, l3] [.int i, .ref k, s0, s1] σ Q = ((0 ≤ i ∧ i.toNatClampNeg < xt_len.getD k 0) ∧ xC 245 1393 [l0, l1, l2, l3] [.int (σ.1 k i.toNatClampNeg), s0, s1] σ Q) := xC_and (y := 245) (pc := 1392) (p1 := 1392) (ins := .iaload) (len := 1) (pl := 0) (a := 0) (b := 0) (v := .null) rfl rfl rfl (xa_ial hk)
set_option maxRecDepth 100000 in
theorem s245_1392_g {l0 l1 l2 l3 : Option Value} {s0 s1 : Value} {i : Int32} {k : Nat} {σ : xM} {Q : Option Value → xM → Prop} (hk : xe_cls k = 110) : xC 245 1392 [l0, l1, l2, l3] [.int i, .ref k, s0, s1] σ Q = ((0 ≤ i ∧ i.toNatClampNeg < xe_len σ k) ∧ xC 245 1393 [l0, l1, l2, l3] [.int (xe_ax σ k i.toNatClampNeg), s0, s1] σ Q) := by
  have e := xC_and (Q := Q) (ls := [l0, l1, l2, l3]) (st := [.int i, .ref k, s0, s1]) (σ := σ) (y := 245) (pc := 1392) (p1 := 1392) (ins := .iaload) (len := 1) (pl := 0) (a := 0) (b := 0) (v := .null) rfl rfl rfl rfl
  simpa [hk] using e
set_option maxRecDepth 100000 in
theorem s245_1393 {l1 l2 l3 : Option Value} {s0 s1 s2 : Value} {k : Nat} {σ : xM} {Q : Option Value → xM → Prop} : xC 245 1393 [some (.ref k), l1, l2, l3] [s0, s1, s2] σ Q = xC 245 1394 [some (.ref k), l1, l2, l3] [.ref k, s0, s1, s2] σ Q := xC_step (y := 245) (pc := 1393) (p1 := 1393) (ins := .aload_n 0) (len := 1) (pl := 0) (a := 0) (b := 0) (v := .null) rfl rfl rfl rfl
set_option maxRecDepth 100000 in
theorem s245_1394 {l0 l1 l2 : Option Value} {s0 s1 s2 s3 : Value} {x : Int32} {σ : xM} {Q : Option Value → xM → Prop} : xC 245 1394 [l0, l1, l2, some (.int x)] [s0, s1, s2, s3] σ Q = xC 245 1395 [l0, l1, l2, some (.int x)] [.int x, s0, s1, s2, s3] σ Q := xC_step (y := 245) (pc := 1394) (p1 := 1394) (ins := .iload_n 3) (len := 1) (pl := 0) (a := 0) (b := 0) (v := .null) rfl rfl rfl rfl
set_option maxRecDepth 100000 in
theorem s245_1395 {l0 l1 l2 l3 : Option Value} {s0 s1 s2 s3 s4 : Value} {σ : xM} {Q : Option Value → xM → Prop} : xC 245 1395 [l0, l1, l2, l3] [s0, s1, s2, s3, s4] σ Q = xC 245 1396 [l0, l1, l2, l3] [.int (2), s0, s1, s2, s3, s4] σ Q := xC_step (y := 245) (pc := 1395) (p1 := 1395) (ins := .iconst 2) (len := 1) (pl := 0) (a := 0) (b := 0) (v := .int (2)) rfl rfl rfl rfl
set_option maxRecDepth 100000 in
theorem s245_1396 {l0 l1 l2 l3 : Option Value} {s0 s1 s2 s3 : Value} {x y : Int32} {σ : xM} {Q : Option Value → xM → Prop} : xC 245 1396 [l0, l1, l2, l3] [.int y, .int x, s0, s1, s2, s3] σ Q = xC 245 1397 [l0, l1, l2, l3] [.int (x + y), s0, s1, s2, s3] σ Q := xC_step (y := 245) (pc := 1396) (p1 := 1396) (ins := .iadd) (len := 1) (pl := 0) (a := 0) (b := 0) (v := .null) rfl rfl rfl rfl
set_option maxRecDepth 100000 in
theorem s245_1397 {l0 l1 l2 l3 : Option Value} {s0 s1 s2 : Value} {i : Int32} {k : Nat} {σ : xM} {Q : Option Value → xM → Prop} (hk : xe_cls k = 100) : xC 245 1397 [l0, l1, l2, l3] [.int i, .ref k, s0, s1, s2] σ Q = ((0 ≤ i ∧ i.toNatClampNeg < xt_len.getD k 0) ∧ xC 245 1398 [l0, l1, l2, l3] [.int (σ.1 k i.toNatClampNeg), s0, s1, s2] σ Q) := xC_and (y := 245) (pc := 1397) (p1 := 1397) (ins := .iaload) (len := 1) (pl := 0) (a := 0) (b := 0) (v := .null) rfl rfl rfl (xa_ial hk)
set_option maxRecDepth 100000 in
theorem s245_1397_g {l0 l1 l2 l3 : Option Value} {s0 s1 s2 : Value} {i : Int32} {k : Nat} {σ : xM} {Q : Option Value → xM → Prop} (hk : xe_cls k = 110) : xC 245 1397 [l0, l1, l2, l3] [.int i, .ref k, s0, s1, s2] σ Q = ((0 ≤ i ∧ i.toNatClampNeg < xe_len σ k) ∧ xC 245 1398 [l0, l1, l2, l3] [.int (xe_ax σ k i.toNatClampNeg), s0, s1, s2] σ Q) := by
  have e := xC_and (Q := Q) (ls := [l0, l1, l2, l3]) (st := [.int i, .ref k, s0, s1, s2]) (σ := σ) (y := 245) (pc := 1397) (p1 := 1397) (ins := .iaload) (len := 1) (pl := 0) (a := 0) (b := 0) (v := .null) rfl rfl rfl rfl
  simpa [hk] using e
set_option maxRecDepth 100000 in
theorem s245_1398 {l0 l1 l2 l3 : Option Value} {s0 : Value} {x1 : Int32} {x2 : Int32} {σ : xM} {Q : Option Value → xM → Prop} : xC 245 1398 [l0, l1, l2, l3] [.int x2, .int x1, .ref 84, s0] σ Q = xI1 239 [.ref 84, .int x1, .int x2] σ (fun r σ' => xC 245 1401 [l0, l1, l2, l3] [.int r, s0] σ' Q) := xC_callI (p1 := 1398) (ins := .invokevirtual 157) (len := 3) (pl := 1485) (a := 239) (b := 3) (v := .null) rfl rfl rfl ⟨Nat.le_of_ble_eq_true rfl, Or.inl (Nat.le_of_ble_eq_true rfl), xa_239, Or.inr rfl, Nat.le_of_ble_eq_true rfl⟩ (Or.inl xr_239)
set_option maxRecDepth 100000 in
theorem s245_1401 {l0 l1 l2 l3 : Option Value} {x y : Int32} {σ : xM} {Q : Option Value → xM → Prop} : xC 245 1401 [l0, l1, l2, l3] [.int y, .int x] σ Q = (if x = y then xC 245 1551 [l0, l1, l2, l3] [] σ Q else xC 245 1404 [l0, l1, l2, l3] [] σ Q) := xC_if (y := 245) (pc := 1401) (p1 := 1401) (ins := .if_icmp .eq 150) (len := 3) (pl := 0) (a := 1551) (b := 0) (v := .null) rfl rfl rfl rfl
set_option maxRecDepth 100000 in
theorem s245_1404 {l0 l1 l2 l3 : Option Value} {σ : xM} {Q : Option Value → xM → Prop} : xC 245 1404 [l0, l1, l2, l3] [] σ Q = xC 245 1405 [l0, l1, l2, l3] [.int (0)] σ Q := xC_step (y := 245) (pc := 1404) (p1 := 1404) (ins := .iconst 0) (len := 1) (pl := 0) (a := 0) (b := 0) (v := .int (0)) rfl rfl rfl rfl
set_option maxRecDepth 100000 in
theorem s245_1405 {l0 l1 l2 l3 : Option Value} {x : Int32} {σ : xM} {Q : Option Value → xM → Prop} : xC 245 1405 [l0, l1, l2, l3] [.int x] σ Q = ((x = 0 ∨ x = 1) ∧ Q (some (.int x)) σ) := xC_retIf (y := 245) (pc := 1405) (p1 := 1405) (ins := .ireturn) (len := 1) (pl := 0) (a := 0) (b := 0) (v := .null) rfl rfl (by rw [xr_245]; rfl)
set_option maxRecDepth 100000 in
theorem s245_1406 {l0 l2 l3 : Option Value} {k : Nat} {σ : xM} {Q : Option Value → xM → Prop} : xC 245 1406 [l0, some (.ref k), l2, l3] [] σ Q = xC 245 1407 [l0, some (.ref k), l2, l3] [.ref k] σ Q := xC_step (y := 245) (pc := 1406) (p1 := 1406) (ins := .aload_n 1) (len := 1) (pl := 0) (a := 0) (b := 0) (v := .null) rfl rfl rfl rfl
set_option maxRecDepth 100000 in
theorem s245_1407 {l1 l2 l3 : Option Value} {s0 : Value} {k : Nat} {σ : xM} {Q : Option Value → xM → Prop} : xC 245 1407 [some (.ref k), l1, l2, l3] [s0] σ Q = xC 245 1408 [some (.ref k), l1, l2, l3] [.ref k, s0] σ Q := xC_step (y := 245) (pc := 1407) (p1 := 1407) (ins := .aload_n 0) (len := 1) (pl := 0) (a := 0) (b := 0) (v := .null) rfl rfl rfl rfl
set_option maxRecDepth 100000 in
theorem s245_1408 {l0 l1 l2 : Option Value} {s0 s1 : Value} {x : Int32} {σ : xM} {Q : Option Value → xM → Prop} : xC 245 1408 [l0, l1, l2, some (.int x)] [s0, s1] σ Q = xC 245 1409 [l0, l1, l2, some (.int x)] [.int x, s0, s1] σ Q := xC_step (y := 245) (pc := 1408) (p1 := 1408) (ins := .iload_n 3) (len := 1) (pl := 0) (a := 0) (b := 0) (v := .null) rfl rfl rfl rfl
set_option maxRecDepth 100000 in
theorem s245_1409 {l0 l1 l2 l3 : Option Value} {s0 s1 s2 : Value} {σ : xM} {Q : Option Value → xM → Prop} : xC 245 1409 [l0, l1, l2, l3] [s0, s1, s2] σ Q = xC 245 1410 [l0, l1, l2, l3] [.int (1), s0, s1, s2] σ Q := xC_step (y := 245) (pc := 1409) (p1 := 1409) (ins := .iconst 1) (len := 1) (pl := 0) (a := 0) (b := 0) (v := .int (1)) rfl rfl rfl rfl
set_option maxRecDepth 100000 in
theorem s245_1410 {l0 l1 l2 l3 : Option Value} {s0 s1 : Value} {x y : Int32} {σ : xM} {Q : Option Value → xM → Prop} : xC 245 1410 [l0, l1, l2, l3] [.int y, .int x, s0, s1] σ Q = xC 245 1411 [l0, l1, l2, l3] [.int (x + y), s0, s1] σ Q := xC_step (y := 245) (pc := 1410) (p1 := 1410) (ins := .iadd) (len := 1) (pl := 0) (a := 0) (b := 0) (v := .null) rfl rfl rfl rfl
set_option maxRecDepth 100000 in
theorem s245_1411 {l0 l1 l2 l3 : Option Value} {s0 : Value} {i : Int32} {k : Nat} {σ : xM} {Q : Option Value → xM → Prop} (hk : xe_cls k = 100) : xC 245 1411 [l0, l1, l2, l3] [.int i, .ref k, s0] σ Q = ((0 ≤ i ∧ i.toNatClampNeg < xt_len.getD k 0) ∧ xC 245 1412 [l0, l1, l2, l3] [.int (σ.1 k i.toNatClampNeg), s0] σ Q) := xC_and (y := 245) (pc := 1411) (p1 := 1411) (ins := .iaload) (len := 1) (pl := 0) (a := 0) (b := 0) (v := .null) rfl rfl rfl (xa_ial hk)
set_option maxRecDepth 100000 in
theorem s245_1411_g {l0 l1 l2 l3 : Option Value} {s0 : Value} {i : Int32} {k : Nat} {σ : xM} {Q : Option Value → xM → Prop} (hk : xe_cls k = 110) : xC 245 1411 [l0, l1, l2, l3] [.int i, .ref k, s0] σ Q = ((0 ≤ i ∧ i.toNatClampNeg < xe_len σ k) ∧ xC 245 1412 [l0, l1, l2, l3] [.int (xe_ax σ k i.toNatClampNeg), s0] σ Q) := by
  have e := xC_and (Q := Q) (ls := [l0, l1, l2, l3]) (st := [.int i, .ref k, s0]) (σ := σ) (y := 245) (pc := 1411) (p1 := 1411) (ins := .iaload) (len := 1) (pl := 0) (a := 0) (b := 0) (v := .null) rfl rfl rfl rfl
  simpa [hk] using e
set_option maxRecDepth 100000 in
theorem s245_1412 {l1 l2 l3 : Option Value} {s0 s1 : Value} {k : Nat} {σ : xM} {Q : Option Value → xM → Prop} : xC 245 1412 [some (.ref k), l1, l2, l3] [s0, s1] σ Q = xC 245 1413 [some (.ref k), l1, l2, l3] [.ref k, s0, s1] σ Q := xC_step (y := 245) (pc := 1412) (p1 := 1412) (ins := .aload_n 0) (len := 1) (pl := 0) (a := 0) (b := 0) (v := .null) rfl rfl rfl rfl
set_option maxRecDepth 100000 in
theorem s245_1413 {l0 l1 l2 : Option Value} {s0 s1 s2 : Value} {x : Int32} {σ : xM} {Q : Option Value → xM → Prop} : xC 245 1413 [l0, l1, l2, some (.int x)] [s0, s1, s2] σ Q = xC 245 1414 [l0, l1, l2, some (.int x)] [.int x, s0, s1, s2] σ Q := xC_step (y := 245) (pc := 1413) (p1 := 1413) (ins := .iload_n 3) (len := 1) (pl := 0) (a := 0) (b := 0) (v := .null) rfl rfl rfl rfl
set_option maxRecDepth 100000 in
theorem s245_1414 {l0 l1 l2 l3 : Option Value} {s0 s1 s2 s3 : Value} {σ : xM} {Q : Option Value → xM → Prop} : xC 245 1414 [l0, l1, l2, l3] [s0, s1, s2, s3] σ Q = xC 245 1415 [l0, l1, l2, l3] [.int (2), s0, s1, s2, s3] σ Q := xC_step (y := 245) (pc := 1414) (p1 := 1414) (ins := .iconst 2) (len := 1) (pl := 0) (a := 0) (b := 0) (v := .int (2)) rfl rfl rfl rfl
set_option maxRecDepth 100000 in
theorem s245_1415 {l0 l1 l2 l3 : Option Value} {s0 s1 s2 : Value} {x y : Int32} {σ : xM} {Q : Option Value → xM → Prop} : xC 245 1415 [l0, l1, l2, l3] [.int y, .int x, s0, s1, s2] σ Q = xC 245 1416 [l0, l1, l2, l3] [.int (x + y), s0, s1, s2] σ Q := xC_step (y := 245) (pc := 1415) (p1 := 1415) (ins := .iadd) (len := 1) (pl := 0) (a := 0) (b := 0) (v := .null) rfl rfl rfl rfl
set_option maxRecDepth 100000 in
theorem s245_1416 {l0 l1 l2 l3 : Option Value} {s0 s1 : Value} {i : Int32} {k : Nat} {σ : xM} {Q : Option Value → xM → Prop} (hk : xe_cls k = 100) : xC 245 1416 [l0, l1, l2, l3] [.int i, .ref k, s0, s1] σ Q = ((0 ≤ i ∧ i.toNatClampNeg < xt_len.getD k 0) ∧ xC 245 1417 [l0, l1, l2, l3] [.int (σ.1 k i.toNatClampNeg), s0, s1] σ Q) := xC_and (y := 245) (pc := 1416) (p1 := 1416) (ins := .iaload) (len := 1) (pl := 0) (a := 0) (b := 0) (v := .null) rfl rfl rfl (xa_ial hk)
set_option maxRecDepth 100000 in
theorem s245_1416_g {l0 l1 l2 l3 : Option Value} {s0 s1 : Value} {i : Int32} {k : Nat} {σ : xM} {Q : Option Value → xM → Prop} (hk : xe_cls k = 110) : xC 245 1416 [l0, l1, l2, l3] [.int i, .ref k, s0, s1] σ Q = ((0 ≤ i ∧ i.toNatClampNeg < xe_len σ k) ∧ xC 245 1417 [l0, l1, l2, l3] [.int (xe_ax σ k i.toNatClampNeg), s0, s1] σ Q) := by
  have e := xC_and (Q := Q) (ls := [l0, l1, l2, l3]) (st := [.int i, .ref k, s0, s1]) (σ := σ) (y := 245) (pc := 1416) (p1 := 1416) (ins := .iaload) (len := 1) (pl := 0) (a := 0) (b := 0) (v := .null) rfl rfl rfl rfl
  simpa [hk] using e
set_option maxRecDepth 100000 in
theorem s245_1417 {l1 l2 l3 : Option Value} {s0 s1 s2 : Value} {k : Nat} {σ : xM} {Q : Option Value → xM → Prop} : xC 245 1417 [some (.ref k), l1, l2, l3] [s0, s1, s2] σ Q = xC 245 1418 [some (.ref k), l1, l2, l3] [.ref k, s0, s1, s2] σ Q := xC_step (y := 245) (pc := 1417) (p1 := 1417) (ins := .aload_n 0) (len := 1) (pl := 0) (a := 0) (b := 0) (v := .null) rfl rfl rfl rfl
set_option maxRecDepth 100000 in
theorem s245_1418 {l0 l1 l2 : Option Value} {s0 s1 s2 s3 : Value} {x : Int32} {σ : xM} {Q : Option Value → xM → Prop} : xC 245 1418 [l0, l1, l2, some (.int x)] [s0, s1, s2, s3] σ Q = xC 245 1419 [l0, l1, l2, some (.int x)] [.int x, s0, s1, s2, s3] σ Q := xC_step (y := 245) (pc := 1418) (p1 := 1418) (ins := .iload_n 3) (len := 1) (pl := 0) (a := 0) (b := 0) (v := .null) rfl rfl rfl rfl
set_option maxRecDepth 100000 in
theorem s245_1419 {l0 l1 l2 l3 : Option Value} {s0 s1 s2 s3 s4 : Value} {σ : xM} {Q : Option Value → xM → Prop} : xC 245 1419 [l0, l1, l2, l3] [s0, s1, s2, s3, s4] σ Q = xC 245 1420 [l0, l1, l2, l3] [.int (3), s0, s1, s2, s3, s4] σ Q := xC_step (y := 245) (pc := 1419) (p1 := 1419) (ins := .iconst 3) (len := 1) (pl := 0) (a := 0) (b := 0) (v := .int (3)) rfl rfl rfl rfl
set_option maxRecDepth 100000 in
theorem s245_1420 {l0 l1 l2 l3 : Option Value} {s0 s1 s2 s3 : Value} {x y : Int32} {σ : xM} {Q : Option Value → xM → Prop} : xC 245 1420 [l0, l1, l2, l3] [.int y, .int x, s0, s1, s2, s3] σ Q = xC 245 1421 [l0, l1, l2, l3] [.int (x + y), s0, s1, s2, s3] σ Q := xC_step (y := 245) (pc := 1420) (p1 := 1420) (ins := .iadd) (len := 1) (pl := 0) (a := 0) (b := 0) (v := .null) rfl rfl rfl rfl
set_option maxRecDepth 100000 in
theorem s245_1421 {l0 l1 l2 l3 : Option Value} {s0 s1 s2 : Value} {i : Int32} {k : Nat} {σ : xM} {Q : Option Value → xM → Prop} (hk : xe_cls k = 100) : xC 245 1421 [l0, l1, l2, l3] [.int i, .ref k, s0, s1, s2] σ Q = ((0 ≤ i ∧ i.toNatClampNeg < xt_len.getD k 0) ∧ xC 245 1422 [l0, l1, l2, l3] [.int (σ.1 k i.toNatClampNeg), s0, s1, s2] σ Q) := xC_and (y := 245) (pc := 1421) (p1 := 1421) (ins := .iaload) (len := 1) (pl := 0) (a := 0) (b := 0) (v := .null) rfl rfl rfl (xa_ial hk)
set_option maxRecDepth 100000 in
theorem s245_1421_g {l0 l1 l2 l3 : Option Value} {s0 s1 s2 : Value} {i : Int32} {k : Nat} {σ : xM} {Q : Option Value → xM → Prop} (hk : xe_cls k = 110) : xC 245 1421 [l0, l1, l2, l3] [.int i, .ref k, s0, s1, s2] σ Q = ((0 ≤ i ∧ i.toNatClampNeg < xe_len σ k) ∧ xC 245 1422 [l0, l1, l2, l3] [.int (xe_ax σ k i.toNatClampNeg), s0, s1, s2] σ Q) := by
  have e := xC_and (Q := Q) (ls := [l0, l1, l2, l3]) (st := [.int i, .ref k, s0, s1, s2]) (σ := σ) (y := 245) (pc := 1421) (p1 := 1421) (ins := .iaload) (len := 1) (pl := 0) (a := 0) (b := 0) (v := .null) rfl rfl rfl rfl
  simpa [hk] using e
set_option maxRecDepth 100000 in
theorem s245_1422 {l0 l1 l2 l3 : Option Value} {x1 : Int32} {x2 : Int32} {x3 : Int32} {σ : xM} {Q : Option Value → xM → Prop} : xC 245 1422 [l0, l1, l2, l3] [.int x3, .int x2, .int x1, .ref 0] σ Q = xI1 143 [.ref 0, .int x1, .int x2, .int x3] σ (fun r σ' => xC 245 1425 [l0, l1, l2, l3] [.int r] σ' Q) := xC_callI (p1 := 1422) (ins := .invokevirtual 158) (len := 3) (pl := 1047) (a := 143) (b := 4) (v := .null) rfl rfl rfl ⟨Nat.le_of_ble_eq_true rfl, Or.inl (Nat.le_of_ble_eq_true rfl), xa_143, Or.inr rfl, Nat.le_of_ble_eq_true rfl⟩ (Or.inl xr_143)
set_option maxRecDepth 100000 in
theorem s245_1425 {l0 l1 l3 : Option Value} {s0 : Value} {k : Nat} {σ : xM} {Q : Option Value → xM → Prop} : xC 245 1425 [l0, l1, some (.ref k), l3] [s0] σ Q = xC 245 1426 [l0, l1, some (.ref k), l3] [.ref k, s0] σ Q := xC_step (y := 245) (pc := 1425) (p1 := 1425) (ins := .aload_n 2) (len := 1) (pl := 0) (a := 0) (b := 0) (v := .null) rfl rfl rfl rfl
set_option maxRecDepth 100000 in
theorem s245_1426 {l1 l2 l3 : Option Value} {s0 s1 : Value} {k : Nat} {σ : xM} {Q : Option Value → xM → Prop} : xC 245 1426 [some (.ref k), l1, l2, l3] [s0, s1] σ Q = xC 245 1427 [some (.ref k), l1, l2, l3] [.ref k, s0, s1] σ Q := xC_step (y := 245) (pc := 1426) (p1 := 1426) (ins := .aload_n 0) (len := 1) (pl := 0) (a := 0) (b := 0) (v := .null) rfl rfl rfl rfl
set_option maxRecDepth 100000 in
theorem s245_1427 {l0 l1 l2 : Option Value} {s0 s1 s2 : Value} {x : Int32} {σ : xM} {Q : Option Value → xM → Prop} : xC 245 1427 [l0, l1, l2, some (.int x)] [s0, s1, s2] σ Q = xC 245 1428 [l0, l1, l2, some (.int x)] [.int x, s0, s1, s2] σ Q := xC_step (y := 245) (pc := 1427) (p1 := 1427) (ins := .iload_n 3) (len := 1) (pl := 0) (a := 0) (b := 0) (v := .null) rfl rfl rfl rfl
set_option maxRecDepth 100000 in
theorem s245_1428 {l0 l1 l2 l3 : Option Value} {s0 s1 s2 s3 : Value} {σ : xM} {Q : Option Value → xM → Prop} : xC 245 1428 [l0, l1, l2, l3] [s0, s1, s2, s3] σ Q = xC 245 1429 [l0, l1, l2, l3] [.int (1), s0, s1, s2, s3] σ Q := xC_step (y := 245) (pc := 1428) (p1 := 1428) (ins := .iconst 1) (len := 1) (pl := 0) (a := 0) (b := 0) (v := .int (1)) rfl rfl rfl rfl
set_option maxRecDepth 100000 in
theorem s245_1429 {l0 l1 l2 l3 : Option Value} {s0 s1 s2 : Value} {x y : Int32} {σ : xM} {Q : Option Value → xM → Prop} : xC 245 1429 [l0, l1, l2, l3] [.int y, .int x, s0, s1, s2] σ Q = xC 245 1430 [l0, l1, l2, l3] [.int (x + y), s0, s1, s2] σ Q := xC_step (y := 245) (pc := 1429) (p1 := 1429) (ins := .iadd) (len := 1) (pl := 0) (a := 0) (b := 0) (v := .null) rfl rfl rfl rfl
set_option maxRecDepth 100000 in
theorem s245_1430 {l0 l1 l2 l3 : Option Value} {s0 s1 : Value} {i : Int32} {k : Nat} {σ : xM} {Q : Option Value → xM → Prop} (hk : xe_cls k = 100) : xC 245 1430 [l0, l1, l2, l3] [.int i, .ref k, s0, s1] σ Q = ((0 ≤ i ∧ i.toNatClampNeg < xt_len.getD k 0) ∧ xC 245 1431 [l0, l1, l2, l3] [.int (σ.1 k i.toNatClampNeg), s0, s1] σ Q) := xC_and (y := 245) (pc := 1430) (p1 := 1430) (ins := .iaload) (len := 1) (pl := 0) (a := 0) (b := 0) (v := .null) rfl rfl rfl (xa_ial hk)
set_option maxRecDepth 100000 in
theorem s245_1430_g {l0 l1 l2 l3 : Option Value} {s0 s1 : Value} {i : Int32} {k : Nat} {σ : xM} {Q : Option Value → xM → Prop} (hk : xe_cls k = 110) : xC 245 1430 [l0, l1, l2, l3] [.int i, .ref k, s0, s1] σ Q = ((0 ≤ i ∧ i.toNatClampNeg < xe_len σ k) ∧ xC 245 1431 [l0, l1, l2, l3] [.int (xe_ax σ k i.toNatClampNeg), s0, s1] σ Q) := by
  have e := xC_and (Q := Q) (ls := [l0, l1, l2, l3]) (st := [.int i, .ref k, s0, s1]) (σ := σ) (y := 245) (pc := 1430) (p1 := 1430) (ins := .iaload) (len := 1) (pl := 0) (a := 0) (b := 0) (v := .null) rfl rfl rfl rfl
  simpa [hk] using e
set_option maxRecDepth 100000 in
theorem s245_1431 {l1 l2 l3 : Option Value} {s0 s1 s2 : Value} {k : Nat} {σ : xM} {Q : Option Value → xM → Prop} : xC 245 1431 [some (.ref k), l1, l2, l3] [s0, s1, s2] σ Q = xC 245 1432 [some (.ref k), l1, l2, l3] [.ref k, s0, s1, s2] σ Q := xC_step (y := 245) (pc := 1431) (p1 := 1431) (ins := .aload_n 0) (len := 1) (pl := 0) (a := 0) (b := 0) (v := .null) rfl rfl rfl rfl
set_option maxRecDepth 100000 in
theorem s245_1432 {l0 l1 l2 : Option Value} {s0 s1 s2 s3 : Value} {x : Int32} {σ : xM} {Q : Option Value → xM → Prop} : xC 245 1432 [l0, l1, l2, some (.int x)] [s0, s1, s2, s3] σ Q = xC 245 1433 [l0, l1, l2, some (.int x)] [.int x, s0, s1, s2, s3] σ Q := xC_step (y := 245) (pc := 1432) (p1 := 1432) (ins := .iload_n 3) (len := 1) (pl := 0) (a := 0) (b := 0) (v := .null) rfl rfl rfl rfl
set_option maxRecDepth 100000 in
theorem s245_1433 {l0 l1 l2 l3 : Option Value} {s0 s1 s2 s3 s4 : Value} {σ : xM} {Q : Option Value → xM → Prop} : xC 245 1433 [l0, l1, l2, l3] [s0, s1, s2, s3, s4] σ Q = xC 245 1434 [l0, l1, l2, l3] [.int (2), s0, s1, s2, s3, s4] σ Q := xC_step (y := 245) (pc := 1433) (p1 := 1433) (ins := .iconst 2) (len := 1) (pl := 0) (a := 0) (b := 0) (v := .int (2)) rfl rfl rfl rfl
set_option maxRecDepth 100000 in
theorem s245_1434 {l0 l1 l2 l3 : Option Value} {s0 s1 s2 s3 : Value} {x y : Int32} {σ : xM} {Q : Option Value → xM → Prop} : xC 245 1434 [l0, l1, l2, l3] [.int y, .int x, s0, s1, s2, s3] σ Q = xC 245 1435 [l0, l1, l2, l3] [.int (x + y), s0, s1, s2, s3] σ Q := xC_step (y := 245) (pc := 1434) (p1 := 1434) (ins := .iadd) (len := 1) (pl := 0) (a := 0) (b := 0) (v := .null) rfl rfl rfl rfl
set_option maxRecDepth 100000 in
theorem s245_1435 {l0 l1 l2 l3 : Option Value} {s0 s1 s2 : Value} {i : Int32} {k : Nat} {σ : xM} {Q : Option Value → xM → Prop} (hk : xe_cls k = 100) : xC 245 1435 [l0, l1, l2, l3] [.int i, .ref k, s0, s1, s2] σ Q = ((0 ≤ i ∧ i.toNatClampNeg < xt_len.getD k 0) ∧ xC 245 1436 [l0, l1, l2, l3] [.int (σ.1 k i.toNatClampNeg), s0, s1, s2] σ Q) := xC_and (y := 245) (pc := 1435) (p1 := 1435) (ins := .iaload) (len := 1) (pl := 0) (a := 0) (b := 0) (v := .null) rfl rfl rfl (xa_ial hk)
set_option maxRecDepth 100000 in
theorem s245_1435_g {l0 l1 l2 l3 : Option Value} {s0 s1 s2 : Value} {i : Int32} {k : Nat} {σ : xM} {Q : Option Value → xM → Prop} (hk : xe_cls k = 110) : xC 245 1435 [l0, l1, l2, l3] [.int i, .ref k, s0, s1, s2] σ Q = ((0 ≤ i ∧ i.toNatClampNeg < xe_len σ k) ∧ xC 245 1436 [l0, l1, l2, l3] [.int (xe_ax σ k i.toNatClampNeg), s0, s1, s2] σ Q) := by
  have e := xC_and (Q := Q) (ls := [l0, l1, l2, l3]) (st := [.int i, .ref k, s0, s1, s2]) (σ := σ) (y := 245) (pc := 1435) (p1 := 1435) (ins := .iaload) (len := 1) (pl := 0) (a := 0) (b := 0) (v := .null) rfl rfl rfl rfl
  simpa [hk] using e
set_option maxRecDepth 100000 in
theorem s245_1436 {l1 l2 l3 : Option Value} {s0 s1 s2 s3 : Value} {k : Nat} {σ : xM} {Q : Option Value → xM → Prop} : xC 245 1436 [some (.ref k), l1, l2, l3] [s0, s1, s2, s3] σ Q = xC 245 1437 [some (.ref k), l1, l2, l3] [.ref k, s0, s1, s2, s3] σ Q := xC_step (y := 245) (pc := 1436) (p1 := 1436) (ins := .aload_n 0) (len := 1) (pl := 0) (a := 0) (b := 0) (v := .null) rfl rfl rfl rfl
set_option maxRecDepth 100000 in
theorem s245_1437 {l0 l1 l2 : Option Value} {s0 s1 s2 s3 s4 : Value} {x : Int32} {σ : xM} {Q : Option Value → xM → Prop} : xC 245 1437 [l0, l1, l2, some (.int x)] [s0, s1, s2, s3, s4] σ Q = xC 245 1438 [l0, l1, l2, some (.int x)] [.int x, s0, s1, s2, s3, s4] σ Q := xC_step (y := 245) (pc := 1437) (p1 := 1437) (ins := .iload_n 3) (len := 1) (pl := 0) (a := 0) (b := 0) (v := .null) rfl rfl rfl rfl
set_option maxRecDepth 100000 in
theorem s245_1438 {l0 l1 l2 l3 : Option Value} {s0 s1 s2 s3 s4 s5 : Value} {σ : xM} {Q : Option Value → xM → Prop} : xC 245 1438 [l0, l1, l2, l3] [s0, s1, s2, s3, s4, s5] σ Q = xC 245 1439 [l0, l1, l2, l3] [.int (3), s0, s1, s2, s3, s4, s5] σ Q := xC_step (y := 245) (pc := 1438) (p1 := 1438) (ins := .iconst 3) (len := 1) (pl := 0) (a := 0) (b := 0) (v := .int (3)) rfl rfl rfl rfl
set_option maxRecDepth 100000 in
theorem s245_1439 {l0 l1 l2 l3 : Option Value} {s0 s1 s2 s3 s4 : Value} {x y : Int32} {σ : xM} {Q : Option Value → xM → Prop} : xC 245 1439 [l0, l1, l2, l3] [.int y, .int x, s0, s1, s2, s3, s4] σ Q = xC 245 1440 [l0, l1, l2, l3] [.int (x + y), s0, s1, s2, s3, s4] σ Q := xC_step (y := 245) (pc := 1439) (p1 := 1439) (ins := .iadd) (len := 1) (pl := 0) (a := 0) (b := 0) (v := .null) rfl rfl rfl rfl
set_option maxRecDepth 100000 in
theorem s245_1440 {l0 l1 l2 l3 : Option Value} {s0 s1 s2 s3 : Value} {i : Int32} {k : Nat} {σ : xM} {Q : Option Value → xM → Prop} (hk : xe_cls k = 100) : xC 245 1440 [l0, l1, l2, l3] [.int i, .ref k, s0, s1, s2, s3] σ Q = ((0 ≤ i ∧ i.toNatClampNeg < xt_len.getD k 0) ∧ xC 245 1441 [l0, l1, l2, l3] [.int (σ.1 k i.toNatClampNeg), s0, s1, s2, s3] σ Q) := xC_and (y := 245) (pc := 1440) (p1 := 1440) (ins := .iaload) (len := 1) (pl := 0) (a := 0) (b := 0) (v := .null) rfl rfl rfl (xa_ial hk)
set_option maxRecDepth 100000 in
theorem s245_1440_g {l0 l1 l2 l3 : Option Value} {s0 s1 s2 s3 : Value} {i : Int32} {k : Nat} {σ : xM} {Q : Option Value → xM → Prop} (hk : xe_cls k = 110) : xC 245 1440 [l0, l1, l2, l3] [.int i, .ref k, s0, s1, s2, s3] σ Q = ((0 ≤ i ∧ i.toNatClampNeg < xe_len σ k) ∧ xC 245 1441 [l0, l1, l2, l3] [.int (xe_ax σ k i.toNatClampNeg), s0, s1, s2, s3] σ Q) := by
  have e := xC_and (Q := Q) (ls := [l0, l1, l2, l3]) (st := [.int i, .ref k, s0, s1, s2, s3]) (σ := σ) (y := 245) (pc := 1440) (p1 := 1440) (ins := .iaload) (len := 1) (pl := 0) (a := 0) (b := 0) (v := .null) rfl rfl rfl rfl
  simpa [hk] using e
set_option maxRecDepth 100000 in
theorem s245_1441 {l0 l1 l2 l3 : Option Value} {s0 : Value} {x1 : Int32} {x2 : Int32} {x3 : Int32} {σ : xM} {Q : Option Value → xM → Prop} : xC 245 1441 [l0, l1, l2, l3] [.int x3, .int x2, .int x1, .ref 84, s0] σ Q = xI1 240 [.ref 84, .int x1, .int x2, .int x3] σ (fun r σ' => xC 245 1444 [l0, l1, l2, l3] [.int r, s0] σ' Q) := xC_callI (p1 := 1441) (ins := .invokevirtual 161) (len := 3) (pl := 1492) (a := 240) (b := 4) (v := .null) rfl rfl rfl ⟨Nat.le_of_ble_eq_true rfl, Or.inl (Nat.le_of_ble_eq_true rfl), xa_240, Or.inr rfl, Nat.le_of_ble_eq_true rfl⟩ (Or.inl xr_240)
set_option maxRecDepth 100000 in
theorem s245_1444 {l0 l1 l2 l3 : Option Value} {x y : Int32} {σ : xM} {Q : Option Value → xM → Prop} : xC 245 1444 [l0, l1, l2, l3] [.int y, .int x] σ Q = (if x = y then xC 245 1551 [l0, l1, l2, l3] [] σ Q else xC 245 1447 [l0, l1, l2, l3] [] σ Q) := xC_if (y := 245) (pc := 1444) (p1 := 1444) (ins := .if_icmp .eq 107) (len := 3) (pl := 0) (a := 1551) (b := 0) (v := .null) rfl rfl rfl rfl
set_option maxRecDepth 100000 in
theorem s245_1447 {l0 l1 l2 l3 : Option Value} {σ : xM} {Q : Option Value → xM → Prop} : xC 245 1447 [l0, l1, l2, l3] [] σ Q = xC 245 1448 [l0, l1, l2, l3] [.int (0)] σ Q := xC_step (y := 245) (pc := 1447) (p1 := 1447) (ins := .iconst 0) (len := 1) (pl := 0) (a := 0) (b := 0) (v := .int (0)) rfl rfl rfl rfl
set_option maxRecDepth 100000 in
theorem s245_1448 {l0 l1 l2 l3 : Option Value} {x : Int32} {σ : xM} {Q : Option Value → xM → Prop} : xC 245 1448 [l0, l1, l2, l3] [.int x] σ Q = ((x = 0 ∨ x = 1) ∧ Q (some (.int x)) σ) := xC_retIf (y := 245) (pc := 1448) (p1 := 1448) (ins := .ireturn) (len := 1) (pl := 0) (a := 0) (b := 0) (v := .null) rfl rfl (by rw [xr_245]; rfl)
set_option maxRecDepth 100000 in
theorem s245_1449 {l0 l2 l3 : Option Value} {k : Nat} {σ : xM} {Q : Option Value → xM → Prop} : xC 245 1449 [l0, some (.ref k), l2, l3] [] σ Q = xC 245 1450 [l0, some (.ref k), l2, l3] [.ref k] σ Q := xC_step (y := 245) (pc := 1449) (p1 := 1449) (ins := .aload_n 1) (len := 1) (pl := 0) (a := 0) (b := 0) (v := .null) rfl rfl rfl rfl
set_option maxRecDepth 100000 in
theorem s245_1450 {l1 l2 l3 : Option Value} {s0 : Value} {k : Nat} {σ : xM} {Q : Option Value → xM → Prop} : xC 245 1450 [some (.ref k), l1, l2, l3] [s0] σ Q = xC 245 1451 [some (.ref k), l1, l2, l3] [.ref k, s0] σ Q := xC_step (y := 245) (pc := 1450) (p1 := 1450) (ins := .aload_n 0) (len := 1) (pl := 0) (a := 0) (b := 0) (v := .null) rfl rfl rfl rfl
set_option maxRecDepth 100000 in
theorem s245_1451 {l0 l1 l2 : Option Value} {s0 s1 : Value} {x : Int32} {σ : xM} {Q : Option Value → xM → Prop} : xC 245 1451 [l0, l1, l2, some (.int x)] [s0, s1] σ Q = xC 245 1452 [l0, l1, l2, some (.int x)] [.int x, s0, s1] σ Q := xC_step (y := 245) (pc := 1451) (p1 := 1451) (ins := .iload_n 3) (len := 1) (pl := 0) (a := 0) (b := 0) (v := .null) rfl rfl rfl rfl
set_option maxRecDepth 100000 in
theorem s245_1452 {l0 l1 l2 l3 : Option Value} {s0 s1 s2 : Value} {σ : xM} {Q : Option Value → xM → Prop} : xC 245 1452 [l0, l1, l2, l3] [s0, s1, s2] σ Q = xC 245 1453 [l0, l1, l2, l3] [.int (1), s0, s1, s2] σ Q := xC_step (y := 245) (pc := 1452) (p1 := 1452) (ins := .iconst 1) (len := 1) (pl := 0) (a := 0) (b := 0) (v := .int (1)) rfl rfl rfl rfl
set_option maxRecDepth 100000 in
theorem s245_1453 {l0 l1 l2 l3 : Option Value} {s0 s1 : Value} {x y : Int32} {σ : xM} {Q : Option Value → xM → Prop} : xC 245 1453 [l0, l1, l2, l3] [.int y, .int x, s0, s1] σ Q = xC 245 1454 [l0, l1, l2, l3] [.int (x + y), s0, s1] σ Q := xC_step (y := 245) (pc := 1453) (p1 := 1453) (ins := .iadd) (len := 1) (pl := 0) (a := 0) (b := 0) (v := .null) rfl rfl rfl rfl
set_option maxRecDepth 100000 in
theorem s245_1454 {l0 l1 l2 l3 : Option Value} {s0 : Value} {i : Int32} {k : Nat} {σ : xM} {Q : Option Value → xM → Prop} (hk : xe_cls k = 100) : xC 245 1454 [l0, l1, l2, l3] [.int i, .ref k, s0] σ Q = ((0 ≤ i ∧ i.toNatClampNeg < xt_len.getD k 0) ∧ xC 245 1455 [l0, l1, l2, l3] [.int (σ.1 k i.toNatClampNeg), s0] σ Q) := xC_and (y := 245) (pc := 1454) (p1 := 1454) (ins := .iaload) (len := 1) (pl := 0) (a := 0) (b := 0) (v := .null) rfl rfl rfl (xa_ial hk)
set_option maxRecDepth 100000 in
theorem s245_1454_g {l0 l1 l2 l3 : Option Value} {s0 : Value} {i : Int32} {k : Nat} {σ : xM} {Q : Option Value → xM → Prop} (hk : xe_cls k = 110) : xC 245 1454 [l0, l1, l2, l3] [.int i, .ref k, s0] σ Q = ((0 ≤ i ∧ i.toNatClampNeg < xe_len σ k) ∧ xC 245 1455 [l0, l1, l2, l3] [.int (xe_ax σ k i.toNatClampNeg), s0] σ Q) := by
  have e := xC_and (Q := Q) (ls := [l0, l1, l2, l3]) (st := [.int i, .ref k, s0]) (σ := σ) (y := 245) (pc := 1454) (p1 := 1454) (ins := .iaload) (len := 1) (pl := 0) (a := 0) (b := 0) (v := .null) rfl rfl rfl rfl
  simpa [hk] using e
set_option maxRecDepth 100000 in
theorem s245_1455 {l1 l2 l3 : Option Value} {s0 s1 : Value} {k : Nat} {σ : xM} {Q : Option Value → xM → Prop} : xC 245 1455 [some (.ref k), l1, l2, l3] [s0, s1] σ Q = xC 245 1456 [some (.ref k), l1, l2, l3] [.ref k, s0, s1] σ Q := xC_step (y := 245) (pc := 1455) (p1 := 1455) (ins := .aload_n 0) (len := 1) (pl := 0) (a := 0) (b := 0) (v := .null) rfl rfl rfl rfl
set_option maxRecDepth 100000 in
theorem s245_1456 {l0 l1 l2 : Option Value} {s0 s1 s2 : Value} {x : Int32} {σ : xM} {Q : Option Value → xM → Prop} : xC 245 1456 [l0, l1, l2, some (.int x)] [s0, s1, s2] σ Q = xC 245 1457 [l0, l1, l2, some (.int x)] [.int x, s0, s1, s2] σ Q := xC_step (y := 245) (pc := 1456) (p1 := 1456) (ins := .iload_n 3) (len := 1) (pl := 0) (a := 0) (b := 0) (v := .null) rfl rfl rfl rfl
set_option maxRecDepth 100000 in
theorem s245_1457 {l0 l1 l2 l3 : Option Value} {s0 s1 s2 s3 : Value} {σ : xM} {Q : Option Value → xM → Prop} : xC 245 1457 [l0, l1, l2, l3] [s0, s1, s2, s3] σ Q = xC 245 1458 [l0, l1, l2, l3] [.int (2), s0, s1, s2, s3] σ Q := xC_step (y := 245) (pc := 1457) (p1 := 1457) (ins := .iconst 2) (len := 1) (pl := 0) (a := 0) (b := 0) (v := .int (2)) rfl rfl rfl rfl
set_option maxRecDepth 100000 in
theorem s245_1458 {l0 l1 l2 l3 : Option Value} {s0 s1 s2 : Value} {x y : Int32} {σ : xM} {Q : Option Value → xM → Prop} : xC 245 1458 [l0, l1, l2, l3] [.int y, .int x, s0, s1, s2] σ Q = xC 245 1459 [l0, l1, l2, l3] [.int (x + y), s0, s1, s2] σ Q := xC_step (y := 245) (pc := 1458) (p1 := 1458) (ins := .iadd) (len := 1) (pl := 0) (a := 0) (b := 0) (v := .null) rfl rfl rfl rfl
set_option maxRecDepth 100000 in
theorem s245_1459 {l0 l1 l2 l3 : Option Value} {s0 s1 : Value} {i : Int32} {k : Nat} {σ : xM} {Q : Option Value → xM → Prop} (hk : xe_cls k = 100) : xC 245 1459 [l0, l1, l2, l3] [.int i, .ref k, s0, s1] σ Q = ((0 ≤ i ∧ i.toNatClampNeg < xt_len.getD k 0) ∧ xC 245 1460 [l0, l1, l2, l3] [.int (σ.1 k i.toNatClampNeg), s0, s1] σ Q) := xC_and (y := 245) (pc := 1459) (p1 := 1459) (ins := .iaload) (len := 1) (pl := 0) (a := 0) (b := 0) (v := .null) rfl rfl rfl (xa_ial hk)
set_option maxRecDepth 100000 in
theorem s245_1459_g {l0 l1 l2 l3 : Option Value} {s0 s1 : Value} {i : Int32} {k : Nat} {σ : xM} {Q : Option Value → xM → Prop} (hk : xe_cls k = 110) : xC 245 1459 [l0, l1, l2, l3] [.int i, .ref k, s0, s1] σ Q = ((0 ≤ i ∧ i.toNatClampNeg < xe_len σ k) ∧ xC 245 1460 [l0, l1, l2, l3] [.int (xe_ax σ k i.toNatClampNeg), s0, s1] σ Q) := by
  have e := xC_and (Q := Q) (ls := [l0, l1, l2, l3]) (st := [.int i, .ref k, s0, s1]) (σ := σ) (y := 245) (pc := 1459) (p1 := 1459) (ins := .iaload) (len := 1) (pl := 0) (a := 0) (b := 0) (v := .null) rfl rfl rfl rfl
  simpa [hk] using e
set_option maxRecDepth 100000 in
theorem s245_1460 {l0 l1 l2 l3 : Option Value} {x1 : Int32} {x2 : Int32} {σ : xM} {Q : Option Value → xM → Prop} : xC 245 1460 [l0, l1, l2, l3] [.int x2, .int x1, .ref 0] σ Q = xI1 144 [.ref 0, .int x1, .int x2] σ (fun r σ' => xC 245 1463 [l0, l1, l2, l3] [.int r] σ' Q) := xC_callI (p1 := 1460) (ins := .invokevirtual 162) (len := 3) (pl := 1056) (a := 144) (b := 3) (v := .null) rfl rfl rfl ⟨Nat.le_of_ble_eq_true rfl, Or.inl (Nat.le_of_ble_eq_true rfl), xa_144, Or.inr rfl, Nat.le_of_ble_eq_true rfl⟩ (Or.inl xr_144)
set_option maxRecDepth 100000 in
theorem s245_1463 {l0 l1 l3 : Option Value} {s0 : Value} {k : Nat} {σ : xM} {Q : Option Value → xM → Prop} : xC 245 1463 [l0, l1, some (.ref k), l3] [s0] σ Q = xC 245 1464 [l0, l1, some (.ref k), l3] [.ref k, s0] σ Q := xC_step (y := 245) (pc := 1463) (p1 := 1463) (ins := .aload_n 2) (len := 1) (pl := 0) (a := 0) (b := 0) (v := .null) rfl rfl rfl rfl
set_option maxRecDepth 100000 in
theorem s245_1464 {l1 l2 l3 : Option Value} {s0 s1 : Value} {k : Nat} {σ : xM} {Q : Option Value → xM → Prop} : xC 245 1464 [some (.ref k), l1, l2, l3] [s0, s1] σ Q = xC 245 1465 [some (.ref k), l1, l2, l3] [.ref k, s0, s1] σ Q := xC_step (y := 245) (pc := 1464) (p1 := 1464) (ins := .aload_n 0) (len := 1) (pl := 0) (a := 0) (b := 0) (v := .null) rfl rfl rfl rfl
set_option maxRecDepth 100000 in
theorem s245_1465 {l0 l1 l2 : Option Value} {s0 s1 s2 : Value} {x : Int32} {σ : xM} {Q : Option Value → xM → Prop} : xC 245 1465 [l0, l1, l2, some (.int x)] [s0, s1, s2] σ Q = xC 245 1466 [l0, l1, l2, some (.int x)] [.int x, s0, s1, s2] σ Q := xC_step (y := 245) (pc := 1465) (p1 := 1465) (ins := .iload_n 3) (len := 1) (pl := 0) (a := 0) (b := 0) (v := .null) rfl rfl rfl rfl
set_option maxRecDepth 100000 in
theorem s245_1466 {l0 l1 l2 l3 : Option Value} {s0 s1 s2 s3 : Value} {σ : xM} {Q : Option Value → xM → Prop} : xC 245 1466 [l0, l1, l2, l3] [s0, s1, s2, s3] σ Q = xC 245 1467 [l0, l1, l2, l3] [.int (1), s0, s1, s2, s3] σ Q := xC_step (y := 245) (pc := 1466) (p1 := 1466) (ins := .iconst 1) (len := 1) (pl := 0) (a := 0) (b := 0) (v := .int (1)) rfl rfl rfl rfl
set_option maxRecDepth 100000 in
theorem s245_1467 {l0 l1 l2 l3 : Option Value} {s0 s1 s2 : Value} {x y : Int32} {σ : xM} {Q : Option Value → xM → Prop} : xC 245 1467 [l0, l1, l2, l3] [.int y, .int x, s0, s1, s2] σ Q = xC 245 1468 [l0, l1, l2, l3] [.int (x + y), s0, s1, s2] σ Q := xC_step (y := 245) (pc := 1467) (p1 := 1467) (ins := .iadd) (len := 1) (pl := 0) (a := 0) (b := 0) (v := .null) rfl rfl rfl rfl
set_option maxRecDepth 100000 in
theorem s245_1468 {l0 l1 l2 l3 : Option Value} {s0 s1 : Value} {i : Int32} {k : Nat} {σ : xM} {Q : Option Value → xM → Prop} (hk : xe_cls k = 100) : xC 245 1468 [l0, l1, l2, l3] [.int i, .ref k, s0, s1] σ Q = ((0 ≤ i ∧ i.toNatClampNeg < xt_len.getD k 0) ∧ xC 245 1469 [l0, l1, l2, l3] [.int (σ.1 k i.toNatClampNeg), s0, s1] σ Q) := xC_and (y := 245) (pc := 1468) (p1 := 1468) (ins := .iaload) (len := 1) (pl := 0) (a := 0) (b := 0) (v := .null) rfl rfl rfl (xa_ial hk)
set_option maxRecDepth 100000 in
theorem s245_1468_g {l0 l1 l2 l3 : Option Value} {s0 s1 : Value} {i : Int32} {k : Nat} {σ : xM} {Q : Option Value → xM → Prop} (hk : xe_cls k = 110) : xC 245 1468 [l0, l1, l2, l3] [.int i, .ref k, s0, s1] σ Q = ((0 ≤ i ∧ i.toNatClampNeg < xe_len σ k) ∧ xC 245 1469 [l0, l1, l2, l3] [.int (xe_ax σ k i.toNatClampNeg), s0, s1] σ Q) := by
  have e := xC_and (Q := Q) (ls := [l0, l1, l2, l3]) (st := [.int i, .ref k, s0, s1]) (σ := σ) (y := 245) (pc := 1468) (p1 := 1468) (ins := .iaload) (len := 1) (pl := 0) (a := 0) (b := 0) (v := .null) rfl rfl rfl rfl
  simpa [hk] using e
set_option maxRecDepth 100000 in
theorem s245_1469 {l1 l2 l3 : Option Value} {s0 s1 s2 : Value} {k : Nat} {σ : xM} {Q : Option Value → xM → Prop} : xC 245 1469 [some (.ref k), l1, l2, l3] [s0, s1, s2] σ Q = xC 245 1470 [some (.ref k), l1, l2, l3] [.ref k, s0, s1, s2] σ Q := xC_step (y := 245) (pc := 1469) (p1 := 1469) (ins := .aload_n 0) (len := 1) (pl := 0) (a := 0) (b := 0) (v := .null) rfl rfl rfl rfl
set_option maxRecDepth 100000 in
theorem s245_1470 {l0 l1 l2 : Option Value} {s0 s1 s2 s3 : Value} {x : Int32} {σ : xM} {Q : Option Value → xM → Prop} : xC 245 1470 [l0, l1, l2, some (.int x)] [s0, s1, s2, s3] σ Q = xC 245 1471 [l0, l1, l2, some (.int x)] [.int x, s0, s1, s2, s3] σ Q := xC_step (y := 245) (pc := 1470) (p1 := 1470) (ins := .iload_n 3) (len := 1) (pl := 0) (a := 0) (b := 0) (v := .null) rfl rfl rfl rfl
set_option maxRecDepth 100000 in
theorem s245_1471 {l0 l1 l2 l3 : Option Value} {s0 s1 s2 s3 s4 : Value} {σ : xM} {Q : Option Value → xM → Prop} : xC 245 1471 [l0, l1, l2, l3] [s0, s1, s2, s3, s4] σ Q = xC 245 1472 [l0, l1, l2, l3] [.int (2), s0, s1, s2, s3, s4] σ Q := xC_step (y := 245) (pc := 1471) (p1 := 1471) (ins := .iconst 2) (len := 1) (pl := 0) (a := 0) (b := 0) (v := .int (2)) rfl rfl rfl rfl
set_option maxRecDepth 100000 in
theorem s245_1472 {l0 l1 l2 l3 : Option Value} {s0 s1 s2 s3 : Value} {x y : Int32} {σ : xM} {Q : Option Value → xM → Prop} : xC 245 1472 [l0, l1, l2, l3] [.int y, .int x, s0, s1, s2, s3] σ Q = xC 245 1473 [l0, l1, l2, l3] [.int (x + y), s0, s1, s2, s3] σ Q := xC_step (y := 245) (pc := 1472) (p1 := 1472) (ins := .iadd) (len := 1) (pl := 0) (a := 0) (b := 0) (v := .null) rfl rfl rfl rfl
set_option maxRecDepth 100000 in
theorem s245_1473 {l0 l1 l2 l3 : Option Value} {s0 s1 s2 : Value} {i : Int32} {k : Nat} {σ : xM} {Q : Option Value → xM → Prop} (hk : xe_cls k = 100) : xC 245 1473 [l0, l1, l2, l3] [.int i, .ref k, s0, s1, s2] σ Q = ((0 ≤ i ∧ i.toNatClampNeg < xt_len.getD k 0) ∧ xC 245 1474 [l0, l1, l2, l3] [.int (σ.1 k i.toNatClampNeg), s0, s1, s2] σ Q) := xC_and (y := 245) (pc := 1473) (p1 := 1473) (ins := .iaload) (len := 1) (pl := 0) (a := 0) (b := 0) (v := .null) rfl rfl rfl (xa_ial hk)
set_option maxRecDepth 100000 in
theorem s245_1473_g {l0 l1 l2 l3 : Option Value} {s0 s1 s2 : Value} {i : Int32} {k : Nat} {σ : xM} {Q : Option Value → xM → Prop} (hk : xe_cls k = 110) : xC 245 1473 [l0, l1, l2, l3] [.int i, .ref k, s0, s1, s2] σ Q = ((0 ≤ i ∧ i.toNatClampNeg < xe_len σ k) ∧ xC 245 1474 [l0, l1, l2, l3] [.int (xe_ax σ k i.toNatClampNeg), s0, s1, s2] σ Q) := by
  have e := xC_and (Q := Q) (ls := [l0, l1, l2, l3]) (st := [.int i, .ref k, s0, s1, s2]) (σ := σ) (y := 245) (pc := 1473) (p1 := 1473) (ins := .iaload) (len := 1) (pl := 0) (a := 0) (b := 0) (v := .null) rfl rfl rfl rfl
  simpa [hk] using e
set_option maxRecDepth 100000 in
theorem s245_1474 {l0 l1 l2 l3 : Option Value} {s0 : Value} {x1 : Int32} {x2 : Int32} {σ : xM} {Q : Option Value → xM → Prop} : xC 245 1474 [l0, l1, l2, l3] [.int x2, .int x1, .ref 84, s0] σ Q = xI1 241 [.ref 84, .int x1, .int x2] σ (fun r σ' => xC 245 1477 [l0, l1, l2, l3] [.int r, s0] σ' Q) := xC_callI (p1 := 1474) (ins := .invokevirtual 165) (len := 3) (pl := 1496) (a := 241) (b := 3) (v := .null) rfl rfl rfl ⟨Nat.le_of_ble_eq_true rfl, Or.inl (Nat.le_of_ble_eq_true rfl), xa_241, Or.inr rfl, Nat.le_of_ble_eq_true rfl⟩ (Or.inl xr_241)
set_option maxRecDepth 100000 in
theorem s245_1477 {l0 l1 l2 l3 : Option Value} {x y : Int32} {σ : xM} {Q : Option Value → xM → Prop} : xC 245 1477 [l0, l1, l2, l3] [.int y, .int x] σ Q = (if x = y then xC 245 1551 [l0, l1, l2, l3] [] σ Q else xC 245 1480 [l0, l1, l2, l3] [] σ Q) := xC_if (y := 245) (pc := 1477) (p1 := 1477) (ins := .if_icmp .eq 74) (len := 3) (pl := 0) (a := 1551) (b := 0) (v := .null) rfl rfl rfl rfl
set_option maxRecDepth 100000 in
theorem s245_1480 {l0 l1 l2 l3 : Option Value} {σ : xM} {Q : Option Value → xM → Prop} : xC 245 1480 [l0, l1, l2, l3] [] σ Q = xC 245 1481 [l0, l1, l2, l3] [.int (0)] σ Q := xC_step (y := 245) (pc := 1480) (p1 := 1480) (ins := .iconst 0) (len := 1) (pl := 0) (a := 0) (b := 0) (v := .int (0)) rfl rfl rfl rfl
set_option maxRecDepth 100000 in
theorem s245_1481 {l0 l1 l2 l3 : Option Value} {x : Int32} {σ : xM} {Q : Option Value → xM → Prop} : xC 245 1481 [l0, l1, l2, l3] [.int x] σ Q = ((x = 0 ∨ x = 1) ∧ Q (some (.int x)) σ) := xC_retIf (y := 245) (pc := 1481) (p1 := 1481) (ins := .ireturn) (len := 1) (pl := 0) (a := 0) (b := 0) (v := .null) rfl rfl (by rw [xr_245]; rfl)
set_option maxRecDepth 100000 in
theorem s245_1482 {l0 l2 l3 : Option Value} {k : Nat} {σ : xM} {Q : Option Value → xM → Prop} : xC 245 1482 [l0, some (.ref k), l2, l3] [] σ Q = xC 245 1483 [l0, some (.ref k), l2, l3] [.ref k] σ Q := xC_step (y := 245) (pc := 1482) (p1 := 1482) (ins := .aload_n 1) (len := 1) (pl := 0) (a := 0) (b := 0) (v := .null) rfl rfl rfl rfl
set_option maxRecDepth 100000 in
theorem s245_1483 {l1 l2 l3 : Option Value} {s0 : Value} {k : Nat} {σ : xM} {Q : Option Value → xM → Prop} : xC 245 1483 [some (.ref k), l1, l2, l3] [s0] σ Q = xC 245 1484 [some (.ref k), l1, l2, l3] [.ref k, s0] σ Q := xC_step (y := 245) (pc := 1483) (p1 := 1483) (ins := .aload_n 0) (len := 1) (pl := 0) (a := 0) (b := 0) (v := .null) rfl rfl rfl rfl
set_option maxRecDepth 100000 in
theorem s245_1484 {l0 l1 l2 : Option Value} {s0 s1 : Value} {x : Int32} {σ : xM} {Q : Option Value → xM → Prop} : xC 245 1484 [l0, l1, l2, some (.int x)] [s0, s1] σ Q = xC 245 1485 [l0, l1, l2, some (.int x)] [.int x, s0, s1] σ Q := xC_step (y := 245) (pc := 1484) (p1 := 1484) (ins := .iload_n 3) (len := 1) (pl := 0) (a := 0) (b := 0) (v := .null) rfl rfl rfl rfl
set_option maxRecDepth 100000 in
theorem s245_1485 {l0 l1 l2 l3 : Option Value} {s0 s1 s2 : Value} {σ : xM} {Q : Option Value → xM → Prop} : xC 245 1485 [l0, l1, l2, l3] [s0, s1, s2] σ Q = xC 245 1486 [l0, l1, l2, l3] [.int (1), s0, s1, s2] σ Q := xC_step (y := 245) (pc := 1485) (p1 := 1485) (ins := .iconst 1) (len := 1) (pl := 0) (a := 0) (b := 0) (v := .int (1)) rfl rfl rfl rfl
set_option maxRecDepth 100000 in
theorem s245_1486 {l0 l1 l2 l3 : Option Value} {s0 s1 : Value} {x y : Int32} {σ : xM} {Q : Option Value → xM → Prop} : xC 245 1486 [l0, l1, l2, l3] [.int y, .int x, s0, s1] σ Q = xC 245 1487 [l0, l1, l2, l3] [.int (x + y), s0, s1] σ Q := xC_step (y := 245) (pc := 1486) (p1 := 1486) (ins := .iadd) (len := 1) (pl := 0) (a := 0) (b := 0) (v := .null) rfl rfl rfl rfl
set_option maxRecDepth 100000 in
theorem s245_1487 {l0 l1 l2 l3 : Option Value} {s0 : Value} {i : Int32} {k : Nat} {σ : xM} {Q : Option Value → xM → Prop} (hk : xe_cls k = 100) : xC 245 1487 [l0, l1, l2, l3] [.int i, .ref k, s0] σ Q = ((0 ≤ i ∧ i.toNatClampNeg < xt_len.getD k 0) ∧ xC 245 1488 [l0, l1, l2, l3] [.int (σ.1 k i.toNatClampNeg), s0] σ Q) := xC_and (y := 245) (pc := 1487) (p1 := 1487) (ins := .iaload) (len := 1) (pl := 0) (a := 0) (b := 0) (v := .null) rfl rfl rfl (xa_ial hk)
set_option maxRecDepth 100000 in
theorem s245_1487_g {l0 l1 l2 l3 : Option Value} {s0 : Value} {i : Int32} {k : Nat} {σ : xM} {Q : Option Value → xM → Prop} (hk : xe_cls k = 110) : xC 245 1487 [l0, l1, l2, l3] [.int i, .ref k, s0] σ Q = ((0 ≤ i ∧ i.toNatClampNeg < xe_len σ k) ∧ xC 245 1488 [l0, l1, l2, l3] [.int (xe_ax σ k i.toNatClampNeg), s0] σ Q) := by
  have e := xC_and (Q := Q) (ls := [l0, l1, l2, l3]) (st := [.int i, .ref k, s0]) (σ := σ) (y := 245) (pc := 1487) (p1 := 1487) (ins := .iaload) (len := 1) (pl := 0) (a := 0) (b := 0) (v := .null) rfl rfl rfl rfl
  simpa [hk] using e
set_option maxRecDepth 100000 in
theorem s245_1488 {l0 l1 l2 l3 : Option Value} {x1 : Int32} {σ : xM} {Q : Option Value → xM → Prop} : xC 245 1488 [l0, l1, l2, l3] [.int x1, .ref 0] σ Q = xI1 145 [.ref 0, .int x1] σ (fun r σ' => xC 245 1491 [l0, l1, l2, l3] [.int r] σ' Q) := xC_callI (p1 := 1488) (ins := .invokevirtual 166) (len := 3) (pl := 1072) (a := 145) (b := 2) (v := .null) rfl rfl rfl ⟨Nat.le_of_ble_eq_true rfl, Or.inl (Nat.le_of_ble_eq_true rfl), xa_145, Or.inr rfl, Nat.le_of_ble_eq_true rfl⟩ (Or.inr <| Or.inl xr_145)
set_option maxRecDepth 100000 in
theorem s245_1491 {l0 l1 l3 : Option Value} {s0 : Value} {k : Nat} {σ : xM} {Q : Option Value → xM → Prop} : xC 245 1491 [l0, l1, some (.ref k), l3] [s0] σ Q = xC 245 1492 [l0, l1, some (.ref k), l3] [.ref k, s0] σ Q := xC_step (y := 245) (pc := 1491) (p1 := 1491) (ins := .aload_n 2) (len := 1) (pl := 0) (a := 0) (b := 0) (v := .null) rfl rfl rfl rfl
set_option maxRecDepth 100000 in
theorem s245_1492 {l1 l2 l3 : Option Value} {s0 s1 : Value} {k : Nat} {σ : xM} {Q : Option Value → xM → Prop} : xC 245 1492 [some (.ref k), l1, l2, l3] [s0, s1] σ Q = xC 245 1493 [some (.ref k), l1, l2, l3] [.ref k, s0, s1] σ Q := xC_step (y := 245) (pc := 1492) (p1 := 1492) (ins := .aload_n 0) (len := 1) (pl := 0) (a := 0) (b := 0) (v := .null) rfl rfl rfl rfl
set_option maxRecDepth 100000 in
theorem s245_1493 {l0 l1 l2 : Option Value} {s0 s1 s2 : Value} {x : Int32} {σ : xM} {Q : Option Value → xM → Prop} : xC 245 1493 [l0, l1, l2, some (.int x)] [s0, s1, s2] σ Q = xC 245 1494 [l0, l1, l2, some (.int x)] [.int x, s0, s1, s2] σ Q := xC_step (y := 245) (pc := 1493) (p1 := 1493) (ins := .iload_n 3) (len := 1) (pl := 0) (a := 0) (b := 0) (v := .null) rfl rfl rfl rfl
set_option maxRecDepth 100000 in
theorem s245_1494 {l0 l1 l2 l3 : Option Value} {s0 s1 s2 s3 : Value} {σ : xM} {Q : Option Value → xM → Prop} : xC 245 1494 [l0, l1, l2, l3] [s0, s1, s2, s3] σ Q = xC 245 1495 [l0, l1, l2, l3] [.int (1), s0, s1, s2, s3] σ Q := xC_step (y := 245) (pc := 1494) (p1 := 1494) (ins := .iconst 1) (len := 1) (pl := 0) (a := 0) (b := 0) (v := .int (1)) rfl rfl rfl rfl
set_option maxRecDepth 100000 in
theorem s245_1495 {l0 l1 l2 l3 : Option Value} {s0 s1 s2 : Value} {x y : Int32} {σ : xM} {Q : Option Value → xM → Prop} : xC 245 1495 [l0, l1, l2, l3] [.int y, .int x, s0, s1, s2] σ Q = xC 245 1496 [l0, l1, l2, l3] [.int (x + y), s0, s1, s2] σ Q := xC_step (y := 245) (pc := 1495) (p1 := 1495) (ins := .iadd) (len := 1) (pl := 0) (a := 0) (b := 0) (v := .null) rfl rfl rfl rfl
set_option maxRecDepth 100000 in
theorem s245_1496 {l0 l1 l2 l3 : Option Value} {s0 s1 : Value} {i : Int32} {k : Nat} {σ : xM} {Q : Option Value → xM → Prop} (hk : xe_cls k = 100) : xC 245 1496 [l0, l1, l2, l3] [.int i, .ref k, s0, s1] σ Q = ((0 ≤ i ∧ i.toNatClampNeg < xt_len.getD k 0) ∧ xC 245 1497 [l0, l1, l2, l3] [.int (σ.1 k i.toNatClampNeg), s0, s1] σ Q) := xC_and (y := 245) (pc := 1496) (p1 := 1496) (ins := .iaload) (len := 1) (pl := 0) (a := 0) (b := 0) (v := .null) rfl rfl rfl (xa_ial hk)
set_option maxRecDepth 100000 in
theorem s245_1496_g {l0 l1 l2 l3 : Option Value} {s0 s1 : Value} {i : Int32} {k : Nat} {σ : xM} {Q : Option Value → xM → Prop} (hk : xe_cls k = 110) : xC 245 1496 [l0, l1, l2, l3] [.int i, .ref k, s0, s1] σ Q = ((0 ≤ i ∧ i.toNatClampNeg < xe_len σ k) ∧ xC 245 1497 [l0, l1, l2, l3] [.int (xe_ax σ k i.toNatClampNeg), s0, s1] σ Q) := by
  have e := xC_and (Q := Q) (ls := [l0, l1, l2, l3]) (st := [.int i, .ref k, s0, s1]) (σ := σ) (y := 245) (pc := 1496) (p1 := 1496) (ins := .iaload) (len := 1) (pl := 0) (a := 0) (b := 0) (v := .null) rfl rfl rfl rfl
  simpa [hk] using e
set_option maxRecDepth 100000 in
theorem s245_1497 {l0 l1 l2 l3 : Option Value} {s0 : Value} {x1 : Int32} {σ : xM} {Q : Option Value → xM → Prop} : xC 245 1497 [l0, l1, l2, l3] [.int x1, .ref 84, s0] σ Q = xI1 242 [.ref 84, .int x1] σ (fun r σ' => xC 245 1500 [l0, l1, l2, l3] [.int r, s0] σ' Q) := xC_callI (p1 := 1497) (ins := .invokevirtual 169) (len := 3) (pl := 1500) (a := 242) (b := 2) (v := .null) rfl rfl rfl ⟨Nat.le_of_ble_eq_true rfl, Or.inl (Nat.le_of_ble_eq_true rfl), xa_242, Or.inr rfl, Nat.le_of_ble_eq_true rfl⟩ (Or.inr <| Or.inl xr_242)
set_option maxRecDepth 100000 in
theorem s245_1500 {l0 l1 l2 l3 : Option Value} {x y : Int32} {σ : xM} {Q : Option Value → xM → Prop} : xC 245 1500 [l0, l1, l2, l3] [.int y, .int x] σ Q = (if x = y then xC 245 1551 [l0, l1, l2, l3] [] σ Q else xC 245 1503 [l0, l1, l2, l3] [] σ Q) := xC_if (y := 245) (pc := 1500) (p1 := 1500) (ins := .if_icmp .eq 51) (len := 3) (pl := 0) (a := 1551) (b := 0) (v := .null) rfl rfl rfl rfl
set_option maxRecDepth 100000 in
theorem s245_1503 {l0 l1 l2 l3 : Option Value} {σ : xM} {Q : Option Value → xM → Prop} : xC 245 1503 [l0, l1, l2, l3] [] σ Q = xC 245 1504 [l0, l1, l2, l3] [.int (0)] σ Q := xC_step (y := 245) (pc := 1503) (p1 := 1503) (ins := .iconst 0) (len := 1) (pl := 0) (a := 0) (b := 0) (v := .int (0)) rfl rfl rfl rfl
set_option maxRecDepth 100000 in
theorem s245_1504 {l0 l1 l2 l3 : Option Value} {x : Int32} {σ : xM} {Q : Option Value → xM → Prop} : xC 245 1504 [l0, l1, l2, l3] [.int x] σ Q = ((x = 0 ∨ x = 1) ∧ Q (some (.int x)) σ) := xC_retIf (y := 245) (pc := 1504) (p1 := 1504) (ins := .ireturn) (len := 1) (pl := 0) (a := 0) (b := 0) (v := .null) rfl rfl (by rw [xr_245]; rfl)
set_option maxRecDepth 100000 in
theorem s245_1505 {l0 l2 l3 : Option Value} {k : Nat} {σ : xM} {Q : Option Value → xM → Prop} : xC 245 1505 [l0, some (.ref k), l2, l3] [] σ Q = xC 245 1506 [l0, some (.ref k), l2, l3] [.ref k] σ Q := xC_step (y := 245) (pc := 1505) (p1 := 1505) (ins := .aload_n 1) (len := 1) (pl := 0) (a := 0) (b := 0) (v := .null) rfl rfl rfl rfl
set_option maxRecDepth 100000 in
theorem s245_1506 {l1 l2 l3 : Option Value} {s0 : Value} {k : Nat} {σ : xM} {Q : Option Value → xM → Prop} : xC 245 1506 [some (.ref k), l1, l2, l3] [s0] σ Q = xC 245 1507 [some (.ref k), l1, l2, l3] [.ref k, s0] σ Q := xC_step (y := 245) (pc := 1506) (p1 := 1506) (ins := .aload_n 0) (len := 1) (pl := 0) (a := 0) (b := 0) (v := .null) rfl rfl rfl rfl
set_option maxRecDepth 100000 in
theorem s245_1507 {l0 l1 l2 : Option Value} {s0 s1 : Value} {x : Int32} {σ : xM} {Q : Option Value → xM → Prop} : xC 245 1507 [l0, l1, l2, some (.int x)] [s0, s1] σ Q = xC 245 1508 [l0, l1, l2, some (.int x)] [.int x, s0, s1] σ Q := xC_step (y := 245) (pc := 1507) (p1 := 1507) (ins := .iload_n 3) (len := 1) (pl := 0) (a := 0) (b := 0) (v := .null) rfl rfl rfl rfl
set_option maxRecDepth 100000 in
theorem s245_1508 {l0 l1 l2 l3 : Option Value} {s0 s1 s2 : Value} {σ : xM} {Q : Option Value → xM → Prop} : xC 245 1508 [l0, l1, l2, l3] [s0, s1, s2] σ Q = xC 245 1509 [l0, l1, l2, l3] [.int (1), s0, s1, s2] σ Q := xC_step (y := 245) (pc := 1508) (p1 := 1508) (ins := .iconst 1) (len := 1) (pl := 0) (a := 0) (b := 0) (v := .int (1)) rfl rfl rfl rfl
set_option maxRecDepth 100000 in
theorem s245_1509 {l0 l1 l2 l3 : Option Value} {s0 s1 : Value} {x y : Int32} {σ : xM} {Q : Option Value → xM → Prop} : xC 245 1509 [l0, l1, l2, l3] [.int y, .int x, s0, s1] σ Q = xC 245 1510 [l0, l1, l2, l3] [.int (x + y), s0, s1] σ Q := xC_step (y := 245) (pc := 1509) (p1 := 1509) (ins := .iadd) (len := 1) (pl := 0) (a := 0) (b := 0) (v := .null) rfl rfl rfl rfl
set_option maxRecDepth 100000 in
theorem s245_1510 {l0 l1 l2 l3 : Option Value} {s0 : Value} {i : Int32} {k : Nat} {σ : xM} {Q : Option Value → xM → Prop} (hk : xe_cls k = 100) : xC 245 1510 [l0, l1, l2, l3] [.int i, .ref k, s0] σ Q = ((0 ≤ i ∧ i.toNatClampNeg < xt_len.getD k 0) ∧ xC 245 1511 [l0, l1, l2, l3] [.int (σ.1 k i.toNatClampNeg), s0] σ Q) := xC_and (y := 245) (pc := 1510) (p1 := 1510) (ins := .iaload) (len := 1) (pl := 0) (a := 0) (b := 0) (v := .null) rfl rfl rfl (xa_ial hk)
set_option maxRecDepth 100000 in
theorem s245_1510_g {l0 l1 l2 l3 : Option Value} {s0 : Value} {i : Int32} {k : Nat} {σ : xM} {Q : Option Value → xM → Prop} (hk : xe_cls k = 110) : xC 245 1510 [l0, l1, l2, l3] [.int i, .ref k, s0] σ Q = ((0 ≤ i ∧ i.toNatClampNeg < xe_len σ k) ∧ xC 245 1511 [l0, l1, l2, l3] [.int (xe_ax σ k i.toNatClampNeg), s0] σ Q) := by
  have e := xC_and (Q := Q) (ls := [l0, l1, l2, l3]) (st := [.int i, .ref k, s0]) (σ := σ) (y := 245) (pc := 1510) (p1 := 1510) (ins := .iaload) (len := 1) (pl := 0) (a := 0) (b := 0) (v := .null) rfl rfl rfl rfl
  simpa [hk] using e
set_option maxRecDepth 100000 in
theorem s245_1511 {l0 l1 l2 l3 : Option Value} {x1 : Int32} {σ : xM} {Q : Option Value → xM → Prop} : xC 245 1511 [l0, l1, l2, l3] [.int x1, .ref 0] σ Q = xI1 146 [.ref 0, .int x1] σ (fun r σ' => xC 245 1514 [l0, l1, l2, l3] [.int r] σ' Q) := xC_callI (p1 := 1511) (ins := .invokevirtual 170) (len := 3) (pl := 1081) (a := 146) (b := 2) (v := .null) rfl rfl rfl ⟨Nat.le_of_ble_eq_true rfl, Or.inl (Nat.le_of_ble_eq_true rfl), xa_146, Or.inr rfl, Nat.le_of_ble_eq_true rfl⟩ (Or.inr <| Or.inl xr_146)
set_option maxRecDepth 100000 in
theorem s245_1514 {l0 l1 l3 : Option Value} {s0 : Value} {k : Nat} {σ : xM} {Q : Option Value → xM → Prop} : xC 245 1514 [l0, l1, some (.ref k), l3] [s0] σ Q = xC 245 1515 [l0, l1, some (.ref k), l3] [.ref k, s0] σ Q := xC_step (y := 245) (pc := 1514) (p1 := 1514) (ins := .aload_n 2) (len := 1) (pl := 0) (a := 0) (b := 0) (v := .null) rfl rfl rfl rfl
set_option maxRecDepth 100000 in
theorem s245_1515 {l1 l2 l3 : Option Value} {s0 s1 : Value} {k : Nat} {σ : xM} {Q : Option Value → xM → Prop} : xC 245 1515 [some (.ref k), l1, l2, l3] [s0, s1] σ Q = xC 245 1516 [some (.ref k), l1, l2, l3] [.ref k, s0, s1] σ Q := xC_step (y := 245) (pc := 1515) (p1 := 1515) (ins := .aload_n 0) (len := 1) (pl := 0) (a := 0) (b := 0) (v := .null) rfl rfl rfl rfl
set_option maxRecDepth 100000 in
theorem s245_1516 {l0 l1 l2 : Option Value} {s0 s1 s2 : Value} {x : Int32} {σ : xM} {Q : Option Value → xM → Prop} : xC 245 1516 [l0, l1, l2, some (.int x)] [s0, s1, s2] σ Q = xC 245 1517 [l0, l1, l2, some (.int x)] [.int x, s0, s1, s2] σ Q := xC_step (y := 245) (pc := 1516) (p1 := 1516) (ins := .iload_n 3) (len := 1) (pl := 0) (a := 0) (b := 0) (v := .null) rfl rfl rfl rfl
set_option maxRecDepth 100000 in
theorem s245_1517 {l0 l1 l2 l3 : Option Value} {s0 s1 s2 s3 : Value} {σ : xM} {Q : Option Value → xM → Prop} : xC 245 1517 [l0, l1, l2, l3] [s0, s1, s2, s3] σ Q = xC 245 1518 [l0, l1, l2, l3] [.int (1), s0, s1, s2, s3] σ Q := xC_step (y := 245) (pc := 1517) (p1 := 1517) (ins := .iconst 1) (len := 1) (pl := 0) (a := 0) (b := 0) (v := .int (1)) rfl rfl rfl rfl
set_option maxRecDepth 100000 in
theorem s245_1518 {l0 l1 l2 l3 : Option Value} {s0 s1 s2 : Value} {x y : Int32} {σ : xM} {Q : Option Value → xM → Prop} : xC 245 1518 [l0, l1, l2, l3] [.int y, .int x, s0, s1, s2] σ Q = xC 245 1519 [l0, l1, l2, l3] [.int (x + y), s0, s1, s2] σ Q := xC_step (y := 245) (pc := 1518) (p1 := 1518) (ins := .iadd) (len := 1) (pl := 0) (a := 0) (b := 0) (v := .null) rfl rfl rfl rfl
set_option maxRecDepth 100000 in
theorem s245_1519 {l0 l1 l2 l3 : Option Value} {s0 s1 : Value} {i : Int32} {k : Nat} {σ : xM} {Q : Option Value → xM → Prop} (hk : xe_cls k = 100) : xC 245 1519 [l0, l1, l2, l3] [.int i, .ref k, s0, s1] σ Q = ((0 ≤ i ∧ i.toNatClampNeg < xt_len.getD k 0) ∧ xC 245 1520 [l0, l1, l2, l3] [.int (σ.1 k i.toNatClampNeg), s0, s1] σ Q) := xC_and (y := 245) (pc := 1519) (p1 := 1519) (ins := .iaload) (len := 1) (pl := 0) (a := 0) (b := 0) (v := .null) rfl rfl rfl (xa_ial hk)
set_option maxRecDepth 100000 in
theorem s245_1519_g {l0 l1 l2 l3 : Option Value} {s0 s1 : Value} {i : Int32} {k : Nat} {σ : xM} {Q : Option Value → xM → Prop} (hk : xe_cls k = 110) : xC 245 1519 [l0, l1, l2, l3] [.int i, .ref k, s0, s1] σ Q = ((0 ≤ i ∧ i.toNatClampNeg < xe_len σ k) ∧ xC 245 1520 [l0, l1, l2, l3] [.int (xe_ax σ k i.toNatClampNeg), s0, s1] σ Q) := by
  have e := xC_and (Q := Q) (ls := [l0, l1, l2, l3]) (st := [.int i, .ref k, s0, s1]) (σ := σ) (y := 245) (pc := 1519) (p1 := 1519) (ins := .iaload) (len := 1) (pl := 0) (a := 0) (b := 0) (v := .null) rfl rfl rfl rfl
  simpa [hk] using e
set_option maxRecDepth 100000 in
theorem s245_1520 {l0 l1 l2 l3 : Option Value} {s0 : Value} {x1 : Int32} {σ : xM} {Q : Option Value → xM → Prop} : xC 245 1520 [l0, l1, l2, l3] [.int x1, .ref 84, s0] σ Q = xI1 243 [.ref 84, .int x1] σ (fun r σ' => xC 245 1523 [l0, l1, l2, l3] [.int r, s0] σ' Q) := xC_callI (p1 := 1520) (ins := .invokevirtual 173) (len := 3) (pl := 1504) (a := 243) (b := 2) (v := .null) rfl rfl rfl ⟨Nat.le_of_ble_eq_true rfl, Or.inl (Nat.le_of_ble_eq_true rfl), xa_243, Or.inr rfl, Nat.le_of_ble_eq_true rfl⟩ (Or.inr <| Or.inl xr_243)
set_option maxRecDepth 100000 in
theorem s245_1523 {l0 l1 l2 l3 : Option Value} {x y : Int32} {σ : xM} {Q : Option Value → xM → Prop} : xC 245 1523 [l0, l1, l2, l3] [.int y, .int x] σ Q = (if x = y then xC 245 1551 [l0, l1, l2, l3] [] σ Q else xC 245 1526 [l0, l1, l2, l3] [] σ Q) := xC_if (y := 245) (pc := 1523) (p1 := 1523) (ins := .if_icmp .eq 28) (len := 3) (pl := 0) (a := 1551) (b := 0) (v := .null) rfl rfl rfl rfl
set_option maxRecDepth 100000 in
theorem s245_1526 {l0 l1 l2 l3 : Option Value} {σ : xM} {Q : Option Value → xM → Prop} : xC 245 1526 [l0, l1, l2, l3] [] σ Q = xC 245 1527 [l0, l1, l2, l3] [.int (0)] σ Q := xC_step (y := 245) (pc := 1526) (p1 := 1526) (ins := .iconst 0) (len := 1) (pl := 0) (a := 0) (b := 0) (v := .int (0)) rfl rfl rfl rfl
set_option maxRecDepth 100000 in
theorem s245_1527 {l0 l1 l2 l3 : Option Value} {x : Int32} {σ : xM} {Q : Option Value → xM → Prop} : xC 245 1527 [l0, l1, l2, l3] [.int x] σ Q = ((x = 0 ∨ x = 1) ∧ Q (some (.int x)) σ) := xC_retIf (y := 245) (pc := 1527) (p1 := 1527) (ins := .ireturn) (len := 1) (pl := 0) (a := 0) (b := 0) (v := .null) rfl rfl (by rw [xr_245]; rfl)
set_option maxRecDepth 100000 in
theorem s245_1528 {l0 l2 l3 : Option Value} {k : Nat} {σ : xM} {Q : Option Value → xM → Prop} : xC 245 1528 [l0, some (.ref k), l2, l3] [] σ Q = xC 245 1529 [l0, some (.ref k), l2, l3] [.ref k] σ Q := xC_step (y := 245) (pc := 1528) (p1 := 1528) (ins := .aload_n 1) (len := 1) (pl := 0) (a := 0) (b := 0) (v := .null) rfl rfl rfl rfl
set_option maxRecDepth 100000 in
theorem s245_1529 {l1 l2 l3 : Option Value} {s0 : Value} {k : Nat} {σ : xM} {Q : Option Value → xM → Prop} : xC 245 1529 [some (.ref k), l1, l2, l3] [s0] σ Q = xC 245 1530 [some (.ref k), l1, l2, l3] [.ref k, s0] σ Q := xC_step (y := 245) (pc := 1529) (p1 := 1529) (ins := .aload_n 0) (len := 1) (pl := 0) (a := 0) (b := 0) (v := .null) rfl rfl rfl rfl
set_option maxRecDepth 100000 in
theorem s245_1530 {l0 l1 l2 : Option Value} {s0 s1 : Value} {x : Int32} {σ : xM} {Q : Option Value → xM → Prop} : xC 245 1530 [l0, l1, l2, some (.int x)] [s0, s1] σ Q = xC 245 1531 [l0, l1, l2, some (.int x)] [.int x, s0, s1] σ Q := xC_step (y := 245) (pc := 1530) (p1 := 1530) (ins := .iload_n 3) (len := 1) (pl := 0) (a := 0) (b := 0) (v := .null) rfl rfl rfl rfl
set_option maxRecDepth 100000 in
theorem s245_1531 {l0 l1 l2 l3 : Option Value} {s0 s1 s2 : Value} {σ : xM} {Q : Option Value → xM → Prop} : xC 245 1531 [l0, l1, l2, l3] [s0, s1, s2] σ Q = xC 245 1532 [l0, l1, l2, l3] [.int (1), s0, s1, s2] σ Q := xC_step (y := 245) (pc := 1531) (p1 := 1531) (ins := .iconst 1) (len := 1) (pl := 0) (a := 0) (b := 0) (v := .int (1)) rfl rfl rfl rfl
set_option maxRecDepth 100000 in
theorem s245_1532 {l0 l1 l2 l3 : Option Value} {s0 s1 : Value} {x y : Int32} {σ : xM} {Q : Option Value → xM → Prop} : xC 245 1532 [l0, l1, l2, l3] [.int y, .int x, s0, s1] σ Q = xC 245 1533 [l0, l1, l2, l3] [.int (x + y), s0, s1] σ Q := xC_step (y := 245) (pc := 1532) (p1 := 1532) (ins := .iadd) (len := 1) (pl := 0) (a := 0) (b := 0) (v := .null) rfl rfl rfl rfl
set_option maxRecDepth 100000 in
theorem s245_1533 {l0 l1 l2 l3 : Option Value} {s0 : Value} {i : Int32} {k : Nat} {σ : xM} {Q : Option Value → xM → Prop} (hk : xe_cls k = 100) : xC 245 1533 [l0, l1, l2, l3] [.int i, .ref k, s0] σ Q = ((0 ≤ i ∧ i.toNatClampNeg < xt_len.getD k 0) ∧ xC 245 1534 [l0, l1, l2, l3] [.int (σ.1 k i.toNatClampNeg), s0] σ Q) := xC_and (y := 245) (pc := 1533) (p1 := 1533) (ins := .iaload) (len := 1) (pl := 0) (a := 0) (b := 0) (v := .null) rfl rfl rfl (xa_ial hk)
set_option maxRecDepth 100000 in
theorem s245_1533_g {l0 l1 l2 l3 : Option Value} {s0 : Value} {i : Int32} {k : Nat} {σ : xM} {Q : Option Value → xM → Prop} (hk : xe_cls k = 110) : xC 245 1533 [l0, l1, l2, l3] [.int i, .ref k, s0] σ Q = ((0 ≤ i ∧ i.toNatClampNeg < xe_len σ k) ∧ xC 245 1534 [l0, l1, l2, l3] [.int (xe_ax σ k i.toNatClampNeg), s0] σ Q) := by
  have e := xC_and (Q := Q) (ls := [l0, l1, l2, l3]) (st := [.int i, .ref k, s0]) (σ := σ) (y := 245) (pc := 1533) (p1 := 1533) (ins := .iaload) (len := 1) (pl := 0) (a := 0) (b := 0) (v := .null) rfl rfl rfl rfl
  simpa [hk] using e
set_option maxRecDepth 100000 in
theorem s245_1534 {l0 l1 l2 l3 : Option Value} {x1 : Int32} {σ : xM} {Q : Option Value → xM → Prop} : xC 245 1534 [l0, l1, l2, l3] [.int x1, .ref 0] σ Q = xI1 147 [.ref 0, .int x1] σ (fun r σ' => xC 245 1537 [l0, l1, l2, l3] [.int r] σ' Q) := xC_callI (p1 := 1534) (ins := .invokevirtual 174) (len := 3) (pl := 1085) (a := 147) (b := 2) (v := .null) rfl rfl rfl ⟨Nat.le_of_ble_eq_true rfl, Or.inl (Nat.le_of_ble_eq_true rfl), xa_147, Or.inr rfl, Nat.le_of_ble_eq_true rfl⟩ (Or.inl xr_147)
set_option maxRecDepth 100000 in
theorem s245_1537 {l0 l1 l3 : Option Value} {s0 : Value} {k : Nat} {σ : xM} {Q : Option Value → xM → Prop} : xC 245 1537 [l0, l1, some (.ref k), l3] [s0] σ Q = xC 245 1538 [l0, l1, some (.ref k), l3] [.ref k, s0] σ Q := xC_step (y := 245) (pc := 1537) (p1 := 1537) (ins := .aload_n 2) (len := 1) (pl := 0) (a := 0) (b := 0) (v := .null) rfl rfl rfl rfl
set_option maxRecDepth 100000 in
theorem s245_1538 {l1 l2 l3 : Option Value} {s0 s1 : Value} {k : Nat} {σ : xM} {Q : Option Value → xM → Prop} : xC 245 1538 [some (.ref k), l1, l2, l3] [s0, s1] σ Q = xC 245 1539 [some (.ref k), l1, l2, l3] [.ref k, s0, s1] σ Q := xC_step (y := 245) (pc := 1538) (p1 := 1538) (ins := .aload_n 0) (len := 1) (pl := 0) (a := 0) (b := 0) (v := .null) rfl rfl rfl rfl
set_option maxRecDepth 100000 in
theorem s245_1539 {l0 l1 l2 : Option Value} {s0 s1 s2 : Value} {x : Int32} {σ : xM} {Q : Option Value → xM → Prop} : xC 245 1539 [l0, l1, l2, some (.int x)] [s0, s1, s2] σ Q = xC 245 1540 [l0, l1, l2, some (.int x)] [.int x, s0, s1, s2] σ Q := xC_step (y := 245) (pc := 1539) (p1 := 1539) (ins := .iload_n 3) (len := 1) (pl := 0) (a := 0) (b := 0) (v := .null) rfl rfl rfl rfl
set_option maxRecDepth 100000 in
theorem s245_1540 {l0 l1 l2 l3 : Option Value} {s0 s1 s2 s3 : Value} {σ : xM} {Q : Option Value → xM → Prop} : xC 245 1540 [l0, l1, l2, l3] [s0, s1, s2, s3] σ Q = xC 245 1541 [l0, l1, l2, l3] [.int (1), s0, s1, s2, s3] σ Q := xC_step (y := 245) (pc := 1540) (p1 := 1540) (ins := .iconst 1) (len := 1) (pl := 0) (a := 0) (b := 0) (v := .int (1)) rfl rfl rfl rfl
set_option maxRecDepth 100000 in
theorem s245_1541 {l0 l1 l2 l3 : Option Value} {s0 s1 s2 : Value} {x y : Int32} {σ : xM} {Q : Option Value → xM → Prop} : xC 245 1541 [l0, l1, l2, l3] [.int y, .int x, s0, s1, s2] σ Q = xC 245 1542 [l0, l1, l2, l3] [.int (x + y), s0, s1, s2] σ Q := xC_step (y := 245) (pc := 1541) (p1 := 1541) (ins := .iadd) (len := 1) (pl := 0) (a := 0) (b := 0) (v := .null) rfl rfl rfl rfl
set_option maxRecDepth 100000 in
theorem s245_1542 {l0 l1 l2 l3 : Option Value} {s0 s1 : Value} {i : Int32} {k : Nat} {σ : xM} {Q : Option Value → xM → Prop} (hk : xe_cls k = 100) : xC 245 1542 [l0, l1, l2, l3] [.int i, .ref k, s0, s1] σ Q = ((0 ≤ i ∧ i.toNatClampNeg < xt_len.getD k 0) ∧ xC 245 1543 [l0, l1, l2, l3] [.int (σ.1 k i.toNatClampNeg), s0, s1] σ Q) := xC_and (y := 245) (pc := 1542) (p1 := 1542) (ins := .iaload) (len := 1) (pl := 0) (a := 0) (b := 0) (v := .null) rfl rfl rfl (xa_ial hk)
set_option maxRecDepth 100000 in
theorem s245_1542_g {l0 l1 l2 l3 : Option Value} {s0 s1 : Value} {i : Int32} {k : Nat} {σ : xM} {Q : Option Value → xM → Prop} (hk : xe_cls k = 110) : xC 245 1542 [l0, l1, l2, l3] [.int i, .ref k, s0, s1] σ Q = ((0 ≤ i ∧ i.toNatClampNeg < xe_len σ k) ∧ xC 245 1543 [l0, l1, l2, l3] [.int (xe_ax σ k i.toNatClampNeg), s0, s1] σ Q) := by
  have e := xC_and (Q := Q) (ls := [l0, l1, l2, l3]) (st := [.int i, .ref k, s0, s1]) (σ := σ) (y := 245) (pc := 1542) (p1 := 1542) (ins := .iaload) (len := 1) (pl := 0) (a := 0) (b := 0) (v := .null) rfl rfl rfl rfl
  simpa [hk] using e
set_option maxRecDepth 100000 in
theorem s245_1543 {l0 l1 l2 l3 : Option Value} {s0 : Value} {x1 : Int32} {σ : xM} {Q : Option Value → xM → Prop} : xC 245 1543 [l0, l1, l2, l3] [.int x1, .ref 84, s0] σ Q = xI1 244 [.ref 84, .int x1] σ (fun r σ' => xC 245 1546 [l0, l1, l2, l3] [.int r, s0] σ' Q) := xC_callI (p1 := 1543) (ins := .invokevirtual 177) (len := 3) (pl := 1508) (a := 244) (b := 2) (v := .null) rfl rfl rfl ⟨Nat.le_of_ble_eq_true rfl, Or.inl (Nat.le_of_ble_eq_true rfl), xa_244, Or.inr rfl, Nat.le_of_ble_eq_true rfl⟩ (Or.inl xr_244)
set_option maxRecDepth 100000 in
theorem s245_1546 {l0 l1 l2 l3 : Option Value} {x y : Int32} {σ : xM} {Q : Option Value → xM → Prop} : xC 245 1546 [l0, l1, l2, l3] [.int y, .int x] σ Q = (if x = y then xC 245 1551 [l0, l1, l2, l3] [] σ Q else xC 245 1549 [l0, l1, l2, l3] [] σ Q) := xC_if (y := 245) (pc := 1546) (p1 := 1546) (ins := .if_icmp .eq 5) (len := 3) (pl := 0) (a := 1551) (b := 0) (v := .null) rfl rfl rfl rfl
set_option maxRecDepth 100000 in
theorem s245_1549 {l0 l1 l2 l3 : Option Value} {σ : xM} {Q : Option Value → xM → Prop} : xC 245 1549 [l0, l1, l2, l3] [] σ Q = xC 245 1550 [l0, l1, l2, l3] [.int (0)] σ Q := xC_step (y := 245) (pc := 1549) (p1 := 1549) (ins := .iconst 0) (len := 1) (pl := 0) (a := 0) (b := 0) (v := .int (0)) rfl rfl rfl rfl
set_option maxRecDepth 100000 in
theorem s245_1550 {l0 l1 l2 l3 : Option Value} {x : Int32} {σ : xM} {Q : Option Value → xM → Prop} : xC 245 1550 [l0, l1, l2, l3] [.int x] σ Q = ((x = 0 ∨ x = 1) ∧ Q (some (.int x)) σ) := xC_retIf (y := 245) (pc := 1550) (p1 := 1550) (ins := .ireturn) (len := 1) (pl := 0) (a := 0) (b := 0) (v := .null) rfl rfl (by rw [xr_245]; rfl)
set_option maxRecDepth 100000 in
theorem s245_1551 {l0 l1 l2 : Option Value} {x : Int32} {σ : xM} {Q : Option Value → xM → Prop} : xC 245 1551 [l0, l1, l2, some (.int x)] [] σ Q = xC 245 1554 [l0, l1, xe_cl l2, some (.int (x + 6))] [] σ Q := xC_step (y := 245) (pc := 1551) (p1 := 1551) (ins := .iinc 3 6) (len := 3) (pl := 0) (a := 0) (b := 0) (v := .null) rfl rfl rfl rfl
set_option maxRecDepth 100000 in
theorem s245_1554 {l0 l1 l2 l3 : Option Value} {σ : xM} {Q : Option Value → xM → Prop} : xC 245 1554 [l0, l1, l2, l3] [] σ Q = xC 245 18 [l0, l1, l2, l3] [] σ Q := xC_step (y := 245) (pc := 1554) (p1 := 1554) (ins := .goto (-1536)) (len := 3) (pl := 0) (a := 18) (b := 0) (v := .null) rfl rfl rfl rfl
set_option maxRecDepth 100000 in
theorem s245_1557 {l0 l1 l2 l3 : Option Value} {σ : xM} {Q : Option Value → xM → Prop} : xC 245 1557 [l0, l1, l2, l3] [] σ Q = xC 245 1558 [l0, l1, l2, l3] [.int (1)] σ Q := xC_step (y := 245) (pc := 1557) (p1 := 1557) (ins := .iconst 1) (len := 1) (pl := 0) (a := 0) (b := 0) (v := .int (1)) rfl rfl rfl rfl
set_option maxRecDepth 100000 in
theorem s245_1558 {l0 l1 l2 l3 : Option Value} {x : Int32} {σ : xM} {Q : Option Value → xM → Prop} : xC 245 1558 [l0, l1, l2, l3] [.int x] σ Q = ((x = 0 ∨ x = 1) ∧ Q (some (.int x)) σ) := xC_retIf (y := 245) (pc := 1558) (p1 := 1558) (ins := .ireturn) (len := 1) (pl := 0) (a := 0) (b := 0) (v := .null) rfl rfl (by rw [xr_245]; rfl)
