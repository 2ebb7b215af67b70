/-! THE LAW'S LOOP in the small machine -/
theorem len_of {σ : xM} {L : Nat} (h : σ.1 1011 0 = Int32.ofNat L) (hL : L ≤ 3072) : xe_len σ 1010 = L := by
  have e : xe_len σ 1010 = (σ.1 1011 0).toNatClampNeg := rfl
  rw [e, h]; exact nI_cl L (by omega)
theorem xcl_1010 : xe_cls 1010 = 110 := by decide +kernel
theorem sw_0 {l0 l1 l2 l3 : Option Value} {σ : xM} {Q : Option Value → xM → Prop} : xC 245 33 [l0, l1, l2, l3] [.int 0] σ Q = xC 245 204 [l0, l1, l2, l3] [] σ Q := by
  rw [s245_33, if_pos rfl]
theorem sw_1 {l0 l1 l2 l3 : Option Value} {σ : xM} {Q : Option Value → xM → Prop} : xC 245 33 [l0, l1, l2, l3] [.int 1] σ Q = xC 245 267 [l0, l1, l2, l3] [] σ Q := by
  rw [s245_33, if_neg (by decide), if_pos rfl]
theorem sw_2 {l0 l1 l2 l3 : Option Value} {σ : xM} {Q : Option Value → xM → Prop} : xC 245 33 [l0, l1, l2, l3] [.int 2] σ Q = xC 245 290 [l0, l1, l2, l3] [] σ Q := by
  rw [s245_33, if_neg (by decide), if_neg (by decide), if_pos rfl]
theorem sw_3 {l0 l1 l2 l3 : Option Value} {σ : xM} {Q : Option Value → xM → Prop} : xC 245 33 [l0, l1, l2, l3] [.int 3] σ Q = xC 245 303 [l0, l1, l2, l3] [] σ Q := by
  rw [s245_33, if_neg (by decide), if_neg (by decide), if_neg (by decide), if_pos rfl]
theorem sw_4 {l0 l1 l2 l3 : Option Value} {σ : xM} {Q : Option Value → xM → Prop} : xC 245 33 [l0, l1, l2, l3] [.int 4] σ Q = xC 245 316 [l0, l1, l2, l3] [] σ Q := by
  rw [s245_33, if_neg (by decide), if_neg (by decide), if_neg (by decide), if_neg (by decide), if_pos rfl]
theorem sw_5 {l0 l1 l2 l3 : Option Value} {σ : xM} {Q : Option Value → xM → Prop} : xC 245 33 [l0, l1, l2, l3] [.int 5] σ Q = xC 245 349 [l0, l1, l2, l3] [] σ Q := by
  rw [s245_33, if_neg (by decide), if_neg (by decide), if_neg (by decide), if_neg (by decide), if_neg (by decide), if_pos rfl]
theorem sw_6 {l0 l1 l2 l3 : Option Value} {σ : xM} {Q : Option Value → xM → Prop} : xC 245 33 [l0, l1, l2, l3] [.int 6] σ Q = xC 245 412 [l0, l1, l2, l3] [] σ Q := by
  rw [s245_33, if_neg (by decide), if_neg (by decide), if_neg (by decide), if_neg (by decide), if_neg (by decide), if_neg (by decide), if_pos rfl]
theorem sw_7 {l0 l1 l2 l3 : Option Value} {σ : xM} {Q : Option Value → xM → Prop} : xC 245 33 [l0, l1, l2, l3] [.int 7] σ Q = xC 245 455 [l0, l1, l2, l3] [] σ Q := by
  rw [s245_33, if_neg (by decide), if_neg (by decide), if_neg (by decide), if_neg (by decide), if_neg (by decide), if_neg (by decide), if_neg (by decide), if_pos rfl]
theorem sw_8 {l0 l1 l2 l3 : Option Value} {σ : xM} {Q : Option Value → xM → Prop} : xC 245 33 [l0, l1, l2, l3] [.int 8] σ Q = xC 245 468 [l0, l1, l2, l3] [] σ Q := by
  rw [s245_33, if_neg (by decide), if_neg (by decide), if_neg (by decide), if_neg (by decide), if_neg (by decide), if_neg (by decide), if_neg (by decide), if_neg (by decide), if_pos rfl]
theorem sw_9 {l0 l1 l2 l3 : Option Value} {σ : xM} {Q : Option Value → xM → Prop} : xC 245 33 [l0, l1, l2, l3] [.int 9] σ Q = xC 245 501 [l0, l1, l2, l3] [] σ Q := by
  rw [s245_33, if_neg (by decide), if_neg (by decide), if_neg (by decide), if_neg (by decide), if_neg (by decide), if_neg (by decide), if_neg (by decide), if_neg (by decide), if_neg (by decide), if_pos rfl]
theorem sw_10 {l0 l1 l2 l3 : Option Value} {σ : xM} {Q : Option Value → xM → Prop} : xC 245 33 [l0, l1, l2, l3] [.int 10] σ Q = xC 245 554 [l0, l1, l2, l3] [] σ Q := by
  rw [s245_33, if_neg (by decide), if_neg (by decide), if_neg (by decide), if_neg (by decide), if_neg (by decide), if_neg (by decide), if_neg (by decide), if_neg (by decide), if_neg (by decide), if_neg (by decide), if_pos rfl]
theorem sw_11 {l0 l1 l2 l3 : Option Value} {σ : xM} {Q : Option Value → xM → Prop} : xC 245 33 [l0, l1, l2, l3] [.int 11] σ Q = xC 245 607 [l0, l1, l2, l3] [] σ Q := by
  rw [s245_33, if_neg (by decide), if_neg (by decide), if_neg (by decide), if_neg (by decide), if_neg (by decide), if_neg (by decide), if_neg (by decide), if_neg (by decide), if_neg (by decide), if_neg (by decide), if_neg (by decide), if_pos rfl]
theorem sw_12 {l0 l1 l2 l3 : Option Value} {σ : xM} {Q : Option Value → xM → Prop} : xC 245 33 [l0, l1, l2, l3] [.int 12] σ Q = xC 245 660 [l0, l1, l2, l3] [] σ Q := by
  rw [s245_33, if_neg (by decide), if_neg (by decide), if_neg (by decide), if_neg (by decide), if_neg (by decide), if_neg (by decide), if_neg (by decide), if_neg (by decide), if_neg (by decide), if_neg (by decide), if_neg (by decide), if_neg (by decide), if_pos rfl]
theorem sw_13 {l0 l1 l2 l3 : Option Value} {σ : xM} {Q : Option Value → xM → Prop} : xC 245 33 [l0, l1, l2, l3] [.int 13] σ Q = xC 245 703 [l0, l1, l2, l3] [] σ Q := by
  rw [s245_33, if_neg (by decide), if_neg (by decide), if_neg (by decide), if_neg (by decide), if_neg (by decide), if_neg (by decide), if_neg (by decide), if_neg (by decide), if_neg (by decide), if_neg (by decide), if_neg (by decide), if_neg (by decide), if_neg (by decide), if_pos rfl]
theorem sw_14 {l0 l1 l2 l3 : Option Value} {σ : xM} {Q : Option Value → xM → Prop} : xC 245 33 [l0, l1, l2, l3] [.int 14] σ Q = xC 245 736 [l0, l1, l2, l3] [] σ Q := by
  rw [s245_33, if_neg (by decide), if_neg (by decide), if_neg (by decide), if_neg (by decide), if_neg (by decide), if_neg (by decide), if_neg (by decide), if_neg (by decide), if_neg (by decide), if_neg (by decide), if_neg (by decide), if_neg (by decide), if_neg (by decide), if_neg (by decide), if_pos rfl]
theorem sw_15 {l0 l1 l2 l3 : Option Value} {σ : xM} {Q : Option Value → xM → Prop} : xC 245 33 [l0, l1, l2, l3] [.int 15] σ Q = xC 245 799 [l0, l1, l2, l3] [] σ Q := by
  rw [s245_33, if_neg (by decide), if_neg (by decide), if_neg (by decide), if_neg (by decide), if_neg (by decide), if_neg (by decide), if_neg (by decide), if_neg (by decide), if_neg (by decide), if_neg (by decide), if_neg (by decide), if_neg (by decide), if_neg (by decide), if_neg (by decide), if_neg (by decide), if_pos rfl]
theorem sw_16 {l0 l1 l2 l3 : Option Value} {σ : xM} {Q : Option Value → xM → Prop} : xC 245 33 [l0, l1, l2, l3] [.int 16] σ Q = xC 245 862 [l0, l1, l2, l3] [] σ Q := by
  rw [s245_33, if_neg (by decide), if_neg (by decide), if_neg (by decide), if_neg (by decide), if_neg (by decide), if_neg (by decide), if_neg (by decide), if_neg (by decide), if_neg (by decide), if_neg (by decide), if_neg (by decide), if_neg (by decide), if_neg (by decide), if_neg (by decide), if_neg (by decide), if_neg (by decide), if_pos rfl]
theorem sw_17 {l0 l1 l2 l3 : Option Value} {σ : xM} {Q : Option Value → xM → Prop} : xC 245 33 [l0, l1, l2, l3] [.int 17] σ Q = xC 245 905 [l0, l1, l2, l3] [] σ Q := by
  rw [s245_33, if_neg (by decide), if_neg (by decide), if_neg (by decide), if_neg (by decide), if_neg (by decide), if_neg (by decide), if_neg (by decide), if_neg (by decide), if_neg (by decide), if_neg (by decide), if_neg (by decide), if_neg (by decide), if_neg (by decide), if_neg (by decide), if_neg (by decide), if_neg (by decide), if_neg (by decide), if_pos rfl]
theorem sw_18 {l0 l1 l2 l3 : Option Value} {σ : xM} {Q : Option Value → xM → Prop} : xC 245 33 [l0, l1, l2, l3] [.int 18] σ Q = xC 245 938 [l0, l1, l2, l3] [] σ Q := by
  rw [s245_33, if_neg (by decide), if_neg (by decide), if_neg (by decide), if_neg (by decide), if_neg (by decide), if_neg (by decide), if_neg (by decide), if_neg (by decide), if_neg (by decide), if_neg (by decide), if_neg (by decide), if_neg (by decide), if_neg (by decide), if_neg (by decide), if_neg (by decide), if_neg (by decide), if_neg (by decide), if_neg (by decide), if_pos rfl]
theorem sw_19 {l0 l1 l2 l3 : Option Value} {σ : xM} {Q : Option Value → xM → Prop} : xC 245 33 [l0, l1, l2, l3] [.int 19] σ Q = xC 245 951 [l0, l1, l2, l3] [] σ Q := by
  rw [s245_33, if_neg (by decide), if_neg (by decide), if_neg (by decide), if_neg (by decide), if_neg (by decide), if_neg (by decide), if_neg (by decide), if_neg (by decide), if_neg (by decide), if_neg (by decide), if_neg (by decide), if_neg (by decide), if_neg (by decide), if_neg (by decide), if_neg (by decide), if_neg (by decide), if_neg (by decide), if_neg (by decide), if_neg (by decide), if_pos rfl]
theorem sw_20 {l0 l1 l2 l3 : Option Value} {σ : xM} {Q : Option Value → xM → Prop} : xC 245 33 [l0, l1, l2, l3] [.int 20] σ Q = xC 245 984 [l0, l1, l2, l3] [] σ Q := by
  rw [s245_33, if_neg (by decide), if_neg (by decide), if_neg (by decide), if_neg (by decide), if_neg (by decide), if_neg (by decide), if_neg (by decide), if_neg (by decide), if_neg (by decide), if_neg (by decide), if_neg (by decide), if_neg (by decide), if_neg (by decide), if_neg (by decide), if_neg (by decide), if_neg (by decide), if_neg (by decide), if_neg (by decide), if_neg (by decide), if_neg (by decide), if_pos rfl]
theorem sw_21 {l0 l1 l2 l3 : Option Value} {σ : xM} {Q : Option Value → xM → Prop} : xC 245 33 [l0, l1, l2, l3] [.int 21] σ Q = xC 245 1017 [l0, l1, l2, l3] [] σ Q := by
  rw [s245_33, if_neg (by decide), if_neg (by decide), if_neg (by decide), if_neg (by decide), if_neg (by decide), if_neg (by decide), if_neg (by decide), if_neg (by decide), if_neg (by decide), if_neg (by decide), if_neg (by decide), if_neg (by decide), if_neg (by decide), if_neg (by decide), if_neg (by decide), if_neg (by decide), if_neg (by decide), if_neg (by decide), if_neg (by decide), if_neg (by decide), if_neg (by decide), if_pos rfl]
theorem sw_22 {l0 l1 l2 l3 : Option Value} {σ : xM} {Q : Option Value → xM → Prop} : xC 245 33 [l0, l1, l2, l3] [.int 22] σ Q = xC 245 1030 [l0, l1, l2, l3] [] σ Q := by
  rw [s245_33, if_neg (by decide), if_neg (by decide), if_neg (by decide), if_neg (by decide), if_neg (by decide), if_neg (by decide), if_neg (by decide), if_neg (by decide), if_neg (by decide), if_neg (by decide), if_neg (by decide), if_neg (by decide), if_neg (by decide), if_neg (by decide), if_neg (by decide), if_neg (by decide), if_neg (by decide), if_neg (by decide), if_neg (by decide), if_neg (by decide), if_neg (by decide), if_neg (by decide), if_pos rfl]
theorem sw_23 {l0 l1 l2 l3 : Option Value} {σ : xM} {Q : Option Value → xM → Prop} : xC 245 33 [l0, l1, l2, l3] [.int 23] σ Q = xC 245 1053 [l0, l1, l2, l3] [] σ Q := by
  rw [s245_33, if_neg (by decide), if_neg (by decide), if_neg (by decide), if_neg (by decide), if_neg (by decide), if_neg (by decide), if_neg (by decide), if_neg (by decide), if_neg (by decide), if_neg (by decide), if_neg (by decide), if_neg (by decide), if_neg (by decide), if_neg (by decide), if_neg (by decide), if_neg (by decide), if_neg (by decide), if_neg (by decide), if_neg (by decide), if_neg (by decide), if_neg (by decide), if_neg (by decide), if_neg (by decide), if_pos rfl]
theorem sw_24 {l0 l1 l2 l3 : Option Value} {σ : xM} {Q : Option Value → xM → Prop} : xC 245 33 [l0, l1, l2, l3] [.int 24] σ Q = xC 245 1086 [l0, l1, l2, l3] [] σ Q := by
  rw [s245_33, if_neg (by decide), if_neg (by decide), if_neg (by decide), if_neg (by decide), if_neg (by decide), if_neg (by decide), if_neg (by decide), if_neg (by decide), if_neg (by decide), if_neg (by decide), if_neg (by decide), if_neg (by decide), if_neg (by decide), if_neg (by decide), if_neg (by decide), if_neg (by decide), if_neg (by decide), if_neg (by decide), if_neg (by decide), if_neg (by decide), if_neg (by decide), if_neg (by decide), if_neg (by decide), if_neg (by decide), if_pos rfl]
theorem sw_25 {l0 l1 l2 l3 : Option Value} {σ : xM} {Q : Option Value → xM → Prop} : xC 245 33 [l0, l1, l2, l3] [.int 25] σ Q = xC 245 1109 [l0, l1, l2, l3] [] σ Q := by
  rw [s245_33, if_neg (by decide), if_neg (by decide), if_neg (by decide), if_neg (by decide), if_neg (by decide), if_neg (by decide), if_neg (by decide), if_neg (by decide), if_neg (by decide), if_neg (by decide), if_neg (by decide), if_neg (by decide), if_neg (by decide), if_neg (by decide), if_neg (by decide), if_neg (by decide), if_neg (by decide), if_neg (by decide), if_neg (by decide), if_neg (by decide), if_neg (by decide), if_neg (by decide), if_neg (by decide), if_neg (by decide), if_neg (by decide), if_pos rfl]
theorem sw_26 {l0 l1 l2 l3 : Option Value} {σ : xM} {Q : Option Value → xM → Prop} : xC 245 33 [l0, l1, l2, l3] [.int 26] σ Q = xC 245 1142 [l0, l1, l2, l3] [] σ Q := by
  rw [s245_33, if_neg (by decide), if_neg (by decide), if_neg (by decide), if_neg (by decide), if_neg (by decide), if_neg (by decide), if_neg (by decide), if_neg (by decide), if_neg (by decide), if_neg (by decide), if_neg (by decide), if_neg (by decide), if_neg (by decide), if_neg (by decide), if_neg (by decide), if_neg (by decide), if_neg (by decide), if_neg (by decide), if_neg (by decide), if_neg (by decide), if_neg (by decide), if_neg (by decide), if_neg (by decide), if_neg (by decide), if_neg (by decide), if_neg (by decide), if_pos rfl]
theorem sw_27 {l0 l1 l2 l3 : Option Value} {σ : xM} {Q : Option Value → xM → Prop} : xC 245 33 [l0, l1, l2, l3] [.int 27] σ Q = xC 245 1185 [l0, l1, l2, l3] [] σ Q := by
  rw [s245_33, if_neg (by decide), if_neg (by decide), if_neg (by decide), if_neg (by decide), if_neg (by decide), if_neg (by decide), if_neg (by decide), if_neg (by decide), if_neg (by decide), if_neg (by decide), if_neg (by decide), if_neg (by decide), if_neg (by decide), if_neg (by decide), if_neg (by decide), if_neg (by decide), if_neg (by decide), if_neg (by decide), if_neg (by decide), if_neg (by decide), if_neg (by decide), if_neg (by decide), if_neg (by decide), if_neg (by decide), if_neg (by decide), if_neg (by decide), if_neg (by decide), if_pos rfl]
theorem sw_28 {l0 l1 l2 l3 : Option Value} {σ : xM} {Q : Option Value → xM → Prop} : xC 245 33 [l0, l1, l2, l3] [.int 28] σ Q = xC 245 1228 [l0, l1, l2, l3] [] σ Q := by
  rw [s245_33, if_neg (by decide), if_neg (by decide), if_neg (by decide), if_neg (by decide), if_neg (by decide), if_neg (by decide), if_neg (by decide), if_neg (by decide), if_neg (by decide), if_neg (by decide), if_neg (by decide), if_neg (by decide), if_neg (by decide), if_neg (by decide), if_neg (by decide), if_neg (by decide), if_neg (by decide), if_neg (by decide), if_neg (by decide), if_neg (by decide), if_neg (by decide), if_neg (by decide), if_neg (by decide), if_neg (by decide), if_neg (by decide), if_neg (by decide), if_neg (by decide), if_neg (by decide), if_pos rfl]
theorem sw_29 {l0 l1 l2 l3 : Option Value} {σ : xM} {Q : Option Value → xM → Prop} : xC 245 33 [l0, l1, l2, l3] [.int 29] σ Q = xC 245 1251 [l0, l1, l2, l3] [] σ Q := by
  rw [s245_33, if_neg (by decide), if_neg (by decide), if_neg (by decide), if_neg (by decide), if_neg (by decide), if_neg (by decide), if_neg (by decide), if_neg (by decide), if_neg (by decide), if_neg (by decide), if_neg (by decide), if_neg (by decide), if_neg (by decide), if_neg (by decide), if_neg (by decide), if_neg (by decide), if_neg (by decide), if_neg (by decide), if_neg (by decide), if_neg (by decide), if_neg (by decide), if_neg (by decide), if_neg (by decide), if_neg (by decide), if_neg (by decide), if_neg (by decide), if_neg (by decide), if_neg (by decide), if_neg (by decide), if_pos rfl]
theorem sw_30 {l0 l1 l2 l3 : Option Value} {σ : xM} {Q : Option Value → xM → Prop} : xC 245 33 [l0, l1, l2, l3] [.int 30] σ Q = xC 245 1284 [l0, l1, l2, l3] [] σ Q := by
  rw [s245_33, if_neg (by decide), if_neg (by decide), if_neg (by decide), if_neg (by decide), if_neg (by decide), if_neg (by decide), if_neg (by decide), if_neg (by decide), if_neg (by decide), if_neg (by decide), if_neg (by decide), if_neg (by decide), if_neg (by decide), if_neg (by decide), if_neg (by decide), if_neg (by decide), if_neg (by decide), if_neg (by decide), if_neg (by decide), if_neg (by decide), if_neg (by decide), if_neg (by decide), if_neg (by decide), if_neg (by decide), if_neg (by decide), if_neg (by decide), if_neg (by decide), if_neg (by decide), if_neg (by decide), if_neg (by decide), if_pos rfl]
theorem sw_31 {l0 l1 l2 l3 : Option Value} {σ : xM} {Q : Option Value → xM → Prop} : xC 245 33 [l0, l1, l2, l3] [.int 31] σ Q = xC 245 1307 [l0, l1, l2, l3] [] σ Q := by
  rw [s245_33, if_neg (by decide), if_neg (by decide), if_neg (by decide), if_neg (by decide), if_neg (by decide), if_neg (by decide), if_neg (by decide), if_neg (by decide), if_neg (by decide), if_neg (by decide), if_neg (by decide), if_neg (by decide), if_neg (by decide), if_neg (by decide), if_neg (by decide), if_neg (by decide), if_neg (by decide), if_neg (by decide), if_neg (by decide), if_neg (by decide), if_neg (by decide), if_neg (by decide), if_neg (by decide), if_neg (by decide), if_neg (by decide), if_neg (by decide), if_neg (by decide), if_neg (by decide), if_neg (by decide), if_neg (by decide), if_neg (by decide), if_pos rfl]
theorem sw_32 {l0 l1 l2 l3 : Option Value} {σ : xM} {Q : Option Value → xM → Prop} : xC 245 33 [l0, l1, l2, l3] [.int 32] σ Q = xC 245 1330 [l0, l1, l2, l3] [] σ Q := by
  rw [s245_33, if_neg (by decide), if_neg (by decide), if_neg (by decide), if_neg (by decide), if_neg (by decide), if_neg (by decide), if_neg (by decide), if_neg (by decide), if_neg (by decide), if_neg (by decide), if_neg (by decide), if_neg (by decide), if_neg (by decide), if_neg (by decide), if_neg (by decide), if_neg (by decide), if_neg (by decide), if_neg (by decide), if_neg (by decide), if_neg (by decide), if_neg (by decide), if_neg (by decide), if_neg (by decide), if_neg (by decide), if_neg (by decide), if_neg (by decide), if_neg (by decide), if_neg (by decide), if_neg (by decide), if_neg (by decide), if_neg (by decide), if_neg (by decide), if_pos rfl]
theorem sw_33 {l0 l1 l2 l3 : Option Value} {σ : xM} {Q : Option Value → xM → Prop} : xC 245 33 [l0, l1, l2, l3] [.int 33] σ Q = xC 245 1373 [l0, l1, l2, l3] [] σ Q := by
  rw [s245_33, if_neg (by decide), if_neg (by decide), if_neg (by decide), if_neg (by decide), if_neg (by decide), if_neg (by decide), if_neg (by decide), if_neg (by decide), if_neg (by decide), if_neg (by decide), if_neg (by decide), if_neg (by decide), if_neg (by decide), if_neg (by decide), if_neg (by decide), if_neg (by decide), if_neg (by decide), if_neg (by decide), if_neg (by decide), if_neg (by decide), if_neg (by decide), if_neg (by decide), if_neg (by decide), if_neg (by decide), if_neg (by decide), if_neg (by decide), if_neg (by decide), if_neg (by decide), if_neg (by decide), if_neg (by decide), if_neg (by decide), if_neg (by decide), if_neg (by decide), if_pos rfl]
theorem sw_34 {l0 l1 l2 l3 : Option Value} {σ : xM} {Q : Option Value → xM → Prop} : xC 245 33 [l0, l1, l2, l3] [.int 34] σ Q = xC 245 1406 [l0, l1, l2, l3] [] σ Q := by
  rw [s245_33, if_neg (by decide), if_neg (by decide), if_neg (by decide), if_neg (by decide), if_neg (by decide), if_neg (by decide), if_neg (by decide), if_neg (by decide), if_neg (by decide), if_neg (by decide), if_neg (by decide), if_neg (by decide), if_neg (by decide), if_neg (by decide), if_neg (by decide), if_neg (by decide), if_neg (by decide), if_neg (by decide), if_neg (by decide), if_neg (by decide), if_neg (by decide), if_neg (by decide), if_neg (by decide), if_neg (by decide), if_neg (by decide), if_neg (by decide), if_neg (by decide), if_neg (by decide), if_neg (by decide), if_neg (by decide), if_neg (by decide), if_neg (by decide), if_neg (by decide), if_neg (by decide), if_pos rfl]
theorem sw_35 {l0 l1 l2 l3 : Option Value} {σ : xM} {Q : Option Value → xM → Prop} : xC 245 33 [l0, l1, l2, l3] [.int 35] σ Q = xC 245 1449 [l0, l1, l2, l3] [] σ Q := by
  rw [s245_33, if_neg (by decide), if_neg (by decide), if_neg (by decide), if_neg (by decide), if_neg (by decide), if_neg (by decide), if_neg (by decide), if_neg (by decide), if_neg (by decide), if_neg (by decide), if_neg (by decide), if_neg (by decide), if_neg (by decide), if_neg (by decide), if_neg (by decide), if_neg (by decide), if_neg (by decide), if_neg (by decide), if_neg (by decide), if_neg (by decide), if_neg (by decide), if_neg (by decide), if_neg (by decide), if_neg (by decide), if_neg (by decide), if_neg (by decide), if_neg (by decide), if_neg (by decide), if_neg (by decide), if_neg (by decide), if_neg (by decide), if_neg (by decide), if_neg (by decide), if_neg (by decide), if_neg (by decide), if_pos rfl]
theorem sw_36 {l0 l1 l2 l3 : Option Value} {σ : xM} {Q : Option Value → xM → Prop} : xC 245 33 [l0, l1, l2, l3] [.int 36] σ Q = xC 245 1482 [l0, l1, l2, l3] [] σ Q := by
  rw [s245_33, if_neg (by decide), if_neg (by decide), if_neg (by decide), if_neg (by decide), if_neg (by decide), if_neg (by decide), if_neg (by decide), if_neg (by decide), if_neg (by decide), if_neg (by decide), if_neg (by decide), if_neg (by decide), if_neg (by decide), if_neg (by decide), if_neg (by decide), if_neg (by decide), if_neg (by decide), if_neg (by decide), if_neg (by decide), if_neg (by decide), if_neg (by decide), if_neg (by decide), if_neg (by decide), if_neg (by decide), if_neg (by decide), if_neg (by decide), if_neg (by decide), if_neg (by decide), if_neg (by decide), if_neg (by decide), if_neg (by decide), if_neg (by decide), if_neg (by decide), if_neg (by decide), if_neg (by decide), if_neg (by decide), if_pos rfl]
theorem sw_37 {l0 l1 l2 l3 : Option Value} {σ : xM} {Q : Option Value → xM → Prop} : xC 245 33 [l0, l1, l2, l3] [.int 37] σ Q = xC 245 1505 [l0, l1, l2, l3] [] σ Q := by
  rw [s245_33, if_neg (by decide), if_neg (by decide), if_neg (by decide), if_neg (by decide), if_neg (by decide), if_neg (by decide), if_neg (by decide), if_neg (by decide), if_neg (by decide), if_neg (by decide), if_neg (by decide), if_neg (by decide), if_neg (by decide), if_neg (by decide), if_neg (by decide), if_neg (by decide), if_neg (by decide), if_neg (by decide), if_neg (by decide), if_neg (by decide), if_neg (by decide), if_neg (by decide), if_neg (by decide), if_neg (by decide), if_neg (by decide), if_neg (by decide), if_neg (by decide), if_neg (by decide), if_neg (by decide), if_neg (by decide), if_neg (by decide), if_neg (by decide), if_neg (by decide), if_neg (by decide), if_neg (by decide), if_neg (by decide), if_neg (by decide), if_pos rfl]
theorem sw_38 {l0 l1 l2 l3 : Option Value} {σ : xM} {Q : Option Value → xM → Prop} : xC 245 33 [l0, l1, l2, l3] [.int 38] σ Q = xC 245 1528 [l0, l1, l2, l3] [] σ Q := by
  rw [s245_33, if_neg (by decide), if_neg (by decide), if_neg (by decide), if_neg (by decide), if_neg (by decide), if_neg (by decide), if_neg (by decide), if_neg (by decide), if_neg (by decide), if_neg (by decide), if_neg (by decide), if_neg (by decide), if_neg (by decide), if_neg (by decide), if_neg (by decide), if_neg (by decide), if_neg (by decide), if_neg (by decide), if_neg (by decide), if_neg (by decide), if_neg (by decide), if_neg (by decide), if_neg (by decide), if_neg (by decide), if_neg (by decide), if_neg (by decide), if_neg (by decide), if_neg (by decide), if_neg (by decide), if_neg (by decide), if_neg (by decide), if_neg (by decide), if_neg (by decide), if_neg (by decide), if_neg (by decide), if_neg (by decide), if_neg (by decide), if_neg (by decide), if_pos rfl]
set_option maxHeartbeats 4000000 in
theorem law_run {xs : Nat → Int32} {L : Nat} (hL : L ≤ 3072) : ∀ m i σ, L ≤ i + m → i ≤ L + 6 → xInv xs L σ → xC 245 18 [some (.ref 1010), some (.ref 0), some (.ref 84), some (.int (nI i))] [] σ (fun rv _ => rv = some (.int 1)) := by
  have ex : ∀ i σ, ¬ i + 6 ≤ L → i ≤ L + 6 → xInv xs L σ → xC 245 18 [some (.ref 1010), some (.ref 0), some (.ref 84), some (.int (nI i))] [] σ (fun rv _ => rv = some (.int 1)) := by
    intro i σ hi hi2 hI
    have hlen := len_of hI.2.2.2.2.2.2.2.2.2.2 hL
    have eL : Int32.ofNat L = iI (L : Int) := nI_iI L
    have e6 : Int32.ofNat L - 6 = iI ((L : Int) - 6) := by rw [eL, show (6 : Int32) = iI 6 from rfl, iI_sub]
    have ec : (Int32.ofNat L - 6 < nI i) = True := by
      rw [e6, nI_iI]
      exact eq_true ((iI_lt (by omega) (by omega) (by omega) (by omega)).mpr (by omega))
    rw [s245_18]
    simp only [s245_19, s245_20, s245_20_l, s245_20_q, s245_20_g, s245_21, s245_23, s245_24, s245_1557, s245_1558, xcx_i, xcx_r, xcx_n, xcx_l, xcx_0, xcl_1010, hlen, ec, if_true, true_or, or_true, true_and]
  intro m
  induction m with
  | zero =>
    intro i σ h1 h2 hI
    exact ex i σ (by omega) h2 hI
  | succ m ih =>
    intro i σ h1 h2 hI
    by_cases hc : i + 6 ≤ L
    · have hlen := len_of hI.2.2.2.2.2.2.2.2.2.2 hL
      have hx1 := hI.2.2.2.2.2.2.2.2.2.1
      have eL : Int32.ofNat L = iI (L : Int) := nI_iI L
      have e6 : Int32.ofNat L - 6 = iI ((L : Int) - 6) := by rw [eL, show (6 : Int32) = iI 6 from rfl, iI_sub]
      have ec : (Int32.ofNat L - 6 < nI i) = False := by
        rw [e6, nI_iI]
        refine eq_false (fun q => ?_)
        have := (iI_lt (by omega) (by omega) (by omega) (by omega)).mp q
        omega
      have e1 : nI i + 1 = nI (i + 1) := nI_1 i
      have e2 : nI i + 2 = nI (i + 2) := nI_add i 2
      have e3 : nI i + 3 = nI (i + 3) := nI_add i 3
      have e4 : nI i + 4 = nI (i + 4) := nI_add i 4
      have e5 : nI i + 5 = nI (i + 5) := nI_add i 5
      have e66 : nI i + 6 = nI (i + 6) := nI_add i 6
      have b0 : i < 100000 := by omega
      have b1 : i + 1 < 100000 := by omega
      have b2 : i + 2 < 100000 := by omega
      have b3 : i + 3 < 100000 := by omega
      have b4 : i + 4 < 100000 := by omega
      have b5 : i + 5 < 100000 := by omega
      have c0 : i < L := by omega
      have c1 : i + 1 < L := by omega
      have c2 : i + 2 < L := by omega
      have c3 : i + 3 < L := by omega
      have c4 : i + 4 < L := by omega
      have c5 : i + 5 < L := by omega
      have hax : ∀ (τ : xM) (j : Nat), xe_ax τ 1010 j = τ.1 1010 j := fun _ _ => rfl
      have go : ∀ σ2, xInv xs L σ2 → xC 245 1551 [some (.ref 1010), some (.ref 0), some (.ref 84), some (.int (nI i))] [] σ2 (fun rv _ => rv = some (.int 1)) := by
        intro σ2 hI2
        have next := ih (i + 6) σ2 (by omega) (by omega) hI2
        simp only [s245_1551, s245_1554, xcx_i, xcx_r, xcx_n, xcx_l, xcx_0, e66]
        exact next
      rw [s245_18]
      simp only [s245_19, s245_20, s245_20_l, s245_20_q, s245_20_g, s245_21, s245_23, s245_24, s245_27, s245_28, s245_29, s245_29_g, s245_30, s245_32, xcx_i, xcx_r, xcx_n, xcx_l, xcx_0, xcl_1010, hlen, ec, if_false, hax, hx1, b0, c0, cl_s, pos_s, true_or, or_true, true_and]
      generalize xs i &&& 63 = w
      by_cases h0 : w = 0
      · rw [h0, sw_0]
        simp only [s245_204, s245_205, s245_206, s245_207, s245_208, s245_209, s245_209_g, s245_210, s245_211, s245_212, s245_213, s245_214, s245_214_g, s245_215, s245_216, s245_217, s245_218, s245_219, s245_219_g, s245_220, s245_221, s245_222, s245_223, s245_224, s245_224_g, s245_225, s245_226, s245_227, s245_228, s245_229, s245_229_g, s245_230, xcx_i, xcx_r, xcx_n, xcx_l, xcx_0, xcl_1010, hlen, hax, hx1, e1, b1, c1, e2, b2, c2, e3, b3, c3, e4, b4, c4, e5, b5, c5, cl_s, pos_s, true_or, or_true, true_and]
        refine xI1_mono (op_feed _ _ _ _ _ xs L σ hI) (fun r σ1 q1 k1 => ?_)
        have hlen1 := len_of (by rw [k1.2]; exact hI.2.2.2.2.2.2.2.2.2.2 : σ1.1 1011 0 = Int32.ofNat L) hL
        have hx2 : σ1.1 1010 = xs := k1.1.trans hx1
        simp only [s245_233, s245_234, s245_235, s245_236, s245_237, s245_238, s245_238_g, s245_239, s245_240, s245_241, s245_242, s245_243, s245_243_g, s245_244, s245_245, s245_246, s245_247, s245_248, s245_248_g, s245_249, s245_250, s245_251, s245_252, s245_253, s245_253_g, s245_254, s245_255, s245_256, s245_257, s245_258, s245_258_g, s245_259, xcx_i, xcx_r, xcx_n, xcx_l, xcx_0, xcl_1010, hlen1, hax, hx2, e1, b1, c1, e2, b2, c2, e3, b3, c3, e4, b4, c4, e5, b5, c5, cl_s, pos_s, true_or, or_true, true_and]
        refine xI1_mono q1 (fun r2 σ2 q2 _ => ?_)
        obtain ⟨rfl, hI2⟩ := q2
        rw [s245_262, if_pos rfl]
        exact go σ2 hI2
      by_cases h1 : w = 1
      · rw [h1, sw_1]
        simp only [s245_267, s245_268, s245_269, s245_270, s245_271, s245_272, s245_272_g, s245_273, xcx_i, xcx_r, xcx_n, xcx_l, xcx_0, xcl_1010, hlen, hax, hx1, e1, b1, c1, cl_s, pos_s, true_or, or_true, true_and]
        refine xI1_mono (op_end _ xs L σ hI) (fun r σ1 q1 k1 => ?_)
        have hlen1 := len_of (by rw [k1.2]; exact hI.2.2.2.2.2.2.2.2.2.2 : σ1.1 1011 0 = Int32.ofNat L) hL
        have hx2 : σ1.1 1010 = xs := k1.1.trans hx1
        simp only [s245_276, s245_277, s245_278, s245_279, s245_280, s245_281, s245_281_g, s245_282, xcx_i, xcx_r, xcx_n, xcx_l, xcx_0, xcl_1010, hlen1, hax, hx2, e1, b1, c1, cl_s, pos_s, true_or, or_true, true_and]
        refine xI1_mono q1 (fun r2 σ2 q2 _ => ?_)
        obtain ⟨rfl, hI2⟩ := q2
        rw [s245_285, if_pos rfl]
        exact go σ2 hI2
      by_cases h2 : w = 2
      · rw [h2, sw_2]
        simp only [s245_290, s245_291, xcx_i, xcx_r, xcx_n, xcx_l, xcx_0, xcl_1010, hlen, hax, hx1, cl_s, pos_s, true_or, or_true, true_and]
        refine xI1_mono (op_fault xs L σ hI) (fun r σ1 q1 k1 => ?_)
        have hlen1 := len_of (by rw [k1.2]; exact hI.2.2.2.2.2.2.2.2.2.2 : σ1.1 1011 0 = Int32.ofNat L) hL
        have hx2 : σ1.1 1010 = xs := k1.1.trans hx1
        simp only [s245_294, s245_295, xcx_i, xcx_r, xcx_n, xcx_l, xcx_0, xcl_1010, hlen1, hax, hx2, cl_s, pos_s, true_or, or_true, true_and]
        refine xI1_mono q1 (fun r2 σ2 q2 _ => ?_)
        obtain ⟨rfl, hI2⟩ := q2
        rw [s245_298, if_pos rfl]
        exact go σ2 hI2
      by_cases h3 : w = 3
      · rw [h3, sw_3]
        simp only [s245_303, s245_304, xcx_i, xcx_r, xcx_n, xcx_l, xcx_0, xcl_1010, hlen, hax, hx1, cl_s, pos_s, true_or, or_true, true_and]
        refine xI1_mono (op_port xs L σ hI) (fun r σ1 q1 k1 => ?_)
        have hlen1 := len_of (by rw [k1.2]; exact hI.2.2.2.2.2.2.2.2.2.2 : σ1.1 1011 0 = Int32.ofNat L) hL
        have hx2 : σ1.1 1010 = xs := k1.1.trans hx1
        simp only [s245_307, s245_308, xcx_i, xcx_r, xcx_n, xcx_l, xcx_0, xcl_1010, hlen1, hax, hx2, cl_s, pos_s, true_or, or_true, true_and]
        refine xI1_mono q1 (fun r2 σ2 q2 _ => ?_)
        obtain ⟨rfl, hI2⟩ := q2
        rw [s245_311, if_pos rfl]
        exact go σ2 hI2
      by_cases h4 : w = 4
      · rw [h4, sw_4]
        simp only [s245_316, s245_317, s245_318, s245_319, s245_320, s245_321, s245_321_g, s245_322, s245_323, s245_324, s245_325, s245_326, s245_326_g, s245_327, xcx_i, xcx_r, xcx_n, xcx_l, xcx_0, xcl_1010, hlen, hax, hx1, e1, b1, c1, e2, b2, c2, cl_s, pos_s, true_or, or_true, true_and]
        refine xI1_mono (op_ship _ _ xs L σ hI) (fun r σ1 q1 k1 => ?_)
        have hlen1 := len_of (by rw [k1.2]; exact hI.2.2.2.2.2.2.2.2.2.2 : σ1.1 1011 0 = Int32.ofNat L) hL
        have hx2 : σ1.1 1010 = xs := k1.1.trans hx1
        simp only [s245_330, s245_331, s245_332, s245_333, s245_334, s245_335, s245_335_g, s245_336, s245_337, s245_338, s245_339, s245_340, s245_340_g, s245_341, xcx_i, xcx_r, xcx_n, xcx_l, xcx_0, xcl_1010, hlen1, hax, hx2, e1, b1, c1, e2, b2, c2, cl_s, pos_s, true_or, or_true, true_and]
        refine xI1_mono q1 (fun r2 σ2 q2 _ => ?_)
        obtain ⟨rfl, hI2⟩ := q2
        rw [s245_344, if_pos rfl]
        exact go σ2 hI2
      by_cases h5 : w = 5
      · rw [h5, sw_5]
        simp only [s245_349, s245_350, s245_351, s245_352, s245_353, s245_354, s245_354_g, s245_355, s245_356, s245_357, s245_358, s245_359, s245_359_g, s245_360, s245_361, s245_362, s245_363, s245_364, s245_364_g, s245_365, s245_366, s245_367, s245_368, s245_369, s245_369_g, s245_370, s245_371, s245_372, s245_373, s245_374, s245_374_g, s245_375, xcx_i, xcx_r, xcx_n, xcx_l, xcx_0, xcl_1010, hlen, hax, hx1, e1, b1, c1, e2, b2, c2, e3, b3, c3, e4, b4, c4, e5, b5, c5, cl_s, pos_s, true_or, or_true, true_and]
        refine xI1_mono (op_line _ _ _ _ _ xs L σ hI) (fun r σ1 q1 k1 => ?_)
        have hlen1 := len_of (by rw [k1.2]; exact hI.2.2.2.2.2.2.2.2.2.2 : σ1.1 1011 0 = Int32.ofNat L) hL
        have hx2 : σ1.1 1010 = xs := k1.1.trans hx1
        simp only [s245_378, s245_379, s245_380, s245_381, s245_382, s245_383, s245_383_g, s245_384, s245_385, s245_386, s245_387, s245_388, s245_388_g, s245_389, s245_390, s245_391, s245_392, s245_393, s245_393_g, s245_394, s245_395, s245_396, s245_397, s245_398, s245_398_g, s245_399, s245_400, s245_401, s245_402, s245_403, s245_403_g, s245_404, xcx_i, xcx_r, xcx_n, xcx_l, xcx_0, xcl_1010, hlen1, hax, hx2, e1, b1, c1, e2, b2, c2, e3, b3, c3, e4, b4, c4, e5, b5, c5, cl_s, pos_s, true_or, or_true, true_and]
        refine xI1_mono q1 (fun r2 σ2 q2 _ => ?_)
        obtain ⟨rfl, hI2⟩ := q2
        rw [s245_407, if_pos rfl]
        exact go σ2 hI2
      by_cases h6 : w = 6
      · rw [h6, sw_6]
        simp only [s245_412, s245_413, s245_414, s245_415, s245_416, s245_417, s245_417_g, s245_418, s245_419, s245_420, s245_421, s245_422, s245_422_g, s245_423, s245_424, s245_425, s245_426, s245_427, s245_427_g, s245_428, xcx_i, xcx_r, xcx_n, xcx_l, xcx_0, xcl_1010, hlen, hax, hx1, e1, b1, c1, e2, b2, c2, e3, b3, c3, cl_s, pos_s, true_or, or_true, true_and]
        refine xI1_mono (op_mend _ _ _ xs L σ hI) (fun r σ1 q1 k1 => ?_)
        have hlen1 := len_of (by rw [k1.2]; exact hI.2.2.2.2.2.2.2.2.2.2 : σ1.1 1011 0 = Int32.ofNat L) hL
        have hx2 : σ1.1 1010 = xs := k1.1.trans hx1
        simp only [s245_431, s245_432, s245_433, s245_434, s245_435, s245_436, s245_436_g, s245_437, s245_438, s245_439, s245_440, s245_441, s245_441_g, s245_442, s245_443, s245_444, s245_445, s245_446, s245_446_g, s245_447, xcx_i, xcx_r, xcx_n, xcx_l, xcx_0, xcl_1010, hlen1, hax, hx2, e1, b1, c1, e2, b2, c2, e3, b3, c3, cl_s, pos_s, true_or, or_true, true_and]
        refine xI1_mono q1 (fun r2 σ2 q2 _ => ?_)
        obtain ⟨rfl, hI2⟩ := q2
        rw [s245_450, if_pos rfl]
        exact go σ2 hI2
      by_cases h7 : w = 7
      · rw [h7, sw_7]
        simp only [s245_455, s245_456, xcx_i, xcx_r, xcx_n, xcx_l, xcx_0, xcl_1010, hlen, hax, hx1, cl_s, pos_s, true_or, or_true, true_and]
        refine xI1_mono (op_letGo xs L σ hI) (fun r σ1 q1 k1 => ?_)
        have hlen1 := len_of (by rw [k1.2]; exact hI.2.2.2.2.2.2.2.2.2.2 : σ1.1 1011 0 = Int32.ofNat L) hL
        have hx2 : σ1.1 1010 = xs := k1.1.trans hx1
        simp only [s245_459, s245_460, xcx_i, xcx_r, xcx_n, xcx_l, xcx_0, xcl_1010, hlen1, hax, hx2, cl_s, pos_s, true_or, or_true, true_and]
        refine xI1_mono q1 (fun r2 σ2 q2 _ => ?_)
        obtain ⟨rfl, hI2⟩ := q2
        rw [s245_463, if_pos rfl]
        exact go σ2 hI2
      by_cases h8 : w = 8
      · rw [h8, sw_8]
        simp only [s245_468, s245_469, s245_470, s245_471, s245_472, s245_473, s245_473_g, s245_474, s245_475, s245_476, s245_477, s245_478, s245_478_g, s245_479, xcx_i, xcx_r, xcx_n, xcx_l, xcx_0, xcl_1010, hlen, hax, hx1, e1, b1, c1, e2, b2, c2, cl_s, pos_s, true_or, or_true, true_and]
        refine xI1_mono (op_of _ _ xs L σ hI) (fun r σ1 q1 k1 => ?_)
        have hlen1 := len_of (by rw [k1.2]; exact hI.2.2.2.2.2.2.2.2.2.2 : σ1.1 1011 0 = Int32.ofNat L) hL
        have hx2 : σ1.1 1010 = xs := k1.1.trans hx1
        simp only [s245_482, s245_483, s245_484, s245_485, s245_486, s245_487, s245_487_g, s245_488, s245_489, s245_490, s245_491, s245_492, s245_492_g, s245_493, xcx_i, xcx_r, xcx_n, xcx_l, xcx_0, xcl_1010, hlen1, hax, hx2, e1, b1, c1, e2, b2, c2, cl_s, pos_s, true_or, or_true, true_and]
        refine xI1_mono q1 (fun r2 σ2 q2 _ => ?_)
        obtain ⟨rfl, hI2⟩ := q2
        rw [s245_496, if_pos rfl]
        exact go σ2 hI2
      by_cases h9 : w = 9
      · rw [h9, sw_9]
        simp only [s245_501, s245_502, s245_503, s245_504, s245_505, s245_506, s245_506_g, s245_507, s245_508, s245_509, s245_510, s245_511, s245_511_g, s245_512, s245_513, s245_514, s245_515, s245_516, s245_516_g, s245_517, s245_518, s245_519, s245_520, s245_521, s245_521_g, s245_522, xcx_i, xcx_r, xcx_n, xcx_l, xcx_0, xcl_1010, hlen, hax, hx1, e1, b1, c1, e2, b2, c2, e3, b3, c3, e4, b4, c4, cl_s, pos_s, true_or, or_true, true_and]
        refine xI1_mono (op_rests _ _ _ _ xs L σ hI) (fun r σ1 q1 k1 => ?_)
        have hlen1 := len_of (by rw [k1.2]; exact hI.2.2.2.2.2.2.2.2.2.2 : σ1.1 1011 0 = Int32.ofNat L) hL
        have hx2 : σ1.1 1010 = xs := k1.1.trans hx1
        simp only [s245_525, s245_526, s245_527, s245_528, s245_529, s245_530, s245_530_g, s245_531, s245_532, s245_533, s245_534, s245_535, s245_535_g, s245_536, s245_537, s245_538, s245_539, s245_540, s245_540_g, s245_541, s245_542, s245_543, s245_544, s245_545, s245_545_g, s245_546, xcx_i, xcx_r, xcx_n, xcx_l, xcx_0, xcl_1010, hlen1, hax, hx2, e1, b1, c1, e2, b2, c2, e3, b3, c3, e4, b4, c4, cl_s, pos_s, true_or, or_true, true_and]
        refine xI1_mono q1 (fun r2 σ2 q2 _ => ?_)
        obtain ⟨rfl, hI2⟩ := q2
        rw [s245_549, if_pos rfl]
        exact go σ2 hI2
      by_cases h10 : w = 10
      · rw [h10, sw_10]
        simp only [s245_554, s245_555, s245_556, s245_557, s245_558, s245_559, s245_559_g, s245_560, s245_561, s245_562, s245_563, s245_564, s245_564_g, s245_565, s245_566, s245_567, s245_568, s245_569, s245_569_g, s245_570, s245_571, s245_572, s245_573, s245_574, s245_574_g, s245_575, xcx_i, xcx_r, xcx_n, xcx_l, xcx_0, xcl_1010, hlen, hax, hx1, e1, b1, c1, e2, b2, c2, e3, b3, c3, e4, b4, c4, cl_s, pos_s, true_or, or_true, true_and]
        refine xI1_mono (op_pull _ _ _ _ xs L σ hI) (fun r σ1 q1 k1 => ?_)
        have hlen1 := len_of (by rw [k1.2]; exact hI.2.2.2.2.2.2.2.2.2.2 : σ1.1 1011 0 = Int32.ofNat L) hL
        have hx2 : σ1.1 1010 = xs := k1.1.trans hx1
        simp only [s245_578, s245_579, s245_580, s245_581, s245_582, s245_583, s245_583_g, s245_584, s245_585, s245_586, s245_587, s245_588, s245_588_g, s245_589, s245_590, s245_591, s245_592, s245_593, s245_593_g, s245_594, s245_595, s245_596, s245_597, s245_598, s245_598_g, s245_599, xcx_i, xcx_r, xcx_n, xcx_l, xcx_0, xcl_1010, hlen1, hax, hx2, e1, b1, c1, e2, b2, c2, e3, b3, c3, e4, b4, c4, cl_s, pos_s, true_or, or_true, true_and]
        refine xI1_mono q1 (fun r2 σ2 q2 _ => ?_)
        obtain ⟨rfl, hI2⟩ := q2
        rw [s245_602, if_pos rfl]
        exact go σ2 hI2
      by_cases h11 : w = 11
      · rw [h11, sw_11]
        simp only [s245_607, s245_608, s245_609, s245_610, s245_611, s245_612, s245_612_g, s245_613, s245_614, s245_615, s245_616, s245_617, s245_617_g, s245_618, s245_619, s245_620, s245_621, s245_622, s245_622_g, s245_623, s245_624, s245_625, s245_626, s245_627, s245_627_g, s245_628, xcx_i, xcx_r, xcx_n, xcx_l, xcx_0, xcl_1010, hlen, hax, hx1, e1, b1, c1, e2, b2, c2, e3, b3, c3, e4, b4, c4, cl_s, pos_s, true_or, or_true, true_and]
        refine xI1_mono (op_goes _ _ _ _ xs L σ hI) (fun r σ1 q1 k1 => ?_)
        have hlen1 := len_of (by rw [k1.2]; exact hI.2.2.2.2.2.2.2.2.2.2 : σ1.1 1011 0 = Int32.ofNat L) hL
        have hx2 : σ1.1 1010 = xs := k1.1.trans hx1
        simp only [s245_631, s245_632, s245_633, s245_634, s245_635, s245_636, s245_636_g, s245_637, s245_638, s245_639, s245_640, s245_641, s245_641_g, s245_642, s245_643, s245_644, s245_645, s245_646, s245_646_g, s245_647, s245_648, s245_649, s245_650, s245_651, s245_651_g, s245_652, xcx_i, xcx_r, xcx_n, xcx_l, xcx_0, xcl_1010, hlen1, hax, hx2, e1, b1, c1, e2, b2, c2, e3, b3, c3, e4, b4, c4, cl_s, pos_s, true_or, or_true, true_and]
        refine xI1_mono q1 (fun r2 σ2 q2 _ => ?_)
        obtain ⟨rfl, hI2⟩ := q2
        rw [s245_655, if_pos rfl]
        exact go σ2 hI2
      by_cases h12 : w = 12
      · rw [h12, sw_12]
        simp only [s245_660, s245_661, s245_662, s245_663, s245_664, s245_665, s245_665_g, s245_666, s245_667, s245_668, s245_669, s245_670, s245_670_g, s245_671, s245_672, s245_673, s245_674, s245_675, s245_675_g, s245_676, xcx_i, xcx_r, xcx_n, xcx_l, xcx_0, xcl_1010, hlen, hax, hx1, e1, b1, c1, e2, b2, c2, e3, b3, c3, cl_s, pos_s, true_or, or_true, true_and]
        refine xI1_mono (op_holds _ _ _ xs L σ hI) (fun r σ1 q1 k1 => ?_)
        have hlen1 := len_of (by rw [k1.2]; exact hI.2.2.2.2.2.2.2.2.2.2 : σ1.1 1011 0 = Int32.ofNat L) hL
        have hx2 : σ1.1 1010 = xs := k1.1.trans hx1
        simp only [s245_679, s245_680, s245_681, s245_682, s245_683, s245_684, s245_684_g, s245_685, s245_686, s245_687, s245_688, s245_689, s245_689_g, s245_690, s245_691, s245_692, s245_693, s245_694, s245_694_g, s245_695, xcx_i, xcx_r, xcx_n, xcx_l, xcx_0, xcl_1010, hlen1, hax, hx2, e1, b1, c1, e2, b2, c2, e3, b3, c3, cl_s, pos_s, true_or, or_true, true_and]
        refine xI1_mono q1 (fun r2 σ2 q2 _ => ?_)
        obtain ⟨rfl, hI2⟩ := q2
        rw [s245_698, if_pos rfl]
        exact go σ2 hI2
      by_cases h13 : w = 13
      · rw [h13, sw_13]
        simp only [s245_703, s245_704, s245_705, s245_706, s245_707, s245_708, s245_708_g, s245_709, s245_710, s245_711, s245_712, s245_713, s245_713_g, s245_714, xcx_i, xcx_r, xcx_n, xcx_l, xcx_0, xcl_1010, hlen, hax, hx1, e1, b1, c1, e2, b2, c2, cl_s, pos_s, true_or, or_true, true_and]
        refine xI1_mono (op_held _ _ xs L σ hI) (fun r σ1 q1 k1 => ?_)
        have hlen1 := len_of (by rw [k1.2]; exact hI.2.2.2.2.2.2.2.2.2.2 : σ1.1 1011 0 = Int32.ofNat L) hL
        have hx2 : σ1.1 1010 = xs := k1.1.trans hx1
        simp only [s245_717, s245_718, s245_719, s245_720, s245_721, s245_722, s245_722_g, s245_723, s245_724, s245_725, s245_726, s245_727, s245_727_g, s245_728, xcx_i, xcx_r, xcx_n, xcx_l, xcx_0, xcl_1010, hlen1, hax, hx2, e1, b1, c1, e2, b2, c2, cl_s, pos_s, true_or, or_true, true_and]
        refine xI1_mono q1 (fun r2 σ2 q2 _ => ?_)
        obtain ⟨rfl, hI2⟩ := q2
        rw [s245_731, if_pos rfl]
        exact go σ2 hI2
      by_cases h14 : w = 14
      · rw [h14, sw_14]
        simp only [s245_736, s245_737, s245_738, s245_739, s245_740, s245_741, s245_741_g, s245_742, s245_743, s245_744, s245_745, s245_746, s245_746_g, s245_747, s245_748, s245_749, s245_750, s245_751, s245_751_g, s245_752, s245_753, s245_754, s245_755, s245_756, s245_756_g, s245_757, s245_758, s245_759, s245_760, s245_761, s245_761_g, s245_762, xcx_i, xcx_r, xcx_n, xcx_l, xcx_0, xcl_1010, hlen, hax, hx1, e1, b1, c1, e2, b2, c2, e3, b3, c3, e4, b4, c4, e5, b5, c5, cl_s, pos_s, true_or, or_true, true_and]
        refine xI1_mono (op_moved _ _ _ _ _ xs L σ hI) (fun r σ1 q1 k1 => ?_)
        have hlen1 := len_of (by rw [k1.2]; exact hI.2.2.2.2.2.2.2.2.2.2 : σ1.1 1011 0 = Int32.ofNat L) hL
        have hx2 : σ1.1 1010 = xs := k1.1.trans hx1
        simp only [s245_765, s245_766, s245_767, s245_768, s245_769, s245_770, s245_770_g, s245_771, s245_772, s245_773, s245_774, s245_775, s245_775_g, s245_776, s245_777, s245_778, s245_779, s245_780, s245_780_g, s245_781, s245_782, s245_783, s245_784, s245_785, s245_785_g, s245_786, s245_787, s245_788, s245_789, s245_790, s245_790_g, s245_791, xcx_i, xcx_r, xcx_n, xcx_l, xcx_0, xcl_1010, hlen1, hax, hx2, e1, b1, c1, e2, b2, c2, e3, b3, c3, e4, b4, c4, e5, b5, c5, cl_s, pos_s, true_or, or_true, true_and]
        refine xI1_mono q1 (fun r2 σ2 q2 _ => ?_)
        obtain ⟨rfl, hI2⟩ := q2
        rw [s245_794, if_pos rfl]
        exact go σ2 hI2
      by_cases h15 : w = 15
      · rw [h15, sw_15]
        simp only [s245_799, s245_800, s245_801, s245_802, s245_803, s245_804, s245_804_g, s245_805, s245_806, s245_807, s245_808, s245_809, s245_809_g, s245_810, s245_811, s245_812, s245_813, s245_814, s245_814_g, s245_815, s245_816, s245_817, s245_818, s245_819, s245_819_g, s245_820, s245_821, s245_822, s245_823, s245_824, s245_824_g, s245_825, xcx_i, xcx_r, xcx_n, xcx_l, xcx_0, xcl_1010, hlen, hax, hx1, e1, b1, c1, e2, b2, c2, e3, b3, c3, e4, b4, c4, e5, b5, c5, cl_s, pos_s, true_or, or_true, true_and]
        refine xI1_mono (op_best _ _ _ _ _ xs L σ hI) (fun r σ1 q1 k1 => ?_)
        have hlen1 := len_of (by rw [k1.2]; exact hI.2.2.2.2.2.2.2.2.2.2 : σ1.1 1011 0 = Int32.ofNat L) hL
        have hx2 : σ1.1 1010 = xs := k1.1.trans hx1
        simp only [s245_828, s245_829, s245_830, s245_831, s245_832, s245_833, s245_833_g, s245_834, s245_835, s245_836, s245_837, s245_838, s245_838_g, s245_839, s245_840, s245_841, s245_842, s245_843, s245_843_g, s245_844, s245_845, s245_846, s245_847, s245_848, s245_848_g, s245_849, s245_850, s245_851, s245_852, s245_853, s245_853_g, s245_854, xcx_i, xcx_r, xcx_n, xcx_l, xcx_0, xcl_1010, hlen1, hax, hx2, e1, b1, c1, e2, b2, c2, e3, b3, c3, e4, b4, c4, e5, b5, c5, cl_s, pos_s, true_or, or_true, true_and]
        refine xI1_mono q1 (fun r2 σ2 q2 _ => ?_)
        obtain ⟨rfl, hI2⟩ := q2
        rw [s245_857, if_pos rfl]
        exact go σ2 hI2
      by_cases h16 : w = 16
      · rw [h16, sw_16]
        simp only [s245_862, s245_863, s245_864, s245_865, s245_866, s245_867, s245_867_g, s245_868, s245_869, s245_870, s245_871, s245_872, s245_872_g, s245_873, s245_874, s245_875, s245_876, s245_877, s245_877_g, s245_878, xcx_i, xcx_r, xcx_n, xcx_l, xcx_0, xcl_1010, hlen, hax, hx1, e1, b1, c1, e2, b2, c2, e3, b3, c3, cl_s, pos_s, true_or, or_true, true_and]
        refine xI1_mono (op_call _ _ _ xs L σ hI) (fun r σ1 q1 k1 => ?_)
        have hlen1 := len_of (by rw [k1.2]; exact hI.2.2.2.2.2.2.2.2.2.2 : σ1.1 1011 0 = Int32.ofNat L) hL
        have hx2 : σ1.1 1010 = xs := k1.1.trans hx1
        simp only [s245_881, s245_882, s245_883, s245_884, s245_885, s245_886, s245_886_g, s245_887, s245_888, s245_889, s245_890, s245_891, s245_891_g, s245_892, s245_893, s245_894, s245_895, s245_896, s245_896_g, s245_897, xcx_i, xcx_r, xcx_n, xcx_l, xcx_0, xcl_1010, hlen1, hax, hx2, e1, b1, c1, e2, b2, c2, e3, b3, c3, cl_s, pos_s, true_or, or_true, true_and]
        refine xI1_mono q1 (fun r2 σ2 q2 _ => ?_)
        obtain ⟨rfl, hI2⟩ := q2
        rw [s245_900, if_pos rfl]
        exact go σ2 hI2
      by_cases h17 : w = 17
      · rw [h17, sw_17]
        simp only [s245_905, s245_906, s245_907, s245_908, s245_909, s245_910, s245_910_g, s245_911, s245_912, s245_913, s245_914, s245_915, s245_915_g, s245_916, xcx_i, xcx_r, xcx_n, xcx_l, xcx_0, xcl_1010, hlen, hax, hx1, e1, b1, c1, e2, b2, c2, cl_s, pos_s, true_or, or_true, true_and]
        refine xI1_mono (op_met _ _ xs L σ hI) (fun r σ1 q1 k1 => ?_)
        have hlen1 := len_of (by rw [k1.2]; exact hI.2.2.2.2.2.2.2.2.2.2 : σ1.1 1011 0 = Int32.ofNat L) hL
        have hx2 : σ1.1 1010 = xs := k1.1.trans hx1
        simp only [s245_919, s245_920, s245_921, s245_922, s245_923, s245_924, s245_924_g, s245_925, s245_926, s245_927, s245_928, s245_929, s245_929_g, s245_930, xcx_i, xcx_r, xcx_n, xcx_l, xcx_0, xcl_1010, hlen1, hax, hx2, e1, b1, c1, e2, b2, c2, cl_s, pos_s, true_or, or_true, true_and]
        refine xI1_mono q1 (fun r2 σ2 q2 _ => ?_)
        obtain ⟨rfl, hI2⟩ := q2
        rw [s245_933, if_pos rfl]
        exact go σ2 hI2
      by_cases h18 : w = 18
      · rw [h18, sw_18]
        simp only [s245_938, s245_939, xcx_i, xcx_r, xcx_n, xcx_l, xcx_0, xcl_1010, hlen, hax, hx1, cl_s, pos_s, true_or, or_true, true_and]
        refine xI1_mono (op_least xs L σ hI) (fun r σ1 q1 k1 => ?_)
        have hlen1 := len_of (by rw [k1.2]; exact hI.2.2.2.2.2.2.2.2.2.2 : σ1.1 1011 0 = Int32.ofNat L) hL
        have hx2 : σ1.1 1010 = xs := k1.1.trans hx1
        simp only [s245_942, s245_943, xcx_i, xcx_r, xcx_n, xcx_l, xcx_0, xcl_1010, hlen1, hax, hx2, cl_s, pos_s, true_or, or_true, true_and]
        refine xI1_mono q1 (fun r2 σ2 q2 _ => ?_)
        obtain ⟨rfl, hI2⟩ := q2
        rw [s245_946, if_pos rfl]
        exact go σ2 hI2
      by_cases h19 : w = 19
      · rw [h19, sw_19]
        simp only [s245_951, s245_952, s245_953, s245_954, s245_955, s245_956, s245_956_g, s245_957, s245_958, s245_959, s245_960, s245_961, s245_961_g, s245_962, xcx_i, xcx_r, xcx_n, xcx_l, xcx_0, xcl_1010, hlen, hax, hx1, e1, b1, c1, e2, b2, c2, cl_s, pos_s, true_or, or_true, true_and]
        refine xI1_mono (op_pay _ _ xs L σ hI) (fun r σ1 q1 k1 => ?_)
        have hlen1 := len_of (by rw [k1.2]; exact hI.2.2.2.2.2.2.2.2.2.2 : σ1.1 1011 0 = Int32.ofNat L) hL
        have hx2 : σ1.1 1010 = xs := k1.1.trans hx1
        simp only [s245_965, s245_966, s245_967, s245_968, s245_969, s245_970, s245_970_g, s245_971, s245_972, s245_973, s245_974, s245_975, s245_975_g, s245_976, xcx_i, xcx_r, xcx_n, xcx_l, xcx_0, xcl_1010, hlen1, hax, hx2, e1, b1, c1, e2, b2, c2, cl_s, pos_s, true_or, or_true, true_and]
        refine xI1_mono q1 (fun r2 σ2 q2 _ => ?_)
        obtain ⟨rfl, hI2⟩ := q2
        rw [s245_979, if_pos rfl]
        exact go σ2 hI2
      by_cases h20 : w = 20
      · rw [h20, sw_20]
        simp only [s245_984, s245_985, s245_986, s245_987, s245_988, s245_989, s245_989_g, s245_990, s245_991, s245_992, s245_993, s245_994, s245_994_g, s245_995, xcx_i, xcx_r, xcx_n, xcx_l, xcx_0, xcl_1010, hlen, hax, hx1, e1, b1, c1, e2, b2, c2, cl_s, pos_s, true_or, or_true, true_and]
        refine xI1_mono (op_ring _ _ xs L σ hI) (fun r σ1 q1 k1 => ?_)
        have hlen1 := len_of (by rw [k1.2]; exact hI.2.2.2.2.2.2.2.2.2.2 : σ1.1 1011 0 = Int32.ofNat L) hL
        have hx2 : σ1.1 1010 = xs := k1.1.trans hx1
        simp only [s245_998, s245_999, s245_1000, s245_1001, s245_1002, s245_1003, s245_1003_g, s245_1004, s245_1005, s245_1006, s245_1007, s245_1008, s245_1008_g, s245_1009, xcx_i, xcx_r, xcx_n, xcx_l, xcx_0, xcl_1010, hlen1, hax, hx2, e1, b1, c1, e2, b2, c2, cl_s, pos_s, true_or, or_true, true_and]
        refine xI1_mono q1 (fun r2 σ2 q2 _ => ?_)
        obtain ⟨rfl, hI2⟩ := q2
        rw [s245_1012, if_pos rfl]
        exact go σ2 hI2
      by_cases h21 : w = 21
      · rw [h21, sw_21]
        simp only [s245_1017, s245_1018, xcx_i, xcx_r, xcx_n, xcx_l, xcx_0, xcl_1010, hlen, hax, hx1, cl_s, pos_s, true_or, or_true, true_and]
        refine xI1_mono (op_undo xs L σ hI) (fun r σ1 q1 k1 => ?_)
        have hlen1 := len_of (by rw [k1.2]; exact hI.2.2.2.2.2.2.2.2.2.2 : σ1.1 1011 0 = Int32.ofNat L) hL
        have hx2 : σ1.1 1010 = xs := k1.1.trans hx1
        simp only [s245_1021, s245_1022, xcx_i, xcx_r, xcx_n, xcx_l, xcx_0, xcl_1010, hlen1, hax, hx2, cl_s, pos_s, true_or, or_true, true_and]
        refine xI1_mono q1 (fun r2 σ2 q2 _ => ?_)
        obtain ⟨rfl, hI2⟩ := q2
        rw [s245_1025, if_pos rfl]
        exact go σ2 hI2
      by_cases h22 : w = 22
      · rw [h22, sw_22]
        simp only [s245_1030, s245_1031, s245_1032, s245_1033, s245_1034, s245_1035, s245_1035_g, s245_1036, xcx_i, xcx_r, xcx_n, xcx_l, xcx_0, xcl_1010, hlen, hax, hx1, e1, b1, c1, cl_s, pos_s, true_or, or_true, true_and]
        refine xI1_mono (op_turn _ xs L σ hI) (fun r σ1 q1 k1 => ?_)
        have hlen1 := len_of (by rw [k1.2]; exact hI.2.2.2.2.2.2.2.2.2.2 : σ1.1 1011 0 = Int32.ofNat L) hL
        have hx2 : σ1.1 1010 = xs := k1.1.trans hx1
        simp only [s245_1039, s245_1040, s245_1041, s245_1042, s245_1043, s245_1044, s245_1044_g, s245_1045, xcx_i, xcx_r, xcx_n, xcx_l, xcx_0, xcl_1010, hlen1, hax, hx2, e1, b1, c1, cl_s, pos_s, true_or, or_true, true_and]
        refine xI1_mono q1 (fun r2 σ2 q2 _ => ?_)
        obtain ⟨rfl, hI2⟩ := q2
        rw [s245_1048, if_pos rfl]
        exact go σ2 hI2
      by_cases h23 : w = 23
      · rw [h23, sw_23]
        simp only [s245_1053, s245_1054, s245_1055, s245_1056, s245_1057, s245_1058, s245_1058_g, s245_1059, s245_1060, s245_1061, s245_1062, s245_1063, s245_1063_g, s245_1064, xcx_i, xcx_r, xcx_n, xcx_l, xcx_0, xcl_1010, hlen, hax, hx1, e1, b1, c1, e2, b2, c2, cl_s, pos_s, true_or, or_true, true_and]
        refine xI1_mono (op_luck _ _ xs L σ hI) (fun r σ1 q1 k1 => ?_)
        have hlen1 := len_of (by rw [k1.2]; exact hI.2.2.2.2.2.2.2.2.2.2 : σ1.1 1011 0 = Int32.ofNat L) hL
        have hx2 : σ1.1 1010 = xs := k1.1.trans hx1
        simp only [s245_1067, s245_1068, s245_1069, s245_1070, s245_1071, s245_1072, s245_1072_g, s245_1073, s245_1074, s245_1075, s245_1076, s245_1077, s245_1077_g, s245_1078, xcx_i, xcx_r, xcx_n, xcx_l, xcx_0, xcl_1010, hlen1, hax, hx2, e1, b1, c1, e2, b2, c2, cl_s, pos_s, true_or, or_true, true_and]
        refine xI1_mono q1 (fun r2 σ2 q2 _ => ?_)
        obtain ⟨rfl, hI2⟩ := q2
        rw [s245_1081, if_pos rfl]
        exact go σ2 hI2
      by_cases h24 : w = 24
      · rw [h24, sw_24]
        simp only [s245_1086, s245_1087, s245_1088, s245_1089, s245_1090, s245_1091, s245_1091_g, s245_1092, xcx_i, xcx_r, xcx_n, xcx_l, xcx_0, xcl_1010, hlen, hax, hx1, e1, b1, c1, cl_s, pos_s, true_or, or_true, true_and]
        refine xI1_mono (op_depth _ xs L σ hI) (fun r σ1 q1 k1 => ?_)
        have hlen1 := len_of (by rw [k1.2]; exact hI.2.2.2.2.2.2.2.2.2.2 : σ1.1 1011 0 = Int32.ofNat L) hL
        have hx2 : σ1.1 1010 = xs := k1.1.trans hx1
        simp only [s245_1095, s245_1096, s245_1097, s245_1098, s245_1099, s245_1100, s245_1100_g, s245_1101, xcx_i, xcx_r, xcx_n, xcx_l, xcx_0, xcl_1010, hlen1, hax, hx2, e1, b1, c1, cl_s, pos_s, true_or, or_true, true_and]
        refine xI1_mono q1 (fun r2 σ2 q2 _ => ?_)
        obtain ⟨rfl, hI2⟩ := q2
        rw [s245_1104, if_pos rfl]
        exact go σ2 hI2
      by_cases h25 : w = 25
      · rw [h25, sw_25]
        simp only [s245_1109, s245_1110, s245_1111, s245_1112, s245_1113, s245_1114, s245_1114_g, s245_1115, s245_1116, s245_1117, s245_1118, s245_1119, s245_1119_g, s245_1120, xcx_i, xcx_r, xcx_n, xcx_l, xcx_0, xcl_1010, hlen, hax, hx1, e1, b1, c1, e2, b2, c2, cl_s, pos_s, true_or, or_true, true_and]
        refine xI1_mono (op_visit _ _ xs L σ hI) (fun r σ1 q1 k1 => ?_)
        have hlen1 := len_of (by rw [k1.2]; exact hI.2.2.2.2.2.2.2.2.2.2 : σ1.1 1011 0 = Int32.ofNat L) hL
        have hx2 : σ1.1 1010 = xs := k1.1.trans hx1
        simp only [s245_1123, s245_1124, s245_1125, s245_1126, s245_1127, s245_1128, s245_1128_g, s245_1129, s245_1130, s245_1131, s245_1132, s245_1133, s245_1133_g, s245_1134, xcx_i, xcx_r, xcx_n, xcx_l, xcx_0, xcl_1010, hlen1, hax, hx2, e1, b1, c1, e2, b2, c2, cl_s, pos_s, true_or, or_true, true_and]
        refine xI1_mono q1 (fun r2 σ2 q2 _ => ?_)
        obtain ⟨rfl, hI2⟩ := q2
        rw [s245_1137, if_pos rfl]
        exact go σ2 hI2
      by_cases h26 : w = 26
      · rw [h26, sw_26]
        simp only [s245_1142, s245_1143, s245_1144, s245_1145, s245_1146, s245_1147, s245_1147_g, s245_1148, s245_1149, s245_1150, s245_1151, s245_1152, s245_1152_g, s245_1153, s245_1154, s245_1155, s245_1156, s245_1157, s245_1157_g, s245_1158, xcx_i, xcx_r, xcx_n, xcx_l, xcx_0, xcl_1010, hlen, hax, hx1, e1, b1, c1, e2, b2, c2, e3, b3, c3, cl_s, pos_s, true_or, or_true, true_and]
        refine xI1_mono (op_fits _ _ _ xs L σ hI) (fun r σ1 q1 k1 => ?_)
        have hlen1 := len_of (by rw [k1.2]; exact hI.2.2.2.2.2.2.2.2.2.2 : σ1.1 1011 0 = Int32.ofNat L) hL
        have hx2 : σ1.1 1010 = xs := k1.1.trans hx1
        simp only [s245_1161, s245_1162, s245_1163, s245_1164, s245_1165, s245_1166, s245_1166_g, s245_1167, s245_1168, s245_1169, s245_1170, s245_1171, s245_1171_g, s245_1172, s245_1173, s245_1174, s245_1175, s245_1176, s245_1176_g, s245_1177, xcx_i, xcx_r, xcx_n, xcx_l, xcx_0, xcl_1010, hlen1, hax, hx2, e1, b1, c1, e2, b2, c2, e3, b3, c3, cl_s, pos_s, true_or, or_true, true_and]
        refine xI1_mono q1 (fun r2 σ2 q2 _ => ?_)
        obtain ⟨rfl, hI2⟩ := q2
        rw [s245_1180, if_pos rfl]
        exact go σ2 hI2
      by_cases h27 : w = 27
      · rw [h27, sw_27]
        simp only [s245_1185, s245_1186, s245_1187, s245_1188, s245_1189, s245_1190, s245_1190_g, s245_1191, s245_1192, s245_1193, s245_1194, s245_1195, s245_1195_g, s245_1196, s245_1197, s245_1198, s245_1199, s245_1200, s245_1200_g, s245_1201, xcx_i, xcx_r, xcx_n, xcx_l, xcx_0, xcl_1010, hlen, hax, hx1, e1, b1, c1, e2, b2, c2, e3, b3, c3, cl_s, pos_s, true_or, or_true, true_and]
        refine xI1_mono (op_lay _ _ _ xs L σ hI) (fun r σ1 q1 k1 => ?_)
        have hlen1 := len_of (by rw [k1.2]; exact hI.2.2.2.2.2.2.2.2.2.2 : σ1.1 1011 0 = Int32.ofNat L) hL
        have hx2 : σ1.1 1010 = xs := k1.1.trans hx1
        simp only [s245_1204, s245_1205, s245_1206, s245_1207, s245_1208, s245_1209, s245_1209_g, s245_1210, s245_1211, s245_1212, s245_1213, s245_1214, s245_1214_g, s245_1215, s245_1216, s245_1217, s245_1218, s245_1219, s245_1219_g, s245_1220, xcx_i, xcx_r, xcx_n, xcx_l, xcx_0, xcl_1010, hlen1, hax, hx2, e1, b1, c1, e2, b2, c2, e3, b3, c3, cl_s, pos_s, true_or, or_true, true_and]
        refine xI1_mono q1 (fun r2 σ2 q2 _ => ?_)
        obtain ⟨rfl, hI2⟩ := q2
        rw [s245_1223, if_pos rfl]
        exact go σ2 hI2
      by_cases h28 : w = 28
      · rw [h28, sw_28]
        simp only [s245_1228, s245_1229, s245_1230, s245_1231, s245_1232, s245_1233, s245_1233_g, s245_1234, xcx_i, xcx_r, xcx_n, xcx_l, xcx_0, xcl_1010, hlen, hax, hx1, e1, b1, c1, cl_s, pos_s, true_or, or_true, true_and]
        refine xI1_mono (op_lift _ xs L σ hI) (fun r σ1 q1 k1 => ?_)
        have hlen1 := len_of (by rw [k1.2]; exact hI.2.2.2.2.2.2.2.2.2.2 : σ1.1 1011 0 = Int32.ofNat L) hL
        have hx2 : σ1.1 1010 = xs := k1.1.trans hx1
        simp only [s245_1237, s245_1238, s245_1239, s245_1240, s245_1241, s245_1242, s245_1242_g, s245_1243, xcx_i, xcx_r, xcx_n, xcx_l, xcx_0, xcl_1010, hlen1, hax, hx2, e1, b1, c1, cl_s, pos_s, true_or, or_true, true_and]
        refine xI1_mono q1 (fun r2 σ2 q2 _ => ?_)
        obtain ⟨rfl, hI2⟩ := q2
        rw [s245_1246, if_pos rfl]
        exact go σ2 hI2
      by_cases h29 : w = 29
      · rw [h29, sw_29]
        simp only [s245_1251, s245_1252, s245_1253, s245_1254, s245_1255, s245_1256, s245_1256_g, s245_1257, s245_1258, s245_1259, s245_1260, s245_1261, s245_1261_g, s245_1262, xcx_i, xcx_r, xcx_n, xcx_l, xcx_0, xcl_1010, hlen, hax, hx1, e1, b1, c1, e2, b2, c2, cl_s, pos_s, true_or, or_true, true_and]
        refine xI1_mono (op_about _ _ xs L σ hI) (fun r σ1 q1 k1 => ?_)
        have hlen1 := len_of (by rw [k1.2]; exact hI.2.2.2.2.2.2.2.2.2.2 : σ1.1 1011 0 = Int32.ofNat L) hL
        have hx2 : σ1.1 1010 = xs := k1.1.trans hx1
        simp only [s245_1265, s245_1266, s245_1267, s245_1268, s245_1269, s245_1270, s245_1270_g, s245_1271, s245_1272, s245_1273, s245_1274, s245_1275, s245_1275_g, s245_1276, xcx_i, xcx_r, xcx_n, xcx_l, xcx_0, xcl_1010, hlen1, hax, hx2, e1, b1, c1, e2, b2, c2, cl_s, pos_s, true_or, or_true, true_and]
        refine xI1_mono q1 (fun r2 σ2 q2 _ => ?_)
        obtain ⟨rfl, hI2⟩ := q2
        rw [s245_1279, if_pos rfl]
        exact go σ2 hI2
      by_cases h30 : w = 30
      · rw [h30, sw_30]
        simp only [s245_1284, s245_1285, s245_1286, s245_1287, s245_1288, s245_1289, s245_1289_g, s245_1290, xcx_i, xcx_r, xcx_n, xcx_l, xcx_0, xcl_1010, hlen, hax, hx1, e1, b1, c1, cl_s, pos_s, true_or, or_true, true_and]
        refine xI1_mono (op_firstFit _ xs L σ hI) (fun r σ1 q1 k1 => ?_)
        have hlen1 := len_of (by rw [k1.2]; exact hI.2.2.2.2.2.2.2.2.2.2 : σ1.1 1011 0 = Int32.ofNat L) hL
        have hx2 : σ1.1 1010 = xs := k1.1.trans hx1
        simp only [s245_1293, s245_1294, s245_1295, s245_1296, s245_1297, s245_1298, s245_1298_g, s245_1299, xcx_i, xcx_r, xcx_n, xcx_l, xcx_0, xcl_1010, hlen1, hax, hx2, e1, b1, c1, cl_s, pos_s, true_or, or_true, true_and]
        refine xI1_mono q1 (fun r2 σ2 q2 _ => ?_)
        obtain ⟨rfl, hI2⟩ := q2
        rw [s245_1302, if_pos rfl]
        exact go σ2 hI2
      by_cases h31 : w = 31
      · rw [h31, sw_31]
        simp only [s245_1307, s245_1308, s245_1309, s245_1310, s245_1311, s245_1312, s245_1312_g, s245_1313, xcx_i, xcx_r, xcx_n, xcx_l, xcx_0, xcl_1010, hlen, hax, hx1, e1, b1, c1, cl_s, pos_s, true_or, or_true, true_and]
        refine xI1_mono (op_plan _ xs L σ hI) (fun r σ1 q1 k1 => ?_)
        have hlen1 := len_of (by rw [k1.2]; exact hI.2.2.2.2.2.2.2.2.2.2 : σ1.1 1011 0 = Int32.ofNat L) hL
        have hx2 : σ1.1 1010 = xs := k1.1.trans hx1
        simp only [s245_1316, s245_1317, s245_1318, s245_1319, s245_1320, s245_1321, s245_1321_g, s245_1322, xcx_i, xcx_r, xcx_n, xcx_l, xcx_0, xcl_1010, hlen1, hax, hx2, e1, b1, c1, cl_s, pos_s, true_or, or_true, true_and]
        refine xI1_mono q1 (fun r2 σ2 q2 _ => ?_)
        obtain ⟨rfl, hI2⟩ := q2
        rw [s245_1325, if_pos rfl]
        exact go σ2 hI2
      by_cases h32 : w = 32
      · rw [h32, sw_32]
        simp only [s245_1330, s245_1331, s245_1332, s245_1333, s245_1334, s245_1335, s245_1335_g, s245_1336, s245_1337, s245_1338, s245_1339, s245_1340, s245_1340_g, s245_1341, s245_1342, s245_1343, s245_1344, s245_1345, s245_1345_g, s245_1346, xcx_i, xcx_r, xcx_n, xcx_l, xcx_0, xcl_1010, hlen, hax, hx1, e1, b1, c1, e2, b2, c2, e3, b3, c3, cl_s, pos_s, true_or, or_true, true_and]
        refine xI1_mono (op_task _ _ _ xs L σ hI) (fun r σ1 q1 k1 => ?_)
        have hlen1 := len_of (by rw [k1.2]; exact hI.2.2.2.2.2.2.2.2.2.2 : σ1.1 1011 0 = Int32.ofNat L) hL
        have hx2 : σ1.1 1010 = xs := k1.1.trans hx1
        simp only [s245_1349, s245_1350, s245_1351, s245_1352, s245_1353, s245_1354, s245_1354_g, s245_1355, s245_1356, s245_1357, s245_1358, s245_1359, s245_1359_g, s245_1360, s245_1361, s245_1362, s245_1363, s245_1364, s245_1364_g, s245_1365, xcx_i, xcx_r, xcx_n, xcx_l, xcx_0, xcl_1010, hlen1, hax, hx2, e1, b1, c1, e2, b2, c2, e3, b3, c3, cl_s, pos_s, true_or, or_true, true_and]
        refine xI1_mono q1 (fun r2 σ2 q2 _ => ?_)
        obtain ⟨rfl, hI2⟩ := q2
        rw [s245_1368, if_pos rfl]
        exact go σ2 hI2
      by_cases h33 : w = 33
      · rw [h33, sw_33]
        simp only [s245_1373, s245_1374, s245_1375, s245_1376, s245_1377, s245_1378, s245_1378_g, s245_1379, s245_1380, s245_1381, s245_1382, s245_1383, s245_1383_g, s245_1384, xcx_i, xcx_r, xcx_n, xcx_l, xcx_0, xcl_1010, hlen, hax, hx1, e1, b1, c1, e2, b2, c2, cl_s, pos_s, true_or, or_true, true_and]
        refine xI1_mono (op_storm _ _ xs L σ hI) (fun r σ1 q1 k1 => ?_)
        have hlen1 := len_of (by rw [k1.2]; exact hI.2.2.2.2.2.2.2.2.2.2 : σ1.1 1011 0 = Int32.ofNat L) hL
        have hx2 : σ1.1 1010 = xs := k1.1.trans hx1
        simp only [s245_1387, s245_1388, s245_1389, s245_1390, s245_1391, s245_1392, s245_1392_g, s245_1393, s245_1394, s245_1395, s245_1396, s245_1397, s245_1397_g, s245_1398, xcx_i, xcx_r, xcx_n, xcx_l, xcx_0, xcl_1010, hlen1, hax, hx2, e1, b1, c1, e2, b2, c2, cl_s, pos_s, true_or, or_true, true_and]
        refine xI1_mono q1 (fun r2 σ2 q2 _ => ?_)
        obtain ⟨rfl, hI2⟩ := q2
        rw [s245_1401, if_pos rfl]
        exact go σ2 hI2
      by_cases h34 : w = 34
      · rw [h34, sw_34]
        simp only [s245_1406, s245_1407, s245_1408, s245_1409, s245_1410, s245_1411, s245_1411_g, s245_1412, s245_1413, s245_1414, s245_1415, s245_1416, s245_1416_g, s245_1417, s245_1418, s245_1419, s245_1420, s245_1421, s245_1421_g, s245_1422, xcx_i, xcx_r, xcx_n, xcx_l, xcx_0, xcl_1010, hlen, hax, hx1, e1, b1, c1, e2, b2, c2, e3, b3, c3, cl_s, pos_s, true_or, or_true, true_and]
        refine xI1_mono (op_weather _ _ _ xs L σ hI) (fun r σ1 q1 k1 => ?_)
        have hlen1 := len_of (by rw [k1.2]; exact hI.2.2.2.2.2.2.2.2.2.2 : σ1.1 1011 0 = Int32.ofNat L) hL
        have hx2 : σ1.1 1010 = xs := k1.1.trans hx1
        simp only [s245_1425, s245_1426, s245_1427, s245_1428, s245_1429, s245_1430, s245_1430_g, s245_1431, s245_1432, s245_1433, s245_1434, s245_1435, s245_1435_g, s245_1436, s245_1437, s245_1438, s245_1439, s245_1440, s245_1440_g, s245_1441, xcx_i, xcx_r, xcx_n, xcx_l, xcx_0, xcl_1010, hlen1, hax, hx2, e1, b1, c1, e2, b2, c2, e3, b3, c3, cl_s, pos_s, true_or, or_true, true_and]
        refine xI1_mono q1 (fun r2 σ2 q2 _ => ?_)
        obtain ⟨rfl, hI2⟩ := q2
        rw [s245_1444, if_pos rfl]
        exact go σ2 hI2
      by_cases h35 : w = 35
      · rw [h35, sw_35]
        simp only [s245_1449, s245_1450, s245_1451, s245_1452, s245_1453, s245_1454, s245_1454_g, s245_1455, s245_1456, s245_1457, s245_1458, s245_1459, s245_1459_g, s245_1460, xcx_i, xcx_r, xcx_n, xcx_l, xcx_0, xcl_1010, hlen, hax, hx1, e1, b1, c1, e2, b2, c2, cl_s, pos_s, true_or, or_true, true_and]
        refine xI1_mono (op_blame _ _ xs L σ hI) (fun r σ1 q1 k1 => ?_)
        have hlen1 := len_of (by rw [k1.2]; exact hI.2.2.2.2.2.2.2.2.2.2 : σ1.1 1011 0 = Int32.ofNat L) hL
        have hx2 : σ1.1 1010 = xs := k1.1.trans hx1
        simp only [s245_1463, s245_1464, s245_1465, s245_1466, s245_1467, s245_1468, s245_1468_g, s245_1469, s245_1470, s245_1471, s245_1472, s245_1473, s245_1473_g, s245_1474, xcx_i, xcx_r, xcx_n, xcx_l, xcx_0, xcl_1010, hlen1, hax, hx2, e1, b1, c1, e2, b2, c2, cl_s, pos_s, true_or, or_true, true_and]
        refine xI1_mono q1 (fun r2 σ2 q2 _ => ?_)
        obtain ⟨rfl, hI2⟩ := q2
        rw [s245_1477, if_pos rfl]
        exact go σ2 hI2
      by_cases h36 : w = 36
      · rw [h36, sw_36]
        simp only [s245_1482, s245_1483, s245_1484, s245_1485, s245_1486, s245_1487, s245_1487_g, s245_1488, xcx_i, xcx_r, xcx_n, xcx_l, xcx_0, xcl_1010, hlen, hax, hx1, e1, b1, c1, cl_s, pos_s, true_or, or_true, true_and]
        refine xI1_mono (op_image _ xs L σ hI) (fun r σ1 q1 k1 => ?_)
        have hlen1 := len_of (by rw [k1.2]; exact hI.2.2.2.2.2.2.2.2.2.2 : σ1.1 1011 0 = Int32.ofNat L) hL
        have hx2 : σ1.1 1010 = xs := k1.1.trans hx1
        simp only [s245_1491, s245_1492, s245_1493, s245_1494, s245_1495, s245_1496, s245_1496_g, s245_1497, xcx_i, xcx_r, xcx_n, xcx_l, xcx_0, xcl_1010, hlen1, hax, hx2, e1, b1, c1, cl_s, pos_s, true_or, or_true, true_and]
        refine xI1_mono q1 (fun r2 σ2 q2 _ => ?_)
        obtain ⟨rfl, hI2⟩ := q2
        rw [s245_1500, if_pos rfl]
        exact go σ2 hI2
      by_cases h37 : w = 37
      · rw [h37, sw_37]
        simp only [s245_1505, s245_1506, s245_1507, s245_1508, s245_1509, s245_1510, s245_1510_g, s245_1511, xcx_i, xcx_r, xcx_n, xcx_l, xcx_0, xcl_1010, hlen, hax, hx1, e1, b1, c1, cl_s, pos_s, true_or, or_true, true_and]
        refine xI1_mono (op_back _ xs L σ hI) (fun r σ1 q1 k1 => ?_)
        have hlen1 := len_of (by rw [k1.2]; exact hI.2.2.2.2.2.2.2.2.2.2 : σ1.1 1011 0 = Int32.ofNat L) hL
        have hx2 : σ1.1 1010 = xs := k1.1.trans hx1
        simp only [s245_1514, s245_1515, s245_1516, s245_1517, s245_1518, s245_1519, s245_1519_g, s245_1520, xcx_i, xcx_r, xcx_n, xcx_l, xcx_0, xcl_1010, hlen1, hax, hx2, e1, b1, c1, cl_s, pos_s, true_or, or_true, true_and]
        refine xI1_mono q1 (fun r2 σ2 q2 _ => ?_)
        obtain ⟨rfl, hI2⟩ := q2
        rw [s245_1523, if_pos rfl]
        exact go σ2 hI2
      by_cases h38 : w = 38
      · rw [h38, sw_38]
        simp only [s245_1528, s245_1529, s245_1530, s245_1531, s245_1532, s245_1533, s245_1533_g, s245_1534, xcx_i, xcx_r, xcx_n, xcx_l, xcx_0, xcl_1010, hlen, hax, hx1, e1, b1, c1, cl_s, pos_s, true_or, or_true, true_and]
        refine xI1_mono (op_count _ xs L σ hI) (fun r σ1 q1 k1 => ?_)
        have hlen1 := len_of (by rw [k1.2]; exact hI.2.2.2.2.2.2.2.2.2.2 : σ1.1 1011 0 = Int32.ofNat L) hL
        have hx2 : σ1.1 1010 = xs := k1.1.trans hx1
        simp only [s245_1537, s245_1538, s245_1539, s245_1540, s245_1541, s245_1542, s245_1542_g, s245_1543, xcx_i, xcx_r, xcx_n, xcx_l, xcx_0, xcl_1010, hlen1, hax, hx2, e1, b1, c1, cl_s, pos_s, true_or, or_true, true_and]
        refine xI1_mono q1 (fun r2 σ2 q2 _ => ?_)
        obtain ⟨rfl, hI2⟩ := q2
        rw [s245_1546, if_pos rfl]
        exact go σ2 hI2
      rw [s245_33, if_neg h0, if_neg h1, if_neg h2, if_neg h3, if_neg h4, if_neg h5, if_neg h6, if_neg h7, if_neg h8, if_neg h9, if_neg h10, if_neg h11, if_neg h12, if_neg h13, if_neg h14, if_neg h15, if_neg h16, if_neg h17, if_neg h18, if_neg h19, if_neg h20, if_neg h21, if_neg h22, if_neg h23, if_neg h24, if_neg h25, if_neg h26, if_neg h27, if_neg h28, if_neg h29, if_neg h30, if_neg h31, if_neg h32, if_neg h33, if_neg h34, if_neg h35, if_neg h36, if_neg h37, if_neg h38]
      exact go σ hI
    · exact ex i σ hc h2 hI
