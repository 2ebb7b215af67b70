set_option maxRecDepth 100000 in
theorem xw_t0 : xw_pick (k2_sels lw_privs) [0, 0, 0, 0, 0, 0, 0, 0, 0, 0, 0, 0, 0, 0, 0, 0, 0, 0, 0, 0, 0, 0, 0, 0, 0, 0, 0, 0, 0, 0, 0, 0, 0, 0, 0, 0, 0, 0, 0, 0, 0, 0, 0, 0, 0, 0, 0, 0, 0, 0, 0, 0, 0, 0, 0, 0, 0, 0, 0, 0, 0, 0, 0, 0, 0, 0, 0, 0, 0, 0] = xw_s0 ++ (xw_s1 ++ (xw_s2)) := rfl
set_option maxRecDepth 100000 in
theorem xw_t1 : xw_pick tables_1_1 [0, 0, 0, 0, 0, 0, 0, 0, 0, 0, 0, 0, 0, 0, 0, 0, 0, 0, 0, 0, 0, 0, 2, 0, 0, 0, 0, 0, 2, 0, 0, 0, 0, 0, 0, 0, 10, 0, 0, 0, 0, 0, 7, 0, 0, 0, 0, 0, 0, 0, 0, 0, 0, 0, 0, 0, 0, 0, 0, 0, 0, 0, 0, 0, 0, 0, 0, 24, 0, 0, 0, 0, 0, 0, 0, 0, 0, 0, 0, 0, 0, 0, 0, 0, 0, 0, 0, 0, 0, 0, 0, 0, 0, 0, 0, 35, 0, 0, 0, 0, 0, 0, 0, 0, 0, 0, 0, 11, 0, 0, 0, 0, 0, 0, 0, 0, 0, 0, 0, 0, 0, 0, 0, 0, 0, 0, 0, 0, 0] = xw_s3 ++ (xw_s4 ++ (xw_s5 ++ (xw_s6 ++ (xw_s7)))) := rfl
set_option maxRecDepth 100000 in
theorem xw_t2 : xw_pick tables_1_2 [7, 0, 0, 0, 0, 0, 0, 0, 0, 12, 0, 0, 0, 0, 0, 0, 0, 0, 0, 0, 0, 0, 0, 0, 0, 0, 0, 0, 0, 0, 0, 0, 0, 25, 0, 0, 0, 0, 0, 0, 0, 0, 0, 0, 0, 0, 0, 0, 17, 0, 0, 0, 0, 0, 0, 0, 0, 7, 0, 0, 0, 0, 0, 0, 0, 0, 0, 0, 0, 0, 13, 0, 0, 0, 0, 0, 0, 0, 0, 0, 0, 0, 0, 27, 0, 0, 0, 0, 0, 0, 0, 0, 0, 0, 0, 0, 0, 0, 0, 0, 0, 0, 0, 0, 0, 0, 0, 0, 0, 0, 0, 0, 0, 0, 0, 0, 0, 1, 0, 0, 0, 0, 0, 1, 0, 0, 1, 0, 0] = xw_s8 ++ (xw_s9 ++ (xw_s10 ++ (xw_s11 ++ (xw_s12)))) := rfl
set_option maxRecDepth 100000 in
theorem xw_t3 : xw_pick tables_1_3 [0, 1, 0, 1, 1, 0, 0, 0, 0, 0, 0, 0, 0, 0, 0, 1, 0, 0, 0, 0, 0, 0, 0, 0, 0, 0, 0, 0, 0, 0, 1, 0, 0, 0, 0, 0, 0, 0, 0, 0, 0, 0, 0, 0, 0, 0, 0, 1, 1, 7, 0, 0, 0, 0, 0, 0, 0, 0, 0, 0, 1, 1, 1, 0, 0, 0, 0, 0, 0, 0, 0, 0, 1, 1, 1, 1, 0, 0, 0, 0, 0, 0, 1, 0, 0, 0, 0, 0, 0, 1, 0, 0, 0, 0, 0, 0, 1, 0, 0, 0, 0, 1, 0, 0, 0, 0, 0, 0, 0, 0, 0, 0, 0, 0, 0, 0, 0, 0, 0, 0, 0, 0, 0, 0, 0, 0, 0, 0, 0, 0, 0, 0, 0, 0, 0, 0, 0, 0, 0, 0, 0, 0, 0, 0, 0, 0, 0, 0, 0, 0, 0, 0, 0, 0, 0, 0, 0, 0, 0, 0, 0, 0, 0, 0, 0, 0, 0, 0, 0, 0, 0, 0, 0, 0, 0, 0, 0, 0, 0, 0, 0, 0, 0, 1, 0, 0, 1, 0, 0, 0, 0, 0, 0, 0, 0, 0, 0, 0, 0, 0, 0, 0, 0, 0, 0, 0, 0, 0, 0, 0, 0, 0, 0] = xw_s13 ++ (xw_s14 ++ (xw_s15 ++ (xw_s16 ++ (xw_s17 ++ (xw_s18 ++ (xw_s19)))))) := rfl
set_option maxRecDepth 100000 in
theorem xw_t4 : xw_pick tables_1_4 [0, 0, 0, 0, 0, 0, 0, 0, 0, 1, 0, 0, 0, 0, 0, 0, 1, 0, 0, 0, 0, 0, 0, 0, 0, 1, 0, 0, 0, 0, 0, 0, 0, 0, 0, 0, 0, 0, 0, 0, 0, 0, 0, 0, 0, 0, 0, 0, 0, 0, 0, 0, 1, 0, 0, 0, 0, 0, 0, 0, 0, 0, 0, 0, 0, 0, 0, 0, 0, 0, 0, 0, 0, 0, 0, 0, 0, 0, 0, 0, 0, 0, 0, 0, 0, 0, 0, 0, 0, 0, 0, 0, 0, 0, 0, 0, 0, 0, 0, 0, 0, 0, 0, 0, 0, 0, 0, 0, 1, 0, 0, 0, 0, 0, 0, 0, 0, 0, 0, 0, 0, 0, 0, 0, 0, 0, 0, 0, 0, 0, 0, 0, 0, 0, 0, 0, 0, 0, 0, 0, 0, 0, 0, 0, 0, 1, 0, 0, 0, 0, 0, 0, 0, 1, 0, 0, 0, 0, 0, 0, 0, 0, 0, 0, 0, 0, 0, 0, 0, 0, 0, 0, 0, 0, 0, 0, 0, 0, 0, 0, 0, 0, 0, 0, 0, 0, 0, 1, 0, 0, 0, 0, 0, 0, 0, 0, 0, 0, 0, 0, 0, 0, 0, 0, 0, 0, 0, 0, 0, 1, 0, 0, 0, 0, 0, 0, 0, 0, 0, 0, 0, 0, 0, 0, 0, 1, 0, 0, 0, 0] = xw_s20 ++ (xw_s21 ++ (xw_s22 ++ (xw_s23 ++ (xw_s24 ++ (xw_s25 ++ (xw_s26 ++ (xw_s27))))))) := rfl
set_option maxRecDepth 100000 in
theorem xw_t5 : xw_pick tables_1_5 [0, 0, 0, 1, 0, 0, 0, 0, 0, 0, 0, 0, 0, 0, 0, 0, 0, 0, 0, 0, 0, 0, 0, 0, 0, 0, 0, 0, 0, 0, 0, 0, 0, 0, 0, 0, 0, 0, 0, 0, 0, 0, 0, 0, 0, 0, 0, 0, 0, 0, 0, 0, 0, 0, 0, 0, 0, 0, 0, 1, 0, 0, 0, 0, 0, 0, 0, 0, 0, 0, 0, 0, 0, 0, 0, 0, 0, 0, 0, 0, 0, 0, 0, 0, 0, 0, 0, 0, 0, 0, 0, 0, 1, 0, 0, 0, 0, 0, 0, 0, 0, 0, 0, 0, 0, 0, 0, 0, 0, 0, 1, 0, 0, 0, 1, 0, 0, 0, 0, 0, 0, 0, 1, 0, 0, 0, 0, 0, 0, 0, 0, 0, 0, 0, 0, 0, 0, 0, 0, 0, 0, 0, 0, 0, 1, 0, 0, 1, 0, 0, 0, 0, 0, 0, 0, 0, 0, 0, 0, 0, 0, 0, 0, 0, 0, 0, 0, 0, 0, 0, 0, 0, 0, 0, 0, 0, 0, 0, 0, 0, 0, 0, 0, 0, 0, 0, 0, 0, 0, 0, 0, 0, 0, 0, 2, 0, 0, 0, 0, 0, 0, 0, 0, 0, 0, 0, 0, 0, 0, 0, 0, 0, 0, 0, 0, 0, 0, 0, 0, 0, 0, 0, 0, 0, 0, 0, 0, 0, 0, 0] = xw_s28 ++ (xw_s29 ++ (xw_s30 ++ (xw_s31 ++ (xw_s32 ++ (xw_s33 ++ (xw_s34 ++ (xw_s35))))))) := rfl
set_option maxRecDepth 100000 in
theorem xw_t6 : xw_pick tables_1_6 [0, 0, 0, 0, 0, 0, 0, 0, 0, 0, 0, 0, 0, 0, 0, 0, 0, 0, 0, 0, 0, 0, 0, 0, 0, 0, 0, 0, 0, 0, 0, 0, 130, 0, 0, 0, 0, 0, 0, 0, 0, 0, 0, 0, 0, 0, 0, 0, 1, 0, 0, 0, 0, 0, 0, 0, 0, 0, 0, 0, 1, 0, 1, 1, 0, 0, 0, 0, 0, 0, 0, 1, 0, 0, 1, 0, 0, 1, 0, 1, 1, 0, 1, 1, 0, 1, 1, 0, 1, 1, 0, 2] = xw_s36 ++ (xw_s37 ++ (xw_s38)) := rfl
set_option maxRecDepth 100000 in
theorem xw_t7 : xw_pick tables_1_7 [0, 0, 0, 0, 0, 0, 0, 0, 0, 0, 0, 0, 0, 0, 0, 0, 0, 0, 0, 0, 0, 0, 0, 1, 0, 0, 0, 0, 0, 0, 0, 0, 0, 0, 1, 0, 0, 1, 0, 0, 1, 0, 0, 1, 0, 0, 0, 0, 0, 1, 0, 0, 0, 0, 0, 0, 1, 0, 0, 0, 1, 0, 0, 1, 0, 0, 1, 0, 0, 1, 0, 0, 1, 0, 0, 1, 0, 0, 0, 0, 0, 0, 0, 0, 0, 0, 1, 0, 0, 1, 0, 0, 1, 0, 0, 0, 0, 0, 0, 0, 0, 0, 0, 0, 0, 0, 0, 0, 0, 0, 0, 1, 0, 0, 0, 0, 0, 0, 0, 0, 0, 0, 1, 0, 0, 1, 0, 0, 1, 0, 0, 0, 1, 0, 0, 0, 0, 0, 0, 0, 0, 0, 0, 0, 0, 0, 0, 1, 0, 0, 0, 0, 0, 0, 0, 0, 0, 0, 1, 0, 0, 0, 0, 0, 0, 0, 0, 0, 0, 0, 1, 0, 0, 0, 0, 0, 0, 0, 0, 0, 0, 1, 0, 0, 1, 0, 0, 1, 0, 0, 0, 1, 0, 0, 0, 0, 0, 0, 0, 0, 0, 0, 0, 0, 0, 0, 0, 0, 0, 0, 0] = xw_s39 ++ (xw_s40 ++ (xw_s41 ++ (xw_s42 ++ (xw_s43 ++ (xw_s44 ++ (xw_s45)))))) := rfl
set_option maxRecDepth 100000 in
theorem xw_t8 : xw_pick tables_1_8 [0, 0, 0, 0, 0, 0, 0, 1, 0, 0, 0, 0, 0, 0, 0, 0, 0, 0, 1, 0, 0, 0, 0, 0, 0, 0, 0, 0, 0, 0, 0, 0, 0, 0, 0, 0, 0, 0, 0, 0, 0, 0] = xw_s46 ++ (xw_s47) := rfl
theorem xw_i0 : ∀ w, w ∈ xw_s0 ++ (xw_s1 ++ (xw_s2)) → w ∈ lw_tbl := fun w h => by
  have h1 := xw_pick_mem _ _ w (by rw [xw_t0]; exact h)
  exact List.mem_append_left _ h1
theorem xw_i1 : ∀ w, w ∈ xw_s3 ++ (xw_s4 ++ (xw_s5 ++ (xw_s6 ++ (xw_s7)))) → w ∈ lw_tbl := fun w h => by
  have h1 := xw_pick_mem _ _ w (by rw [xw_t1]; exact h)
  exact List.mem_append_right _ (List.mem_append_left _ h1)
theorem xw_i2 : ∀ w, w ∈ xw_s8 ++ (xw_s9 ++ (xw_s10 ++ (xw_s11 ++ (xw_s12)))) → w ∈ lw_tbl := fun w h => by
  have h1 := xw_pick_mem _ _ w (by rw [xw_t2]; exact h)
  exact List.mem_append_right _ (List.mem_append_right _ (List.mem_append_left _ h1))
theorem xw_i3 : ∀ w, w ∈ xw_s13 ++ (xw_s14 ++ (xw_s15 ++ (xw_s16 ++ (xw_s17 ++ (xw_s18 ++ (xw_s19)))))) → w ∈ lw_tbl := fun w h => by
  have h1 := xw_pick_mem _ _ w (by rw [xw_t3]; exact h)
  exact List.mem_append_right _ (List.mem_append_right _ (List.mem_append_right _ (List.mem_append_left _ h1)))
theorem xw_i4 : ∀ w, w ∈ xw_s20 ++ (xw_s21 ++ (xw_s22 ++ (xw_s23 ++ (xw_s24 ++ (xw_s25 ++ (xw_s26 ++ (xw_s27))))))) → w ∈ lw_tbl := fun w h => by
  have h1 := xw_pick_mem _ _ w (by rw [xw_t4]; exact h)
  exact List.mem_append_right _ (List.mem_append_right _ (List.mem_append_right _ (List.mem_append_right _ (List.mem_append_left _ h1))))
theorem xw_i5 : ∀ w, w ∈ xw_s28 ++ (xw_s29 ++ (xw_s30 ++ (xw_s31 ++ (xw_s32 ++ (xw_s33 ++ (xw_s34 ++ (xw_s35))))))) → w ∈ lw_tbl := fun w h => by
  have h1 := xw_pick_mem _ _ w (by rw [xw_t5]; exact h)
  exact List.mem_append_right _ (List.mem_append_right _ (List.mem_append_right _ (List.mem_append_right _ (List.mem_append_right _ (List.mem_append_left _ h1)))))
theorem xw_i6 : ∀ w, w ∈ xw_s36 ++ (xw_s37 ++ (xw_s38)) → w ∈ lw_tbl := fun w h => by
  have h1 := xw_pick_mem _ _ w (by rw [xw_t6]; exact h)
  exact List.mem_append_right _ (List.mem_append_right _ (List.mem_append_right _ (List.mem_append_right _ (List.mem_append_right _ (List.mem_append_right _ (List.mem_append_left _ h1))))))
theorem xw_i7 : ∀ w, w ∈ xw_s39 ++ (xw_s40 ++ (xw_s41 ++ (xw_s42 ++ (xw_s43 ++ (xw_s44 ++ (xw_s45)))))) → w ∈ lw_tbl := fun w h => by
  have h1 := xw_pick_mem _ _ w (by rw [xw_t7]; exact h)
  exact List.mem_append_right _ (List.mem_append_right _ (List.mem_append_right _ (List.mem_append_right _ (List.mem_append_right _ (List.mem_append_right _ (List.mem_append_right _ (List.mem_append_left _ h1)))))))
theorem xw_i8 : ∀ w, w ∈ xw_s46 ++ (xw_s47) → w ∈ lw_tbl := fun w h => by
  have h1 := xw_pick_mem _ _ w (by rw [xw_t8]; exact h)
  exact List.mem_append_right _ (List.mem_append_right _ (List.mem_append_right _ (List.mem_append_right _ (List.mem_append_right _ (List.mem_append_right _ (List.mem_append_right _ (List.mem_append_right _ (h1))))))))
def xw (p : Nat) : Option Cond := (xw_tab.getD (p / 32) [])[p % 32]?
theorem xw_sh : ∀ (i : Nat) (s : List Cond), xw_tab[i]? = some s → ∀ w, w ∈ s → w ∈ lw_tbl := by
  intro i s hs w h
  match i, hs with
  | 0, hs => cases hs; exact xw_i0 w (List.mem_append_left _ h)
  | 1, hs => cases hs; exact xw_i0 w (List.mem_append_right _ (List.mem_append_left _ h))
  | 2, hs => cases hs; exact xw_i0 w (List.mem_append_right _ (List.mem_append_right _ (h)))
  | 3, hs => cases hs; exact xw_i1 w (List.mem_append_left _ h)
  | 4, hs => cases hs; exact xw_i1 w (List.mem_append_right _ (List.mem_append_left _ h))
  | 5, hs => cases hs; exact xw_i1 w (List.mem_append_right _ (List.mem_append_right _ (List.mem_append_left _ h)))
  | 6, hs => cases hs; exact xw_i1 w (List.mem_append_right _ (List.mem_append_right _ (List.mem_append_right _ (List.mem_append_left _ h))))
  | 7, hs => cases hs; exact xw_i1 w (List.mem_append_right _ (List.mem_append_right _ (List.mem_append_right _ (List.mem_append_right _ (h)))))
  | 8, hs => cases hs; exact xw_i2 w (List.mem_append_left _ h)
  | 9, hs => cases hs; exact xw_i2 w (List.mem_append_right _ (List.mem_append_left _ h))
  | 10, hs => cases hs; exact xw_i2 w (List.mem_append_right _ (List.mem_append_right _ (List.mem_append_left _ h)))
  | 11, hs => cases hs; exact xw_i2 w (List.mem_append_right _ (List.mem_append_right _ (List.mem_append_right _ (List.mem_append_left _ h))))
  | 12, hs => cases hs; exact xw_i2 w (List.mem_append_right _ (List.mem_append_right _ (List.mem_append_right _ (List.mem_append_right _ (h)))))
  | 13, hs => cases hs; exact xw_i3 w (List.mem_append_left _ h)
  | 14, hs => cases hs; exact xw_i3 w (List.mem_append_right _ (List.mem_append_left _ h))
  | 15, hs => cases hs; exact xw_i3 w (List.mem_append_right _ (List.mem_append_right _ (List.mem_append_left _ h)))
  | 16, hs => cases hs; exact xw_i3 w (List.mem_append_right _ (List.mem_append_right _ (List.mem_append_right _ (List.mem_append_left _ h))))
  | 17, hs => cases hs; exact xw_i3 w (List.mem_append_right _ (List.mem_append_right _ (List.mem_append_right _ (List.mem_append_right _ (List.mem_append_left _ h)))))
  | 18, hs => cases hs; exact xw_i3 w (List.mem_append_right _ (List.mem_append_right _ (List.mem_append_right _ (List.mem_append_right _ (List.mem_append_right _ (List.mem_append_left _ h))))))
  | 19, hs => cases hs; exact xw_i3 w (List.mem_append_right _ (List.mem_append_right _ (List.mem_append_right _ (List.mem_append_right _ (List.mem_append_right _ (List.mem_append_right _ (h)))))))
  | 20, hs => cases hs; exact xw_i4 w (List.mem_append_left _ h)
  | 21, hs => cases hs; exact xw_i4 w (List.mem_append_right _ (List.mem_append_left _ h))
  | 22, hs => cases hs; exact xw_i4 w (List.mem_append_right _ (List.mem_append_right _ (List.mem_append_left _ h)))
  | 23, hs => cases hs; exact xw_i4 w (List.mem_append_right _ (List.mem_append_right _ (List.mem_append_right _ (List.mem_append_left _ h))))
  | 24, hs => cases hs; exact xw_i4 w (List.mem_append_right _ (List.mem_append_right _ (List.mem_append_right _ (List.mem_append_right _ (List.mem_append_left _ h)))))
  | 25, hs => cases hs; exact xw_i4 w (List.mem_append_right _ (List.mem_append_right _ (List.mem_append_right _ (List.mem_append_right _ (List.mem_append_right _ (List.mem_append_left _ h))))))
  | 26, hs => cases hs; exact xw_i4 w (List.mem_append_right _ (List.mem_append_right _ (List.mem_append_right _ (List.mem_append_right _ (List.mem_append_right _ (List.mem_append_right _ (List.mem_append_left _ h)))))))
  | 27, hs => cases hs; exact xw_i4 w (List.mem_append_right _ (List.mem_append_right _ (List.mem_append_right _ (List.mem_append_right _ (List.mem_append_right _ (List.mem_append_right _ (List.mem_append_right _ (h))))))))
  | 28, hs => cases hs; exact xw_i5 w (List.mem_append_left _ h)
  | 29, hs => cases hs; exact xw_i5 w (List.mem_append_right _ (List.mem_append_left _ h))
  | 30, hs => cases hs; exact xw_i5 w (List.mem_append_right _ (List.mem_append_right _ (List.mem_append_left _ h)))
  | 31, hs => cases hs; exact xw_i5 w (List.mem_append_right _ (List.mem_append_right _ (List.mem_append_right _ (List.mem_append_left _ h))))
  | 32, hs => cases hs; exact xw_i5 w (List.mem_append_right _ (List.mem_append_right _ (List.mem_append_right _ (List.mem_append_right _ (List.mem_append_left _ h)))))
  | 33, hs => cases hs; exact xw_i5 w (List.mem_append_right _ (List.mem_append_right _ (List.mem_append_right _ (List.mem_append_right _ (List.mem_append_right _ (List.mem_append_left _ h))))))
  | 34, hs => cases hs; exact xw_i5 w (List.mem_append_right _ (List.mem_append_right _ (List.mem_append_right _ (List.mem_append_right _ (List.mem_append_right _ (List.mem_append_right _ (List.mem_append_left _ h)))))))
  | 35, hs => cases hs; exact xw_i5 w (List.mem_append_right _ (List.mem_append_right _ (List.mem_append_right _ (List.mem_append_right _ (List.mem_append_right _ (List.mem_append_right _ (List.mem_append_right _ (h))))))))
  | 36, hs => cases hs; exact xw_i6 w (List.mem_append_left _ h)
  | 37, hs => cases hs; exact xw_i6 w (List.mem_append_right _ (List.mem_append_left _ h))
  | 38, hs => cases hs; exact xw_i6 w (List.mem_append_right _ (List.mem_append_right _ (h)))
  | 39, hs => cases hs; exact xw_i7 w (List.mem_append_left _ h)
  | 40, hs => cases hs; exact xw_i7 w (List.mem_append_right _ (List.mem_append_left _ h))
  | 41, hs => cases hs; exact xw_i7 w (List.mem_append_right _ (List.mem_append_right _ (List.mem_append_left _ h)))
  | 42, hs => cases hs; exact xw_i7 w (List.mem_append_right _ (List.mem_append_right _ (List.mem_append_right _ (List.mem_append_left _ h))))
  | 43, hs => cases hs; exact xw_i7 w (List.mem_append_right _ (List.mem_append_right _ (List.mem_append_right _ (List.mem_append_right _ (List.mem_append_left _ h)))))
  | 44, hs => cases hs; exact xw_i7 w (List.mem_append_right _ (List.mem_append_right _ (List.mem_append_right _ (List.mem_append_right _ (List.mem_append_right _ (List.mem_append_left _ h))))))
  | 45, hs => cases hs; exact xw_i7 w (List.mem_append_right _ (List.mem_append_right _ (List.mem_append_right _ (List.mem_append_right _ (List.mem_append_right _ (List.mem_append_right _ (h)))))))
  | 46, hs => cases hs; exact xw_i8 w (List.mem_append_left _ h)
  | 47, hs => cases hs; exact xw_i8 w (List.mem_append_right _ (h))
  | n + 48, hs => simp [xw_tab] at hs
theorem xw_mem {p : Nat} {w : Cond} (h : xw p = some w) : w ∈ lw_tbl := by
  unfold xw at h
  rw [List.getD_eq_getElem?_getD] at h
  cases h1 : xw_tab[p / 32]? with
  | none => rw [h1] at h; simp at h
  | some s =>
    rw [h1] at h
    exact xw_sh _ s h1 w (List.mem_of_getElem? h)
