/-! THE REAL WORLD for the small machine's memory: cells at addresses, and what is only read. -/
def xe_c (ad : Nat → Nat) (F : Value) : Value → Value
  | .ref k => .ref (ad k)
  | .retAddr _ => F
  | v => v
theorem xe_c_cat {ad : Nat → Nat} {F : Value} (hF : F.category = 1) (v : Value) : (xe_c ad F v).category = v.category := by
  cases v <;> first | rfl | exact hF
theorem xg_mem {w : Cond} {s : State} {args : Array Value} (hts : ∀ w ∈ xTT, w.before args s = true) (h : w ∈ lw_tbl) (hg : goodWord w = true) : w.before args s = true := hts w (xTT_of h hg)
def xe_vl (ad : Nat → Nat) (σ : xM) (k c j : Nat) : Value := match xe_kd c j with
  | 0 => .int (σ.1 k j)
  | 1 => .int (σ.1 k j)
  | 2 => .long (σ.2.1 k j)
  | 3 => .ref (ad (xe_rf k j))
  | 4 => .ref (ad (σ.2.2 j))
  | _ => .null
def xe_nf (c : Nat) : Nat := (xt_kd.getD c []).length
def xe_fs (ad : Nat → Nat) (σ : xM) (k c : Nat) : List Value := (List.range (xe_nf c)).map (xe_vl ad σ k c)
def xe_en (cA : Nat → ClassId) (ad : Nat → Nat) (σ : xM) (k : Nat) : va_E :=
  if xt_cls.getD k 999 = 100 then .inl (cA 0, xt_len.getD k 0, .inl (σ.1 k)) else
  if xt_cls.getD k 999 = 101 then .inl (cA 1, xt_len.getD k 0, .inr (.inl (σ.2.1 k))) else
  if xt_cls.getD k 999 = 102 then .inl (cA 2, xt_len.getD k 0, .inl (σ.1 k)) else
  if xt_cls.getD k 999 = 103 then .inl (cA 3, xt_len.getD k 0, .inl (σ.1 k)) else
  if xt_cls.getD k 999 = 104 then .inl (cA 4, xt_len.getD k 0, .inr (.inr (.inr (.inr (fun j => some (ad (xe_rf k j))))))) else
  .inr (xt_cls.getD k 999, xe_fs ad σ k (xt_cls.getD k 999))
def xws (cA : Nat → ClassId) (ad : Nat → Nat) (σ : xM) : va_W := (List.range 122).map fun k => (ad k, xe_en cA ad σ k)
abbrev xtys (cA : Nat → ClassId) : List (ClassId × FieldType) := [(cA 0, .int), (cA 1, .long), (cA 2, .byte), (cA 3, .boolean), (cA 4, .object "QuayRopes$Ship")]
theorem xws_get {cA : Nat → ClassId} {ad : Nat → Nat} {σ : xM} {k : Nat} (h : k < 122) : (xws cA ad σ)[k]? = some (ad k, xe_en cA ad σ k) := by
  simp [xws, h]
theorem xws_len {cA : Nat → ClassId} {ad : Nat → Nat} {σ : xM} : (xws cA ad σ).length = 122 := by simp [xws]
theorem xws_set {cA : Nat → ClassId} {ad : Nat → Nat} {σ σ' : xM} {k : Nat} {e : va_E} (hk : k < 122) (he : xe_en cA ad σ' k = e) (h : ∀ i, i < 122 → i ≠ k → xe_en cA ad σ' i = xe_en cA ad σ i) : (xws cA ad σ).set k (ad k, e) = xws cA ad σ' := by
  apply List.ext_getElem?
  intro i
  by_cases hi : i < 122
  · rw [xws_get hi]
    by_cases hik : i = k
    · subst hik
      rw [List.getElem?_set_self (by rw [xws_len]; exact hi), he]
    · rw [List.getElem?_set_ne (fun q => hik q.symm), xws_get hi, h i hi hik]
  · rw [List.getElem?_eq_none (by rw [List.length_set, xws_len]; omega), List.getElem?_eq_none (by rw [xws_len]; omega)]
theorem xe_en_congr {cA : Nat → ClassId} {ad : Nat → Nat} {σ σ' : xM} {i : Nat} (h1 : σ'.1 i = σ.1 i) (h2 : σ'.2.1 i = σ.2.1 i) (h3 : σ'.2.2 = σ.2.2) : xe_en cA ad σ' i = xe_en cA ad σ i := by
  have e : xe_vl ad σ' i (xt_cls.getD i 999) = xe_vl ad σ i (xt_cls.getD i 999) := by
    funext j
    unfold xe_vl
    rw [h1, h2, h3]
  unfold xe_en xe_fs
  rw [h1, h2, e]
theorem xe_si_ne {σ : xM} {k j i : Nat} {v : Int32} (h : i ≠ k) : (xe_si σ k j v).1 i = σ.1 i := by
  funext b; simp [xe_si, h]
theorem xe_sl_ne {σ : xM} {k j i : Nat} {v : Int64} (h : i ≠ k) : (xe_sl σ k j v).2.1 i = σ.2.1 i := by
  funext b; simp [xe_sl, h]
theorem xe_cp_ne {σ : xM} {k k2 sp dp n i : Nat} (h : i ≠ k2) : (xe_cp σ k k2 sp dp n).1 i = σ.1 i := by
  funext b; simp [xe_cp, h]
theorem xe_si_eq {σ : xM} {k j : Nat} {v : Int32} : (xe_si σ k j v).1 k = upd (σ.1 k) j v := by
  funext b; simp [xe_si, upd]
theorem xe_sl_eq {σ : xM} {k j : Nat} {v : Int64} : (xe_sl σ k j v).2.1 k = vp_updL (σ.2.1 k) j v := by
  funext b; simp [xe_sl, vp_updL]
theorem xe_cp_eq {σ : xM} {k k2 sp dp n : Nat} : (xe_cp σ k k2 sp dp n).1 k2 = va_cpy (σ.1 k) (σ.1 k2) sp dp n := by
  funext b; simp [xe_cp, va_cpy]
theorem xe_kd4 {c j : Nat} (h : xe_kd c j = 4) : c = 11 := by
  unfold xe_kd at h
  rw [List.getD_eq_getElem?_getD, List.getD_eq_getElem?_getD] at h
  have hall : ∀ i : Nat, i < xt_kd.length → i ≠ 11 → ∀ x ∈ (xt_kd[i]?).getD [], x ≠ 4 := by decide +kernel
  cases h1 : xt_kd[c]? with
  | none => rw [h1] at h; simp at h
  | some l =>
    by_cases hc : c = 11
    · exact hc
    · have h2 := hall c (List.getElem?_eq_some_iff.mp h1).1 hc
      rw [h1] at h h2
      simp only [Option.getD_some] at h h2
      cases h3 : l[j]? with
      | none => rw [h3] at h; simp at h
      | some x =>
        rw [h3] at h
        simp only [Option.getD_some] at h
        exact absurd h (h2 x (List.mem_of_getElem? h3))
theorem xe_cls11 : ∀ k, k < 122 → xt_cls.getD k 999 = 11 → k = 0 := by decide +kernel
theorem xe_en_sp {cA : Nat → ClassId} {ad : Nat → Nat} {σ : xM} {j t i : Nat} (hi : i < 122) (h0 : i ≠ 0) : xe_en cA ad (xe_sp σ j t) i = xe_en cA ad σ i := by
  have e : xe_vl ad (xe_sp σ j t) i (xt_cls.getD i 999) = xe_vl ad σ i (xt_cls.getD i 999) := by
    funext b
    have hk : xe_kd (xt_cls.getD i 999) b ≠ 4 := fun q => h0 (xe_cls11 i hi (xe_kd4 q))
    unfold xe_vl
    split <;> first | rfl | (rename_i q; exact absurd q hk)
  unfold xe_en xe_fs
  rw [e]
  rfl
theorem xe_cls_lt {k a : Nat} (h : xe_cls k = a) (ha : a < 110) (h50 : a ≠ 50) : k < 122 ∧ xt_cls.getD k 999 = a := by
  unfold xe_cls at h
  split at h
  · exact ⟨by assumption, h⟩
  · split at h
    · omega
    · split at h
      · omega
      · split at h
        · omega
        · split at h <;> omega
theorem xe_cls_50 {k : Nat} (h : xe_cls k = 50) : 1100 ≤ k ∧ k < 1114 := by
  unfold xe_cls at h
  have hall : ∀ k, k < 122 → xt_cls.getD k 999 ≠ 50 := by decide +kernel
  split at h
  · rename_i q; exact absurd h (hall k q)
  · split at h
    · omega
    · split at h
      · omega
      · split at h
        · rename_i q; exact q
        · split at h <;> omega
theorem xe_cls_112 {k : Nat} (h : xe_cls k = 112) : 1200 ≤ k ∧ k < 1214 := by
  unfold xe_cls at h
  have hall : ∀ k, k < 122 → xt_cls.getD k 999 ≠ 112 := by decide +kernel
  split at h
  · rename_i q; exact absurd h (hall k q)
  · split at h
    · omega
    · split at h
      · omega
      · split at h
        · omega
        · split at h
          · rename_i q; exact q
          · omega
theorem xe_cls_110 {k : Nat} (h : xe_cls k = 110) : k = 1010 ∨ (1020 ≤ k ∧ k < 1026) := by
  unfold xe_cls at h
  have hall : ∀ k, k < 122 → xt_cls.getD k 999 ≠ 110 := by decide +kernel
  split at h
  · rename_i q; exact absurd h (hall k q)
  · split at h
    · exact Or.inl (by assumption)
    · split at h
      · rename_i q; exact Or.inr q
      · split at h
        · omega
        · split at h <;> omega
theorem xe_en_obj {cA : Nat → ClassId} {ad : Nat → Nat} {σ : xM} {k a : Nat} (h : xt_cls.getD k 999 = a) (ha : a < 50) : xe_en cA ad σ k = .inr (a, xe_fs ad σ k a) := by
  unfold xe_en
  rw [h, if_neg (by omega), if_neg (by omega), if_neg (by omega), if_neg (by omega), if_neg (by omega)]
theorem xe_en_i {cA : Nat → ClassId} {ad : Nat → Nat} {σ : xM} {k : Nat} (h : xt_cls.getD k 999 = 100) : xe_en cA ad σ k = .inl (cA 0, xt_len.getD k 0, .inl (σ.1 k)) := by
  unfold xe_en; rw [h, if_pos rfl]
theorem xe_en_l {cA : Nat → ClassId} {ad : Nat → Nat} {σ : xM} {k : Nat} (h : xt_cls.getD k 999 = 101) : xe_en cA ad σ k = .inl (cA 1, xt_len.getD k 0, .inr (.inl (σ.2.1 k))) := by
  unfold xe_en; rw [h, if_neg (by decide), if_pos rfl]
theorem xe_en_b {cA : Nat → ClassId} {ad : Nat → Nat} {σ : xM} {k : Nat} (h : xt_cls.getD k 999 = 102) : xe_en cA ad σ k = .inl (cA 2, xt_len.getD k 0, .inl (σ.1 k)) := by
  unfold xe_en; rw [h, if_neg (by decide), if_neg (by decide), if_pos rfl]
theorem xe_en_z {cA : Nat → ClassId} {ad : Nat → Nat} {σ : xM} {k : Nat} (h : xt_cls.getD k 999 = 103) : xe_en cA ad σ k = .inl (cA 3, xt_len.getD k 0, .inl (σ.1 k)) := by
  unfold xe_en; rw [h, if_neg (by decide), if_neg (by decide), if_neg (by decide), if_pos rfl]
theorem xe_en_q {cA : Nat → ClassId} {ad : Nat → Nat} {σ : xM} {k : Nat} (h : xt_cls.getD k 999 = 104) : xe_en cA ad σ k = .inl (cA 4, xt_len.getD k 0, .inr (.inr (.inr (.inr (fun j => some (ad (xe_rf k j))))))) := by
  unfold xe_en; rw [h, if_neg (by decide), if_neg (by decide), if_neg (by decide), if_neg (by decide), if_pos rfl]
theorem xe_fs_len {ad : Nat → Nat} {σ : xM} {k c : Nat} : (xe_fs ad σ k c).length = xe_nf c := by simp [xe_fs]
theorem xe_fs_get {ad : Nat → Nat} {σ : xM} {k c j : Nat} (h : j < xe_nf c) : (xe_fs ad σ k c)[j]? = some (xe_vl ad σ k c j) := by simp [xe_fs, h]
theorem xe_fs_set {ad : Nat → Nat} {σ σ' : xM} {k c j : Nat} {v : Value} (hj : j < xe_nf c) (hv : xe_vl ad σ' k c j = v) (h : ∀ i, i < xe_nf c → i ≠ j → xe_vl ad σ' k c i = xe_vl ad σ k c i) : (xe_fs ad σ k c).set j v = xe_fs ad σ' k c := by
  apply List.ext_getElem?
  intro i
  by_cases hi : i < xe_nf c
  · rw [xe_fs_get hi]
    by_cases hij : i = j
    · subst hij
      rw [List.getElem?_set_self (by rw [xe_fs_len]; exact hi), hv]
    · rw [List.getElem?_set_ne (fun q => hij q.symm), xe_fs_get hi, h i hi hij]
  · rw [List.getElem?_eq_none (by rw [List.length_set, xe_fs_len]; omega), List.getElem?_eq_none (by rw [xe_fs_len]; omega)]
theorem xe_kd_lt {c j : Nat} (h : xe_kd c j ≠ 9) : j < xe_nf c := by
  unfold xe_kd at h
  unfold xe_nf
  rcases Nat.lt_or_ge j (xt_kd.getD c []).length with q | q
  · exact q
  · rw [List.getD_eq_getElem?_getD (l := xt_kd.getD c []), List.getElem?_eq_none q] at h; exact absurd rfl h
/-- what is read and never written: the script, the tables, the String constants, the statics, the nest's words -/
def xe_NW (w : Cond) : Bool := match w with
  | .fieldLinkNest _ _ _ _ _ _ => true
  | .methodLinkNest _ _ _ _ => true
  | _ => false
/-- the String constants: two of them may be one object -/
def xe_vS (len : List Nat) (byt : List (List Int32)) (adK adV : Nat → Nat) (A : Nat → Prop) (U : State) (H : Heap) : Prop :=
  (∀ i : Nat, i < 14 → va_O "java/lang/String" (adK i) A U H ∧ va_OF "java/lang/String" "coder" "B" (.int 0) (adK i) A U H ∧ va_OF "java/lang/String" "value" "[B" (.ref (adV i)) (adK i) A U H ∧ va_T .byte (adV i) (len.getD i 0) (fun j => .int ((byt.getD i []).getD j 0)) A U H) ∧ True
theorem xe_vS.moved {len : List Nat} {byt : List (List Int32)} {adK adV : Nat → Nat} {A : Nat → Prop} {u U : State} {H : Heap} (hvm : u.vm.Alike U.vm) (h : xe_vS len byt adK adV A u H) : xe_vS len byt adK adV A U H :=
  ⟨fun i hi => ⟨va_O.moved hvm (h.1 i hi).1, va_OF.moved hvm (h.1 i hi).2.1, va_OF.moved hvm (h.1 i hi).2.2.1, va_T.moved hvm (h.1 i hi).2.2.2⟩, trivial⟩
theorem xe_vS.kept {len : List Nat} {byt : List (List Int32)} {adK adV : Nat → Nat} {A : Nat → Prop} {U : State} {H H1 : Heap} (h : xe_vS len byt adK adV A U H) (hq : ∀ a : Nat, a < H.size → ¬ A a → H1[a]? = H[a]?) : xe_vS len byt adK adV A U H1 :=
  ⟨fun i hi => ⟨(h.1 i hi).1.kept hq, (h.1 i hi).2.1.kept hq, (h.1 i hi).2.2.1.kept hq, (h.1 i hi).2.2.2.kept hq⟩, trivial⟩
theorem xe_vS.narrow {len : List Nat} {byt : List (List Int32)} {adK adV : Nat → Nat} {A B : Nat → Prop} {U : State} {H : Heap} (h : xe_vS len byt adK adV A U H) (hAB : ∀ q, B q → A q) : xe_vS len byt adK adV B U H :=
  ⟨fun i hi => ⟨(h.1 i hi).1.narrow hAB, (h.1 i hi).2.1.narrow hAB, (h.1 i hi).2.2.1.narrow hAB, (h.1 i hi).2.2.2.narrow hAB⟩, trivial⟩
def xe_RO (ad : Nat → Nat) (F : Value) (xs : Nat → Int32) (L : Nat) (A : Nat → Prop) (U : State) (H : Heap) : Prop :=
  L < 2 ^ 31 ∧ va_T .int (ad 1010) L (fun j => .int (xs j)) A U H ∧
  (∀ i, i < 6 → va_T .int (ad (1020 + i)) (xt_ro.getD i []).length (fun j => .int ((xt_ro.getD i []).getD j 0)) A U H) ∧
  xe_vS (xt_str.map List.length) xt_str (fun i => ad (1100 + i)) (fun i => ad (1200 + i)) A U H ∧
  (∀ (i : Nat) (q : String × Nat × String), xt_so[i]? = some q → vk_R q.1 q.2.1 q.2.2 (ad (1100 + i)) U) ∧
  (∀ (i : Nat) (q : String × String × String), xt_sn[i]? = some q → va_Z q.1 q.2.1 q.2.2 (xe_c ad F (xt_sv.getD i (.double 0))) A U H) ∧
  (∀ w ∈ lw_tbl, xe_NW w = true → va_Nw w U)
theorem xe_RO.warm {ad : Nat → Nat} {F : Value} {xs : Nat → Int32} {L : Nat} {A : Nat → Prop} {s U : State} {H : Heap} (hW : s.WarmedH U.vm) (h : xe_RO ad F xs L A s H) : xe_RO ad F xs L A U H := by
  obtain ⟨h1, h2, h3, h4, h5, h6, h7⟩ := h
  have hv : s.vm.Alike U.vm := hW.alike
  refine ⟨h1, h2.moved hv, fun i hi => (h3 i hi).moved hv, h4.moved hv, fun i q hq => (h5 i q hq).warm hW, fun i q hq => (h6 i q hq).moved hv, fun w hw hn => ?_⟩
  have h8 := h7 w hw hn
  cases w <;> simp only [xe_NW, Bool.false_eq_true] at hn
  · exact h8.warmM hW
  · exact h8.warmF hW
theorem xe_RO.kept {ad : Nat → Nat} {F : Value} {xs : Nat → Int32} {L : Nat} {A : Nat → Prop} {U : State} {H H1 : Heap} (hq : ∀ a : Nat, a < H.size → ¬ A a → H1[a]? = H[a]?) (h : xe_RO ad F xs L A U H) : xe_RO ad F xs L A U H1 := by
  obtain ⟨h1, h2, h3, h4, h5, h6, h7⟩ := h
  exact ⟨h1, h2.kept hq, fun i hi => (h3 i hi).kept hq, h4.kept hq, h5, fun i q h => (h6 i q h).kept hq, h7⟩
theorem xe_RO.narrow {ad : Nat → Nat} {F : Value} {xs : Nat → Int32} {L : Nat} {A B : Nat → Prop} {U : State} {H : Heap} (hAB : ∀ q, B q → A q) (h : xe_RO ad F xs L A U H) : xe_RO ad F xs L B U H := by
  obtain ⟨h1, h2, h3, h4, h5, h6, h7⟩ := h
  exact ⟨h1, h2.narrow hAB, fun i hi => (h3 i hi).narrow hAB, h4.narrow hAB, h5, fun i q h => (h6 i q h).narrow hAB, h7⟩
/-- the locals -/
def xe_LR (ad : Nat → Nat) (F : Value) (lsA : Array Slot) (ls : xL) (n : Nat) : Prop := ls.length = n ∧ lsA.size = n ∧ lv_wf lsA ∧ ∀ (i : Nat) (v : Value), ls[i]? = some (some v) → lsA[i]? = some (.val (xe_c ad F v))
def xe_lv (ad : Nat → Nat) (F : Value) (ls : xL) : List (Nat × Value) := (List.range ls.length).filterMap fun i => match ls[i]? with
  | some (some v) => some (i, xe_c ad F v)
  | _ => none
theorem xe_lv_mem {ad : Nat → Nat} {F : Value} {ls : xL} {i : Nat} {w : Value} : (i, w) ∈ xe_lv ad F ls ↔ ∃ v, ls[i]? = some (some v) ∧ w = xe_c ad F v := by
  unfold xe_lv
  rw [List.mem_filterMap]
  constructor
  · rintro ⟨j, hj, h⟩
    cases h1 : ls[j]? with
    | none => rw [h1] at h; simp at h
    | some o =>
      cases o with
      | none => rw [h1] at h; simp at h
      | some v => rw [h1] at h; simp at h; obtain ⟨rfl, rfl⟩ := h; exact ⟨v, h1, rfl⟩
  · rintro ⟨v, h1, rfl⟩
    exact ⟨i, List.mem_range.mpr (List.getElem?_eq_some_iff.mp h1).1, by rw [h1]⟩
theorem xe_LR.has {ad : Nat → Nat} {F : Value} {lsA : Array Slot} {ls : xL} {n : Nat} (h : xe_LR ad F lsA ls n) : lv_has lsA n (xe_lv ad F ls) := by
  obtain ⟨h1, h2, h3, h4⟩ := h
  refine ⟨h2, h3, fun q hq => ?_⟩
  obtain ⟨i, w⟩ := q
  obtain ⟨v, hv, rfl⟩ := xe_lv_mem.mp hq
  exact h4 i v hv
theorem xe_md_get : ∀ (ls : xL) (j t : Nat), (xe_md ls j)[t]? = if t = j then (ls[t]?).map xe_cl else ls[t]?
  | [], j, t => by simp [xe_md]
  | a :: l, 0, 0 => by simp [xe_md]
  | a :: l, 0, t + 1 => by simp [xe_md]
  | a :: l, j + 1, 0 => by simp [xe_md]
  | a :: l, j + 1, t + 1 => by simp [xe_md, xe_md_get l j t]
theorem xe_md_len : ∀ (ls : xL) (j : Nat), (xe_md ls j).length = ls.length
  | [], j => by simp [xe_md]
  | a :: l, 0 => by simp [xe_md]
  | a :: l, j + 1 => by simp [xe_md, xe_md_len l j]
theorem xe_pv_len (ls : xL) (i : Nat) : (xe_pv ls i).length = ls.length := by
  cases i <;> simp [xe_pv, xe_md_len]
theorem xe_cl_some {o : Option Value} {v : Value} (h : xe_cl o = some v) : o = some v ∧ v.category = 1 := by
  cases o with
  | none => simp [xe_cl] at h
  | some w => cases w <;> simp [xe_cl] at h <;> (subst h; exact ⟨rfl, rfl⟩)
theorem xe_pv_get {ls : xL} {i t : Nat} {v : Value} (h : (xe_pv ls i)[t]? = some (some v)) : ls[t]? = some (some v) ∧ (t + 1 = i → v.category = 1) := by
  cases i with
  | zero => exact ⟨h, fun q => by omega⟩
  | succ j =>
    simp only [xe_pv, xe_md_get] at h
    by_cases htj : t = j
    · rw [if_pos htj] at h
      cases h1 : ls[t]? with
      | none => rw [h1] at h; simp at h
      | some o =>
        rw [h1] at h
        simp only [Option.map_some, Option.some.injEq] at h
        obtain ⟨rfl, hc⟩ := xe_cl_some h
        exact ⟨rfl, fun _ => hc⟩
    · rw [if_neg htj] at h
      exact ⟨h, fun q => by omega⟩
theorem xe_LR.st1 {ad : Nat → Nat} {F : Value} {lsA lsB : Array Slot} {ls ls' : xL} {n i : Nat} {v : Value} (hF : F.category = 1) (h : xe_LR ad F lsA ls n) (hs : xe_st1 ls i v = some ls') (hB : lv_has lsB n ((i, xe_c ad F v) :: (xe_lv ad F ls).filter (fun q => !(q.1 == i) && !(q.1 + 1 == i && q.2.category == 2)))) : xe_LR ad F lsB ls' n := by
  unfold xe_st1 at hs
  split at hs
  · rename_i hi
    cases hs
    refine ⟨by rw [List.length_set, xe_pv_len]; exact h.1, hB.1, hB.2.1, fun t w hw => ?_⟩
    by_cases hti : t = i
    · subst hti
      rw [List.getElem?_set_self (by rw [xe_pv_len]; exact hi)] at hw
      cases hw
      exact hB.2.2 (t, xe_c ad F v) List.mem_cons_self
    · rw [List.getElem?_set_ne (fun q => hti q.symm)] at hw
      obtain ⟨h1, h2⟩ := xe_pv_get hw
      refine hB.2.2 (t, xe_c ad F w) (List.mem_cons_of_mem _ (List.mem_filter.mpr ⟨xe_lv_mem.mpr ⟨w, h1, rfl⟩, ?_⟩))
      simp only [Bool.and_eq_true, Bool.not_eq_true', beq_eq_false_iff_ne, ne_eq, hti, not_false_eq_true, true_and]
      by_cases ht : t + 1 = i
      · simp [xe_c_cat hF, h2 ht]
      · simp [ht]
  · cases hs
theorem xe_LR.st2 {ad : Nat → Nat} {F : Value} {lsA lsB : Array Slot} {ls ls' : xL} {n i : Nat} {v : Value} (hF : F.category = 1) (h : xe_LR ad F lsA ls n) (hs : xe_st2 ls i v = some ls') (hB : lv_has lsB n ((i, xe_c ad F v) :: (xe_lv ad F ls).filter (fun q => !(q.1 == i) && (!(q.1 == i + 1) && !(q.1 + 1 == i && q.2.category == 2))))) : xe_LR ad F lsB ls' n := by
  unfold xe_st2 at hs
  split at hs
  · rename_i hi
    cases hs
    refine ⟨by rw [List.length_set, List.length_set, xe_pv_len]; exact h.1, hB.1, hB.2.1, fun t w hw => ?_⟩
    by_cases ht2 : t = i + 1
    · subst ht2
      rw [List.getElem?_set_self (by rw [List.length_set, xe_pv_len]; exact hi)] at hw
      cases hw
    · rw [List.getElem?_set_ne (fun q => ht2 q.symm)] at hw
      by_cases hti : t = i
      · subst hti
        rw [List.getElem?_set_self (by rw [xe_pv_len]; omega)] at hw
        cases hw
        exact hB.2.2 (t, xe_c ad F v) List.mem_cons_self
      · rw [List.getElem?_set_ne (fun q => hti q.symm)] at hw
        obtain ⟨h1, h2⟩ := xe_pv_get hw
        refine hB.2.2 (t, xe_c ad F w) (List.mem_cons_of_mem _ (List.mem_filter.mpr ⟨xe_lv_mem.mpr ⟨w, h1, rfl⟩, ?_⟩))
        simp only [Bool.and_eq_true, Bool.not_eq_true', beq_eq_false_iff_ne, ne_eq, hti, ht2, not_false_eq_true, true_and]
        by_cases ht : t + 1 = i
        · simp [xe_c_cat hF, h2 ht]
        · simp [ht]
  · cases hs
theorem xe_LR.lo {ad : Nat → Nat} {F : Value} {lsA : Array Slot} {ls : xL} {n i : Nat} {v : Value} (h : xe_LR ad F lsA ls n) (hv : xe_lo ls i = v) (hne : v ≠ .double 0) : lsA[i]? = some (.val (xe_c ad F v)) := by
  unfold xe_lo at hv
  split at hv
  · rename_i w hw
    subst hv
    exact h.2.2.2 i w hw
  · exact absurd hv.symm hne
theorem xe_st1_lt {ls ls' : xL} {i : Nat} {v : Value} (h : xe_st1 ls i v = some ls') : i < ls.length := by
  unfold xe_st1 at h
  split at h
  · assumption
  · cases h
theorem xe_st2_lt {ls ls' : xL} {i : Nat} {v : Value} (h : xe_st2 ls i v = some ls') : i + 1 < ls.length := by
  unfold xe_st2 at h
  split at h
  · assumption
  · cases h
theorem xe_in {i : Int32} {n : Nat} (h0 : 0 ≤ i) (h : i.toNatClampNeg < n) : vp_in i n := fun q => q.elim (fun h1 => absurd h1 (Int32.not_lt.mpr h0)) (fun h1 => by omega)
/-- the world at a point of a method -/
def xe_WH (cA : Nat → ClassId) (ad : Nat → Nat) (D : va_G) (xs : Nat → Int32) (L : Nat) (A : Nat → Prop) (H0 : Heap) (σ : xM) (H : Heap) (locs : List Loc) : Prop :=
  va_P D xCls (xws cA ad σ) H ∧ va_D A (xws cA ad σ) ∧ va_S A H0 H locs ∧ σ.1 1010 = xs ∧ σ.1 1011 0 = Int32.ofNat L
/-- the machine at a point of method y -/
def xe_X (p : Program) (R : Room) (s : State) (m : MethodId) (args : Array Value) (c : Code) (cells slots : Nat) (y : Nat) (cA : Nat → ClassId) (ad : Nat → Nat) (F : Value) (D : va_G) (xs : Nat → Int32) (L : Nat) (A : Nat → Prop) : Prop :=
  p.tables.exec = Jvm.exec ∧ c.code = xm_b y ∧ c.maxLocals = xm_l y ∧ s.vm.findClass (xown (xm_o y)) = some m.cls ∧ (∀ w ∈ xTT, w.before args s = true) ∧ va_K D xCls (xtys cA) s ∧ xe_RO ad F xs L A s s.heap ∧ F.category = 1 ∧ (xm_f y ≤ R.frames ∧ xm_k y ≤ R.locals ∧ cells ≤ R.cells ∧ slots ≤ R.slots) ∧ (∀ k, k < 122 → A (ad k)) ∧ (∀ i j, i < 122 → j < 122 → ad i = ad j → i = j)
