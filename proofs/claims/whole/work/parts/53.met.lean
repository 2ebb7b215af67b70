/-! calls: the pure course -/
def rowIs (τ : xM) (k n : Nat) (f : Nat → Nat) : Prop := ∀ i, i < n → τ.1 k i = nI (f i)
def upN (f : Nat → Nat) (j v : Nat) : Nat → Nat := fun i => if i = j then v else f i
theorem rowIs.si {τ : xM} {k n j v : Nat} {f : Nat → Nat} (h : rowIs τ k n f) : rowIs (xe_si τ k j (nI v)) k n (upN f j v) := by
  intro i hi
  rw [si_rd]
  unfold upN
  by_cases q : i = j
  · rw [if_pos ⟨rfl, q⟩, if_pos q]
  · rw [if_neg (fun w => q w.2), if_neg q]; exact h i hi
theorem rowIs.ne {τ : xM} {k c n j : Nat} {v : Int32} {f : Nat → Nat} (h : rowIs τ k n f) (hc : k ≠ c) : rowIs (xe_si τ c j v) k n f := by
  intro i hi
  rw [si_ne hc]; exact h i hi
theorem rowIs.only {τ τ' : xM} {k c n : Nat} {f : Nat → Nat} (h : rowIs τ k n f) (hs : only c τ τ') (hc : k ≠ c) : rowIs τ' k n f := by
  intro i hi
  rw [hs.1 k hc]; exact h i hi
/-- one number sinks to its place -/
def sft (f : Nat → Nat) (v : Nat) : Nat → (Nat → Nat)
  | 0 => upN f 0 v
  | t + 1 => if v < f t then sft (upN f (t + 1) (f t)) v t else upN f (t + 1) v
def srtF (f : Nat → Nat) : Nat → Nat → (Nat → Nat)
  | 0, _ => f
  | m + 1, t => srtF (sft f (f t) t) m (t + 1)
def fil (f : Nat → Nat) (n v : Nat) : Nat → Nat := fun i => if i < n then v else f i
theorem upN_bd {f : Nat → Nat} {j v B : Nat} (h : ∀ i, f i ≤ B) (hv : v ≤ B) : ∀ i, upN f j v i ≤ B := by
  intro i; unfold upN; split
  · exact hv
  · exact h i
theorem sft_bd {v B : Nat} (hv : v ≤ B) : ∀ t f, (∀ i, f i ≤ B) → ∀ i, sft f v t i ≤ B := by
  intro t
  induction t with
  | zero => intro f h; exact upN_bd h hv
  | succ t ih =>
    intro f h
    unfold sft
    split
    · exact ih _ (upN_bd h (h t))
    · exact upN_bd h hv
theorem srtF_bd {B : Nat} : ∀ m t f, (∀ i, f i ≤ B) → ∀ i, srtF f m t i ≤ B := by
  intro m
  induction m with
  | zero => intro t f h; exact h
  | succ m ih => intro t f h; exact ih _ _ (sft_bd (h t) t f h)
theorem fil_bd {f : Nat → Nat} {n v B : Nat} (h : ∀ i, f i ≤ B) (hv : v ≤ B) : ∀ i, fil f n v i ≤ B := by
  intro i; unfold fil; split
  · exact hv
  · exact h i
/-! the tugs -/
theorem Xsink {v0 v1 v2 v3 l0 : Option Value} {v t : Nat} {Q : xM → Prop} (hv : v < 100000) (ht : t < 6) : ∀ to, to ≤ t → ∀ (τ : xM) (f : Nat → Nat), (∀ i, f i < 100000) → rowIs τ 58 6 f → (∀ τ' l6, only 58 τ τ' → rowIs τ' 58 6 (sft f v to) → xC 32 107 [some (.ref 51), v1, v2, v3, some (.int (nI t)), some (.int (nI v)), l6] [] τ' (xqV Q)) → xC 32 49 [some (.ref 51), v1, v2, v3, some (.int (nI t)), some (.int (nI v)), some (.int (nI to))] [] τ (xqV Q) := by
  intro to
  induction to with
  | zero =>
    intro hto τ f hf hr hQ
    have e : (nI 0 ≤ 0) = True := eq_true (by decide)
    have hx : ∀ x, xpt τ 58 (nI 0) x = xe_si τ 58 0 x := fun x => xpt_n (by rw [xln_58]; omega)
    rw [s32_49]
    simp only [s32_51, s32_96, s32_97, s32_100, s32_102, s32_104, xcx_i, xcx_r, xcx_n, xcx_l, xcx_0, e, if_true, put_eq, xcl_58, hx]
    exact hQ _ _ (only.rf _ _).si hr.si
  | succ to ih =>
    intro hto τ f hf hr hQ
    have e : (nI (to + 1) ≤ 0) = False := eq_false (fun q => by have := (nI_leI (a := to + 1) (b := 0) (by omega) (by decide)).mp q; omega)
    have hx : ∀ x, xpt τ 58 (nI (to + 1)) x = xe_si τ 58 (to + 1) x := fun x => xpt_n (by rw [xln_58]; omega)
    have ha : xat τ 58 (nI to) = nI (f to) := by rw [xat_n (by rw [xln_58]; omega)]; exact hr to (by omega)
    have hft := hf to
    have e2 : (nI (f to) ≤ nI v) = ¬ (v < f to) := by rw [nI_leL (by omega) (by omega)]; exact propext ⟨fun q => by omega, fun q => by omega⟩
    unfold sft at hQ
    rw [s32_49]
    by_cases c : v < f to
    · rw [if_pos c] at hQ
      simp only [s32_51, s32_54, s32_55, s32_58, s32_60, s32_61, s32_62, s32_65, s32_67, s32_70, s32_71, s32_74, s32_76, s32_77, s32_80, s32_82, s32_83, s32_84, s32_87, s32_90, s32_93, xcx_i, xcx_r, xcx_n, xcx_l, xcx_0, e, if_false, at_eq, put_eq, xcl_58, nI_pred, ha, e2, c, not_true, hx, pk_m1]
      refine ih (by omega) _ _ (fun i => ?_) hr.si (fun τ' l6 hs hr' => hQ τ' l6 ((only.rf _ _).si.tr hs) hr')
      unfold upN; split
      · exact hft
      · exact hf i
    · rw [if_neg c] at hQ
      simp only [s32_51, s32_54, s32_55, s32_58, s32_60, s32_61, s32_62, s32_65, s32_67, s32_70, s32_71, s32_74, s32_76, s32_77, s32_80, s32_82, s32_83, s32_84, s32_87, s32_90, s32_93, s32_96, s32_97, s32_100, s32_102, s32_104, xcx_i, xcx_r, xcx_n, xcx_l, xcx_0, e, if_false, at_eq, put_eq, xcl_58, nI_pred, ha, e2, c, not_false_eq_true, if_true, hx]
      exact hQ _ _ (only.rf _ _).si hr.si
theorem XtakeTugs {τ : xM} {f : Nat → Nat} {wn v nt : Nat} {Q : xM → Prop} (hv : v < 100000) (hf : ∀ i, f i < 100000) (hw : wn ≤ 6) (hnt : nt ≤ 6) (hr : rowIs τ 58 6 f) (hQ : ∀ τ', only 58 τ τ' → rowIs τ' 58 6 (srtF (fil f wn v) (nt - 1) 1) → Q τ') : xV 32 [.ref 51, .int (nI wn), .int (nI v), .int (nI nt)] τ Q := by
  have loop2 : ∀ m t, (t + m = nt ∨ (m = 0 ∧ nt ≤ t)) → t ≤ 6 → ∀ (τ1 : xM) (g : Nat → Nat) (l5 l6 : Option Value), only 58 τ τ1 → (∀ i, g i < 100000) → rowIs τ1 58 6 g → (∀ τ', only 58 τ τ' → rowIs τ' 58 6 (srtF g m t) → Q τ') → xC 32 28 [some (.ref 51), some (.int (nI wn)), some (.int (nI v)), some (.int (nI nt)), some (.int (nI t)), l5, l6] [] τ1 (xqV Q) := by
    intro m
    induction m with
    | zero =>
      intro t ht ht6 τ1 g l5 l6 hs hg hr1 hQ
      have e : (nI nt ≤ nI t) = True := eq_true ((nI_leI (by omega) (by omega)).mpr (by omega))
      rw [s32_28]
      simp only [s32_30, s32_31, s32_113, xcx_i, xcx_r, xcx_n, xcx_l, xcx_0, e, if_true]
      exact hQ τ1 hs hr1
    | succ m ih =>
      intro t ht ht6 τ1 g l5 l6 hs hg hr1 hQ
      have e : (nI nt ≤ nI t) = False := eq_false (fun q => by have := (nI_leI (a := nt) (b := t) (by omega) (by omega)).mp q; omega)
      have ha : xat τ1 58 (nI t) = nI (g t) := by rw [xat_n (by rw [xln_58]; omega)]; exact hr1 t (by omega)
      rw [s32_28]
      simp only [s32_30, s32_31, s32_34, s32_35, s32_38, s32_40, s32_43, s32_45, s32_47, xcx_i, xcx_r, xcx_n, xcx_l, xcx_0, e, if_false, at_eq, xcl_58, ha]
      refine Xsink (v0 := none) (l0 := none) (hg t) (by omega) t (Nat.le_refl _) τ1 g hg hr1 (fun τ' l6' hs' hr' => ?_)
      simp only [s32_107, s32_110, xcx_i, xcx_r, xcx_n, xcx_l, xcx_0, nI_1]
      refine ih (t + 1) (by omega) (by omega) τ' _ _ _ (hs.tr hs') (fun i => ?_) hr' hQ
      have := sft_bd (B := 99999) (show g t ≤ 99999 by have := hg t; omega) t g (fun i => by have := hg i; omega) i
      omega
  have loop1 : ∀ m i, i + m = wn → ∀ τ1, only 58 τ τ1 → rowIs τ1 58 6 (fil f i v) → xC 32 3 [some (.ref 51), some (.int (nI wn)), some (.int (nI v)), some (.int (nI nt)), some (.int (nI i)), none, none] [] τ1 (xqV Q) := by
    intro m
    induction m with
    | zero =>
      intro i hi τ1 hs hr1
      obtain rfl : i = wn := by omega
      have e : (nI i ≤ nI i) = True := eq_true (Int32.le_refl _)
      rw [s32_3]
      simp only [s32_5, s32_6, s32_25, s32_26, xcx_i, xcx_r, xcx_n, xcx_l, xcx_0, e, if_true]
      refine loop2 (nt - 1) 1 (by omega) (by omega) τ1 _ _ _ hs (fun j => ?_) hr1 hQ
      have := fil_bd (f := f) (n := i) (B := 99999) (fun k => by have := hf k; omega) (show v ≤ 99999 by omega) j
      omega
    | succ m ih =>
      intro i hi τ1 hs hr1
      have e : (nI wn ≤ nI i) = False := eq_false (fun q => by have := (nI_leI (a := wn) (b := i) (by omega) (by omega)).mp q; omega)
      have hx : ∀ x, xpt τ1 58 (nI i) x = xe_si τ1 58 i x := fun x => xpt_n (by rw [xln_58]; omega)
      rw [s32_3]
      simp only [s32_5, s32_6, s32_9, s32_10, s32_13, s32_15, s32_16, s32_19, s32_22, xcx_i, xcx_r, xcx_n, xcx_l, xcx_0, e, if_false, put_eq, xcl_58, hx, nI_1]
      refine ih (i + 1) (by omega) _ hs.si (fun j hj => ?_)
      rw [hr1.si j hj]
      congr 1
      unfold upN fil
      by_cases q : j = i
      · rw [if_pos q, if_pos (by omega)]
      · rw [if_neg q]
        by_cases q2 : j < i
        · rw [if_pos q2, if_pos (by omega)]
        · rw [if_neg q2, if_neg (by omega)]
  rw [e32]
  simp only [s32_0, s32_1, xcx_i, xcx_r, xcx_n, xcx_l, xcx_0]
  refine loop1 wn 0 (by omega) τ (only.rf _ _) (fun j hj => ?_)
  rw [hr j hj]; rfl
