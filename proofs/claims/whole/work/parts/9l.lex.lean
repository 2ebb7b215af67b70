/-! the text: runs of bytes; the class's readers -/
def runE (P : Nat → Bool) (bt : Nat → Nat) (n : Nat) : Nat → Nat → Nat
  | 0, i => i
  | f + 1, i => if i < n ∧ P (bt i) = true then runE P bt n f (i + 1) else i
theorem runE_bd {P : Nat → Bool} {bt : Nat → Nat} {n : Nat} : ∀ f i, i + f = n → i ≤ runE P bt n f i ∧ runE P bt n f i ≤ n ∧ (runE P bt n f i < n → P (bt (runE P bt n f i)) = false) ∧ ∀ j, i ≤ j → j < runE P bt n f i → P (bt j) = true := by
  intro f
  induction f with
  | zero =>
    intro i hi
    refine ⟨Nat.le_refl i, ?_, fun h => ?_, fun j h1 h2 => ?_⟩
    · show i ≤ n; omega
    · have h' : i < n := h
      omega
    · have h' : j < i := h2
      omega
  | succ f ih =>
    intro i hi
    by_cases c : i < n ∧ P (bt i) = true
    · rw [show runE P bt n (f + 1) i = runE P bt n f (i + 1) from if_pos c]
      obtain ⟨q1, q2, q3, q4⟩ := ih (i + 1) (by omega)
      refine ⟨by omega, q2, q3, fun j h1 h2 => ?_⟩
      by_cases z : j = i
      · subst z; exact c.2
      · exact q4 j (by omega) h2
    · rw [show runE P bt n (f + 1) i = i from if_neg c]
      refine ⟨Nat.le_refl i, by omega, fun h => ?_, fun j h1 h2 => by omega⟩
      cases hP : P (bt i) with
      | false => rfl
      | true => exact absurd ⟨h, hP⟩ c
def isBl (b : Nat) : Bool := decide (b = 32) || decide (b = 10)
def isLt (b : Nat) : Bool := decide (97 ≤ b) && decide (b ≤ 122)
def isDg (b : Nat) : Bool := decide (48 ≤ b) && decide (b ≤ 57)
theorem isBl_iff {b : Nat} : (isBl b = true) = (b = 32 ∨ b = 10) := by
  apply propext; unfold isBl; rw [Bool.or_eq_true, decide_eq_true_eq, decide_eq_true_eq]
theorem isLt_iff {b : Nat} : (isLt b = true) = (97 ≤ b ∧ b ≤ 122) := by
  apply propext; unfold isLt; rw [Bool.and_eq_true, decide_eq_true_eq, decide_eq_true_eq]
theorem isDg_iff {b : Nat} : (isDg b = true) = (48 ≤ b ∧ b ≤ 57) := by
  apply propext; unfold isDg; rw [Bool.and_eq_true, decide_eq_true_eq, decide_eq_true_eq]
/-- the text in both -/
def txt (σ : xM) (n : Nat) (bt : Nat → Nat) : Prop := n ≤ 500 ∧ σ.1 2 1 = nI n ∧ σ.1 84 1 = nI n ∧ ∀ i, i < n → σ.1 3 i = nI (bt i) ∧ bt i ≤ 255 ∧ σ.1 85 i = (nI (bt i)).toInt8.toInt32
theorem txt_of {σ : xM} (h : gT σ) : ∃ n bt, txt σ n bt := by
  obtain ⟨n, hn, h1, h2, h3⟩ := h
  refine ⟨n, fun i => (σ.1 3 i).toInt.toNat, hn, h1, h2, fun i hi => ?_⟩
  obtain ⟨q1, q2, q3⟩ := h3 i hi
  have e : nI (σ.1 3 i).toInt.toNat = σ.1 3 i := by rw [nI_iI, Int.toNat_of_nonneg q2]; exact iI_of _
  refine ⟨e.symm, ?_, ?_⟩
  · show (σ.1 3 i).toInt.toNat ≤ 255; omega
  · rw [e]; exact q1
/-- only 'here' -/
def heM (σ τ : xM) (j : Nat) : Prop := (∀ k i, ¬ (k = 2 ∧ i = 2) → τ.1 k i = σ.1 k i) ∧ τ.2.2 = σ.2.2 ∧ τ.1 2 2 = nI j
theorem heM.si {σ τ : xM} {i j : Nat} (h : heM σ τ i) : heM σ (xe_si τ 2 2 (nI j)) j := ⟨fun k i q => by rw [si_rd, if_neg q]; exact h.1 k i q, h.2.1, rfl⟩
theorem heM.tr {a b c : xM} {i j : Nat} (h1 : heM a b i) (h2 : heM b c j) : heM a c j := ⟨fun k i q => (h2.1 k i q).trans (h1.1 k i q), h2.2.1.trans h1.2.1, h2.2.2⟩
theorem heM.txt {σ τ : xM} {j n : Nat} {bt : Nat → Nat} (h : txt σ n bt) (hr : heM σ τ j) : txt τ n bt := by
  obtain ⟨h1, h2, h3, h4⟩ := h
  refine ⟨h1, (hr.1 2 1 (fun z => by omega)).trans h2, (hr.1 84 1 (fun z => by omega)).trans h3, fun i hi => ?_⟩
  rw [hr.1 3 i (fun z => by omega), hr.1 85 i (fun z => by omega)]
  exact h4 i hi
theorem xat3 {σ : xM} {v : Nat} (h : v < 500) : xat σ 3 (nI v) = σ.1 3 v := xat_n (by rw [xln_3]; exact h)
theorem XskipBlanks {σ : xM} {n i : Nat} {bt : Nat → Nat} {Q : xM → Prop} (h : txt σ n bt) (hi : i ≤ n) (he : σ.1 2 2 = nI i) (hQ : ∀ τ, heM σ τ (runE isBl bt n (n - i) i) → Q τ) : xV 95 [.ref 2] σ Q := by
  have hn := h.1
  have loop : ∀ f i, i + f = n → ∀ τ, heM σ τ i → (∀ τ', heM σ τ' (runE isBl bt n f i) → Q τ') → xC 95 0 [some (.ref 2)] [] τ (xqV Q) := by
    intro f
    induction f with
    | zero =>
      intro i hi τ hr hQ
      obtain rfl : i = n := by omega
      have hx := heM.txt h hr
      rw [s95_0]
      simp only [s95_1, s95_4, s95_5, s95_8, s95_56, xcx_i, xcx_r, xcx_n, xcx_l, xcx_0, hr.2.2, hx.2.1, Int32.le_refl, if_true]
      exact hQ τ hr
    | succ f ih =>
      intro i hi τ hr hQ
      have hx := heM.txt h hr
      have e := lt4N (n := n) (i := i) (by omega) (by omega)
      obtain ⟨b1, b2, b3⟩ := hx.2.2.2 i (by omega)
      have e32 : (nI (bt i) = 32) = (bt i = 32) := nI_eqL (b := 32) (by omega) (by decide)
      have e10 : (nI (bt i) = 10) = (bt i = 10) := nI_eqL (b := 10) (by omega) (by decide)
      rw [s95_0]
      by_cases c : bt i = 32 ∨ bt i = 10
      · rw [show runE isBl bt n (f + 1) i = runE isBl bt n f (i + 1) from if_pos ⟨by omega, by rw [isBl_iff]; exact c⟩] at hQ
        have next := ih (i + 1) (by omega) (xe_si τ 2 2 (nI (i + 1))) hr.si hQ
        rcases c with c | c
        · have c' : (bt i = 32) = True := eq_true c
          simp only [s95_1, s95_4, s95_5, s95_8, s95_11, s95_12, s95_15, s95_16, s95_19, s95_22, s95_24, s95_27, s95_28, s95_31, s95_32, s95_35, s95_38, s95_40, s95_43, s95_44, s95_45, s95_48, s95_49, s95_50, s95_53, xcx_i, xcx_r, xcx_n, xcx_l, xcx_0, hr.2.2, hx.2.1, e, if_false, at_eq, xcl_3, xat3 (show i < 500 by omega), b1, e32, c', if_true, nI_1]
          exact next
        · have c' : (bt i = 10) = True := eq_true c
          have c32 : (bt i = 32) = False := eq_false (by omega)
          simp only [s95_1, s95_4, s95_5, s95_8, s95_11, s95_12, s95_15, s95_16, s95_19, s95_22, s95_24, s95_27, s95_28, s95_31, s95_32, s95_35, s95_38, s95_40, s95_43, s95_44, s95_45, s95_48, s95_49, s95_50, s95_53, xcx_i, xcx_r, xcx_n, xcx_l, xcx_0, hr.2.2, hx.2.1, e, if_false, at_eq, xcl_3, xat3 (show i < 500 by omega), b1, e32, e10, c', c32, not_true, if_true, nI_1]
          exact next
      · rw [show runE isBl bt n (f + 1) i = i from if_neg (fun z => by rw [isBl_iff] at z; exact c z.2)] at hQ
        have c32 : (bt i = 32) = False := eq_false (fun z => c (Or.inl z))
        have c10 : (bt i = 10) = False := eq_false (fun z => c (Or.inr z))
        simp only [s95_1, s95_4, s95_5, s95_8, s95_11, s95_12, s95_15, s95_16, s95_19, s95_22, s95_24, s95_27, s95_28, s95_31, s95_32, s95_35, s95_38, s95_40, s95_43, s95_44, s95_45, s95_48, s95_49, s95_50, s95_53, s95_56, xcx_i, xcx_r, xcx_n, xcx_l, xcx_0, hr.2.2, hx.2.1, e, if_false, at_eq, xcl_3, xat3 (show i < 500 by omega), b1, e32, e10, c32, c10, not_false_eq_true, if_true]
        exact hQ τ hr
  rw [e95]
  exact loop (n - i) i (by omega) σ ⟨fun _ _ _ => rfl, rfl, he⟩ hQ
/-- a number, and TOO_GREAT above it: -1 where no digit stands -/
def nuE (bt : Nat → Nat) : Nat → Nat → Int → Int
  | 0, _, a => a
  | f + 1, i, a => nuE bt f (i + 1) (if a = -1 then (bt i : Int) - 48 else min (a * 10 + ((bt i : Int) - 48)) 10000)
theorem XreadNumber {σ : xM} {n i : Nat} {bt : Nat → Nat} {Q : Int32 → xM → Prop} (h : txt σ n bt) (hi : i ≤ n) (he : σ.1 2 2 = nI i) (hQ : ∀ τ, heM σ τ (runE isDg bt n (n - i) i) → Q (iI (nuE bt (runE isDg bt n (n - i) i - i) i (-1))) τ) : xI1 99 [.ref 2] σ Q := by
  have hn := h.1
  have loop : ∀ f i, i + f = n → ∀ (a : Int) l2 τ, -1 ≤ a → a ≤ 10000 → heM σ τ i → (∀ τ', heM σ τ' (runE isDg bt n f i) → Q (iI (nuE bt (runE isDg bt n f i - i) i a)) τ') → xC 99 2 [some (.ref 2), some (.int (iI a)), l2] [] τ (xqI Q) := by
    intro f
    induction f with
    | zero =>
      intro i hi a l2 τ ha1 ha2 hr hQ
      obtain rfl : i = n := by omega
      have hx := heM.txt h hr
      have hq := hQ τ hr
      rw [show runE isDg bt i 0 i - i = 0 from Nat.sub_self i] at hq
      rw [s99_2]
      simp only [s99_3, s99_6, s99_7, s99_10, s99_84, s99_85, xcx_i, xcx_r, xcx_n, xcx_l, xcx_0, hr.2.2, hx.2.1, Int32.le_refl, if_true]
      exact hq
    | succ f ih =>
      intro i hi a l2 τ ha1 ha2 hr hQ
      have hx := heM.txt h hr
      have e := lt4N (n := n) (i := i) (by omega) (by omega)
      obtain ⟨b1, b2, b3⟩ := hx.2.2.2 i (by omega)
      have w1 : ((48 : Int32) ≤ nI (bt i)) = (48 ≤ bt i) := nI_leL (a := 48) (by decide) (by omega)
      have w2 : (nI (bt i) ≤ (57 : Int32)) = (bt i ≤ 57) := nI_leL (b := 57) (by omega) (by decide)
      have ew : (48 ≤ nI (bt i) ∧ nI (bt i) ≤ 57) = (48 ≤ bt i ∧ bt i ≤ 57) := by rw [w1, w2]
      rw [s99_2]
      by_cases c : 48 ≤ bt i ∧ bt i ≤ 57
      · rw [show runE isDg bt n (f + 1) i = runE isDg bt n f (i + 1) from if_pos ⟨by omega, by rw [isDg_iff]; exact c⟩] at hQ
        obtain ⟨g1, -⟩ := runE_bd (P := isDg) (bt := bt) (n := n) f (i + 1) (by omega)
        rw [show runE isDg bt n f (i + 1) - i = (runE isDg bt n f (i + 1) - (i + 1)) + 1 by omega] at hQ
        have cw : (48 ≤ nI (bt i) ∧ nI (bt i) ≤ 57) := by rw [ew]; exact c
        have ed : nI (bt i) - 48 = iI ((bt i : Int) - 48) := by rw [nI_iI, show (48 : Int32) = iI 48 from rfl, iI_sub]
        have em : (iI a = -1) = (a = -1) := by
          apply propext
          constructor
          · intro q
            have : (iI a).toInt = (-1 : Int32).toInt := by rw [q]
            rw [iI_ti (by omega) (by omega)] at this
            exact this
          · intro q; rw [q]; rfl
        by_cases z : a = -1
        · have next := ih (i + 1) (by omega) ((bt i : Int) - 48) (some (.int (iI ((bt i : Int) - 48)))) (xe_si τ 2 2 (nI (i + 1))) (by omega) (by omega) hr.si (fun τ' q => by
            have := hQ τ' q
            rw [show nuE bt (runE isDg bt n f (i + 1) - (i + 1) + 1) i a = nuE bt (runE isDg bt n f (i + 1) - (i + 1)) (i + 1) (if a = -1 then (bt i : Int) - 48 else min (a * 10 + ((bt i : Int) - 48)) 10000) from rfl, if_pos z] at this
            exact this)
          have z' : (a = -1) = True := eq_true z
          simp only [s99_3, s99_6, s99_7, s99_10, s99_13, s99_14, s99_17, s99_18, s99_21, s99_24, s99_26, s99_28, s99_31, s99_34, s99_35, s99_38, s99_39, s99_42, s99_45, s99_47, s99_48, s99_49, s99_50, s99_51, s99_54, s99_55, s99_58, s99_59, s99_61, s99_62, s99_63, s99_64, s99_67, s99_70, s99_71, s99_72, s99_73, s99_76, s99_77, s99_78, s99_81, xcx_i, xcx_r, xcx_n, xcx_l, xcx_0, hr.2.2, hx.2.1, e, if_false, at_eq, xcl_3, xat3 (show i < 500 by omega), b1, within_eq, if_pos cw, xb_f, ite_not, ed, em, z', not_true, if_true, nI_1, true_or, or_true, true_and]
          exact next
        · have e1 : iI a * 10 + iI ((bt i : Int) - 48) = iI (a * 10 + ((bt i : Int) - 48)) := by rw [show (10 : Int32) = iI 10 from rfl, iI_mul, iI_add]
          have emn : (if (10000 : Int32) < iI (a * 10 + ((bt i : Int) - 48)) then 10000 else iI (a * 10 + ((bt i : Int) - 48))) = iI (min (a * 10 + ((bt i : Int) - 48)) 10000) := by
            have q2 : ((10000 : Int32) < iI (a * 10 + ((bt i : Int) - 48))) = (10000 < a * 10 + ((bt i : Int) - 48)) := propext (iI_lt (a := 10000) (by omega) (by omega) (by omega) (by omega))
            by_cases q : 10000 < a * 10 + ((bt i : Int) - 48)
            · rw [if_pos (q2.mpr q), show (10000 : Int32) = iI 10000 from rfl]; congr 1; omega
            · rw [if_neg (fun y => q (q2.mp y))]; congr 1; omega
          have next := ih (i + 1) (by omega) (min (a * 10 + ((bt i : Int) - 48)) 10000) (some (.int (iI ((bt i : Int) - 48)))) (xe_si τ 2 2 (nI (i + 1))) (by omega) (by omega) hr.si (fun τ' q => by
            have := hQ τ' q
            rw [show nuE bt (runE isDg bt n f (i + 1) - (i + 1) + 1) i a = nuE bt (runE isDg bt n f (i + 1) - (i + 1)) (i + 1) (if a = -1 then (bt i : Int) - 48 else min (a * 10 + ((bt i : Int) - 48)) 10000) from rfl, if_neg z] at this
            exact this)
          simp only [s99_3, s99_6, s99_7, s99_10, s99_13, s99_14, s99_17, s99_18, s99_21, s99_24, s99_26, s99_28, s99_31, s99_34, s99_35, s99_38, s99_39, s99_42, s99_45, s99_47, s99_48, s99_49, s99_50, s99_51, s99_54, s99_55, s99_58, s99_59, s99_61, s99_62, s99_63, s99_64, s99_67, s99_70, s99_71, s99_72, s99_73, s99_76, s99_77, s99_78, s99_81, xcx_i, xcx_r, xcx_n, xcx_l, xcx_0, hr.2.2, hx.2.1, e, if_false, at_eq, xcl_3, xat3 (show i < 500 by omega), b1, within_eq, if_pos cw, xb_f, ite_not, ed, em, z, not_false_eq_true, if_true, e1, min_eq, emn, nI_1, true_or, or_true, true_and]
          exact next
      · rw [show runE isDg bt n (f + 1) i = i from if_neg (fun z => by rw [isDg_iff] at z; exact c z.2)] at hQ
        have hq := hQ τ hr
        rw [Nat.sub_self] at hq
        have cw : ¬ (48 ≤ nI (bt i) ∧ nI (bt i) ≤ 57) := by rw [ew]; exact c
        simp only [s99_3, s99_6, s99_7, s99_10, s99_13, s99_14, s99_17, s99_18, s99_21, s99_24, s99_26, s99_28, s99_31, s99_34, s99_35, s99_38, s99_39, s99_42, s99_45, s99_47, s99_48, s99_49, s99_50, s99_51, s99_54, s99_55, s99_58, s99_59, s99_61, s99_62, s99_63, s99_64, s99_67, s99_70, s99_71, s99_72, s99_73, s99_76, s99_77, s99_78, s99_81, s99_84, s99_85, xcx_i, xcx_r, xcx_n, xcx_l, xcx_0, hr.2.2, hx.2.1, e, if_false, at_eq, xcl_3, xat3 (show i < 500 by omega), b1, within_eq, if_neg cw, xb_f, ite_not, if_true, true_or, or_true, true_and]
        exact hq
  rw [e99]
  simp only [s99_0, s99_1, xcx_i, xcx_r, xcx_n, xcx_l, xcx_0]
  exact loop (n - i) i (by omega) (-1) none σ (by omega) (by omega) ⟨fun _ _ _ => rfl, rfl, he⟩ hQ
