/-! wind: what goes, one after the other -/
theorem isB_ex (c : Int → Int → Int) : ∃ u v, isB c u v := by
  have rows : ∀ a, a ≤ 41 → ∃ st, mS c a 0 st := by
    intro a
    induction a with
    | zero => intro _; exact ⟨none, rfl, rfl⟩
    | succ a ih =>
      intro ha
      obtain ⟨st0, h0⟩ := ih (by omega)
      have cols : ∀ b, b ≤ 21 → ∃ st, mS c a b st := by
        intro b
        induction b with
        | zero => intro _; exact ⟨st0, h0⟩
        | succ b ihb =>
          intro hb
          obtain ⟨st, h⟩ := ihb (by omega)
          cases st with
          | none => exact ⟨some (a, b), mS_upd h (by omega) (by omega) (fun ab bb q => by cases q)⟩
          | some x =>
            obtain ⟨ab, bb⟩ := x
            by_cases q : c (uA a) (b : Nat) < c (uA ab) (bb : Nat) ∨ (c (uA a) (b : Nat) = c (uA ab) (bb : Nat) ∧ ((uA a).natAbs : Int) < (uA ab).natAbs)
            · exact ⟨some (a, b), mS_upd h (by omega) (by omega) (fun ab' bb' e => by cases e; exact q)⟩
            · exact ⟨some (ab, bb), mS_keep h (by omega)⟩
      obtain ⟨st, h⟩ := cols 21 (Nat.le_refl _)
      exact ⟨st, mS_row h⟩
  obtain ⟨st, h⟩ := rows 41 (Nat.le_refl _)
  obtain ⟨a, b, -, hB⟩ := mS_end h
  exact ⟨_, _, hB⟩
def goW (D E : Nat → Nat → Nat) (bow deck hour m ns : Nat) (w s : Int) (H : Nat) (k : Int) : Prop := ∃ u v, isB (csF (wyF D E bow) (rmF D E bow deck hour) (hdF D E) H m w s) u v ∧ (wh2 (plI (wyF D E bow) (rmF D E bow deck hour) (hdF D E) u v) (brF D E) (D 1) (E 1) H m ns).2 = k
theorem goW_eq {D E : Nat → Nat → Nat} {bow deck hour m ns : Nat} {w s : Int} {H : Nat} {k k' : Int} (h1 : goW D E bow deck hour m ns w s H k) (h2 : goW D E bow deck hour m ns w s H k') : k = k' := by
  obtain ⟨u, v, b1, e1⟩ := h1
  obtain ⟨u', v', b2, e2⟩ := h2
  obtain ⟨rfl, rfl⟩ := isB_eq b1 b2
  exact e1.symm.trans e2
def Ch (D E : Nat → Nat → Nat) (bow deck hour m ns : Nat) (w s : Int) : List Nat → Nat → Nat → Prop
  | [], H, H' => H' = H ∧ goW D E bow deck hour m ns w s H (-1)
  | k :: l, H, H' => (goW D E bow deck hour m ns w s H (k : Nat) ∧ (k < m ∨ (10 ≤ k ∧ k < 18))) ∧ Ch D E bow deck hour m ns w s l (dpF H (D 1) k m) H'
theorem dpF_bit {H : Nat} {S : Nat → Nat} {k : Nat} (hH : H < 64) : ∀ m, m ≤ 6 → ∀ j, j < 6 → (dpF H S k m).testBit j = (H.testBit j && !(decide (j < m) && (decide (j = k) || decide (10 + S j = k)))) := by
  intro m
  induction m with
  | zero =>
    intro _ j _
    rw [decide_eq_false (Nat.not_lt_zero j), Bool.false_and, Bool.not_false, Bool.and_true]; rfl
  | succ m ih =>
    intro hm j hj
    have i1 := ih (by omega) j hj
    have hlt := dpF_lt (S := S) (k := k) hH m (by omega)
    by_cases c : m = k ∨ 10 + S m = k
    · rw [show dpF H S k (m + 1) = clB (dpF H S k m) m from if_pos c, (clB_all _ hlt m (by omega)).2.2 j hj, i1]
      by_cases q : j = m
      · subst q
        have hd : (decide (j = k) || decide (10 + S j = k)) = true := by
          rcases c with z | z
          · rw [decide_eq_true z, Bool.true_or]
          · rw [decide_eq_true z, Bool.or_true]
        rw [hd, Nat.beq_refl, decide_eq_true (show j < j + 1 by omega)]
        simp
      · have hb : Nat.beq j m = false := by
          cases hb : Nat.beq j m with
          | false => rfl
          | true => exact absurd (Nat.eq_of_beq_eq_true hb) q
        have hd : decide (j < m) = decide (j < m + 1) := by
          by_cases z : j < m
          · rw [decide_eq_true z, decide_eq_true (show j < m + 1 by omega)]
          · rw [decide_eq_false z, decide_eq_false (show ¬ j < m + 1 by omega)]
        rw [hb, hd]
        simp
    · rw [show dpF H S k (m + 1) = dpF H S k m from if_neg c, i1]
      by_cases q : j = m
      · subst q
        have hd : (decide (j = k) || decide (10 + S j = k)) = false := by
          rw [decide_eq_false (fun z => c (Or.inl z)), decide_eq_false (fun z => c (Or.inr z))]; rfl
        rw [hd]
        simp
      · have hd : decide (j < m) = decide (j < m + 1) := by
          by_cases z : j < m
          · rw [decide_eq_true z, decide_eq_true (show j < m + 1 by omega)]
          · rw [decide_eq_false z, decide_eq_false (show ¬ j < m + 1 by omega)]
        rw [hd]
theorem cnF_mono {P P' : Nat → Bool} : ∀ m, (∀ i, i < m → P' i = true → P i = true) → cnF P' m ≤ cnF P m := by
  intro m
  induction m with
  | zero => intro _; exact Nat.le_refl _
  | succ m ih =>
    intro h
    have := ih (fun i hi => h i (by omega))
    show cnF P' m + (if P' m then 1 else 0) ≤ cnF P m + (if P m then 1 else 0)
    by_cases c : P' m = true
    · rw [if_pos c, if_pos (h m (by omega) c)]; omega
    · rw [if_neg c]; omega
theorem cnF_less {P P' : Nat → Bool} {i : Nat} (h1 : P i = true) (h2 : P' i = false) : ∀ m, i < m → (∀ j, j < m → P' j = true → P j = true) → cnF P' m < cnF P m := by
  intro m
  induction m with
  | zero => intro h; omega
  | succ m ih =>
    intro hi h
    show cnF P' m + (if P' m then 1 else 0) < cnF P m + (if P m then 1 else 0)
    rcases Nat.lt_or_eq_of_le (Nat.le_of_lt_succ hi) with q | q
    · have := ih q (fun j hj => h j (by omega))
      by_cases c : P' m = true
      · rw [if_pos c, if_pos (h m (by omega) c)]; omega
      · rw [if_neg c]; omega
    · subst q
      have := cnF_mono i (fun j hj => h j (by omega))
      rw [h1, h2, if_pos rfl, if_neg (by decide)]; omega
theorem cnF_zero {P : Nat → Bool} : ∀ m, cnF P m ≤ 0 → ∀ i, i < m → P i = false := by
  intro m
  induction m with
  | zero => intro _ i hi; omega
  | succ m ih =>
    intro h i hi
    have h' : cnF P m + (if P m then 1 else 0) ≤ 0 := h
    by_cases c : P m = true
    · rw [if_pos c] at h'; omega
    · rw [if_neg c] at h'
      rcases Nat.lt_or_eq_of_le (Nat.le_of_lt_succ hi) with q | q
      · exact ih h' i q
      · subst q; exact Bool.not_eq_true _ ▸ c
/-- where something goes, a line that holds goes -/
theorem wh2_hit {P B : Nat → Int} {S sb : Nat → Nat} {H n ns : Nat} (hH : H < 64) (hn : n ≤ 6) (hns : ns ≤ 8) (hP : ∀ i, i < n → 0 ≤ P i ∧ P i ≤ 1600) (hB : ∀ i, i < n → 0 ≤ B i ∧ B i ≤ 999) : (wh2 P B S sb H n ns).2 = -1 ∨ ∃ k : Nat, (wh2 P B S sb H n ns).2 = (k : Nat) ∧ (k < n ∨ (10 ≤ k ∧ k < 18)) ∧ cnF (dpF H S k n).testBit n < cnF H.testBit n := by
  obtain ⟨-, -, h⟩ := wh2_bd (S := S) (sb := sb) (H := H) hn hP hB ns
  have hit : ∀ (k i : Nat), i < n → H.testBit i = true → (i = k ∨ 10 + S i = k) → cnF (dpF H S k n).testBit n < cnF H.testBit n := by
    intro k i hi hb hik
    refine cnF_less hb ?_ n hi (fun j hj hb' => ?_)
    · rw [dpF_bit hH n hn i (by omega), hb, decide_eq_true hi]
      rcases hik with q | q
      · rw [decide_eq_true q]; rfl
      · rw [decide_eq_true q, Bool.or_true]; rfl
    · rw [dpF_bit hH n hn j (by omega), Bool.and_eq_true] at hb'
      exact hb'.1
  rcases h with h | ⟨i, h1, h2, h3⟩ | ⟨s, h1, h2, i, h3, h4, h5⟩
  · exact Or.inl h
  · exact Or.inr ⟨i, h2, Or.inl h1, hit i i h1 h3 (Or.inl rfl)⟩
  · exact Or.inr ⟨10 + s, by rw [h2]; omega, Or.inr ⟨by omega, by omega⟩, hit (10 + s) i h3 h4 (Or.inr (by omega))⟩
theorem iI_m1 {k : Nat} (h : k < 100) : (iI (k : Int) = -1) = False := by rw [← nI_iI]; exact nI_m1 (by omega)
theorem Xblow {σ τ0 : xM} {p n ns nr bow deck hour : Nat} {D E : Nat → Nat → Nat} {w s : Int} {Q : xM → Prop} (h : sdX σ p n ns nr bow deck D E) (hb : sdB n ns nr bow deck D E) (hw : 0 ≤ w ∧ w ≤ 999) (hs : -99 ≤ s ∧ s ≤ 99) {H0 : Nat} (hs0 : xSim σ τ0) (hM0 : moX τ0 n H0 (wyF D E bow) (rmF D E bow deck hour) (hdF D E) (brF D E) (D 1)) (h70 : τ0.1 38 7 = 0) (hQ : ∀ τ l H', xSim σ τ → Ch D E bow deck hour n ns w s l H0 H' → l.length ≤ 6 → τ.1 48 0 = nI l.length → (∀ j, j < l.length → τ.1 49 j = nI (l.getD j 0)) → τ.1 38 1 = nI H' → Q τ) : xV 36 [.ref 48, .ref 38, .ref p, .int (iI w), .int (iI s)] τ0 Q := by
  have hn6 := hb.1
  have hns8 := hb.2.1
  have hld := hb.ld hour (Nat.le_refl n)
  have hp := h.1.1
  have loop : ∀ f i, i + f = 6 → ∀ H τ l6, cnF H.testBit n ≤ f → xSim σ τ → moX τ n H (wyF D E bow) (rmF D E bow deck hour) (hdF D E) (brF D E) (D 1) → τ.1 38 7 = 0 → τ.1 48 0 = nI i → (∀ τ' l H', xSim σ τ' → Ch D E bow deck hour n ns w s l H H' → l.length ≤ f → τ'.1 48 0 = nI (i + l.length) → (∀ j, j < l.length → τ'.1 49 (i + j) = nI (l.getD j 0)) → (∀ j, j < i → τ'.1 49 j = τ.1 49 j) → τ'.1 38 1 = nI H' → Q τ') → xC 36 8 [some (.ref 48), some (.ref 38), some (.ref p), some (.int (iI w)), some (.int (iI s)), some (.int (nI i)), l6] [] τ (xqV Q) := by
    intro f
    induction f with
    | zero =>
      intro i hi H τ l6 hc hsim hM h7 h48 hQ
      obtain rfl : i = 6 := by omega
      rw [s36_8]
      simp only [s36_10, s36_12, s36_71, xcx_i, xcx_r, xcx_n, xcx_l, xcx_0, show ((6 : Int32) ≤ nI 6) = True from eq_true (by decide), if_true]
      have hz := cnF_zero n hc
      obtain ⟨u, v, hB⟩ := isB_ex (csF (wyF D E bow) (rmF D E bow deck hour) (hdF D E) H n w s)
      refine hQ τ [] H hsim ⟨rfl, u, v, hB, ?_⟩ (Nat.le_refl _) h48 (fun j hj => absurd hj (Nat.not_lt_zero j)) (fun _ _ => rfl) hM.2.2.2.1
      obtain ⟨-, -, q⟩ := wh2_bd (S := D 1) (sb := E 1) (H := H) hn6 (fun i hi => plI_bd hld hB.1 hi) (fun i hi => (hld.2 i hi).2.2.2.2.1) ns
      rcases q with q | ⟨i, q1, q2, q3⟩ | ⟨t, q1, q2, i, q3, q4, q5⟩
      · exact q
      · rw [hz i q1] at q3; cases q3
      · rw [hz i q3] at q4; cases q4
    | succ f ih =>
      intro i hi H τ l6 hc hsim hM h7 h48 hQ
      have e : ((6 : Int32) ≤ nI i) = False := eq_false (fun q => by have := (nI_leI (a := 6) (b := i) (by decide) (by omega)).mp q; omega)
      have hH := hM.2.1
      rw [s36_8]
      simp only [s36_10, s36_12, s36_15, s36_16, s36_17, s36_19, xcx_i, xcx_r, xcx_n, xcx_l, xcx_0, e, if_false]
      refine Xsettle hM (Or.inl h7) hw hs (fun τ1 u v hg h71 hT1 hB hS => ?_)
      have hsim1 := hsim.tr hg.sim
      have hM1 := hM.mog hg
      have h481 : τ1.1 48 0 = nI i := by rw [hg.1 48 (by decide) (by decide) (by decide) (by decide)]; exact h48
      have hmo : ∀ Q : Int32 → xM → Prop, xI1 53 [.ref 38, .ref p] τ1 Q = _ := fun Q => XmostOver hM1 (h.sim hsim1) hb hB.1 hS.2.2.2.2
      have hit := wh2_hit (S := D 1) (sb := E 1) hH hn6 hns8 (fun i hi => plI_bd hld hB.1 hi) (fun i hi => (hld.2 i hi).2.2.2.2.1)
      have hgo : goW D E bow deck hour n ns w s H (wh2 (plI (wyF D E bow) (rmF D E bow deck hour) (hdF D E) u v) (brF D E) (D 1) (E 1) H n ns).2 := ⟨u, v, hB, rfl⟩
      generalize (wh2 (plI (wyF D E bow) (rmF D E bow deck hour) (hdF D E) u v) (brF D E) (D 1) (E 1) H n ns).2 = k at hmo hit hgo
      rcases hit with rfl | ⟨k, rfl, hk, hlt⟩
      · have em : (iI (-1) = -1) = True := eq_true rfl
        have hfin := hQ τ1 [] H hsim1 ⟨rfl, hgo⟩ (Nat.zero_le _) h481 (fun j hj => absurd hj (Nat.not_lt_zero j)) (fun j hj => by rw [hg.1 49 (by decide) (by decide) (by decide) (by decide)]) hM1.2.2.2.1
        rcases hp with rfl | rfl
        · simp only [s36_22, s36_23, s36_24, s36_27, s36_29, s36_31, s36_32, s36_35, xcx_i, xcx_r, xcx_n, xcx_l, xcx_0, hmo, em, not_true, if_true, if_false, true_or, or_true]
          exact hfin
        · simp only [s36_22, s36_23, s36_24, s36_27, s36_29, s36_31, s36_32, s36_35, xcx_i, xcx_r, xcx_n, xcx_l, xcx_0, hmo, em, not_true, if_true, if_false, true_or, or_true]
          exact hfin
      · have em := iI_m1 (show k < 100 by omega)
        have hx : ∀ v, xpt τ1 49 (nI i) v = xe_si τ1 49 i v := fun v => xpt_n (by rw [xln_49]; omega)
        have hMd : moX (xe_si (xe_si τ1 49 i (iI (k : Int))) 48 0 (nI (i + 1))) n H (wyF D E bow) (rmF D E bow deck hour) (hdF D E) (brF D E) (D 1) := hM1
        have next : xC 36 59 [some (.ref 48), some (.ref 38), some (.ref p), some (.int (iI w)), some (.int (iI s)), some (.int (nI i)), some (.int (iI (k : Int)))] [] (xe_si (xe_si τ1 49 i (iI (k : Int))) 48 0 (nI (i + 1))) (xqV Q) := by
          have ek : iI (k : Int) = nI k := (nI_iI k).symm
          rw [ek] at hMd ⊢
          simp only [s36_59, s36_60, s36_62, xcx_i, xcx_r, xcx_n, xcx_l, xcx_0]
          refine Xdrop hMd (by omega) (fun τ2 hs2 hM2 h72 hf => ?_)
          simp only [s36_65, s36_68, xcx_i, xcx_r, xcx_n, xcx_l, xcx_0, nI_1]
          have f48 : τ2.1 48 0 = nI (i + 1) := by rw [hf 48 (by decide)]; rfl
          have f49 : ∀ j, τ2.1 49 j = if j = i then nI k else τ.1 49 j := by
            intro j
            rw [hf 49 (by decide), si_ne (by decide), si_rd, hg.1 49 (by decide) (by decide) (by decide) (by decide)]
            by_cases q : j = i
            · rw [if_pos q, if_pos ⟨rfl, q⟩]
            · rw [if_neg q, if_neg (fun z => q z.2)]
          refine ih (i + 1) (by omega) (dpF H (D 1) k n) τ2 _ (by omega) ((hsim1.si rfl).si rfl |>.tr hs2) hM2 h72 f48 (fun τ' l H' q1 q2 q3 q4 q5 q6 q7 => ?_)
          refine hQ τ' (k :: l) H' q1 ⟨⟨hgo, hk⟩, q2⟩ (Nat.succ_le_succ q3) ?_ (fun j hj => ?_) (fun j hj => ?_) q7
          · rw [q4, List.length_cons]; congr 1; omega
          · cases j with
            | zero => rw [Nat.add_zero, q6 i (by omega), f49, if_pos rfl]; rfl
            | succ j =>
              have := q5 j (Nat.lt_of_succ_lt_succ hj)
              rw [show i + (j + 1) = i + 1 + j by omega, this]; rfl
          · rw [q6 j (by omega), f49, if_neg (by omega)]
        rcases hp with rfl | rfl
        · simp only [s36_22, s36_23, s36_24, s36_27, s36_29, s36_31, s36_32, s36_35, s36_36, s36_37, s36_40, s36_41, s36_44, s36_46, s36_49, s36_50, s36_51, s36_54, s36_55, s36_56, xcx_i, xcx_r, xcx_n, xcx_l, xcx_0, hmo, em, not_false_eq_true, if_true, put_eq, xcl_49, h481, hx, si_rd, Nat.reduceEqDiff, false_and, if_false, nI_1, true_or, or_true]
          exact next
        · simp only [s36_22, s36_23, s36_24, s36_27, s36_29, s36_31, s36_32, s36_35, s36_36, s36_37, s36_40, s36_41, s36_44, s36_46, s36_49, s36_50, s36_51, s36_54, s36_55, s36_56, xcx_i, xcx_r, xcx_n, xcx_l, xcx_0, hmo, em, not_false_eq_true, if_true, put_eq, xcl_49, h481, hx, si_rd, Nat.reduceEqDiff, false_and, if_false, nI_1, true_or, or_true]
          exact next
  rw [e36]
  simp only [s36_0, s36_1, s36_2, s36_5, s36_6, xcx_i, xcx_r, xcx_n, xcx_l, xcx_0]
  refine loop 6 0 (by omega) H0 _ _ (Nat.le_trans (cnF_le _ n) hn6) (hs0.si rfl) hM0 h70 rfl (fun τ' l H' q1 q2 q3 q4 q5 q6 q7 => ?_)
  refine hQ τ' l H' q1 q2 q3 ?_ (fun j hj => ?_) q7
  · rw [q4]; congr 1; omega
  · have := q5 j hj
    rw [Nat.zero_add] at this
    exact this
