/-! best: facts, tieWay, greatestLoad -/
def dg (ns m t i : Nat) : Nat := t / ns ^ (m - 1 - i) % ns
def stD (D : Nat → Nat → Nat) (S : Nat → Nat) : Nat → Nat → Nat := fun k => if k = 1 then S else D k
theorem stD_b {n m ns nr bow deck : Nat} {D E : Nat → Nat → Nat} {S : Nat → Nat} (hb : sdB n ns nr bow deck D E) (hm : m ≤ n) (hS : ∀ i, i < m → S i < ns) : sdB m ns nr bow deck (stD D S) E := by
  obtain ⟨h1, h2, h3, h4, h5, h6, h7⟩ := hb
  refine ⟨by omega, h2, h3, h4, h5, fun i hi => ?_, h7⟩
  obtain ⟨a1, a2, a3, a4, a5, a6⟩ := h6 i (by omega)
  exact ⟨a1, hS i hi, a3, a4, a5, a6⟩
theorem wh1_no {P B : Nat → Int} {H : Nat} : ∀ m, (wh1 P B H m).2 = -1 → (wh1 P B H m).1 = 0 ∧ ∀ i, i < m → H.testBit i = true → P i ≤ B i := by
  intro m
  induction m with
  | zero => intro _; exact ⟨rfl, fun i hi => absurd hi (Nat.not_lt_zero i)⟩
  | succ m ih =>
    intro h
    by_cases c : H.testBit m = true ∧ (wh1 P B H m).1 < P m - B m
    · rw [show wh1 P B H (m + 1) = (P m - B m, (m : Int)) from if_pos c] at h
      have h' : (m : Int) = -1 := h
      omega
    · rw [show wh1 P B H (m + 1) = wh1 P B H m from if_neg c] at h ⊢
      obtain ⟨q1, q2⟩ := ih h
      refine ⟨q1, fun i hi hb => ?_⟩
      rcases Nat.lt_or_eq_of_le (Nat.le_of_lt_succ hi) with q | q
      · exact q2 i q hb
      · subst q
        have : ¬ (wh1 P B H i).1 < P i - B i := fun z => c ⟨hb, z⟩
        rw [q1] at this
        omega
theorem wh2_no {P B : Nat → Int} {S sb : Nat → Nat} {H n : Nat} : ∀ s, (wh2 P B S sb H n s).2 = -1 → (wh1 P B H n).2 = -1 := by
  intro s
  induction s with
  | zero => intro h; exact h
  | succ s ih =>
    intro h
    by_cases c : (wh2 P B S sb H n s).1 < ptF P S H s n - sb s
    · rw [show wh2 P B S sb H n (s + 1) = (ptF P S H s n - sb s, 10 + (s : Int)) from if_pos c] at h
      have h' : 10 + (s : Int) = -1 := h
      omega
    · rw [show wh2 P B S sb H n (s + 1) = wh2 P B S sb H n s from if_neg c] at h
      exact ih h
theorem ldI_small {p b : Int} (hp : 0 ≤ p ∧ p ≤ 1600) (hb : 0 ≤ b ∧ b ≤ 999) (h : p ≤ b) : ∃ k : Nat, ldI p b = nI k ∧ k ≤ 1000 := by
  obtain ⟨x, rfl⟩ : ∃ x : Nat, p = (x : Nat) := ⟨p.toNat, by omega⟩
  obtain ⟨y, hy⟩ : ∃ y : Nat, max 1 b = (y : Nat) := ⟨(max 1 b).toNat, by omega⟩
  refine ⟨1000 * x / y, ?_, ?_⟩
  · unfold ldI
    rw [hy, ← nI_iI, ← nI_iI, show (1000 : Int32) * nI x = nI (1000 * x) from pk_mul 1000 x, pk_div (by omega) (by omega)]
    omega
  · have hxy : x ≤ y := by omega
    exact Nat.div_le_of_le_mul (by rw [Nat.mul_comm y 1000]; exact Nat.mul_le_mul_left 1000 hxy)
def mxL (f : Nat → Int32) : Nat → Int32
  | 0 => 0
  | i + 1 => if mxL f i < f i then f i else mxL f i
theorem mxL_bd {f : Nat → Int32} {b : Nat} (n : Nat) (h : ∀ i, i < n → ∃ k : Nat, f i = nI k ∧ k ≤ b) : ∃ k : Nat, mxL f n = nI k ∧ k ≤ b := by
  induction n with
  | zero => exact ⟨0, rfl, Nat.zero_le _⟩
  | succ n ih =>
    show ∃ k : Nat, (if mxL f n < f n then f n else mxL f n) = nI k ∧ k ≤ b
    by_cases c : mxL f n < f n
    · rw [if_pos c]; exact h n (Nat.lt_succ_self n)
    · rw [if_neg c]; exact ih (fun i hi => h i (Nat.lt_succ_of_lt hi))
theorem XgreatestLoad {τ : xM} {n H : Nat} {W R K B : Nat → Int} {S : Nat → Nat} {u v : Int} {Q : Int32 → xM → Prop} (hM : moX τ n H W R K B S) (hb : ∀ l, l < n → H.testBit l = true) (hr : rowI τ 39 n (fun i => if H.testBit i then plI W R K u v i else 0)) : xI1 56 [.ref 38] τ Q = Q (mxL (fun i => ldI (plI W R K u v i) (B i)) n) τ := by
  have hn6 := hM.1.1
  have hn := hM.2.2.1
  have loop : ∀ m i, i + m = n → xC 56 4 [some (.ref 38), some (.int (mxL (fun i => ldI (plI W R K u v i) (B i)) i)), some (.int (nI i))] [] τ (xqI Q) = Q (mxL (fun i => ldI (plI W R K u v i) (B i)) n) τ := by
    intro m
    induction m with
    | zero =>
      intro i hi
      obtain rfl : i = n := by omega
      rw [s56_4]
      simp only [s56_5, s56_6, s56_9, s56_28, s56_29, xcx_i, xcx_r, xcx_n, xcx_l, xcx_0, hn, Int32.le_refl, if_true]
    | succ m ih =>
      intro i hi
      have e := lt4N (n := n) (i := i) (by omega) (by omega)
      have hld : ∀ Q : Int32 → xM → Prop, xI1 55 [.ref 38, .int (nI i)] τ Q = _ := fun Q => Xload hM (by omega : i < n) (hb i (by omega)) hr
      have ihh := ih (i + 1) (by omega)
      rw [show mxL (fun i => ldI (plI W R K u v i) (B i)) (i + 1) = if mxL (fun i => ldI (plI W R K u v i) (B i)) i < ldI (plI W R K u v i) (B i) then ldI (plI W R K u v i) (B i) else mxL (fun i => ldI (plI W R K u v i) (B i)) i from rfl] at ihh
      rw [s56_4]
      simp only [s56_5, s56_6, s56_9, s56_12, s56_13, s56_14, s56_15, s56_18, s56_21, s56_22, s56_25, xcx_i, xcx_r, xcx_n, xcx_l, xcx_0, hn, e, if_false, hld, max_eq, nI_1, true_or, or_true, true_and]
      exact ihh
  rw [e56]
  simp only [s56_0, s56_1, s56_2, s56_3, xcx_i, xcx_r, xcx_n, xcx_l, xcx_0]
  exact loop n 0 (by omega)
theorem XtieWay {τ0 : xM} {p n m ns nr bow deck hour t : Nat} {D E : Nat → Nat → Nat} {W R : Nat → Int} {S : Nat → Nat} {Q : xM → Prop} (h : sdX τ0 p n ns nr bow deck D E) (hb : sdB n ns nr bow deck D E) (hm : m ≤ n) (hm1 : 1 ≤ m) (hns : 1 ≤ ns) (ht : t < 100000) (hM : moX τ0 m (2 ^ m - 1) W R (hdF D E) (brF D E) S) (h42 : ∀ i, i < m → τ0.1 42 i = iI (spF D E deck hour i)) (hQ : ∀ τ, xSim τ0 τ → moX τ m (2 ^ m - 1) (wyF (stD D (dg ns m t)) E bow) (rmF (stD D (dg ns m t)) E bow deck hour) (hdF D E) (brF D E) (dg ns m t) → τ.1 38 7 = 0 → (∀ a, a ≠ 38 → a ≠ 40 → a ≠ 41 → a ≠ 45 → τ.1 a = τ0.1 a) → Q τ) : xV 39 [.ref 38, .ref p, .ref 10, .int (nI t)] τ0 Q := by
  obtain ⟨hld, hH, h0, h1, hrow⟩ := hM
  have hn6 := hb.1
  have hns8 := hb.2.1
  have hp := h.1.1
  have hdg : ∀ i, dg ns m t i < ns := fun i => Nat.mod_lt _ hns
  have hbt := stD_b hb hm (S := dg ns m t) (fun i _ => hdg i)
  have loop : ∀ j, j ≤ m → ∀ τ, xSim τ0 τ → (∀ a, a ≠ 38 → a ≠ 40 → a ≠ 41 → a ≠ 45 → τ.1 a = τ0.1 a) → τ.1 38 0 = nI m → τ.1 38 1 = nI (2 ^ m - 1) → (j < m → τ.1 38 7 = 0) → (∀ i, j ≤ i → i < m → τ.1 40 i = iI (wyF (stD D (dg ns m t)) E bow i) ∧ τ.1 41 i = iI (rmF (stD D (dg ns m t)) E bow deck hour i) ∧ τ.1 45 i = nI (dg ns m t i)) → xC 39 22 [some (.ref 38), some (.ref p), some (.ref 10), some (.int (nI t)), some (.int (nI ns)), some (.int (nI (t / ns ^ (m - j)))), some (.int (iI ((j : Int) - 1)))] [] τ (xqV Q) := by
    intro j
    induction j with
    | zero =>
      intro _ τ hs hfr q0 q1 q7 hd
      rw [s39_22]
      simp only [s39_24, s39_53, xcx_i, xcx_r, xcx_n, xcx_l, xcx_0, show (iI (((0 : Nat) : Int) - 1) < 0) = True from eq_true (by decide), if_true]
      refine hQ τ hs ⟨hbt.ld hour (Nat.le_refl m), hH, q0, q1, fun i hi => ?_⟩ (q7 (by omega)) hfr
      obtain ⟨d1, d2, d3⟩ := hd i (Nat.zero_le _) hi
      obtain ⟨r1, r2, r3, r4, r5⟩ := hrow i hi
      exact ⟨d1, d2, by rw [hfr 43 (by decide) (by decide) (by decide) (by decide)]; exact r3, by rw [hfr 44 (by decide) (by decide) (by decide) (by decide)]; exact r4, d3⟩
    | succ j ih =>
      intro hj τ hs hfr q0 q1 q7 hd
      have ei : iI (((j + 1 : Nat) : Int) - 1) = nI j := by rw [nI_iI]; congr 1; omega
      have elt : (nI j < 0) = False := eq_false (fun q => by rw [nl_0 (by omega)] at q; omega)
      have hle : t / ns ^ (m - (j + 1)) ≤ t := Nat.div_le_self _ _
      have e0 : ¬ nI ns = 0 := fun q => by have := (nI_eq (b := 0) (by omega) (by decide)).mp q; omega
      have ediv : nI (t / ns ^ (m - (j + 1))) / nI ns = nI (t / ns ^ (m - j)) := by
        rw [pk_div (by omega) (by omega)]
        · rw [Nat.div_div_eq_div_mul, ← Nat.pow_succ, show (m - (j + 1)).succ = m - j by omega]
        · omega
      have erem : nI (t / ns ^ (m - (j + 1))) - nI (t / ns ^ (m - (j + 1))) / nI ns * nI ns = nI (dg ns m t j) := by
        have : dg ns m t j = t / ns ^ (m - (j + 1)) % ns := by unfold dg; rw [show m - 1 - j = m - (j + 1) by omega]
        rw [this]
        exact pk_rem (by omega) (by omega) (by omega)
      rw [ediv] at erem
      have hti : ∀ Q : xM → Prop, xV 44 [.ref 38, .ref p, .ref 10, .int (nI j), .int (nI (dg ns m t j))] τ Q = _ := fun Q => Xtie (h.sim hs) hb (by omega : j < n) (hdg j) (sp := spF D E deck hour j) (by rw [hfr 42 (by decide) (by decide) (by decide) (by decide)]; exact h42 j (by omega))
      have ep : nI j + -1 = iI ((j : Int) - 1) := by rw [nI_iI, show (-1 : Int32) = iI (-1) from rfl, iI_add]; rfl
      have next := ih (by omega) (xe_si (xe_si (xe_si (xe_si τ 45 j (nI (dg ns m t j))) 40 j (iI ((E 0 (dg ns m t j) : Int) - bow - D 0 j))) 41 j (iI ((((E 0 (dg ns m t j) : Int) - bow - D 0 j).natAbs : Int) + spF D E deck hour j))) 38 7 0) ((((hs.si rfl).si rfl).si rfl).si rfl) (fun a b1 b2 b3 b4 => by rw [si_ne b1, si_ne b3, si_ne b2, si_ne b4]; exact hfr a b1 b2 b3 b4) (by simp only [si_rd, Nat.reduceEqDiff, false_and, and_false, if_false]; exact q0) (by simp only [si_rd, Nat.reduceEqDiff, false_and, and_false, if_false]; exact q1) (fun _ => rfl) (fun i hi1 hi2 => by
        by_cases q : i = j
        · subst q
          refine ⟨?_, ?_, ?_⟩
          · simp only [si_rd, Nat.reduceEqDiff, false_and, and_self, if_false, if_true]; rfl
          · simp only [si_rd, Nat.reduceEqDiff, false_and, and_self, if_false, if_true]; rfl
          · simp only [si_rd, Nat.reduceEqDiff, false_and, and_self, if_false, if_true]
        · have hdj := hd i (by omega) hi2
          simpa only [si_rd, Nat.reduceEqDiff, q, false_and, and_false, if_false] using hdj)
      rw [ei, s39_22]
      rcases hp with rfl | rfl
      · simp only [s39_24, s39_27, s39_28, s39_29, s39_30, s39_32, s39_34, s39_36, s39_37, s39_40, s39_42, s39_44, s39_45, s39_47, s39_50, xcx_i, xcx_r, xcx_n, xcx_l, xcx_0, elt, if_false, e0, not_false_eq_true, true_and, erem, ediv, hti, ep, true_or, or_true]
        exact next
      · simp only [s39_24, s39_27, s39_28, s39_29, s39_30, s39_32, s39_34, s39_36, s39_37, s39_40, s39_42, s39_44, s39_45, s39_47, s39_50, xcx_i, xcx_r, xcx_n, xcx_l, xcx_0, elt, if_false, e0, not_false_eq_true, true_and, erem, ediv, hti, ep, true_or, or_true]
        exact next
  have emx : (if (1 : Int32) < nI ns then nI ns else 1) = nI ns := by
    by_cases c : (1 : Int32) < nI ns
    · rw [if_pos c]
    · rw [if_neg c]
      have : ¬ 1 < ns := fun q => c ((nI_ltI (a := 1) (b := ns) (by decide) (by omega)).mpr q)
      have : ns = 1 := by omega
      rw [this]; rfl
  have em1 : nI m - 1 = iI ((m : Int) - 1) := by rw [nI_iI, show (1 : Int32) = iI 1 from rfl, iI_sub]
  have hpw : t / ns ^ (m - m) = t := by rw [Nat.sub_self, Nat.pow_zero, Nat.div_one]
  have start := loop m (Nat.le_refl m) τ0 (xSim.rf τ0) (fun _ _ _ _ _ => rfl) h0 h1 (fun q => absurd q (Nat.lt_irrefl m)) (fun i q1 q2 => absurd q2 (by omega))
  rw [hpw] at start
  have hst := h.1.2.2
  rw [e39]
  rcases hp with rfl | rfl
  · simp only [s39_0, s39_1, s39_2, s39_3_4, s39_3_7, s39_6, s39_9, s39_11, s39_12, s39_14, s39_15, s39_18, s39_19, s39_20, xcx_i, xcx_r, xcx_n, xcx_l, xcx_0, toldOf_eq (Or.inl rfl), hst, max_eq, emx, h0, em1, true_or, or_true, true_and]
    exact start
  · simp only [s39_0, s39_1, s39_2, s39_3_4, s39_3_7, s39_6, s39_9, s39_11, s39_12, s39_14, s39_15, s39_18, s39_19, s39_20, xcx_i, xcx_r, xcx_n, xcx_l, xcx_0, toldOf_eq (Or.inr rfl), hst, max_eq, emx, h0, em1, true_or, or_true, true_and]
    exact start
