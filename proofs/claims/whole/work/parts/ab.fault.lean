/-! fault -/
def scD (k j : Nat) : Bool := scr k j || (k == 5 || k == 6 || k == 8 || k == 9)
/-- the port itself stays, the draft need not -/
def xSimD (σ σ' : xM) : Prop := (∀ k j, scD k j = false → σ'.1 k j = σ.1 k j) ∧ σ'.2.2 = σ.2.2 ∧ σ'.1 (σ.2.2 1 + 1) = σ.1 (σ.2.2 1 + 1) ∧ σ'.1 (σ.2.2 1 + 2) = σ.1 (σ.2.2 1 + 2)
theorem xSimD.row {σ σ' : xM} (h : xSimD σ σ') {k : Nat} (hk : ∀ j, scD k j = false) : σ'.1 k = σ.1 k := funext fun j => h.1 k j (hk j)
theorem xInv.simD {xs : Nat → Int32} {L : Nat} {σ σ' : xM} (h : xInv xs L σ) (hs : xSimD σ σ') : xInv xs L σ' := by
  obtain ⟨hP, hT, hS, hI, hC, hR, hB, hN, hL, hX⟩ := h
  have e1 : σ'.1 (σ'.2.2 1 + 1) = σ.1 (σ.2.2 1 + 1) := by rw [hs.2.1]; exact hs.2.2.1
  have e2 : σ'.1 (σ'.2.2 1 + 2) = σ.1 (σ.2.2 1 + 2) := by rw [hs.2.1]; exact hs.2.2.2
  have r92 := hs.row (k := 92) fun _ => rfl
  have r93 := hs.row (k := 93) fun _ => rfl
  have r94 := hs.row (k := 94) fun _ => rfl
  have r95 := hs.row (k := 95) fun _ => rfl
  have r96 := hs.row (k := 96) fun _ => rfl
  have r97 := hs.row (k := 97) fun _ => rfl
  have m17 := hs.1 84 17 rfl
  have m19 := hs.1 84 19 rfl
  have m21 := hs.1 84 21 rfl
  have m23 := hs.1 84 23 rfl
  have m25 := hs.1 84 25 rfl
  refine ⟨⟨by rw [hs.2.1]; exact hP.1, ?_⟩, ?_, ?_, ?_, ?_, ?_, ?_, ?_, ?_, ?_⟩
  · rw [e1, e2, r92, r93, r94, r95, r96, r97]
    have h := hP.2
    unfold gPV at h ⊢
    rw [m17, m19, m21, m23, m25]
    exact h
  · unfold gT at hT ⊢
    rw [hs.1 2 1 rfl, hs.1 84 1 rfl, hs.row (k := 85) fun _ => rfl, hs.row (k := 3) fun _ => rfl]
    exact hT
  · unfold gS at hS ⊢
    rw [hs.1 84 31 rfl, hs.1 84 28 rfl, hs.1 84 29 rfl, hs.1 84 30 rfl, m17, m19, hs.row (k := 10) fun _ => rfl, hs.row (k := 11) fun _ => rfl, hs.row (k := 12) fun _ => rfl, hs.row (k := 13) fun _ => rfl, hs.row (k := 14) fun _ => rfl, hs.row (k := 15) fun _ => rfl, hs.row (k := 16) fun _ => rfl, hs.row (k := 98) fun _ => rfl]
    exact hS
  · unfold gI gIk at hI ⊢
    rw [m17, m19, hs.row (k := 99) fun _ => rfl, hs.row (k := 100) fun _ => rfl, hs.row (k := 101) fun _ => rfl, hs.row (k := 102) fun _ => rfl, hs.row (k := 103) fun _ => rfl, hs.row (k := 17) fun _ => rfl, hs.row (k := 17 + 1) fun _ => rfl, hs.row (k := 17 + 2) fun _ => rfl, hs.row (k := 17 + 3) fun _ => rfl, hs.row (k := 17 + 4) fun _ => rfl, hs.row (k := 17 + 5) fun _ => rfl, hs.row (k := 17 + 6) fun _ => rfl,
      hs.row (k := 24) fun _ => rfl, hs.row (k := 24 + 1) fun _ => rfl, hs.row (k := 24 + 2) fun _ => rfl, hs.row (k := 24 + 3) fun _ => rfl, hs.row (k := 24 + 4) fun _ => rfl, hs.row (k := 24 + 5) fun _ => rfl, hs.row (k := 24 + 6) fun _ => rfl,
      hs.row (k := 31) fun _ => rfl, hs.row (k := 31 + 1) fun _ => rfl, hs.row (k := 31 + 2) fun _ => rfl, hs.row (k := 31 + 3) fun _ => rfl, hs.row (k := 31 + 4) fun _ => rfl, hs.row (k := 31 + 5) fun _ => rfl, hs.row (k := 31 + 6) fun _ => rfl]
    exact hI
  · unfold gC at hC ⊢
    rw [hs.1 51 0 rfl, hs.1 84 38 rfl, hs.row (k := 104) fun _ => rfl, hs.row (k := 53) fun _ => rfl, hs.row (k := 54) fun _ => rfl, hs.row (k := 55) fun _ => rfl, hs.row (k := 56) fun _ => rfl]
    exact hC
  · unfold gR at hR ⊢
    rw [hs.1 59 0 rfl, hs.1 84 40 rfl, m23, hs.row (k := 105) fun _ => rfl, hs.row (k := 106) fun _ => rfl, hs.row (k := 60) fun _ => rfl, hs.row (k := 61) fun _ => rfl]
    exact hR
  · unfold gB at hB ⊢
    rw [hs.1 63 0 rfl, hs.1 84 43 rfl, m21, e1, hs.row (k := 107) fun _ => rfl, hs.row (k := 108) fun _ => rfl, hs.row (k := 109) fun _ => rfl, hs.row (k := 64) fun _ => rfl, hs.row (k := 65) fun _ => rfl, hs.row (k := 66) fun _ => rfl, hs.row (k := 67) fun _ => rfl, hs.row (k := 68) fun _ => rfl, hs.row (k := 69) fun _ => rfl, hs.row (k := 72) fun _ => rfl]
    exact hB
  · unfold gN at hN ⊢
    rw [hs.1 73 0 rfl, hs.1 84 47 rfl, hs.row (k := 110) fun _ => rfl, hs.row (k := 75) fun _ => rfl, hs.row (k := 76) fun _ => rfl, hs.row (k := 77) fun _ => rfl]
    exact hN
  · unfold gL at hL ⊢
    rw [hs.1 80 0 rfl, hs.1 84 49 rfl, hs.row (k := 111) fun _ => rfl, hs.row (k := 81) fun _ => rfl, hs.row (k := 82) fun _ => rfl, hs.row (k := 83) fun _ => rfl]
    exact hL
  · unfold gX at hX ⊢
    rw [hs.1 1011 0 rfl, hs.row (k := 1010) fun _ => rfl]
    exact hX
theorem scr_m {c j : Nat} (h : scr c j = false) : ¬ (86 ≤ c ∧ c ≤ 91) ∧ c ≠ 112 ∧ ¬ (c = 84 ∧ (j = 2 ∨ j = 3 ∨ j = 4 ∨ j = 51 ∨ j = 6 ∨ j = 8 ∨ j = 10 ∨ j = 12 ∨ j = 14)) := by
  refine ⟨fun z => ?_, fun z => ?_, fun z => ?_⟩
  · have : c = 86 ∨ c = 87 ∨ c = 88 ∨ c = 89 ∨ c = 90 ∨ c = 91 := by omega
    rcases this with rfl | rfl | rfl | rfl | rfl | rfl <;> cases h
  · subst z; cases h
  · obtain ⟨rfl, z⟩ := z
    rcases z with rfl | rfl | rfl | rfl | rfl | rfl | rfl | rfl | rfl <;> cases h
theorem frM.sim {σ τ : xM} (h : frM σ τ) : xSim σ τ := ⟨fun c j hs => by
  obtain ⟨q1, q2, q3⟩ := scr_m hs
  exact h.1 c j q1 q2 q3, h.2⟩
theorem frH.simD {p : Nat} {σ τ : xM} (h : frH p σ τ) (hp : (σ.2.2 1 = 4 ∧ p = 7) ∨ (σ.2.2 1 = 7 ∧ p = 4)) : xSimD σ τ := by
  refine ⟨fun c j hs => ?_, h.2, ?_, ?_⟩
  · have hz : scr c j = false ∧ c ≠ 5 ∧ c ≠ 6 ∧ c ≠ 8 ∧ c ≠ 9 := by
      unfold scD at hs
      rw [Bool.or_eq_false_iff, Bool.or_eq_false_iff, Bool.or_eq_false_iff, Bool.or_eq_false_iff] at hs
      obtain ⟨h1, ⟨⟨h2, h3⟩, h4⟩, h5⟩ := hs
      exact ⟨h1, beq_eq_false_iff_ne.mp h2, beq_eq_false_iff_ne.mp h3, beq_eq_false_iff_ne.mp h4, beq_eq_false_iff_ne.mp h5⟩
    refine h.1 c j (by omega) (by omega) (fun z => ?_)
    obtain ⟨rfl, rfl⟩ := z
    cases hz.1
  · exact funext fun j => h.1 _ j (by omega) (by omega) (by omega)
  · exact funext fun j => h.1 _ j (by omega) (by omega) (by omega)
theorem vNT_0 : vNT (fun _ => 0) (fun _ => 0) := ⟨fun _ _ => Nat.zero_le _, fun _ _ t _ _ ht => absurd ht (Nat.not_lt_zero t), fun _ _ _ _ _ _ => rfl⟩
theorem rowR_v {bt : Nat → Nat} {n m i : Nat} {N T : Nat → Nat} (hi : i ≤ n) (hv : vNT N T) : (allR bt n m N T i).1 = -1 → vNT (allR bt n m N T i).2.1 (allR bt n m N T i).2.2 ∧ 0 < (allR bt n m N T i).2.2 0 := by
  have fin : ∀ N T, vNT N T → (endA n N T).1 = -1 → vNT (endA n N T).2.1 (endA n N T).2.2 ∧ 0 < (endA n N T).2.2 0 := by
    intro N T hv he
    refine ⟨hv, ?_⟩
    have he' : (if 0 < T 0 ∧ 0 < T 1 then -1 else (n : Int)) = -1 := he
    by_cases c : 0 < T 0 ∧ 0 < T 1
    · exact c.1
    · rw [if_neg c] at he'; omega
  induction m generalizing N T i with
  | zero => exact fin N T hv
  | succ m ih =>
    by_cases c : i < n
    · rw [show allR bt n (m + 1) N T i = (if (rowR bt n N T i).1 = true then allR bt n m (rowR bt n N T i).2.1 (rowR bt n N T i).2.2.1 (runE isBl bt n (n - (rowR bt n N T i).2.2.2) (rowR bt n N T i).2.2.2) else (((rowR bt n N T i).2.2.2 : Nat), (rowR bt n N T i).2.1, (rowR bt n N T i).2.2.1)) from if_pos c]
      by_cases ok : (rowR bt n N T i).1 = true
      · rw [if_pos ok]
        obtain ⟨v1, v2, v3⟩ := rowR_ok hi hv ok
        obtain ⟨g1, g2, -, -⟩ := runE_bd (P := isBl) (bt := bt) (n := n) (n - (rowR bt n N T i).2.2.2) (rowR bt n N T i).2.2.2 (by omega)
        exact ih g2 v1
      · rw [if_neg ok]
        intro z
        have z' : (((rowR bt n N T i).2.2.2 : Nat) : Int) = -1 := z
        omega
    · rw [show allR bt n (m + 1) N T i = endA n N T from if_neg c]
      exact fin N T hv
theorem readA_v {bt : Nat → Nat} {n : Nat} (h : (readA bt n).1 = -1) : vNT (readA bt n).2.1 (readA bt n).2.2 ∧ 0 < (readA bt n).2.2 0 := by
  obtain ⟨g1, g2, -, -⟩ := runE_bd (P := isBl) (bt := bt) (n := n) n 0 (by omega)
  exact rowR_v g2 vNT_0 h
theorem Mfault {σ : xM} {n : Nat} {bt : Nat → Nat} {Q : Int32 → xM → Prop} (h : txR σ n bt) (hQ : ∀ τ, frM σ τ → ((readA bt n).1 = -1 → rD τ (readA bt n).2.1 (readA bt n).2.2) → Q (iI (readA bt n).1) τ) : xI1 176 [.ref 84] σ Q := by
  have hn := h.1
  have loop : ∀ m N T i τ, n ≤ i + m → i ≤ n → frM σ τ → rD τ N T → vNT N T → tkR bt n i τ → (∀ τ', frM σ τ' → ((allR bt n m N T i).1 = -1 → rD τ' (allR bt n m N T i).2.1 (allR bt n m N T i).2.2) → Q (iI (allR bt n m N T i).1) τ') → xC 176 48 [some (.ref 84)] [] τ (xqI Q) := by
    have fin : ∀ N T τ, frM σ τ → rD τ N T → vNT N T → tkR bt n n τ → (∀ τ', frM σ τ' → ((endA n N T).1 = -1 → rD τ' (endA n N T).2.1 (endA n N T).2.2) → Q (iI (endA n N T).1) τ') → xC 176 48 [some (.ref 84)] [] τ (xqI Q) := by
      intro N T τ hr hR hv ht hQ
      have k3 : τ.1 84 3 = 0 := by
        obtain ⟨-, ⟨c, k3, k2⟩ | ⟨c, cl, k3, k2, k5⟩ | ⟨c, cd, k3, k2, k5⟩ | ⟨c, cl, cd, k3, k2⟩⟩ := ht
        · exact k3
        · omega
        · omega
        · omega
      have k4 := ht.1
      have hP0 : τ.1 84 6 = nI (T 0) ∧ rrw τ 86 0 (T 0 * 2) N := hR 0 (by decide)
      have hP1 : τ.1 84 8 = nI (T 1) ∧ rrw τ 87 16 (T 1 * 2) N := hR 1 (by decide)
      have m0 : T 0 ≤ 8 := hv.1 0 (by decide)
      have m1 : T 1 ≤ 4 := hv.1 1 (by decide)
      have e0 : (nI (T 0) = 0) = (T 0 = 0) := nI_eqL (b := 0) (by omega) (by decide)
      have e1 : (nI (T 1) = 0) = (T 1 = 0) := nI_eqL (b := 0) (by omega) (by decide)
      have hq := hQ τ hr (fun _ => hR)
      rw [show (endA n N T).1 = (if 0 < T 0 ∧ 0 < T 1 then -1 else (n : Int)) from rfl] at hq
      rw [s176_48]
      by_cases c0 : T 0 = 0
      · have c0' : (T 0 = 0) = True := eq_true c0
        rw [if_neg (fun z => by omega), ← nI_iI] at hq
        simp only [s176_49, s176_52, s176_55, s176_56, s176_59, s176_62, s176_63, s176_66, s176_67, s176_68, s176_71, s176_74, s176_75, s176_78, s176_81, s176_82, s176_85, s176_88, s176_89, xcx_i, xcx_r, xcx_n, xcx_l, xcx_0, k3, if_true, hP0.1, hP1.1, e0, e1, c0', k4, true_or, or_true, true_and]
        exact hq
      · have c0' : (T 0 = 0) = False := eq_false c0
        by_cases c1 : T 1 = 0
        · have c1' : (T 1 = 0) = True := eq_true c1
          rw [if_neg (fun z => by omega), ← nI_iI] at hq
          simp only [s176_49, s176_52, s176_55, s176_56, s176_59, s176_62, s176_63, s176_66, s176_67, s176_68, s176_71, s176_74, s176_75, s176_78, s176_81, s176_82, s176_85, s176_88, s176_89, xcx_i, xcx_r, xcx_n, xcx_l, xcx_0, k3, if_true, if_false, not_true, hP0.1, hP1.1, e0, e1, c0', c1', k4, true_or, or_true, true_and]
          exact hq
        · have c1' : (T 1 = 0) = False := eq_false c1
          rw [if_pos (by omega), show iI (-1) = (-1 : Int32) from rfl] at hq
          simp only [s176_49, s176_52, s176_55, s176_56, s176_59, s176_62, s176_63, s176_66, s176_67, s176_68, s176_71, s176_74, s176_75, s176_78, s176_81, s176_82, s176_85, s176_88, s176_89, xcx_i, xcx_r, xcx_n, xcx_l, xcx_0, k3, if_true, if_false, not_false_eq_true, hP0.1, hP1.1, e0, e1, c0', c1', k4, true_or, or_true, true_and]
          exact hq
    intro m
    induction m with
    | zero =>
      intro N T i τ hm hi hr hR hv ht hQ
      obtain rfl : i = n := by omega
      exact fin N T τ hr hR hv ht hQ
    | succ m ih =>
      intro N T i τ hm hi hr hR hv ht hQ
      by_cases c : i < n
      · rw [show allR bt n (m + 1) N T i = (if (rowR bt n N T i).1 = true then allR bt n m (rowR bt n N T i).2.1 (rowR bt n N T i).2.2.1 (runE isBl bt n (n - (rowR bt n N T i).2.2.2) (rowR bt n N T i).2.2.2) else (((rowR bt n N T i).2.2.2 : Nat), (rowR bt n N T i).2.1, (rowR bt n N T i).2.2.1)) from if_pos c] at hQ
        have k3 : (τ.1 84 3 = 0) = False := by
          refine eq_false (fun q => ?_)
          obtain ⟨-, ⟨c', k3, k2⟩ | ⟨c', cl, k3, k2, k5⟩ | ⟨c', cd, k3, k2, k5⟩ | ⟨c', cl, cd, k3, k2⟩⟩ := ht
          · omega
          · rw [k3] at q; exact absurd q (by decide)
          · rw [k3] at q; exact absurd q (by decide)
          · rw [k3] at q
            by_cases z : bt i = 59
            · rw [if_pos z] at q; exact absurd q (by decide)
            · rw [if_neg z] at q; exact absurd q (by decide)
        rw [s176_48]
        simp only [s176_49, s176_52, s176_55, s176_56, xcx_i, xcx_r, xcx_n, xcx_l, xcx_0, k3, if_false]
        refine Mline0 (frM.txt h hr) ht hi hR hv (fun τ1 ok h1 hR1 ht1 => ?_) (fun τ1 ok h1 h4 => ?_)
        · rw [if_pos ok] at hQ
          obtain ⟨v1, v2, v3⟩ := rowR_ok hi hv ok
          obtain ⟨g1, g2, -, -⟩ := runE_bd (P := isBl) (bt := bt) (n := n) (n - (rowR bt n N T i).2.2.2) (rowR bt n N T i).2.2.2 (by omega)
          simp only [s176_59, xcx_i, xcx_r, xcx_n, xcx_l, xcx_0, show ((1 : Int32) = 0) = False from eq_false (by decide), not_false_eq_true, if_true]
          exact ih _ _ _ τ1 (by omega) g2 (hr.tr h1) hR1 v1 ht1 hQ
        · rw [if_neg ok] at hQ
          have hi1 := rowR_le (bt := bt) (N := N) (T := T) hi
          have hq := hQ τ1 (hr.tr h1) (fun z => by
            have z' : (((rowR bt n N T i).2.2.2 : Nat) : Int) = -1 := z
            omega)
          have hq' : Q (nI (rowR bt n N T i).2.2.2) τ1 := by rw [nI_iI]; exact hq
          simp only [s176_59, s176_62, s176_63, s176_66, xcx_i, xcx_r, xcx_n, xcx_l, xcx_0, not_true, if_false, h4]
          exact hq'
      · obtain rfl : i = n := by omega
        rw [show allR bt i (m + 1) N T i = endA i N T from if_neg c] at hQ
        exact fin N T τ hr hR hv ht hQ
  rw [e176]
  simp only [s176_0, s176_1, s176_2, s176_5, s176_6, s176_7, s176_10, s176_11, s176_12, s176_15, s176_16, s176_17, s176_20, s176_21, s176_22, s176_25, s176_26, s176_29, s176_30, s176_31, s176_32, s176_33, s176_36, s176_37, s176_38, s176_39, s176_40, s176_41, s176_44, s176_45, xcx_i, xcx_r, xcx_n, xcx_l, xcx_0, xcl_90, xln_90, xcl_91, xln_91, show ((0 : Int32) ≤ 0) = True from eq_true (by decide), show (0 : Int32).toNatClampNeg = 0 from rfl, show (0 < 6) = True from eq_true (by decide), show (0 < 3) = True from eq_true (by decide), true_and]
  generalize h0 : xe_si (xe_si (xe_si (xe_si (xe_si (xe_si (xe_si (xe_si σ 84 6 0) 84 8 0) 84 10 0) 84 12 0) 84 14 (-1)) 90 0 (-1)) 91 0 (-1)) 84 2 0 = τ0
  have hr0 : frM σ τ0 := by
    subst h0
    refine ⟨fun c j q1 q2 q3 => ?_, rfl⟩
    rw [si_rd, if_neg (by omega), si_rd, if_neg (by omega), si_rd, if_neg (by omega), si_rd, if_neg (by omega), si_rd, if_neg (by omega), si_rd, if_neg (by omega), si_rd, if_neg (by omega), si_rd, if_neg (by omega)]
  have hR0 : rD τ0 (fun _ => 0) (fun _ => 0) := by
    intro s hs
    have : s = 0 ∨ s = 1 ∨ s = 2 ∨ s = 3 ∨ s = 4 ∨ s = 5 ∨ s = 6 := by omega
    subst h0
    rcases this with rfl | rfl | rfl | rfl | rfl | rfl | rfl
    · exact ⟨rfl, fun i hi => absurd hi (Nat.not_lt_zero i)⟩
    · exact ⟨rfl, fun i hi => absurd hi (Nat.not_lt_zero i)⟩
    · exact ⟨rfl, fun i hi => absurd hi (by rw [Nat.zero_mul]; exact Nat.not_lt_zero i)⟩
    · exact Or.inl ⟨rfl, rfl⟩
    · exact ⟨rfl, fun i hi => absurd hi (Nat.not_lt_zero i)⟩
    · exact Or.inl ⟨rfl, rfl⟩
    · exact Or.inl ⟨rfl, rfl⟩
  have k2 : τ0.1 84 2 = nI 0 := by subst h0; rfl
  refine Mleads (frM.txt h hr0) (Nat.zero_le n) k2 (fun τ1 m1 t1 => ?_)
  obtain ⟨g1, g2, -, -⟩ := runE_bd (P := isBl) (bt := bt) (n := n) (n - 0) 0 (by omega)
  exact loop 500 _ _ _ τ1 (by omega) g2 (hr0.lx m1.to5) (fun s hs => rP.lx hs (hR0 s hs) m1.to5) vNT_0 t1 hQ
theorem op_fault : xOp 111 176 [] := by
  intro xs L σ hI
  obtain ⟨n, bt, h⟩ := txt_of hI.2.1
  have hp := hI.1.1
  have hp2 : σ.2.2 2 = 4 ∨ σ.2.2 2 = 7 := by omega
  rw [e111]
  simp only [s111_0, s111_1, s111_4, s111_5, s111_8, xcx_i, xcx_r, xcx_n, xcx_l, xcx_0]
  refine XreadInto hp2 h (fun τ hr _ => ?_)
  have hI2 := hI.simD (hr.simD hp)
  simp only [s111_11, xcx_i, xcx_r, xcx_n, xcx_l, xcx_0]
  refine Mfault (frH.txt hp2 h hr).R (fun τ' hr' _ => ?_)
  exact ⟨rfl, hI2.sim hr'.sim⟩
