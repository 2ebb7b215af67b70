/-! firstFit -/
def gdF (le dr st dp wa : Nat → Nat) (L : Nat → Option (Nat × Nat)) (n v p h : Nat) : Bool := decide (dr v + 1 ≤ ldN dp p (le v) + wa h) && decide (dr v + 1 ≤ ldN dp p (le v) + wa (h + st v)) && (nbF le st L v p h n 0).isNone
def ffP (le dr st dp wa : Nat → Nat) (L : Nat → Option (Nat × Nat)) (n v h : Nat) : Nat → Nat → Option Nat
  | 0, _ => none
  | m + 1, t => if 10 * t + le v ≤ 200 then (if gdF le dr st dp wa L n v (10 * t) h then some (10 * t) else ffP le dr st dp wa L n v h m (t + 1)) else none
def ffH (le dr st dp wa : Nat → Nat) (L : Nat → Option (Nat × Nat)) (n v : Nat) : Nat → Nat → Option (Nat × Nat)
  | 0, _ => none
  | m + 1, h => match ffP le dr st dp wa L n v h 20 0 with
    | some p => some (h, p)
    | none => ffH le dr st dp wa L n v m (h + 1)
def fcode : Option (Nat × Nat) → Int32
  | none => -1
  | some (h, p) => nI (1000 * h + p)
theorem ffP_bd {le dr st dp wa : Nat → Nat} {L : Nat → Option (Nat × Nat)} {n v h : Nat} : ∀ m t p, ffP le dr st dp wa L n v h m t = some p → p + le v ≤ 200 := by
  intro m
  induction m with
  | zero => intro t p q; cases q
  | succ m ih =>
    intro t p q
    unfold ffP at q
    split at q
    · split at q
      · cases q; assumption
      · exact ih _ _ q
    · cases q
theorem ffH_bd {le dr st dp wa : Nat → Nat} {L : Nat → Option (Nat × Nat)} {n v : Nat} : ∀ m h k p, ffH le dr st dp wa L n v m h = some (k, p) → p + le v ≤ 200 ∧ h ≤ k ∧ k < h + m := by
  intro m
  induction m with
  | zero => intro h k p q; cases q
  | succ m ih =>
    intro h k p q
    unfold ffH at q
    split at q
    · rename_i x hx
      cases q
      exact ⟨ffP_bd _ _ _ hx, by omega, by omega⟩
    · have := ih _ _ _ q
      exact ⟨this.1, by omega, by omega⟩
theorem whyF_good {le dr co st dp wa : Nat → Nat} {L : Nat → Option (Nat × Nat)} {n v p h : Nat} (hn5 : n ≤ 5) (hco : co v ≤ h) (hp : p + le v ≤ 200) (hh : h ≤ 199) : (whyF le dr co st dp wa L n v (nI p) (nI h) = 0) = (gdF le dr st dp wa L n v p h = true) := by
  have hc0 : co v < 2147483648 := by omega
  have n1 : ¬ nI h < nI (co v) := fun q => by have := (nI_ltI (show h < 2147483648 by omega) hc0).mp q; omega
  have n2 : 0 ≤ nI p ∧ nI p ≤ nI (200 - le v) := ⟨nI_pos' (by omega), (nI_leI (by omega) (by omega)).mpr (by omega)⟩
  have n3 : ¬ 199 < nI h := fun q => by have := (nI_ltI (a := 199) (b := h) (by decide) (by omega)).mp q; omega
  unfold whyF gdF
  rw [if_neg n1, if_neg (not_not_intro n2), if_neg n3, nI_cl p (by omega), nI_cl h (by omega)]
  by_cases d1 : ldN dp p (le v) + wa h < dr v + 1
  · have : ¬ (dr v + 1 ≤ ldN dp p (le v) + wa h) := by omega
    rw [if_pos d1, decide_eq_false this]
    exact propext ⟨fun q => absurd q (by decide), fun q => by cases q⟩
  · have : dr v + 1 ≤ ldN dp p (le v) + wa h := by omega
    rw [if_neg d1, decide_eq_true this]
    by_cases d2 : ldN dp p (le v) + wa (h + st v) < dr v + 1
    · have : ¬ (dr v + 1 ≤ ldN dp p (le v) + wa (h + st v)) := by omega
      rw [if_pos d2, decide_eq_false this]
      exact propext ⟨fun q => absurd q (by decide), fun q => by cases q⟩
    · have : dr v + 1 ≤ ldN dp p (le v) + wa (h + st v) := by omega
      rw [if_neg d2, decide_eq_true this]
      cases hn : nbF le st L v p h n 0 with
      | none => exact propext ⟨fun _ => rfl, fun _ => rfl⟩
      | some i =>
        refine propext ⟨fun q => ?_, fun q => by cases q⟩
        have hi : i < 0 + n := nbF_lt _ _ _ hn
        have e : (50 : Int32) + nI i = nI (50 + i) := nI_add 50 i
        rw [show wcode (some i) = 50 + nI i from rfl, e] at q
        have := (nI_eq (a := 50 + i) (b := 0) (by omega) (by decide)).mp q
        omega
theorem subN_le {a b c : Nat} (ha : a < 100000) (hb : b < 100000) (hc : c < 100000) : (nI b - nI c ≤ nI a) = (b ≤ a + c) := by
  rw [nI_iI, nI_iI, nI_iI, iI_sub, propext (iI_le (a := (b : Int) - c) (b := (a : Int)) (by omega) (by omega) (by omega) (by omega))]
  exact propext ⟨fun q => by omega, fun q => by omega⟩
theorem subN_lt {a b c : Nat} (ha : a < 100000) (hb : b < 100000) (hc : c < 100000) : (nI a < nI b - nI c) = ¬ (b ≤ a + c) := by
  rw [← subN_le ha hb hc, Int32.not_le]
theorem XfirstPlace {σ : xM} {n v h w : Nat} {le dr co st dp wa : Nat → Nat} {L : Nat → Option (Nat × Nat)} {Q : Int32 → xM → Prop} (hV : vX σ n le dr co st) (hL : lX σ n L) (hS : shX σ n le dp) (hd40 : ∀ x, dp x ≤ 40) (hv : v < n) (hh : h ≤ 199) (hw : w = min (wa h) (wa (h + st v))) (hw9 : w ≤ 9) : xI1 23 [.ref 63, .int (nI v), .int (nI h), .int (nI (dr v + 1) - nI w)] σ Q = Q (ncode (ffP le dr st dp wa L n v h 20 0)) σ := by
  have hV2 := hV
  obtain ⟨hn5, k1, hrow⟩ := hV
  obtain ⟨⟨v1, v2, v3, v4, v5, v6, v7⟩, v64, v65, v66, v67⟩ := hrow v hv
  have hv5 : v < 5 := by omega
  have loop : ∀ m t, t + m = 20 → xC 23 3 [some (.ref 63), some (.int (nI v)), some (.int (nI h)), some (.int (nI (dr v + 1) - nI w)), some (.int (nI t))] [] σ (xqI Q) = Q (ncode (ffP le dr st dp wa L n v h m t)) σ := by
    intro m
    induction m with
    | zero =>
      intro t ht
      obtain rfl : t = 20 := by omega
      have e : ((20 : Int32) ≤ nI 20) = True := eq_true (Int32.le_refl _)
      rw [s23_3]
      simp only [s23_0, s23_1, s23_5, s23_7, s23_10, s23_12, s23_14, s23_15, s23_18, s23_19, s23_22, s23_23, s23_26, s23_27, s23_30, s23_31, s23_34, s23_35, s23_37, s23_38, s23_40, s23_41, s23_44, s23_45, s23_48, s23_49, s23_50, s23_52, s23_54, s23_55, s23_56, s23_59, s23_60, s23_63, s23_65, s23_67, s23_68, s23_69, s23_72, s23_75, s23_76, xcx_i, xcx_r, xcx_n, xcx_l, xcx_0, e, if_true]
      first | done | rfl
    | succ m ih =>
      intro t ht
      have e : ((20 : Int32) ≤ nI t) = False := eq_false (fun q => by have := (nI_leI (a := 20) (b := t) (by decide) (by omega)).mp q; omega)
      have esub := nI_sub200 (show le v ≤ 200 by omega)
      have e2 : (nI (200 - le v) < nI (t * 10)) = ¬ (10 * t + le v ≤ 200) := by rw [nI_ltL (by omega) (by omega)]; exact propext ⟨fun q => by omega, fun q => by omega⟩
      have hxs : xat σ 72 (nI (v * 20 + t)) = nI (ldN dp (10 * t) (le v)) := by
        rw [xat_n (by rw [xln_72]; omega), Nat.mul_comm v 20]; exact hS v t hv (by omega)
      have hld := ldN_le hd40 (10 * t) (le v)
      have e3 : (nI (ldN dp (10 * t) (le v)) < nI (dr v + 1) - nI w) = ¬ (dr v + 1 ≤ ldN dp (10 * t) (le v) + w) := subN_lt (by omega) (by omega) (by omega)
      have ihh := ih (t + 1) (by omega)
      rw [show ffP le dr st dp wa L n v h (m + 1) t = (if 10 * t + le v ≤ 200 then (if gdF le dr st dp wa L n v (10 * t) h then some (10 * t) else ffP le dr st dp wa L n v h m (t + 1)) else none) from rfl]
      rw [s23_3]
      by_cases c1 : 10 * t + le v ≤ 200
      · have hN : ∀ Q : Int32 → xM → Prop, xI1 20 [.ref 63, .int (nI v), .int (nI (t * 10)), .int (nI h)] σ Q = Q (ncode (nbF le st L v (t * 10) h n 0)) σ := fun Q => Xneighbour hV2 hL hv (by omega) hh
        rw [if_pos c1]
        by_cases c2 : dr v + 1 ≤ ldN dp (10 * t) (le v) + w
        · have d1 : dr v + 1 ≤ ldN dp (10 * t) (le v) + wa h := by omega
          have d2 : dr v + 1 ≤ ldN dp (10 * t) (le v) + wa (h + st v) := by omega
          cases hn : nbF le st L v (t * 10) h n 0 with
          | none =>
            have hg : gdF le dr st dp wa L n v (10 * t) h = true := by
              unfold gdF
              rw [decide_eq_true d1, decide_eq_true d2, Nat.mul_comm 10 t, hn]; rfl
            have e4 : ncode (none : Option Nat) = -1 := rfl
            simp only [s23_0, s23_1, s23_5, s23_7, s23_10, s23_12, s23_14, s23_15, s23_18, s23_19, s23_22, s23_23, s23_26, s23_27, s23_30, s23_31, s23_34, s23_35, s23_37, s23_38, s23_40, s23_41, s23_44, s23_45, s23_48, s23_49, s23_50, s23_52, s23_54, s23_55, s23_56, s23_59, s23_60, s23_63, s23_65, s23_67, s23_68, s23_69, s23_72, s23_75, s23_76, xcx_i, xcx_r, xcx_n, xcx_l, xcx_0, e, if_false, mr_10, mr_20, nI_add, at_eq, xcl_64, xcl_72, xat64 hv5, v64, esub, e2, c1, not_true, hxs, e3, c2, hN, hn, e4, if_true, hg]
            rw [Nat.mul_comm t 10]; rfl
          | some i =>
            have hi : i < 0 + n := nbF_lt _ _ _ hn
            have hg : gdF le dr st dp wa L n v (10 * t) h = false := by
              unfold gdF
              rw [decide_eq_true d1, decide_eq_true d2, Nat.mul_comm 10 t, hn]; rfl
            have e4 : (ncode (some i) = -1) = False := nI_m1 (by omega)
            simp only [s23_0, s23_1, s23_5, s23_7, s23_10, s23_12, s23_14, s23_15, s23_18, s23_19, s23_22, s23_23, s23_26, s23_27, s23_30, s23_31, s23_34, s23_35, s23_37, s23_38, s23_40, s23_41, s23_44, s23_45, s23_48, s23_49, s23_50, s23_52, s23_54, s23_55, s23_56, s23_59, s23_60, s23_63, s23_65, s23_67, s23_68, s23_69, s23_72, s23_75, s23_76, xcx_i, xcx_r, xcx_n, xcx_l, xcx_0, e, if_false, mr_10, mr_20, nI_add, at_eq, xcl_64, xcl_72, xat64 hv5, v64, esub, e2, c1, not_true, hxs, e3, c2, hN, hn, e4, if_true, hg, Bool.false_eq_true, not_false_eq_true, nI_1, ihh]
        · have hg : gdF le dr st dp wa L n v (10 * t) h = false := by
            unfold gdF
            by_cases d1 : dr v + 1 ≤ ldN dp (10 * t) (le v) + wa h
            · have d2 : ¬ dr v + 1 ≤ ldN dp (10 * t) (le v) + wa (h + st v) := by omega
              rw [decide_eq_true d1, decide_eq_false d2]; rfl
            · rw [decide_eq_false d1]; rfl
          simp only [s23_0, s23_1, s23_5, s23_7, s23_10, s23_12, s23_14, s23_15, s23_18, s23_19, s23_22, s23_23, s23_26, s23_27, s23_30, s23_31, s23_34, s23_35, s23_37, s23_38, s23_40, s23_41, s23_44, s23_45, s23_48, s23_49, s23_50, s23_52, s23_54, s23_55, s23_56, s23_59, s23_60, s23_63, s23_65, s23_67, s23_68, s23_69, s23_72, s23_75, s23_76, xcx_i, xcx_r, xcx_n, xcx_l, xcx_0, e, if_false, mr_10, mr_20, nI_add, at_eq, xcl_64, xcl_72, xat64 hv5, v64, esub, e2, c1, not_true, hxs, e3, c2, if_true, hg, Bool.false_eq_true, not_false_eq_true, nI_1, ihh]
      · rw [if_neg c1]
        simp only [s23_0, s23_1, s23_5, s23_7, s23_10, s23_12, s23_14, s23_15, s23_18, s23_19, s23_22, s23_23, s23_26, s23_27, s23_30, s23_31, s23_34, s23_35, s23_37, s23_38, s23_40, s23_41, s23_44, s23_45, s23_48, s23_49, s23_50, s23_52, s23_54, s23_55, s23_56, s23_59, s23_60, s23_63, s23_65, s23_67, s23_68, s23_69, s23_72, s23_75, s23_76, xcx_i, xcx_r, xcx_n, xcx_l, xcx_0, e, if_false, mr_10, mr_20, nI_add, at_eq, xcl_64, xat64 hv5, v64, esub, e2, c1, not_false_eq_true, if_true]
        first | done | rfl
  rw [e23]
  simp only [s23_0, s23_1, xcx_i, xcx_r, xcx_n, xcx_l, xcx_0]
  exact loop 20 0 (by omega)
theorem Xearliest {σ : xM} {n v pp nd : Nat} {le dr co st dp wa : Nat → Nat} {L : Nat → Option (Nat × Nat)} {Q : Int32 → xM → Prop} (hB : pB σ pp nd dp wa) (hV : vX σ n le dr co st) (hL : lX σ n L) (hS : shX σ n le dp) (hv : v < n) : xI1 22 [.ref 63, .ref pp, .int (nI v)] σ Q = Q (fcode (ffH le dr st dp wa L n v (200 - co v) (co v))) σ := by
  have hV2 := hV
  obtain ⟨hn5, k1, hrow⟩ := hV
  obtain ⟨⟨v1, v2, v3, v4, v5, v6, v7⟩, v64, v65, v66, v67⟩ := hrow v hv
  have hv5 : v < 5 := by omega
  have hpp := hB.1
  have hW : ∀ (k : Nat), k < 100000 → ∀ Q : Int32 → xM → Prop, xI1 76 [.ref pp, .int (nI k)] σ Q = Q (nI (wa k)) σ := fun k hk Q => Xwa hB hk
  have loop : ∀ m h, h + m = 200 → ∀ l4 l5, xC 22 9 [some (.ref 63), some (.ref pp), some (.int (nI v)), some (.int (nI h)), l4, l5] [] σ (xqI Q) = Q (fcode (ffH le dr st dp wa L n v m h)) σ := by
    intro m
    induction m with
    | zero =>
      intro h hh l4 l5
      obtain rfl : h = 200 := by omega
      have e : ((199 : Int32) < nI 200) = True := eq_true (by decide)
      rw [s22_9]
      simp only [s22_0, s22_1, s22_4, s22_5, s22_8, s22_10, s22_13, s22_16, s22_17, s22_18_4, s22_18_7, s22_21, s22_22, s22_23, s22_24, s22_27, s22_28, s22_31, s22_32_4, s22_32_7, s22_35, s22_38, s22_40, s22_41, s22_42, s22_43, s22_44, s22_47, s22_48, s22_51, s22_52, s22_53, s22_55, s22_56, s22_59, s22_61, s22_63, s22_64, s22_67, s22_68, s22_71, s22_72, s22_74, s22_75, s22_76, s22_79, s22_82, s22_83, xcx_i, xcx_r, xcx_n, xcx_l, xcx_0, e, if_true]
      first | done | rfl
    | succ m ih =>
      intro h hh l4 l5
      have e : ((199 : Int32) < nI h) = False := eq_false (fun q => by have := (nI_ltI (a := 199) (b := h) (by decide) (by omega)).mp q; omega)
      have w1 := (hB.2.2.2.2.2 h).2.2
      have w2 := (hB.2.2.2.2.2 (h + st v)).2.2
      have hmn : (if nI (wa (h + st v)) < nI (wa h) then nI (wa (h + st v)) else nI (wa h)) = nI (min (wa h) (wa (h + st v))) := mnN (by omega) (by omega)
      have hF : ∀ Q : Int32 → xM → Prop, xI1 23 [.ref 63, .int (nI v), .int (nI h), .int (nI (dr v + 1) - nI (min (wa h) (wa (h + st v))))] σ Q = _ := fun Q => XfirstPlace hV2 hL hS hB.2.2.2.2.1 hv (by omega) rfl (by omega)
      have ihh := ih (h + 1) (by omega)
      rw [show ffH le dr st dp wa L n v (m + 1) h = (match ffP le dr st dp wa L n v h 20 0 with | some p => some (h, p) | none => ffH le dr st dp wa L n v m (h + 1)) from rfl]
      rw [s22_9]
      cases hf : ffP le dr st dp wa L n v h 20 0 with
      | none =>
        have e4 : (ncode (none : Option Nat) = -1) = True := eq_true rfl
        rcases hpp with rfl | rfl <;> simp only [s22_0, s22_1, s22_4, s22_5, s22_8, s22_10, s22_13, s22_16, s22_17, s22_18_4, s22_18_7, s22_21, s22_22, s22_23, s22_24, s22_27, s22_28, s22_31, s22_32_4, s22_32_7, s22_35, s22_38, s22_40, s22_41, s22_42, s22_43, s22_44, s22_47, s22_48, s22_51, s22_52, s22_53, s22_55, s22_56, s22_59, s22_61, s22_63, s22_64, s22_67, s22_68, s22_71, s22_72, s22_74, s22_75, s22_76, s22_79, s22_82, s22_83, xcx_i, xcx_r, xcx_n, xcx_l, xcx_0, e, if_false, hW h (by omega), at_eq, xcl_65, xcl_67, xat65 hv5, xat67 hv5, v65, v67, nI_add, hW (h + st v) (by omega), min_eq, hmn, al_1, hF, hf, e4, if_true, not_true, nI_1, true_or, or_true, ihh]
      | some p =>
        have hp := ffP_bd _ _ _ hf
        have e4 : (ncode (some p) = -1) = False := nI_m1 (by omega)
        have e5 : nI h * 1000 + ncode (some p) = nI (1000 * h + p) := by rw [show ncode (some p) = nI p from rfl, mr_1000, nI_add, Nat.mul_comm h 1000]
        rcases hpp with rfl | rfl <;> simp only [s22_0, s22_1, s22_4, s22_5, s22_8, s22_10, s22_13, s22_16, s22_17, s22_18_4, s22_18_7, s22_21, s22_22, s22_23, s22_24, s22_27, s22_28, s22_31, s22_32_4, s22_32_7, s22_35, s22_38, s22_40, s22_41, s22_42, s22_43, s22_44, s22_47, s22_48, s22_51, s22_52, s22_53, s22_55, s22_56, s22_59, s22_61, s22_63, s22_64, s22_67, s22_68, s22_71, s22_72, s22_74, s22_75, s22_76, s22_79, s22_82, s22_83, xcx_i, xcx_r, xcx_n, xcx_l, xcx_0, e, if_false, hW h (by omega), at_eq, xcl_65, xcl_67, xat65 hv5, xat67 hv5, v65, v67, nI_add, hW (h + st v) (by omega), min_eq, hmn, al_1, hF, hf, e4, not_false_eq_true, if_true, e5, true_or, or_true, fcode]
  rw [e22]
  rcases hpp with rfl | rfl <;> simp only [s22_0, s22_1, s22_4, s22_5, s22_8, xcx_i, xcx_r, xcx_n, xcx_l, xcx_0, at_eq, xcl_66, xat66 hv5, v66] <;> exact loop (200 - co v) (co v) (by omega) _ _
theorem MfindsFit {σ : xM} {n v pp nd : Nat} {le dr co st dp wa : Nat → Nat} {L : Nat → Option (Nat × Nat)} {Q : Int32 → xM → Prop} (hB : pB σ pp nd dp wa) (hV : vM σ n le dr co st) (hL : lM σ n L) (hS : shM σ n le dp) (hv : v < n) : xI1 233 [.ref 84, .int (nI v)] σ Q = Q (fcode (ffH le dr st dp wa L n v (200 - co v) (co v))) σ := by
  have hV2 := hV
  obtain ⟨hn5, k1, hrow⟩ := hV
  obtain ⟨⟨v1, v2, v3, v4, v5, v6, v7⟩, v64, v65, v66, v67⟩ := hrow v hv
  have hv5 : v < 5 := by omega
  have hY : ∀ (p h : Nat) (Q : Int32 → xM → Prop), xI1 227 [.ref 84, .int (nI v), .int (nI p), .int (nI h)] σ Q = _ := fun p h Q => Mwhy_eq hB hV2 hL hS hv
  have inner : ∀ h, co v ≤ h → h ≤ 199 → ∀ m t, t + m = 20 → ∃ l3, xC 233 16 [some (.ref 84), some (.int (nI v)), some (.int (nI h)), some (.int (nI (10 * t)))] [] σ (xqI Q) = (match ffP le dr st dp wa L n v h m t with | some p => Q (nI (1000 * h + p)) σ | none => xC 233 54 [some (.ref 84), some (.int (nI v)), some (.int (nI h)), l3] [] σ (xqI Q)) := by
    intro h hc hh m
    induction m with
    | zero =>
      intro t ht
      obtain rfl : t = 20 := by omega
      have e : ((200 : Int32) < nI (10 * 20 + le v)) = True := eq_true ((nI_ltI (a := 200) (by decide) (by omega)).mpr (by omega))
      refine ⟨some (.int (nI (10 * 20))), ?_⟩
      rw [s233_16]
      simp only [s233_17, s233_18, s233_19, s233_20, s233_23, s233_24, s233_27, xcx_i, xcx_r, xcx_n, xcx_l, xcx_0, Mov0 hv5, v64, nI_add, e, if_true]
      first | done | rfl
    | succ m ih =>
      intro t ht
      have e : ((200 : Int32) < nI (10 * t + le v)) = ¬ (10 * t + le v ≤ 200) := (nI_ltL (a := 200) (b := 10 * t + le v) (by decide) (by omega)).trans (propext ⟨fun q => by omega, fun q => by omega⟩)
      rw [show ffP le dr st dp wa L n v h (m + 1) t = (if 10 * t + le v ≤ 200 then (if gdF le dr st dp wa L n v (10 * t) h then some (10 * t) else ffP le dr st dp wa L n v h m (t + 1)) else none) from rfl]
      by_cases c1 : 10 * t + le v ≤ 200
      · have hg := whyF_good (dr := dr) (st := st) (dp := dp) (wa := wa) (L := L) hn5 hc c1 hh
        by_cases c2 : gdF le dr st dp wa L n v (10 * t) h = true
        · have c3 : whyF le dr co st dp wa L n v (nI (10 * t)) (nI h) = 0 := by rw [hg]; exact c2
          refine ⟨none, ?_⟩
          rw [s233_16]
          simp only [s233_17, s233_18, s233_19, s233_20, s233_23, s233_24, s233_27, s233_30, s233_31, s233_32, s233_33, s233_34, s233_37, s233_40, s233_43, s233_44, s233_45, s233_46, s233_47, xcx_i, xcx_r, xcx_n, xcx_l, xcx_0, Mov0 hv5, v64, nI_add, e, c1, not_true, if_false, hY, c3, ml_1000, if_true, c2, true_or, or_true, not_false_eq_true]
        · have c3 : (whyF le dr co st dp wa L n v (nI (10 * t)) (nI h) = 0) = False := by rw [hg]; exact eq_false c2
          obtain ⟨l3, ihh⟩ := ih (t + 1) (by omega)
          refine ⟨l3, ?_⟩
          have e10 : nI (10 * t) + 10 = nI (10 * (t + 1)) := by rw [al_10]; rfl
          rw [s233_16]
          simp only [s233_17, s233_18, s233_19, s233_20, s233_23, s233_24, s233_27, s233_30, s233_31, s233_32, s233_33, s233_34, s233_37, s233_40, s233_43, s233_44, s233_45, s233_46, s233_47, s233_48, s233_51, xcx_i, xcx_r, xcx_n, xcx_l, xcx_0, Mov0 hv5, v64, nI_add, e, c1, not_true, if_false, hY, c3, if_true, c2, true_or, or_true, not_false_eq_true, e10, Bool.false_eq_true]
          exact ihh
      · refine ⟨some (.int (nI (10 * t))), ?_⟩
        rw [s233_16]
        simp only [s233_17, s233_18, s233_19, s233_20, s233_23, s233_24, s233_27, xcx_i, xcx_r, xcx_n, xcx_l, xcx_0, Mov0 hv5, v64, nI_add, e, c1, not_false_eq_true, if_true, if_false]
  have loop : ∀ m h, h + m = 200 → co v ≤ h → ∀ l3, xC 233 7 [some (.ref 84), some (.int (nI v)), some (.int (nI h)), l3] [] σ (xqI Q) = Q (fcode (ffH le dr st dp wa L n v m h)) σ := by
    intro m
    induction m with
    | zero =>
      intro h hh hc l3
      obtain rfl : h = 200 := by omega
      have e : ((200 : Int32) ≤ nI 200) = True := eq_true (by decide)
      rw [s233_7]
      simp only [s233_8, s233_11, s233_60, s233_61, xcx_i, xcx_r, xcx_n, xcx_l, xcx_0, e, if_true]
      first | done | rfl
    | succ m ih =>
      intro h hh hc l3
      have e : ((200 : Int32) ≤ nI h) = False := eq_false (fun q => by have := (nI_leI (a := 200) (b := h) (by decide) (by omega)).mp q; omega)
      obtain ⟨l3', hin⟩ := inner h hc (by omega) 20 0 (by omega)
      rw [show ffH le dr st dp wa L n v (m + 1) h = (match ffP le dr st dp wa L n v h 20 0 with | some p => some (h, p) | none => ffH le dr st dp wa L n v m (h + 1)) from rfl]
      rw [s233_7]
      simp only [s233_8, s233_11, s233_14, s233_15, xcx_i, xcx_r, xcx_n, xcx_l, xcx_0, e, if_false]
      refine Eq.trans hin ?_
      cases ffP le dr st dp wa L n v h 20 0 with
      | none =>
        simp only [s233_54, s233_57, xcx_i, xcx_r, xcx_n, xcx_l, xcx_0, nI_1]
        exact ih (h + 1) (by omega) (by omega) _
      | some p => rfl
  rw [e233]
  simp only [s233_0, s233_1, s233_2, s233_3, s233_6, xcx_i, xcx_r, xcx_n, xcx_l, xcx_0, Mov2 hv5, v66]
  exact loop (200 - co v) (co v) (by omega) (Nat.le_refl _) _
theorem op_firstFit (a : Int32) : xOp 139 234 [.int a] := by
  intro xs L σ hI
  obtain ⟨n, le, dr, co, st, La, p, nd, dp, wa, hVX, hVM, hLX, hLM, hSX, hB, hfit⟩ := gB.get hI.2.2.2.2.2.2.1 hI.1
  have hn5 := hVX.1
  have hn31 : n < 2147483648 := by omega
  have hkx := hVX.2.1
  have hkm := hVM.2.1
  have hpe := hB.2.1
  by_cases hG : 0 ≤ a ∧ a ≤ nI n - 1
  · obtain ⟨v, hv, rfl⟩ := (rng_iff hn31).mp hG
    have hv5 : v < 5 := by omega
    have b0 : v < 100000 := by omega
    have g1 := eq_true hG.1
    have g2 := eq_true hG.2
    have hE : ∀ Q : Int32 → xM → Prop, xI1 22 [.ref 63, .ref p, .int (nI v)] σ Q = _ := fun Q => Xearliest hB hVX hLX hSX hv
    cases hLv : La v with
    | some qh =>
      obtain ⟨q, h⟩ := qh
      obtain ⟨x1, x2, x3, x4⟩ := (hLX v hv).2 q h hLv
      obtain ⟨y1, y2, -, -⟩ := (hLM v hv).2 q h hLv
      have hm1 := nI_m1 (show h < 2147483648 by omega)
      rw [e139]
      simp only [s139_0, s139_1, s139_4, s139_5, s139_8, s139_11, s139_12, s139_15, s139_16, s139_19, s139_22, s139_23, s139_24, s139_25, s139_28, s139_29, s139_32, s139_33, s139_36, xcx_i, xcx_r, xcx_n, xcx_l, xcx_0, hasVisit_eq, isLaid_eq hv5, hkx, x2, hm1, g1, g2, and_self, xb_f, ite_not, not_true, not_false_eq_true, if_true, if_false, true_or, or_true, true_and]
      rw [e234]
      simp only [s234_0, s234_1, s234_2, s234_5, s234_8, s234_9, s234_12, s234_13, s234_14, s234_15, s234_18, s234_19, s234_20, s234_21, s234_24, s234_25, s234_26, s234_29, xcx_i, xcx_r, xcx_n, xcx_l, xcx_0, isVisit_eq, hkm, y2, hm1, g1, g2, and_self, xb_f, ite_not, not_true, not_false_eq_true, if_true, if_false, xcl_109, xln_109, b0, hv5, cl_s, pos_s, true_or, or_true, true_and]
      first | exact hI | exact ⟨trivial, hI⟩
    | none =>
      have h1 := (hLX v hv).1 hLv
      have h2 := (hLM v hv).1 hLv
      have hfin : xI1 234 [.ref 84, .int (nI v)] σ (fun r2 σ2 => fcode (ffH le dr st dp wa La n v (200 - co v) (co v)) = r2 ∧ xInv xs L σ2) := by
        rw [e234]
        simp only [s234_0, s234_1, s234_2, s234_5, s234_8, s234_9, s234_12, s234_13, s234_14, s234_15, s234_18, s234_19, s234_20, s234_21, xcx_i, xcx_r, xcx_n, xcx_l, xcx_0, isVisit_eq, hkm, h2, g1, g2, and_self, xb_f, ite_not, not_true, not_false_eq_true, if_true, if_false, xcl_109, xln_109, b0, hv5, cl_s, pos_s, true_or, or_true, true_and]
        refine Msounds_eq hB hVM (fun τ hs hsh => ?_)
        have hF : ∀ Q : Int32 → xM → Prop, xI1 233 [.ref 84, .int (nI v)] τ Q = _ := fun Q => MfindsFit (hB.only hs (by decide)) (hVM.only hs (by decide)) (hLM.only hs (by decide)) hsh hv
        simp only [s234_24, s234_25, s234_26, s234_29, xcx_i, xcx_r, xcx_n, xcx_l, xcx_0, hF, true_or, or_true, true_and]
        exact hI.sim (hs.sim scr118)
      rw [e139]
      rcases hB.1 with rfl | rfl <;> simp only [s139_0, s139_1, s139_4, s139_5, s139_8, s139_11, s139_12, s139_15, s139_16, s139_19, s139_22, s139_23, s139_24, s139_25, s139_28, s139_29, s139_32, s139_33, s139_36, xcx_i, xcx_r, xcx_n, xcx_l, xcx_0, hasVisit_eq, isLaid_eq hv5, hkx, hpe, h1, g1, g2, and_self, xb_f, ite_not, not_true, not_false_eq_true, if_true, if_false, hE, true_or, or_true, true_and] <;> exact hfin
  · rw [e139]
    simp only [s139_0, s139_1, s139_4, s139_5, s139_8, s139_11, s139_12, s139_15, s139_16, s139_19, s139_22, s139_23, s139_24, s139_25, s139_28, s139_29, s139_32, s139_33, s139_36, xcx_i, xcx_r, xcx_n, xcx_l, xcx_0, hasVisit_eq, hkx, xb_f, ite_not, if_neg hG, true_or, or_true, true_and]
    rw [e234]
    simp only [s234_0, s234_1, s234_2, s234_5, s234_8, s234_9, s234_12, s234_13, s234_14, s234_15, s234_18, s234_19, s234_20, s234_21, s234_24, s234_25, s234_26, s234_29, xcx_i, xcx_r, xcx_n, xcx_l, xcx_0, isVisit_eq, hkm, xb_f, ite_not, if_neg hG, true_or, or_true, true_and]
    first | exact hI | exact ⟨rfl, hI⟩
