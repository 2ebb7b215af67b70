/-! neighbours and reasons -/
def cnf (le st : Nat → Nat) (L : Nat → Option (Nat × Nat)) (v p h i : Nat) : Bool := match L i with
  | none => false
  | some (pi, hi) => decide (i ≠ v ∧ h < hi + st i ∧ hi < h + st v ∧ p < pi + le i + 10 ∧ pi < p + le v + 10)
def nbF (le st : Nat → Nat) (L : Nat → Option (Nat × Nat)) (v p h : Nat) : Nat → Nat → Option Nat
  | 0, _ => none
  | k + 1, i => if cnf le st L v p h i then some i else nbF le st L v p h k (i + 1)
def ncode : Option Nat → Int32
  | none => -1
  | some i => nI i
theorem nbF_lt {le st : Nat → Nat} {L : Nat → Option (Nat × Nat)} {v p h : Nat} : ∀ k i j, nbF le st L v p h k i = some j → j < i + k := by
  intro k
  induction k with
  | zero => intro i j q; cases q
  | succ k ih =>
    intro i j q
    unfold nbF at q
    split at q
    · cases q; omega
    · have := ih _ _ q; omega
theorem nI_m1 {n : Nat} (h : n < 2147483648) : (nI n = -1) = False := eq_false (fun e => by
  have e1 : (nI n).toInt = -1 := by rw [e]; decide
  rw [nI_ti h] at e1; omega)
theorem xat64 {σ : xM} {v : Nat} (h : v < 5) : xat σ 64 (nI v) = σ.1 64 v := xat_n (by rw [xln_64]; exact h)
theorem xat65 {σ : xM} {v : Nat} (h : v < 5) : xat σ 65 (nI v) = σ.1 65 v := xat_n (by rw [xln_65]; exact h)
theorem xat66 {σ : xM} {v : Nat} (h : v < 5) : xat σ 66 (nI v) = σ.1 66 v := xat_n (by rw [xln_66]; exact h)
theorem xat67 {σ : xM} {v : Nat} (h : v < 5) : xat σ 67 (nI v) = σ.1 67 v := xat_n (by rw [xln_67]; exact h)
theorem xat68 {σ : xM} {v : Nat} (h : v < 5) : xat σ 68 (nI v) = σ.1 68 v := xat_n (by rw [xln_68]; exact h)
theorem xat69 {σ : xM} {v : Nat} (h : v < 5) : xat σ 69 (nI v) = σ.1 69 v := xat_n (by rw [xln_69]; exact h)
theorem Xneighbour {σ : xM} {n v p h : Nat} {le dr co st : Nat → Nat} {L : Nat → Option (Nat × Nat)} {Q : Int32 → xM → Prop} (hV : vX σ n le dr co st) (hL : lX σ n L) (hv : v < n) (hp : p ≤ 200) (hh : h ≤ 199) : xI1 20 [.ref 63, .int (nI v), .int (nI p), .int (nI h)] σ Q = Q (ncode (nbF le st L v p h n 0)) σ := by
  obtain ⟨hn5, k1, hrow⟩ := hV
  obtain ⟨⟨v1, v2, v3, v4, v5, v6, v7⟩, v64, v65, v66, v67⟩ := hrow v hv
  have loop : ∀ m i, i + m = n → xC 20 27 [some (.ref 63), some (.int (nI v)), some (.int (nI p)), some (.int (nI h)), some (.int (nI (p + le v))), some (.int (nI (h + st v))), some (.int (nI i))] [] σ (xqI Q) = Q (ncode (nbF le st L v p h m i)) σ := by
    intro m
    induction m with
    | zero =>
      intro i hi
      obtain rfl : i = n := by omega
      have e : (nI i ≤ nI i) = True := eq_true (Int32.le_refl _)
      rw [s20_27]
      simp only [s20_0, s20_1, s20_2, s20_5, s20_6, s20_9, s20_10, s20_12, s20_13, s20_14, s20_17, s20_18, s20_21, s20_22, s20_24, s20_25, s20_29, s20_30, s20_33, s20_36, s20_38, s20_39, s20_42, s20_43, s20_46, s20_48, s20_51, s20_52, s20_55, s20_56, s20_57, s20_60, s20_62, s20_65, s20_66, s20_69, s20_71, s20_74, s20_75, s20_78, s20_79, s20_82, s20_84, s20_87, s20_89, s20_92, s20_93, s20_94, s20_97, s20_99, s20_102, s20_103, s20_106, s20_108, s20_111, s20_112, s20_114, s20_115, s20_118, s20_119, s20_122, s20_124, s20_127, s20_129, s20_131, s20_132, s20_135, s20_137, s20_138, s20_141, s20_144, s20_145, xcx_i, xcx_r, xcx_n, xcx_l, xcx_0, k1, e, if_true]
      first | done | rfl
    | succ m ih =>
      intro i hi
      have hin : i < n := by omega
      obtain ⟨⟨w1, w2, w3, w4, w5, w6, w7⟩, w64, w65, w66, w67⟩ := hrow i hin
      obtain ⟨l1, l2⟩ := hL i hin
      have e : (nI n ≤ nI i) = False := eq_false (fun q => by have := (nI_leI (a := n) (b := i) (by omega) (by omega)).mp q; omega)
      have i5 : i < 5 := by omega
      have eiv : (nI i = nI v) = (i = v) := propext (nI_eq (by omega) (by omega))
      rw [show nbF le st L v p h (m + 1) i = if cnf le st L v p h i then some i else nbF le st L v p h m (i + 1) from rfl]
      have ihh := ih (i + 1) (by omega)
      rw [s20_27]
      cases hLi : L i with
      | none =>
        have h69 := l1 hLi
        have hc : cnf le st L v p h i = false := by unfold cnf; rw [hLi]
        simp only [s20_0, s20_1, s20_2, s20_5, s20_6, s20_9, s20_10, s20_12, s20_13, s20_14, s20_17, s20_18, s20_21, s20_22, s20_24, s20_25, s20_29, s20_30, s20_33, s20_36, s20_38, s20_39, s20_42, s20_43, s20_46, s20_48, s20_51, s20_52, s20_55, s20_56, s20_57, s20_60, s20_62, s20_65, s20_66, s20_69, s20_71, s20_74, s20_75, s20_78, s20_79, s20_82, s20_84, s20_87, s20_89, s20_92, s20_93, s20_94, s20_97, s20_99, s20_102, s20_103, s20_106, s20_108, s20_111, s20_112, s20_114, s20_115, s20_118, s20_119, s20_122, s20_124, s20_127, s20_129, s20_131, s20_132, s20_135, s20_137, s20_138, s20_141, s20_144, s20_145, xcx_i, xcx_r, xcx_n, xcx_l, xcx_0, k1, e, if_false, at_eq, xcl_69, xat69 i5, h69, if_true, ite_self, nI_1, hc, Bool.false_eq_true, ihh]
      | some ph =>
        obtain ⟨pi, hi2⟩ := ph
        obtain ⟨h68, h69, b1, b2⟩ := l2 pi hi2 hLi
        have e1 : (nI (hi2 + st i) ≤ nI h) = ¬ h < hi2 + st i := by rw [nI_leL (by omega) (by omega)]; exact propext ⟨fun q => by omega, fun q => by omega⟩
        have e2 : (nI (h + st v) ≤ nI hi2) = ¬ hi2 < h + st v := by rw [nI_leL (by omega) (by omega)]; exact propext ⟨fun q => by omega, fun q => by omega⟩
        have e3 : (nI (pi + le i + 10) ≤ nI p) = ¬ p < pi + le i + 10 := by rw [nI_leL (by omega) (by omega)]; exact propext ⟨fun q => by omega, fun q => by omega⟩
        have e4 : (nI (p + le v + 10) ≤ nI pi) = ¬ pi < p + le v + 10 := by rw [nI_leL (by omega) (by omega)]; exact propext ⟨fun q => by omega, fun q => by omega⟩
        have f1 : (nI h < nI (hi2 + st i)) = (h < hi2 + st i) := nI_ltL (by omega) (by omega)
        have f2 : (nI hi2 < nI (h + st v)) = (hi2 < h + st v) := nI_ltL (by omega) (by omega)
        have f3 : (nI p < nI (pi + le i + 10)) = (p < pi + le i + 10) := nI_ltL (by omega) (by omega)
        have f4 : (nI pi < nI (p + le v + 10)) = (pi < p + le v + 10) := nI_ltL (by omega) (by omega)
        simp only [s20_0, s20_1, s20_2, s20_5, s20_6, s20_9, s20_10, s20_12, s20_13, s20_14, s20_17, s20_18, s20_21, s20_22, s20_24, s20_25, s20_29, s20_30, s20_33, s20_36, s20_38, s20_39, s20_42, s20_43, s20_46, s20_48, s20_51, s20_52, s20_55, s20_56, s20_57, s20_60, s20_62, s20_65, s20_66, s20_69, s20_71, s20_74, s20_75, s20_78, s20_79, s20_82, s20_84, s20_87, s20_89, s20_92, s20_93, s20_94, s20_97, s20_99, s20_102, s20_103, s20_106, s20_108, s20_111, s20_112, s20_114, s20_115, s20_118, s20_119, s20_122, s20_124, s20_127, s20_129, s20_131, s20_132, s20_135, s20_137, s20_138, s20_141, s20_144, s20_145, xcx_i, xcx_r, xcx_n, xcx_l, xcx_0, k1, e, if_false, at_eq, xcl_64, xcl_67, xcl_68, xcl_69, xat64 i5, xat67 i5, xat68 i5, xat69 i5, h68, h69, w64, w67, eiv, nI_m1 (show hi2 < 2147483648 by omega), nI_add, al_10, e1, e2, e3, e4, f1, f2, f3, f4, ite_not, nI_1, ihh]
        by_cases hc : cnf le st L v p h i = true
        · have hc2 := hc
          unfold cnf at hc2
          rw [hLi] at hc2
          obtain ⟨c1, c2, c3, c4, c5⟩ := of_decide_eq_true hc2
          simp only [hc, if_true, if_neg c1, if_pos c2, if_pos c3, if_pos c4, if_pos c5, ncode]
        · simp only [hc, if_false, Bool.false_eq_true]
          unfold cnf at hc
          rw [hLi] at hc
          have hc3 : ¬ (i ≠ v ∧ h < hi2 + st i ∧ hi2 < h + st v ∧ p < pi + le i + 10 ∧ pi < p + le v + 10) := fun q => hc (decide_eq_true q)
          by_cases c1 : i = v
          · rw [if_pos c1]
          · rw [if_neg c1]
            by_cases c2 : h < hi2 + st i
            · rw [if_pos c2]
              by_cases c3 : hi2 < h + st v
              · rw [if_pos c3]
                by_cases c4 : p < pi + le i + 10
                · rw [if_pos c4, if_neg (fun c5 => hc3 ⟨c1, c2, c3, c4, c5⟩)]
                · rw [if_neg c4]
              · rw [if_neg c3]
            · rw [if_neg c2]
  have v5 : v < 5 := by omega
  rw [e20]
  simp only [s20_0, s20_1, s20_2, s20_5, s20_6, s20_9, s20_10, s20_12, s20_13, s20_14, s20_17, s20_18, s20_21, s20_22, s20_24, s20_25, xcx_i, xcx_r, xcx_n, xcx_l, xcx_0, at_eq, xcl_64, xcl_67, xat64 v5, xat67 v5, v64, v67, nI_add]
  exact loop n 0 (by omega)
def wcode : Option Nat → Int32
  | none => 0
  | some i => 50 + nI i
theorem ncode_why {o : Option Nat} (h : ∀ i, o = some i → i < 100) : (if ncode o = -1 then (0 : Int32) else 50 + ncode o) = wcode o := by
  cases o with
  | none => exact if_pos rfl
  | some i =>
    have := h i rfl
    exact if_neg (fun q => by rw [show ncode (some i) = nI i from rfl, nI_m1 (by omega)] at q; exact q)
def whyF (le dr co st dp wa : Nat → Nat) (L : Nat → Option (Nat × Nat)) (n v : Nat) (p h : Int32) : Int32 :=
  if h < nI (co v) then 1 else if ¬ (0 ≤ p ∧ p ≤ nI (200 - le v)) then 2 else if 199 < h then 2 else
  if ldN dp p.toNatClampNeg (le v) + wa h.toNatClampNeg < dr v + 1 then 3 else if ldN dp p.toNatClampNeg (le v) + wa (h.toNatClampNeg + st v) < dr v + 1 then 4 else
  wcode (nbF le st L v p.toNatClampNeg h.toNatClampNeg n 0)
theorem nI_sub200 {a : Nat} (h : a ≤ 200) : (200 : Int32) - nI a = nI (200 - a) := by
  rw [show (200 : Int32) = nI 200 from rfl, nI_iI, nI_iI, nI_iI, iI_sub]
  congr 1; omega
theorem XreasonAgainst {σ : xM} {n v pp nd : Nat} {p h : Int32} {le dr co st dp wa : Nat → Nat} {L : Nat → Option (Nat × Nat)} {Q : Int32 → xM → Prop} (hB : pB σ pp nd dp wa) (hV : vX σ n le dr co st) (hL : lX σ n L) (hv : v < n) : xI1 19 [.ref 63, .ref pp, .int (nI v), .int p, .int h] σ Q = Q (whyF le dr co st dp wa L n v p h) σ := by
  have hV2 := hV
  obtain ⟨hn5, k1, hrow⟩ := hV
  obtain ⟨⟨v1, v2, v3, v4, v5, v6, v7⟩, v64, v65, v66, v67⟩ := hrow v hv
  have hv5 : v < 5 := by omega
  have hpp := hB.1
  unfold whyF
  by_cases c1 : h < nI (co v)
  · rw [e19]
    rcases hpp with rfl | rfl <;> simp only [s19_0, s19_2, s19_3, s19_6, s19_7, s19_10, s19_13, s19_14, s19_15, s19_16, s19_17, s19_20, s19_21, s19_24, s19_25, s19_28, s19_29, s19_32, s19_35, s19_37, s19_40, s19_43, s19_44, s19_45, s19_46, s19_47, s19_48, s19_51, s19_52, s19_55_4, s19_55_7, s19_58, s19_60, s19_62, s19_63, s19_65_4, s19_65_7, s19_68, s19_69, s19_70, s19_73, s19_74, s19_77, s19_78, s19_79, s19_82, s19_83, s19_84, s19_86, s19_87, s19_89, s19_90, s19_93, s19_94, s19_97, s19_98_4, s19_98_7, s19_101, s19_102, s19_103, s19_106, s19_107, s19_110, s19_111, s19_112, s19_115, s19_116, s19_117, s19_118, s19_119, s19_120, s19_122, s19_125, s19_127, s19_129, s19_130, s19_133, s19_134, s19_137, s19_139, s19_141, s19_142, xcx_i, xcx_r, xcx_n, xcx_l, xcx_0, at_eq, xcl_66, xat66 hv5, v66, Int32.not_le.mpr c1, c1, if_true, if_false]
  have c1' := Int32.not_lt.mp c1
  obtain ⟨h, hh31, rfl⟩ := nI_of (x := h) (Int32.not_lt.mpr (Int32.le_trans (nI_pos' (by omega)) c1'))
  have esub := nI_sub200 (show le v ≤ 200 by omega)
  by_cases c2 : 0 ≤ p ∧ p ≤ nI (200 - le v)
  · obtain ⟨p, hp31, rfl⟩ := nI_of (x := p) (Int32.not_lt.mpr c2.1)
    have hp : p ≤ 200 - le v := (nI_leI hp31 (by omega)).mp c2.2
    by_cases c3 : 199 < nI h
    · have c3' := Int32.not_le.mpr c3
      rw [e19]
      rcases hpp with rfl | rfl <;> simp only [s19_0, s19_2, s19_3, s19_6, s19_7, s19_10, s19_13, s19_14, s19_15, s19_16, s19_17, s19_20, s19_21, s19_24, s19_25, s19_28, s19_29, s19_32, s19_35, s19_37, s19_40, s19_43, s19_44, s19_45, s19_46, s19_47, s19_48, s19_51, s19_52, s19_55_4, s19_55_7, s19_58, s19_60, s19_62, s19_63, s19_65_4, s19_65_7, s19_68, s19_69, s19_70, s19_73, s19_74, s19_77, s19_78, s19_79, s19_82, s19_83, s19_84, s19_86, s19_87, s19_89, s19_90, s19_93, s19_94, s19_97, s19_98_4, s19_98_7, s19_101, s19_102, s19_103, s19_106, s19_107, s19_110, s19_111, s19_112, s19_115, s19_116, s19_117, s19_118, s19_119, s19_120, s19_122, s19_125, s19_127, s19_129, s19_130, s19_133, s19_134, s19_137, s19_139, s19_141, s19_142, xcx_i, xcx_r, xcx_n, xcx_l, xcx_0, at_eq, xcl_64, xcl_66, xat64 hv5, xat66 hv5, v64, v66, esub, within_eq, xb_f, ite_not, c1, c1', c2, c3, c3', not_true, and_self, if_true, if_false, true_or, or_true, true_and]
    · have c3' := Int32.not_lt.mp c3
      have hh : h ≤ 199 := (nI_leI (b := 199) hh31 (by decide)).mp c3'
      have hld := ldN_le hB.2.2.2.2.1 p (le v)
      have hw1 := (hB.2.2.2.2.2 h).2.2
      have hw2 := (hB.2.2.2.2.2 (h + st v)).2.2
      have hX : ∀ Q : Int32 → xM → Prop, xI1 82 [.ref pp, .int (nI p), .int (nI (le v))] σ Q = _ := fun Q => XleastDepth hB (by omega)
      have hW : ∀ (k : Nat), k < 100000 → ∀ Q : Int32 → xM → Prop, xI1 76 [.ref pp, .int (nI k)] σ Q = Q (nI (wa k)) σ := fun k hk Q => Xwa hB hk
      have hN : ∀ Q : Int32 → xM → Prop, xI1 20 [.ref 63, .int (nI v), .int (nI p), .int (nI h)] σ Q = _ := fun Q => Xneighbour hV2 hL hv (by omega) hh
      have e1 : (nI (ldN dp p (le v) + wa h) < nI (dr v + 1)) = (ldN dp p (le v) + wa h < dr v + 1) := nI_ltL (by omega) (by omega)
      have e2 : (nI (ldN dp p (le v) + wa (h + st v)) < nI (dr v + 1)) = (ldN dp p (le v) + wa (h + st v) < dr v + 1) := nI_ltL (by omega) (by omega)
      have e1' : (nI (dr v + 1) ≤ nI (ldN dp p (le v) + wa h)) = ¬ (ldN dp p (le v) + wa h < dr v + 1) := by rw [nI_leL (by omega) (by omega)]; exact propext ⟨fun q => by omega, fun q => by omega⟩
      have e2' : (nI (dr v + 1) ≤ nI (ldN dp p (le v) + wa (h + st v))) = ¬ (ldN dp p (le v) + wa (h + st v) < dr v + 1) := by rw [nI_leL (by omega) (by omega)]; exact propext ⟨fun q => by omega, fun q => by omega⟩
      have hnc := ncode_why (o := nbF le st L v p h n 0) (fun i hi => by have := nbF_lt _ _ _ hi; omega)
      rw [e19, nI_cl h (by omega), nI_cl p (by omega)]
      rcases hpp with rfl | rfl
      · simp only [s19_0, s19_2, s19_3, s19_6, s19_7, s19_10, s19_13, s19_14, s19_15, s19_16, s19_17, s19_20, s19_21, s19_24, s19_25, s19_28, s19_29, s19_32, s19_35, s19_37, s19_40, s19_43, s19_44, s19_45, s19_46, s19_47, s19_48, s19_51, s19_52, s19_55_4, s19_55_7, s19_58, s19_60, s19_62, s19_63, s19_65_4, s19_65_7, s19_68, s19_69, s19_70, s19_73, s19_74, s19_77, s19_78, s19_79, s19_82, s19_83, s19_84, s19_86, s19_87, s19_89, s19_90, s19_93, s19_94, s19_97, s19_98_4, s19_98_7, s19_101, s19_102, s19_103, s19_106, s19_107, s19_110, s19_111, s19_112, s19_115, s19_116, s19_117, s19_118, s19_119, s19_120, s19_122, s19_125, s19_127, s19_129, s19_130, s19_133, s19_134, s19_137, s19_139, s19_141, s19_142, xcx_i, xcx_r, xcx_n, xcx_l, xcx_0, at_eq, xcl_64, xcl_65, xcl_66, xcl_67, xat64 hv5, xat65 hv5, xat66 hv5, xat67 hv5, v64, v65, v66, v67, esub, within_eq, xb_f, ite_not, c1, c1', c2, c3, c3', not_true, and_self, if_true, if_false, true_or, or_true, true_and, hX, hW h (by omega), hW (h + st v) (by omega), hN, nI_add, al_1, e1, e2, e1', e2', qif (Q := Q)]
        rw [hnc]
      · simp only [s19_0, s19_2, s19_3, s19_6, s19_7, s19_10, s19_13, s19_14, s19_15, s19_16, s19_17, s19_20, s19_21, s19_24, s19_25, s19_28, s19_29, s19_32, s19_35, s19_37, s19_40, s19_43, s19_44, s19_45, s19_46, s19_47, s19_48, s19_51, s19_52, s19_55_4, s19_55_7, s19_58, s19_60, s19_62, s19_63, s19_65_4, s19_65_7, s19_68, s19_69, s19_70, s19_73, s19_74, s19_77, s19_78, s19_79, s19_82, s19_83, s19_84, s19_86, s19_87, s19_89, s19_90, s19_93, s19_94, s19_97, s19_98_4, s19_98_7, s19_101, s19_102, s19_103, s19_106, s19_107, s19_110, s19_111, s19_112, s19_115, s19_116, s19_117, s19_118, s19_119, s19_120, s19_122, s19_125, s19_127, s19_129, s19_130, s19_133, s19_134, s19_137, s19_139, s19_141, s19_142, xcx_i, xcx_r, xcx_n, xcx_l, xcx_0, at_eq, xcl_64, xcl_65, xcl_66, xcl_67, xat64 hv5, xat65 hv5, xat66 hv5, xat67 hv5, v64, v65, v66, v67, esub, within_eq, xb_f, ite_not, c1, c1', c2, c3, c3', not_true, and_self, if_true, if_false, true_or, or_true, true_and, hX, hW h (by omega), hW (h + st v) (by omega), hN, nI_add, al_1, e1, e2, e1', e2', qif (Q := Q)]
        rw [hnc]
  · rw [e19]
    rcases hpp with rfl | rfl <;> simp only [s19_0, s19_2, s19_3, s19_6, s19_7, s19_10, s19_13, s19_14, s19_15, s19_16, s19_17, s19_20, s19_21, s19_24, s19_25, s19_28, s19_29, s19_32, s19_35, s19_37, s19_40, s19_43, s19_44, s19_45, s19_46, s19_47, s19_48, s19_51, s19_52, s19_55_4, s19_55_7, s19_58, s19_60, s19_62, s19_63, s19_65_4, s19_65_7, s19_68, s19_69, s19_70, s19_73, s19_74, s19_77, s19_78, s19_79, s19_82, s19_83, s19_84, s19_86, s19_87, s19_89, s19_90, s19_93, s19_94, s19_97, s19_98_4, s19_98_7, s19_101, s19_102, s19_103, s19_106, s19_107, s19_110, s19_111, s19_112, s19_115, s19_116, s19_117, s19_118, s19_119, s19_120, s19_122, s19_125, s19_127, s19_129, s19_130, s19_133, s19_134, s19_137, s19_139, s19_141, s19_142, xcx_i, xcx_r, xcx_n, xcx_l, xcx_0, at_eq, xcl_64, xcl_66, xat64 hv5, xat66 hv5, v64, v66, esub, within_eq, xb_f, ite_not, c1, c1', c2, not_false_eq_true, if_true, if_false, true_or, or_true, true_and]
