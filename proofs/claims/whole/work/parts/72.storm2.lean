/-! storm: the best way -/
def stU (l f a : Nat) : Option (Nat × Nat × Nat) → Option (Nat × Nat × Nat)
  | none => some (l, f, a)
  | some (b, f', a') => if l < b then some (l, f, a) else some (b, f', a')
def dvF (mi by' wo : Nat → Nat) (n a : Nat) : Nat → Nat → Option (Nat × Nat × Nat) → Option (Nat × Nat × Nat)
  | 0, _, c => c
  | m + 1, f, c => dvF mi by' wo n a m (f + 1) (stU (lostF mi by' wo (decR a) n f) f a c)
def fsF (one : Bool) (n : Nat) : Nat := if one then n else 0
def odF (mi by' wo : Nat → Nat) (one : Bool) (n : Nat) : List Nat → Option (Nat × Nat × Nat) → Option (Nat × Nat × Nat)
  | [], c => c
  | a :: t, c => odF mi by' wo one n t (dvF mi by' wo n a (n + 1 - fsF one n) (fsF one n) c)
def saL : Option (Nat × Nat × Nat) → Int32
  | none => 1000000
  | some (l, _, _) => nI l
def saB : Option (Nat × Nat × Nat) → Int32
  | none => -1
  | some (l, _, _) => nI l
def saF : Option (Nat × Nat × Nat) → Int32
  | none => 0
  | some (_, f, _) => nI f
def saOk (n : Nat) (c : Option (Nat × Nat × Nat)) : Prop := ∀ l f a, c = some (l, f, a) → l < 1000000 ∧ f ≤ n
def NX (n : Nat) (τ : xM) (c : Option (Nat × Nat × Nat)) : Prop := saOk n c ∧ τ.1 73 1 = saL c ∧ ∀ l f a, c = some (l, f, a) → τ.1 73 3 = nI f ∧ rowIs τ 74 n (decR a)
def NK (n : Nat) (τ : xM) (c : Option (Nat × Nat × Nat)) : Prop := saOk n c ∧ ∀ l f a, c = some (l, f, a) → rowIs τ 121 n (decR a)
theorem stU_ok {n l f a : Nat} {c : Option (Nat × Nat × Nat)} (h : saOk n c) (hl : l < 1000000) (hf : f ≤ n) : saOk n (stU l f a c) := by
  intro l' f' a' e
  cases c with
  | none => cases e; exact ⟨hl, hf⟩
  | some x =>
    obtain ⟨b, g, d⟩ := x
    by_cases q : l < b
    · rw [show stU l f a (some (b, g, d)) = some (l, f, a) from if_pos q] at e
      cases e; exact ⟨hl, hf⟩
    · rw [show stU l f a (some (b, g, d)) = some (b, g, d) from if_neg q] at e
      exact h l' f' a' e
theorem Xdivide {σ τ0 : xM} {n a : Nat} {one : Bool} {mi by' wo : Nat → Nat} {Q : xM → Prop} (hT : tX σ n mi by' wo) (hlt : ∀ i, i < n → decR a i < n) {c : Option (Nat × Nat × Nat)} (hs0 : xSim σ τ0) (hr0 : rowIs τ0 79 n (decR a)) (h780 : τ0.1 78 0 = nI n) (hc0 : NX n τ0 c) (hQ : ∀ τ, xSim σ τ → rowIs τ 79 n (decR a) → τ.1 78 0 = nI n → NX n τ (dvF mi by' wo n a (n + 1 - fsF one n) (fsF one n) c) → Q τ) : xV 59 [.ref 73, .int (if one then 1 else 2), .ref 79] τ0 Q := by
  have hn6 := hT.1.1
  have loop : ∀ m f, f + m = n + 1 → ∀ (c : Option (Nat × Nat × Nat)) (τ : xM) (l4 l5 : Option Value), xSim σ τ → rowIs τ 79 n (decR a) → τ.1 78 0 = nI n → NX n τ c → (∀ τ, xSim σ τ → rowIs τ 79 n (decR a) → τ.1 78 0 = nI n → NX n τ (dvF mi by' wo n a m f c) → Q τ) → xC 59 14 [some (.ref 73), some (.int (if one then 1 else 2)), some (.ref 79), some (.int (nI f)), l4, l5] [] τ (xqV Q) := by
    intro m
    induction m with
    | zero =>
      intro f hf c τ l4 l5 hs hr h78 hc hQ
      have h73 := (hT.sim hs).2.1
      have e : (nI n < nI f) = True := eq_true ((nI_ltI (by omega) (by omega)).mpr (by omega))
      rw [s59_14]
      simp only [s59_15, s59_16, s59_19, s59_101, xcx_i, xcx_r, xcx_n, xcx_l, xcx_0, h73, e, if_true]
      exact hQ τ hs hr h78 hc
    | succ m ih =>
      intro f hf c τ l4 l5 hs hr h78 hc hQ
      have hTτ := hT.sim hs
      have h73 := hTτ.2.1
      have e : (nI n < nI f) = False := eq_false (fun q => by have := (nI_ltI (a := n) (b := f) (by omega) (by omega)).mp q; omega)
      have h1 : ∀ Q : Int32 → xM → Prop, xI1 60 [.ref 73, .ref 79, .int 0, .int (nI f)] τ Q = Q (nI (loF mi by' wo (decR a) f 0 0 0)) τ := fun Q => by
        have h := XlostBy (f := 0) (k := f) (Q := Q) hTτ hr hlt (by omega)
        rw [Nat.zero_add] at h; exact h
      have h2 : ∀ Q : Int32 → xM → Prop, xI1 60 [.ref 73, .ref 79, .int (nI f), .int (nI n)] τ Q = Q (nI (loF mi by' wo (decR a) (n - f) f 0 0)) τ := fun Q => by
        have h := XlostBy (f := f) (k := n - f) (Q := Q) hTτ hr hlt (by omega)
        rw [show f + (n - f) = n by omega] at h; exact h
      have hlost : nI (loF mi by' wo (decR a) f 0 0 0) + nI (loF mi by' wo (decR a) (n - f) f 0 0) = nI (lostF mi by' wo (decR a) n f) := nI_add _ _
      have hlb := lostF_bd (mi := mi) (by' := by') hn6 (show f ≤ n by omega) (fun i hi => (hT.1.2 i hi).2.2) hlt
      have hQ2 : ∀ τ, xSim σ τ → rowIs τ 79 n (decR a) → τ.1 78 0 = nI n → NX n τ (dvF mi by' wo n a m (f + 1) (stU (lostF mi by' wo (decR a) n f) f a c)) → Q τ := hQ
      have hok := stU_ok (a := a) hc.1 hlb (show f ≤ n by omega)
      have hnext : ∀ (τ' : xM) (l4 l5 : Option Value), xSim σ τ' → rowIs τ' 79 n (decR a) → τ'.1 78 0 = nI n → NX n τ' (stU (lostF mi by' wo (decR a) n f) f a c) → xC 59 95 [some (.ref 73), some (.int (if one then 1 else 2)), some (.ref 79), some (.int (nI f)), l4, l5] [] τ' (xqV Q) := by
        intro τ' l4 l5 hs' hr' h78' hc'
        simp only [s59_95, s59_98, xcx_i, xcx_r, xcx_n, xcx_l, xcx_0, nI_1]
        exact ih (f + 1) (by omega) _ τ' _ _ hs' hr' h78' hc' hQ2
      have hcopy : stU (lostF mi by' wo (decR a) n f) f a c = some (lostF mi by' wo (decR a) n f, f, a) → xC 59 51 [some (.ref 73), some (.int (if one then 1 else 2)), some (.ref 79), some (.int (nI f)), some (.int (nI (lostF mi by' wo (decR a) n f))), l5] [] τ (xqV Q) := by
        intro hst
        have cp : ∀ m i, i + m = n → ∀ τ', xSim σ τ' → rowIs τ' 79 n (decR a) → τ'.1 78 0 = nI n → τ'.1 73 1 = nI (lostF mi by' wo (decR a) n f) → τ'.1 73 3 = nI f → (∀ j, j < i → τ'.1 74 j = nI (decR a j)) → xC 59 65 [some (.ref 73), some (.int (if one then 1 else 2)), some (.ref 79), some (.int (nI f)), some (.int (nI (lostF mi by' wo (decR a) n f))), some (.int (nI i))] [] τ' (xqV Q) := by
          intro m
          induction m with
          | zero =>
            intro i hi τ' hs' hr' h78' e1 e3 hd
            obtain rfl : i = n := by omega
            have h73' := (hT.sim hs').2.1
            rw [s59_65]
            simp only [s59_67, s59_68, s59_71, xcx_i, xcx_r, xcx_n, xcx_l, xcx_0, h73', Int32.le_refl, if_true]
            refine hnext τ' _ _ hs' hr' h78' ⟨hok, ?_, fun l f' a' hh => ?_⟩
            · rw [hst]; exact e1
            · rw [hst] at hh; cases hh; exact ⟨e3, hd⟩
          | succ m ihc =>
            intro i hi τ' hs' hr' h78' e1 e3 hd
            have h73' := (hT.sim hs').2.1
            have e' := lt4N (n := n) (i := i) (by omega) (by omega)
            have i6 : i < 6 := by omega
            have ri := hr' i (by omega)
            have hx : ∀ v, xpt τ' 74 (nI i) v = xe_si τ' 74 i v := fun v => xpt_n (by rw [xln_74]; exact i6)
            rw [s59_65]
            simp only [s59_67, s59_68, s59_71, s59_74, s59_75, s59_78, s59_80, s59_81, s59_83, s59_86, s59_89, s59_92, xcx_i, xcx_r, xcx_n, xcx_l, xcx_0, h73', e', if_false, at_eq, put_eq, xcl_74, xcl_79, xat79 i6, ri, hx, nI_1]
            refine ihc (i + 1) (by omega) _ (hs'.si rfl) (hr'.ne (by decide)) (by rw [si_ne (by decide)]; exact h78') (by rw [si_ne (by decide)]; exact e1) (by rw [si_ne (by decide)]; exact e3) (fun j hj => ?_)
            rw [si_rd]
            by_cases q : j = i
            · rw [if_pos ⟨rfl, q⟩, q]
            · rw [if_neg (fun w => q w.2)]; exact hd j (by omega)
        simp only [s59_51, s59_52, s59_54, s59_57, s59_58, s59_59, s59_62, s59_63, xcx_i, xcx_r, xcx_n, xcx_l, xcx_0]
        exact cp n 0 (by omega) _ ((hs.si rfl).si rfl) ((hr.ne (by decide)).ne (by decide)) (by rw [si_ne (by decide), si_ne (by decide)]; exact h78) rfl rfl (fun j hj => absurd hj (Nat.not_lt_zero j))
      rw [s59_14]
      cases c with
      | none =>
        have hl : τ.1 73 1 = 1000000 := hc.2.1
        have e2 : ((1000000 : Int32) ≤ nI (lostF mi by' wo (decR a) n f)) = False := eq_false (fun q => by have := (nI_leI (a := 1000000) (by decide) (by omega)).mp q; omega)
        simp only [s59_15, s59_16, s59_19, s59_22, s59_23, s59_24, s59_25, s59_26, s59_29, s59_30, s59_31, s59_32, s59_33, s59_36, s59_39, s59_40, s59_42, s59_44, s59_45, s59_48, xcx_i, xcx_r, xcx_n, xcx_l, xcx_0, h73, e, if_false, h1, h2, hlost, hl, e2]
        exact hcopy rfl
      | some x =>
        obtain ⟨b, g, d⟩ := x
        obtain ⟨hb, -⟩ := hc.1 b g d rfl
        have hl : τ.1 73 1 = nI b := hc.2.1
        have e2 : (nI b ≤ nI (lostF mi by' wo (decR a) n f)) = ¬ (lostF mi by' wo (decR a) n f < b) := by rw [nI_leL (by omega) (by omega)]; exact propext ⟨fun q => by omega, fun q => by omega⟩
        by_cases q : lostF mi by' wo (decR a) n f < b
        · simp only [s59_15, s59_16, s59_19, s59_22, s59_23, s59_24, s59_25, s59_26, s59_29, s59_30, s59_31, s59_32, s59_33, s59_36, s59_39, s59_40, s59_42, s59_44, s59_45, s59_48, xcx_i, xcx_r, xcx_n, xcx_l, xcx_0, h73, e, if_false, h1, h2, hlost, hl, e2, q, not_true]
          exact hcopy (if_pos q)
        · simp only [s59_15, s59_16, s59_19, s59_22, s59_23, s59_24, s59_25, s59_26, s59_29, s59_30, s59_31, s59_32, s59_33, s59_36, s59_39, s59_40, s59_42, s59_44, s59_45, s59_48, xcx_i, xcx_r, xcx_n, xcx_l, xcx_0, h73, e, if_false, h1, h2, hlost, hl, e2, q, not_false_eq_true, if_true]
          refine hnext τ _ _ hs hr h78 ?_
          rw [show stU (lostF mi by' wo (decR a) n f) f a (some (b, g, d)) = some (b, g, d) from if_neg q]
          exact hc
  have h73 := (hT.sim hs0).2.1
  rw [e59]
  cases one with
  | true =>
    simp only [s59_0, s59_1, s59_2, s59_5, s59_6, s59_9, s59_12, s59_13, xcx_i, xcx_r, xcx_n, xcx_l, xcx_0, h73, if_true, not_true, if_false]
    exact loop (n + 1 - n) n (by omega) c τ0 _ _ hs0 hr0 h780 hc0 hQ
  | false =>
    simp only [s59_0, s59_1, s59_2, s59_5, s59_6, s59_9, s59_12, s59_13, xcx_i, xcx_r, xcx_n, xcx_l, xcx_0, Bool.false_eq_true, if_false, show ((2 : Int32) = 1) = False from eq_false (by decide), not_false_eq_true, if_true]
    exact loop (n + 1 - 0) 0 (by omega) c τ0 _ _ hs0 hr0 h780 hc0 hQ
theorem XorderBegin {σ : xM} {n : Nat} {Q : xM → Prop} (hn : n ≤ 6) (hQ : ∀ τ, xSim σ τ → (∀ k, k ≠ 78 → k ≠ 79 → τ.1 k = σ.1 k) → τ.1 78 0 = nI n → rowIs τ 79 n (fun i => i) → Q τ) : xV 61 [.ref 78, .int (nI n)] σ Q := by
  have loop : ∀ m i, i + m = n → ∀ τ, xSim σ τ → (∀ k, k ≠ 78 → k ≠ 79 → τ.1 k = σ.1 k) → τ.1 78 0 = nI n → (∀ j, j < i → τ.1 79 j = nI j) → xC 61 7 [some (.ref 78), some (.int (nI n)), some (.int (nI i))] [] τ (xqV Q) := by
    intro m
    induction m with
    | zero =>
      intro i hi τ hs hk h78 hd
      obtain rfl : i = n := by omega
      rw [s61_7]
      simp only [s61_8, s61_9, s61_12, s61_30, xcx_i, xcx_r, xcx_n, xcx_l, xcx_0, h78, Int32.le_refl, if_true]
      exact hQ τ hs hk h78 hd
    | succ m ih =>
      intro i hi τ hs hk h78 hd
      have e := lt4N (n := n) (i := i) (by omega) (by omega)
      have hx : ∀ v, xpt τ 79 (nI i) v = xe_si τ 79 i v := fun v => xpt_n (by rw [xln_79]; omega)
      rw [s61_7]
      simp only [s61_8, s61_9, s61_12, s61_15, s61_16, s61_19, s61_20, s61_21, s61_24, s61_27, xcx_i, xcx_r, xcx_n, xcx_l, xcx_0, h78, e, if_false, put_eq, xcl_79, hx, nI_1]
      refine ih (i + 1) (by omega) _ (hs.si rfl) (fun k h1 h2 => by rw [si_ne h2]; exact hk k h1 h2) (by rw [si_ne (by decide)]; exact h78) (fun j hj => ?_)
      rw [si_rd]
      by_cases q : j = i
      · rw [if_pos ⟨rfl, q⟩, q]
      · rw [if_neg (fun w => q w.2)]; exact hd j (by omega)
  rw [e61]
  simp only [s61_0, s61_1, s61_2, s61_5, s61_6, xcx_i, xcx_r, xcx_n, xcx_l, xcx_0]
  exact loop n 0 (by omega) _ ((xSim.rf σ).si rfl) (fun k h1 _ => si_ne h1) rfl (fun j hj => absurd hj (Nat.not_lt_zero j))
theorem XfindLeast {σ : xM} {n : Nat} {one : Bool} {mi by' wo : Nat → Nat} {Q : xM → Prop} (hT : tX σ n mi by' wo) (hQ : ∀ τ, xSim σ τ → NX n τ (odF mi by' wo one n (ordT n) none) → Q τ) : xV 58 [.ref 73, .int (if one then 1 else 2), .ref 78] σ Q := by
  have hn6 := hT.1.1
  obtain ⟨hch, hlen, a0, t0, hat, hid⟩ := ordT_ok hn6
  have loop : ∀ (t : List Nat) (a k : Nat) (c : Option (Nat × Nat × Nat)) (τ : xM), chT n (a :: t) = true → k + (a :: t).length ≤ 720 → xSim σ τ → rowIs τ 79 n (decR a) → τ.1 78 0 = nI n → NX n τ c → (∀ τ, xSim σ τ → NX n τ (odF mi by' wo one n (a :: t) c) → Q τ) → xC 58 16 [some (.ref 73), some (.int (if one then 1 else 2)), some (.ref 78), some (.int (nI k))] [] τ (xqV Q) := by
    intro t
    induction t with
    | nil =>
      intro a k c τ hch hk hs hr h78 hc hQ
      have hk' : k + 1 ≤ 720 := hk
      have e : ((720 : Int32) ≤ nI k) = False := eq_false (fun q => by have := (nI_leI (a := 720) (b := k) (by decide) (by omega)).mp q; omega)
      rw [s58_16]
      simp only [s58_17, s58_20, s58_23, s58_24, s58_25, s58_26, s58_29, xcx_i, xcx_r, xcx_n, xcx_l, xcx_0, e, if_false]
      refine Xdivide hT (chT_lt hch) hs hr h78 hc (fun τ1 hs1 hr1 h781 hc1 => ?_)
      simp only [s58_32, s58_33, xcx_i, xcx_r, xcx_n, xcx_l, xcx_0]
      refine XorderNext hn6 h781 hr1 (chT_lt hch) (fun _ => ?_) (fun r' hr' => ?_)
      · simp only [s58_36, s58_39, s58_48, xcx_i, xcx_r, xcx_n, xcx_l, xcx_0, not_true, if_false]
        exact hQ τ1 hs1 hc1
      · rw [chT_end hch] at hr'; cases hr'
    | cons b t ih =>
      intro a k c τ hch hk hs hr h78 hc hQ
      have hk' : k + (t.length + 1 + 1) ≤ 720 := hk
      have e : ((720 : Int32) ≤ nI k) = False := eq_false (fun q => by have := (nI_leI (a := 720) (b := k) (by decide) (by omega)).mp q; omega)
      obtain ⟨⟨r1, hn1, hr1⟩, hch2⟩ := chT_next hch
      have h10 : ¬ (1 : Int32) = 0 := by decide
      rw [s58_16]
      simp only [s58_17, s58_20, s58_23, s58_24, s58_25, s58_26, s58_29, xcx_i, xcx_r, xcx_n, xcx_l, xcx_0, e, if_false]
      refine Xdivide hT (chT_lt hch) hs hr h78 hc (fun τ1 hs1 hra h781 hc1 => ?_)
      simp only [s58_32, s58_33, xcx_i, xcx_r, xcx_n, xcx_l, xcx_0]
      refine XorderNext hn6 h781 hra (chT_lt hch) (fun q => ?_) (fun r' hr' hl' τ2 ho2 hr2 => ?_)
      · rw [hn1] at q; cases q
      · rw [hn1] at hr'
        cases hr'
        simp only [s58_36, s58_39, s58_42, s58_45, xcx_i, xcx_r, xcx_n, xcx_l, xcx_0, h10, not_false_eq_true, if_true, nI_1]
        refine ih b (k + 1) _ τ2 hch2 (by show k + 1 + (t.length + 1) ≤ 720; omega) (only.to hs1 ho2 (fun _ => rfl)) (fun i hi => by rw [hr2 i hi, hr1 i hi]) (by rw [ho2.1 78 (by decide)]; exact h781) ?_ hQ
        refine ⟨hc1.1, ?_, fun l f a' hh => ?_⟩
        · rw [ho2.1 73 (by decide)]; exact hc1.2.1
        · obtain ⟨q1, q2⟩ := hc1.2.2 l f a' hh
          exact ⟨by rw [ho2.1 73 (by decide)]; exact q1, q2.only ho2 (by decide)⟩
  rw [e58]
  have h73 := hT.2.1
  simp only [s58_0, s58_1, s58_3, s58_6, s58_7, s58_8, s58_11, xcx_i, xcx_r, xcx_n, xcx_l, xcx_0, si_rd, Nat.reduceEqDiff, and_false, if_false, h73]
  refine XorderBegin hn6 (fun τ hs hk h78 hr => ?_)
  simp only [s58_14, s58_15, xcx_i, xcx_r, xcx_n, xcx_l, xcx_0]
  have hs' : xSim σ τ := ((xSim.rf σ).si rfl).tr hs
  refine loop t0 a0 0 none τ (by rw [← hat]; exact hch) (by rw [← hat]; omega) hs' (fun i hi => by rw [hr i hi, hid i hi]) h78 ⟨fun l f a q => (by cases q), ?_, fun l f a q => (by cases q)⟩ (by rw [← hat]; exact hQ)
  rw [hk 73 (by decide) (by decide)]; rfl
