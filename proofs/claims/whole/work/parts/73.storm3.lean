/-! storm: both -/
theorem xInv.tasks {xs : Nat → Int32} {L : Nat} {σ : xM} (hI : xInv xs L σ) : ∃ n mi by' wo, tX σ n mi by' wo ∧ tK σ n mi by' wo := by
  obtain ⟨n, hn6, k1, k2, hrow⟩ := hI.2.2.2.2.2.2.2.1
  have hd : tDt n (cnum σ 75) (cnum σ 76) (cnum σ 77) := ⟨hn6, fun i hi => by
    obtain ⟨-, -, -, b1, b2, b3⟩ := hrow i hi
    have d1 := bdD b1 (by decide)
    have d2 := bdD b2 (by decide)
    have d3 := bdD b3 (by decide)
    exact ⟨by omega, by omega, by omega⟩⟩
  refine ⟨n, cnum σ 75, cnum σ 76, cnum σ 77, ⟨hd, k1, fun i hi => ?_⟩, ⟨hd, k2, fun i hi => ?_⟩⟩
  · obtain ⟨-, -, -, b1, b2, b3⟩ := hrow i hi
    exact ⟨(bdD b1 (by decide)).1, (bdD b2 (by decide)).1, (bdD b3 (by decide)).1⟩
  · obtain ⟨a1, a2, a3, b1, b2, b3⟩ := hrow i hi
    exact ⟨a1.trans (bdD b1 (by decide)).1, a2.trans (bdD b2 (by decide)).1, a3.trans (bdD b3 (by decide)).1⟩
theorem Mdivide {σ τ0 : xM} {n a : Nat} {w : Int32} {one : Bool} {mi by' wo : Nat → Nat} {Q : Option Value → xM → Prop} (hT : tK σ n mi by' wo) (hlt : ∀ i, i < n → decR a i < n) : ∀ m f, f + m = n + 1 → ∀ (c : Option (Nat × Nat × Nat)) (τ : xM) (l7 l8 : Option Value), xSim σ τ → rowIs τ 119 n (decR a) → NK n τ c → (∀ τ l6 l7 l8, xSim σ τ → rowIs τ 119 n (decR a) → NK n τ (dvF mi by' wo n a m f c) → xC 239 164 [some (.ref 84), some (.int (if one then 1 else 2)), some (.int w), some (.int (saB (dvF mi by' wo n a m f c))), some (.int (saF (dvF mi by' wo n a m f c))), some (.int 1), l6, l7, l8] [] τ Q) → xC 239 88 [some (.ref 84), some (.int (if one then 1 else 2)), some (.int w), some (.int (saB c)), some (.int (saF c)), some (.int 1), some (.int (nI f)), l7, l8] [] τ Q := by
  have hn6 := hT.1.1
  intro m
  induction m with
  | zero =>
    intro f hf c τ l7 l8 hs hr hc hQ
    have h47 := (hT.sim hs).2.1
    have e : (nI n < nI f) = True := eq_true ((nI_ltI (by omega) (by omega)).mpr (by omega))
    rw [s239_88]
    simp only [s239_90, s239_91, s239_94, xcx_i, xcx_r, xcx_n, xcx_l, xcx_0, h47, e, if_true]
    exact hQ τ _ _ _ hs hr hc
  | succ m ih =>
    intro f hf c τ l7 l8 hs hr hc hQ
    have hTτ := hT.sim hs
    have h47 := hTτ.2.1
    have e : (nI n < nI f) = False := eq_false (fun q => by have := (nI_ltI (a := n) (b := f) (by omega) (by omega)).mp q; omega)
    have h1 : ∀ Q : Int32 → xM → Prop, xI1 238 [.ref 84, .int (nI f)] τ Q = Q (nI (lostF mi by' wo (decR a) n f)) τ := fun Q => MlostBy hTτ hr hlt (by omega)
    have hlb := lostF_bd (mi := mi) (by' := by') hn6 (show f ≤ n by omega) (fun i hi => (hT.1.2 i hi).2.2) hlt
    have hQ2 : ∀ τ l6 l7 l8, xSim σ τ → rowIs τ 119 n (decR a) → NK n τ (dvF mi by' wo n a m (f + 1) (stU (lostF mi by' wo (decR a) n f) f a c)) → xC 239 164 [some (.ref 84), some (.int (if one then 1 else 2)), some (.int w), some (.int (saB (dvF mi by' wo n a m (f + 1) (stU (lostF mi by' wo (decR a) n f) f a c)))), some (.int (saF (dvF mi by' wo n a m (f + 1) (stU (lostF mi by' wo (decR a) n f) f a c)))), some (.int 1), l6, l7, l8] [] τ Q := hQ
    have hok := stU_ok (a := a) hc.1 hlb (show f ≤ n by omega)
    have hnext : ∀ (τ' : xM) (l7 l8 : Option Value), xSim σ τ' → rowIs τ' 119 n (decR a) → NK n τ' (stU (lostF mi by' wo (decR a) n f) f a c) → xC 239 158 [some (.ref 84), some (.int (if one then 1 else 2)), some (.int w), some (.int (saB (stU (lostF mi by' wo (decR a) n f) f a c))), some (.int (saF (stU (lostF mi by' wo (decR a) n f) f a c))), some (.int 1), some (.int (nI f)), l7, l8] [] τ' Q := by
      intro τ' l7 l8 hs' hr' hc'
      simp only [s239_158, s239_161, xcx_i, xcx_r, xcx_n, xcx_l, xcx_0, nI_1]
      exact ih (f + 1) (by omega) _ τ' _ _ hs' hr' hc' hQ2
    have hcopy : stU (lostF mi by' wo (decR a) n f) f a c = some (lostF mi by' wo (decR a) n f, f, a) → ∀ x4 : Int32, xC 239 119 [some (.ref 84), some (.int (if one then 1 else 2)), some (.int w), some (.int (saB c)), some (.int x4), some (.int 1), some (.int (nI f)), some (.int (nI (lostF mi by' wo (decR a) n f))), l8] [] τ Q := by
      intro hst x4
      have cp : ∀ m i, i + m = n → ∀ τ', xSim σ τ' → rowIs τ' 119 n (decR a) → (∀ j, j < i → τ'.1 121 j = nI (decR a j)) → xC 239 129 [some (.ref 84), some (.int (if one then 1 else 2)), some (.int w), some (.int (nI (lostF mi by' wo (decR a) n f))), some (.int (nI f)), some (.int 1), some (.int (nI f)), some (.int (nI (lostF mi by' wo (decR a) n f))), some (.int (nI i))] [] τ' Q := by
        intro m
        induction m with
        | zero =>
          intro i hi τ' hs' hr' hd
          obtain rfl : i = n := by omega
          have h47' := (hT.sim hs').2.1
          rw [s239_129]
          simp only [s239_131, s239_132, s239_135, xcx_i, xcx_r, xcx_n, xcx_l, xcx_0, h47', Int32.le_refl, if_true]
          have hn := hnext τ' (some (.int (nI (lostF mi by' wo (decR a) i f)))) (some (.int (nI i))) hs' hr' ⟨hok, fun l f' a' hh => by rw [hst] at hh; cases hh; exact hd⟩
          rw [hst] at hn
          exact hn
        | succ m ihc =>
          intro i hi τ' hs' hr' hd
          have h47' := (hT.sim hs').2.1
          have e' := lt4N (n := n) (i := i) (by omega) (by omega)
          have i6 : i < 6 := by omega
          have b0 : i < 100000 := by omega
          have ri := hr' i (by omega)
          rw [s239_129]
          simp only [s239_131, s239_132, s239_135, s239_138, s239_139, s239_142, s239_144, s239_145, s239_148, s239_150, s239_151, s239_152, s239_155, xcx_i, xcx_r, xcx_n, xcx_l, xcx_0, h47', e', if_false, xcl_119, xcl_121, xln_119, xln_121, i6, b0, cl_s, pos_s, true_and, ri, nI_1]
          refine ihc (i + 1) (by omega) _ (hs'.si rfl) (hr'.ne (by decide)) (fun j hj => ?_)
          rw [si_rd]
          by_cases q : j = i
          · rw [if_pos ⟨rfl, q⟩, q]
          · rw [if_neg (fun w => q w.2)]; exact hd j (by omega)
      simp only [s239_119, s239_121, s239_122, s239_124, s239_126, s239_127, xcx_i, xcx_r, xcx_n, xcx_l, xcx_0]
      exact cp n 0 (by omega) _ hs hr (fun j hj => absurd hj (Nat.not_lt_zero j))
    rw [s239_88]
    cases c with
    | none =>
      simp only [s239_90, s239_91, s239_94, s239_97, s239_98, s239_100, s239_103, s239_105, s239_106, s239_107, xcx_i, xcx_r, xcx_n, xcx_l, xcx_0, h47, e, if_false, h1, saB, if_true, true_or, or_true]
      exact hcopy rfl _
    | some x =>
      obtain ⟨b, g, d⟩ := x
      obtain ⟨hb, -⟩ := hc.1 b g d rfl
      have em := nI_m1 (show b < 2147483648 by omega)
      have e2 : (nI (lostF mi by' wo (decR a) n f) < nI b) = (lostF mi by' wo (decR a) n f < b) := nI_ltL (by omega) (by omega)
      by_cases q : lostF mi by' wo (decR a) n f < b
      · simp only [s239_90, s239_91, s239_94, s239_97, s239_98, s239_100, s239_103, s239_105, s239_106, s239_107, s239_110, s239_112, s239_113, s239_116, xcx_i, xcx_r, xcx_n, xcx_l, xcx_0, h47, e, if_false, h1, saB, em, e2, q, if_true, true_or, or_true]
        exact hcopy (if_pos q) _
      · have hn := hnext τ (some (.int (nI (lostF mi by' wo (decR a) n f)))) l8 hs hr
        rw [show stU (lostF mi by' wo (decR a) n f) f a (some (b, g, d)) = some (b, g, d) from if_neg q] at hn
        simp only [s239_90, s239_91, s239_94, s239_97, s239_98, s239_100, s239_103, s239_105, s239_106, s239_107, s239_110, s239_112, s239_113, s239_116, xcx_i, xcx_r, xcx_n, xcx_l, xcx_0, h47, e, if_false, h1, saB, em, e2, q, if_true, true_or, or_true]
        exact hn hc
theorem Mstorm_eq {σ : xM} {n : Nat} {w : Int32} {one : Bool} {mi by' wo : Nat → Nat} {Q : Int32 → xM → Prop} (hT : tK σ n mi by' wo) (hQ : ∀ τ l5 l6 l7 l8, xSim σ τ → NK n τ (odF mi by' wo one n (ordT n) none) → xC 239 177 [some (.ref 84), some (.int (if one then 1 else 2)), some (.int w), some (.int (saB (odF mi by' wo one n (ordT n) none))), some (.int (saF (odF mi by' wo one n (ordT n) none))), l5, l6, l7, l8] [] τ (xqI Q)) : xC 239 37 [some (.ref 84), some (.int (if one then 1 else 2)), some (.int w), none, none, none, none, none, none] [] σ (xqI Q) := by
  have hn6 := hT.1.1
  obtain ⟨hch, hlen, a0, t0, hat, hid⟩ := ordT_ok hn6
  have h10 : ¬ (1 : Int32) = 0 := by decide
  have loop : ∀ (t : List Nat) (a : Nat) (c : Option (Nat × Nat × Nat)) (τ : xM) (l6 l7 l8 : Option Value), chT n (a :: t) = true → xSim σ τ → rowIs τ 119 n (decR a) → NK n τ c → (∀ τ l5 l6 l7 l8, xSim σ τ → NK n τ (odF mi by' wo one n (a :: t) c) → xC 239 177 [some (.ref 84), some (.int (if one then 1 else 2)), some (.int w), some (.int (saB (odF mi by' wo one n (a :: t) c))), some (.int (saF (odF mi by' wo one n (a :: t) c))), l5, l6, l7, l8] [] τ (xqI Q)) → xC 239 68 [some (.ref 84), some (.int (if one then 1 else 2)), some (.int w), some (.int (saB c)), some (.int (saF c)), some (.int 1), l6, l7, l8] [] τ (xqI Q) := by
    intro t
    induction t with
    | nil =>
      intro a c τ l6 l7 l8 hch hs hr hc hQ
      have h47 := (hT.sim hs).2.1
      have hd : ∀ l7 l8, xC 239 88 [some (.ref 84), some (.int (if one then 1 else 2)), some (.int w), some (.int (saB c)), some (.int (saF c)), some (.int 1), some (.int (nI (fsF one n))), l7, l8] [] τ (xqI Q) := by
        intro l7 l8
        have hfs : fsF one n ≤ n := by unfold fsF; split <;> omega
        refine Mdivide (τ0 := τ) hT (chT_lt hch) (n + 1 - fsF one n) (fsF one n) (by omega) c τ _ _ hs hr hc (fun τ1 l6 l7 l8 hs1 hr1 hc1 => ?_)
        have h471 := (hT.sim hs1).2.1
        simp only [s239_164, s239_165, s239_166, s239_169, xcx_i, xcx_r, xcx_n, xcx_l, xcx_0, h471]
        refine MisNext (w := fun i => i) hn6 hr1 (chT_lt hch) (fun a b ha hb => ⟨rfl, by omega⟩) (fun _ => ?_) (fun r' hr' => ?_)
        · simp only [s239_172, s239_174, xcx_i, xcx_r, xcx_n, xcx_l, xcx_0]
          rw [s239_68]
          simp only [s239_70, xcx_i, xcx_r, xcx_n, xcx_l, xcx_0, if_true, true_or, or_true, true_and]
          exact hQ τ1 _ _ _ _ hs1 hc1
        · rw [chT_end hch] at hr'; cases hr'
      rw [s239_68]
      cases one with
      | true =>
        simp only [s239_70, s239_73, s239_74, s239_75, s239_78, s239_79, s239_82, s239_85, s239_86, xcx_i, xcx_r, xcx_n, xcx_l, xcx_0, h10, if_false, if_true, not_true, h47, true_or, or_true, true_and]
        exact hd _ _
      | false =>
        simp only [s239_70, s239_73, s239_74, s239_75, s239_78, s239_79, s239_82, s239_85, s239_86, xcx_i, xcx_r, xcx_n, xcx_l, xcx_0, h10, Bool.false_eq_true, if_false, show ((2 : Int32) = 1) = False from eq_false (by decide), not_false_eq_true, if_true, true_or, or_true, true_and]
        exact hd _ _
    | cons b t ih =>
      intro a c τ l6 l7 l8 hch hs hr hc hQ
      have h47 := (hT.sim hs).2.1
      obtain ⟨⟨r1, hn1, hr1⟩, hch2⟩ := chT_next hch
      have hd : ∀ l7 l8, xC 239 88 [some (.ref 84), some (.int (if one then 1 else 2)), some (.int w), some (.int (saB c)), some (.int (saF c)), some (.int 1), some (.int (nI (fsF one n))), l7, l8] [] τ (xqI Q) := by
        intro l7 l8
        have hfs : fsF one n ≤ n := by unfold fsF; split <;> omega
        refine Mdivide (τ0 := τ) hT (chT_lt hch) (n + 1 - fsF one n) (fsF one n) (by omega) c τ _ _ hs hr hc (fun τ1 l6 l7 l8 hs1 hra hc1 => ?_)
        have h471 := (hT.sim hs1).2.1
        simp only [s239_164, s239_165, s239_166, s239_169, xcx_i, xcx_r, xcx_n, xcx_l, xcx_0, h471]
        refine MisNext (w := fun i => i) hn6 hra (chT_lt hch) (fun a b ha hb => ⟨rfl, by omega⟩) (fun q => ?_) (fun r' hr' hl' τ2 ho2 hr2 => ?_)
        · rw [hn1] at q; cases q
        · rw [hn1] at hr'
          cases hr'
          simp only [s239_172, s239_174, xcx_i, xcx_r, xcx_n, xcx_l, xcx_0]
          refine ih b _ τ2 _ _ _ hch2 (only.to hs1 ho2 (fun _ => rfl)) (fun i hi => (hr2 i hi).trans (congrArg nI (hr1 i hi))) ⟨hc1.1, fun l f a' hh => (hc1.2 l f a' hh).only ho2 (by decide)⟩ hQ
      rw [s239_68]
      cases one with
      | true =>
        simp only [s239_70, s239_73, s239_74, s239_75, s239_78, s239_79, s239_82, s239_85, s239_86, xcx_i, xcx_r, xcx_n, xcx_l, xcx_0, h10, if_false, if_true, not_true, h47, true_or, or_true, true_and]
        exact hd _ _
      | false =>
        simp only [s239_70, s239_73, s239_74, s239_75, s239_78, s239_79, s239_82, s239_85, s239_86, xcx_i, xcx_r, xcx_n, xcx_l, xcx_0, h10, Bool.false_eq_true, if_false, show ((2 : Int32) = 1) = False from eq_false (by decide), not_false_eq_true, if_true, true_or, or_true, true_and]
        exact hd _ _
  have init : ∀ m i, i + m = n → ∀ τ, xSim σ τ → (∀ j, j < i → τ.1 119 j = nI j) → xC 239 39 [some (.ref 84), some (.int (if one then 1 else 2)), some (.int w), some (.int (nI i)), none, none, none, none, none] [] τ (xqI Q) := by
    intro m
    induction m with
    | zero =>
      intro i hi τ hs hd
      obtain rfl : i = n := by omega
      have h47 := (hT.sim hs).2.1
      rw [s239_39]
      simp only [s239_40, s239_41, s239_44, s239_47, s239_48, s239_51, s239_52, s239_53, s239_54, s239_57, s239_60, s239_61, s239_62, s239_63, s239_65, s239_66, xcx_i, xcx_r, xcx_n, xcx_l, xcx_0, h47, Int32.le_refl, if_true]
      exact loop t0 a0 none τ _ _ _ (by rw [← hat]; exact hch) hs (fun j hj => by rw [hd j hj, hid j hj]) ⟨fun l f a q => (by cases q), fun l f a q => (by cases q)⟩ (by rw [← hat]; exact hQ)
    | succ m ih =>
      intro i hi τ hs hd
      have h47 := (hT.sim hs).2.1
      have e := lt4N (n := n) (i := i) (by omega) (by omega)
      have i6 : i < 6 := by omega
      have b0 : i < 100000 := by omega
      rw [s239_39]
      simp only [s239_40, s239_41, s239_44, s239_47, s239_48, s239_51, s239_52, s239_53, s239_54, s239_57, xcx_i, xcx_r, xcx_n, xcx_l, xcx_0, h47, e, if_false, xcl_119, xln_119, i6, b0, cl_s, pos_s, true_and, nI_1]
      refine ih (i + 1) (by omega) _ (hs.si rfl) (fun j hj => ?_)
      rw [si_rd]
      by_cases q : j = i
      · rw [if_pos ⟨rfl, q⟩, q]
      · rw [if_neg (fun w => q w.2)]; exact hd j (by omega)
  simp only [s239_37, s239_38, xcx_i, xcx_r, xcx_n, xcx_l, xcx_0]
  exact init n 0 (by omega) σ (xSim.rf σ) (fun j hj => absurd hj (Nat.not_lt_zero j))
