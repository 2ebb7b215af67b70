/-! plan, the class's -/
def onto (n : Nat) : List Nat → Bool
  | [] => true
  | a :: t => (List.range n).all (fun m => (List.range n).any (fun i => Nat.beq (decR a i) m)) && onto n t
theorem onto_0 : onto 0 ordT0 = true := by decide +kernel
theorem onto_1 : onto 1 ordT1 = true := by decide +kernel
theorem onto_2 : onto 2 ordT2 = true := by decide +kernel
theorem onto_3 : onto 3 ordT3 = true := by decide +kernel
theorem onto_4 : onto 4 ordT4 = true := by decide +kernel
theorem onto_5 : onto 5 ordT5 = true := by decide +kernel
theorem onto_ok {n : Nat} (h : n ≤ 5) : onto n (ordT n) = true := by
  have : n = 0 ∨ n = 1 ∨ n = 2 ∨ n = 3 ∨ n = 4 ∨ n = 5 := by omega
  rcases this with rfl | rfl | rfl | rfl | rfl | rfl
  · exact onto_0
  · exact onto_1
  · exact onto_2
  · exact onto_3
  · exact onto_4
  · exact onto_5
theorem onto_get {n a : Nat} {t : List Nat} (h : onto n (a :: t) = true) : (∀ m, m < n → ∃ i, i < n ∧ decR a i = m) ∧ onto n t = true := by
  unfold onto at h
  rw [Bool.and_eq_true] at h
  refine ⟨fun m hm => ?_, h.2⟩
  have h1 := List.all_eq_true.mp h.1 m (List.mem_range.mpr hm)
  obtain ⟨i, hi, he⟩ := List.any_eq_true.mp h1
  exact ⟨i, List.mem_range.mp hi, Nat.eq_of_beq_eq_true he⟩
theorem ruF_all {le dr co st dp wa : Nat → Nat} {n : Nat} {vs : Nat → Nat} : ∀ k i L s L' s', ruF le dr co st dp wa n vs k i L s = some (L', s') → (∀ j, i ≤ j → j < i + k → (L' (vs j)).isSome = true) ∧ ∀ u, (L u).isSome = true → (L' u).isSome = true := by
  intro k
  induction k with
  | zero => intro i L s L' s' h; cases h; exact ⟨fun j h1 h2 => by omega, fun u h => h⟩
  | succ k ih =>
    intro i L s L' s' h
    cases hf : ffH le dr st dp wa L n (vs i) (200 - co (vs i)) (co (vs i)) with
    | none => unfold ruF at h; rw [hf] at h; cases h
    | some x =>
      obtain ⟨hh, p⟩ := x
      unfold ruF at h
      rw [hf] at h
      obtain ⟨h1, h2⟩ := ih _ _ _ _ _ h
      have hup : ∀ u, (L u).isSome = true → (upL L (vs i) (some (p, hh)) u).isSome = true := by
        intro u hu
        unfold upL
        split
        · rfl
        · exact hu
      refine ⟨fun j j1 j2 => ?_, fun u hu => h2 u (hup u hu)⟩
      rcases Nat.lt_or_eq_of_le j1 with q | q
      · exact h1 j q (by omega)
      · subst q
        refine h2 _ ?_
        unfold upL
        rw [if_pos rfl]; rfl
theorem ruF_keep {le dr co st dp wa : Nat → Nat} {n : Nat} {vs : Nat → Nat} {u : Nat} : ∀ k i L s L' s', ruF le dr co st dp wa n vs k i L s = some (L', s') → (∀ j, i ≤ j → j < i + k → vs j ≠ u) → L' u = L u := by
  intro k
  induction k with
  | zero => intro i L s L' s' h _; cases h; rfl
  | succ k ih =>
    intro i L s L' s' h hn
    cases hf : ffH le dr st dp wa L n (vs i) (200 - co (vs i)) (co (vs i)) with
    | none => unfold ruF at h; rw [hf] at h; cases h
    | some x =>
      obtain ⟨hh, p⟩ := x
      unfold ruF at h
      rw [hf] at h
      rw [ih _ _ _ _ _ h (fun j j1 j2 => hn j (by omega) (by omega))]
      unfold upL
      rw [if_neg (fun e => hn i (by omega) (by omega) e.symm)]
def lZ (τ : xM) (n : Nat) (L : Nat → Option (Nat × Nat)) : Prop := ∀ v, v < n → L v = none → τ.1 68 v = -1
def TX (σ τ : xM) (N : Nat) (L0 : Nat → Option (Nat × Nat)) (a : Nat) (c : Option (Nat × (Nat → Option (Nat × Nat)))) (L : Nat → Option (Nat × Nat)) : Prop :=
  xSimW chP σ τ ∧ lX τ N L ∧ lZ τ N L ∧ (∀ v, v < N → (L0 v).isSome = true → τ.1 68 v = σ.1 68 v ∧ τ.1 69 v = σ.1 69 v) ∧ (∀ m, m < cwF L0 N → τ.1 71 m = nI (wvF L0 N m)) ∧ (τ.1 78 0 = nI (cwF L0 N) ∧ rowIs τ 79 (cwF L0 N) (decR a)) ∧ τ.1 63 7 = nI (lsN c) ∧ ∀ b K, c = some (b, K) → ∀ v, v < N → τ.1 70 v = nI (cdL K v)
theorem xat71 {σ : xM} {v : Nat} (h : v < 5) : xat σ 71 (nI v) = σ.1 71 v := xat_n (by rw [xln_71]; exact h)
/-- one visit is laid, or lifted -/
theorem TX.put {σ τ : xM} {N : Nat} {L0 : Nat → Option (Nat × Nat)} {a : Nat} {c : Option (Nat × (Nat → Option (Nat × Nat)))} {L : Nat → Option (Nat × Nat)} (h : TX σ τ N L0 a c L) {v : Nat} (hv : L0 v = none) {p q : Nat} (hp : p ≤ 200) (hq : q ≤ 199) : TX σ (xe_si (xe_si τ 68 v (nI p)) 69 v (nI q)) N L0 a c (upL L v (some (p, q))) := by
  obtain ⟨h1, h2, h3, h4, h5, ⟨h6, h7⟩, h8, h9⟩ := h
  refine ⟨(h1.si rfl).si rfl, fun u hu => ?_, fun u hu hn => ?_, fun u hu hs => ?_, fun m hm => h5 m hm, ⟨h6, (h7.ne (by decide)).ne (by decide)⟩, h8, fun b K e u hu => h9 b K e u hu⟩
  · by_cases e : u = v
    · subst e
      refine ⟨fun q' => ?_, fun p' h' q' => ?_⟩
      · unfold upL at q'; rw [if_pos rfl] at q'; cases q'
      · unfold upL at q'; rw [if_pos rfl] at q'
        cases q'
        simp only [si_rd, Nat.reduceEqDiff, false_and, true_and, and_self, if_true, if_false]
        exact ⟨hp, hq⟩
    · have e' : upL L v (some (p, q)) u = L u := if_neg e
      rw [e']
      simpa only [si_rd, Nat.reduceEqDiff, e, false_and, and_false, if_false] using h2 u hu
  · by_cases e : u = v
    · subst e; unfold upL at hn; rw [if_pos rfl] at hn; cases hn
    · have e' : upL L v (some (p, q)) u = L u := if_neg e
      rw [e'] at hn
      simpa only [si_rd, Nat.reduceEqDiff, e, false_and, and_false, if_false] using h3 u hu hn
  · have e : u ≠ v := fun e => by rw [e, hv] at hs; cases hs
    simpa only [si_rd, Nat.reduceEqDiff, e, false_and, and_false, if_false] using h4 u hu hs
theorem TX.lift {σ τ : xM} {N : Nat} {L0 : Nat → Option (Nat × Nat)} {a : Nat} {c : Option (Nat × (Nat → Option (Nat × Nat)))} {L : Nat → Option (Nat × Nat)} (h : TX σ τ N L0 a c L) {v : Nat} (hv : L0 v = none) : TX σ (xe_si (xe_si τ 68 v (-1)) 69 v (-1)) N L0 a c (upL L v none) := by
  obtain ⟨h1, h2, h3, h4, h5, ⟨h6, h7⟩, h8, h9⟩ := h
  refine ⟨(h1.si rfl).si rfl, fun u hu => ?_, fun u hu hn => ?_, fun u hu hs => ?_, fun m hm => h5 m hm, ⟨h6, (h7.ne (by decide)).ne (by decide)⟩, h8, fun b K e u hu => h9 b K e u hu⟩
  · by_cases e : u = v
    · subst e
      refine ⟨fun q' => ?_, fun p' h' q' => ?_⟩
      · simp only [si_rd, and_self, if_true]
      · unfold upL at q'; rw [if_pos rfl] at q'; cases q'
    · have e' : upL L v none u = L u := if_neg e
      rw [e']
      simpa only [si_rd, Nat.reduceEqDiff, e, false_and, and_false, if_false] using h2 u hu
  · by_cases e : u = v
    · subst e; simp only [si_rd, Nat.reduceEqDiff, false_and, if_false, and_self, if_true]
    · have e' : upL L v none u = L u := if_neg e
      rw [e'] at hn
      simpa only [si_rd, Nat.reduceEqDiff, e, false_and, and_false, if_false] using h3 u hu hn
  · have e : u ≠ v := fun e => by rw [e, hv] at hs; cases hs
    simpa only [si_rd, Nat.reduceEqDiff, e, false_and, and_false, if_false] using h4 u hu hs
theorem lsN_le {c : Option (Nat × (Nat → Option (Nat × Nat)))} (h : ∀ b K, c = some (b, K) → b < 1000000) : lsN c ≤ 1000000 := by
  cases c with
  | none => exact Nat.le_refl _
  | some x => exact Nat.le_of_lt (h x.1 x.2 rfl)
theorem Xtry_loop {σ : xM} {N pp nd a : Nat} {le dr co st dp wa : Nat → Nat} {L0 : Nat → Option (Nat × Nat)} {c : Option (Nat × (Nat → Option (Nat × Nat)))} {Q : Option Value → xM → Prop} (hB : pB σ pp nd dp wa) (hV : vX σ N le dr co st) (hS : shX σ N le dp) (hlt : ∀ i, i < cwF L0 N → decR a i < cwF L0 N) (hls : lsN c ≤ 1000000) : ∀ k i, i + k = cwF L0 N → ∀ τ L s l5 l6, TX σ τ N L0 a c L → s + 200 * k ≤ 2000 → (∀ τ L' s' l4 l5 l6, ruF le dr co st dp wa N (fun i => wvF L0 N (decR a i)) k i L s = some (L', s') → s' < lsN c → TX σ τ N L0 a c L' → xC 25 104 [some (.ref 63), some (.ref pp), some (.ref 78), some (.int (nI s')), l4, l5, l6] [] τ Q) → (∀ τ L' W l4 l5 l6, (∀ L' s', ruF le dr co st dp wa N (fun i => wvF L0 N (decR a i)) k i L s = some (L', s') → lsN c ≤ s') → lsN c ≤ W → W ≤ 1000000 → TX σ τ N L0 a c L' → xC 25 104 [some (.ref 63), some (.ref pp), some (.ref 78), some (.int (nI W)), l4, l5, l6] [] τ Q) → xC 25 5 [some (.ref 63), some (.ref pp), some (.ref 78), some (.int (nI s)), some (.int (nI i)), l5, l6] [] τ Q := by
  have hN5 := hV.1
  have hcw := cwF_le L0 N
  obtain ⟨w1, w2, w3⟩ := wvF_spec L0 N
  have hpp := hB.1
  intro k
  induction k with
  | zero =>
    intro i hi τ L s l5 l6 hT hs hA hBb
    have h78 := hT.2.2.2.2.2.1.1
    have e : (nI (cwF L0 N) ≤ nI i) = True := eq_true ((nI_leI (by omega) (by omega)).mpr (by omega))
    rw [s25_5]
    simp only [s25_7, s25_8, s25_11, xcx_i, xcx_r, xcx_n, xcx_l, xcx_0, h78, e, if_true]
    by_cases q : s < lsN c
    · exact hA τ L s _ _ _ rfl q hT
    · exact hBb τ L s _ _ _ (fun L' s' e => by cases e; omega) (by omega) (by omega) hT
  | succ k ih =>
    intro i hi τ L s l5 l6 hT hs hA hBb
    have h78 := hT.2.2.2.2.2.1.1
    have h79 := hT.2.2.2.2.2.1.2
    have h63 := hT.2.2.2.2.2.2.1
    have e := lt4N (n := cwF L0 N) (i := i) (by omega) (by omega)
    have e2 : (nI (lsN c) ≤ nI s) = ¬ (s < lsN c) := by rw [nI_leL (by omega) (by omega)]; exact propext ⟨fun q => by omega, fun q => by omega⟩
    rw [s25_5]
    by_cases q : s < lsN c
    · have hdi := hlt i (by omega)
      obtain ⟨hvN, hvn⟩ := w1 _ hdi
      have i6 : i < 6 := by omega
      have d5 : decR a i < 5 := by omega
      have v5 : wvF L0 N (decR a i) < 5 := by omega
      have r79 := h79 i (by omega)
      have r71 := hT.2.2.2.2.1 _ hdi
      obtain ⟨⟨v1, v2, v3, v4, v5', v6, v7⟩, x64, x65, x66, x67⟩ := (hV.P hT.1).2.2 _ hvN
      have hE : ∀ Q : Int32 → xM → Prop, xI1 22 [.ref 63, .ref pp, .int (nI (wvF L0 N (decR a i)))] τ Q = _ := fun Q => Xearliest (hB.P hT.1) (hV.P hT.1) hT.2.1 (hS.P hT.1) hvN
      cases hf : ffH le dr st dp wa L N (wvF L0 N (decR a i)) (200 - co (wvF L0 N (decR a i))) (co (wvF L0 N (decR a i))) with
      | none =>
        have hru : ruF le dr co st dp wa N (fun i => wvF L0 N (decR a i)) (k + 1) i L s = none := by
          unfold ruF; simp only [hf]
        rw [hf] at hE
        have em : (fcode none = -1) = True := eq_true rfl
        have hex : ∀ (l4 l5 l6 : Option Value), xC 25 104 [some (.ref 63), some (.ref pp), some (.ref 78), some (.int (nI 1000000)), l4, l5, l6] [] τ Q := fun l4 l5 l6 => hBb τ L 1000000 _ _ _ (fun L' s' e => by rw [hru] at e; cases e) hls (Nat.le_refl _) hT
        have e3 : (nI (lsN c) ≤ 1000000) = True := eq_true ((nI_leI (b := 1000000) (by omega) (by decide)).mpr hls)
        rcases hpp with rfl | rfl
        · simp only [s25_7, s25_8, s25_11, s25_14, s25_15, s25_16, s25_19, s25_22, s25_23, s25_26, s25_27, s25_30, s25_32, s25_35, s25_38, s25_40, s25_41, s25_42, s25_44, s25_47, s25_49, s25_51, s25_52, s25_55, s25_57, s25_58, s25_61, s25_62, s25_64, s25_67, s25_68, s25_69, s25_72, s25_74, s25_77, s25_78, s25_79, s25_80, s25_81, s25_83, s25_85, s25_88, s25_89, s25_91, s25_94, s25_95, s25_98, s25_101, xcx_i, xcx_r, xcx_n, xcx_l, xcx_0, h78, h63, e, e2, q, not_true, if_false, at_eq, xcl_71, xcl_79, xat79 i6, r79, xat71 d5, r71, hE, em, if_true, nI_1, true_or, or_true]
          rw [s25_5]
          by_cases z : nI (cwF L0 N) ≤ nI (i + 1)
          · simp only [s25_7, s25_8, s25_11, s25_14, s25_15, s25_16, s25_19, xcx_i, xcx_r, xcx_n, xcx_l, xcx_0, h78, z, if_true]
            exact hex _ _ _
          · simp only [s25_7, s25_8, s25_11, s25_14, s25_15, s25_16, s25_19, xcx_i, xcx_r, xcx_n, xcx_l, xcx_0, h78, h63, z, if_false, e3, if_true]
            exact hex _ _ _
        · simp only [s25_7, s25_8, s25_11, s25_14, s25_15, s25_16, s25_19, s25_22, s25_23, s25_26, s25_27, s25_30, s25_32, s25_35, s25_38, s25_40, s25_41, s25_42, s25_44, s25_47, s25_49, s25_51, s25_52, s25_55, s25_57, s25_58, s25_61, s25_62, s25_64, s25_67, s25_68, s25_69, s25_72, s25_74, s25_77, s25_78, s25_79, s25_80, s25_81, s25_83, s25_85, s25_88, s25_89, s25_91, s25_94, s25_95, s25_98, s25_101, xcx_i, xcx_r, xcx_n, xcx_l, xcx_0, h78, h63, e, e2, q, not_true, if_false, at_eq, xcl_71, xcl_79, xat79 i6, r79, xat71 d5, r71, hE, em, if_true, nI_1, true_or, or_true]
          rw [s25_5]
          by_cases z : nI (cwF L0 N) ≤ nI (i + 1)
          · simp only [s25_7, s25_8, s25_11, s25_14, s25_15, s25_16, s25_19, xcx_i, xcx_r, xcx_n, xcx_l, xcx_0, h78, z, if_true]
            exact hex _ _ _
          · simp only [s25_7, s25_8, s25_11, s25_14, s25_15, s25_16, s25_19, xcx_i, xcx_r, xcx_n, xcx_l, xcx_0, h78, h63, z, if_false, e3, if_true]
            exact hex _ _ _
      | some x =>
        obtain ⟨h, p⟩ := x
        obtain ⟨f1, f2, f3⟩ := ffH_bd _ _ _ _ hf
        rw [hf] at hE
        obtain ⟨q1, q2⟩ := d1000 (h := h) (p := p) (by omega) (by omega)
        have em : (fcode (some (h, p)) = -1) = False := nI_m1 (n := 1000 * h + p) (by omega)
        have q1' : fcode (some (h, p)) / 1000 = nI h := q1
        have q2' : fcode (some (h, p)) - nI h * 1000 = nI p := by rw [← q1]; exact q2
        have h1000 : ¬ (1000 : Int32) = 0 := by decide
        have hco : nI h - nI (co (wvF L0 N (decR a i))) = nI (h - co (wvF L0 N (decR a i))) := pk_sub f2
        have hput : ∀ (τ : xM) (x y : Int32) (Q : xM → Prop), xV 18 [.ref 63, .int (nI (wvF L0 N (decR a i))), .int x, .int y] τ Q = _ := fun τ x y Q => putAt_eq v5
        have hru : ruF le dr co st dp wa N (fun i => wvF L0 N (decR a i)) (k + 1) i L s = ruF le dr co st dp wa N (fun i => wvF L0 N (decR a i)) k (i + 1) (upL L (wvF L0 N (decR a i)) (some (p, h))) (s + (h - co (wvF L0 N (decR a i)))) := by
          rw [show ruF le dr co st dp wa N (fun i => wvF L0 N (decR a i)) (k + 1) i L s = (match ffH le dr st dp wa L N (wvF L0 N (decR a i)) (200 - co (wvF L0 N (decR a i))) (co (wvF L0 N (decR a i))) with | none => none | some (h, p) => ruF le dr co st dp wa N (fun i => wvF L0 N (decR a i)) k (i + 1) (upL L (wvF L0 N (decR a i)) (some (p, h))) (s + (h - co (wvF L0 N (decR a i))))) from rfl, hf]
        rw [hru] at hA hBb
        have hnext := ih (i + 1) (by omega) _ _ (s + (h - co (wvF L0 N (decR a i)))) (some (.int (nI (wvF L0 N (decR a i))))) (some (.int (fcode (some (h, p))))) (hT.put hvn (p := p) (q := h) (by omega) (by omega)) (by omega) hA hBb
        rcases hpp with rfl | rfl
        · simp only [s25_7, s25_8, s25_11, s25_14, s25_15, s25_16, s25_19, s25_22, s25_23, s25_26, s25_27, s25_30, s25_32, s25_35, s25_38, s25_40, s25_41, s25_42, s25_44, s25_47, s25_49, s25_51, s25_52, s25_55, s25_57, s25_58, s25_61, s25_62, s25_64, s25_67, s25_68, s25_69, s25_72, s25_74, s25_77, s25_78, s25_79, s25_80, s25_81, s25_83, s25_85, s25_88, s25_89, s25_91, s25_94, s25_95, s25_98, s25_101, xcx_i, xcx_r, xcx_n, xcx_l, xcx_0, h78, h63, e, e2, q, not_true, if_false, at_eq, xcl_66, xcl_71, xcl_79, xat79 i6, r79, xat71 d5, r71, hE, em, not_false_eq_true, if_true, q1', q2', h1000, true_and, xat66 v5, x66, hco, nI_add, hput, nI_1, true_or, or_true]
          exact hnext
        · simp only [s25_7, s25_8, s25_11, s25_14, s25_15, s25_16, s25_19, s25_22, s25_23, s25_26, s25_27, s25_30, s25_32, s25_35, s25_38, s25_40, s25_41, s25_42, s25_44, s25_47, s25_49, s25_51, s25_52, s25_55, s25_57, s25_58, s25_61, s25_62, s25_64, s25_67, s25_68, s25_69, s25_72, s25_74, s25_77, s25_78, s25_79, s25_80, s25_81, s25_83, s25_85, s25_88, s25_89, s25_91, s25_94, s25_95, s25_98, s25_101, xcx_i, xcx_r, xcx_n, xcx_l, xcx_0, h78, h63, e, e2, q, not_true, if_false, at_eq, xcl_66, xcl_71, xcl_79, xat79 i6, r79, xat71 d5, r71, hE, em, not_false_eq_true, if_true, q1', q2', h1000, true_and, xat66 v5, x66, hco, nI_add, hput, nI_1, true_or, or_true]
          exact hnext
    · simp only [s25_7, s25_8, s25_11, s25_14, s25_15, s25_16, s25_19, xcx_i, xcx_r, xcx_n, xcx_l, xcx_0, h78, h63, e, e2, q, not_false_eq_true, if_true, if_false]
      exact hBb τ L s _ _ _ (fun L' s' e => by have := ruF_mono _ _ _ _ _ _ e; omega) (by omega) (by omega) hT
