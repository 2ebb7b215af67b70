/-! plan, the reference's -/
def opF (L0 : Nat → Option (Nat × Nat)) : Nat → Nat
  | 0 => 0
  | v + 1 => opF L0 v + if (L0 v).isNone then 2 ^ v else 0
theorem opF_lt (L0 : Nat → Option (Nat × Nat)) : ∀ v, opF L0 v < 2 ^ v := by
  intro v
  induction v with
  | zero => exact Nat.zero_lt_one
  | succ v ih =>
    have h : 2 ^ (v + 1) = 2 * 2 ^ v := by rw [Nat.pow_succ]; omega
    unfold opF
    split <;> omega
theorem bit5a : ∀ v : Nat, v < 5 → ∀ a : Nat, a < 32 → a < 2 ^ v → nI a ||| ((1 : Int32) <<< (nI v &&& 31)) = nI (a + 2 ^ v) ∧ ∀ u : Nat, u < 5 → (a + 2 ^ v).testBit u = (a.testBit u || Nat.beq u v) := by decide +kernel
theorem bit5b : ∀ a : Nat, a < 32 → ∀ u : Nat, u < 5 → decide (nI a >>> (nI u &&& 31) &&& 1 = 1) = a.testBit u := by decide +kernel
theorem opF_bit (L0 : Nat → Option (Nat × Nat)) : ∀ v, v ≤ 5 → ∀ u, u < 5 → (opF L0 v).testBit u = (decide (u < v) && (L0 u).isNone) := by
  intro v
  induction v with
  | zero => intro _ u _; show (0 : Nat).testBit u = _; rw [Nat.zero_testBit]; rfl
  | succ v ih =>
    intro hv u hu
    have h1 := opF_lt L0 v
    have h32 : 2 ^ v ≤ 2 ^ 4 := Nat.pow_le_pow_right (by decide) (by omega)
    have hi := ih (by omega) u hu
    cases hL : L0 v with
    | none =>
      have e : opF L0 (v + 1) = opF L0 v + 2 ^ v := by
        show opF L0 v + (if (L0 v).isNone then 2 ^ v else 0) = _
        rw [hL]; rfl
      rw [e, (bit5a v (by omega) _ (by omega) h1).2 u hu, hi]
      by_cases q : u = v
      · subst q
        rw [hL, show Nat.beq u u = true from Nat.beq_refl u, decide_eq_true (show u < u + 1 by omega), Bool.or_true]; rfl
      · have : Nat.beq u v = false := by
          cases hb : Nat.beq u v with
          | false => rfl
          | true => exact absurd (Nat.eq_of_beq_eq_true hb) q
        rw [this, Bool.or_false]
        congr 1
        by_cases z : u < v
        · rw [decide_eq_true z, decide_eq_true (show u < v + 1 by omega)]
        · rw [decide_eq_false z, decide_eq_false (show ¬ u < v + 1 by omega)]
    | some x =>
      have e : opF L0 (v + 1) = opF L0 v := by
        show opF L0 v + (if (L0 v).isNone then 2 ^ v else 0) = _
        rw [hL]; rfl
      rw [e, hi]
      by_cases q : u = v
      · subst q
        rw [hL, decide_eq_false (Nat.lt_irrefl u)]
        exact (Bool.and_false _).symm
      · congr 1
        by_cases z : u < v
        · rw [decide_eq_true z, decide_eq_true (show u < v + 1 by omega)]
        · rw [decide_eq_false z, decide_eq_false (show ¬ u < v + 1 by omega)]
theorem openBit {L0 : Nat → Option (Nat × Nat)} {N u : Nat} (hN : N ≤ 5) (hu : u < N) : (nI (opF L0 N) >>> (nI u &&& 31) &&& 1 = 1) = (L0 u = none) := by
  have h1 := opF_lt L0 N
  have h32 : 2 ^ N ≤ 2 ^ 5 := Nat.pow_le_pow_right (by decide) hN
  have h := bit5b (opF L0 N) (by omega) u (by omega)
  rw [opF_bit L0 N hN u (by omega), decide_eq_true hu, Bool.true_and] at h
  apply propext
  constructor
  · intro q
    rw [decide_eq_true q] at h
    exact Option.isNone_iff_eq_none.mp h.symm
  · intro q
    rw [q] at h
    exact of_decide_eq_true h
def bsI : Option (Nat × (Nat → Option (Nat × Nat))) → Int32
  | none => -1
  | some (b, _) => nI b
def TM (σ τ : xM) (N : Nat) (L0 : Nat → Option (Nat × Nat)) (a : Nat) (c : Option (Nat × (Nat → Option (Nat × Nat)))) (L : Nat → Option (Nat × Nat)) : Prop :=
  xSimW chR σ τ ∧ lM τ N L ∧ (∀ v, v < N → (L0 v).isSome = true → τ.1 108 v = σ.1 108 v ∧ τ.1 109 v = σ.1 109 v) ∧ rowIs τ 119 (cwF L0 N) (fun i => wvF L0 N (decR a i)) ∧ (∀ v, v < N → (L0 v).isSome = true → τ.1 120 v = nI (cdL L0 v)) ∧ ∀ b K, c = some (b, K) → ∀ v, v < N → τ.1 120 v = nI (cdL K v)
theorem TM.put {σ τ : xM} {N : Nat} {L0 : Nat → Option (Nat × Nat)} {a : Nat} {c : Option (Nat × (Nat → Option (Nat × Nat)))} {L : Nat → Option (Nat × Nat)} (h : TM σ τ N L0 a c L) {v : Nat} (hv : L0 v = none) {p q : Nat} (hp : p ≤ 200) (hq : q ≤ 199) : TM σ (xe_si (xe_si τ 108 v (nI p)) 109 v (nI q)) N L0 a c (upL L v (some (p, q))) := by
  obtain ⟨h1, h2, h4, h5, h6, h9⟩ := h
  refine ⟨(h1.si rfl).si rfl, fun u hu => ?_, fun u hu hs => ?_, (h5.ne (by decide)).ne (by decide), fun u hu hs => h6 u hu hs, fun b K e u hu => h9 b K e u hu⟩
  · by_cases e : u = v
    · subst e
      refine ⟨fun q' => ?_, fun p' h' q' => ?_⟩
      · unfold upL at q'; rw [if_pos rfl] at q'; cases q'
      · unfold upL at q'; rw [if_pos rfl] at q'
        cases q'
        simp only [si_rd, Nat.reduceEqDiff, false_and, true_and, and_self, if_true, if_false]
        exact ⟨hp, hq⟩
    · have e' : upL L v (some (p, q)) u = L u := if_neg e
      rw [e']
      simpa only [si_rd, Nat.reduceEqDiff, e, false_and, and_false, if_false] using h2 u hu
  · have e : u ≠ v := fun e => by rw [e, hv] at hs; cases hs
    simpa only [si_rd, Nat.reduceEqDiff, e, false_and, and_false, if_false] using h4 u hu hs
theorem TM.lift {σ τ : xM} {N : Nat} {L0 : Nat → Option (Nat × Nat)} {a : Nat} {c : Option (Nat × (Nat → Option (Nat × Nat)))} {L : Nat → Option (Nat × Nat)} (h : TM σ τ N L0 a c L) {v : Nat} (hv : L0 v = none) : TM σ (xe_si τ 109 v (-1)) N L0 a c (upL L v none) := by
  obtain ⟨h1, h2, h4, h5, h6, h9⟩ := h
  refine ⟨h1.si rfl, fun u hu => ?_, fun u hu hs => ?_, h5.ne (by decide), fun u hu hs => h6 u hu hs, fun b K e u hu => h9 b K e u hu⟩
  · by_cases e : u = v
    · subst e
      refine ⟨fun q' => ?_, fun p' h' q' => ?_⟩
      · simp only [si_rd, and_self, if_true]
      · unfold upL at q'; rw [if_pos rfl] at q'; cases q'
    · have e' : upL L v none u = L u := if_neg e
      rw [e']
      simpa only [si_rd, Nat.reduceEqDiff, e, false_and, and_false, if_false] using h2 u hu
  · have e : u ≠ v := fun e => by rw [e, hv] at hs; cases hs
    simpa only [si_rd, Nat.reduceEqDiff, e, false_and, and_false, if_false] using h4 u hu hs
theorem TM.code {σ τ : xM} {N : Nat} {L0 : Nat → Option (Nat × Nat)} {a : Nat} {c : Option (Nat × (Nat → Option (Nat × Nat)))} {L L' : Nat → Option (Nat × Nat)} (h : TM σ τ N L0 a c L) (he : lM τ N L') : TM σ τ N L0 a c L' := ⟨h.1, he, h.2.2⟩
/-- an order is laid; s is -1 where it can't be -/
def rsI : Option ((Nat → Option (Nat × Nat)) × Nat) → Int32
  | none => -1
  | some (_, s) => nI s
theorem Mlay_loop {σ : xM} {N pp nd a : Nat} {w1 w4 : Int32} {le dr co st dp wa : Nat → Nat} {L0 : Nat → Option (Nat × Nat)} {c : Option (Nat × (Nat → Option (Nat × Nat)))} {Q : Option Value → xM → Prop} (hB : pB σ pp nd dp wa) (hV : vM σ N le dr co st) (hS : shM σ N le dp) (hlt : ∀ i, i < cwF L0 N → decR a i < cwF L0 N) : ∀ k i, i + k = cwF L0 N → ∀ τ L s l8, TM σ τ N L0 a c L → s + 200 * k ≤ 2000 → (∀ τ L' l7 l8, TM σ τ N L0 a c L' → (∀ K s', ruF le dr co st dp wa N (fun i => wvF L0 N (decR a i)) k i L s = some (K, s') → L' = K) → xC 236 241 [some (.ref 84), some (.int w1), some (.int (nI (cwF L0 N))), some (.int (nI (opF L0 N))), some (.int w4), some (.int 1), some (.int (rsI (ruF le dr co st dp wa N (fun i => wvF L0 N (decR a i)) k i L s))), l7, l8] [] τ Q) → xC 236 138 [some (.ref 84), some (.int w1), some (.int (nI (cwF L0 N))), some (.int (nI (opF L0 N))), some (.int w4), some (.int 1), some (.int (nI s)), some (.int (nI i)), l8] [] τ Q := by
  have hN5 := hV.1
  have hcw := cwF_le L0 N
  obtain ⟨u1, u2, u3⟩ := wvF_spec L0 N
  intro k
  induction k with
  | zero =>
    intro i hi τ L s l8 hT hs hA
    have e : (nI (cwF L0 N) ≤ nI i) = True := eq_true ((nI_leI (by omega) (by omega)).mpr (by omega))
    rw [s236_138]
    simp only [s236_140, s236_141, xcx_i, xcx_r, xcx_n, xcx_l, xcx_0, e, if_true]
    exact hA τ L _ _ hT (fun K s' e => by cases e; rfl)
  | succ k ih =>
    intro i hi τ L s l8 hT hs hA
    have e := lt4N (n := cwF L0 N) (i := i) (by omega) (by omega)
    have es := nI_m1 (show s < 2147483648 by omega)
    have hdi := hlt i (by omega)
    obtain ⟨hvN, hvn⟩ := u1 _ hdi
    have i6 : i < 6 := by omega
    have b0 : i < 100000 := by omega
    have v5 : wvF L0 N (decR a i) < 5 := by omega
    have bv : wvF L0 N (decR a i) < 100000 := by omega
    have r119 : τ.1 119 i = nI (wvF L0 N (decR a i)) := hT.2.2.2.1 i (by omega)
    obtain ⟨⟨v1, v2, v3, v4, v5', v6, v7⟩, x64, x65, x66, x67⟩ := (hV.R hT.1).2.2 _ hvN
    have hE : ∀ Q : Int32 → xM → Prop, xI1 233 [.ref 84, .int (nI (wvF L0 N (decR a i)))] τ Q = _ := fun Q => MfindsFit (hB.R hT.1) (hV.R hT.1) hT.2.1 (hS.R hT.1) hvN
    rw [s236_138]
    cases hf : ffH le dr st dp wa L N (wvF L0 N (decR a i)) (200 - co (wvF L0 N (decR a i))) (co (wvF L0 N (decR a i))) with
    | none =>
      have hru : ruF le dr co st dp wa N (fun i => wvF L0 N (decR a i)) (k + 1) i L s = none := by
        unfold ruF; simp only [hf]
      rw [hf] at hE
      rw [hru] at hA
      have em : (fcode none = -1) = True := eq_true rfl
      simp only [s236_140, s236_141, s236_144, s236_146, s236_147, s236_150, s236_151, s236_152, s236_155, s236_157, s236_158, s236_161, s236_163, s236_165, s236_166, s236_169, s236_170, s236_172, s236_175, s236_176, s236_179, s236_180, s236_183, s236_185, s236_186, s236_188, s236_191, s236_192, s236_193, s236_194, s236_197, s236_198, s236_201, s236_203, s236_204, s236_206, s236_209, s236_210, s236_211, s236_213, s236_215, s236_218, s236_219, s236_220, s236_221, s236_224, s236_226, s236_227, s236_228, s236_231, s236_232, s236_233, s236_235, s236_238, xcx_i, xcx_r, xcx_n, xcx_l, xcx_0, e, if_false, es, xcl_119, xln_119, i6, b0, cl_s, pos_s, true_and, r119, hE, em, not_true, not_false_eq_true, if_true, nI_1, true_or, or_true]
      have hex : ∀ l7 l8, xC 236 241 [some (.ref 84), some (.int w1), some (.int (nI (cwF L0 N))), some (.int (nI (opF L0 N))), some (.int w4), some (.int 1), some (.int (-1)), l7, l8] [] τ Q := fun l7 l8 => hA τ L l7 l8 hT (fun K s' e => by cases e)
      rw [s236_138]
      by_cases z : nI (cwF L0 N) ≤ nI (i + 1)
      · simp only [s236_140, s236_141, s236_144, s236_146, s236_147, xcx_i, xcx_r, xcx_n, xcx_l, xcx_0, z, if_true]
        exact hex _ _
      · simp only [s236_140, s236_141, s236_144, s236_146, s236_147, xcx_i, xcx_r, xcx_n, xcx_l, xcx_0, z, if_false, if_true]
        exact hex _ _
    | some x =>
      obtain ⟨h, p⟩ := x
      obtain ⟨f1, f2, f3⟩ := ffH_bd _ _ _ _ hf
      rw [hf] at hE
      obtain ⟨q1, q2⟩ := d1000 (h := h) (p := p) (by omega) (by omega)
      have em : (fcode (some (h, p)) = -1) = False := nI_m1 (n := 1000 * h + p) (by omega)
      have q1' : fcode (some (h, p)) / 1000 = nI h := q1
      have q2' : fcode (some (h, p)) - nI h * 1000 = nI p := by rw [← q1]; exact q2
      have h1000 : ¬ (1000 : Int32) = 0 := by decide
      have hco : nI h - nI (co (wvF L0 N (decR a i))) = nI (h - co (wvF L0 N (decR a i))) := pk_sub f2
      have hru : ruF le dr co st dp wa N (fun i => wvF L0 N (decR a i)) (k + 1) i L s = ruF le dr co st dp wa N (fun i => wvF L0 N (decR a i)) k (i + 1) (upL L (wvF L0 N (decR a i)) (some (p, h))) (s + (h - co (wvF L0 N (decR a i)))) := by
        rw [show ruF le dr co st dp wa N (fun i => wvF L0 N (decR a i)) (k + 1) i L s = (match ffH le dr st dp wa L N (wvF L0 N (decR a i)) (200 - co (wvF L0 N (decR a i))) (co (wvF L0 N (decR a i))) with | none => none | some (h, p) => ruF le dr co st dp wa N (fun i => wvF L0 N (decR a i)) k (i + 1) (upL L (wvF L0 N (decR a i)) (some (p, h))) (s + (h - co (wvF L0 N (decR a i))))) from rfl, hf]
      rw [hru] at hA
      have hnext := ih (i + 1) (by omega) _ _ (s + (h - co (wvF L0 N (decR a i)))) (some (.int (fcode (some (h, p))))) (hT.put hvn (p := p) (q := h) (by omega) (by omega)) (by omega) hA
      simp only [s236_140, s236_141, s236_144, s236_146, s236_147, s236_150, s236_151, s236_152, s236_155, s236_157, s236_158, s236_161, s236_163, s236_165, s236_166, s236_169, s236_170, s236_172, s236_175, s236_176, s236_179, s236_180, s236_183, s236_185, s236_186, s236_188, s236_191, s236_192, s236_193, s236_194, s236_197, s236_198, s236_201, s236_203, s236_204, s236_206, s236_209, s236_210, s236_211, s236_213, s236_215, s236_218, s236_219, s236_220, s236_221, s236_224, s236_226, s236_227, s236_228, s236_231, s236_232, s236_233, s236_235, s236_238, xcx_i, xcx_r, xcx_n, xcx_l, xcx_0, e, if_false, es, xcl_108, xcl_109, xcl_119, xln_108, xln_109, xln_119, i6, b0, v5, bv, cl_s, pos_s, true_and, r119, si_rd, Nat.reduceEqDiff, false_and, hE, em, not_true, not_false_eq_true, if_true, q1', q2', h1000, Mov2 v5, x66, hco, nI_add, nI_1, true_or, or_true]
      exact hnext
