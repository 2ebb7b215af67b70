/-! port -/
theorem op_port : xOp 112 178 [] := by
  intro xs L σ hI
  obtain ⟨n, bt, h⟩ := txt_of hI.2.1
  obtain ⟨q, eq⟩ : ∃ q, σ.2.2 1 = q := ⟨_, rfl⟩
  obtain ⟨p, ep⟩ : ∃ p, σ.2.2 2 = p := ⟨_, rfl⟩
  have hpq : (q = 4 ∧ p = 7) ∨ (q = 7 ∧ p = 4) := by
    have := hI.1.1
    rw [eq, ep] at this
    exact this
  refine Xport hpq eq ep h (fun τ c hr => ?_) (fun τ c f z e1 e2 hd => ?_)
  · have hI2 := hI.simD (hr.simD (by rw [eq]; exact hpq))
    refine Mport (frH.txt (by omega) h hr).R (fun τ' _ hr' => ⟨rfl, hI2.sim hr'.sim⟩) (fun τ' c2 _ _ => absurd c2 c)
  · have hx : txR τ n bt := by
      refine ⟨h.1, trivial, ?_, fun i hi => ⟨trivial, (h.2.2.2 i hi).2.1, ?_⟩⟩
      · rw [f 84 1 (by omega) (by omega) (by omega) (by unfold zed; omega)]; exact h.2.2.1
      · rw [f 85 i (by omega) (by omega) (by omega) (by unfold zed; omega)]; exact (h.2.2.2 i hi).2.2
    obtain ⟨hv, hT0⟩ := readA_v c
    refine Mport hx (fun τ' c2 _ => absurd c c2) (fun τ' _ hf hP => ⟨rfl, ?_⟩)
    generalize (readA bt n).2.1 = N at hd hv hP
    generalize (readA bt n).2.2 = T at hd hv hP hT0
    obtain ⟨⟨k17, k19, k21, k23, k25⟩, ⟨k1, k28, k31, k38, k40, k43, k47, k49⟩, ⟨w92, w93, w94, w95⟩, ⟨w96, w97⟩, w99⟩ := hP
    have r1 : τ'.2.2 1 = p := by rw [hf.2]; exact e1
    have r2 : τ'.2.2 2 = q := by rw [hf.2]; exact e2
    have dN : ∀ j, j < 54 → τ'.1 (p + 1) j = nI (N j) := fun j hj => (hf.1 (p + 1) j (by omega)).trans (hd.1 j hj).1
    have dT : ∀ k, k < 7 → τ'.1 (p + 2) k = nI (T k) := fun k hk => (hf.1 (p + 2) k (by omega)).trans (hd.2 k hk).1
    have zz : ∀ c j, zed c j → τ'.1 c j = 0 := fun c j hz => (hf.1 c j (by unfold zed at hz; omega)).trans (z c j hz)
    have m0 : T 0 ≤ 8 := hv.1 0 (by decide)
    have m1 : T 1 ≤ 4 := hv.1 1 (by decide)
    have m2 : T 2 ≤ 4 := hv.1 2 (by decide)
    have m4 : T 4 ≤ 4 := hv.1 4 (by decide)
    have b50 : N 50 ≤ 6 := by
      by_cases c5 : T 5 = 0
      · have hz := hv.2.2 5 0 (by decide) (by decide) c5 rfl
        have hz' : N 50 = 0 := hz
        omega
      · exact (hv.2.1 5 0 0 (by decide) (by decide) (by omega)).2
    have n0 : ∀ (j : Nat), (nI 0 : Int32) = 0 := fun _ => rfl
    refine ⟨⟨by rw [r1, r2]; omega, ?_⟩, ?_, ?_, ?_, ?_, ?_, ?_, ?_, ?_, ?_⟩
    · rw [r1]
      refine ⟨T 0, T 1, T 2, T 4, N 50, ⟨m0, m1, m2, m4, b50, fun y => by omega⟩, ⟨dT 0 (by decide), dT 1 (by decide), dT 2 (by decide), dT 4 (by decide), dN 50 (by decide)⟩, ⟨k17, k19, k21, k23, k25⟩, fun i hi => ?_, fun i hi => ?_, fun i hi => ?_, fun i hi => ?_, fun i hi => ?_, fun i hi => ?_⟩
      · have v0 := hv.2.1 0 0 i (by decide) (by decide) hi
        have v1 := hv.2.1 0 1 i (by decide) (by decide) hi
        rw [show ptA 0 + i * ptN 0 + 0 = 2 * i by rw [show ptA 0 = 0 from rfl, show ptN 0 = 2 from rfl]; omega, show lmL 0 0 = 0 from rfl, show lmH 0 0 = 199 from rfl] at v0
        rw [show ptA 0 + i * ptN 0 + 1 = 2 * i + 1 by rw [show ptA 0 = 0 from rfl, show ptN 0 = 2 from rfl]; omega, show lmL 0 1 = 1 from rfl, show lmH 0 1 = 999 from rfl] at v1
        have a0 := w92 (2 * i) (by omega)
        have a1 := w92 (2 * i + 1) (by omega)
        rw [Nat.zero_add] at a0 a1
        rw [dN (2 * i) (by omega), dN (2 * i + 1) (by omega)]
        exact ⟨a0, a1, bd_nI (by omega) (by omega) (by omega), bd_nI (by omega) (by omega) (by omega)⟩
      · have v0 := hv.2.1 1 0 i (by decide) (by decide) hi
        have v1 := hv.2.1 1 1 i (by decide) (by decide) hi
        rw [show ptA 1 + i * ptN 1 + 0 = 16 + 2 * i by rw [show ptA 1 = 16 from rfl, show ptN 1 = 2 from rfl]; omega, show lmL 1 0 = 1 from rfl, show lmH 1 0 = 999 from rfl] at v0
        rw [show ptA 1 + i * ptN 1 + 1 = 16 + 2 * i + 1 by rw [show ptA 1 = 16 from rfl, show ptN 1 = 2 from rfl]; omega, show lmL 1 1 = 1 from rfl, show lmH 1 1 = 20 from rfl] at v1
        have a0 := w93 (2 * i) (by omega)
        have a1 := w93 (2 * i + 1) (by omega)
        rw [dN (16 + 2 * i) (by omega), dN (16 + 2 * i + 1) (by omega)]
        exact ⟨a0, a1, bd_nI (by omega) (by omega) (by omega), bd_nI (by omega) (by omega) (by omega)⟩
      · have v0 := hv.2.1 2 0 i (by decide) (by decide) hi
        have v1 := hv.2.1 2 1 i (by decide) (by decide) hi
        have v2 := hv.2.1 2 2 i (by decide) (by decide) hi
        rw [show ptA 2 + i * ptN 2 + 0 = 24 + 3 * i by rw [show ptA 2 = 24 from rfl, show ptN 2 = 3 from rfl]; omega, show lmL 2 0 = 0 from rfl, show lmH 2 0 = 200 from rfl] at v0
        rw [show ptA 2 + i * ptN 2 + 1 = 24 + 3 * i + 1 by rw [show ptA 2 = 24 from rfl, show ptN 2 = 3 from rfl]; omega, show lmL 2 1 = 0 from rfl, show lmH 2 1 = 200 from rfl] at v1
        rw [show ptA 2 + i * ptN 2 + 2 = 24 + 3 * i + 2 by rw [show ptA 2 = 24 from rfl, show ptN 2 = 3 from rfl]; omega, show lmL 2 2 = 0 from rfl, show lmH 2 2 = 40 from rfl] at v2
        have a0 := w94 (3 * i) (by omega)
        have a1 := w94 (3 * i + 1) (by omega)
        have a2 := w94 (3 * i + 2) (by omega)
        rw [dN (24 + 3 * i) (by omega), dN (24 + 3 * i + 1) (by omega), dN (24 + 3 * i + 2) (by omega)]
        exact ⟨a0, a1, a2, bd_nI (by omega) (by omega) (by omega), bd_nI (by omega) (by omega) (by omega), bd_nI (by omega) (by omega) (by omega)⟩
      · have v0 := hv.2.1 4 0 i (by decide) (by decide) hi
        have v1 := hv.2.1 4 1 i (by decide) (by decide) hi
        rw [show ptA 4 + i * ptN 4 + 0 = 42 + 2 * i by rw [show ptA 4 = 42 from rfl, show ptN 4 = 2 from rfl]; omega, show lmL 4 0 = 1 from rfl, show lmH 4 0 = 20 from rfl] at v0
        rw [show ptA 4 + i * ptN 4 + 1 = 42 + 2 * i + 1 by rw [show ptA 4 = 42 from rfl, show ptN 4 = 2 from rfl]; omega, show lmL 4 1 = 0 from rfl, show lmH 4 1 = 600 from rfl] at v1
        have a0 := w95 (2 * i) (by omega)
        have a1 := w95 (2 * i + 1) (by omega)
        rw [dN (42 + 2 * i) (by omega), dN (42 + 2 * i + 1) (by omega)]
        exact ⟨a0, a1, bd_nI (by omega) (by omega) (by omega), bd_nI (by omega) (by omega) (by omega)⟩
      · have a0 := w96 i hi
        rw [dN (36 + i) (by omega)]
        refine ⟨a0, ?_⟩
        by_cases c3 : T 3 = 0
        · have hz : N (36 + i) = 0 := hv.2.2 3 i (by decide) hi c3 rfl
          rw [hz]; exact bd_nI (by omega) (by omega) (by omega)
        · have v0 := hv.2.1 3 i 0 (by decide) hi (by omega)
          rw [show ptA 3 + 0 * ptN 3 + i = 36 + i by rw [show ptA 3 = 36 from rfl]; omega] at v0
          have hl : lmH 3 i = 9 := by
            have : i = 0 ∨ i = 1 ∨ i = 2 ∨ i = 3 ∨ i = 4 ∨ i = 5 := by omega
            rcases this with rfl | rfl | rfl | rfl | rfl | rfl <;> rfl
          exact bd_nI (by omega) (by omega) (by omega)
      · have a0 := w97 i hi
        rw [dN (51 + i) (by omega)]
        refine ⟨a0, ?_⟩
        by_cases c3 : T 6 = 0
        · have hz : N (51 + i) = 0 := hv.2.2 6 i (by decide) hi c3 rfl
          rw [hz]; exact bd_nI (by omega) (by omega) (by omega)
        · have v0 := hv.2.1 6 i 0 (by decide) hi (by omega)
          rw [show ptA 6 + 0 * ptN 6 + i = 51 + i by rw [show ptA 6 = 51 from rfl]; omega] at v0
          have hl : lmH 6 i = 99 := by
            have : i = 0 ∨ i = 1 ∨ i = 2 := by omega
            rcases this with rfl | rfl | rfl <;> rfl
          exact bd_nI (by omega) (by omega) (by omega)
    · exact ⟨0, by decide, zz 2 1 (by unfold zed; omega), k1, fun i hi => absurd hi (Nat.not_lt_zero i)⟩
    · have z0 := zz 10 0 (by unfold zed; omega)
      refine ⟨0, by decide, zz 10 3 (by unfold zed; omega), k31, Or.inl z0, by rw [k28, z0], fun _ => rfl, fun q1 => ?_, fun l hl => absurd hl (Nat.not_lt_zero l)⟩
      rw [z0] at q1; exact absurd q1 (by decide)
    · have img : ∀ c k, zed c 0 → k < 3 → gIk τ' c k := fun c k hz hk => by
        have z0 := zz c 0 hz
        refine ⟨Or.inl z0, by rw [w99 k hk, z0], fun q1 => ?_⟩
        rw [z0] at q1; exact absurd q1 (by decide)
      exact ⟨img 17 0 (by unfold zed; omega) (by decide), img 24 1 (by unfold zed; omega) (by decide), img 31 2 (by unfold zed; omega) (by decide)⟩
    · exact ⟨0, by decide, zz 51 0 (by unfold zed; omega), k38, fun c hc => absurd hc (Nat.not_lt_zero c)⟩
    · exact ⟨0, by decide, zz 59 0 (by unfold zed; omega), k40, fun c hc => absurd hc (Nat.not_lt_zero c)⟩
    · exact ⟨0, by decide, zz 63 0 (by unfold zed; omega), k43, fun c hc => absurd hc (Nat.not_lt_zero c)⟩
    · exact ⟨0, by decide, zz 73 0 (by unfold zed; omega), k47, fun c hc => absurd hc (Nat.not_lt_zero c)⟩
    · exact ⟨0, by decide, zz 80 0 (by unfold zed; omega), k49, fun c hc => absurd hc (Nat.not_lt_zero c)⟩
    · obtain ⟨x1, x2⟩ := hI.2.2.2.2.2.2.2.2.2
      refine ⟨funext fun j => ?_, ?_⟩
      · rw [hf.1 1010 j (by omega), f 1010 j (by omega) (by omega) (by omega) (by unfold zed; omega), x1]
      · rw [hf.1 1011 0 (by omega), f 1011 0 (by omega) (by omega) (by omega) (by unfold zed; omega)]; exact x2
