/-! the reference's draft -/
def cC (k : Nat) : Nat := ([86, 87, 88, 90, 89, 112, 91] : List Nat).getD k 0
def cS (k : Nat) : Nat := ([6, 8, 10, 2, 12, 14, 2] : List Nat).getD k 0
def rrw (τ : xM) (c a m : Nat) (N : Nat → Nat) : Prop := ∀ i, i < m → τ.1 c i = nI (N (a + i))
def rP (s : Nat) (τ : xM) (N T : Nat → Nat) : Prop := if s = 3 ∨ s = 6 then ((T s = 0 ∧ τ.1 (cC s) 0 = -1) ∨ (T s = 1 ∧ rrw τ (cC s) (ptA s) (ptN s) N)) else if s = 5 then ((T 5 = 0 ∧ τ.1 84 14 = -1) ∨ (T 5 = 1 ∧ τ.1 84 14 = nI (N 50))) else (τ.1 84 (cS s) = nI (T s) ∧ rrw τ (cC s) (ptA s) (T s * ptN s) N)
def rD (τ : xM) (N T : Nat → Nat) : Prop := ∀ s, s < 7 → rP s τ N T
/-- what a line of kind k changes -/
def frK (k : Nat) (σ τ : xM) : Prop := (∀ c j, c ≠ cC k → ¬ (c = 84 ∧ (j = 2 ∨ j = 3 ∨ j = 4 ∨ j = 51 ∨ j = cS k)) → τ.1 c j = σ.1 c j) ∧ τ.2.2 = σ.2.2
theorem frK.rf (k : Nat) (σ : xM) : frK k σ σ := ⟨fun _ _ _ _ => rfl, rfl⟩
theorem frK.lx {k : Nat} {a b c : xM} (h1 : frK k a b) (h2 : lx5 b c) : frK k a c := ⟨fun x j q1 q2 => (h2.1 x j (fun z => q2 ⟨z.1, by omega⟩)).trans (h1.1 x j q1 q2), h2.2.trans h1.2⟩
theorem frK.row {k j : Nat} {v : Int32} {a b : xM} (h1 : frK k a b) : frK k a (xe_si b (cC k) j v) := ⟨fun x i q1 q2 => by rw [si_rd, if_neg (fun z => q1 z.1)]; exact h1.1 x i q1 q2, h1.2⟩
theorem frK.slot {k : Nat} {v : Int32} {a b : xM} (h1 : frK k a b) : frK k a (xe_si b 84 (cS k) v) := ⟨fun x i q1 q2 => by rw [si_rd, if_neg (fun z => q2 ⟨z.1, by omega⟩)]; exact h1.1 x i q1 q2, h1.2⟩
theorem c_sep0 : ∀ k : Nat, k < 7 → ∀ s : Nat, s < 7 → s = k ∨ (cC s ≠ cC k ∧ (s = 3 ∨ s = 6 ∨ cS s ≠ cS k)) := by decide +kernel
theorem c_sep (k : Nat) (hk : k < 7) (s : Nat) (hs : s < 7) (hn : s ≠ k) : cC s ≠ cC k ∧ (s ≠ 3 → s ≠ 6 → cS s ≠ cS k) := by
  rcases c_sep0 k hk s hs with h | ⟨h1, h2⟩
  · exact absurd h hn
  · refine ⟨h1, fun h3 h6 => ?_⟩
    rcases h2 with h | h | h
    · exact absurd h h3
    · exact absurd h h6
    · exact h
theorem c_in0 : ∀ k : Nat, k < 7 → 86 ≤ cC k ∧ cC k ≠ 84 ∧ cC k ≠ 85 ∧ (cC k ≤ 91 ∨ cC k = 112) ∧ (k = 3 ∨ k = 6 ∨ (6 ≤ cS k ∧ cS k ≤ 14)) ∧ cS k ≠ 1 := by decide +kernel
theorem c_in (k : Nat) (hk : k < 7) : 86 ≤ cC k ∧ cC k ≠ 84 ∧ cC k ≠ 85 ∧ (cC k ≤ 91 ∨ cC k = 112) ∧ (k ≠ 3 → k ≠ 6 → 6 ≤ cS k ∧ cS k ≤ 14) ∧ cS k ≠ 1 := by
  obtain ⟨h1, h2, h3, h4, h5, h6⟩ := c_in0 k hk
  exact ⟨h1, h2, h3, h4, fun _ _ => by omega, h6⟩
theorem frK.txt {k n : Nat} {σ τ : xM} {bt : Nat → Nat} (hk : k < 7) (h : txR σ n bt) (hr : frK k σ τ) : txR τ n bt := by
  obtain ⟨h1, h2, h3, h4⟩ := h
  obtain ⟨q1, q2, q3, q4, q5, q6⟩ := c_in k hk
  refine ⟨h1, h2, (hr.1 84 1 (by omega) (fun z => by omega)).trans h3, fun i hi => ?_⟩
  rw [hr.1 85 i (by omega) (fun z => by omega)]
  exact h4 i hi
theorem rP.mv {s k : Nat} {σ τ : xM} {N N' T T' : Nat → Nat} (hs : s < 7) (hk : k < 7) (hne : s ≠ k) (h : rP s σ N T) (hf : frK k σ τ) (hN : ∀ j, ptA s ≤ j → j < ptA s + mxT s * ptN s → N' j = N j) (hT : T' s = T s) (hm : T s ≤ mxT s) : rP s τ N' T' := by
  obtain ⟨e1, e2⟩ := c_sep k hk s hs hne
  obtain ⟨i1, i2, i3, i4, i5, i6⟩ := c_in s hs
  have hrow : ∀ i, τ.1 (cC s) i = σ.1 (cC s) i := fun i => hf.1 _ _ e1 (fun z => i2 z.1)
  obtain ⟨b1, b2, b3⟩ := pt_end s hs
  have hml : T s * ptN s ≤ mxT s * ptN s := Nat.mul_le_mul_right _ hm
  obtain ⟨-, k2, -, -, -, -⟩ := c_in k hk
  unfold rP at h ⊢
  by_cases c : s = 3 ∨ s = 6
  · rw [if_pos c] at h ⊢
    have m1 : mxT s = 1 := by rcases c with rfl | rfl <;> rfl
    rw [hT]
    rcases h with ⟨h1, h2⟩ | ⟨h1, h2⟩
    · exact Or.inl ⟨h1, by rw [hrow]; exact h2⟩
    · refine Or.inr ⟨h1, fun i hi => ?_⟩
      rw [hrow, h2 i hi, hN _ (by omega) (by rw [m1]; omega)]
  · rw [if_neg c] at h ⊢
    have e3 := e2 (by omega) (by omega)
    have i7 := i5 (by omega) (by omega)
    by_cases c5 : s = 5
    · rw [if_pos c5] at h ⊢
      subst c5
      have e84 : τ.1 84 14 = σ.1 84 14 := hf.1 84 14 (fun z => k2 z.symm) (fun z => by
        have e4 : (14 : Nat) ≠ cS k := e3
        omega)
      have e50 : N' 50 = N 50 := hN 50 (Nat.le_refl 50) (by decide)
      rw [hT, e84, e50]; exact h
    · rw [if_neg c5] at h ⊢
      have e84 : τ.1 84 (cS s) = σ.1 84 (cS s) := hf.1 84 _ (fun z => k2 z.symm) (fun z => by omega)
      rw [hT, e84]
      refine ⟨h.1, fun i hi => ?_⟩
      rw [hrow, h.2 i hi, hN _ (by omega) (by omega)]
theorem rP.lx {s : Nat} {τ τ' : xM} {N T : Nat → Nat} (hs : s < 7) (h : rP s τ N T) (hf : lx5 τ τ') : rP s τ' N T := by
  obtain ⟨i1, i2, i3, i4, i5, i6⟩ := c_in s hs
  have hrow : ∀ i, τ'.1 (cC s) i = τ.1 (cC s) i := fun i => hf.1 _ _ (fun z => i2 z.1)
  unfold rP at h ⊢
  by_cases c : s = 3 ∨ s = 6
  · rw [if_pos c] at h ⊢
    rcases h with ⟨h1, h2⟩ | ⟨h1, h2⟩
    · exact Or.inl ⟨h1, by rw [hrow]; exact h2⟩
    · exact Or.inr ⟨h1, fun i hi => by rw [hrow]; exact h2 i hi⟩
  · rw [if_neg c] at h ⊢
    have i7 := i5 (by omega) (by omega)
    by_cases c5 : s = 5
    · rw [if_pos c5] at h ⊢
      rw [hf.1 84 14 (fun z => by omega)]; exact h
    · rw [if_neg c5] at h ⊢
      rw [hf.1 84 (cS s) (fun z => by omega)]
      exact ⟨h.1, fun i hi => by rw [hrow]; exact h.2 i hi⟩
theorem tkR.si {bt : Nat → Nat} {n i c j : Nat} {v : Int32} {τ : xM} (h : tkR bt n i τ) (hc : ¬ (c = 84 ∧ (j = 2 ∨ j = 3 ∨ j = 4))) : tkR bt n i (xe_si τ c j v) := by
  have e2 : (xe_si τ c j v).1 84 2 = τ.1 84 2 := by rw [si_rd, if_neg (fun z => hc ⟨z.1.symm, by omega⟩)]
  have e3 : (xe_si τ c j v).1 84 3 = τ.1 84 3 := by rw [si_rd, if_neg (fun z => hc ⟨z.1.symm, by omega⟩)]
  have e4 : (xe_si τ c j v).1 84 4 = τ.1 84 4 := by rw [si_rd, if_neg (fun z => hc ⟨z.1.symm, by omega⟩)]
  have e5 : (xe_si τ c j v).2.1 84 5 = τ.2.1 84 5 := rfl
  unfold tkR at h ⊢
  rw [e2, e3, e4, e5]; exact h
/-- one number of a line -/
theorem Mfld {τ : xM} {n b k f lo hi : Nat} {bt N T : Nat → Nat} {Q : Int32 → xM → Prop} (h : txR τ n bt) (ht : tkR bt n b τ) (hb : b ≤ n) (hlo : lo ≤ 9999) (hhi : hi ≤ 9999) (hm : mayP k f (nuA bt n b) N T = ((lo : Int) ≤ nuA bt n b ∧ nuA bt n b ≤ hi)) (hQ1 : ∀ τ', mayB k f (nuA bt n b) N T = true → lx5 τ τ' → τ'.1 84 51 = nI (nuA bt n b).toNat → (nuA bt n b).toNat ≤ 9999 → tkR bt n (runE isBl bt n (n - runE isDg bt n (n - b) b) (runE isDg bt n (n - b) b)) τ' → Q 1 τ') (hQ0 : ¬ mayB k f (nuA bt n b) N T = true → Q 0 τ) : xI1 167 [.ref 84, .int (nI lo), .int (nI hi)] τ Q := by
  rw [mayB_iff, hm] at hQ0
  refine Mnumber h ht hb hlo hhi (fun τ' hv hl he hk => ?_) hQ0
  refine hQ1 τ' (by rw [mayB_iff, hm]; exact hv) hl ?_ (by omega) hk
  rw [he, nI_iI, Int.toNat_of_nonneg (by omega)]
/-- the end of a line -/
theorem MlineEnd {σ τ : xM} {n k i : Nat} {bt N N' T : Nat → Nat} {Q : Int32 → xM → Prop} (hk : k < 7) (hf : frK k σ τ) (hx : txR τ n bt) (ht : tkR bt n (runE isBl bt n (n - i) i) τ) (hi : i ≤ n) (hR : rD σ N T) (hN : ∀ j, ¬ (ptA k + T k * ptN k ≤ j ∧ j < ptA k + T k * ptN k + ptN k) → N' j = N j) (hT : T k < mxT k) (hTs : ∀ s, s < 7 → T s ≤ mxT s) (hP : rP k τ N' (upN T k (T k + 1))) (hQ1 : ∀ τ', (endR bt n k T (true, N', i)).1 = true → frK k σ τ' → rD τ' (endR bt n k T (true, N', i)).2.1 (endR bt n k T (true, N', i)).2.2.1 → tkR bt n (runE isBl bt n (n - (endR bt n k T (true, N', i)).2.2.2) (endR bt n k T (true, N', i)).2.2.2) τ' → Q 1 τ') (hQ0 : ∀ τ', ¬ (endR bt n k T (true, N', i)).1 = true → frK k σ τ' → τ'.1 84 4 = nI (endR bt n k T (true, N', i)).2.2.2 → Q 0 τ') : xI1 168 [.ref 84] τ Q := by
  obtain ⟨g3, g4, -, -⟩ := runE_bd (P := isBl) (bt := bt) (n := n) (n - i) i (by omega)
  rw [show endR bt n k T (true, N', i) = (if runE isBl bt n (n - i) i < n ∧ bt (runE isBl bt n (n - i) i) = 59 then (true, N', upN T k (T k + 1), runE isBl bt n (n - i) i + 1) else (false, N', T, runE isBl bt n (n - i) i)) from if_pos rfl] at hQ1 hQ0
  refine Mcloses hx ht g4 (fun τ' c hm hk' => ?_) (fun c => ?_)
  · rw [if_pos c] at hQ1
    refine hQ1 τ' rfl (hf.lx hm.to5) (fun s hs => ?_) hk'
    by_cases z : s = k
    · subst z; exact rP.lx hs hP hm.to5
    · have hp3 : (T k + 1) * ptN k ≤ mxT k * ptN k := Nat.mul_le_mul_right _ hT
      rw [Nat.add_mul, Nat.one_mul] at hp3
      have sep := pt_sep s hs k hk z
      exact rP.mv hs hk z (hR s hs) (hf.lx hm.to5) (fun j q1 q2 => hN j (by omega)) (show upN T k (T k + 1) s = T s by unfold upN; rw [if_neg z]) (hTs s hs)
  · rw [if_neg c] at hQ0
    exact hQ0 τ (fun z => by cases z) hf ht.1
