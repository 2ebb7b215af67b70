/-! numbers of both sides -/
def nuR (a : Int) (b : Nat) : Prop := (a = b ∧ b ≤ 9999) ∨ (a = 10000 ∧ 9999 < b ∧ b ≤ 99999)
theorem nu_dv {bt : Nat → Nat} : ∀ m i, (∀ j, j < m → 48 ≤ bt (i + j) ∧ bt (i + j) ≤ 57) → ∀ a b, nuR a b → nuR (nuE bt m i a) (dvE bt m i b) := by
  intro m
  induction m with
  | zero => intro i _ a b h; exact h
  | succ m ih =>
    intro i hd a b h
    have h0 := hd 0 (Nat.succ_pos m)
    rw [Nat.add_zero] at h0
    have hd' : ∀ j, j < m → 48 ≤ bt (i + 1 + j) ∧ bt (i + 1 + j) ≤ 57 := fun j hj => by
      have := hd (j + 1) (by omega)
      rw [show i + (j + 1) = i + 1 + j by omega] at this
      exact this
    rw [show nuE bt (m + 1) i a = nuE bt m (i + 1) (if a = -1 then (bt i : Int) - 48 else min (a * 10 + ((bt i : Int) - 48)) 10000) from rfl, show dvE bt (m + 1) i b = dvE bt m (i + 1) (if 9999 < b then b else 10 * b + bt i - 48) from rfl]
    refine ih (i + 1) hd' _ _ ?_
    rcases h with ⟨h1, h2⟩ | ⟨h1, h2, h3⟩
    · rw [if_neg (by omega), if_neg (by omega)]
      by_cases c : 10 * b + bt i - 48 ≤ 9999
      · exact Or.inl ⟨by omega, c⟩
      · exact Or.inr ⟨by omega, by omega, by omega⟩
    · rw [if_neg (by omega), if_pos h2]
      exact Or.inr ⟨by omega, h2, h3⟩
theorem nu_first {bt : Nat → Nat} {m i : Nat} (hd : ∀ j, j < m + 1 → 48 ≤ bt (i + j) ∧ bt (i + j) ≤ 57) : nuR (nuE bt (m + 1) i (-1)) (dvE bt (m + 1) i 0) := by
  have h0 := hd 0 (Nat.succ_pos m)
  rw [Nat.add_zero] at h0
  have hd' : ∀ j, j < m → 48 ≤ bt (i + 1 + j) ∧ bt (i + 1 + j) ≤ 57 := fun j hj => by
    have := hd (j + 1) (by omega)
    rw [show i + (j + 1) = i + 1 + j by omega] at this
    exact this
  rw [show nuE bt (m + 1) i (-1) = nuE bt m (i + 1) (if (-1 : Int) = -1 then (bt i : Int) - 48 else min (-1 * 10 + ((bt i : Int) - 48)) 10000) from rfl, show dvE bt (m + 1) i 0 = dvE bt m (i + 1) (if 9999 < 0 then 0 else 10 * 0 + bt i - 48) from rfl, if_pos rfl, if_neg (by decide)]
  exact nu_dv m (i + 1) hd' _ _ (Or.inl ⟨by omega, by omega⟩)
/-- the number at i; -1 where no digit stands -/
def nuA (bt : Nat → Nat) (n i : Nat) : Int := nuE bt (runE isDg bt n (n - i) i - i) i (-1)
theorem nuA_no {bt : Nat → Nat} {n i : Nat} (hi : i ≤ n) (h : isDg (bt i) = false ∨ i = n) : nuA bt n i = -1 ∧ runE isDg bt n (n - i) i = i := by
  obtain ⟨g1, g2, g3, g4⟩ := runE_bd (P := isDg) (bt := bt) (n := n) (n - i) i (by omega)
  have e : runE isDg bt n (n - i) i = i := by
    by_cases c : i < runE isDg bt n (n - i) i
    · have := g4 i (Nat.le_refl i) c
      rcases h with z | z
      · rw [z] at this; cases this
      · omega
    · omega
  refine ⟨?_, e⟩
  unfold nuA
  rw [e, Nat.sub_self]; rfl
theorem nuA_dg {bt : Nat → Nat} {n i : Nat} (hi : i < n) (h : isDg (bt i) = true) : nuR (nuA bt n i) (dvE bt (runE isDg bt n (n - i) i - i) i 0) := by
  obtain ⟨g1, g2, g3, g4⟩ := runE_bd (P := isDg) (bt := bt) (n := n) (n - i) i (by omega)
  have hlt : i < runE isDg bt n (n - i) i := by
    by_cases c : i < runE isDg bt n (n - i) i
    · exact c
    · have e : runE isDg bt n (n - i) i = i := by omega
      have := g3 (by omega)
      rw [e, h] at this
      cases this
  unfold nuA
  rw [show runE isDg bt n (n - i) i - i = (runE isDg bt n (n - i) i - i - 1) + 1 by omega]
  exact nu_first (fun j hj => by
    have := g4 (i + j) (by omega) (by omega)
    rw [isDg_iff] at this
    exact this)
