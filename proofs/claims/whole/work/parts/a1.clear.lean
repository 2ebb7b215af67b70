/-! the draft: clear -/
/-- only the draft's two rows -/
def drM (p : Nat) (σ τ : xM) : Prop := (∀ k, k ≠ p + 1 → k ≠ p + 2 → τ.1 k = σ.1 k) ∧ τ.2.2 = σ.2.2
theorem Xclear {p : Nat} {σ : xM} {Q : xM → Prop} (hp : p = 4 ∨ p = 7) (hQ : ∀ τ, drM p σ τ → (∀ i, i < 54 → τ.1 (p + 1) i = 0) → (∀ i, i < 7 → τ.1 (p + 2) i = 0) → Q τ) : xV 64 [.ref p] σ Q := by
  have f1 : ∀ Q : xM → Prop, (∀ τ, only (p + 1) σ τ → (∀ i, i < 54 → τ.1 (p + 1) i = 0) → Q τ) → xV 6 [.ref (p + 1), .int 0] σ Q := by
    intro Q hq
    rcases hp with rfl | rfl
    · exact Xfill xcl_5 xln_5 hq
    · exact Xfill xcl_8 xln_8 hq
  have f2 : ∀ (τ1 : xM) (Q : xM → Prop), (∀ τ, only (p + 2) τ1 τ → (∀ i, i < 7 → τ.1 (p + 2) i = 0) → Q τ) → xV 6 [.ref (p + 2), .int 0] τ1 Q := by
    intro τ1 Q hq
    rcases hp with rfl | rfl
    · exact Xfill xcl_6 xln_6 hq
    · exact Xfill xcl_9 xln_9 hq
  have after : ∀ τ1, only (p + 1) σ τ1 → (∀ i, i < 54 → τ1.1 (p + 1) i = 0) → ∀ τ, only (p + 2) τ1 τ → (∀ i, i < 7 → τ.1 (p + 2) i = 0) → Q τ := by
    intro τ1 o1 z1 τ o2 z2
    refine hQ τ ⟨fun k q1 q2 => (o2.1 k q2).trans (o1.1 k q1), o2.2.trans o1.2⟩ (fun i hi => ?_) z2
    rw [o2.1 (p + 1) (by omega)]; exact z1 i hi
  rw [e64]
  rcases hp with rfl | rfl
  · simp only [s64_0, s64_1_4, s64_1_7, s64_4, s64_5, xcx_i, xcx_r, xcx_n, xcx_l, xcx_0]
    refine f1 _ (fun τ1 o1 z1 => ?_)
    simp only [s64_8, s64_9_4, s64_9_7, s64_12, s64_13, xcx_i, xcx_r, xcx_n, xcx_l, xcx_0]
    refine f2 τ1 _ (fun τ o2 z2 => ?_)
    simp only [s64_16, xcx_i, xcx_r, xcx_n, xcx_l, xcx_0]
    exact after τ1 o1 z1 τ o2 z2
  · simp only [s64_0, s64_1_4, s64_1_7, s64_4, s64_5, xcx_i, xcx_r, xcx_n, xcx_l, xcx_0]
    refine f1 _ (fun τ1 o1 z1 => ?_)
    simp only [s64_8, s64_9_4, s64_9_7, s64_12, s64_13, xcx_i, xcx_r, xcx_n, xcx_l, xcx_0]
    refine f2 τ1 _ (fun τ o2 z2 => ?_)
    simp only [s64_16, xcx_i, xcx_r, xcx_n, xcx_l, xcx_0]
    exact after τ1 o1 z1 τ o2 z2
