/-! the script stays: no run writes it -/
def kp (σ τ : xM) : Prop := τ.1 1010 = σ.1 1010 ∧ τ.1 1011 = σ.1 1011
theorem kp.rf (σ : xM) : kp σ σ := ⟨rfl, rfl⟩
theorem kp.tr {a b c : xM} (h1 : kp a b) (h2 : kp b c) : kp a c := ⟨h2.1.trans h1.1, h2.2.trans h1.2⟩
theorem kp.eq {a b : xM} (h : b = a) : kp a b := by subst h; exact kp.rf _
theorem kp.si {σ : xM} {k j : Nat} {v : Int32} (h : k ≠ 1010 ∧ k ≠ 1011) : kp σ (xe_si σ k j v) := ⟨xe_si_ne (fun q => h.1 q.symm), xe_si_ne (fun q => h.2 q.symm)⟩
theorem kp_cls {k a : Nat} (h : xe_cls k = a) (h1 : a ≠ 110) (h2 : a ≠ 999) : k ≠ 1010 ∧ k ≠ 1011 := by
  refine ⟨fun q => ?_, fun q => ?_⟩
  · subst q; exact h1 (h.symm.trans (by decide +kernel))
  · subst q; exact h2 (h.symm.trans (by decide +kernel))
theorem kq_go {pc : Nat} {q : Option xL} {st : List Value} {σ : xM} {t : xS} (h : xe_go pc q st σ = some t) : t.2.2.2 = σ := by
  unfold xe_go at h
  split at h
  · cases h; rfl
  · cases h
theorem kq_ldi {n : Nat} {ls : xL} {st : List Value} {σ : xM} {t : xS} {v : Value} (h : xe_ldi n ls st σ v = some t) : t.2.2.2 = σ := by
  unfold xe_ldi at h
  split at h <;> first | (cases h; done) | (cases h; rfl) | exact kq_go h | (split at h <;> first | (cases h; done) | (cases h; rfl) | (split at h <;> first | (cases h; done) | (cases h; rfl) | (split at h <;> first | (cases h; done) | (cases h; rfl))))
theorem kq_ldl {n : Nat} {ls : xL} {st : List Value} {σ : xM} {t : xS} {v : Value} (h : xe_ldl n ls st σ v = some t) : t.2.2.2 = σ := by
  unfold xe_ldl at h
  split at h <;> first | (cases h; done) | (cases h; rfl) | exact kq_go h | (split at h <;> first | (cases h; done) | (cases h; rfl) | (split at h <;> first | (cases h; done) | (cases h; rfl) | (split at h <;> first | (cases h; done) | (cases h; rfl))))
theorem kq_lda {n : Nat} {ls : xL} {st : List Value} {σ : xM} {t : xS} {v : Value} (h : xe_lda n ls st σ v = some t) : t.2.2.2 = σ := by
  unfold xe_lda at h
  split at h <;> first | (cases h; done) | (cases h; rfl) | exact kq_go h | (split at h <;> first | (cases h; done) | (cases h; rfl) | (split at h <;> first | (cases h; done) | (cases h; rfl) | (split at h <;> first | (cases h; done) | (cases h; rfl))))
theorem kq_sti {n : Nat} {ls : xL} {st : List Value} {σ : xM} {t : xS} {i : Nat} (h : xe_sti n ls st σ i = some t) : t.2.2.2 = σ := by
  unfold xe_sti at h
  split at h <;> first | (cases h; done) | (cases h; rfl) | exact kq_go h | (split at h <;> first | (cases h; done) | (cases h; rfl) | (split at h <;> first | (cases h; done) | (cases h; rfl) | (split at h <;> first | (cases h; done) | (cases h; rfl))))
theorem kq_stl {n : Nat} {ls : xL} {st : List Value} {σ : xM} {t : xS} {i : Nat} (h : xe_stl n ls st σ i = some t) : t.2.2.2 = σ := by
  unfold xe_stl at h
  split at h <;> first | (cases h; done) | (cases h; rfl) | exact kq_go h | (split at h <;> first | (cases h; done) | (cases h; rfl) | (split at h <;> first | (cases h; done) | (cases h; rfl) | (split at h <;> first | (cases h; done) | (cases h; rfl))))
theorem kq_sta {n : Nat} {ls : xL} {st : List Value} {σ : xM} {t : xS} {i : Nat} (h : xe_sta n ls st σ i = some t) : t.2.2.2 = σ := by
  unfold xe_sta at h
  split at h <;> first | (cases h; done) | (cases h; rfl) | exact kq_go h | (split at h <;> first | (cases h; done) | (cases h; rfl) | (split at h <;> first | (cases h; done) | (cases h; rfl) | (split at h <;> first | (cases h; done) | (cases h; rfl))))
theorem kq_inc {n : Nat} {ls : xL} {st : List Value} {σ : xM} {t : xS} {i : Nat} {c : Int32} (h : xe_inc n ls st σ i c = some t) : t.2.2.2 = σ := by
  unfold xe_inc at h
  split at h <;> first | (cases h; done) | (cases h; rfl) | exact kq_go h | (split at h <;> first | (cases h; done) | (cases h; rfl) | (split at h <;> first | (cases h; done) | (cases h; rfl) | (split at h <;> first | (cases h; done) | (cases h; rfl))))
theorem kq_b {n : Nat} {ls : xL} {st : List Value} {σ : xM} {t : xS} {f : Int32 → Int32 → Int32} (h : xe_b n ls st σ f = some t) : t.2.2.2 = σ := by
  unfold xe_b at h
  split at h <;> first | (cases h; done) | (cases h; rfl) | exact kq_go h | (split at h <;> first | (cases h; done) | (cases h; rfl) | (split at h <;> first | (cases h; done) | (cases h; rfl) | (split at h <;> first | (cases h; done) | (cases h; rfl))))
theorem kq_d {n : Nat} {ls : xL} {st : List Value} {σ : xM} {t : xS} {f : Int32 → Int32 → Int32} (h : xe_d n ls st σ f = some t) : t.2.2.2 = σ := by
  unfold xe_d at h
  split at h <;> first | (cases h; done) | (cases h; rfl) | exact kq_go h | (split at h <;> first | (cases h; done) | (cases h; rfl) | (split at h <;> first | (cases h; done) | (cases h; rfl) | (split at h <;> first | (cases h; done) | (cases h; rfl))))
theorem kq_bl {n : Nat} {ls : xL} {st : List Value} {σ : xM} {t : xS} {f : Int64 → Int64 → Int64} (h : xe_bl n ls st σ f = some t) : t.2.2.2 = σ := by
  unfold xe_bl at h
  split at h <;> first | (cases h; done) | (cases h; rfl) | exact kq_go h | (split at h <;> first | (cases h; done) | (cases h; rfl) | (split at h <;> first | (cases h; done) | (cases h; rfl) | (split at h <;> first | (cases h; done) | (cases h; rfl))))
theorem kq_u {n : Nat} {ls : xL} {st : List Value} {σ : xM} {t : xS} {f : Int32 → Value} (h : xe_u n ls st σ f = some t) : t.2.2.2 = σ := by
  unfold xe_u at h
  split at h <;> first | (cases h; done) | (cases h; rfl) | exact kq_go h | (split at h <;> first | (cases h; done) | (cases h; rfl) | (split at h <;> first | (cases h; done) | (cases h; rfl) | (split at h <;> first | (cases h; done) | (cases h; rfl))))
theorem kq_ul {n : Nat} {ls : xL} {st : List Value} {σ : xM} {t : xS} {f : Int64 → Value} (h : xe_ul n ls st σ f = some t) : t.2.2.2 = σ := by
  unfold xe_ul at h
  split at h <;> first | (cases h; done) | (cases h; rfl) | exact kq_go h | (split at h <;> first | (cases h; done) | (cases h; rfl) | (split at h <;> first | (cases h; done) | (cases h; rfl) | (split at h <;> first | (cases h; done) | (cases h; rfl))))
theorem kq_get {n : Nat} {ls : xL} {st : List Value} {σ : xM} {t : xS} {a b : Nat} (h : xe_get n ls st σ a b = some t) : t.2.2.2 = σ := by
  unfold xe_get at h
  split at h <;> first | (cases h; done) | (cases h; rfl) | exact kq_go h | (split at h <;> first | (cases h; done) | (cases h; rfl) | (split at h <;> first | (cases h; done) | (cases h; rfl) | (split at h <;> first | (cases h; done) | (cases h; rfl))))
theorem kq_ial {n : Nat} {ls : xL} {st : List Value} {σ : xM} {t : xS}  (h : xe_ial n ls st σ = some t) : t.2.2.2 = σ := by
  unfold xe_ial at h
  split at h <;> first | (cases h; done) | (cases h; rfl) | exact kq_go h | (split at h <;> first | (cases h; done) | (cases h; rfl) | (split at h <;> first | (cases h; done) | (cases h; rfl) | (split at h <;> first | (cases h; done) | (cases h; rfl))))
theorem kq_bal {n : Nat} {ls : xL} {st : List Value} {σ : xM} {t : xS}  (h : xe_bal n ls st σ = some t) : t.2.2.2 = σ := by
  unfold xe_bal at h
  split at h <;> first | (cases h; done) | (cases h; rfl) | exact kq_go h | (split at h <;> first | (cases h; done) | (cases h; rfl) | (split at h <;> first | (cases h; done) | (cases h; rfl) | (split at h <;> first | (cases h; done) | (cases h; rfl))))
theorem kq_lal {n : Nat} {ls : xL} {st : List Value} {σ : xM} {t : xS}  (h : xe_lal n ls st σ = some t) : t.2.2.2 = σ := by
  unfold xe_lal at h
  split at h <;> first | (cases h; done) | (cases h; rfl) | exact kq_go h | (split at h <;> first | (cases h; done) | (cases h; rfl) | (split at h <;> first | (cases h; done) | (cases h; rfl) | (split at h <;> first | (cases h; done) | (cases h; rfl))))
theorem kq_aal {n : Nat} {ls : xL} {st : List Value} {σ : xM} {t : xS}  (h : xe_aal n ls st σ = some t) : t.2.2.2 = σ := by
  unfold xe_aal at h
  split at h <;> first | (cases h; done) | (cases h; rfl) | exact kq_go h | (split at h <;> first | (cases h; done) | (cases h; rfl) | (split at h <;> first | (cases h; done) | (cases h; rfl) | (split at h <;> first | (cases h; done) | (cases h; rfl))))
theorem kq_aln {n : Nat} {ls : xL} {st : List Value} {σ : xM} {t : xS}  (h : xe_aln n ls st σ = some t) : t.2.2.2 = σ := by
  unfold xe_aln at h
  split at h <;> first | (cases h; done) | (cases h; rfl) | exact kq_go h | (split at h <;> first | (cases h; done) | (cases h; rfl) | (split at h <;> first | (cases h; done) | (cases h; rfl) | (split at h <;> first | (cases h; done) | (cases h; rfl))))
theorem kq_nul {n : Nat} {ls : xL} {st : List Value} {σ : xM} {t : xS} {a : Nat} (h : xe_nul a n ls st σ = some t) : t.2.2.2 = σ := by
  unfold xe_nul at h
  split at h <;> first | (cases h; done) | (cases h; rfl) | exact kq_go h | (split at h <;> first | (cases h; done) | (cases h; rfl) | (split at h <;> first | (cases h; done) | (cases h; rfl) | (split at h <;> first | (cases h; done) | (cases h; rfl))))
theorem kq_dup {n : Nat} {ls : xL} {st : List Value} {σ : xM} {t : xS}  (h : xe_dup n ls st σ = some t) : t.2.2.2 = σ := by
  unfold xe_dup at h
  split at h <;> first | (cases h; done) | (cases h; rfl) | exact kq_go h | (split at h <;> first | (cases h; done) | (cases h; rfl) | (split at h <;> first | (cases h; done) | (cases h; rfl) | (split at h <;> first | (cases h; done) | (cases h; rfl))))
theorem kq_dup2 {n : Nat} {ls : xL} {st : List Value} {σ : xM} {t : xS}  (h : xe_dup2 n ls st σ = some t) : t.2.2.2 = σ := by
  unfold xe_dup2 at h
  split at h <;> first | (cases h; done) | (cases h; rfl) | exact kq_go h | (split at h <;> first | (cases h; done) | (cases h; rfl) | (split at h <;> first | (cases h; done) | (cases h; rfl) | (split at h <;> first | (cases h; done) | (cases h; rfl))))
theorem kq_pop {n : Nat} {ls : xL} {st : List Value} {σ : xM} {t : xS}  (h : xe_pop n ls st σ = some t) : t.2.2.2 = σ := by
  unfold xe_pop at h
  split at h <;> first | (cases h; done) | (cases h; rfl) | exact kq_go h | (split at h <;> first | (cases h; done) | (cases h; rfl) | (split at h <;> first | (cases h; done) | (cases h; rfl) | (split at h <;> first | (cases h; done) | (cases h; rfl))))
theorem kq_tab {n : Nat} {ls : xL} {st : List Value} {σ : xM} {t : xS} {d lo hi : Int} {offs : Array Int} (h : xe_tab n ls st σ d lo hi offs = some t) : t.2.2.2 = σ := by
  unfold xe_tab at h
  split at h <;> first | (cases h; done) | (cases h; rfl) | exact kq_go h | (split at h <;> first | (cases h; done) | (cases h; rfl) | (split at h <;> first | (cases h; done) | (cases h; rfl) | (split at h <;> first | (cases h; done) | (cases h; rfl))))
theorem kq_lsh {n : Nat} {ls : xL} {st : List Value} {σ : xM} {t : xS}  (h : xe_lsh n ls st σ = some t) : t.2.2.2 = σ := by
  unfold xe_lsh at h
  split at h <;> first | (cases h; done) | (cases h; rfl) | exact kq_go h | (split at h <;> first | (cases h; done) | (cases h; rfl) | (split at h <;> first | (cases h; done) | (cases h; rfl) | (split at h <;> first | (cases h; done) | (cases h; rfl))))
theorem kq_ldv {n : Nat} {ls : xL} {st : List Value} {σ : xM} {t : xS}  (h : xe_ldv n ls st σ = some t) : t.2.2.2 = σ := by
  unfold xe_ldv at h
  split at h <;> first | (cases h; done) | (cases h; rfl) | exact kq_go h | (split at h <;> first | (cases h; done) | (cases h; rfl) | (split at h <;> first | (cases h; done) | (cases h; rfl) | (split at h <;> first | (cases h; done) | (cases h; rfl))))
theorem kq_lc {n : Nat} {ls : xL} {st : List Value} {σ : xM} {t : xS}  (h : xe_lc n ls st σ = some t) : t.2.2.2 = σ := by
  unfold xe_lc at h
  split at h <;> first | (cases h; done) | (cases h; rfl) | exact kq_go h | (split at h <;> first | (cases h; done) | (cases h; rfl) | (split at h <;> first | (cases h; done) | (cases h; rfl) | (split at h <;> first | (cases h; done) | (cases h; rfl))))
theorem kq_i1 {a : Nat} {n : Nat} {ls : xL} {st : List Value} {σ : xM} {t : xS} {p : Int32 → Prop} (dp : ∀ x, Decidable (p x)) (h : @xe_i1 a n ls st σ p dp = some t) : t.2.2.2 = σ := by
  unfold xe_i1 at h
  split at h
  · split at h
    · cases h; rfl
    · cases h; rfl
  · cases h
theorem kq_i2 {a : Nat} {n : Nat} {ls : xL} {st : List Value} {σ : xM} {t : xS} {p : Int32 → Int32 → Prop} (dp : ∀ x y, Decidable (p x y)) (h : @xe_i2 a n ls st σ p dp = some t) : t.2.2.2 = σ := by
  unfold xe_i2 at h
  split at h
  · split at h
    · cases h; rfl
    · cases h; rfl
  · cases h
theorem kp_put {n : Nat} {ls : xL} {st : List Value} {σ : xM} {t : xS} {a b : Nat} (h : xe_put n ls st σ a b = some t) : kp σ t.2.2.2 := by
  unfold xe_put at h
  split at h
  · rename_i v k r
    split at h
    · rename_i hk
      cases hv : xe_fp σ k a b v with
      | none => rw [hv] at h; cases h
      | some σ' =>
        rw [hv] at h; cases h
        show kp σ σ'
        have hkk : xe_kd a b ≠ 9 → k ≠ 1010 ∧ k ≠ 1011 := fun h9 => kp_cls hk (fun q => by subst q; exact h9 rfl) (fun q => by subst q; exact h9 rfl)
        unfold xe_fp at hv
        split at hv
        · rename_i hd
          cases hv; exact kp.si (hkk (by rw [hd]; decide))
        · rename_i hd
          split at hv
          · cases hv; exact kp.si (hkk (by rw [hd]; decide))
          · cases hv
        · cases hv; exact ⟨rfl, rfl⟩
        · cases hv; exact ⟨rfl, rfl⟩
        · cases hv
    · cases h
  · cases h
theorem kp_ias {n : Nat} {ls : xL} {st : List Value} {σ : xM} {t : xS} (h : xe_ias n ls st σ = some t) : kp σ t.2.2.2 := by
  unfold xe_ias at h
  split at h
  · split at h
    · rename_i hk
      cases h; exact kp.si (kp_cls hk.1 (by decide) (by decide))
    · cases h
  · cases h
theorem kp_bas {n : Nat} {ls : xL} {st : List Value} {σ : xM} {t : xS} (h : xe_bas n ls st σ = some t) : kp σ t.2.2.2 := by
  unfold xe_bas at h
  split at h
  · split at h
    · rename_i hk
      cases h; exact kp.si (kp_cls hk.1 (by decide) (by decide))
    · split at h
      · rename_i hk
        cases h; exact kp.si (kp_cls hk.1 (by decide) (by decide))
      · cases h
  · cases h
theorem kp_las {n : Nat} {ls : xL} {st : List Value} {σ : xM} {t : xS} (h : xe_las n ls st σ = some t) : kp σ t.2.2.2 := by
  unfold xe_las at h
  split at h
  · split at h
    · cases h; exact ⟨rfl, rfl⟩
    · cases h
  · cases h
theorem kp_cpy {n : Nat} {ls : xL} {st : List Value} {σ : xM} {t : xS} (h : xe_cpy n ls st σ = some t) : kp σ t.2.2.2 := by
  unfold xe_cpy at h
  split at h
  · split at h
    · rename_i hk
      cases h
      obtain ⟨q1, q2⟩ := kp_cls hk.2.1 (by decide) (by decide)
      exact ⟨xe_cp_ne (fun q => q1 q.symm), xe_cp_ne (fun q => q2 q.symm)⟩
    · cases h
  · cases h
theorem kp_step {pc : Nat} {ins : Instr} {a b : Nat} {v : Value} {ls : xL} {st : List Value} {σ : xM} {t : xS} (h : xe_step pc ins a b v ls st σ = some t) : kp σ t.2.2.2 := by
  unfold xe_step at h
  split at h <;> first | (cases h; done) | (cases h; exact kp.rf _) | exact kp.eq (kq_ldi h) | exact kp.eq (kq_ldl h) | exact kp.eq (kq_lda h) | exact kp.eq (kq_sti h) | exact kp.eq (kq_stl h) | exact kp.eq (kq_sta h) | exact kp.eq (kq_inc h) | exact kp.eq (kq_b h) | exact kp.eq (kq_d h) | exact kp.eq (kq_bl h) | exact kp.eq (kq_u h) | exact kp.eq (kq_ul h) | exact kp.eq (kq_get h) | exact kp.eq (kq_ial h) | exact kp.eq (kq_bal h) | exact kp.eq (kq_lal h) | exact kp.eq (kq_aal h) | exact kp.eq (kq_aln h) | exact kp.eq (kq_nul h) | exact kp.eq (kq_dup h) | exact kp.eq (kq_dup2 h) | exact kp.eq (kq_pop h) | exact kp.eq (kq_tab h) | exact kp.eq (kq_lsh h) | exact kp.eq (kq_ldv h) | exact kp.eq (kq_lc h) | exact kp.eq (kq_i1 _ h) | exact kp.eq (kq_i2 _ h) | exact kp_put h | exact kp_ias h | exact kp_bas h | exact kp_las h | (split at h <;> first | exact kp_cpy h | cases h)
theorem kp_run : ∀ (n y : Nat) (s : xS) (r : Option Value × xM), xe_run n y s = some r → kp s.2.2.2 r.2 := by
  intro n
  induction n with
  | zero => intro y s r h; simp [xe_run] at h
  | succ n ih =>
    intro y s r h
    obtain ⟨pc, ls, st, σ⟩ := s
    unfold xe_run at h
    cases hf : xe_fetch y pc with
    | none => rw [hf] at h; simp at h
    | some e =>
      obtain ⟨pc', ins, len, pl, a, b, v⟩ := e
      rw [hf] at h
      dsimp only at h
      by_cases hR : xe_isR ins = true
      · rw [if_pos hR] at h
        cases hrt : xe_rt ins (xm_r y) st with
        | none => rw [hrt] at h; cases h
        | some rv => rw [hrt] at h; cases h; exact kp.rf _
      · rw [if_neg hR] at h
        by_cases hC : xe_isC ins a = true
        · rw [if_pos hC] at h
          split at h
          · cases hr : xe_run n a (0, xe_init a (st.take b).reverse, [], σ) with
            | none => rw [hr] at h; simp at h
            | some q =>
              obtain ⟨rv, σ'⟩ := q
              rw [hr] at h
              dsimp only at h
              have k1 := ih _ _ _ hr
              cases hp : xe_ps (xm_r a) rv (st.drop b) with
              | none => rw [hp] at h; simp at h
              | some st' =>
                rw [hp] at h
                dsimp only at h
                exact kp.tr k1 (ih _ _ _ h)
          · cases h
        · rw [if_neg hC] at h
          cases hs : xe_step pc ins a b v ls st σ with
          | none => rw [hs] at h; simp at h
          | some s' =>
            rw [hs] at h
            dsimp only at h
            exact kp.tr (kp_step hs) (ih _ _ _ h)
theorem xI1_mono {y : Nat} {As : List Value} {σ : xM} {P Q : Int32 → xM → Prop} (h : xI1 y As σ P) (hq : ∀ r σ', P r σ' → kp σ σ' → Q r σ') : xI1 y As σ Q := by
  obtain ⟨n, rv, σ', h1, x, rfl, h2⟩ := h
  exact ⟨n, _, σ', h1, x, rfl, hq x σ' h2 (kp_run _ _ _ _ h1)⟩
