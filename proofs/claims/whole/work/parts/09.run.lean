/-! CALLS AND WHOLE RUNS: what the small machine answers, the real one answers. -/
def xe_A (ad : Nat → Nat) : Nat → Prop := fun q => ∃ k, k < 122 ∧ q = ad k
def xe_rm (y : Nat) : Room := { frames := xm_f y, cells := 0, slots := 0, locals := xm_k y }
def xe_w (y : Nat) : List Cond := .code (xm_y y) (xm_b y) (xm_l y) (xm_r y) :: xTT
def xe_U (D : va_G) (cA : Nat → ClassId) (ad : Nat → Nat) (F : Value) (xs : Nat → Int32) (L : Nat) (σ : xM) (U : State) : Prop :=
  va_P D xCls (xws cA ad σ) U.heap ∧ va_K D xCls (xtys cA) U ∧ xe_RO ad F xs L (xe_A ad) U U.heap ∧ F.category = 1 ∧ (∀ i j, i < 122 → j < 122 → ad i = ad j → i = j) ∧ σ.1 1010 = xs ∧ σ.1 1011 0 = Int32.ofNat L
def xe_Q (D : va_G) (cA : Nat → ClassId) (ad : Nat → Nat) (F : Value) (xs : Nat → Int32) (L : Nat) (rv : Option Value) (σ : xM) : Array Value → State → Outcome → State → Prop := fun _ st oc t =>
  oc = .returned (rv.map (xe_c ad F)) ∧ va_P D xCls (xws cA ad σ) t.heap ∧ σ.1 1010 = xs ∧ σ.1 1011 0 = Int32.ofNat L ∧ va_F (xe_A ad) st t
def xe_Met (l : Launch) (y : Nat) (As : List Value) (σ : xM) (rv : Option Value) (σ' : xM) : Prop := ∀ (D : va_G) (cA : Nat → ClassId) (ad : Nat → Nat) (F : Value) (xs : Nat → Int32) (L : Nat),
  Met l (xm_y y) (xe_w y) (xe_rm y) (va_Pc (As.map (xe_c ad F)) (xe_U D cA ad F xs L σ)) (xe_Q D cA ad F xs L rv σ') 0 0 (xe_A ad)
theorem xTT_good {w : Cond} (h : w ∈ xTT) : w ∈ xTT ∧ ((w.onTables && w.keeps) = true ∨ ∃ ty, w = .arrayClass ty) := ⟨h, good_of_word (List.mem_filter.mp h).2⟩
theorem xe_blind {D : va_G} {cA : Nat → ClassId} {ad : Nat → Nat} {F : Value} {xs : Nat → Int32} {L : Nat} {σ : xM} {av : List Value} : FrameBlind (va_Pc av (xe_U D cA ad F xs L σ)) := by
  intro a U g mk q
  obtain ⟨q1, q2, q3, q4, q5⟩ := q
  exact ⟨q1, q2, va_K.moved (u := U) (U := U.calling g mk a) (Vm.Alike.refl U.vm) q3, xe_RO.warm (s := U) (U := U.calling g mk a) (State.WarmedH.refl U) q4, q5⟩
theorem xe_D {A : Nat → Prop} {cA : Nat → ClassId} {ad : Nat → Nat} {σ : xM} (hA : ∀ k, k < 122 → A (ad k)) (hinj : ∀ i j, i < 122 → j < 122 → ad i = ad j → i = j) : va_D A (xws cA ad σ) := by
  have lt : ∀ {k : Nat} {q : Nat × va_E}, (xws cA ad σ)[k]? = some q → k < 122 ∧ q.1 = ad k := by
    intro k q h
    have h1 : k < 122 := by have := (List.getElem?_eq_some_iff.mp h).1; rw [xws_len] at this; exact this
    rw [xws_get h1] at h
    cases h
    exact ⟨h1, rfl⟩
  refine ⟨fun i j p q h1 h2 e => ?_, fun k q h => ?_⟩
  · obtain ⟨a1, a2⟩ := lt h1
    obtain ⟨b1, b2⟩ := lt h2
    exact hinj i j a1 b1 (by rw [← a2, ← b2, e])
  · obtain ⟨a1, a2⟩ := lt h
    rw [a2]; exact hA k a1
theorem xe_args_at {ad : Nat → Nat} {F : Value} (hF : F.category = 1) : ∀ (As : List Value) (j i : Nat) (v : Value), (xe_args As)[i]? = some (some v) → (j + i, xe_c ad F v) ∈ lv_args j (As.map (xe_c ad F))
  | [], j, i, v, h => by simp [xe_args] at h
  | a :: As, j, i, v, h => by
    have hc := xe_c_cat (ad := ad) hF a
    rw [List.map_cons, lv_args]
    by_cases h2 : a.category = 2
    · have e : xe_args (a :: As) = some a :: none :: xe_args As := by
        cases a <;> simp [Value.category] at h2 <;> rfl
      rw [e] at h
      match i, h with
      | 0, h => cases h; exact List.mem_cons_self
      | 1, h => cases h
      | i + 2, h =>
        refine List.mem_cons_of_mem _ ?_
        rw [hc, if_pos h2]
        have := xe_args_at (ad := ad) hF As (j + 2) i v h
        rw [show j + (i + 2) = j + 2 + i by omega]
        exact this
    · have e : xe_args (a :: As) = some a :: xe_args As := by
        cases a <;> simp [Value.category] at h2 <;> rfl
      rw [e] at h
      match i, h with
      | 0, h => cases h; exact List.mem_cons_self
      | i + 1, h =>
        refine List.mem_cons_of_mem _ ?_
        rw [hc, if_neg h2]
        have := xe_args_at (ad := ad) hF As (j + 1) i v h
        rw [show j + (i + 1) = j + 1 + i by omega]
        exact this
theorem xe_args_sl {ad : Nat → Nat} {F : Value} (hF : F.category = 1) : ∀ (As : List Value), (lg_sl (As.map (xe_c ad F))).length = (xe_args As).length
  | [] => rfl
  | a :: As => by
    have hc := xe_c_cat (ad := ad) hF a
    have ih := xe_args_sl (ad := ad) hF As
    unfold lg_sl at ih ⊢
    rw [List.map_cons, List.flatMap_cons, List.length_append, ih]
    by_cases h2 : a.category = 2
    · rw [hc, if_pos h2]
      have e : xe_args (a :: As) = some a :: none :: xe_args As := by
        cases a <;> simp [Value.category] at h2 <;> rfl
      rw [e]; simp; omega
    · rw [hc, if_neg h2]
      have e : xe_args (a :: As) = some a :: xe_args As := by
        cases a <;> simp [Value.category] at h2 <;> rfl
      rw [e]; simp; omega
theorem xe_init_LR {ad : Nat → Nat} {F : Value} (hF : F.category = 1) {y : Nat} {As : List Value} (h : (xe_args As).length ≤ xm_l y) : xe_LR ad F ((lg_sl (As.map (xe_c ad F)) ++ List.replicate (xm_l y - (lg_sl (As.map (xe_c ad F))).length) Slot.unset).toArray) (xe_init y As) (xm_l y) := by
  have hl := lv_entry (As.map (xe_c ad F)) (n := xm_l y) (by rw [xe_args_sl hF]; exact h)
  refine ⟨by unfold xe_init; rw [List.length_append, List.length_replicate]; omega, hl.1, hl.2.1, fun i v hv => ?_⟩
  unfold xe_init at hv
  by_cases hi : i < (xe_args As).length
  · rw [List.getElem?_append_left hi] at hv
    have := xe_args_at (ad := ad) hF As 0 i v hv
    rw [Nat.zero_add] at this
    exact hl.2.2 (i, xe_c ad F v) this
  · rw [List.getElem?_append_right (by omega)] at hv
    have := List.mem_of_getElem? hv
    rw [List.mem_replicate] at this
    cases this.2
theorem xe_ps_map {ad : Nat → Nat} {F : Value} {r : Option FieldType} {rv : Option Value} {rest st' : List Value} (h : xe_ps r rv rest = some st') : st'.map (xe_c ad F) = (rv.map (xe_c ad F)).toList ++ rest.map (xe_c ad F) := by
  unfold xe_ps at h
  split at h <;> first | (cases h; rfl) | cases h
theorem xe_cat8 {ad : Nat → Nat} {F : Value} {r : List Value} (h : r.length ≤ 4) : ((r.map (xe_c ad F)).map fun v => v.category).sum ≤ 8 := by
  have hle : ∀ (l : List Value), (l.map fun v => v.category).sum ≤ 2 * l.length := by
    intro l
    induction l with
    | nil => simp
    | cons a l ih =>
      have ha : a.category ≤ 2 := by rcases lv_cat a with q | q <;> omega
      simp only [List.map_cons, List.sum_cons, List.length_cons]
      omega
  have := hle (r.map (xe_c ad F))
  rw [List.length_map] at this
  omega
theorem xe_cw8 {ad : Nat → Nat} {F : Value} (hF : F.category = 1) : ∀ r : List Value, ((r.map (xe_c ad F)).map fun v => v.category).sum ≤ xe_cw r
  | [] => Nat.le_refl _
  | a :: r => by
    have ih := xe_cw8 (ad := ad) hF r
    have hc := xe_c_cat (ad := ad) hF a
    simp only [List.map_cons, List.sum_cons, hc]
    have h3 : a.category + xe_cw r ≤ xe_cw (a :: r) := by
      cases a <;> simp only [xe_cw, Value.category] <;> omega
    omega
section XRN
variable {p : Program} {l : Launch} {e : Env} {R : Room} {s : State} {m : MethodId} {args : Array Value} {below : List Frame} {meth : Method} {c : Code} {H : Heap} {locs : List Loc} {cells slots : Nat} {Q : State → Prop}
variable {cA : Nat → ClassId} {ad : Nat → Nat} {F : Value} {D : va_G} {xs : Nat → Int32} {L : Nat} {A : Nat → Prop} {y pc : Nat}
theorem xe_callK {ls : Array Slot} {rest st0 : List Value} {a : Array Value} {rv : Option Value} {σ' : xM} (hr : va_Run p l e R s m args below meth c H locs cells slots 0 0 (F0 m pc ls st0) rest (xe_Q D cA ad F xs L rv σ' a) (xe_A ad)) (hS : va_S A s.heap H locs) (hA : ∀ q, xe_A ad q → A q)
    (kk : ∀ (H1 : Heap) (locs1 : List Loc), va_P D xCls (xws cA ad σ') H1 → σ'.1 1010 = xs → σ'.1 1011 0 = Int32.ofNat L → va_S A s.heap H1 locs1 → W p l e R s m args below meth c H1 locs1 cells slots Q (F0 m (pc + 3) ls ((rv.map (xe_c ad F)).toList ++ rest))) : W p l e R s m args below meth c H locs cells slots Q (F0 m pc ls st0) := by
  intro T hT X
  obtain ⟨v, st₀, t, T', L', h0, X', hL, e1, e2, ⟨hv, hP, hs1, hs2, hz, hk⟩, st⟩ := hr T hT X
  cases hv
  rw [h0] at hz hk
  obtain ⟨t2, a1, b1⟩ := kk T'.heap (locs ++ L') (by rw [e1]; exact hP) hs1 hs2
    ⟨Nat.le_trans hS.1 (by rw [e1]; exact hz), fun q h1 h2 => by rw [e1, hk q (Nat.lt_of_lt_of_le h1 hS.1) (fun z => h2 (hA q z))]; exact hS.2.1 q h1 h2, fun q hq => by
      rcases List.mem_append.mp hq with h | h
      · exact hS.2.2 q h
      · exact hA _ (hL q h)⟩ T' rfl X'
  exact ⟨t2, st t2 a1, b1⟩
/-- the call of a method whose contract stands -/
theorem xe_call {a b ix pl : Nat} {ins : Instr} {ls : xL} {st st' : List Value} {σ σ2 : xM} {rv2 : Option Value} {lsA : Array Slot} (X : xe_X p R s m args c cells slots y cA ad F D xs L A)
    (hins : (ins = .invokestatic ix ∧ xm_c a = 200 ∧ (xl pl = (5, xm_o y, ix, a, 0, 0) ∨ xl pl = (6, xm_o y, ix, a, 0, 0))) ∨ (ins = .invokevirtual ix ∧ xm_c a ≠ 200 ∧ xl pl = (5, xm_o y, ix, a, 0, 0))) (hd : decode (xm_b y) pc = .ok (ins, 3)) (ha : a < 245) (hrk : xe_rok y a = true)
    (hc : b ≤ st.length ∧ (st.length ≤ b + 4 ∨ xe_cw (st.drop b) ≤ 8) ∧ xm_a a = b ∧ (xm_c a = 200 ∨ xe_rc (xm_c a) (st.take b).reverse = true) ∧ (xe_args (st.take b).reverse).length ≤ xm_l a)
    (hM : xe_Met l a (st.take b).reverse σ rv2 σ2) (hps : xe_ps (xm_r a) rv2 (st.drop b) = some st')
    (K : xe_K p l e R s m args below meth c cells slots Q cA ad F D xs L A y (pc + 3, ls, st', σ2)) (hL : xe_LR ad F lsA ls (xm_l y)) (hW : xe_WH cA ad D xs L A s.heap σ H locs) : W p l e R s m args below meth c H locs cells slots Q (F0 m pc lsA (st.map (xe_c ad F))) := by
  obtain ⟨hx, hb, hml, hown, hts, hK, hRO, hF, hR, hA, hinj⟩ := X
  obtain ⟨c1, c2, c3, c4, c5⟩ := hc
  have hmok := xe_m_ok ha
  obtain ⟨f1, f2, f3, f4, f5⟩ := xf_all ha
  have hAA : ∀ q, xe_A ad q → A q := fun q ⟨k, hk, e⟩ => by rw [e]; exact hA k hk
  have hRn : (xe_rm a).frames + 1 ≤ R.frames ∧ 8 + (xm_l a + 11) + (xe_rm a).locals ≤ R.locals := by
    have h1 := of_decide_eq_true (xe_b2 hrk).1
    have h2 := of_decide_eq_true (xe_b2 hrk).2
    exact ⟨Nat.le_trans h1 hR.1, Nat.le_trans h2 hR.2.1⟩
  have hf : cells + 0 ≤ R.cells ∧ slots + 0 ≤ R.slots := ⟨hR.2.2.1, hR.2.2.2⟩
  have hpre : ∀ U : State, U.heap = H → s.WarmedH U.vm → xe_U D cA ad F xs L σ U := fun U hU hw =>
    ⟨by rw [hU]; exact hW.1, va_K.moved hw.alike hK, by rw [hU]; exact ((hRO.kept hW.2.2.1.2.1).narrow hAA).warm hw, hF, hinj, hW.2.2.2.1, hW.2.2.2.2⟩
  have hS : CallFix p m c (xm_b y) (xm_l y) s args xTT (xown (xm_o y)) := ⟨hx, hb, hml, hown, hts⟩
  have hroom : 2 * (F0 m pc lsA ((st.drop b).map (xe_c ad F))).monitorRoom + (((st.drop b).map (xe_c ad F)).map fun v => v.category).sum ≤ 8 := lv_room (by
    rcases c2 with c2 | c2
    · exact xe_cat8 (by rw [List.length_drop]; omega)
    · exact Nat.le_trans (xe_cw8 hF _) c2)
  have hsplit : st.map (xe_c ad F) = (((st.take b).reverse).map (xe_c ad F)).reverse ++ (st.drop b).map (xe_c ad F) := by
    rw [← List.map_reverse, List.reverse_reverse, ← List.map_append, List.take_append_drop]
  have hend : ∀ (H1 : Heap) (locs1 : List Loc), va_P D xCls (xws cA ad σ2) H1 → σ2.1 1010 = xs → σ2.1 1011 0 = Int32.ofNat L → va_S A s.heap H1 locs1 → W p l e R s m args below meth c H1 locs1 cells slots Q (F0 m (pc + 3) lsA ((rv2.map (xe_c ad F)).toList ++ (st.drop b).map (xe_c ad F))) := by
    intro H1 locs1 g1 g2 g3 g4
    rw [← xe_ps_map hps]
    exact K lsA H1 locs1 hL ⟨g1, xe_D hA hinj, g4, g2, g3⟩
  have hwc : ∀ {w}, w ∈ lw_tbl → goodWord w = true → w ∈ xTT ∧ ((w.onTables && w.keeps) = true ∨ ∃ ty, w = .arrayClass ty) := fun h1 h2 => xTT_good (xTT_of h1 h2)
  unfold xe_mok at hmok
  split at hmok
  · rename_i p0 p1 p2 ps hpp
    have hm3 := (xe_b2 hmok).2
    have hm1 := of_decide_eq_true (xe_b2 (xe_b2 hmok).1).1
    have hm2 := of_decide_eq_true (xe_b2 (xe_b2 hmok).1).2
    obtain ⟨w0, hw0, ok0⟩ := xe_xl hm1 (by simp)
    obtain ⟨w2, hw2, ok2⟩ := xe_xl hm2 (by simp)
    have ok0 : w0 = .code (xm_y a) (xm_b a) (xm_l a) (xm_r a) := ok0
    have ok2 : w2 = .initialized (xown (xm_o a)) := ok2
    rw [← xn_all (by omega)] at ok2
    subst ok0; subst ok2
    have hgw : GoodIn xTT (xe_w a) := fun w hw => by
      rcases List.mem_cons.mp hw with rfl | hw
      · exact hwc hw0 rfl
      · exact xTT_good hw
    rcases hins with ⟨rfl, hst, hlk⟩ | ⟨rfl, hst, hlk⟩
    · rw [if_pos hst] at hm3
      obtain ⟨w1, hw1, ok1⟩ := xe_xl (of_decide_eq_true hm3) (by simp)
      have ok1 : w1 = .static (xm_y a) := ok1
      subst ok1
      rw [if_pos hst] at f4
      have hlen : ((st.take b).reverse.map (xe_c ad F)).length = xm_a a := by
        rw [List.length_map, List.length_reverse, List.length_take, c3]; omega
      rw [hsplit]
      rcases hlk with hlk | hlk
      · obtain ⟨w3, hw3, ok3⟩ := xe_xl hlk (by simp)
        have ok3 : w3 = .methodLink (xown (xm_o y)) ix (xm_y a) := ok3
        subst ok3
        have hG : GoodIn xTT (va_wsS (xown (xm_o y)) ix (xm_y a) (xe_w a)) := fun w hw => by
          unfold va_wsS at hw
          rcases List.mem_append.mp hw with hw | hw
          · rcases List.mem_cons.mp hw with rfl | hw
            · exact hwc hw3 rfl
            · rcases List.mem_cons.mp hw with rfl | hw
              · exact hwc hw1 rfl
              · rcases List.mem_cons.mp hw with rfl | hw
                · exact hwc hw2 rfl
                · cases hw
          · exact hgw w hw
        exact xe_callK (va_runS hS (hM D cA ad F xs L) (va_cwS (xm_a a) hts hG rfl rfl rfl ⟨f2, f3, f4⟩ hRn) ⟨xe_blind, fun U hU hw => ⟨rfl, hpre U hU hw⟩⟩ rfl hlen hL.2.1 rfl hroom hd hf) hW.2.2.1 hAA hend
      · obtain ⟨w3, hw3, ok3⟩ := xe_xl hlk (by simp)
        have ok3 : w3 = .methodLinkNest (xown (xm_o y)) ix (xm_y a) "QuayRopes" := ok3
        subst ok3
        have hN := hRO.2.2.2.2.2.2 _ hw3 rfl
        exact xe_callK (va_runSN hS (hM D cA ad F xs L) ⟨va_cnB (xm_a a) hts hgw rfl rfl rfl hN (xg_mem hts hw2 rfl) ⟨f2, f3, f4⟩ hRn, xg_mem hts hw1 rfl, trivial⟩ ⟨xe_blind, fun U hU hw => ⟨rfl, hpre U hU hw⟩⟩ rfl hlen hL.2.1 rfl hroom hd hf) hW.2.2.1 hAA hend
    · rw [if_neg hst] at hm3
      obtain ⟨hm3, hm5⟩ := xe_b2 hm3
      obtain ⟨hm3, hm4⟩ := xe_b2 hm3
      obtain ⟨w1, hw1, ok1⟩ := xe_xl (of_decide_eq_true hm3) (by simp)
      have ok1 : w1 = .instanceMethod (xm_y a) := ok1
      subst ok1
      rw [if_neg hst] at f4
      have hf5 := f5 hst
      obtain ⟨w4, hw4, ok4⟩ : ∃ w4, w4 ∈ lw_tbl ∧ w4 = .selects (xm_y a).cls (xm_y a) (xm_y a) := by
        split at hm4
        · obtain ⟨w4, hw4, ok4⟩ := xe_xl (of_decide_eq_true hm4) (by simp)
          exact ⟨w4, hw4, ok4⟩
        · cases hm4
      subst ok4
      obtain ⟨w3, hw3, ok3⟩ := xe_xl hlk (by simp)
      have ok3 : w3 = .methodLink (xown (xm_o y)) ix (xm_y a) := ok3
      subst ok3
      have hrc : xe_rc (xm_c a) (st.take b).reverse = true := by
        rcases c4 with h | h
        · exact absurd h hst
        · exact h
      unfold xe_rc at hrc
      split at hrc
      · rename_i k As' hAs
        have hcl : xe_cls k = xm_c a := by simpa using hrc
        have hG : GoodIn xTT (wsV (xown (xm_o y)) ix (xm_y a).cls (xm_y a) (xe_w a)) := fun w hw => by
          unfold wsV at hw
          rcases List.mem_append.mp hw with hw | hw
          · rcases List.mem_cons.mp hw with rfl | hw
            · exact hwc hw3 rfl
            · rcases List.mem_cons.mp hw with rfl | hw
              · exact hwc hw1 rfl
              · rcases List.mem_cons.mp hw with rfl | hw
                · exact hwc hw4 rfl
                · rcases List.mem_cons.mp hw with rfl | hw
                  · exact hwc hw2 rfl
                  · cases hw
          · exact hgw w hw
        have hrecv : ∃ cellB : Cell, H[ad k]? = some cellB ∧ cellB.vm.isStatics = false ∧ s.vm.findClass (xm_y a).cls = some cellB.cls := by
          rw [xn_all (by omega)]
          rw [Bool.or_eq_true] at hm5
          rcases hm5 with h | h
          · obtain ⟨h1, h2⟩ := of_decide_eq_true h
            obtain ⟨q1, hq1, hcn, -⟩ := xk_all h1
            obtain ⟨hk1, hk2⟩ := xe_cls_lt hcl (by omega) (by omega)
            have he := xws_get (cA := cA) (ad := ad) (σ := σ) hk1
            rw [xe_en_obj hk2 (by omega)] at he
            have := va_recv hK hW.1 hq1 he
            rw [hcn, ← h2] at this
            exact this
          · obtain ⟨h1, h2⟩ := of_decide_eq_true h
            rw [h1] at hcl
            obtain ⟨hk1, hk2⟩ := xe_cls_50 hcl
            obtain ⟨i, rfl⟩ := Nat.exists_eq_add_of_le hk1
            have := (hRO.2.2.2.1.1 i (by omega)).1.kept hW.2.2.1.2.1
            obtain ⟨cell, e1, e2, e3, -⟩ := this
            have this : ∃ cell : Cell, H[ad (1100 + i)]? = some cell ∧ cell.vm.isStatics = false ∧ s.vm.findClass "java/lang/String" = some cell.cls := ⟨cell, e1, e2, e3⟩
            rw [h2]
            exact this
        have hlen : (As'.map (xe_c ad F)).length = xm_a a - 1 := by
          have h1 : ((st.take b).reverse).length = xm_a a := by
            rw [List.length_reverse, List.length_take, c3]; omega
          rw [hAs] at h1
          rw [List.length_map]
          simp at h1
          omega
        rw [hAs] at hsplit hM
        have hsplit2 : st.map (xe_c ad F) = (As'.map (xe_c ad F)).reverse ++ .ref (ad k) :: (st.drop b).map (xe_c ad F) := by
          rw [hsplit]
          show (xe_c ad F (.ref k) :: As'.map (xe_c ad F)).reverse ++ _ = _
          rw [List.reverse_cons, List.append_assoc]
          rfl
        rw [hsplit2]
        exact xe_callK (va_runV hS (hM D cA ad F xs L) (cwV (xm_a a - 1) hts hG rfl rfl rfl ⟨rfl, f2, f3, f4⟩ hRn) ⟨xe_blind, hrecv, fun U hU hw => ⟨rfl, hpre U hU hw⟩⟩ rfl hlen hL.2.1 rfl hroom hd hf) hW.2.2.1 hAA hend
      · cases hrc
  · cases hmok
end XRN
/-- what a run from a point of method y says of the real machine -/
def xe_S (n : Nat) : Prop := ∀ (y pc : Nat) (ls : xL) (st : List Value) (σ : xM) (rv : Option Value) (σ' : xM), xe_run n y (pc, ls, st, σ) = some (rv, σ') →
  ∀ (p : Program) (l : Launch) (e : Env) (R : Room) (s : State) (m : MethodId) (args : Array Value) (below : List Frame) (meth : Method) (c : Code) (cells slots : Nat) (Q : State → Prop) (cA : Nat → ClassId) (ad : Nat → Nat) (F : Value) (D : va_G) (xs : Nat → Int32) (L : Nat) (A : Nat → Prop),
  xe_X p R s m args c cells slots y cA ad F D xs L A →
  (∀ (pc' : Nat) (ins : Instr) (st' : List Value) (lsA : Array Slot) (H : Heap) (locs : List Loc), xe_rt ins (xm_r y) st' = some rv → decode (xm_b y) pc' = .ok (ins, 1) → xe_WH cA ad D xs L A s.heap σ' H locs → W p l e R s m args below meth c H locs cells slots Q (F0 m pc' lsA (st'.map (xe_c ad F)))) →
  ∀ (lsA : Array Slot) (H : Heap) (locs : List Loc), xe_LR ad F lsA ls (xm_l y) → xe_WH cA ad D xs L A s.heap σ H locs → W p l e R s m args below meth c H locs cells slots Q (F0 m pc lsA (st.map (xe_c ad F)))
theorem xe_S_Met {n : Nat} (hn : xe_S n) {l : Launch} {a : Nat} {As : List Value} {σ σ' : xM} {rv : Option Value} (ha : a < 245) (hlen : (xe_args As).length ≤ xm_l a) (h : xe_run n a (0, xe_init a As, [], σ) = some (rv, σ')) : xe_Met l a As σ rv σ' := by
  intro D cA ad F xs L
  refine va_MetF (cc := xm_b a) (maxL := xm_l a) (ret := xm_r a) (xf_all ha).1 rfl ?_
  intro p e s m args below meth c s₁ B hml hP
  obtain ⟨rfl, hP1, hK, hRO, hF, hinj, hs1, hs2⟩ := hP
  have hts0 := atoms_spec (ws := xe_w a) B.pre
  have hown : s.vm.findClass (xown (xm_o a)) = some m.cls := by
    rw [← xn_all (by omega)]; exact findClass_of_methodNamed B.named
  have hlocks := B.notSynchronized
  have hx := B.exec
  have hb := B.bytes
  have hr := B.returns
  rw [lg_entry_eq]
  refine hn a 0 (xe_init a As) [] σ rv σ' h p l e (xe_rm a) s m _ below meth c 0 0 _ cA ad F D xs L (xe_A ad) ⟨hx, hb, hml, hown, fun w hw => hts0 w (List.mem_cons_of_mem _ hw), hK, hRO, hF, ⟨Nat.le_refl _, Nat.le_refl _, Nat.le_refl _, Nat.le_refl _⟩, fun k hk => ⟨k, hk, rfl⟩, hinj⟩ ?_ _ s.heap [] (xe_init_LR hF hlen) ⟨hP1, xe_D (fun k hk => ⟨k, hk, rfl⟩) hinj, va_S.rf, hs1, hs2⟩
  intro pc' ins st' lsA H locs hrt hd hW
  have hq : ∀ t : State, t.heap = H → s.WarmedH t.vm → xe_Q D cA ad F xs L rv σ' (As.map (xe_c ad F)).toArray s (.returned (rv.map (xe_c ad F))) t := fun t ht _ => ⟨rfl, by rw [ht]; exact hW.1, hW.2.2.2.1, hW.2.2.2.2, hW.2.2.1.F ht⟩
  unfold xe_rt at hrt
  split at hrt
  · rename_i hr2
    rw [hr2] at hr
    cases hrt
    exact W.vret hx hb hr hq hW.2.2.1.2.2 hd
  · rename_i hr2
    rw [hr2] at hr
    cases hrt
    exact W.lret hx hb hr hq hW.2.2.1.2.2 hd
  · rename_i hr2
    rw [hr2] at hr
    cases hrt
    exact W.aret hx hb hr (Or.inl ⟨_, rfl⟩) (Or.inr ⟨_, rfl⟩) hq hW.2.2.1.2.2 hd
  · rename_i hr2
    rw [hr2] at hr
    cases hrt
    exact W.aret hx hb hr (Or.inl ⟨_, rfl⟩) (Or.inl rfl) hq hW.2.2.1.2.2 hd
  · rename_i hr2
    rw [hr2] at hr
    cases hrt
    exact W.iret hx hb hr hq hW.2.2.1.2.2 hd
  · rename_i hr2
    rw [hr2] at hr
    split at hrt
    · rename_i h01
      cases hrt
      exact W.zret hx hb hr (by rcases h01 with rfl | rfl <;> rfl) hq hW.2.2.1.2.2 hd
    · cases hrt
  · rename_i hr2
    rw [hr2] at hr
    split at hrt
    · rename_i h01
      cases hrt
      exact W.zret hx hb hr (by show Value.int _ = Value.int _; rw [h01]) hq hW.2.2.1.2.2 hd
    · cases hrt
  · rename_i hr2
    rw [hr2] at hr
    split at hrt
    · rename_i h01
      cases hrt
      exact W.zret hx hb hr (by show Value.int _ = Value.int _; rw [h01]) hq hW.2.2.1.2.2 hd
    · cases hrt
  · cases hrt
theorem xe_sound : ∀ n, xe_S n := by
  intro n
  induction n with
  | zero => intro y pc ls st σ rv σ' h; simp [xe_run] at h
  | succ n ih =>
    intro y pc ls st σ rv σ' h p l e R s m args below meth c cells slots Q cA ad F D xs L A X KR lsA H locs hL hW
    unfold xe_run at h
    cases hf : xe_fetch y pc with
    | none => rw [hf] at h; simp at h
    | some en =>
      obtain ⟨pc0, ins, ln, pl, a, b, v⟩ := en
      rw [hf] at h
      obtain ⟨rfl, ok⟩ := xe_fetch_ok hf
      dsimp only at h
      by_cases hR : xe_isR ins = true
      · rw [if_pos hR] at h
        cases hrt : xe_rt ins (xm_r y) st with
        | none => rw [hrt] at h; simp at h
        | some rv2 =>
          rw [hrt] at h
          cases h
          have hd := of_decide_eq_true (xe_b2 ok).1
          have hl1 : ln = 1 := by
            have ok2 := (xe_b2 ok).2
            cases ins <;> simp [xe_isR] at hR <;> exact of_decide_eq_true ok2
          subst hl1
          exact KR pc0 ins st lsA H locs hrt hd hW
      · rw [if_neg hR] at h
        by_cases hC : xe_isC ins a = true
        · rw [if_pos hC] at h
          split at h
          · rename_i hc
            cases hr : xe_run n a (0, xe_init a (st.take b).reverse, [], σ) with
            | none => rw [hr] at h; simp at h
            | some q =>
              obtain ⟨rv2, σ2⟩ := q
              rw [hr] at h
              dsimp only at h
              cases hp : xe_ps (xm_r a) rv2 (st.drop b) with
              | none => rw [hp] at h; simp at h
              | some st' =>
                rw [hp] at h
                dsimp only at h
                have hd := of_decide_eq_true (xe_b2 ok).1
                have ok2 := (xe_b2 ok).2
                have h998 : a ≠ 998 := by
                  rintro rfl
                  rcases hc.2.2.2.1 with q | q
                  · exact absurd q (by decide +kernel)
                  · have hb0 : b = 0 := by rw [← hc.2.2.1]; decide +kernel
                    subst hb0
                    cases q
                have hcore : ∃ ix, ((ins = .invokestatic ix ∧ xm_c a = 200 ∧ (xl pl = (5, xm_o y, ix, a, 0, 0) ∨ xl pl = (6, xm_o y, ix, a, 0, 0))) ∨ (ins = .invokevirtual ix ∧ xm_c a ≠ 200 ∧ xl pl = (5, xm_o y, ix, a, 0, 0))) ∧ ln = 3 ∧ a < 245 ∧ xe_rok y a = true := by
                  cases ins <;> simp [xe_isC] at hC
                  · rename_i ix
                    have ok3 : (decide (ln = 3) && (decide (a = 998) || (if a = 999 then decide (xl pl = (7, xm_o y, ix, 0, 0, 0)) && decide (1 ≤ xm_f y) && decide (26 ≤ xm_k y)
      else decide (a < 245) && decide (xm_c a = 200) && xe_rok y a && (decide (xl pl = (5, xm_o y, ix, a, 0, 0)) || decide (xl pl = (6, xm_o y, ix, a, 0, 0)))))) = true := ok2
                    rw [if_neg hC] at ok3
                    simp only [Bool.and_eq_true, Bool.or_eq_true, decide_eq_true_eq] at ok3
                    obtain ⟨o1, o2⟩ := ok3
                    rcases o2 with o2 | ⟨⟨⟨o2, o3⟩, o4⟩, o5⟩
                    · exact absurd o2 h998
                    · exact ⟨ix, Or.inl ⟨rfl, o3, o5⟩, o1, o2, o4⟩
                  · rename_i ix
                    have ok3 : (decide (ln = 3) && (decide (a = 998) || (decide (a < 245) && decide (xm_c a ≠ 200) && xe_rok y a && decide (xl pl = (5, xm_o y, ix, a, 0, 0))))) = true := ok2
                    simp only [Bool.and_eq_true, Bool.or_eq_true, decide_eq_true_eq] at ok3
                    obtain ⟨o1, o2⟩ := ok3
                    rcases o2 with o2 | ⟨⟨⟨o2, o3⟩, o4⟩, o5⟩
                    · exact absurd o2 h998
                    · exact ⟨ix, Or.inr ⟨rfl, o3, o5⟩, o1, o2, o4⟩
                obtain ⟨ix, hins, rfl, ha, hrk⟩ := hcore
                refine xe_call X hins hd ha hrk hc (xe_S_Met ih ha hc.2.2.2.2 hr) hp ?_ hL hW
                intro lsB H1 locs1 hL1 hW1
                exact ih y (pc0 + 3) ls st' σ2 rv σ' h p l e R s m args below meth c cells slots Q cA ad F D xs L A X KR lsB H1 locs1 hL1 hW1
          · simp at h
        · rw [if_neg hC] at h
          cases hs : xe_step pc0 ins a b v ls st σ with
          | none => rw [hs] at h; simp at h
          | some s' =>
            rw [hs] at h
            dsimp only at h
            obtain ⟨pc', ls', st', σ2⟩ := s'
            refine xs_step X ok hs ?_ hL hW
            intro lsB H1 locs1 hL1 hW1
            exact ih y pc' ls' st' σ2 rv σ' h p l e R s m args below meth c cells slots Q cA ad F D xs L A X KR lsB H1 locs1 hL1 hW1
