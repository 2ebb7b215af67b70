/-! THE REAL MACHINE FOLLOWS THE SMALL ONE: an instruction that is no call and no return. -/
section XST
variable {p : Program} {l : Launch} {e : Env} {R : Room} {s : State} {m : MethodId} {args : Array Value} {below : List Frame} {meth : Method} {c : Code} {H : Heap} {locs : List Loc} {cells slots : Nat} {Q : State → Prop}
variable {cA : Nat → ClassId} {ad : Nat → Nat} {F : Value} {D : va_G} {xs : Nat → Int32} {L : Nat} {A : Nat → Prop} {y pc : Nat}
/-- what comes behind a step -/
abbrev xe_K (p : Program) (l : Launch) (e : Env) (R : Room) (s : State) (m : MethodId) (args : Array Value) (below : List Frame) (meth : Method) (c : Code) (cells slots : Nat) (Q : State → Prop) (cA : Nat → ClassId) (ad : Nat → Nat) (F : Value) (D : va_G) (xs : Nat → Int32) (L : Nat) (A : Nat → Prop) (y : Nat) (t : xS) : Prop :=
  ∀ (lsA : Array Slot) (H : Heap) (locs : List Loc), xe_LR ad F lsA t.2.1 (xm_l y) → xe_WH cA ad D xs L A s.heap t.2.2.2 H locs → W p l e R s m args below meth c H locs cells slots Q (F0 m t.1 lsA (t.2.2.1.map (xe_c ad F)))
theorem xe_lt50 {a : Nat} (h : a < 13) : a ≠ 50 ∧ a < 110 ∧ a < 50 := ⟨by omega, by omega, by omega⟩
theorem xe_xl {pl : Nat} {q : xN} (h : xl pl = q) (h0 : q.1 ≠ 0) : ∃ w, w ∈ lw_tbl ∧ xl_ok w q := xl_get h h0
theorem xs_get {a b ix pl : Nat} {ls : xL} {st : List Value} {σ : xM} {t : xS} {lsA : Array Slot} (X : xe_X p R s m args c cells slots y cA ad F D xs L A) (hd : decode (xm_b y) pc = .ok (.getfield ix, 3)) (ha : a < 13) (hpl : xl pl = (1, xm_o y, ix, a, b, 0)) (h : xe_get (pc + 3) ls st σ a b = some t)
    (K : xe_K p l e R s m args below meth c cells slots Q cA ad F D xs L A y t) (hL : xe_LR ad F lsA ls (xm_l y)) (hW : xe_WH cA ad D xs L A s.heap σ H locs) : W p l e R s m args below meth c H locs cells slots Q (F0 m pc lsA (st.map (xe_c ad F))) := by
  obtain ⟨hx, hb, hml, hown, hts, hK, hRO, hF, hR, hA, hinj⟩ := X
  obtain ⟨q1, hq1, hcn, hN, hws, ⟨ty0, hty⟩, hnm, hkd⟩ := xk_all ha
  obtain ⟨w, hw, hok⟩ := xe_xl hpl (by simp)
  have hT : xe_T a = q1.2.1 := by unfold xe_T; rw [hq1]
  unfold xe_get at h
  split at h
  · rename_i k r
    split at h
    · rename_i hk
      obtain ⟨hk1, hk2⟩ := xe_cls_lt hk (xe_lt50 ha).2.1 (xe_lt50 ha).1
      have he := xws_get (cA := cA) (ad := ad) (σ := σ) hk1
      rw [xe_en_obj hk2 (xe_lt50 ha).2.2] at he
      have hfv : ∀ v, xe_fv σ k a b = some v → b < xe_nf a ∧ xe_vl ad σ k a b = xe_c ad F v := by
        intro v hv
        have h9 : xe_kd a b ≠ 9 := by
          intro q
          unfold xe_fv at hv
          split at hv
          · omega
          · rw [q] at hv; cases hv
        refine ⟨xe_kd_lt h9, ?_⟩
        unfold xe_fv at hv
        split at hv
        · omega
        · unfold xe_vl
          split at hv <;> first | (cases hv; done) | (rename_i hkk; rw [hkk]; cases hv; rfl)
      cases hv : xe_fv σ k a b with
      | none => rw [hv] at h; cases h
      | some v =>
        rw [hv] at h
        cases h
        obtain ⟨g1, g2⟩ := hfv v hv
        have hlt : b < q1.2.2 := by rw [hN]; exact g1
        have hok2 : w = .fieldLink (xown (xm_o y)) ix (xe_T a b).1 (xe_T a b).2.1 (xe_T a b).2.2.1 := hok
        rw [hT] at hok2
        have hlink := xg_mem hts hw (by rw [hok2]; rfl)
        rw [hok2] at hlink
        exact va_get (D := D) (cl := xCls) (tys := xtys cA) (ci := a) (C := q1.1) (T := q1.2.1) (N := q1.2.2) hx hb hts (fun w hw => xTT_of (hws w hw) (by
          obtain ⟨j, -, rfl⟩ := List.mem_map.mp hw
          unfold u_lay
          split <;> rfl)) hown hK hW.1 k he hq1 b hlt hlink (fun _ z => z) (v := xe_c ad F v) (by rw [xe_fs_get g1, g2]) hd (K lsA H locs hL hW)
    · cases h
  · cases h
theorem xs_getS {b ix pl : Nat} {ls : xL} {st : List Value} {σ : xM} {t : xS} {lsA : Array Slot} (X : xe_X p R s m args c cells slots y cA ad F D xs L A) (hd : decode (xm_b y) pc = .ok (.getfield ix, 3)) (hb2 : b < 2) (hpl : xl pl = (2, xm_o y, ix, 50, b, 0)) (h : xe_get (pc + 3) ls st σ 50 b = some t)
    (K : xe_K p l e R s m args below meth c cells slots Q cA ad F D xs L A y t) (hL : xe_LR ad F lsA ls (xm_l y)) (hW : xe_WH cA ad D xs L A s.heap σ H locs) : W p l e R s m args below meth c H locs cells slots Q (F0 m pc lsA (st.map (xe_c ad F))) := by
  obtain ⟨hx, hb, hml, hown, hts, hK, hRO, hF, hR, hA, hinj⟩ := X
  obtain ⟨w, hw, hok⟩ := xe_xl hpl (by simp)
  obtain ⟨-, -, -, hS, -⟩ := hRO
  unfold xe_get at h
  split at h
  · rename_i k r
    split at h
    · rename_i hk
      obtain ⟨hk1, hk2⟩ := xe_cls_50 hk
      obtain ⟨i, rfl⟩ := Nat.exists_eq_add_of_le hk1
      obtain ⟨-, g1, g2, -⟩ := hS.1 i (by omega)
      dsimp only at g1 g2
      rcases (show b = 0 ∨ b = 1 by omega) with rfl | rfl
      · have h1 : some (pc + 3, ls, Value.int 0 :: r, σ) = some t := h
        cases h1
        have hok2 : w = .fieldLink (xown (xm_o y)) ix "java/lang/String" "coder" "B" := hok
        have hlink := xg_mem hts hw (by rw [hok2]; rfl)
        rw [hok2] at hlink
        exact vk_getf hx hb g1 hW.2.2.1 hown hlink (fun _ z => z) hd (K lsA H locs hL hW)
      · have h1 : some (pc + 3, ls, Value.ref ((1100 + i : Nat) + (100 : Nat) : Nat) :: r, σ) = some t := h
        cases h1
        have hok2 : w = .fieldLink (xown (xm_o y)) ix "java/lang/String" "value" "[B" := hok
        have hlink := xg_mem hts hw (by rw [hok2]; rfl)
        rw [hok2] at hlink
        have e2 : (1200 + i : Nat) = ((1100 + i : Nat) + (100 : Nat) : Nat) := by omega
        rw [e2] at g2
        exact vk_getf hx hb g2 hW.2.2.1 hown hlink (fun _ z => z) hd (K lsA H locs hL hW)
    · cases h
  · cases h
theorem xe_WH.si {H1 : Heap} {locs1 : List Loc} {σ : xM} {k j : Nat} {v : Int32} {H0 : Heap} (hW : xe_WH cA ad D xs L A H0 σ H locs) (hk : k < 122) (h1 : va_P D xCls (xws cA ad (xe_si σ k j v)) H1) (h2 : va_D A (xws cA ad (xe_si σ k j v))) (h3 : va_S A H0 H1 locs1) : xe_WH cA ad D xs L A H0 (xe_si σ k j v) H1 locs1 :=
  ⟨h1, h2, h3, by rw [xe_si_ne (by omega)]; exact hW.2.2.2.1, by rw [xe_si_ne (by omega)]; exact hW.2.2.2.2⟩
theorem xe_set_si {σ : xM} {k j : Nat} {v : Int32} {en : va_E} (hk : k < 122) (he : xe_en cA ad (xe_si σ k j v) k = en) : (xws cA ad σ).set k (ad k, en) = xws cA ad (xe_si σ k j v) :=
  xws_set hk he fun i _ hne => xe_en_congr (xe_si_ne hne) rfl rfl
theorem xe_set_sl {σ : xM} {k j : Nat} {v : Int64} {en : va_E} (hk : k < 122) (he : xe_en cA ad (xe_sl σ k j v) k = en) : (xws cA ad σ).set k (ad k, en) = xws cA ad (xe_sl σ k j v) :=
  xws_set hk he fun i _ hne => xe_en_congr rfl (xe_sl_ne hne) rfl
theorem xs_put {a b ix pl : Nat} {ls : xL} {st : List Value} {σ : xM} {t : xS} {lsA : Array Slot} (X : xe_X p R s m args c cells slots y cA ad F D xs L A) (hd : decode (xm_b y) pc = .ok (.putfield ix, 3)) (ha : a < 13) (hpl : xl pl = (1, xm_o y, ix, a, b, 0)) (h3 : xe_kd a b ≠ 3) (h9 : xe_kd a b ≠ 9) (h : xe_put (pc + 3) ls st σ a b = some t)
    (K : xe_K p l e R s m args below meth c cells slots Q cA ad F D xs L A y t) (hL : xe_LR ad F lsA ls (xm_l y)) (hW : xe_WH cA ad D xs L A s.heap σ H locs) : W p l e R s m args below meth c H locs cells slots Q (F0 m pc lsA (st.map (xe_c ad F))) := by
  obtain ⟨hx, hb, hml, hown, hts, hK, hRO, hF, hR, hA, hinj⟩ := X
  obtain ⟨q1, hq1, hcn, hN, hws, ⟨ty0, hty⟩, hnm, hkd⟩ := xk_all ha
  obtain ⟨w, hw, hok⟩ := xe_xl hpl (by simp)
  have hT : xe_T a = q1.2.1 := by unfold xe_T; rw [hq1]
  have hok2 : w = .fieldLink (xown (xm_o y)) ix (xe_T a b).1 (xe_T a b).2.1 (xe_T a b).2.2.1 := hok
  rw [hT] at hok2
  have hlink := xg_mem hts hw (by rw [hok2]; rfl)
  rw [hok2] at hlink
  have hnf := xe_kd_lt h9
  have hlt : b < q1.2.2 := by rw [hN]; exact hnf
  obtain ⟨k0, k1, k2, k4⟩ := hkd b hlt
  have hin : ∀ w ∈ u_ws q1.1 q1.2.1 q1.2.2, w ∈ xTT := fun w hw => xTT_of (hws w hw) (by
          obtain ⟨j, -, rfl⟩ := List.mem_map.mp hw
          unfold u_lay
          split <;> rfl)
  unfold xe_put at h
  split at h
  · rename_i v k r
    split at h
    · rename_i hk
      obtain ⟨hk1, hk2⟩ := xe_cls_lt hk (xe_lt50 ha).2.1 (xe_lt50 ha).1
      have he := xws_get (cA := cA) (ad := ad) (σ := σ) hk1
      rw [xe_en_obj hk2 (xe_lt50 ha).2.2] at he
      cases hv : xe_fp σ k a b v with
      | none => rw [hv] at h; cases h
      | some σ' =>
        rw [hv] at h
        cases h
        have hlen : b < (xe_fs ad σ k a).length := by rw [xe_fs_len]; exact hnf
        unfold xe_fp at hv
        split at hv
        · rename_i x hkk
          cases hv
          obtain ⟨z1, z2⟩ := k0 hkk
          refine va_put (D := D) (cl := xCls) (tys := xtys cA) (ci := a) (C := q1.1) (T := q1.2.1) (N := q1.2.2) (v := .int x) (ty := .int) hx hb hts hin ty0 hty hnm hown hK hW.1 hW.2.1 hW.2.2.1 k he hq1 b hlt hlink (fun _ z => z) z2 (by rw [z1]; decide +kernel) rfl rfl hlen hd (fun H1 locs1 g1 g2 g3 => ?_)
          have es : (xws cA ad σ).set k (ad k, .inr (a, (xe_fs ad σ k a).set b (.int x))) = xws cA ad (xe_si σ k b x) := by
            refine xe_set_si hk1 ?_
            rw [xe_en_obj hk2 (xe_lt50 ha).2.2, xe_fs_set (σ' := xe_si σ k b x) hnf (by unfold xe_vl; rw [hkk]; simp [xe_si]) (fun i hi hne => by unfold xe_vl; simp [xe_si, hne])]
          rw [es] at g1 g2
          exact K lsA H1 locs1 hL (hW.si hk1 g1 g2 g3)
        · rename_i x hkk
          split at hv
          · rename_i hx01
            cases hv
            obtain ⟨z1, z2⟩ := k1 hkk
            refine va_put (D := D) (cl := xCls) (tys := xtys cA) (ci := a) (C := q1.1) (T := q1.2.1) (N := q1.2.2) (v := .int x) (ty := .boolean) hx hb hts hin ty0 hty hnm hown hK hW.1 hW.2.1 hW.2.2.1 k he hq1 b hlt hlink (fun _ z => z) z2 (by rw [z1]; decide +kernel) (by rcases hx01 with rfl | rfl <;> rfl) (by rcases hx01 with rfl | rfl <;> rfl) hlen hd (fun H1 locs1 g1 g2 g3 => ?_)
            have es : (xws cA ad σ).set k (ad k, .inr (a, (xe_fs ad σ k a).set b (.int x))) = xws cA ad (xe_si σ k b x) := by
              refine xe_set_si hk1 ?_
              rw [xe_en_obj hk2 (xe_lt50 ha).2.2, xe_fs_set (σ' := xe_si σ k b x) hnf (by unfold xe_vl; rw [hkk]; simp [xe_si]) (fun i hi hne => by unfold xe_vl; simp [xe_si, hne])]
            rw [es] at g1 g2
            exact K lsA H1 locs1 hL (hW.si hk1 g1 g2 g3)
          · cases hv
        · rename_i x hkk
          cases hv
          obtain ⟨z1, z2⟩ := k2 hkk
          refine va_put (D := D) (cl := xCls) (tys := xtys cA) (ci := a) (C := q1.1) (T := q1.2.1) (N := q1.2.2) (v := .long x) (ty := .long) hx hb hts hin ty0 hty hnm hown hK hW.1 hW.2.1 hW.2.2.1 k he hq1 b hlt hlink (fun _ z => z) z2 (by rw [z1]; decide +kernel) rfl rfl hlen hd (fun H1 locs1 g1 g2 g3 => ?_)
          have es : (xws cA ad σ).set k (ad k, .inr (a, (xe_fs ad σ k a).set b (.long x))) = xws cA ad (xe_sl σ k b x) := by
            refine xe_set_sl hk1 ?_
            rw [xe_en_obj hk2 (xe_lt50 ha).2.2, xe_fs_set (σ' := xe_sl σ k b x) hnf (by unfold xe_vl; rw [hkk]; simp [xe_sl]) (fun i hi hne => by unfold xe_vl; simp [xe_sl, hne])]
          rw [es] at g1 g2
          exact K lsA H1 locs1 hL ⟨g1, g2, g3, hW.2.2.2.1, hW.2.2.2.2⟩
        · rename_i t hkk
          cases hv
          obtain ⟨z1, z2⟩ := k4 hkk
          obtain rfl : a = 11 := xe_kd4 hkk
          obtain rfl : k = 0 := xe_cls11 k hk1 hk2
          refine va_put (D := D) (cl := xCls) (tys := xtys cA) (ci := 11) (C := q1.1) (T := q1.2.1) (N := q1.2.2) (v := .ref (ad t)) (ty := .object "QuayRopes$Port") hx hb hts hin ty0 hty hnm hown hK hW.1 hW.2.1 hW.2.2.1 0 he hq1 b hlt hlink (fun _ z => z) z2 (by rw [z1]; decide +kernel) rfl rfl hlen hd (fun H1 locs1 g1 g2 g3 => ?_)
          have es : (xws cA ad σ).set 0 (ad 0, .inr (11, (xe_fs ad σ 0 11).set b (.ref (ad t)))) = xws cA ad (xe_sp σ b t) := by
            refine xws_set hk1 ?_ (fun i hi hne => xe_en_sp hi hne)
            rw [xe_en_obj hk2 (by decide), xe_fs_set (σ' := xe_sp σ b t) hnf (by unfold xe_vl; rw [hkk]; simp [xe_sp]) (fun i hi hne => by unfold xe_vl; simp [xe_sp, hne])]
          rw [es] at g1 g2
          exact K lsA H1 locs1 hL ⟨g1, g2, g3, hW.2.2.2.1, hW.2.2.2.2⟩
        · cases hv
    · cases h
  · cases h
theorem xe_alen_lt {σ : xM} {k : Nat} (h : k < 122) : xe_len σ k = xt_len.getD k 0 := by unfold xe_len; rw [if_pos h]
theorem xe_ax_lt {σ : xM} {k j : Nat} (h : k < 1020) : xe_ax σ k j = σ.1 k j := by unfold xe_ax; rw [if_pos h]
theorem xs_ial {ls : xL} {st : List Value} {σ : xM} {t : xS} {lsA : Array Slot} (X : xe_X p R s m args c cells slots y cA ad F D xs L A) (hd : decode (xm_b y) pc = .ok (.iaload, 1)) (h : xe_ial (pc + 1) ls st σ = some t)
    (K : xe_K p l e R s m args below meth c cells slots Q cA ad F D xs L A y t) (hL : xe_LR ad F lsA ls (xm_l y)) (hW : xe_WH cA ad D xs L A s.heap σ H locs) : W p l e R s m args below meth c H locs cells slots Q (F0 m pc lsA (st.map (xe_c ad F))) := by
  obtain ⟨hx, hb, hml, hown, hts, hK, hRO, hF, hR, hA, hinj⟩ := X
  unfold xe_ial at h
  split at h
  · rename_i i k r
    split at h
    · rename_i hc
      cases h
      obtain ⟨hc1, hc2, hc3⟩ := hc
      rcases hc1 with hc1 | hc1
      · obtain ⟨hk1, hk2⟩ := xe_cls_lt hc1 (by decide) (by decide)
        have he := xws_get (cA := cA) (ad := ad) (σ := σ) hk1
        rw [xe_en_i hk2] at he
        rw [xe_alen_lt hk1] at hc3
        have k2 := K lsA H locs hL hW
        rw [xe_ax_lt (by omega)] at k2
        exact va_iald (D := D) (cl := xCls) (tys := xtys cA) hx hb hK hW.1 k 0 he rfl (xe_in hc2 hc3) hd k2
      · obtain ⟨hLL, hsc, htb, -⟩ := hRO
        rcases xe_cls_110 hc1 with rfl | ⟨hk1, hk2⟩
        · have hln : xe_len σ 1010 = L := by
            show (σ.1 1011 0).toNatClampNeg = L
            rw [hW.2.2.2.2]; exact nI_clamp hLL
          rw [hln] at hc3
          have k2 := K lsA H locs hL hW
          rw [xe_ax_lt (by decide), hW.2.2.2.1] at k2
          exact va_ti hx hb hsc hW.2.2.1 (xe_in hc2 hc3) rfl hd k2
        · obtain ⟨j, rfl⟩ := Nat.exists_eq_add_of_le (show 1020 ≤ k by omega)
          have hln : xe_len σ (1020 + j) = (xt_ro.getD j []).length := by
            unfold xe_len
            rw [if_neg (by omega), if_neg (by omega), if_pos (by omega), Nat.add_sub_cancel_left]
          have hax : xe_ax σ (1020 + j) i.toNatClampNeg = (xt_ro.getD j []).getD i.toNatClampNeg 0 := by
            unfold xe_ax
            rw [if_neg (by omega), if_pos (by omega), Nat.add_sub_cancel_left]
          rw [hln] at hc3
          have k2 := K lsA H locs hL hW
          rw [hax] at k2
          exact va_ti hx hb (htb j (by omega)) hW.2.2.1 (xe_in hc2 hc3) rfl hd k2
    · cases h
  · cases h
theorem xs_tb {t0 N : Nat} {f : Nat → Value} {i : Int32} {lsA : Array Slot} {rest : List Value} (X : xe_X p R s m args c cells slots y cA ad F D xs L A) (hT : va_T .byte t0 N f A s s.heap) (hS : va_S A s.heap H locs) (hin : vp_in i N) {v : Value} (hv : f i.toNatClampNeg = v) (hd : decode (xm_b y) pc = .ok (.baload, 1))
    (kk : W p l e R s m args below meth c H locs cells slots Q (F0 m (pc + 1) lsA (v :: rest))) : W p l e R s m args below meth c H locs cells slots Q (F0 m pc lsA (.int i :: .ref t0 :: rest)) := va_tb X.1 X.2.1 hT hS hin hv hd kk
theorem xs_bal {ls : xL} {st : List Value} {σ : xM} {t : xS} {lsA : Array Slot} (X : xe_X p R s m args c cells slots y cA ad F D xs L A) (hd : decode (xm_b y) pc = .ok (.baload, 1)) (h : xe_bal (pc + 1) ls st σ = some t)
    (K : xe_K p l e R s m args below meth c cells slots Q cA ad F D xs L A y t) (hL : xe_LR ad F lsA ls (xm_l y)) (hW : xe_WH cA ad D xs L A s.heap σ H locs) : W p l e R s m args below meth c H locs cells slots Q (F0 m pc lsA (st.map (xe_c ad F))) := by
  obtain ⟨hx, hb, hml, hown, hts, hK, hRO, hF, hR, hA, hinj⟩ := X
  unfold xe_bal at h
  split at h
  · rename_i i k r
    split at h
    · rename_i hc
      cases h
      obtain ⟨hc1, hc2, hc3⟩ := hc
      rcases hc1 with hc1 | hc1 | hc1
      · obtain ⟨hk1, hk2⟩ := xe_cls_lt hc1 (by decide) (by decide)
        have he := xws_get (cA := cA) (ad := ad) (σ := σ) hk1
        rw [xe_en_b hk2] at he
        rw [xe_alen_lt hk1] at hc3
        have k2 := K lsA H locs hL hW
        rw [xe_ax_lt (by omega)] at k2
        exact va_bald (D := D) (cl := xCls) (tys := xtys cA) hx hb hK hW.1 k 2 he rfl (xe_in hc2 hc3) hd k2
      · obtain ⟨hk1, hk2⟩ := xe_cls_lt hc1 (by decide) (by decide)
        have he := xws_get (cA := cA) (ad := ad) (σ := σ) hk1
        rw [xe_en_z hk2] at he
        rw [xe_alen_lt hk1] at hc3
        have k2 := K lsA H locs hL hW
        rw [xe_ax_lt (by omega)] at k2
        exact va_zald (D := D) (cl := xCls) (tys := xtys cA) hx hb hK hW.1 k 3 he rfl (xe_in hc2 hc3) hd k2
      · obtain ⟨-, -, -, hS, -⟩ := hRO
        obtain ⟨hk1, hk2⟩ := xe_cls_112 hc1
        obtain ⟨j, rfl⟩ := Nat.exists_eq_add_of_le (show 1200 ≤ k by omega)
        obtain ⟨-, -, -, hT⟩ := hS.1 j (by omega)
        have hln : xe_len σ (1200 + j) = (xt_str.getD j []).length := by
          unfold xe_len
          rw [if_neg (by omega), if_neg (by omega), if_neg (by omega), Nat.add_sub_cancel_left]
        have hln2 : (xt_str.map List.length).getD j 0 = (xt_str.getD j []).length := by
          simp [List.getD_eq_getElem?_getD]
          cases xt_str[j]? <;> rfl
        have hax : xe_ax σ (1200 + j) i.toNatClampNeg = (xt_str.getD j []).getD i.toNatClampNeg 0 := by
          unfold xe_ax
          rw [if_neg (by omega), if_neg (by omega), Nat.add_sub_cancel_left]
        rw [hln, ← hln2] at hc3
        have k2 := K lsA H locs hL hW
        rw [hax] at k2
        exact va_tb hx hb hT hW.2.2.1 (xe_in hc2 hc3) rfl hd k2
    · cases h
  · cases h
theorem xs_lal {ls : xL} {st : List Value} {σ : xM} {t : xS} {lsA : Array Slot} (X : xe_X p R s m args c cells slots y cA ad F D xs L A) (hd : decode (xm_b y) pc = .ok (.laload, 1)) (h : xe_lal (pc + 1) ls st σ = some t)
    (K : xe_K p l e R s m args below meth c cells slots Q cA ad F D xs L A y t) (hL : xe_LR ad F lsA ls (xm_l y)) (hW : xe_WH cA ad D xs L A s.heap σ H locs) : W p l e R s m args below meth c H locs cells slots Q (F0 m pc lsA (st.map (xe_c ad F))) := by
  obtain ⟨hx, hb, hml, hown, hts, hK, hRO, hF, hR, hA, hinj⟩ := X
  unfold xe_lal at h
  split at h
  · rename_i i k r
    split at h
    · rename_i hc
      cases h
      obtain ⟨hc1, hc2, hc3⟩ := hc
      obtain ⟨hk1, hk2⟩ := xe_cls_lt hc1 (by decide) (by decide)
      have he := xws_get (cA := cA) (ad := ad) (σ := σ) hk1
      rw [xe_en_l hk2] at he
      rw [xe_alen_lt hk1] at hc3
      exact va_lald (D := D) (cl := xCls) (tys := xtys cA) hx hb hK hW.1 k 1 he rfl (xe_in hc2 hc3) hd (K lsA H locs hL hW)
    · cases h
  · cases h
theorem xs_aal {ls : xL} {st : List Value} {σ : xM} {t : xS} {lsA : Array Slot} (X : xe_X p R s m args c cells slots y cA ad F D xs L A) (hd : decode (xm_b y) pc = .ok (.aaload, 1)) (h : xe_aal (pc + 1) ls st σ = some t)
    (K : xe_K p l e R s m args below meth c cells slots Q cA ad F D xs L A y t) (hL : xe_LR ad F lsA ls (xm_l y)) (hW : xe_WH cA ad D xs L A s.heap σ H locs) : W p l e R s m args below meth c H locs cells slots Q (F0 m pc lsA (st.map (xe_c ad F))) := by
  obtain ⟨hx, hb, hml, hown, hts, hK, hRO, hF, hR, hA, hinj⟩ := X
  unfold xe_aal at h
  split at h
  · rename_i i k r
    split at h
    · rename_i hc
      cases h
      obtain ⟨hc1, hc2, hc3⟩ := hc
      obtain ⟨hk1, hk2⟩ := xe_cls_lt hc1 (by decide) (by decide)
      have he := xws_get (cA := cA) (ad := ad) (σ := σ) hk1
      rw [xe_en_q hk2] at he
      rw [xe_alen_lt hk1] at hc3
      exact va_aldq (D := D) (cl := xCls) (tys := xtys cA) hx hb hK hW.1 k 4 he rfl (xe_in hc2 hc3) hd (K lsA H locs hL hW)
    · cases h
  · cases h
theorem xs_ias {ls : xL} {st : List Value} {σ : xM} {t : xS} {lsA : Array Slot} (X : xe_X p R s m args c cells slots y cA ad F D xs L A) (hd : decode (xm_b y) pc = .ok (.iastore, 1)) (h : xe_ias (pc + 1) ls st σ = some t)
    (K : xe_K p l e R s m args below meth c cells slots Q cA ad F D xs L A y t) (hL : xe_LR ad F lsA ls (xm_l y)) (hW : xe_WH cA ad D xs L A s.heap σ H locs) : W p l e R s m args below meth c H locs cells slots Q (F0 m pc lsA (st.map (xe_c ad F))) := by
  obtain ⟨hx, hb, hml, hown, hts, hK, hRO, hF, hR, hA, hinj⟩ := X
  unfold xe_ias at h
  split at h
  · rename_i x i k r
    split at h
    · rename_i hc
      cases h
      obtain ⟨hc1, hc2, hc3⟩ := hc
      obtain ⟨hk1, hk2⟩ := xe_cls_lt hc1 (by decide) (by decide)
      have he := xws_get (cA := cA) (ad := ad) (σ := σ) hk1
      rw [xe_en_i hk2] at he
      rw [xe_alen_lt hk1] at hc3
      refine va_iast (D := D) (cl := xCls) (tys := xtys cA) hx hb hK hW.1 hW.2.1 hW.2.2.1 k 0 he rfl (xe_in hc2 hc3) hd (fun H1 locs1 g1 g2 g3 => ?_)
      have es := xe_set_si (cA := cA) (ad := ad) (σ := σ) (j := i.toNatClampNeg) (v := x) hk1 (by rw [xe_en_i hk2, xe_si_eq])
      rw [es] at g1 g2
      exact K lsA H1 locs1 hL (hW.si hk1 g1 g2 g3)
    · cases h
  · cases h
theorem xs_bas {ls : xL} {st : List Value} {σ : xM} {t : xS} {lsA : Array Slot} (X : xe_X p R s m args c cells slots y cA ad F D xs L A) (hd : decode (xm_b y) pc = .ok (.bastore, 1)) (h : xe_bas (pc + 1) ls st σ = some t)
    (K : xe_K p l e R s m args below meth c cells slots Q cA ad F D xs L A y t) (hL : xe_LR ad F lsA ls (xm_l y)) (hW : xe_WH cA ad D xs L A s.heap σ H locs) : W p l e R s m args below meth c H locs cells slots Q (F0 m pc lsA (st.map (xe_c ad F))) := by
  obtain ⟨hx, hb, hml, hown, hts, hK, hRO, hF, hR, hA, hinj⟩ := X
  unfold xe_bas at h
  split at h
  · rename_i x i k r
    split at h
    · rename_i hc
      cases h
      obtain ⟨hc1, hc2, hc3⟩ := hc
      obtain ⟨hk1, hk2⟩ := xe_cls_lt hc1 (by decide) (by decide)
      have he := xws_get (cA := cA) (ad := ad) (σ := σ) hk1
      rw [xe_en_b hk2] at he
      rw [xe_alen_lt hk1] at hc3
      refine va_bast (D := D) (cl := xCls) (tys := xtys cA) hx hb hK hW.1 hW.2.1 hW.2.2.1 k 2 he rfl (xe_in hc2 hc3) hd (fun H1 locs1 g1 g2 g3 => ?_)
      rw [vp_nar_byte] at g1 g2
      have es := xe_set_si (cA := cA) (ad := ad) (σ := σ) (j := i.toNatClampNeg) (v := x.toInt8.toInt32) hk1 (by rw [xe_en_b hk2, xe_si_eq])
      rw [es] at g1 g2
      exact K lsA H1 locs1 hL (hW.si hk1 g1 g2 g3)
    · split at h
      · rename_i hc
        cases h
        obtain ⟨hc1, hc2, hc3⟩ := hc
        obtain ⟨hk1, hk2⟩ := xe_cls_lt hc1 (by decide) (by decide)
        have he := xws_get (cA := cA) (ad := ad) (σ := σ) hk1
        rw [xe_en_z hk2] at he
        rw [xe_alen_lt hk1] at hc3
        refine va_zast (D := D) (cl := xCls) (tys := xtys cA) hx hb hK hW.1 hW.2.1 hW.2.2.1 k 3 he rfl (xe_in hc2 hc3) hd (fun H1 locs1 g1 g2 g3 => ?_)
        have en : vp_nar .boolean x = x &&& 1 := rfl
        rw [en] at g1 g2
        have es := xe_set_si (cA := cA) (ad := ad) (σ := σ) (j := i.toNatClampNeg) (v := x &&& 1) hk1 (by rw [xe_en_z hk2, xe_si_eq])
        rw [es] at g1 g2
        exact K lsA H1 locs1 hL (hW.si hk1 g1 g2 g3)
      · cases h
  · cases h
theorem xs_las {ls : xL} {st : List Value} {σ : xM} {t : xS} {lsA : Array Slot} (X : xe_X p R s m args c cells slots y cA ad F D xs L A) (hd : decode (xm_b y) pc = .ok (.lastore, 1)) (h : xe_las (pc + 1) ls st σ = some t)
    (K : xe_K p l e R s m args below meth c cells slots Q cA ad F D xs L A y t) (hL : xe_LR ad F lsA ls (xm_l y)) (hW : xe_WH cA ad D xs L A s.heap σ H locs) : W p l e R s m args below meth c H locs cells slots Q (F0 m pc lsA (st.map (xe_c ad F))) := by
  obtain ⟨hx, hb, hml, hown, hts, hK, hRO, hF, hR, hA, hinj⟩ := X
  unfold xe_las at h
  split at h
  · rename_i x i k r
    split at h
    · rename_i hc
      cases h
      obtain ⟨hc1, hc2, hc3⟩ := hc
      obtain ⟨hk1, hk2⟩ := xe_cls_lt hc1 (by decide) (by decide)
      have he := xws_get (cA := cA) (ad := ad) (σ := σ) hk1
      rw [xe_en_l hk2] at he
      rw [xe_alen_lt hk1] at hc3
      refine va_last (D := D) (cl := xCls) (tys := xtys cA) hx hb hK hW.1 hW.2.1 hW.2.2.1 k 1 he rfl (xe_in hc2 hc3) hd (fun H1 locs1 g1 g2 g3 => ?_)
      have es := xe_set_sl (cA := cA) (ad := ad) (σ := σ) (j := i.toNatClampNeg) (v := x) hk1 (by rw [xe_en_l hk2, xe_sl_eq])
      rw [es] at g1 g2
      exact K lsA H1 locs1 hL ⟨g1, g2, g3, hW.2.2.2.1, hW.2.2.2.2⟩
    · cases h
  · cases h
theorem xs_aln {ls : xL} {st : List Value} {σ : xM} {t : xS} {lsA : Array Slot} (X : xe_X p R s m args c cells slots y cA ad F D xs L A) (hd : decode (xm_b y) pc = .ok (.arraylength, 1)) (h : xe_aln (pc + 1) ls st σ = some t)
    (K : xe_K p l e R s m args below meth c cells slots Q cA ad F D xs L A y t) (hL : xe_LR ad F lsA ls (xm_l y)) (hW : xe_WH cA ad D xs L A s.heap σ H locs) : W p l e R s m args below meth c H locs cells slots Q (F0 m pc lsA (st.map (xe_c ad F))) := by
  obtain ⟨hx, hb, hml, hown, hts, hK, hRO, hF, hR, hA, hinj⟩ := X
  unfold xe_aln at h
  split at h
  · rename_i k r
    split at h
    · rename_i hc
      cases h
      have k2 := K lsA H locs hL hW
      by_cases hk1 : k < 122
      · have he := xws_get (cA := cA) (ad := ad) (σ := σ) hk1
        rw [xe_alen_lt hk1] at k2
        have hcl : xe_cls k = xt_cls.getD k 999 := by unfold xe_cls; rw [if_pos hk1]
        have hall : ∀ k, k < 122 → xt_cls.getD k 999 < 13 ∨ xt_cls.getD k 999 = 100 ∨ xt_cls.getD k 999 = 101 ∨ xt_cls.getD k 999 = 102 ∨ xt_cls.getD k 999 = 103 ∨ xt_cls.getD k 999 = 104 := by decide +kernel
        rw [hcl] at hc
        rcases hall k hk1 with q | q | q | q | q | q
        · omega
        · rw [xe_en_i q] at he
          exact va_alen (D := D) (cl := xCls) (tys := xtys cA) hx hb hK hW.1 k 0 he rfl rfl hd k2
        · rw [xe_en_l q] at he
          exact va_alen (D := D) (cl := xCls) (tys := xtys cA) hx hb hK hW.1 k 1 he rfl rfl hd k2
        · rw [xe_en_b q] at he
          exact va_alen (D := D) (cl := xCls) (tys := xtys cA) hx hb hK hW.1 k 2 he rfl rfl hd k2
        · rw [xe_en_z q] at he
          exact va_alen (D := D) (cl := xCls) (tys := xtys cA) hx hb hK hW.1 k 3 he rfl rfl hd k2
        · rw [xe_en_q q] at he
          exact va_alen (D := D) (cl := xCls) (tys := xtys cA) hx hb hK hW.1 k 4 he rfl rfl hd k2
      · obtain ⟨hLL, hsc, htb, hS, -⟩ := hRO
        unfold xe_cls at hc
        rw [if_neg hk1] at hc
        split at hc
        · rename_i q; subst q
          have hln : xe_len σ 1010 = L := by
            show (σ.1 1011 0).toNatClampNeg = L
            rw [hW.2.2.2.2]; exact nI_clamp hLL
          rw [hln] at k2
          exact va_tlen hx hb hsc hW.2.2.1 rfl hd k2
        · split at hc
          · rename_i q
            obtain ⟨j, rfl⟩ := Nat.exists_eq_add_of_le q.1
            have hln : xe_len σ (1020 + j) = (xt_ro.getD j []).length := by
              unfold xe_len
              rw [if_neg (by omega), if_neg (by omega), if_pos (by omega), Nat.add_sub_cancel_left]
            rw [hln] at k2
            exact va_tlen hx hb (htb j (by omega)) hW.2.2.1 rfl hd k2
          · split at hc
            · omega
            · split at hc
              · rename_i q
                obtain ⟨j, rfl⟩ := Nat.exists_eq_add_of_le q.1
                obtain ⟨-, -, -, hT⟩ := hS.1 j (by omega)
                have hln : xe_len σ (1200 + j) = (xt_str.getD j []).length := by
                  unfold xe_len
                  rw [if_neg (by omega), if_neg (by omega), if_neg (by omega), Nat.add_sub_cancel_left]
                have hln2 : (xt_str.map List.length).getD j 0 = (xt_str.getD j []).length := by
                  simp [List.getD_eq_getElem?_getD]
                  cases xt_str[j]? <;> rfl
                rw [hln, ← hln2] at k2
                exact va_tlen hx hb hT hW.2.2.1 rfl hd k2
              · omega
    · cases h
  · cases h
theorem xs_cpy {ix pl : Nat} {ls : xL} {st : List Value} {σ : xM} {t : xS} {lsA : Array Slot} (X : xe_X p R s m args c cells slots y cA ad F D xs L A) (hd : decode (xm_b y) pc = .ok (.invokestatic ix, 3)) (hpl : xl pl = (7, xm_o y, ix, 0, 0, 0)) (hf1 : 1 ≤ xm_f y) (hk1 : 26 ≤ xm_k y) (h : xe_cpy (pc + 3) ls st σ = some t)
    (K : xe_K p l e R s m args below meth c cells slots Q cA ad F D xs L A y t) (hL : xe_LR ad F lsA ls (xm_l y)) (hW : xe_WH cA ad D xs L A s.heap σ H locs) : W p l e R s m args below meth c H locs cells slots Q (F0 m pc lsA (st.map (xe_c ad F))) := by
  obtain ⟨hx, hb, hml, hown, hts, hK, hRO, hF, hR, hA, hinj⟩ := X
  obtain ⟨w, hw, hok⟩ := xe_xl hpl (by simp)
  have hok2 : w = .methodLink (xown (xm_o y)) ix arraycopyName := hok
  have hlink := xg_mem hts hw (by rw [hok2]; rfl)
  rw [hok2] at hlink
  unfold xe_cpy at h
  split at h
  · rename_i n dp k2 sp k r
    split at h
    · rename_i hc
      cases h
      obtain ⟨c1, c2, c3, c4, c5, c6, c7, c8⟩ := hc
      obtain ⟨a1, a2⟩ := xe_cls_lt c1 (by decide) (by decide)
      obtain ⟨b1, b2⟩ := xe_cls_lt c2 (by decide) (by decide)
      have he := xws_get (cA := cA) (ad := ad) (σ := σ) a1
      have he2 := xws_get (cA := cA) (ad := ad) (σ := σ) b1
      rw [xe_en_i a2] at he
      rw [xe_en_i b2] at he2
      rw [xe_alen_lt a1] at c6
      rw [xe_alen_lt b1] at c7
      have hcat : ((r.map (xe_c ad F)).map fun v => v.category).sum ≤ 8 := by
        have hle : ∀ (l : List Value), (l.map fun v => v.category).sum ≤ 2 * l.length := by
          intro l
          induction l with
          | nil => simp
          | cons a l ih =>
            have ha : a.category ≤ 2 := by rcases lv_cat a with q | q <;> omega
            simp only [List.map_cons, List.sum_cons, List.length_cons]
            omega
        have := hle (r.map (xe_c ad F))
        rw [List.length_map] at this
        omega
      refine va_copyi (D := D) (cl := xCls) (tys := xtys cA) (ty := .int) hx hb (by rw [hml]; exact hL.2.1.symm) hown hlink (xg_mem hts (w := .native arraycopyName) (List.mem_append_right _ (List.mem_append_right _ (List.mem_append_right _ (List.mem_append_right _ (List.mem_append_left _ (List.mem_of_getElem? (i := 112) rfl)))))) rfl) (xg_mem hts (w := .static arraycopyName) (List.mem_append_right _ (List.mem_append_right _ (List.mem_append_right _ (List.mem_append_right _ (List.mem_append_left _ (List.mem_of_getElem? (i := 111) rfl)))))) rfl) (xg_mem hts (w := .initialized "java/lang/System") (List.mem_append_right _ (List.mem_append_left _ (List.mem_of_getElem? (i := 21) rfl))) rfl) hK hW.1 hW.2.1 hW.2.2.1 k k2 0 0 he he2 rfl rfl rfl (fun q => absurd q (Int32.not_lt.mpr c3)) (fun q => absurd q (Int32.not_lt.mpr c4)) (fun q => absurd q (Int32.not_lt.mpr c5)) c6 c7 (fun _ _ => rfl) (Nat.le_trans hf1 hR.1) (Nat.le_trans (Nat.add_le_add_right hcat _) (Nat.le_trans (by decide) (Nat.le_trans hk1 hR.2.1))) hd (fun H1 locs1 g1 g2 g3 => ?_)
      have es : (xws cA ad σ).set k2 (ad k2, .inl (cA 0, xt_len.getD k2 0, .inl (va_cpy (σ.1 k) (σ.1 k2) sp.toNatClampNeg dp.toNatClampNeg n.toNatClampNeg))) = xws cA ad (xe_cp σ k k2 sp.toNatClampNeg dp.toNatClampNeg n.toNatClampNeg) :=
        xws_set b1 (by rw [xe_en_i b2, xe_cp_eq]) fun i _ hne => xe_en_congr (xe_cp_ne hne) rfl rfl
      rw [es] at g1 g2
      exact K lsA H1 locs1 hL ⟨g1, g2, g3, by rw [xe_cp_ne (by omega)]; exact hW.2.2.2.1, by rw [xe_cp_ne (by omega)]; exact hW.2.2.2.2⟩
    · cases h
  · cases h
end XST
