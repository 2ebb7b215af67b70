/-! CONSTRUCTORS: a class's world when it is new -/
theorem xi_in {w : Cond} (i : Nat) (h : tables_1[i]? = some w) (hg : goodWord w = true) : w ∈ xTT := xTT_of (List.mem_append_right _ (List.mem_of_getElem? h)) hg
theorem xi_join {A0 : Nat → Prop} {D : va_G} {cl : List vw_C} {ws w1 : va_W} {x : Nat × va_E} {H H1 : Heap} (hP : va_P D cl (ws ++ [x]) H) (hD : va_D A0 (ws ++ [x])) (hk : ∀ q : Nat, q < H.size → ¬ va_A [x] H.size q → H1[q]? = H[q]?) (hF : ∀ q, va_A [x] H.size q → A0 q) (hP1 : va_P D cl w1 H1) (hD1 : va_D (va_A [x] H.size) w1) : va_P D cl (ws ++ w1) H1 ∧ va_D A0 (ws ++ w1) := by
  refine va_join (wc := [x]) (wr := ws) hP hD [ws.length] (List.range ws.length) (by simp) ?_ ?_ ?_ hk hF hP1 hD1
  · refine List.ext_getElem? (fun i => ?_)
    by_cases hi : i < ws.length
    · simp [hi, List.getElem?_append_left hi]
    · rw [List.getElem?_eq_none (by simp; omega), List.getElem?_eq_none (by simp; omega)]
  · have key : ∀ n : Nat, va_nd (List.range n) = true := by
      intro n
      have h : ∀ (l : List Nat), l.Nodup → va_nd l = true := by
        intro l
        induction l with
        | nil => intro _; rfl
        | cons a l ih =>
          intro hn
          obtain ⟨h1, h2⟩ := List.nodup_cons.mp hn
          unfold va_nd
          simp [h1, ih h2]
      exact h _ List.nodup_range
    exact key _
  · intro i hi hc
    have h1 := List.mem_range.mp hi
    have h2 := List.mem_singleton.mp hc
    omega
section XIN
variable {p : Program} {l : Launch} {e : Env} {R : Room} {s : State} {m : MethodId} {args : Array Value} {below : List Frame} {meth : Method} {c : Code} {H : Heap} {locs : List Loc} {cells slots : Nat} {Q : State → Prop}
variable {cc : ByteArray} {pc : Nat} {ls : Array Slot} {rest : List Value} {D : va_G} {cl : List vw_C} {A : Nat → Prop} {tys : List (ClassId × FieldType)} {ws : va_W} {H0 : Heap} {cA : Nat → ClassId}
theorem xi_newa (hexec : p.tables.exec = Jvm.exec) (hb : c.code = cc) {atype : ArrayType} (harr : (Cond.arrayClass (newarray.typeOf atype)).before args s = true) {ty : FieldType} (hty : newarray.typeOf atype = ty) (hK : va_K D cl tys s) {t0 : Nat} {cT : ClassId} (ht : tys[t0]? = some (cT, ty)) (hP : va_P D cl ws H) (hD : va_D A ws) (hS : va_S A H0 H locs) (hA : ∀ q, H0.size ≤ q → A q)
    {n : Int32} {N' : Nat} {a0 : vp_A} (ha : ∀ cA : ClassId, vp_cell cA a0 = arrV cA N' (fun _ => defaultValue ty)) (hn : ¬ n < 0) (hN : n.toNatClampNeg = N') (hbytes : N' * componentBytes ty ≤ 536870912) (hcells : cells + 1 ≤ R.cells) (hslots : slots + N' ≤ R.slots) (hdg : decode cc pc = .ok (.newarray atype, 2))
    (kk : ∀ (q : Nat) (H1 : Heap), va_P D cl (ws ++ [(q, .inl (cT, a0))]) H1 → va_D A (ws ++ [(q, .inl (cT, a0))]) → va_S A H0 H1 locs →
      W p l e R s m args below meth c H1 locs (cells + 1) (slots + N') Q (F0 m (pc + 2) ls (.ref q :: rest))) : W p l e R s m args below meth c H locs cells slots Q (F0 m pc ls (.int n :: rest)) := by
  refine va_newa hexec hb harr hty hK hP hD hS hA ha hn hN hbytes hcells hslots hdg (fun q cA' H1 hK1 hP1 hD1 hS1 => ?_)
  have h1 := (hK.2 t0 _ ht).2
  have h2 := (hK1.2 tys.length (cA', ty) (by simp)).2
  have e : cA' = cT := by
    subst hty
    cases atype <;> exact Option.some.inj (h2.symm.trans h1)
  subst e
  exact kk q H1 hP1 hD1 hS1
/-- this.f = new T[n] -/
theorem xi_fld (hexec : p.tables.exec = Jvm.exec) (hb : c.code = cc) (hts : ∀ w ∈ xTT, w.before args s = true) {own : String} {T : u_T} {N ci : Nat} (hin : ∀ w ∈ u_ws own T N, w ∈ xTT) {ty0 : Nat → FieldType} (hty0 : ∀ k, k < N → parseFieldDescriptor (T k).2.2.1 = some (ty0 k)) (hnm : ∀ a, a < N → ∀ b, b < N → a ≠ b → (T a).2.1 ≠ (T b).2.1) (hown : s.vm.findClass own = some m.cls) (hc : xCls[ci]? = some (own, T, N)) (hmn : meth.name = "<init>") (hK : va_K D xCls (xtys cA) s)
    {h0 : Nat} {fs : List Value} (hP : va_P D xCls ((h0, .inr (ci, fs)) :: ws) H) (hD : va_D A ((h0, .inr (ci, fs)) :: ws)) (hS : va_S A H0 H locs) (hA : ∀ q, H0.size ≤ q → A q) (hl : ls[0]? = some (.val (.ref h0)))
    {lp : Nat} {n : Int32} (push : ∀ (H : Heap) (locs : List Loc) (cells slots : Nat), W p l e R s m args below meth c H locs cells slots Q (F0 m (pc + 1 + lp) ls [.int n, .ref h0]) → W p l e R s m args below meth c H locs cells slots Q (F0 m (pc + 1) ls [.ref h0]))
    {atype : ArrayType} {ty : FieldType} (harr : Cond.arrayClass (newarray.typeOf atype) ∈ xTT) (hty : newarray.typeOf atype = ty) {t0 : Nat} {cT : ClassId} (ht : (xtys cA)[t0]? = some (cT, ty)) {N' : Nat} {a0 : vp_A} (ha : ∀ cA : ClassId, vp_cell cA a0 = arrV cA N' (fun _ => defaultValue ty)) (hn : ¬ n < 0) (hN : n.toNatClampNeg = N') (hbytes : N' * componentBytes ty ≤ 536870912) (hcells : cells + 1 ≤ R.cells) (hslots : slots + N' ≤ R.slots)
    {k index : Nat} (hk : k < N) (hlink : Cond.fieldLink own index own (T k).2.1 (T k).2.2.1 ∈ xTT) (hfin : (T k).2.2.2 = true) (hdecl : (T k).1 = own) (hdesc : parseFieldDescriptor (T k).2.2.1 = some (.array ty)) (hkl : k < fs.length)
    (d1 : decode cc pc = .ok (.aload_n 0, 1)) (d2 : decode cc (pc + 1 + lp) = .ok (.newarray atype, 2)) (d3 : decode cc (pc + 1 + lp + 2) = .ok (.putfield index, 3))
    (kk : ∀ (q : Nat) (H1 : Heap) (locs1 : List Loc), va_P D xCls ((h0, .inr (ci, fs.set k (.ref q))) :: (ws ++ [(q, .inl (cT, a0))])) H1 → va_D A ((h0, .inr (ci, fs.set k (.ref q))) :: (ws ++ [(q, .inl (cT, a0))])) → va_S A H0 H1 locs1 →
      W p l e R s m args below meth c H1 locs1 (cells + 1) (slots + N') Q (F0 m (pc + 1 + lp + 2 + 3) ls [])) : W p l e R s m args below meth c H locs cells slots Q (F0 m pc ls []) := by
  refine lv_aload_n hexec hb d1 rfl hl ?_
  refine push _ _ _ _ ?_
  refine xi_newa hexec hb (hts _ harr) hty hK ht hP hD hS hA ha hn hN hbytes hcells hslots d2 (fun q H1 hP1 hD1 hS1 => ?_)
  refine va_putF (D := D) (ci := ci) (v := .ref q) (ty := .array ty) (ref := own) (C := own) (T := T) (N := N) hexec hb hts hin ty0 hty0 hnm hown hK hP1 hD1 hS1 0 rfl hc k hk (hts _ hlink) (fun x hx => by rw [hdecl] at hx; exact hx) hfin hmn hdecl hdesc rfl rfl hkl d3 (fun H2 locs2 hP2 hD2 hS2 => ?_)
  exact kk q H2 locs2 hP2 hD2 hS2
end XIN
/-- what a constructor takes and gives -/
def xi_w (y : MethodName) (cc : ByteArray) (n : Nat) : List Cond := .code y cc n none :: xTT
def xi_Pre (D : va_G) (cA : Nat → ClassId) (ci : Nat) (fs : List Value) (h0 sz : Nat) (U : State) : Prop := U.heap.size = sz ∧ va_P D xCls [(h0, .inr (ci, fs))] U.heap ∧ va_K D xCls (xtys cA) U ∧ va_AO "QuayRopes$Ship" U ∧ va_D (fun _ => True) [(h0, .inr (ci, fs))]
def xi_A (ci : Nat) (fs : List Value) (h0 sz : Nat) : Nat → Prop := va_A [(h0, .inr (ci, fs))] sz
def xi_B (D : va_G) (A : Nat → Prop) (ws : va_W) (U : State) : Prop := va_P D xCls ws U.heap ∧ va_D A ws
def xi_rm (f k nc ns : Nat) : Room := { frames := f, cells := nc, slots := ns, locals := k }
def xi_Met (l : Launch) (y : MethodName) (cc : ByteArray) (nL f k : Nat) (D : va_G) (cA : Nat → ClassId) (ci : Nat) (fs : List Value) (h0 sz : Nat) (Sh : va_W → Prop) (nc ns : Nat) : Prop := Met l y (xi_w y cc nL) (xi_rm f k nc ns) (va_Pc [.ref h0] (xi_Pre D cA ci fs h0 sz)) (va_Qv Sh (xi_B D (xi_A ci fs h0 sz)) (xi_A ci fs h0 sz)) nc ns (xi_A ci fs h0 sz)
theorem xi_open {l : Launch} {y : MethodName} {cc : ByteArray} {nL f k : Nat} {D : va_G} {cA : Nat → ClassId} {ci : Nat} {fs : List Value} {h0 sz : Nat} {Sh : va_W → Prop} {nc ns idx : Nat} (hpl : plainName y.cls = true) (hy : y.name = "<init>") (hnL : 1 ≤ nL) (hf : 1 ≤ f) (hk : 12 ≤ k) (w1 : Cond.methodLink y.cls idx objectInit ∈ xTT) (w2 : Cond.instanceMethod objectInit ∈ xTT) (w3 : Cond.code objectInit ⟨#[0xb1]⟩ 1 none ∈ xTT) (d0 : decode cc 0 = .ok (.aload_n 0, 1)) (d1 : decode cc 1 = .ok (.invokespecial idx, 3))
    (body : ∀ (p : Program) (e : Env) (s : State) (m : MethodId) (below : List Frame) (meth : Method) (c : Code) (A : Nat → Prop) (Q : State → Prop) (ls : Array Slot), p.tables.exec = Jvm.exec → c.code = cc → (∀ w ∈ xTT, w.before #[Value.ref h0] s = true) → s.vm.findClass y.cls = some m.cls → meth.name = "<init>" → va_K D xCls (xtys cA) s → va_AO "QuayRopes$Ship" s → (∀ q, s.heap.size ≤ q → A q) → c.maxLocals = nL → lv_has ls nL [(0, .ref h0)] → va_P D xCls [(h0, .inr (ci, fs))] s.heap → va_D A [(h0, .inr (ci, fs))] → va_S A s.heap s.heap [] →
      (∀ (H : Heap) (locs : List Loc) (lsB : Array Slot) (pcR : Nat) (ws : va_W), decode cc pcR = .ok (.return_, 1) → Sh ws → va_P D xCls ws H → va_D A ws → va_S A s.heap H locs → W p l e (xi_rm f k nc ns) s m #[Value.ref h0] below meth c H locs nc ns Q (F0 m pcR lsB [])) →
      W p l e (xi_rm f k nc ns) s m #[Value.ref h0] below meth c s.heap [] 0 0 Q (F0 m 4 ls [])) : xi_Met l y cc nL f k D cA ci fs h0 sz Sh nc ns := by
  refine Met.ofW (cc := cc) (maxL := nL) (ret := none) hpl rfl ?_
  intro p e s m args below meth c s₁ B hml hv
  obtain ⟨rfl, hsz, hP, hK, hAO, hD0⟩ := hv
  have hx := B.exec
  have hb := B.bytes
  have hr := B.returns
  have hts0 := atoms_spec (ws := xi_w y cc nL) B.pre
  have hts : ∀ w ∈ xTT, w.before #[Value.ref h0] s = true := fun w hw => hts0 w (List.mem_cons_of_mem _ hw)
  have hown : s.vm.findClass y.cls = some m.cls := findClass_of_methodNamed B.named
  have hlocks := B.notSynchronized
  have hin : meth.name = "<init>" := (name_of_methodNamed B.named B.method).1.trans hy
  subst hsz
  have hD := hD0.self (sz := s.heap.size)
  unfold xi_A
  generalize hAe : va_A [(h0, .inr (ci, fs))] s.heap.size = A at hD ⊢
  have hA : ∀ q : Nat, s.heap.size ≤ q → A q := fun q h => by rw [← hAe]; exact Or.inr h
  have hS : va_S A s.heap s.heap [] := va_S.rf
  have hl := lv_entry ([.ref h0]) (n := nL) hnL
  rw [lg_entry_eq]
  generalize (lg_sl ([.ref h0]) ++ List.replicate (nL - (lg_sl ([.ref h0])).length) Slot.unset).toArray = ls at hl ⊢
  have hl : lv_has ls nL [(0, .ref h0)] := hl
  refine lv_aload_n hx hb d0 rfl (lv_at hl 0 rfl) ?_
  refine W.objInit hx hb hown (hts _ w1) (hts _ w2) (hts _ w3) rfl (by rw [hml]; exact hl.1) rfl d1 hf (show 2 * 0 + 0 + 12 ≤ k by omega) ?_
  refine W.eq (g2 := F0 m 4 ls []) rfl ?_
  refine body p e s m below meth c A _ ls hx hb hts hown hin hK hAO hA hml hl hP hD hS (fun H locs lsB pcR ws hd hSh hP1 hD1 hS1 => ?_)
  exact W.vret hx hb hr (fun t ht hW => ⟨⟨ws, rfl, hSh, by rw [ht]; exact hP1, hD1⟩, hS1.F ht⟩) hS1.2.2 hd
