/-! constructors: new C() within a method -/
theorem xi_mk {p : Program} {l : Launch} {e : Env} {R : Room} {s : State} {m : MethodId} {args : Array Value} {below : List Frame} {meth : Method} {c : Code} {H : Heap} {locs : List Loc} {cells slots : Nat} {Q : State → Prop} {cc : ByteArray} {pc : Nat} {ls : Array Slot} {rest : List Value} {D : va_G} {A : Nat → Prop} {ws : va_W} {H0 : Heap} {cA : Nat → ClassId} {own C : String} {T : u_T} {N ci nL : Nat}
    (hexec : p.tables.exec = Jvm.exec) (hb : c.code = cc) (hml : c.maxLocals = nL) (hown : s.vm.findClass own = some m.cls) (hts : ∀ w ∈ xTT, w.before args s = true) (hK : va_K D xCls (xtys cA) s) (hAO : va_AO "QuayRopes$Ship" s) (hA : ∀ q, H0.size ≤ q → A q) (hP : va_P D xCls ws H) (hD : va_D A ws) (hS : va_S A H0 H locs)
    (hin : ∀ w ∈ u_ws C T N, w ∈ xTT) {ty0 : Nat → FieldType} (hty0 : ∀ k, k < N → parseFieldDescriptor (T k).2.2.1 = some (ty0 k)) (hc : xCls[ci]? = some (C, T, N)) {fs : List Value} (hfs : ∀ j, j < N → defaultValue (ty0 j) = vp_V fs j)
    {i1 i2 : Nat} {y : MethodName} {cy : ByteArray} {ny f k : Nat} {Sh : Nat → va_W → Prop} {nc ns : Nat} (hM : ∀ h0 sz, xi_Met l y cy ny f k D cA ci fs h0 sz (Sh h0) nc ns)
    (w1 : Cond.classLink own i1 C ∈ xTT) (w2 : Cond.instantiable C N ∈ xTT) (w3 : Cond.initialized C ∈ xTT) (w4 : Cond.methodLink own i2 y ∈ xTT) (w5 : Cond.instanceMethod y ∈ xTT) (w6 : Cond.code y cy ny none ∈ xTT) (hyc : y.cls = C) (hyn : y.name = "<init>")
    (hdd : y.cls ≠ "java/lang/invoke/MethodHandle" ∧ y.cls ≠ "java/lang/invoke/VarHandle" ∧ (parseMethodDescriptor y.desc).map (fun d => d.parameters.length) = some 0)
    (hR : f + 1 ≤ R.frames ∧ 8 + (ny + 11) + k ≤ R.locals) (hsz : ls.size = nL) (hrest : (rest.map fun v => v.category).sum ≤ 7) (hcells : cells + 1 + nc ≤ R.cells) (hslots : slots + N + ns ≤ R.slots)
    (d1 : decode cc pc = .ok (.new i1, 3)) (d2 : decode cc (pc + 3) = .ok (.dup, 1)) (d3 : decode cc (pc + 3 + 1) = .ok (.invokespecial i2, 3))
    (kk : ∀ (q : Nat) (w1 : va_W) (H1 : Heap) (locs1 : List Loc), Sh q w1 → va_P D xCls (ws ++ w1) H1 → va_D A (ws ++ w1) → va_S A H0 H1 locs1 → W p l e R s m args below meth c H1 locs1 (cells + 1 + nc) (slots + N + ns) Q (F0 m (pc + 3 + 1 + 3) ls (.ref q :: rest))) : W p l e R s m args below meth c H locs cells slots Q (F0 m pc ls rest) := by
  refine va_new (ci := ci) (fs := fs) (C := C) (T := T) (N := N) hexec hb hts hin ty0 hty0 hown (hts _ w1) (hts _ w2) (hts _ w3) hK hP hD hS hA hc hfs (by omega) (by omega) d1 (fun q H1 hP1 hD1 hS1 => ?_)
  refine lv_dup hexec hb d2 rfl ?_
  have hPc : va_P D xCls [(q, .inr (ci, fs))] H1 := hP1.sub [ws.length] (by simp)
  have hDc : va_D A [(q, .inr (ci, fs))] := hD1.sub [ws.length] rfl (by simp)
  have hFc : ∀ x, va_A [(q, .inr (ci, fs))] H1.size x → A x := va_free (wc := [(q, .inr (ci, fs))]) hD1 hS1 hA [ws.length] (by simp)
  have hG : GoodIn xTT (xi_w y cy ny) := fun w hw => by
    rcases List.mem_cons.mp hw with rfl | hw
    · exact xTT_good w6
    · exact xTT_good hw
  refine va_callv (va_runI (As := []) (rest := .ref q :: rest) ⟨hexec, hb, hml, hown, hts⟩ (hM q H1.size) (cwI 0 hts hG rfl rfl rfl (by rw [hyc]; exact hts _ w3) (hts _ w4) (hts _ w5) hyn hdd hR) ⟨fun a U g mk z => by
      obtain ⟨z0, z1, z2, z3, z4, z5⟩ := z
      exact ⟨z0, z1, z2, va_K.moved (u := U) (U := U.calling g mk a) (Vm.Alike.refl U.vm) z3, va_AO.moved (u := U) (U := U.calling g mk a) (Vm.Alike.refl U.vm) z4, z5⟩, fun U hU hW => ⟨rfl, by rw [hU], by rw [hU]; exact hPc, va_K.moved hW.alike hK, va_AO.moved hW.alike hAO, hDc.weaken (fun _ _ _ _ => trivial)⟩⟩ rfl rfl hsz rfl (lv_room (by show 1 + (rest.map fun v => v.category).sum ≤ 8; omega)) d3 ⟨hcells, hslots⟩) hS1 (fun x _ h => hFc x h) hFc (fun w t H2 locs2 ht hvm hw hB hz1 hk1 hS2 => ?_)
  obtain ⟨hP2, hD2⟩ := hB
  rw [ht] at hP2
  obtain ⟨hP3, hD3⟩ := xi_join hP1 hD1 hk1 hFc hP2 hD2
  exact kk q w H2 locs2 hw hP3 hD3 hS2
