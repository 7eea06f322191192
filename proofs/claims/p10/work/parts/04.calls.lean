/-! Calls over the map: the callee's contract takes the whole world w to w'. -/
def kb (w : WW) (a ci : Nat) : Bool := match w a with
  | some (.inr o) => o.1 == ci
  | _ => false
theorem kb_s {w : WW} {a ci : Nat} (h : kb w a ci = true) : ∃ fs : List Value, w a = some (.inr (ci, fs)) := by
  unfold kb at h
  split at h
  · rename_i o ho
    obtain ⟨c, fs⟩ := o
    have hc : c = ci := by simpa using h
    subst hc
    exact ⟨fs, ho⟩
  · cases h
section WOC
variable {p : Program} {l : Launch} {e : Env} {R : Room} {s : State} {m : MethodId} {args : Array Value} {below : List Frame} {meth : Method} {c : Code} {H : Heap} {locs : List Loc} {cells slots : Nat} {Q : State → Prop}
variable {D : va_G} {cl : List vw_C} {tys : List (ClassId × FieldType)} {cA : Nat → ClassId} {base : Nat} {w w' : WW} {cc : ByteArray} {pc : Nat} {ls : Array Slot} {rest st0 : List Value}
theorem wo_after {ov : Option Value} {av : Array Value} {mc ms : Nat} (hr : va_Run p l e R s m args below meth c H locs cells slots mc ms (F0 m pc ls st0) rest (wo_Q D cl cA base ov w' av) (wo_B base)) (hW : wo_S D cl cA base s w H locs)
    (kk : ∀ (H1 : Heap) (locs1 : List Loc), wo_S D cl cA base s w' H1 locs1 → W p l e R s m args below meth c H1 locs1 (cells + mc) (slots + ms) Q (F0 m (pc + 3) ls (ov.toList ++ rest))) : W p l e R s m args below meth c H locs cells slots Q (F0 m pc ls st0) := by
  intro T hT X
  obtain ⟨v, st₀, t, T', L, h0, X', hL, e1, e2, ⟨hv, hR, hF1, hF2⟩, st⟩ := hr T hT X
  cases hv
  rw [h0] at hF1 hF2
  have hS : va_S (wo_B base) s.heap t.heap (locs ++ L) := by
    refine ⟨Nat.le_trans hW.2.1.1 hF1, fun q h1 h2 => ?_, fun q hq => ?_⟩
    · rw [hF2 q (Nat.lt_of_lt_of_le h1 hW.2.1.1) h2]
      exact hW.2.1.2.1 q h1 h2
    · rcases List.mem_append.mp hq with h | h
      · exact hW.2.1.2.2 q h
      · exact hL q h
  obtain ⟨t2, a1, b1⟩ := kk t.heap (locs ++ L) ⟨hR, hS, hW.2.2⟩ T' e1 X'
  exact ⟨t2, st t2 a1, b1⟩
theorem wo_pre (hK : va_K D cl tys s) (hG : wo_G cA base s) (hW : wo_S D cl cA base s w H locs) {av : List Value} (U : State) (hU : U.heap = H) (hm : s.WarmedH U.vm) : wo_P D cl tys cA base av w av.toArray U :=
  ⟨rfl, by rw [hU]; exact Nat.le_trans hW.2.2 hW.2.1.1, by rw [hU]; exact hW.1, va_K.moved hm.alike hK, wo_G.keep hm (fun q hq => by rw [hU]; exact hW.2.1.2.1 q (Nat.lt_of_lt_of_le hq hW.2.2) (Nat.not_le.mpr hq)) hG⟩
theorem wo_callV {own C : String} {index nL maxL N ci b n : Nat} {T : u_T} {y : MethodName} {bytes : ByteArray} {ret : Option FieldType} {rm : Room} {As : List Value} {ov : Option Value}
    (hx : p.tables.exec = Jvm.exec) (hb : c.code = cc) (hml : c.maxLocals = nL) (hown : s.vm.findClass own = some m.cls) (hts : ∀ w ∈ gt, w.before args s = true) (hK : va_K D cl tys s) (hG : wo_G cA base s) (hW : wo_S D cl cA base s w H locs)
    (hM : mt l D cl tys cA base y (Cond.code y bytes maxL ret :: gt) rm (.ref (base + b) :: As) w ov w' rm.cells rm.slots) (hkb : kb w b ci = true) (hc : cl[ci]? = some (C, T, N))
    (w1 : Cond.methodLink own index y ∈ gt) (w2 : Cond.instanceMethod y ∈ gt) (w3 : Cond.selects C y y ∈ gt) (w4 : Cond.initialized C ∈ gt) (w5 : Cond.code y bytes maxL ret ∈ gt)
    (hd : y.cls = C ∧ y.cls ≠ "java/lang/invoke/MethodHandle" ∧ y.cls ≠ "java/lang/invoke/VarHandle" ∧ (parseMethodDescriptor y.desc).map (fun d => d.parameters.length) = some n)
    (hR : rm.frames + 1 ≤ R.frames ∧ 8 + (maxL + 11) + rm.locals ≤ R.locals) (hf : cells + rm.cells ≤ R.cells ∧ slots + rm.slots ≤ R.slots) (hn : As.length = n) (hsz : ls.size = nL) (hst : st0 = As.reverse ++ .ref (base + b) :: rest) (hcat : (rest.map fun v => v.category).sum ≤ 8) (hdg : decode cc pc = .ok (.invokevirtual index, 3))
    (kk : ∀ (H1 : Heap) (locs1 : List Loc), wo_S D cl cA base s w' H1 locs1 → W p l e R s m args below meth c H1 locs1 (cells + rm.cells) (slots + rm.slots) Q (F0 m (pc + 3) ls (ov.toList ++ rest))) : W p l e R s m args below meth c H locs cells slots Q (F0 m pc ls st0) := by
  obtain ⟨fs, hfs⟩ := kb_s hkb
  obtain ⟨L, q0, -, hP, -, he⟩ := hW.1.at hfs
  have hT : GoodIn gt (wsV own index C y (Cond.code y bytes maxL ret :: gt)) := gt_cons w1 (gt_cons w2 (gt_cons w3 (gt_cons w4 (gt_in w5))))
  exact wo_after (va_runV (As := As) (rest := rest) ⟨hx, hb, hml, hown, hts⟩ hM (cwV n hts hT rfl rfl rfl hd hR) ⟨wo_blind, va_recv hK hP hc he, fun U hU hm => wo_pre hK hG hW U hU hm⟩ rfl hn hsz hst (lv_room hcat) hdg hf) hW kk
theorem wo_callS {own : String} {index nL maxL n : Nat} {y : MethodName} {bytes : ByteArray} {ret : Option FieldType} {rm : Room} {As : List Value} {ov : Option Value}
    (hx : p.tables.exec = Jvm.exec) (hb : c.code = cc) (hml : c.maxLocals = nL) (hown : s.vm.findClass own = some m.cls) (hts : ∀ w ∈ gt, w.before args s = true) (hK : va_K D cl tys s) (hG : wo_G cA base s) (hW : wo_S D cl cA base s w H locs)
    (hM : mt l D cl tys cA base y (Cond.code y bytes maxL ret :: gt) rm As w ov w' rm.cells rm.slots)
    (w1 : Cond.methodLink own index y ∈ gt) (w2 : Cond.static y ∈ gt) (w3 : Cond.initialized y.cls ∈ gt) (w5 : Cond.code y bytes maxL ret ∈ gt)
    (hd : y.cls ≠ "java/lang/invoke/MethodHandle" ∧ y.cls ≠ "java/lang/invoke/VarHandle" ∧ (parseMethodDescriptor y.desc).map (fun d => d.parameters.length) = some n)
    (hR : rm.frames + 1 ≤ R.frames ∧ 8 + (maxL + 11) + rm.locals ≤ R.locals) (hf : cells + rm.cells ≤ R.cells ∧ slots + rm.slots ≤ R.slots) (hn : As.length = n) (hsz : ls.size = nL) (hst : st0 = As.reverse ++ rest) (hcat : (rest.map fun v => v.category).sum ≤ 8) (hdg : decode cc pc = .ok (.invokestatic index, 3))
    (kk : ∀ (H1 : Heap) (locs1 : List Loc), wo_S D cl cA base s w' H1 locs1 → W p l e R s m args below meth c H1 locs1 (cells + rm.cells) (slots + rm.slots) Q (F0 m (pc + 3) ls (ov.toList ++ rest))) : W p l e R s m args below meth c H locs cells slots Q (F0 m pc ls st0) := by
  have hT : GoodIn gt (va_wsS own index y (Cond.code y bytes maxL ret :: gt)) := gt_cons w1 (gt_cons w2 (gt_cons w3 (gt_in w5)))
  exact wo_after (va_runS (As := As) (rest := rest) ⟨hx, hb, hml, hown, hts⟩ hM (va_cwS n hts hT rfl rfl rfl hd hR) ⟨wo_blind, fun U hU hm => wo_pre hK hG hW U hU hm⟩ rfl hn hsz hst (lv_room hcat) hdg hf) hW kk
theorem wo_callI {own : String} {index nL maxL b n : Nat} {y : MethodName} {bytes : ByteArray} {rm : Room} {As : List Value}
    (hx : p.tables.exec = Jvm.exec) (hb : c.code = cc) (hml : c.maxLocals = nL) (hown : s.vm.findClass own = some m.cls) (hts : ∀ w ∈ gt, w.before args s = true) (hK : va_K D cl tys s) (hG : wo_G cA base s) (hW : wo_S D cl cA base s w H locs)
    (hM : mt l D cl tys cA base y (Cond.code y bytes maxL none :: gt) rm (.ref (base + b) :: As) w none w' rm.cells rm.slots)
    (w1 : Cond.methodLink own index y ∈ gt) (w2 : Cond.instanceMethod y ∈ gt) (w3 : Cond.initialized y.cls ∈ gt) (w5 : Cond.code y bytes maxL none ∈ gt) (hy1 : y.name = "<init>")
    (hd : y.cls ≠ "java/lang/invoke/MethodHandle" ∧ y.cls ≠ "java/lang/invoke/VarHandle" ∧ (parseMethodDescriptor y.desc).map (fun d => d.parameters.length) = some n)
    (hR : rm.frames + 1 ≤ R.frames ∧ 8 + (maxL + 11) + rm.locals ≤ R.locals) (hf : cells + rm.cells ≤ R.cells ∧ slots + rm.slots ≤ R.slots) (hn : As.length = n) (hsz : ls.size = nL) (hst : st0 = As.reverse ++ .ref (base + b) :: rest) (hcat : (rest.map fun v => v.category).sum ≤ 8) (hdg : decode cc pc = .ok (.invokespecial index, 3))
    (kk : ∀ (H1 : Heap) (locs1 : List Loc), wo_S D cl cA base s w' H1 locs1 → W p l e R s m args below meth c H1 locs1 (cells + rm.cells) (slots + rm.slots) Q (F0 m (pc + 3) ls rest)) : W p l e R s m args below meth c H locs cells slots Q (F0 m pc ls st0) := by
  exact wo_after (ov := none) (va_runI (As := As) (rest := rest) ⟨hx, hb, hml, hown, hts⟩ hM (cwI n hts (gt_in w5) rfl rfl rfl (hts _ w3) (hts _ w1) (hts _ w2) hy1 hd hR) ⟨wo_blind, fun U hU hm => wo_pre hK hG hW U hU hm⟩ rfl hn hsz hst (lv_room hcat) hdg hf) hW kk
end WOC
