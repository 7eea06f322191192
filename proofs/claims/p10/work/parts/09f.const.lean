/-! Constants below the ground: the thresholds, texts. -/
def tbW (i : Int32) : Option Int32 := if ¬ (i < 0 ∨ 7 ≤ i.toNatClampNeg) then some (wsv.getD i.toNatClampNeg 0) else none
theorem tbW_s {i x : Int32} (h : tbW i = some x) : vp_in i 7 ∧ Value.int (wsv.getD i.toNatClampNeg 0) = .int x := by
  obtain ⟨h1, h2⟩ := its h
  cases h2
  exact ⟨h1, rfl⟩
def tbS (k : Nat) (i : Int32) : Option Int32 := if ¬ (i < 0 ∨ sLn.getD k 0 ≤ i.toNatClampNeg) then some ((sBy.getD k []).getD i.toNatClampNeg 0) else none
theorem tbS_s {k : Nat} {i x : Int32} (h : tbS k i = some x) : vp_in i (sLn.getD k 0) ∧ Value.int ((sBy.getD k []).getD i.toNatClampNeg 0) = .int x := by
  obtain ⟨h1, h2⟩ := its h
  cases h2
  exact ⟨h1, rfl⟩
def Rc_js : String := "java/lang/String"
def Rc_jl : String := "java/lang/StringLatin1"
def Rc_jp : String := "jdk/internal/util/Preconditions"
def Rc_ju : String := "java/lang/StringUTF16"
section WOS
variable {p : Program} {l : Launch} {e : Env} {R : Room} {s : State} {m : MethodId} {args : Array Value} {below : List Frame} {meth : Method} {c : Code} {H : Heap} {locs : List Loc} {cells slots : Nat} {Q : State → Prop}
variable {D : va_G} {cl : List vw_C} {tys : List (ClassId × FieldType)} {cA : Nat → ClassId} {base : Nat} {w w' : WW} {cc : ByteArray} {pc : Nat} {ls : Array Slot} {rest st0 : List Value}
theorem wo_nret (hexec : p.tables.exec = Jvm.exec) (hb : c.code = cc) {ty : FieldType} (hr : meth.sig.returnType = some ty) (hlk : meth.locks = false) (hW : wo_S D cl cA base s w H locs) {v : Int32} (hz : narrow ty (.int v) = .int v) (hdg : decode cc pc = .ok (.ireturn, 1)) : W p l e R s m args below meth c H locs cells slots (MQ below (wo_Q D cl cA base (some (.int v)) w) args s cells slots (wo_B base)) (F0 m pc ls [.int v]) :=
  W.zret hexec hb hr hz (fun t ht _ => wo_end hW t ht) hW.2.1.2.2 hdg hlk
theorem wo_callVS {own : String} {index nL maxL b n : Nat} {y : MethodName} {bytes : ByteArray} {ret : Option FieldType} {rm : Room} {As : List Value} {ov : Option Value}
    (hx : p.tables.exec = Jvm.exec) (hb : c.code = cc) (hml : c.maxLocals = nL) (hown : s.vm.findClass own = some m.cls) (hts : ∀ w ∈ gt, w.before args s = true) (hK : va_K D cl tys s) (hG : wo_G cA base s) (hW : wo_S D cl cA base s w H locs)
    (hM : mt l D cl tys cA base y (Cond.code y bytes maxL ret :: gt) rm (.ref (cA (100 + b)) :: As) w ov w' rm.cells rm.slots) (hkb : b < 6)
    (w1 : Cond.methodLink own index y ∈ gt) (w2 : Cond.instanceMethod y ∈ gt) (w3 : Cond.selects "java/lang/String" y y ∈ gt) (w4 : Cond.initialized "java/lang/String" ∈ gt) (w5 : Cond.code y bytes maxL ret ∈ gt)
    (hd : y.cls = "java/lang/String" ∧ y.cls ≠ "java/lang/invoke/MethodHandle" ∧ y.cls ≠ "java/lang/invoke/VarHandle" ∧ (parseMethodDescriptor y.desc).map (fun d => d.parameters.length) = some n)
    (hR : rm.frames + 1 ≤ R.frames ∧ 8 + (maxL + 11) + rm.locals ≤ R.locals) (hf : cells + rm.cells ≤ R.cells ∧ slots + rm.slots ≤ R.slots) (hn : As.length = n) (hsz : ls.size = nL) (hst : st0 = As.reverse ++ .ref (cA (100 + b)) :: rest) (hcat : (rest.map fun v => v.category).sum ≤ 8) (hdg : decode cc pc = .ok (.invokevirtual index, 3))
    (kk : ∀ (H1 : Heap) (locs1 : List Loc), wo_S D cl cA base s w' H1 locs1 → W p l e R s m args below meth c H1 locs1 (cells + rm.cells) (slots + rm.slots) Q (F0 m (pc + 3) ls (ov.toList ++ rest))) : W p l e R s m args below meth c H locs cells slots Q (F0 m pc ls st0) := by
  have hT : GoodIn gt (wsV own index "java/lang/String" y (Cond.code y bytes maxL ret :: gt)) := gt_cons w1 (gt_cons w2 (gt_cons w3 (gt_cons w4 (gt_in w5))))
  exact wo_after (va_runV (As := As) (rest := rest) ⟨hx, hb, hml, hown, hts⟩ hM (cwV n hts hT rfl rfl rfl hd hR) ⟨wo_blind, vk_recv (adK := fun i => cA (100 + i)) hG.2.2.2.2.2.2.2.2.1 hkb hW.2.1, fun U hU hm => wo_pre hK hG hW U hU hm⟩ rfl hn hsz hst (lv_room hcat) hdg hf) hW kk
theorem zq_v {C n d : String} {A : Nat → Prop} {U : State} {H : Heap} (h : va_Zq C n d A U H) : ∃ v : Value, v.category = 1 ∧ va_Z C n d v A U H := by
  rcases h with h | ⟨t, h⟩
  · exact ⟨.null, rfl, h⟩
  · exact ⟨.ref t, rfl, h⟩
end WOS
