/-! Methods as functions, and their contracts (by wip/gen/run.py). -/
abbrev b_ju_charAt : ByteArray := prog_22_method_83_code
def y_ju_charAt : MethodName := ⟨"java/lang/StringUTF16", "charAt", "([BI)C"⟩
def rm_ju_charAt : Room := { frames := 0, cells := 0, slots := 0, locals := 0 }
theorem c_ju_charAt (l : Launch) (D : va_G) (cA : Nat → ClassId) (base : Nat) {a0 : Nat} {a1 : Int32} {w w' : WW} {r : Int32} (h : f_ju_charAt a0 a1 w = some (r, w')) : mt l D cls (wo_tys cA) cA base y_ju_charAt (Cond.code y_ju_charAt b_ju_charAt 2 (some .char) :: gt) rm_ju_charAt [.ref (cA (200 + a0)), .int a1] w (some (.int r)) w' rm_ju_charAt.cells rm_ju_charAt.slots := by
  cases h
theorem cv_js_492 {p : Program} {l : Launch} {e : Env} {R : Room} {s : State} {m : MethodId} {args : Array Value} {below : List Frame} {meth : Method} {c : Code} {H : Heap} {locs : List Loc} {cells slots : Nat} {Q : State → Prop} {D : va_G} {cA : Nat → ClassId} {base : Nat} {w w' : WW} {cc : ByteArray} {pc nL : Nat} {ls : Array Slot} {rest st0 As : List Value} {ov : Option Value} {b : Nat} (hx : p.tables.exec = Jvm.exec) (hb : c.code = cc) (hml : c.maxLocals = nL) (hown : s.vm.findClass Rc_js = some m.cls) (hts : ∀ w ∈ gt, w.before args s = true) (hK : va_K D cls (wo_tys cA) s) (hG : wo_G cA base s) (hW : wo_S D cls cA base s w H locs) (hM : mt l D cls (wo_tys cA) cA base y_js_isLatin1 (Cond.code y_js_isLatin1 b_js_isLatin1 1 (some .boolean) :: gt) rm_js_isLatin1 (.ref (cA (100 + b)) :: As) w ov w' rm_js_isLatin1.cells rm_js_isLatin1.slots) (hkb : b < 6) (hR : rm_js_isLatin1.frames + 1 ≤ R.frames ∧ 8 + (1 + 11) + rm_js_isLatin1.locals ≤ R.locals) (hf : cells + rm_js_isLatin1.cells ≤ R.cells ∧ slots + rm_js_isLatin1.slots ≤ R.slots) (hn : As.length = 0) (hsz : ls.size = nL) (hst : st0 = As.reverse ++ .ref (cA (100 + b)) :: rest) (hcat : (rest.map fun v => v.category).sum ≤ 8) (hdg : decode cc pc = .ok (.invokevirtual 492, 3)) (kk : ∀ (H1 : Heap) (locs1 : List Loc), wo_S D cls cA base s w' H1 locs1 → W p l e R s m args below meth c H1 locs1 (cells + rm_js_isLatin1.cells) (slots + rm_js_isLatin1.slots) Q (F0 m (pc + 3) ls (ov.toList ++ rest))) : W p l e R s m args below meth c H locs cells slots Q (F0 m pc ls st0) :=
  wo_callVS hx hb hml hown hts hK hG hW hM hkb (gt_of (i := 539) (by decide +kernel) (by decide +kernel)) (gt_of (i := 540) (by decide +kernel) (by decide +kernel)) (gt_of (i := 541) (by decide +kernel) (by decide +kernel)) (gt_of (i := 16) (by decide +kernel) (by decide +kernel)) (gt_of (i := 542) (by decide +kernel) (by decide +kernel)) (by decide +kernel) hR hf hn hsz hst hcat hdg kk
theorem cs_js_495 {p : Program} {l : Launch} {e : Env} {R : Room} {s : State} {m : MethodId} {args : Array Value} {below : List Frame} {meth : Method} {c : Code} {H : Heap} {locs : List Loc} {cells slots : Nat} {Q : State → Prop} {D : va_G} {cA : Nat → ClassId} {base : Nat} {w w' : WW} {cc : ByteArray} {pc nL : Nat} {ls : Array Slot} {rest st0 As : List Value} {ov : Option Value} (hx : p.tables.exec = Jvm.exec) (hb : c.code = cc) (hml : c.maxLocals = nL) (hown : s.vm.findClass Rc_js = some m.cls) (hts : ∀ w ∈ gt, w.before args s = true) (hK : va_K D cls (wo_tys cA) s) (hG : wo_G cA base s) (hW : wo_S D cls cA base s w H locs) (hM : mt l D cls (wo_tys cA) cA base y_jl_charAt (Cond.code y_jl_charAt b_jl_charAt 2 (some .char) :: gt) rm_jl_charAt (As) w ov w' rm_jl_charAt.cells rm_jl_charAt.slots) (hR : rm_jl_charAt.frames + 1 ≤ R.frames ∧ 8 + (2 + 11) + rm_jl_charAt.locals ≤ R.locals) (hf : cells + rm_jl_charAt.cells ≤ R.cells ∧ slots + rm_jl_charAt.slots ≤ R.slots) (hn : As.length = 2) (hsz : ls.size = nL) (hst : st0 = As.reverse ++ rest) (hcat : (rest.map fun v => v.category).sum ≤ 8) (hdg : decode cc pc = .ok (.invokestatic 495, 3)) (kk : ∀ (H1 : Heap) (locs1 : List Loc), wo_S D cls cA base s w' H1 locs1 → W p l e R s m args below meth c H1 locs1 (cells + rm_jl_charAt.cells) (slots + rm_jl_charAt.slots) Q (F0 m (pc + 3) ls (ov.toList ++ rest))) : W p l e R s m args below meth c H locs cells slots Q (F0 m pc ls st0) :=
  wo_callS hx hb hml hown hts hK hG hW hM (gt_of (i := 543) (by decide +kernel) (by decide +kernel)) (gt_of (i := 544) (by decide +kernel) (by decide +kernel)) (gt_of (i := 17) (by decide +kernel) (by decide +kernel)) (gt_of (i := 545) (by decide +kernel) (by decide +kernel)) (by decide +kernel) hR hf hn hsz hst hcat hdg kk
theorem cs_js_498 {p : Program} {l : Launch} {e : Env} {R : Room} {s : State} {m : MethodId} {args : Array Value} {below : List Frame} {meth : Method} {c : Code} {H : Heap} {locs : List Loc} {cells slots : Nat} {Q : State → Prop} {D : va_G} {cA : Nat → ClassId} {base : Nat} {w w' : WW} {cc : ByteArray} {pc nL : Nat} {ls : Array Slot} {rest st0 As : List Value} {ov : Option Value} (hx : p.tables.exec = Jvm.exec) (hb : c.code = cc) (hml : c.maxLocals = nL) (hown : s.vm.findClass Rc_js = some m.cls) (hts : ∀ w ∈ gt, w.before args s = true) (hK : va_K D cls (wo_tys cA) s) (hG : wo_G cA base s) (hW : wo_S D cls cA base s w H locs) (hM : mt l D cls (wo_tys cA) cA base y_ju_charAt (Cond.code y_ju_charAt b_ju_charAt 2 (some .char) :: gt) rm_ju_charAt (As) w ov w' rm_ju_charAt.cells rm_ju_charAt.slots) (hR : rm_ju_charAt.frames + 1 ≤ R.frames ∧ 8 + (2 + 11) + rm_ju_charAt.locals ≤ R.locals) (hf : cells + rm_ju_charAt.cells ≤ R.cells ∧ slots + rm_ju_charAt.slots ≤ R.slots) (hn : As.length = 2) (hsz : ls.size = nL) (hst : st0 = As.reverse ++ rest) (hcat : (rest.map fun v => v.category).sum ≤ 8) (hdg : decode cc pc = .ok (.invokestatic 498, 3)) (kk : ∀ (H1 : Heap) (locs1 : List Loc), wo_S D cls cA base s w' H1 locs1 → W p l e R s m args below meth c H1 locs1 (cells + rm_ju_charAt.cells) (slots + rm_ju_charAt.slots) Q (F0 m (pc + 3) ls (ov.toList ++ rest))) : W p l e R s m args below meth c H locs cells slots Q (F0 m pc ls st0) :=
  wo_callS hx hb hml hown hts hK hG hW hM (gt_of (i := 554) (by decide +kernel) (by decide +kernel)) (gt_of (i := 555) (by decide +kernel) (by decide +kernel)) (gt_of (i := 19) (by decide +kernel) (by decide +kernel)) (gt_of (i := 556) (by decide +kernel) (by decide +kernel)) (by decide +kernel) hR hf hn hsz hst hcat hdg kk
abbrev b_js_charAt : ByteArray := prog_20_method_56_code
def y_js_charAt : MethodName := ⟨"java/lang/String", "charAt", "(I)C"⟩
def rm_js_charAt : Room := { frames := 3, cells := 0, slots := 0, locals := 64 }
theorem d_js_charAt_0 : decode b_js_charAt 0 = .ok (.aload_n 0, 1) := by decide +kernel
theorem d_js_charAt_1 : decode b_js_charAt 1 = .ok (.invokevirtual 492, 3) := by decide +kernel
theorem d_js_charAt_4 : decode b_js_charAt 4 = .ok (.ifCond .eq (12), 3) := by decide +kernel
theorem d_js_charAt_7 : decode b_js_charAt 7 = .ok (.aload_n 0, 1) := by decide +kernel
theorem d_js_charAt_8 : decode b_js_charAt 8 = .ok (.getfield 9, 3) := by decide +kernel
theorem d_js_charAt_11 : decode b_js_charAt 11 = .ok (.iload_n 1, 1) := by decide +kernel
theorem d_js_charAt_12 : decode b_js_charAt 12 = .ok (.invokestatic 495, 3) := by decide +kernel
theorem d_js_charAt_15 : decode b_js_charAt 15 = .ok (.ireturn, 1) := by decide +kernel
theorem d_js_charAt_16 : decode b_js_charAt 16 = .ok (.aload_n 0, 1) := by decide +kernel
theorem d_js_charAt_17 : decode b_js_charAt 17 = .ok (.getfield 9, 3) := by decide +kernel
theorem d_js_charAt_20 : decode b_js_charAt 20 = .ok (.iload_n 1, 1) := by decide +kernel
theorem d_js_charAt_21 : decode b_js_charAt 21 = .ok (.invokestatic 498, 3) := by decide +kernel
theorem d_js_charAt_24 : decode b_js_charAt 24 = .ok (.ireturn, 1) := by decide +kernel
theorem kb_js_charAt {a0 : Nat} {a1 : Int32} {w : WW} {r : (Int32 × WW)} (h : f_js_charAt a0 a1 w = some r) : a0 < 6 := (its h).1
set_option maxHeartbeats 4000000 in
set_option maxRecDepth 100000 in
theorem c_js_charAt (l : Launch) (D : va_G) (cA : Nat → ClassId) (base : Nat) {a0 : Nat} {a1 : Int32} {w w' : WW} {r : Int32} (h : f_js_charAt a0 a1 w = some (r, w')) : mt l D cls (wo_tys cA) cA base y_js_charAt (Cond.code y_js_charAt b_js_charAt 2 (some .char) :: gt) rm_js_charAt [.ref (cA (100 + a0)), .int a1] w (some (.int r)) w' rm_js_charAt.cells rm_js_charAt.slots := by
  refine mt_startF (by decide +kernel) (Nat.le_of_ble_eq_true rfl) ?_
  intro p e s m below meth c ls hx hb hr hml hown hts hlk hnm hK hG hW hl
  have C : cx b_js_charAt (some .char) 2 y_js_charAt.cls "charAt" p s m [.ref (cA (100 + a0)), .int a1].toArray meth c D cA base := ⟨hx, hb, hr, hml, hown, hts, hlk, hnm, hK, hG⟩
  have hl : lv_has ls 2 [(0, .ref (cA (100 + a0))), (1, .int a1)] := hl
  unfold f_js_charAt at h
  replace h := its h
  obtain ⟨-, h⟩ := h
  refine lv_aload_n hx hb d_js_charAt_0 rfl (lv_at hl 0 rfl) ?_
  replace h := bs2 h
  obtain ⟨x2, w1, hw1, h⟩ := h
  refine cv_js_492 (As := []) (rest := []) hx hb hml hown hts hK hG hW (c_js_isLatin1 l D cA base hw1) (kb_js_isLatin1 hw1) ⟨Nat.le_of_ble_eq_true rfl, Nat.le_of_ble_eq_true rfl⟩ ⟨Nat.le_of_ble_eq_true rfl, Nat.le_of_ble_eq_true rfl⟩ rfl hl.1 rfl (Nat.le_of_ble_eq_true rfl) d_js_charAt_1 (fun H locs hW => ?_)
  refine lv_if_eq (tgt := 16) hx hb d_js_charAt_4 (by decide) (fun c3 => ?_) (fun c3 => ?_)
  · rw [if_pos c3] at h
    refine lv_aload_n hx hb d_js_charAt_16 rfl (lv_at hl 0 rfl) ?_
    replace h := its h
    obtain ⟨c4, h⟩ := h
    refine vk_getf (ref := "java/lang/String") hx hb (hG.2.2.2.2.2.2.2.2.1.1 a0 c4).2.2.1 hW.2.1 hown (hts _ (gt_of (i := 1737) (by decide +kernel) (by decide +kernel))) (fun _ h9 => h9) d_js_charAt_17 ?_
    refine lv_iload_n hx hb d_js_charAt_20 rfl (lv_at hl 1 rfl) ?_
    replace h := bs2 h
    obtain ⟨x6, w5, hw5, h⟩ := h
    refine cs_js_498 (As := [.ref (cA (200 + a0)), .int a1]) (rest := []) hx hb hml hown hts hK hG hW (c_ju_charAt l D cA base hw5) ⟨Nat.le_of_ble_eq_true rfl, Nat.le_of_ble_eq_true rfl⟩ ⟨Nat.le_of_ble_eq_true rfl, Nat.le_of_ble_eq_true rfl⟩ rfl hl.1 rfl (Nat.le_of_ble_eq_true rfl) d_js_charAt_21 (fun H locs hW => ?_)
    replace h := its h
    obtain ⟨c7, h⟩ := h
    cases h
    exact wo_nret hx hb hr hlk hW c7 d_js_charAt_24
  · rw [if_neg c3] at h
    refine lv_aload_n hx hb d_js_charAt_7 rfl (lv_at hl 0 rfl) ?_
    replace h := its h
    obtain ⟨c8, h⟩ := h
    refine vk_getf (ref := "java/lang/String") hx hb (hG.2.2.2.2.2.2.2.2.1.1 a0 c8).2.2.1 hW.2.1 hown (hts _ (gt_of (i := 1737) (by decide +kernel) (by decide +kernel))) (fun _ h9 => h9) d_js_charAt_8 ?_
    refine lv_iload_n hx hb d_js_charAt_11 rfl (lv_at hl 1 rfl) ?_
    replace h := bs2 h
    obtain ⟨x10, w9, hw9, h⟩ := h
    refine cs_js_495 (As := [.ref (cA (200 + a0)), .int a1]) (rest := []) hx hb hml hown hts hK hG hW (c_jl_charAt l D cA base hw9) ⟨Nat.le_of_ble_eq_true rfl, Nat.le_of_ble_eq_true rfl⟩ ⟨Nat.le_of_ble_eq_true rfl, Nat.le_of_ble_eq_true rfl⟩ rfl hl.1 rfl (Nat.le_of_ble_eq_true rfl) d_js_charAt_12 (fun H locs hW => ?_)
    replace h := its h
    obtain ⟨c11, h⟩ := h
    cases h
    exact wo_nret hx hb hr hlk hW c11 d_js_charAt_15
theorem cv_rd_78 {p : Program} {l : Launch} {e : Env} {R : Room} {s : State} {m : MethodId} {args : Array Value} {below : List Frame} {meth : Method} {c : Code} {H : Heap} {locs : List Loc} {cells slots : Nat} {Q : State → Prop} {D : va_G} {cA : Nat → ClassId} {base : Nat} {w w' : WW} {cc : ByteArray} {pc nL : Nat} {ls : Array Slot} {rest st0 As : List Value} {ov : Option Value} {b : Nat} (hx : p.tables.exec = Jvm.exec) (hb : c.code = cc) (hml : c.maxLocals = nL) (hown : s.vm.findClass Rc_rd = some m.cls) (hts : ∀ w ∈ gt, w.before args s = true) (hK : va_K D cls (wo_tys cA) s) (hG : wo_G cA base s) (hW : wo_S D cls cA base s w H locs) (hM : mt l D cls (wo_tys cA) cA base y_js_length (Cond.code y_js_length b_js_length 1 (some .int) :: gt) rm_js_length (.ref (cA (100 + b)) :: As) w ov w' rm_js_length.cells rm_js_length.slots) (hkb : b < 6) (hR : rm_js_length.frames + 1 ≤ R.frames ∧ 8 + (1 + 11) + rm_js_length.locals ≤ R.locals) (hf : cells + rm_js_length.cells ≤ R.cells ∧ slots + rm_js_length.slots ≤ R.slots) (hn : As.length = 0) (hsz : ls.size = nL) (hst : st0 = As.reverse ++ .ref (cA (100 + b)) :: rest) (hcat : (rest.map fun v => v.category).sum ≤ 8) (hdg : decode cc pc = .ok (.invokevirtual 78, 3)) (kk : ∀ (H1 : Heap) (locs1 : List Loc), wo_S D cls cA base s w' H1 locs1 → W p l e R s m args below meth c H1 locs1 (cells + rm_js_length.cells) (slots + rm_js_length.slots) Q (F0 m (pc + 3) ls (ov.toList ++ rest))) : W p l e R s m args below meth c H locs cells slots Q (F0 m pc ls st0) :=
  wo_callVS hx hb hml hown hts hK hG hW hM hkb (gt_of (i := 525) (by decide +kernel) (by decide +kernel)) (gt_of (i := 526) (by decide +kernel) (by decide +kernel)) (gt_of (i := 527) (by decide +kernel) (by decide +kernel)) (gt_of (i := 16) (by decide +kernel) (by decide +kernel)) (gt_of (i := 528) (by decide +kernel) (by decide +kernel)) (by decide +kernel) hR hf hn hsz hst hcat hdg kk
theorem cv_rd_82 {p : Program} {l : Launch} {e : Env} {R : Room} {s : State} {m : MethodId} {args : Array Value} {below : List Frame} {meth : Method} {c : Code} {H : Heap} {locs : List Loc} {cells slots : Nat} {Q : State → Prop} {D : va_G} {cA : Nat → ClassId} {base : Nat} {w w' : WW} {cc : ByteArray} {pc nL : Nat} {ls : Array Slot} {rest st0 As : List Value} {ov : Option Value} {b : Nat} (hx : p.tables.exec = Jvm.exec) (hb : c.code = cc) (hml : c.maxLocals = nL) (hown : s.vm.findClass Rc_rd = some m.cls) (hts : ∀ w ∈ gt, w.before args s = true) (hK : va_K D cls (wo_tys cA) s) (hG : wo_G cA base s) (hW : wo_S D cls cA base s w H locs) (hM : mt l D cls (wo_tys cA) cA base y_js_charAt (Cond.code y_js_charAt b_js_charAt 2 (some .char) :: gt) rm_js_charAt (.ref (cA (100 + b)) :: As) w ov w' rm_js_charAt.cells rm_js_charAt.slots) (hkb : b < 6) (hR : rm_js_charAt.frames + 1 ≤ R.frames ∧ 8 + (2 + 11) + rm_js_charAt.locals ≤ R.locals) (hf : cells + rm_js_charAt.cells ≤ R.cells ∧ slots + rm_js_charAt.slots ≤ R.slots) (hn : As.length = 1) (hsz : ls.size = nL) (hst : st0 = As.reverse ++ .ref (cA (100 + b)) :: rest) (hcat : (rest.map fun v => v.category).sum ≤ 8) (hdg : decode cc pc = .ok (.invokevirtual 82, 3)) (kk : ∀ (H1 : Heap) (locs1 : List Loc), wo_S D cls cA base s w' H1 locs1 → W p l e R s m args below meth c H1 locs1 (cells + rm_js_charAt.cells) (slots + rm_js_charAt.slots) Q (F0 m (pc + 3) ls (ov.toList ++ rest))) : W p l e R s m args below meth c H locs cells slots Q (F0 m pc ls st0) :=
  wo_callVS hx hb hml hown hts hK hG hW hM hkb (gt_of (i := 535) (by decide +kernel) (by decide +kernel)) (gt_of (i := 536) (by decide +kernel) (by decide +kernel)) (gt_of (i := 537) (by decide +kernel) (by decide +kernel)) (gt_of (i := 16) (by decide +kernel) (by decide +kernel)) (gt_of (i := 538) (by decide +kernel) (by decide +kernel)) (by decide +kernel) hR hf hn hsz hst hcat hdg kk
abbrev b_rd_isWord : ByteArray := prog_5_method_8_code
def y_rd_isWord : MethodName := ⟨"AlarmForge$Reader", "isWord", "(Ljava/lang/String;)Z"⟩
def rm_rd_isWord : Room := { frames := 4, cells := 0, slots := 0, locals := 85 }
theorem d_rd_isWord_0 : decode b_rd_isWord 0 = .ok (.aload_n 0, 1) := by decide +kernel
theorem d_rd_isWord_1 : decode b_rd_isWord 1 = .ok (.getfield 29, 3) := by decide +kernel
theorem d_rd_isWord_4 : decode b_rd_isWord 4 = .ok (.aload_n 0, 1) := by decide +kernel
theorem d_rd_isWord_5 : decode b_rd_isWord 5 = .ok (.getfield 38, 3) := by decide +kernel
theorem d_rd_isWord_8 : decode b_rd_isWord 8 = .ok (.isub, 1) := by decide +kernel
theorem d_rd_isWord_9 : decode b_rd_isWord 9 = .ok (.aload_n 1, 1) := by decide +kernel
theorem d_rd_isWord_10 : decode b_rd_isWord 10 = .ok (.invokevirtual 78, 3) := by decide +kernel
theorem d_rd_isWord_13 : decode b_rd_isWord 13 = .ok (.if_icmp .eq (5), 3) := by decide +kernel
theorem d_rd_isWord_16 : decode b_rd_isWord 16 = .ok (.iconst 0, 1) := by decide +kernel
theorem d_rd_isWord_17 : decode b_rd_isWord 17 = .ok (.ireturn, 1) := by decide +kernel
theorem d_rd_isWord_18 : decode b_rd_isWord 18 = .ok (.iconst 0, 1) := by decide +kernel
theorem d_rd_isWord_19 : decode b_rd_isWord 19 = .ok (.istore_n 2, 1) := by decide +kernel
theorem d_rd_isWord_20 : decode b_rd_isWord 20 = .ok (.iload_n 2, 1) := by decide +kernel
theorem d_rd_isWord_21 : decode b_rd_isWord 21 = .ok (.aload_n 1, 1) := by decide +kernel
theorem d_rd_isWord_22 : decode b_rd_isWord 22 = .ok (.invokevirtual 78, 3) := by decide +kernel
theorem d_rd_isWord_25 : decode b_rd_isWord 25 = .ok (.if_icmp .ge (30), 3) := by decide +kernel
theorem d_rd_isWord_28 : decode b_rd_isWord 28 = .ok (.aload_n 0, 1) := by decide +kernel
theorem d_rd_isWord_29 : decode b_rd_isWord 29 = .ok (.getfield 9, 3) := by decide +kernel
theorem d_rd_isWord_32 : decode b_rd_isWord 32 = .ok (.aload_n 0, 1) := by decide +kernel
theorem d_rd_isWord_33 : decode b_rd_isWord 33 = .ok (.getfield 38, 3) := by decide +kernel
theorem d_rd_isWord_36 : decode b_rd_isWord 36 = .ok (.iload_n 2, 1) := by decide +kernel
theorem d_rd_isWord_37 : decode b_rd_isWord 37 = .ok (.iadd, 1) := by decide +kernel
theorem d_rd_isWord_38 : decode b_rd_isWord 38 = .ok (.caload, 1) := by decide +kernel
theorem d_rd_isWord_39 : decode b_rd_isWord 39 = .ok (.aload_n 1, 1) := by decide +kernel
theorem d_rd_isWord_40 : decode b_rd_isWord 40 = .ok (.iload_n 2, 1) := by decide +kernel
theorem d_rd_isWord_41 : decode b_rd_isWord 41 = .ok (.invokevirtual 82, 3) := by decide +kernel
theorem d_rd_isWord_44 : decode b_rd_isWord 44 = .ok (.if_icmp .eq (5), 3) := by decide +kernel
theorem d_rd_isWord_47 : decode b_rd_isWord 47 = .ok (.iconst 0, 1) := by decide +kernel
theorem d_rd_isWord_48 : decode b_rd_isWord 48 = .ok (.ireturn, 1) := by decide +kernel
theorem d_rd_isWord_49 : decode b_rd_isWord 49 = .ok (.iinc 2 (1), 3) := by decide +kernel
theorem d_rd_isWord_52 : decode b_rd_isWord 52 = .ok (.goto (-32), 3) := by decide +kernel
theorem d_rd_isWord_55 : decode b_rd_isWord 55 = .ok (.iconst 1, 1) := by decide +kernel
theorem d_rd_isWord_56 : decode b_rd_isWord 56 = .ok (.ireturn, 1) := by decide +kernel
theorem kb_rd_isWord {a0 : Nat} {a1 : Nat} {w : WW} {r : (Int32 × WW)} (h : f_rd_isWord a0 a1 w = some r) : kb w a0 1 = true := (its h).1
set_option maxHeartbeats 4000000 in
set_option maxRecDepth 100000 in
theorem j_rd_isWord_20 {p : Program} {l : Launch} {e : Env} {s : State} {m : MethodId} {args : Array Value} {below : List Frame} {meth : Method} {c : Code} {D : va_G} {cA : Nat → ClassId} {base : Nat} {r : Int32} {w' : WW} (C : cx b_rd_isWord (some .boolean) 3 y_rd_isWord.cls "isWord" p s m args meth c D cA base)   : ∀ n : Nat, ∀ (y0 : Nat) (y1 : Nat) (y2 : Int32) (w : WW), f_rd_isWord_20 n y0 y1 y2 w = some (r, w') → ∀ (H : Heap) (locs : List Loc) (ls : Array Slot), wo_S D cls cA base s w H locs → lv_has ls 3 [(0, .ref (base + y0)), (1, .ref (cA (100 + y1))), (2, .int y2)] → W p l e rm_rd_isWord s m args below meth c H locs 0 0 (MQ below (wo_Q D cls cA base (some (.int r)) w') args s rm_rd_isWord.cells rm_rd_isWord.slots (wo_B base)) (F0 m 20 ls []) := by
  obtain ⟨hx, hb, hr, hml, hown, hts, hlk, hnm, hK, hG⟩ := id C
  intro n
  induction n with
  | zero => intro y0 y1 y2 w h; cases h
  | succ n ih =>
    intro y0 y1 y2 w h H locs ls hW hl
    rw [f_rd_isWord_20] at h
    refine lv_iload_n hx hb d_rd_isWord_20 rfl (lv_at hl 2 rfl) ?_
    refine lv_aload_n hx hb d_rd_isWord_21 rfl (lv_at hl 1 rfl) ?_
    replace h := bs2 h
    obtain ⟨x7, w6, hw6, h⟩ := h
    refine cv_rd_78 (As := []) (rest := [.int y2]) hx hb hml hown hts hK hG hW (c_js_length l D cA base hw6) (kb_js_length hw6) ⟨Nat.le_of_ble_eq_true rfl, Nat.le_of_ble_eq_true rfl⟩ ⟨Nat.le_of_ble_eq_true rfl, Nat.le_of_ble_eq_true rfl⟩ rfl hl.1 rfl (Nat.le_of_ble_eq_true rfl) d_rd_isWord_22 (fun H locs hW => ?_)
    refine lv_icmp_ge (tgt := 55) hx hb d_rd_isWord_25 (by decide) (fun c8 => ?_) (fun c8 => ?_)
    · rw [if_pos c8] at h
      refine lv_iconst (v := (1 : Int32)) hx hb d_rd_isWord_55 (by decide) ?_
      replace h := its h
      obtain ⟨c9, h⟩ := h
      cases h
      exact wo_zret hx hb hr hlk hW c9 d_rd_isWord_56
    · rw [if_neg c8] at h
      refine lv_aload_n hx hb d_rd_isWord_28 rfl (lv_at hl 0 rfl) ?_
      replace h := bs h
      obtain ⟨x10, hx10, h⟩ := h
      refine gf_rd_9 hx hb hts hown hK hG hW (gN_s hx10) d_rd_isWord_29 ?_
      refine lv_aload_n hx hb d_rd_isWord_32 rfl (lv_at hl 0 rfl) ?_
      replace h := bs h
      obtain ⟨x11, hx11, h⟩ := h
      refine gf_rd_38 hx hb hts hown hK hG hW (gI_s hx11) d_rd_isWord_33 ?_
      refine lv_iload_n hx hb d_rd_isWord_36 rfl (lv_at hl 2 rfl) ?_
      refine lv_iadd hx hb d_rd_isWord_37 ?_
      replace h := bs h
      obtain ⟨x12, hx12, h⟩ := h
      refine wo_cald hx hb hK hW (t := 3) rfl hx12 d_rd_isWord_38 ?_
      refine lv_aload_n hx hb d_rd_isWord_39 rfl (lv_at hl 1 rfl) ?_
      refine lv_iload_n hx hb d_rd_isWord_40 rfl (lv_at hl 2 rfl) ?_
      replace h := bs2 h
      obtain ⟨x14, w13, hw13, h⟩ := h
      refine cv_rd_82 (As := [.int y2]) (rest := [.int x12]) hx hb hml hown hts hK hG hW (c_js_charAt l D cA base hw13) (kb_js_charAt hw13) ⟨Nat.le_of_ble_eq_true rfl, Nat.le_of_ble_eq_true rfl⟩ ⟨Nat.le_of_ble_eq_true rfl, Nat.le_of_ble_eq_true rfl⟩ rfl hl.1 rfl (Nat.le_of_ble_eq_true rfl) d_rd_isWord_41 (fun H locs hW => ?_)
      refine lv_icmp_eq (tgt := 49) hx hb d_rd_isWord_44 (by decide) (fun c15 => ?_) (fun c15 => ?_)
      · rw [if_pos c15] at h
        refine lv_iinc (v := (y2 + (1 : Int32))) (lv' := [(2, .int (y2 + (1 : Int32))), (0, .ref (base + y0)), (1, .ref (cA (100 + y1)))]) hx hb d_rd_isWord_49 hl (k := 2) rfl rfl (by decide) rfl (fun ls hl => ?_)
        refine lv_goto (tgt := 20) hx hb d_rd_isWord_52 (by decide) ?_
        exact ih y0 y1 (y2 + (1 : Int32)) w13 h _ _ _ hW (lv_sub hl [1, 2, 0] rfl)
      · rw [if_neg c15] at h
        refine lv_iconst (v := (0 : Int32)) hx hb d_rd_isWord_47 (by decide) ?_
        replace h := its h
        obtain ⟨c16, h⟩ := h
        cases h
        exact wo_zret hx hb hr hlk hW c16 d_rd_isWord_48
set_option maxHeartbeats 4000000 in
set_option maxRecDepth 100000 in
theorem c_rd_isWord (l : Launch) (D : va_G) (cA : Nat → ClassId) (base : Nat) {a0 : Nat} {a1 : Nat} {w w' : WW} {r : Int32} (h : f_rd_isWord a0 a1 w = some (r, w')) : mt l D cls (wo_tys cA) cA base y_rd_isWord (Cond.code y_rd_isWord b_rd_isWord 3 (some .boolean) :: gt) rm_rd_isWord [.ref (base + a0), .ref (cA (100 + a1))] w (some (.int r)) w' rm_rd_isWord.cells rm_rd_isWord.slots := by
  refine mt_start (by decide) (Nat.le_of_ble_eq_true rfl) ?_
  intro p e s m below meth c ls hx hb hr hml hown hts hlk hnm hK hG hW hl
  have C : cx b_rd_isWord (some .boolean) 3 y_rd_isWord.cls "isWord" p s m [.ref (base + a0), .ref (cA (100 + a1))].toArray meth c D cA base := ⟨hx, hb, hr, hml, hown, hts, hlk, hnm, hK, hG⟩
  have hl : lv_has ls 3 [(0, .ref (base + a0)), (1, .ref (cA (100 + a1)))] := hl
  unfold f_rd_isWord at h
  replace h := its h
  obtain ⟨-, h⟩ := h
  refine lv_aload_n hx hb d_rd_isWord_0 rfl (lv_at hl 0 rfl) ?_
  replace h := bs h
  obtain ⟨x1, hx1, h⟩ := h
  refine gf_rd_29 hx hb hts hown hK hG hW (gI_s hx1) d_rd_isWord_1 ?_
  refine lv_aload_n hx hb d_rd_isWord_4 rfl (lv_at hl 0 rfl) ?_
  replace h := bs h
  obtain ⟨x2, hx2, h⟩ := h
  refine gf_rd_38 hx hb hts hown hK hG hW (gI_s hx2) d_rd_isWord_5 ?_
  refine lv_isub hx hb d_rd_isWord_8 ?_
  refine lv_aload_n hx hb d_rd_isWord_9 rfl (lv_at hl 1 rfl) ?_
  replace h := bs2 h
  obtain ⟨x4, w3, hw3, h⟩ := h
  refine cv_rd_78 (As := []) (rest := [.int (x1 - x2)]) hx hb hml hown hts hK hG hW (c_js_length l D cA base hw3) (kb_js_length hw3) ⟨Nat.le_of_ble_eq_true rfl, Nat.le_of_ble_eq_true rfl⟩ ⟨Nat.le_of_ble_eq_true rfl, Nat.le_of_ble_eq_true rfl⟩ rfl hl.1 rfl (Nat.le_of_ble_eq_true rfl) d_rd_isWord_10 (fun H locs hW => ?_)
  refine lv_icmp_eq (tgt := 18) hx hb d_rd_isWord_13 (by decide) (fun c5 => ?_) (fun c5 => ?_)
  · rw [if_pos c5] at h
    refine lv_iconst (v := (0 : Int32)) hx hb d_rd_isWord_18 (by decide) ?_
    refine lv_istore_n (lv' := [(2, .int (0 : Int32)), (0, .ref (base + a0)), (1, .ref (cA (100 + a1)))]) hx hb d_rd_isWord_19 rfl hl (by decide) rfl (fun ls hl => ?_)
    exact j_rd_isWord_20 C KK a0 a1 (0 : Int32) w3 h _ _ _ hW (lv_sub hl [1, 2, 0] rfl)
  · rw [if_neg c5] at h
    refine lv_iconst (v := (0 : Int32)) hx hb d_rd_isWord_16 (by decide) ?_
    replace h := its h
    obtain ⟨c17, h⟩ := h
    cases h
    exact wo_zret hx hb hr hlk hW c17 d_rd_isWord_17
theorem cv_rd_66 {p : Program} {l : Launch} {e : Env} {R : Room} {s : State} {m : MethodId} {args : Array Value} {below : List Frame} {meth : Method} {c : Code} {H : Heap} {locs : List Loc} {cells slots : Nat} {Q : State → Prop} {D : va_G} {cA : Nat → ClassId} {base : Nat} {w w' : WW} {cc : ByteArray} {pc nL : Nat} {ls : Array Slot} {rest st0 As : List Value} {ov : Option Value} {b : Nat} (hx : p.tables.exec = Jvm.exec) (hb : c.code = cc) (hml : c.maxLocals = nL) (hown : s.vm.findClass Rc_rd = some m.cls) (hts : ∀ w ∈ gt, w.before args s = true) (hK : va_K D cls (wo_tys cA) s) (hG : wo_G cA base s) (hW : wo_S D cls cA base s w H locs) (hM : mt l D cls (wo_tys cA) cA base y_rd_isWord (Cond.code y_rd_isWord b_rd_isWord 3 (some .boolean) :: gt) rm_rd_isWord (.ref (base + b) :: As) w ov w' rm_rd_isWord.cells rm_rd_isWord.slots) (hkb : kb w b 1 = true) (hR : rm_rd_isWord.frames + 1 ≤ R.frames ∧ 8 + (3 + 11) + rm_rd_isWord.locals ≤ R.locals) (hf : cells + rm_rd_isWord.cells ≤ R.cells ∧ slots + rm_rd_isWord.slots ≤ R.slots) (hn : As.length = 1) (hsz : ls.size = nL) (hst : st0 = As.reverse ++ .ref (base + b) :: rest) (hcat : (rest.map fun v => v.category).sum ≤ 8) (hdg : decode cc pc = .ok (.invokevirtual 66, 3)) (kk : ∀ (H1 : Heap) (locs1 : List Loc), wo_S D cls cA base s w' H1 locs1 → W p l e R s m args below meth c H1 locs1 (cells + rm_rd_isWord.cells) (slots + rm_rd_isWord.slots) Q (F0 m (pc + 3) ls (ov.toList ++ rest))) : W p l e R s m args below meth c H locs cells slots Q (F0 m pc ls st0) :=
  wo_callV (C := Rc_rd) hx hb hml hown hts hK hG hW hM hkb rfl (gt_of (i := 521) (by decide +kernel) (by decide +kernel)) (gt_of (i := 523) (by decide +kernel) (by decide +kernel)) (gt_sel (i := 5) (by decide +kernel) (by decide +kernel)) (gt_of (i := 3) (by decide +kernel) (by decide +kernel)) (gt_of (i := 524) (by decide +kernel) (by decide +kernel)) (by decide +kernel) hR hf hn hsz hst hcat hdg kk
abbrev b_rd_kindOfWord : ByteArray := prog_5_method_7_code
def y_rd_kindOfWord : MethodName := ⟨"AlarmForge$Reader", "kindOfWord", "()I"⟩
def rm_rd_kindOfWord : Room := { frames := 5, cells := 0, slots := 0, locals := 107 }
theorem d_rd_kindOfWord_0 : decode b_rd_kindOfWord 0 = .ok (.aload_n 0, 1) := by decide +kernel
theorem d_rd_kindOfWord_1 : decode b_rd_kindOfWord 1 = .ok (.ldc 64, 2) := by decide +kernel
theorem d_rd_kindOfWord_3 : decode b_rd_kindOfWord 3 = .ok (.invokevirtual 66, 3) := by decide +kernel
theorem d_rd_kindOfWord_6 : decode b_rd_kindOfWord 6 = .ok (.ifCond .eq (5), 3) := by decide +kernel
theorem d_rd_kindOfWord_9 : decode b_rd_kindOfWord 9 = .ok (.iconst 4, 1) := by decide +kernel
theorem d_rd_kindOfWord_10 : decode b_rd_kindOfWord 10 = .ok (.ireturn, 1) := by decide +kernel
theorem d_rd_kindOfWord_11 : decode b_rd_kindOfWord 11 = .ok (.aload_n 0, 1) := by decide +kernel
theorem d_rd_kindOfWord_12 : decode b_rd_kindOfWord 12 = .ok (.ldc 70, 2) := by decide +kernel
theorem d_rd_kindOfWord_14 : decode b_rd_kindOfWord 14 = .ok (.invokevirtual 66, 3) := by decide +kernel
theorem d_rd_kindOfWord_17 : decode b_rd_kindOfWord 17 = .ok (.ifCond .eq (5), 3) := by decide +kernel
theorem d_rd_kindOfWord_20 : decode b_rd_kindOfWord 20 = .ok (.iconst 5, 1) := by decide +kernel
theorem d_rd_kindOfWord_21 : decode b_rd_kindOfWord 21 = .ok (.ireturn, 1) := by decide +kernel
theorem d_rd_kindOfWord_22 : decode b_rd_kindOfWord 22 = .ok (.aload_n 0, 1) := by decide +kernel
theorem d_rd_kindOfWord_23 : decode b_rd_kindOfWord 23 = .ok (.ldc 72, 2) := by decide +kernel
theorem d_rd_kindOfWord_25 : decode b_rd_kindOfWord 25 = .ok (.invokevirtual 66, 3) := by decide +kernel
theorem d_rd_kindOfWord_28 : decode b_rd_kindOfWord 28 = .ok (.ifCond .eq (6), 3) := by decide +kernel
theorem d_rd_kindOfWord_31 : decode b_rd_kindOfWord 31 = .ok (.bipush (6), 2) := by decide +kernel
theorem d_rd_kindOfWord_33 : decode b_rd_kindOfWord 33 = .ok (.ireturn, 1) := by decide +kernel
theorem d_rd_kindOfWord_34 : decode b_rd_kindOfWord 34 = .ok (.aload_n 0, 1) := by decide +kernel
theorem d_rd_kindOfWord_35 : decode b_rd_kindOfWord 35 = .ok (.ldc 74, 2) := by decide +kernel
theorem d_rd_kindOfWord_37 : decode b_rd_kindOfWord 37 = .ok (.invokevirtual 66, 3) := by decide +kernel
theorem d_rd_kindOfWord_40 : decode b_rd_kindOfWord 40 = .ok (.ifCond .eq (6), 3) := by decide +kernel
theorem d_rd_kindOfWord_43 : decode b_rd_kindOfWord 43 = .ok (.bipush (7), 2) := by decide +kernel
theorem d_rd_kindOfWord_45 : decode b_rd_kindOfWord 45 = .ok (.ireturn, 1) := by decide +kernel
theorem d_rd_kindOfWord_46 : decode b_rd_kindOfWord 46 = .ok (.aload_n 0, 1) := by decide +kernel
theorem d_rd_kindOfWord_47 : decode b_rd_kindOfWord 47 = .ok (.ldc 76, 2) := by decide +kernel
theorem d_rd_kindOfWord_49 : decode b_rd_kindOfWord 49 = .ok (.invokevirtual 66, 3) := by decide +kernel
theorem d_rd_kindOfWord_52 : decode b_rd_kindOfWord 52 = .ok (.ifCond .eq (8), 3) := by decide +kernel
theorem d_rd_kindOfWord_55 : decode b_rd_kindOfWord 55 = .ok (.bipush (8), 2) := by decide +kernel
theorem d_rd_kindOfWord_57 : decode b_rd_kindOfWord 57 = .ok (.goto (4), 3) := by decide +kernel
theorem d_rd_kindOfWord_60 : decode b_rd_kindOfWord 60 = .ok (.iconst (-1), 1) := by decide +kernel
theorem d_rd_kindOfWord_61 : decode b_rd_kindOfWord 61 = .ok (.ireturn, 1) := by decide +kernel
theorem kb_rd_kindOfWord {a0 : Nat}  {w : WW} {r : (Int32 × WW)} (h : f_rd_kindOfWord a0 w = some r) : kb w a0 1 = true := (its h).1
set_option maxHeartbeats 4000000 in
set_option maxRecDepth 100000 in
theorem j_rd_kindOfWord_61 {p : Program} {l : Launch} {e : Env} {s : State} {m : MethodId} {args : Array Value} {below : List Frame} {meth : Method} {c : Code} {D : va_G} {cA : Nat → ClassId} {base : Nat} {r : Int32} {w' : WW} (C : cx b_rd_kindOfWord (some .int) 1 y_rd_kindOfWord.cls "kindOfWord" p s m args meth c D cA base)   : ∀ (z0 : Int32) (w : WW), f_rd_kindOfWord_61 z0 w = some (r, w') → ∀ (H : Heap) (locs : List Loc) (ls : Array Slot), wo_S D cls cA base s w H locs → lv_has ls 1 [] → W p l e rm_rd_kindOfWord s m args below meth c H locs 0 0 (MQ below (wo_Q D cls cA base (some (.int r)) w') args s rm_rd_kindOfWord.cells rm_rd_kindOfWord.slots (wo_B base)) (F0 m 61 ls [.int z0]) := by
  obtain ⟨hx, hb, hr, hml, hown, hts, hlk, hnm, hK, hG⟩ := id C
  intro z0 w h H locs ls hW hl
  unfold f_rd_kindOfWord_61 at h
  cases h
  exact wo_iret hx hb hr hlk hW d_rd_kindOfWord_61
set_option maxHeartbeats 4000000 in
set_option maxRecDepth 100000 in
theorem c_rd_kindOfWord (l : Launch) (D : va_G) (cA : Nat → ClassId) (base : Nat) {a0 : Nat} {w w' : WW} {r : Int32} (h : f_rd_kindOfWord a0 w = some (r, w')) : mt l D cls (wo_tys cA) cA base y_rd_kindOfWord (Cond.code y_rd_kindOfWord b_rd_kindOfWord 1 (some .int) :: gt) rm_rd_kindOfWord [.ref (base + a0)] w (some (.int r)) w' rm_rd_kindOfWord.cells rm_rd_kindOfWord.slots := by
  refine mt_start (by decide) (Nat.le_of_ble_eq_true rfl) ?_
  intro p e s m below meth c ls hx hb hr hml hown hts hlk hnm hK hG hW hl
  have C : cx b_rd_kindOfWord (some .int) 1 y_rd_kindOfWord.cls "kindOfWord" p s m [.ref (base + a0)].toArray meth c D cA base := ⟨hx, hb, hr, hml, hown, hts, hlk, hnm, hK, hG⟩
  have hl : lv_has ls 1 [(0, .ref (base + a0))] := hl
  unfold f_rd_kindOfWord at h
  replace h := its h
  obtain ⟨-, h⟩ := h
  refine lv_aload_n hx hb d_rd_kindOfWord_0 rfl (lv_at hl 0 rfl) ?_
  refine va_ldcS (index := 64) (tx := sTx.getD 0 "") (q := cA (100 + 0)) hx hb hown (hG.2.2.2.2.2.2.2.2.2.1 0 (by decide)) d_rd_kindOfWord_1 ?_
  replace h := bs2 h
  obtain ⟨x2, w1, hw1, h⟩ := h
  refine cv_rd_66 (As := [.ref (cA (100 + 0))]) (rest := []) hx hb hml hown hts hK hG hW (c_rd_isWord l D cA base hw1) (kb_rd_isWord hw1) ⟨Nat.le_of_ble_eq_true rfl, Nat.le_of_ble_eq_true rfl⟩ ⟨Nat.le_of_ble_eq_true rfl, Nat.le_of_ble_eq_true rfl⟩ rfl hl.1 rfl (Nat.le_of_ble_eq_true rfl) d_rd_kindOfWord_3 (fun H locs hW => ?_)
  refine lv_if_eq (tgt := 11) hx hb d_rd_kindOfWord_6 (by decide) (fun c3 => ?_) (fun c3 => ?_)
  · rw [if_pos c3] at h
    refine lv_aload_n hx hb d_rd_kindOfWord_11 rfl (lv_at hl 0 rfl) ?_
    refine va_ldcS (index := 70) (tx := sTx.getD 1 "") (q := cA (100 + 1)) hx hb hown (hG.2.2.2.2.2.2.2.2.2.1 1 (by decide)) d_rd_kindOfWord_12 ?_
    replace h := bs2 h
    obtain ⟨x5, w4, hw4, h⟩ := h
    refine cv_rd_66 (As := [.ref (cA (100 + 1))]) (rest := []) hx hb hml hown hts hK hG hW (c_rd_isWord l D cA base hw4) (kb_rd_isWord hw4) ⟨Nat.le_of_ble_eq_true rfl, Nat.le_of_ble_eq_true rfl⟩ ⟨Nat.le_of_ble_eq_true rfl, Nat.le_of_ble_eq_true rfl⟩ rfl hl.1 rfl (Nat.le_of_ble_eq_true rfl) d_rd_kindOfWord_14 (fun H locs hW => ?_)
    refine lv_if_eq (tgt := 22) hx hb d_rd_kindOfWord_17 (by decide) (fun c6 => ?_) (fun c6 => ?_)
    · rw [if_pos c6] at h
      refine lv_aload_n hx hb d_rd_kindOfWord_22 rfl (lv_at hl 0 rfl) ?_
      refine va_ldcS (index := 72) (tx := sTx.getD 2 "") (q := cA (100 + 2)) hx hb hown (hG.2.2.2.2.2.2.2.2.2.1 2 (by decide)) d_rd_kindOfWord_23 ?_
      replace h := bs2 h
      obtain ⟨x8, w7, hw7, h⟩ := h
      refine cv_rd_66 (As := [.ref (cA (100 + 2))]) (rest := []) hx hb hml hown hts hK hG hW (c_rd_isWord l D cA base hw7) (kb_rd_isWord hw7) ⟨Nat.le_of_ble_eq_true rfl, Nat.le_of_ble_eq_true rfl⟩ ⟨Nat.le_of_ble_eq_true rfl, Nat.le_of_ble_eq_true rfl⟩ rfl hl.1 rfl (Nat.le_of_ble_eq_true rfl) d_rd_kindOfWord_25 (fun H locs hW => ?_)
      refine lv_if_eq (tgt := 34) hx hb d_rd_kindOfWord_28 (by decide) (fun c9 => ?_) (fun c9 => ?_)
      · rw [if_pos c9] at h
        refine lv_aload_n hx hb d_rd_kindOfWord_34 rfl (lv_at hl 0 rfl) ?_
        refine va_ldcS (index := 74) (tx := sTx.getD 3 "") (q := cA (100 + 3)) hx hb hown (hG.2.2.2.2.2.2.2.2.2.1 3 (by decide)) d_rd_kindOfWord_35 ?_
        replace h := bs2 h
        obtain ⟨x11, w10, hw10, h⟩ := h
        refine cv_rd_66 (As := [.ref (cA (100 + 3))]) (rest := []) hx hb hml hown hts hK hG hW (c_rd_isWord l D cA base hw10) (kb_rd_isWord hw10) ⟨Nat.le_of_ble_eq_true rfl, Nat.le_of_ble_eq_true rfl⟩ ⟨Nat.le_of_ble_eq_true rfl, Nat.le_of_ble_eq_true rfl⟩ rfl hl.1 rfl (Nat.le_of_ble_eq_true rfl) d_rd_kindOfWord_37 (fun H locs hW => ?_)
        refine lv_if_eq (tgt := 46) hx hb d_rd_kindOfWord_40 (by decide) (fun c12 => ?_) (fun c12 => ?_)
        · rw [if_pos c12] at h
          refine lv_aload_n hx hb d_rd_kindOfWord_46 rfl (lv_at hl 0 rfl) ?_
          refine va_ldcS (index := 76) (tx := sTx.getD 4 "") (q := cA (100 + 4)) hx hb hown (hG.2.2.2.2.2.2.2.2.2.1 4 (by decide)) d_rd_kindOfWord_47 ?_
          replace h := bs2 h
          obtain ⟨x14, w13, hw13, h⟩ := h
          refine cv_rd_66 (As := [.ref (cA (100 + 4))]) (rest := []) hx hb hml hown hts hK hG hW (c_rd_isWord l D cA base hw13) (kb_rd_isWord hw13) ⟨Nat.le_of_ble_eq_true rfl, Nat.le_of_ble_eq_true rfl⟩ ⟨Nat.le_of_ble_eq_true rfl, Nat.le_of_ble_eq_true rfl⟩ rfl hl.1 rfl (Nat.le_of_ble_eq_true rfl) d_rd_kindOfWord_49 (fun H locs hW => ?_)
          refine lv_if_eq (tgt := 60) hx hb d_rd_kindOfWord_52 (by decide) (fun c15 => ?_) (fun c15 => ?_)
          · rw [if_pos c15] at h
            refine lv_iconst (v := (-1 : Int32)) hx hb d_rd_kindOfWord_60 (by decide) ?_
            exact j_rd_kindOfWord_61 C (-1 : Int32) w13 h _ _ _ hW (lv_sub hl [] rfl)
          · rw [if_neg c15] at h
            refine lv_bipush (v := (8 : Int32)) hx hb d_rd_kindOfWord_55 (by decide) ?_
            refine lv_goto (tgt := 61) hx hb d_rd_kindOfWord_57 (by decide) ?_
            exact j_rd_kindOfWord_61 C (8 : Int32) w13 h _ _ _ hW (lv_sub hl [] rfl)
        · rw [if_neg c12] at h
          refine lv_bipush (v := (7 : Int32)) hx hb d_rd_kindOfWord_43 (by decide) ?_
          cases h
          exact wo_iret hx hb hr hlk hW d_rd_kindOfWord_45
      · rw [if_neg c9] at h
        refine lv_bipush (v := (6 : Int32)) hx hb d_rd_kindOfWord_31 (by decide) ?_
        cases h
        exact wo_iret hx hb hr hlk hW d_rd_kindOfWord_33
    · rw [if_neg c6] at h
      refine lv_iconst (v := (5 : Int32)) hx hb d_rd_kindOfWord_20 (by decide) ?_
      cases h
      exact wo_iret hx hb hr hlk hW d_rd_kindOfWord_21
  · rw [if_neg c3] at h
    refine lv_iconst (v := (4 : Int32)) hx hb d_rd_kindOfWord_9 (by decide) ?_
    cases h
    exact wo_iret hx hb hr hlk hW d_rd_kindOfWord_10
theorem cs_rd_51 {p : Program} {l : Launch} {e : Env} {R : Room} {s : State} {m : MethodId} {args : Array Value} {below : List Frame} {meth : Method} {c : Code} {H : Heap} {locs : List Loc} {cells slots : Nat} {Q : State → Prop} {D : va_G} {cA : Nat → ClassId} {base : Nat} {w w' : WW} {cc : ByteArray} {pc nL : Nat} {ls : Array Slot} {rest st0 As : List Value} {ov : Option Value} (hx : p.tables.exec = Jvm.exec) (hb : c.code = cc) (hml : c.maxLocals = nL) (hown : s.vm.findClass Rc_rd = some m.cls) (hts : ∀ w ∈ gt, w.before args s = true) (hK : va_K D cls (wo_tys cA) s) (hG : wo_G cA base s) (hW : wo_S D cls cA base s w H locs) (hM : mt l D cls (wo_tys cA) cA base y_rd_isLetter (Cond.code y_rd_isLetter b_rd_isLetter 1 (some .boolean) :: gt) rm_rd_isLetter (As) w ov w' rm_rd_isLetter.cells rm_rd_isLetter.slots) (hR : rm_rd_isLetter.frames + 1 ≤ R.frames ∧ 8 + (1 + 11) + rm_rd_isLetter.locals ≤ R.locals) (hf : cells + rm_rd_isLetter.cells ≤ R.cells ∧ slots + rm_rd_isLetter.slots ≤ R.slots) (hn : As.length = 1) (hsz : ls.size = nL) (hst : st0 = As.reverse ++ rest) (hcat : (rest.map fun v => v.category).sum ≤ 8) (hdg : decode cc pc = .ok (.invokestatic 51, 3)) (kk : ∀ (H1 : Heap) (locs1 : List Loc), wo_S D cls cA base s w' H1 locs1 → W p l e R s m args below meth c H1 locs1 (cells + rm_rd_isLetter.cells) (slots + rm_rd_isLetter.slots) Q (F0 m (pc + 3) ls (ov.toList ++ rest))) : W p l e R s m args below meth c H locs cells slots Q (F0 m pc ls st0) :=
  wo_callS hx hb hml hown hts hK hG hW hM (gt_of (i := 509) (by decide +kernel) (by decide +kernel)) (gt_of (i := 510) (by decide +kernel) (by decide +kernel)) (gt_of (i := 3) (by decide +kernel) (by decide +kernel)) (gt_of (i := 511) (by decide +kernel) (by decide +kernel)) (by decide +kernel) hR hf hn hsz hst hcat hdg kk
theorem cv_rd_60 {p : Program} {l : Launch} {e : Env} {R : Room} {s : State} {m : MethodId} {args : Array Value} {below : List Frame} {meth : Method} {c : Code} {H : Heap} {locs : List Loc} {cells slots : Nat} {Q : State → Prop} {D : va_G} {cA : Nat → ClassId} {base : Nat} {w w' : WW} {cc : ByteArray} {pc nL : Nat} {ls : Array Slot} {rest st0 As : List Value} {ov : Option Value} {b : Nat} (hx : p.tables.exec = Jvm.exec) (hb : c.code = cc) (hml : c.maxLocals = nL) (hown : s.vm.findClass Rc_rd = some m.cls) (hts : ∀ w ∈ gt, w.before args s = true) (hK : va_K D cls (wo_tys cA) s) (hG : wo_G cA base s) (hW : wo_S D cls cA base s w H locs) (hM : mt l D cls (wo_tys cA) cA base y_rd_kindOfWord (Cond.code y_rd_kindOfWord b_rd_kindOfWord 1 (some .int) :: gt) rm_rd_kindOfWord (.ref (base + b) :: As) w ov w' rm_rd_kindOfWord.cells rm_rd_kindOfWord.slots) (hkb : kb w b 1 = true) (hR : rm_rd_kindOfWord.frames + 1 ≤ R.frames ∧ 8 + (1 + 11) + rm_rd_kindOfWord.locals ≤ R.locals) (hf : cells + rm_rd_kindOfWord.cells ≤ R.cells ∧ slots + rm_rd_kindOfWord.slots ≤ R.slots) (hn : As.length = 0) (hsz : ls.size = nL) (hst : st0 = As.reverse ++ .ref (base + b) :: rest) (hcat : (rest.map fun v => v.category).sum ≤ 8) (hdg : decode cc pc = .ok (.invokevirtual 60, 3)) (kk : ∀ (H1 : Heap) (locs1 : List Loc), wo_S D cls cA base s w' H1 locs1 → W p l e R s m args below meth c H1 locs1 (cells + rm_rd_kindOfWord.cells) (slots + rm_rd_kindOfWord.slots) Q (F0 m (pc + 3) ls (ov.toList ++ rest))) : W p l e R s m args below meth c H locs cells slots Q (F0 m pc ls st0) :=
  wo_callV (C := Rc_rd) hx hb hml hown hts hK hG hW hM hkb rfl (gt_of (i := 516) (by decide +kernel) (by decide +kernel)) (gt_of (i := 518) (by decide +kernel) (by decide +kernel)) (gt_sel (i := 4) (by decide +kernel) (by decide +kernel)) (gt_of (i := 3) (by decide +kernel) (by decide +kernel)) (gt_of (i := 519) (by decide +kernel) (by decide +kernel)) (by decide +kernel) hR hf hn hsz hst hcat hdg kk
abbrev b_rd_readWord : ByteArray := prog_5_method_6_code
def y_rd_readWord : MethodName := ⟨"AlarmForge$Reader", "readWord", "()V"⟩
def rm_rd_readWord : Room := { frames := 6, cells := 0, slots := 0, locals := 127 }
theorem d_rd_readWord_0 : decode b_rd_readWord 0 = .ok (.aload_n 0, 1) := by decide +kernel
theorem d_rd_readWord_1 : decode b_rd_readWord 1 = .ok (.getfield 29, 3) := by decide +kernel
theorem d_rd_readWord_4 : decode b_rd_readWord 4 = .ok (.aload_n 0, 1) := by decide +kernel
theorem d_rd_readWord_5 : decode b_rd_readWord 5 = .ok (.getfield 25, 3) := by decide +kernel
theorem d_rd_readWord_8 : decode b_rd_readWord 8 = .ok (.if_icmp .ge (31), 3) := by decide +kernel
theorem d_rd_readWord_11 : decode b_rd_readWord 11 = .ok (.aload_n 0, 1) := by decide +kernel
theorem d_rd_readWord_12 : decode b_rd_readWord 12 = .ok (.getfield 9, 3) := by decide +kernel
theorem d_rd_readWord_15 : decode b_rd_readWord 15 = .ok (.aload_n 0, 1) := by decide +kernel
theorem d_rd_readWord_16 : decode b_rd_readWord 16 = .ok (.getfield 29, 3) := by decide +kernel
theorem d_rd_readWord_19 : decode b_rd_readWord 19 = .ok (.caload, 1) := by decide +kernel
theorem d_rd_readWord_20 : decode b_rd_readWord 20 = .ok (.invokestatic 51, 3) := by decide +kernel
theorem d_rd_readWord_23 : decode b_rd_readWord 23 = .ok (.ifCond .eq (16), 3) := by decide +kernel
theorem d_rd_readWord_26 : decode b_rd_readWord 26 = .ok (.aload_n 0, 1) := by decide +kernel
theorem d_rd_readWord_27 : decode b_rd_readWord 27 = .ok (.dup, 1) := by decide +kernel
theorem d_rd_readWord_28 : decode b_rd_readWord 28 = .ok (.getfield 29, 3) := by decide +kernel
theorem d_rd_readWord_31 : decode b_rd_readWord 31 = .ok (.iconst 1, 1) := by decide +kernel
theorem d_rd_readWord_32 : decode b_rd_readWord 32 = .ok (.iadd, 1) := by decide +kernel
theorem d_rd_readWord_33 : decode b_rd_readWord 33 = .ok (.putfield 29, 3) := by decide +kernel
theorem d_rd_readWord_36 : decode b_rd_readWord 36 = .ok (.goto (-36), 3) := by decide +kernel
theorem d_rd_readWord_39 : decode b_rd_readWord 39 = .ok (.aload_n 0, 1) := by decide +kernel
theorem d_rd_readWord_40 : decode b_rd_readWord 40 = .ok (.getfield 9, 3) := by decide +kernel
theorem d_rd_readWord_43 : decode b_rd_readWord 43 = .ok (.aload_n 0, 1) := by decide +kernel
theorem d_rd_readWord_44 : decode b_rd_readWord 44 = .ok (.getfield 38, 3) := by decide +kernel
theorem d_rd_readWord_47 : decode b_rd_readWord 47 = .ok (.caload, 1) := by decide +kernel
theorem d_rd_readWord_48 : decode b_rd_readWord 48 = .ok (.istore_n 1, 1) := by decide +kernel
theorem d_rd_readWord_49 : decode b_rd_readWord 49 = .ok (.aload_n 0, 1) := by decide +kernel
theorem d_rd_readWord_50 : decode b_rd_readWord 50 = .ok (.getfield 29, 3) := by decide +kernel
theorem d_rd_readWord_53 : decode b_rd_readWord 53 = .ok (.aload_n 0, 1) := by decide +kernel
theorem d_rd_readWord_54 : decode b_rd_readWord 54 = .ok (.getfield 38, 3) := by decide +kernel
theorem d_rd_readWord_57 : decode b_rd_readWord 57 = .ok (.isub, 1) := by decide +kernel
theorem d_rd_readWord_58 : decode b_rd_readWord 58 = .ok (.iconst 1, 1) := by decide +kernel
theorem d_rd_readWord_59 : decode b_rd_readWord 59 = .ok (.if_icmp .le (14), 3) := by decide +kernel
theorem d_rd_readWord_62 : decode b_rd_readWord 62 = .ok (.aload_n 0, 1) := by decide +kernel
theorem d_rd_readWord_63 : decode b_rd_readWord 63 = .ok (.aload_n 0, 1) := by decide +kernel
theorem d_rd_readWord_64 : decode b_rd_readWord 64 = .ok (.invokevirtual 60, 3) := by decide +kernel
theorem d_rd_readWord_67 : decode b_rd_readWord 67 = .ok (.putfield 32, 3) := by decide +kernel
theorem d_rd_readWord_70 : decode b_rd_readWord 70 = .ok (.goto (66), 3) := by decide +kernel
theorem d_rd_readWord_73 : decode b_rd_readWord 73 = .ok (.iload_n 1, 1) := by decide +kernel
theorem d_rd_readWord_74 : decode b_rd_readWord 74 = .ok (.bipush (97), 2) := by decide +kernel
theorem d_rd_readWord_76 : decode b_rd_readWord 76 = .ok (.if_icmp .lt (25), 3) := by decide +kernel
theorem d_rd_readWord_79 : decode b_rd_readWord 79 = .ok (.iload_n 1, 1) := by decide +kernel
theorem d_rd_readWord_80 : decode b_rd_readWord 80 = .ok (.bipush (102), 2) := by decide +kernel
theorem d_rd_readWord_82 : decode b_rd_readWord 82 = .ok (.if_icmp .gt (19), 3) := by decide +kernel
theorem d_rd_readWord_85 : decode b_rd_readWord 85 = .ok (.aload_n 0, 1) := by decide +kernel
theorem d_rd_readWord_86 : decode b_rd_readWord 86 = .ok (.iconst 2, 1) := by decide +kernel
theorem d_rd_readWord_87 : decode b_rd_readWord 87 = .ok (.putfield 32, 3) := by decide +kernel
theorem d_rd_readWord_90 : decode b_rd_readWord 90 = .ok (.aload_n 0, 1) := by decide +kernel
theorem d_rd_readWord_91 : decode b_rd_readWord 91 = .ok (.iload_n 1, 1) := by decide +kernel
theorem d_rd_readWord_92 : decode b_rd_readWord 92 = .ok (.bipush (97), 2) := by decide +kernel
theorem d_rd_readWord_94 : decode b_rd_readWord 94 = .ok (.isub, 1) := by decide +kernel
theorem d_rd_readWord_95 : decode b_rd_readWord 95 = .ok (.putfield 41, 3) := by decide +kernel
theorem d_rd_readWord_98 : decode b_rd_readWord 98 = .ok (.goto (38), 3) := by decide +kernel
theorem d_rd_readWord_101 : decode b_rd_readWord 101 = .ok (.iload_n 1, 1) := by decide +kernel
theorem d_rd_readWord_102 : decode b_rd_readWord 102 = .ok (.bipush (65), 2) := by decide +kernel
theorem d_rd_readWord_104 : decode b_rd_readWord 104 = .ok (.if_icmp .eq (9), 3) := by decide +kernel
theorem d_rd_readWord_107 : decode b_rd_readWord 107 = .ok (.iload_n 1, 1) := by decide +kernel
theorem d_rd_readWord_108 : decode b_rd_readWord 108 = .ok (.bipush (66), 2) := by decide +kernel
theorem d_rd_readWord_110 : decode b_rd_readWord 110 = .ok (.if_icmp .ne (21), 3) := by decide +kernel
theorem d_rd_readWord_113 : decode b_rd_readWord 113 = .ok (.aload_n 0, 1) := by decide +kernel
theorem d_rd_readWord_114 : decode b_rd_readWord 114 = .ok (.iconst 3, 1) := by decide +kernel
theorem d_rd_readWord_115 : decode b_rd_readWord 115 = .ok (.putfield 32, 3) := by decide +kernel
theorem d_rd_readWord_118 : decode b_rd_readWord 118 = .ok (.aload_n 0, 1) := by decide +kernel
theorem d_rd_readWord_119 : decode b_rd_readWord 119 = .ok (.iload_n 1, 1) := by decide +kernel
theorem d_rd_readWord_120 : decode b_rd_readWord 120 = .ok (.bipush (65), 2) := by decide +kernel
theorem d_rd_readWord_122 : decode b_rd_readWord 122 = .ok (.isub, 1) := by decide +kernel
theorem d_rd_readWord_123 : decode b_rd_readWord 123 = .ok (.iconst 4, 1) := by decide +kernel
theorem d_rd_readWord_124 : decode b_rd_readWord 124 = .ok (.imul, 1) := by decide +kernel
theorem d_rd_readWord_125 : decode b_rd_readWord 125 = .ok (.putfield 41, 3) := by decide +kernel
theorem d_rd_readWord_128 : decode b_rd_readWord 128 = .ok (.goto (8), 3) := by decide +kernel
theorem d_rd_readWord_131 : decode b_rd_readWord 131 = .ok (.aload_n 0, 1) := by decide +kernel
theorem d_rd_readWord_132 : decode b_rd_readWord 132 = .ok (.iconst (-1), 1) := by decide +kernel
theorem d_rd_readWord_133 : decode b_rd_readWord 133 = .ok (.putfield 32, 3) := by decide +kernel
theorem d_rd_readWord_136 : decode b_rd_readWord 136 = .ok (.return_, 1) := by decide +kernel
theorem kb_rd_readWord {a0 : Nat}  {w : WW} {r : WW} (h : f_rd_readWord a0 w = some r) : kb w a0 1 = true := (its h).1
set_option maxHeartbeats 4000000 in
set_option maxRecDepth 100000 in
theorem j_rd_readWord_136 {p : Program} {l : Launch} {e : Env} {s : State} {m : MethodId} {args : Array Value} {below : List Frame} {meth : Method} {c : Code} {D : va_G} {cA : Nat → ClassId} {base : Nat} {w' : WW} (C : cx b_rd_readWord (none) 2 y_rd_readWord.cls "readWord" p s m args meth c D cA base)   : ∀  (w : WW), f_rd_readWord_136  w = some w' → ∀ (H : Heap) (locs : List Loc) (ls : Array Slot), wo_S D cls cA base s w H locs → lv_has ls 2 [] → W p l e rm_rd_readWord s m args below meth c H locs 0 0 (MQ below (wo_Q D cls cA base none w') args s rm_rd_readWord.cells rm_rd_readWord.slots (wo_B base)) (F0 m 136 ls []) := by
  obtain ⟨hx, hb, hr, hml, hown, hts, hlk, hnm, hK, hG⟩ := id C
  intro  w h H locs ls hW hl
  unfold f_rd_readWord_136 at h
  cases h
  exact wo_vret hx hb hr hlk hW d_rd_readWord_136
set_option maxHeartbeats 4000000 in
set_option maxRecDepth 100000 in
theorem j_rd_readWord_113 {p : Program} {l : Launch} {e : Env} {s : State} {m : MethodId} {args : Array Value} {below : List Frame} {meth : Method} {c : Code} {D : va_G} {cA : Nat → ClassId} {base : Nat} {w' : WW} (C : cx b_rd_readWord (none) 2 y_rd_readWord.cls "readWord" p s m args meth c D cA base)   : ∀ (y0 : Nat) (y1 : Int32) (w : WW), f_rd_readWord_113 y0 y1 w = some w' → ∀ (H : Heap) (locs : List Loc) (ls : Array Slot), wo_S D cls cA base s w H locs → lv_has ls 2 [(0, .ref (base + y0)), (1, .int y1)] → W p l e rm_rd_readWord s m args below meth c H locs 0 0 (MQ below (wo_Q D cls cA base none w') args s rm_rd_readWord.cells rm_rd_readWord.slots (wo_B base)) (F0 m 113 ls []) := by
  obtain ⟨hx, hb, hr, hml, hown, hts, hlk, hnm, hK, hG⟩ := id C
  intro y0 y1 w h H locs ls hW hl
  unfold f_rd_readWord_113 at h
  refine lv_aload_n hx hb d_rd_readWord_113 rfl (lv_at hl 0 rfl) ?_
  refine lv_iconst (v := (3 : Int32)) hx hb d_rd_readWord_114 (by decide) ?_
  replace h := bs h
  obtain ⟨w12, hw12, h⟩ := h
  refine pf_rd_32 hx hb hts hown hK hG hW rfl rfl (pbi hw12 rfl) d_rd_readWord_115 (fun H locs hW => ?_)
  refine lv_aload_n hx hb d_rd_readWord_118 rfl (lv_at hl 0 rfl) ?_
  refine lv_iload_n hx hb d_rd_readWord_119 rfl (lv_at hl 1 rfl) ?_
  refine lv_bipush (v := (65 : Int32)) hx hb d_rd_readWord_120 (by decide) ?_
  refine lv_isub hx hb d_rd_readWord_122 ?_
  refine lv_iconst (v := (4 : Int32)) hx hb d_rd_readWord_123 (by decide) ?_
  refine lv_imul hx hb d_rd_readWord_124 ?_
  replace h := bs h
  obtain ⟨w13, hw13, h⟩ := h
  refine pf_rd_41 hx hb hts hown hK hG hW rfl rfl (pbi hw13 rfl) d_rd_readWord_125 (fun H locs hW => ?_)
  refine lv_goto (tgt := 136) hx hb d_rd_readWord_128 (by decide) ?_
  exact j_rd_readWord_136 C w13 h _ _ _ hW (lv_sub hl [] rfl)
set_option maxHeartbeats 4000000 in
set_option maxRecDepth 100000 in
theorem j_rd_readWord_101 {p : Program} {l : Launch} {e : Env} {s : State} {m : MethodId} {args : Array Value} {below : List Frame} {meth : Method} {c : Code} {D : va_G} {cA : Nat → ClassId} {base : Nat} {w' : WW} (C : cx b_rd_readWord (none) 2 y_rd_readWord.cls "readWord" p s m args meth c D cA base)   : ∀ (y0 : Nat) (y1 : Int32) (w : WW), f_rd_readWord_101 y0 y1 w = some w' → ∀ (H : Heap) (locs : List Loc) (ls : Array Slot), wo_S D cls cA base s w H locs → lv_has ls 2 [(0, .ref (base + y0)), (1, .int y1)] → W p l e rm_rd_readWord s m args below meth c H locs 0 0 (MQ below (wo_Q D cls cA base none w') args s rm_rd_readWord.cells rm_rd_readWord.slots (wo_B base)) (F0 m 101 ls []) := by
  obtain ⟨hx, hb, hr, hml, hown, hts, hlk, hnm, hK, hG⟩ := id C
  intro y0 y1 w h H locs ls hW hl
  unfold f_rd_readWord_101 at h
  refine lv_iload_n hx hb d_rd_readWord_101 rfl (lv_at hl 1 rfl) ?_
  refine lv_bipush (v := (65 : Int32)) hx hb d_rd_readWord_102 (by decide) ?_
  refine lv_icmp_eq (tgt := 113) hx hb d_rd_readWord_104 (by decide) (fun c11 => ?_) (fun c11 => ?_)
  · rw [if_pos c11] at h
    exact j_rd_readWord_113 C y0 y1 w h _ _ _ hW (lv_sub hl [0, 1] rfl)
  · rw [if_neg c11] at h
    refine lv_iload_n hx hb d_rd_readWord_107 rfl (lv_at hl 1 rfl) ?_
    refine lv_bipush (v := (66 : Int32)) hx hb d_rd_readWord_108 (by decide) ?_
    refine lv_icmp_ne (tgt := 131) hx hb d_rd_readWord_110 (by decide) (fun c14 => ?_) (fun c14 => ?_)
    · rw [if_neg c14] at h
      refine lv_aload_n hx hb d_rd_readWord_131 rfl (lv_at hl 0 rfl) ?_
      refine lv_iconst (v := (-1 : Int32)) hx hb d_rd_readWord_132 (by decide) ?_
      replace h := bs h
      obtain ⟨w15, hw15, h⟩ := h
      refine pf_rd_32 hx hb hts hown hK hG hW rfl rfl (pbi hw15 rfl) d_rd_readWord_133 (fun H locs hW => ?_)
      exact j_rd_readWord_136 C w15 h _ _ _ hW (lv_sub hl [] rfl)
    · rw [if_pos c14] at h
      exact j_rd_readWord_113 C y0 y1 w h _ _ _ hW (lv_sub hl [0, 1] rfl)
set_option maxHeartbeats 4000000 in
set_option maxRecDepth 100000 in
theorem j_rd_readWord_39 {p : Program} {l : Launch} {e : Env} {s : State} {m : MethodId} {args : Array Value} {below : List Frame} {meth : Method} {c : Code} {D : va_G} {cA : Nat → ClassId} {base : Nat} {w' : WW} (C : cx b_rd_readWord (none) 2 y_rd_readWord.cls "readWord" p s m args meth c D cA base)   : ∀ (y0 : Nat) (w : WW), f_rd_readWord_39 y0 w = some w' → ∀ (H : Heap) (locs : List Loc) (ls : Array Slot), wo_S D cls cA base s w H locs → lv_has ls 2 [(0, .ref (base + y0))] → W p l e rm_rd_readWord s m args below meth c H locs 0 0 (MQ below (wo_Q D cls cA base none w') args s rm_rd_readWord.cells rm_rd_readWord.slots (wo_B base)) (F0 m 39 ls []) := by
  obtain ⟨hx, hb, hr, hml, hown, hts, hlk, hnm, hK, hG⟩ := id C
  intro y0 w h H locs ls hW hl
  unfold f_rd_readWord_39 at h
  refine lv_aload_n hx hb d_rd_readWord_39 rfl (lv_at hl 0 rfl) ?_
  replace h := bs h
  obtain ⟨x4, hx4, h⟩ := h
  refine gf_rd_9 hx hb hts hown hK hG hW (gN_s hx4) d_rd_readWord_40 ?_
  refine lv_aload_n hx hb d_rd_readWord_43 rfl (lv_at hl 0 rfl) ?_
  replace h := bs h
  obtain ⟨x5, hx5, h⟩ := h
  refine gf_rd_38 hx hb hts hown hK hG hW (gI_s hx5) d_rd_readWord_44 ?_
  replace h := bs h
  obtain ⟨x6, hx6, h⟩ := h
  refine wo_cald hx hb hK hW (t := 3) rfl hx6 d_rd_readWord_47 ?_
  refine lv_istore_n (lv' := [(1, .int x6), (0, .ref (base + y0))]) hx hb d_rd_readWord_48 rfl hl (by decide) rfl (fun ls hl => ?_)
  refine lv_aload_n hx hb d_rd_readWord_49 rfl (lv_at hl 1 rfl) ?_
  replace h := bs h
  obtain ⟨x7, hx7, h⟩ := h
  refine gf_rd_29 hx hb hts hown hK hG hW (gI_s hx7) d_rd_readWord_50 ?_
  refine lv_aload_n hx hb d_rd_readWord_53 rfl (lv_at hl 1 rfl) ?_
  replace h := bs h
  obtain ⟨x8, hx8, h⟩ := h
  refine gf_rd_38 hx hb hts hown hK hG hW (gI_s hx8) d_rd_readWord_54 ?_
  refine lv_isub hx hb d_rd_readWord_57 ?_
  refine lv_iconst (v := (1 : Int32)) hx hb d_rd_readWord_58 (by decide) ?_
  refine lv_icmp_le (tgt := 73) hx hb d_rd_readWord_59 (by decide) (fun c9 => ?_) (fun c9 => ?_)
  · rw [if_pos c9] at h
    refine lv_iload_n hx hb d_rd_readWord_73 rfl (lv_at hl 0 rfl) ?_
    refine lv_bipush (v := (97 : Int32)) hx hb d_rd_readWord_74 (by decide) ?_
    refine lv_icmp_lt (tgt := 101) hx hb d_rd_readWord_76 (by decide) (fun c10 => ?_) (fun c10 => ?_)
    · rw [if_pos c10] at h
      exact j_rd_readWord_101 C y0 x6 w h _ _ _ hW (lv_sub hl [1, 0] rfl)
    · rw [if_neg c10] at h
      refine lv_iload_n hx hb d_rd_readWord_79 rfl (lv_at hl 0 rfl) ?_
      refine lv_bipush (v := (102 : Int32)) hx hb d_rd_readWord_80 (by decide) ?_
      refine lv_icmp_gt (tgt := 101) hx hb d_rd_readWord_82 (by decide) (fun c16 => ?_) (fun c16 => ?_)
      · rw [if_pos c16] at h
        exact j_rd_readWord_101 C y0 x6 w h _ _ _ hW (lv_sub hl [1, 0] rfl)
      · rw [if_neg c16] at h
        refine lv_aload_n hx hb d_rd_readWord_85 rfl (lv_at hl 1 rfl) ?_
        refine lv_iconst (v := (2 : Int32)) hx hb d_rd_readWord_86 (by decide) ?_
        replace h := bs h
        obtain ⟨w17, hw17, h⟩ := h
        refine pf_rd_32 hx hb hts hown hK hG hW rfl rfl (pbi hw17 rfl) d_rd_readWord_87 (fun H locs hW => ?_)
        refine lv_aload_n hx hb d_rd_readWord_90 rfl (lv_at hl 1 rfl) ?_
        refine lv_iload_n hx hb d_rd_readWord_91 rfl (lv_at hl 0 rfl) ?_
        refine lv_bipush (v := (97 : Int32)) hx hb d_rd_readWord_92 (by decide) ?_
        refine lv_isub hx hb d_rd_readWord_94 ?_
        replace h := bs h
        obtain ⟨w18, hw18, h⟩ := h
        refine pf_rd_41 hx hb hts hown hK hG hW rfl rfl (pbi hw18 rfl) d_rd_readWord_95 (fun H locs hW => ?_)
        refine lv_goto (tgt := 136) hx hb d_rd_readWord_98 (by decide) ?_
        exact j_rd_readWord_136 C w18 h _ _ _ hW (lv_sub hl [] rfl)
  · rw [if_neg c9] at h
    refine lv_aload_n hx hb d_rd_readWord_62 rfl (lv_at hl 1 rfl) ?_
    refine lv_aload_n hx hb d_rd_readWord_63 rfl (lv_at hl 1 rfl) ?_
    replace h := bs2 h
    obtain ⟨x20, w19, hw19, h⟩ := h
    refine cv_rd_60 (As := []) (rest := [.ref (base + y0)]) hx hb hml hown hts hK hG hW (c_rd_kindOfWord l D cA base hw19) (kb_rd_kindOfWord hw19) ⟨Nat.le_of_ble_eq_true rfl, Nat.le_of_ble_eq_true rfl⟩ ⟨Nat.le_of_ble_eq_true rfl, Nat.le_of_ble_eq_true rfl⟩ rfl hl.1 rfl (Nat.le_of_ble_eq_true rfl) d_rd_readWord_64 (fun H locs hW => ?_)
    replace h := bs h
    obtain ⟨w21, hw21, h⟩ := h
    refine pf_rd_32 hx hb hts hown hK hG hW rfl rfl (pbi hw21 rfl) d_rd_readWord_67 (fun H locs hW => ?_)
    refine lv_goto (tgt := 136) hx hb d_rd_readWord_70 (by decide) ?_
    exact j_rd_readWord_136 C w21 h _ _ _ hW (lv_sub hl [] rfl)
set_option maxHeartbeats 4000000 in
set_option maxRecDepth 100000 in
theorem j_rd_readWord_0 {p : Program} {l : Launch} {e : Env} {s : State} {m : MethodId} {args : Array Value} {below : List Frame} {meth : Method} {c : Code} {D : va_G} {cA : Nat → ClassId} {base : Nat} {w' : WW} (C : cx b_rd_readWord (none) 2 y_rd_readWord.cls "readWord" p s m args meth c D cA base)   : ∀ n : Nat, ∀ (y0 : Nat) (w : WW), f_rd_readWord_0 n y0 w = some w' → ∀ (H : Heap) (locs : List Loc) (ls : Array Slot), wo_S D cls cA base s w H locs → lv_has ls 2 [(0, .ref (base + y0))] → W p l e rm_rd_readWord s m args below meth c H locs 0 0 (MQ below (wo_Q D cls cA base none w') args s rm_rd_readWord.cells rm_rd_readWord.slots (wo_B base)) (F0 m 0 ls []) := by
  obtain ⟨hx, hb, hr, hml, hown, hts, hlk, hnm, hK, hG⟩ := id C
  intro n
  induction n with
  | zero => intro y0 w h; cases h
  | succ n ih =>
    intro y0 w h H locs ls hW hl
    rw [f_rd_readWord_0] at h
    refine lv_aload_n hx hb d_rd_readWord_0 rfl (lv_at hl 0 rfl) ?_
    replace h := bs h
    obtain ⟨x1, hx1, h⟩ := h
    refine gf_rd_29 hx hb hts hown hK hG hW (gI_s hx1) d_rd_readWord_1 ?_
    refine lv_aload_n hx hb d_rd_readWord_4 rfl (lv_at hl 0 rfl) ?_
    replace h := bs h
    obtain ⟨x2, hx2, h⟩ := h
    refine gf_rd_25 hx hb hts hown hK hG hW (gI_s hx2) d_rd_readWord_5 ?_
    refine lv_icmp_ge (tgt := 39) hx hb d_rd_readWord_8 (by decide) (fun c3 => ?_) (fun c3 => ?_)
    · rw [if_pos c3] at h
      exact j_rd_readWord_39 C y0 w h _ _ _ hW (lv_sub hl [0] rfl)
    · rw [if_neg c3] at h
      refine lv_aload_n hx hb d_rd_readWord_11 rfl (lv_at hl 0 rfl) ?_
      replace h := bs h
      obtain ⟨x22, hx22, h⟩ := h
      refine gf_rd_9 hx hb hts hown hK hG hW (gN_s hx22) d_rd_readWord_12 ?_
      refine lv_aload_n hx hb d_rd_readWord_15 rfl (lv_at hl 0 rfl) ?_
      replace h := bs h
      obtain ⟨x23, hx23, h⟩ := h
      refine gf_rd_29 hx hb hts hown hK hG hW (gI_s hx23) d_rd_readWord_16 ?_
      replace h := bs h
      obtain ⟨x24, hx24, h⟩ := h
      refine wo_cald hx hb hK hW (t := 3) rfl hx24 d_rd_readWord_19 ?_
      replace h := bs2 h
      obtain ⟨x26, w25, hw25, h⟩ := h
      refine cs_rd_51 (As := [.int x24]) (rest := []) hx hb hml hown hts hK hG hW (c_rd_isLetter l D cA base hw25) ⟨Nat.le_of_ble_eq_true rfl, Nat.le_of_ble_eq_true rfl⟩ ⟨Nat.le_of_ble_eq_true rfl, Nat.le_of_ble_eq_true rfl⟩ rfl hl.1 rfl (Nat.le_of_ble_eq_true rfl) d_rd_readWord_20 (fun H locs hW => ?_)
      refine lv_if_eq (tgt := 39) hx hb d_rd_readWord_23 (by decide) (fun c27 => ?_) (fun c27 => ?_)
      · rw [if_pos c27] at h
        exact j_rd_readWord_39 C y0 w25 h _ _ _ hW (lv_sub hl [0] rfl)
      · rw [if_neg c27] at h
        refine lv_aload_n hx hb d_rd_readWord_26 rfl (lv_at hl 0 rfl) ?_
        refine lv_dup hx hb d_rd_readWord_27 rfl ?_
        replace h := bs h
        obtain ⟨x28, hx28, h⟩ := h
        refine gf_rd_29 hx hb hts hown hK hG hW (gI_s hx28) d_rd_readWord_28 ?_
        refine lv_iconst (v := (1 : Int32)) hx hb d_rd_readWord_31 (by decide) ?_
        refine lv_iadd hx hb d_rd_readWord_32 ?_
        replace h := bs h
        obtain ⟨w29, hw29, h⟩ := h
        refine pf_rd_29 hx hb hts hown hK hG hW rfl rfl (pbi hw29 rfl) d_rd_readWord_33 (fun H locs hW => ?_)
        refine lv_goto (tgt := 0) hx hb d_rd_readWord_36 (by decide) ?_
        exact ih y0 w29 h _ _ _ hW (lv_sub hl [0] rfl)
set_option maxHeartbeats 4000000 in
set_option maxRecDepth 100000 in
theorem c_rd_readWord (l : Launch) (D : va_G) (cA : Nat → ClassId) (base : Nat) {a0 : Nat} {w w' : WW} (h : f_rd_readWord a0 w = some w') : mt l D cls (wo_tys cA) cA base y_rd_readWord (Cond.code y_rd_readWord b_rd_readWord 2 (none) :: gt) rm_rd_readWord [.ref (base + a0)] w none w' rm_rd_readWord.cells rm_rd_readWord.slots := by
  refine mt_start (by decide) (Nat.le_of_ble_eq_true rfl) ?_
  intro p e s m below meth c ls hx hb hr hml hown hts hlk hnm hK hG hW hl
  have C : cx b_rd_readWord (none) 2 y_rd_readWord.cls "readWord" p s m [.ref (base + a0)].toArray meth c D cA base := ⟨hx, hb, hr, hml, hown, hts, hlk, hnm, hK, hG⟩
  have hl : lv_has ls 2 [(0, .ref (base + a0))] := hl
  unfold f_rd_readWord at h
  replace h := its h
  obtain ⟨-, h⟩ := h
  exact j_rd_readWord_0 C KK a0 w h _ _ _ hW (lv_sub hl [0] rfl)
abbrev b_jl_canEncode : ByteArray := prog_21_method_4_code
def y_jl_canEncode : MethodName := ⟨"java/lang/StringLatin1", "canEncode", "(I)Z"⟩
def rm_jl_canEncode : Room := { frames := 0, cells := 0, slots := 0, locals := 0 }
theorem d_jl_canEncode_0 : decode b_jl_canEncode 0 = .ok (.iload_n 0, 1) := by decide +kernel
theorem d_jl_canEncode_1 : decode b_jl_canEncode 1 = .ok (.ifCond .lt (14), 3) := by decide +kernel
theorem d_jl_canEncode_4 : decode b_jl_canEncode 4 = .ok (.iload_n 0, 1) := by decide +kernel
theorem d_jl_canEncode_5 : decode b_jl_canEncode 5 = .ok (.sipush (255), 3) := by decide +kernel
theorem d_jl_canEncode_8 : decode b_jl_canEncode 8 = .ok (.if_icmp .gt (7), 3) := by decide +kernel
theorem d_jl_canEncode_11 : decode b_jl_canEncode 11 = .ok (.iconst 1, 1) := by decide +kernel
theorem d_jl_canEncode_12 : decode b_jl_canEncode 12 = .ok (.goto (4), 3) := by decide +kernel
theorem d_jl_canEncode_15 : decode b_jl_canEncode 15 = .ok (.iconst 0, 1) := by decide +kernel
theorem d_jl_canEncode_16 : decode b_jl_canEncode 16 = .ok (.ireturn, 1) := by decide +kernel
set_option maxHeartbeats 4000000 in
set_option maxRecDepth 100000 in
theorem j_jl_canEncode_16 {p : Program} {l : Launch} {e : Env} {s : State} {m : MethodId} {args : Array Value} {below : List Frame} {meth : Method} {c : Code} {D : va_G} {cA : Nat → ClassId} {base : Nat} {r : Int32} {w' : WW} (C : cx b_jl_canEncode (some .boolean) 1 y_jl_canEncode.cls "canEncode" p s m args meth c D cA base)   : ∀ (z0 : Int32) (w : WW), f_jl_canEncode_16 z0 w = some (r, w') → ∀ (H : Heap) (locs : List Loc) (ls : Array Slot), wo_S D cls cA base s w H locs → lv_has ls 1 [] → W p l e rm_jl_canEncode s m args below meth c H locs 0 0 (MQ below (wo_Q D cls cA base (some (.int r)) w') args s rm_jl_canEncode.cells rm_jl_canEncode.slots (wo_B base)) (F0 m 16 ls [.int z0]) := by
  obtain ⟨hx, hb, hr, hml, hown, hts, hlk, hnm, hK, hG⟩ := id C
  intro z0 w h H locs ls hW hl
  unfold f_jl_canEncode_16 at h
  replace h := its h
  obtain ⟨c2, h⟩ := h
  cases h
  exact wo_zret hx hb hr hlk hW c2 d_jl_canEncode_16
set_option maxHeartbeats 4000000 in
set_option maxRecDepth 100000 in
theorem j_jl_canEncode_15 {p : Program} {l : Launch} {e : Env} {s : State} {m : MethodId} {args : Array Value} {below : List Frame} {meth : Method} {c : Code} {D : va_G} {cA : Nat → ClassId} {base : Nat} {r : Int32} {w' : WW} (C : cx b_jl_canEncode (some .boolean) 1 y_jl_canEncode.cls "canEncode" p s m args meth c D cA base)   : ∀  (w : WW), f_jl_canEncode_15  w = some (r, w') → ∀ (H : Heap) (locs : List Loc) (ls : Array Slot), wo_S D cls cA base s w H locs → lv_has ls 1 [] → W p l e rm_jl_canEncode s m args below meth c H locs 0 0 (MQ below (wo_Q D cls cA base (some (.int r)) w') args s rm_jl_canEncode.cells rm_jl_canEncode.slots (wo_B base)) (F0 m 15 ls []) := by
  obtain ⟨hx, hb, hr, hml, hown, hts, hlk, hnm, hK, hG⟩ := id C
  intro  w h H locs ls hW hl
  unfold f_jl_canEncode_15 at h
  refine lv_iconst (v := (0 : Int32)) hx hb d_jl_canEncode_15 (by decide) ?_
  exact j_jl_canEncode_16 C (0 : Int32) w h _ _ _ hW (lv_sub hl [] rfl)
set_option maxHeartbeats 4000000 in
set_option maxRecDepth 100000 in
theorem c_jl_canEncode (l : Launch) (D : va_G) (cA : Nat → ClassId) (base : Nat) {a0 : Int32} {w w' : WW} {r : Int32} (h : f_jl_canEncode a0 w = some (r, w')) : mt l D cls (wo_tys cA) cA base y_jl_canEncode (Cond.code y_jl_canEncode b_jl_canEncode 1 (some .boolean) :: gt) rm_jl_canEncode [.int a0] w (some (.int r)) w' rm_jl_canEncode.cells rm_jl_canEncode.slots := by
  refine mt_startF (by decide +kernel) (Nat.le_of_ble_eq_true rfl) ?_
  intro p e s m below meth c ls hx hb hr hml hown hts hlk hnm hK hG hW hl
  have C : cx b_jl_canEncode (some .boolean) 1 y_jl_canEncode.cls "canEncode" p s m [.int a0].toArray meth c D cA base := ⟨hx, hb, hr, hml, hown, hts, hlk, hnm, hK, hG⟩
  have hl : lv_has ls 1 [(0, .int a0)] := hl
  unfold f_jl_canEncode at h
  refine lv_iload_n hx hb d_jl_canEncode_0 rfl (lv_at hl 0 rfl) ?_
  refine lv_if_lt (tgt := 15) hx hb d_jl_canEncode_1 (by decide) (fun c1 => ?_) (fun c1 => ?_)
  · rw [if_pos c1] at h
    exact j_jl_canEncode_15 C w h _ _ _ hW (lv_sub hl [] rfl)
  · rw [if_neg c1] at h
    refine lv_iload_n hx hb d_jl_canEncode_4 rfl (lv_at hl 0 rfl) ?_
    refine lv_sipush (v := (255 : Int32)) hx hb d_jl_canEncode_5 (by decide) ?_
    refine lv_icmp_gt (tgt := 15) hx hb d_jl_canEncode_8 (by decide) (fun c3 => ?_) (fun c3 => ?_)
    · rw [if_pos c3] at h
      exact j_jl_canEncode_15 C w h _ _ _ hW (lv_sub hl [] rfl)
    · rw [if_neg c3] at h
      refine lv_iconst (v := (1 : Int32)) hx hb d_jl_canEncode_11 (by decide) ?_
      refine lv_goto (tgt := 16) hx hb d_jl_canEncode_12 (by decide) ?_
      exact j_jl_canEncode_16 C (1 : Int32) w h _ _ _ hW (lv_sub hl [] rfl)
abbrev b_ma_max_II : ByteArray := prog_18_method_65_code
def y_ma_max_II : MethodName := ⟨"java/lang/Math", "max", "(II)I"⟩
def rm_ma_max_II : Room := { frames := 0, cells := 0, slots := 0, locals := 0 }
theorem d_ma_max_II_0 : decode b_ma_max_II 0 = .ok (.iload_n 0, 1) := by decide +kernel
theorem d_ma_max_II_1 : decode b_ma_max_II 1 = .ok (.iload_n 1, 1) := by decide +kernel
theorem d_ma_max_II_2 : decode b_ma_max_II 2 = .ok (.if_icmp .lt (7), 3) := by decide +kernel
theorem d_ma_max_II_5 : decode b_ma_max_II 5 = .ok (.iload_n 0, 1) := by decide +kernel
theorem d_ma_max_II_6 : decode b_ma_max_II 6 = .ok (.goto (4), 3) := by decide +kernel
theorem d_ma_max_II_9 : decode b_ma_max_II 9 = .ok (.iload_n 1, 1) := by decide +kernel
theorem d_ma_max_II_10 : decode b_ma_max_II 10 = .ok (.ireturn, 1) := by decide +kernel
set_option maxHeartbeats 4000000 in
set_option maxRecDepth 100000 in
theorem j_ma_max_II_10 {p : Program} {l : Launch} {e : Env} {s : State} {m : MethodId} {args : Array Value} {below : List Frame} {meth : Method} {c : Code} {D : va_G} {cA : Nat → ClassId} {base : Nat} {r : Int32} {w' : WW} (C : cx b_ma_max_II (some .int) 2 y_ma_max_II.cls "max" p s m args meth c D cA base)   : ∀ (z0 : Int32) (w : WW), f_ma_max_II_10 z0 w = some (r, w') → ∀ (H : Heap) (locs : List Loc) (ls : Array Slot), wo_S D cls cA base s w H locs → lv_has ls 2 [] → W p l e rm_ma_max_II s m args below meth c H locs 0 0 (MQ below (wo_Q D cls cA base (some (.int r)) w') args s rm_ma_max_II.cells rm_ma_max_II.slots (wo_B base)) (F0 m 10 ls [.int z0]) := by
  obtain ⟨hx, hb, hr, hml, hown, hts, hlk, hnm, hK, hG⟩ := id C
  intro z0 w h H locs ls hW hl
  unfold f_ma_max_II_10 at h
  cases h
  exact wo_iret hx hb hr hlk hW d_ma_max_II_10
set_option maxHeartbeats 4000000 in
set_option maxRecDepth 100000 in
theorem c_ma_max_II (l : Launch) (D : va_G) (cA : Nat → ClassId) (base : Nat) {a0 : Int32} {a1 : Int32} {w w' : WW} {r : Int32} (h : f_ma_max_II a0 a1 w = some (r, w')) : mt l D cls (wo_tys cA) cA base y_ma_max_II (Cond.code y_ma_max_II b_ma_max_II 2 (some .int) :: gt) rm_ma_max_II [.int a0, .int a1] w (some (.int r)) w' rm_ma_max_II.cells rm_ma_max_II.slots := by
  refine mt_startF (by decide +kernel) (Nat.le_of_ble_eq_true rfl) ?_
  intro p e s m below meth c ls hx hb hr hml hown hts hlk hnm hK hG hW hl
  have C : cx b_ma_max_II (some .int) 2 y_ma_max_II.cls "max" p s m [.int a0, .int a1].toArray meth c D cA base := ⟨hx, hb, hr, hml, hown, hts, hlk, hnm, hK, hG⟩
  have hl : lv_has ls 2 [(0, .int a0), (1, .int a1)] := hl
  unfold f_ma_max_II at h
  refine lv_iload_n hx hb d_ma_max_II_0 rfl (lv_at hl 0 rfl) ?_
  refine lv_iload_n hx hb d_ma_max_II_1 rfl (lv_at hl 1 rfl) ?_
  refine lv_icmp_lt (tgt := 9) hx hb d_ma_max_II_2 (by decide) (fun c1 => ?_) (fun c1 => ?_)
  · rw [if_pos c1] at h
    refine lv_iload_n hx hb d_ma_max_II_9 rfl (lv_at hl 1 rfl) ?_
    exact j_ma_max_II_10 C a1 w h _ _ _ hW (lv_sub hl [] rfl)
  · rw [if_neg c1] at h
    refine lv_iload_n hx hb d_ma_max_II_5 rfl (lv_at hl 0 rfl) ?_
    refine lv_goto (tgt := 10) hx hb d_ma_max_II_6 (by decide) ?_
    exact j_ma_max_II_10 C a0 w h _ _ _ hW (lv_sub hl [] rfl)
abbrev b_ma_min_II : ByteArray := prog_18_method_69_code
def y_ma_min_II : MethodName := ⟨"java/lang/Math", "min", "(II)I"⟩
def rm_ma_min_II : Room := { frames := 0, cells := 0, slots := 0, locals := 0 }
theorem d_ma_min_II_0 : decode b_ma_min_II 0 = .ok (.iload_n 0, 1) := by decide +kernel
theorem d_ma_min_II_1 : decode b_ma_min_II 1 = .ok (.iload_n 1, 1) := by decide +kernel
theorem d_ma_min_II_2 : decode b_ma_min_II 2 = .ok (.if_icmp .gt (7), 3) := by decide +kernel
theorem d_ma_min_II_5 : decode b_ma_min_II 5 = .ok (.iload_n 0, 1) := by decide +kernel
theorem d_ma_min_II_6 : decode b_ma_min_II 6 = .ok (.goto (4), 3) := by decide +kernel
theorem d_ma_min_II_9 : decode b_ma_min_II 9 = .ok (.iload_n 1, 1) := by decide +kernel
theorem d_ma_min_II_10 : decode b_ma_min_II 10 = .ok (.ireturn, 1) := by decide +kernel
set_option maxHeartbeats 4000000 in
set_option maxRecDepth 100000 in
theorem j_ma_min_II_10 {p : Program} {l : Launch} {e : Env} {s : State} {m : MethodId} {args : Array Value} {below : List Frame} {meth : Method} {c : Code} {D : va_G} {cA : Nat → ClassId} {base : Nat} {r : Int32} {w' : WW} (C : cx b_ma_min_II (some .int) 2 y_ma_min_II.cls "min" p s m args meth c D cA base)   : ∀ (z0 : Int32) (w : WW), f_ma_min_II_10 z0 w = some (r, w') → ∀ (H : Heap) (locs : List Loc) (ls : Array Slot), wo_S D cls cA base s w H locs → lv_has ls 2 [] → W p l e rm_ma_min_II s m args below meth c H locs 0 0 (MQ below (wo_Q D cls cA base (some (.int r)) w') args s rm_ma_min_II.cells rm_ma_min_II.slots (wo_B base)) (F0 m 10 ls [.int z0]) := by
  obtain ⟨hx, hb, hr, hml, hown, hts, hlk, hnm, hK, hG⟩ := id C
  intro z0 w h H locs ls hW hl
  unfold f_ma_min_II_10 at h
  cases h
  exact wo_iret hx hb hr hlk hW d_ma_min_II_10
set_option maxHeartbeats 4000000 in
set_option maxRecDepth 100000 in
theorem c_ma_min_II (l : Launch) (D : va_G) (cA : Nat → ClassId) (base : Nat) {a0 : Int32} {a1 : Int32} {w w' : WW} {r : Int32} (h : f_ma_min_II a0 a1 w = some (r, w')) : mt l D cls (wo_tys cA) cA base y_ma_min_II (Cond.code y_ma_min_II b_ma_min_II 2 (some .int) :: gt) rm_ma_min_II [.int a0, .int a1] w (some (.int r)) w' rm_ma_min_II.cells rm_ma_min_II.slots := by
  refine mt_startF (by decide +kernel) (Nat.le_of_ble_eq_true rfl) ?_
  intro p e s m below meth c ls hx hb hr hml hown hts hlk hnm hK hG hW hl
  have C : cx b_ma_min_II (some .int) 2 y_ma_min_II.cls "min" p s m [.int a0, .int a1].toArray meth c D cA base := ⟨hx, hb, hr, hml, hown, hts, hlk, hnm, hK, hG⟩
  have hl : lv_has ls 2 [(0, .int a0), (1, .int a1)] := hl
  unfold f_ma_min_II at h
  refine lv_iload_n hx hb d_ma_min_II_0 rfl (lv_at hl 0 rfl) ?_
  refine lv_iload_n hx hb d_ma_min_II_1 rfl (lv_at hl 1 rfl) ?_
  refine lv_icmp_gt (tgt := 9) hx hb d_ma_min_II_2 (by decide) (fun c1 => ?_) (fun c1 => ?_)
  · rw [if_pos c1] at h
    refine lv_iload_n hx hb d_ma_min_II_9 rfl (lv_at hl 1 rfl) ?_
    exact j_ma_min_II_10 C a1 w h _ _ _ hW (lv_sub hl [] rfl)
  · rw [if_neg c1] at h
    refine lv_iload_n hx hb d_ma_min_II_5 rfl (lv_at hl 0 rfl) ?_
    refine lv_goto (tgt := 10) hx hb d_ma_min_II_6 (by decide) ?_
    exact j_ma_min_II_10 C a0 w h _ _ _ hW (lv_sub hl [] rfl)
abbrev b_jl_indexOfChar : ByteArray := prog_21_method_23_code
def y_jl_indexOfChar : MethodName := ⟨"java/lang/StringLatin1", "indexOfChar", "([BIII)I"⟩
def rm_jl_indexOfChar : Room := { frames := 0, cells := 0, slots := 0, locals := 0 }
theorem d_jl_indexOfChar_0 : decode b_jl_indexOfChar 0 = .ok (.iload_n 1, 1) := by decide +kernel
theorem d_jl_indexOfChar_1 : decode b_jl_indexOfChar 1 = .ok (.i2b, 1) := by decide +kernel
theorem d_jl_indexOfChar_2 : decode b_jl_indexOfChar 2 = .ok (.istore 4, 2) := by decide +kernel
theorem d_jl_indexOfChar_4 : decode b_jl_indexOfChar 4 = .ok (.iload_n 2, 1) := by decide +kernel
theorem d_jl_indexOfChar_5 : decode b_jl_indexOfChar 5 = .ok (.istore 5, 2) := by decide +kernel
theorem d_jl_indexOfChar_7 : decode b_jl_indexOfChar 7 = .ok (.iload 5, 2) := by decide +kernel
theorem d_jl_indexOfChar_9 : decode b_jl_indexOfChar 9 = .ok (.iload_n 3, 1) := by decide +kernel
theorem d_jl_indexOfChar_10 : decode b_jl_indexOfChar 10 = .ok (.if_icmp .ge (21), 3) := by decide +kernel
theorem d_jl_indexOfChar_13 : decode b_jl_indexOfChar 13 = .ok (.aload_n 0, 1) := by decide +kernel
theorem d_jl_indexOfChar_14 : decode b_jl_indexOfChar 14 = .ok (.iload 5, 2) := by decide +kernel
theorem d_jl_indexOfChar_16 : decode b_jl_indexOfChar 16 = .ok (.baload, 1) := by decide +kernel
theorem d_jl_indexOfChar_17 : decode b_jl_indexOfChar 17 = .ok (.iload 4, 2) := by decide +kernel
theorem d_jl_indexOfChar_19 : decode b_jl_indexOfChar 19 = .ok (.if_icmp .ne (6), 3) := by decide +kernel
theorem d_jl_indexOfChar_22 : decode b_jl_indexOfChar 22 = .ok (.iload 5, 2) := by decide +kernel
theorem d_jl_indexOfChar_24 : decode b_jl_indexOfChar 24 = .ok (.ireturn, 1) := by decide +kernel
theorem d_jl_indexOfChar_25 : decode b_jl_indexOfChar 25 = .ok (.iinc 5 (1), 3) := by decide +kernel
theorem d_jl_indexOfChar_28 : decode b_jl_indexOfChar 28 = .ok (.goto (-21), 3) := by decide +kernel
theorem d_jl_indexOfChar_31 : decode b_jl_indexOfChar 31 = .ok (.iconst (-1), 1) := by decide +kernel
theorem d_jl_indexOfChar_32 : decode b_jl_indexOfChar 32 = .ok (.ireturn, 1) := by decide +kernel
set_option maxHeartbeats 4000000 in
set_option maxRecDepth 100000 in
theorem j_jl_indexOfChar_7 {p : Program} {l : Launch} {e : Env} {s : State} {m : MethodId} {args : Array Value} {below : List Frame} {meth : Method} {c : Code} {D : va_G} {cA : Nat → ClassId} {base : Nat} {r : Int32} {w' : WW} (C : cx b_jl_indexOfChar (some .int) 6 y_jl_indexOfChar.cls "indexOfChar" p s m args meth c D cA base)   : ∀ n : Nat, ∀ (y0 : Nat) (y3 : Int32) (y4 : Int32) (y5 : Int32) (w : WW), f_jl_indexOfChar_7 n y0 y3 y4 y5 w = some (r, w') → ∀ (H : Heap) (locs : List Loc) (ls : Array Slot), wo_S D cls cA base s w H locs → lv_has ls 6 [(0, .ref (cA (200 + y0))), (3, .int y3), (4, .int y4), (5, .int y5)] → W p l e rm_jl_indexOfChar s m args below meth c H locs 0 0 (MQ below (wo_Q D cls cA base (some (.int r)) w') args s rm_jl_indexOfChar.cells rm_jl_indexOfChar.slots (wo_B base)) (F0 m 7 ls []) := by
  obtain ⟨hx, hb, hr, hml, hown, hts, hlk, hnm, hK, hG⟩ := id C
  intro n
  induction n with
  | zero => intro y0 y3 y4 y5 w h; cases h
  | succ n ih =>
    intro y0 y3 y4 y5 w h H locs ls hW hl
    rw [f_jl_indexOfChar_7] at h
    refine lv_iload hx hb d_jl_indexOfChar_7 (lv_at hl 3 rfl) ?_
    refine lv_iload_n hx hb d_jl_indexOfChar_9 rfl (lv_at hl 1 rfl) ?_
    refine lv_icmp_ge (tgt := 31) hx hb d_jl_indexOfChar_10 (by decide) (fun c1 => ?_) (fun c1 => ?_)
    · rw [if_pos c1] at h
      refine lv_iconst (v := (-1 : Int32)) hx hb d_jl_indexOfChar_31 (by decide) ?_
      cases h
      exact wo_iret hx hb hr hlk hW d_jl_indexOfChar_32
    · rw [if_neg c1] at h
      refine lv_aload_n hx hb d_jl_indexOfChar_13 rfl (lv_at hl 0 rfl) ?_
      refine lv_iload hx hb d_jl_indexOfChar_14 (lv_at hl 3 rfl) ?_
      replace h := its h
      obtain ⟨c2, h⟩ := h
      replace h := bs h
      obtain ⟨x3, hx3, h⟩ := h
      refine va_tb (v := .int x3) hx hb (hG.2.2.2.2.2.2.2.2.1.1 y0 c2).2.2.2 hW.2.1 (tbS_s hx3).1 (tbS_s hx3).2 d_jl_indexOfChar_16 ?_
      refine lv_iload hx hb d_jl_indexOfChar_17 (lv_at hl 2 rfl) ?_
      refine lv_icmp_ne (tgt := 25) hx hb d_jl_indexOfChar_19 (by decide) (fun c4 => ?_) (fun c4 => ?_)
      · rw [if_neg c4] at h
        refine lv_iinc (v := (y5 + (1 : Int32))) (lv' := [(5, .int (y5 + (1 : Int32))), (0, .ref (cA (200 + y0))), (3, .int y3), (4, .int y4)]) hx hb d_jl_indexOfChar_25 hl (k := 3) rfl rfl (by decide) rfl (fun ls hl => ?_)
        refine lv_goto (tgt := 7) hx hb d_jl_indexOfChar_28 (by decide) ?_
        exact ih y0 y3 y4 (y5 + (1 : Int32)) w h _ _ _ hW (lv_sub hl [1, 2, 3, 0] rfl)
      · rw [if_pos c4] at h
        refine lv_iload hx hb d_jl_indexOfChar_22 (lv_at hl 3 rfl) ?_
        cases h
        exact wo_iret hx hb hr hlk hW d_jl_indexOfChar_24
set_option maxHeartbeats 4000000 in
set_option maxRecDepth 100000 in
theorem c_jl_indexOfChar (l : Launch) (D : va_G) (cA : Nat → ClassId) (base : Nat) {a0 : Nat} {a1 : Int32} {a2 : Int32} {a3 : Int32} {w w' : WW} {r : Int32} (h : f_jl_indexOfChar a0 a1 a2 a3 w = some (r, w')) : mt l D cls (wo_tys cA) cA base y_jl_indexOfChar (Cond.code y_jl_indexOfChar b_jl_indexOfChar 6 (some .int) :: gt) rm_jl_indexOfChar [.ref (cA (200 + a0)), .int a1, .int a2, .int a3] w (some (.int r)) w' rm_jl_indexOfChar.cells rm_jl_indexOfChar.slots := by
  refine mt_startF (by decide +kernel) (Nat.le_of_ble_eq_true rfl) ?_
  intro p e s m below meth c ls hx hb hr hml hown hts hlk hnm hK hG hW hl
  have C : cx b_jl_indexOfChar (some .int) 6 y_jl_indexOfChar.cls "indexOfChar" p s m [.ref (cA (200 + a0)), .int a1, .int a2, .int a3].toArray meth c D cA base := ⟨hx, hb, hr, hml, hown, hts, hlk, hnm, hK, hG⟩
  have hl : lv_has ls 6 [(0, .ref (cA (200 + a0))), (1, .int a1), (2, .int a2), (3, .int a3)] := hl
  unfold f_jl_indexOfChar at h
  refine lv_iload_n hx hb d_jl_indexOfChar_0 rfl (lv_at hl 1 rfl) ?_
  refine lv_i2b hx hb d_jl_indexOfChar_1 rfl ?_
  refine lv_istore (lv' := [(4, .int ((Int32.toInt8 a1).toInt32)), (0, .ref (cA (200 + a0))), (1, .int a1), (2, .int a2), (3, .int a3)]) hx hb d_jl_indexOfChar_2 hl (by decide) rfl (fun ls hl => ?_)
  refine lv_iload_n hx hb d_jl_indexOfChar_4 rfl (lv_at hl 3 rfl) ?_
  refine lv_istore (lv' := [(5, .int a2), (4, .int ((Int32.toInt8 a1).toInt32)), (0, .ref (cA (200 + a0))), (1, .int a1), (2, .int a2), (3, .int a3)]) hx hb d_jl_indexOfChar_5 hl (by decide) rfl (fun ls hl => ?_)
  exact j_jl_indexOfChar_7 C KK a0 a3 ((Int32.toInt8 a1).toInt32) a2 w h _ _ _ hW (lv_sub hl [2, 5, 1, 0] rfl)
theorem cs_jl_88 {p : Program} {l : Launch} {e : Env} {R : Room} {s : State} {m : MethodId} {args : Array Value} {below : List Frame} {meth : Method} {c : Code} {H : Heap} {locs : List Loc} {cells slots : Nat} {Q : State → Prop} {D : va_G} {cA : Nat → ClassId} {base : Nat} {w w' : WW} {cc : ByteArray} {pc nL : Nat} {ls : Array Slot} {rest st0 As : List Value} {ov : Option Value} (hx : p.tables.exec = Jvm.exec) (hb : c.code = cc) (hml : c.maxLocals = nL) (hown : s.vm.findClass Rc_jl = some m.cls) (hts : ∀ w ∈ gt, w.before args s = true) (hK : va_K D cls (wo_tys cA) s) (hG : wo_G cA base s) (hW : wo_S D cls cA base s w H locs) (hM : mt l D cls (wo_tys cA) cA base y_jl_canEncode (Cond.code y_jl_canEncode b_jl_canEncode 1 (some .boolean) :: gt) rm_jl_canEncode (As) w ov w' rm_jl_canEncode.cells rm_jl_canEncode.slots) (hR : rm_jl_canEncode.frames + 1 ≤ R.frames ∧ 8 + (1 + 11) + rm_jl_canEncode.locals ≤ R.locals) (hf : cells + rm_jl_canEncode.cells ≤ R.cells ∧ slots + rm_jl_canEncode.slots ≤ R.slots) (hn : As.length = 1) (hsz : ls.size = nL) (hst : st0 = As.reverse ++ rest) (hcat : (rest.map fun v => v.category).sum ≤ 8) (hdg : decode cc pc = .ok (.invokestatic 88, 3)) (kk : ∀ (H1 : Heap) (locs1 : List Loc), wo_S D cls cA base s w' H1 locs1 → W p l e R s m args below meth c H1 locs1 (cells + rm_jl_canEncode.cells) (slots + rm_jl_canEncode.slots) Q (F0 m (pc + 3) ls (ov.toList ++ rest))) : W p l e R s m args below meth c H locs cells slots Q (F0 m pc ls st0) :=
  wo_callS hx hb hml hown hts hK hG hW hM (gt_of (i := 594) (by decide +kernel) (by decide +kernel)) (gt_of (i := 595) (by decide +kernel) (by decide +kernel)) (gt_of (i := 17) (by decide +kernel) (by decide +kernel)) (gt_of (i := 596) (by decide +kernel) (by decide +kernel)) (by decide +kernel) hR hf hn hsz hst hcat hdg kk
theorem cs_jl_92 {p : Program} {l : Launch} {e : Env} {R : Room} {s : State} {m : MethodId} {args : Array Value} {below : List Frame} {meth : Method} {c : Code} {H : Heap} {locs : List Loc} {cells slots : Nat} {Q : State → Prop} {D : va_G} {cA : Nat → ClassId} {base : Nat} {w w' : WW} {cc : ByteArray} {pc nL : Nat} {ls : Array Slot} {rest st0 As : List Value} {ov : Option Value} (hx : p.tables.exec = Jvm.exec) (hb : c.code = cc) (hml : c.maxLocals = nL) (hown : s.vm.findClass Rc_jl = some m.cls) (hts : ∀ w ∈ gt, w.before args s = true) (hK : va_K D cls (wo_tys cA) s) (hG : wo_G cA base s) (hW : wo_S D cls cA base s w H locs) (hM : mt l D cls (wo_tys cA) cA base y_ma_max_II (Cond.code y_ma_max_II b_ma_max_II 2 (some .int) :: gt) rm_ma_max_II (As) w ov w' rm_ma_max_II.cells rm_ma_max_II.slots) (hR : rm_ma_max_II.frames + 1 ≤ R.frames ∧ 8 + (2 + 11) + rm_ma_max_II.locals ≤ R.locals) (hf : cells + rm_ma_max_II.cells ≤ R.cells ∧ slots + rm_ma_max_II.slots ≤ R.slots) (hn : As.length = 2) (hsz : ls.size = nL) (hst : st0 = As.reverse ++ rest) (hcat : (rest.map fun v => v.category).sum ≤ 8) (hdg : decode cc pc = .ok (.invokestatic 92, 3)) (kk : ∀ (H1 : Heap) (locs1 : List Loc), wo_S D cls cA base s w' H1 locs1 → W p l e R s m args below meth c H1 locs1 (cells + rm_ma_max_II.cells) (slots + rm_ma_max_II.slots) Q (F0 m (pc + 3) ls (ov.toList ++ rest))) : W p l e R s m args below meth c H locs cells slots Q (F0 m pc ls st0) :=
  wo_callS hx hb hml hown hts hK hG hW hM (gt_of (i := 597) (by decide +kernel) (by decide +kernel)) (gt_of (i := 598) (by decide +kernel) (by decide +kernel)) (gt_of (i := 20) (by decide +kernel) (by decide +kernel)) (gt_of (i := 599) (by decide +kernel) (by decide +kernel)) (by decide +kernel) hR hf hn hsz hst hcat hdg kk
theorem cs_jl_38 {p : Program} {l : Launch} {e : Env} {R : Room} {s : State} {m : MethodId} {args : Array Value} {below : List Frame} {meth : Method} {c : Code} {H : Heap} {locs : List Loc} {cells slots : Nat} {Q : State → Prop} {D : va_G} {cA : Nat → ClassId} {base : Nat} {w w' : WW} {cc : ByteArray} {pc nL : Nat} {ls : Array Slot} {rest st0 As : List Value} {ov : Option Value} (hx : p.tables.exec = Jvm.exec) (hb : c.code = cc) (hml : c.maxLocals = nL) (hown : s.vm.findClass Rc_jl = some m.cls) (hts : ∀ w ∈ gt, w.before args s = true) (hK : va_K D cls (wo_tys cA) s) (hG : wo_G cA base s) (hW : wo_S D cls cA base s w H locs) (hM : mt l D cls (wo_tys cA) cA base y_ma_min_II (Cond.code y_ma_min_II b_ma_min_II 2 (some .int) :: gt) rm_ma_min_II (As) w ov w' rm_ma_min_II.cells rm_ma_min_II.slots) (hR : rm_ma_min_II.frames + 1 ≤ R.frames ∧ 8 + (2 + 11) + rm_ma_min_II.locals ≤ R.locals) (hf : cells + rm_ma_min_II.cells ≤ R.cells ∧ slots + rm_ma_min_II.slots ≤ R.slots) (hn : As.length = 2) (hsz : ls.size = nL) (hst : st0 = As.reverse ++ rest) (hcat : (rest.map fun v => v.category).sum ≤ 8) (hdg : decode cc pc = .ok (.invokestatic 38, 3)) (kk : ∀ (H1 : Heap) (locs1 : List Loc), wo_S D cls cA base s w' H1 locs1 → W p l e R s m args below meth c H1 locs1 (cells + rm_ma_min_II.cells) (slots + rm_ma_min_II.slots) Q (F0 m (pc + 3) ls (ov.toList ++ rest))) : W p l e R s m args below meth c H locs cells slots Q (F0 m pc ls st0) :=
  wo_callS hx hb hml hown hts hK hG hW hM (gt_of (i := 600) (by decide +kernel) (by decide +kernel)) (gt_of (i := 601) (by decide +kernel) (by decide +kernel)) (gt_of (i := 20) (by decide +kernel) (by decide +kernel)) (gt_of (i := 602) (by decide +kernel) (by decide +kernel)) (by decide +kernel) hR hf hn hsz hst hcat hdg kk
theorem cs_jl_95 {p : Program} {l : Launch} {e : Env} {R : Room} {s : State} {m : MethodId} {args : Array Value} {below : List Frame} {meth : Method} {c : Code} {H : Heap} {locs : List Loc} {cells slots : Nat} {Q : State → Prop} {D : va_G} {cA : Nat → ClassId} {base : Nat} {w w' : WW} {cc : ByteArray} {pc nL : Nat} {ls : Array Slot} {rest st0 As : List Value} {ov : Option Value} (hx : p.tables.exec = Jvm.exec) (hb : c.code = cc) (hml : c.maxLocals = nL) (hown : s.vm.findClass Rc_jl = some m.cls) (hts : ∀ w ∈ gt, w.before args s = true) (hK : va_K D cls (wo_tys cA) s) (hG : wo_G cA base s) (hW : wo_S D cls cA base s w H locs) (hM : mt l D cls (wo_tys cA) cA base y_jl_indexOfChar (Cond.code y_jl_indexOfChar b_jl_indexOfChar 6 (some .int) :: gt) rm_jl_indexOfChar (As) w ov w' rm_jl_indexOfChar.cells rm_jl_indexOfChar.slots) (hR : rm_jl_indexOfChar.frames + 1 ≤ R.frames ∧ 8 + (6 + 11) + rm_jl_indexOfChar.locals ≤ R.locals) (hf : cells + rm_jl_indexOfChar.cells ≤ R.cells ∧ slots + rm_jl_indexOfChar.slots ≤ R.slots) (hn : As.length = 4) (hsz : ls.size = nL) (hst : st0 = As.reverse ++ rest) (hcat : (rest.map fun v => v.category).sum ≤ 8) (hdg : decode cc pc = .ok (.invokestatic 95, 3)) (kk : ∀ (H1 : Heap) (locs1 : List Loc), wo_S D cls cA base s w' H1 locs1 → W p l e R s m args below meth c H1 locs1 (cells + rm_jl_indexOfChar.cells) (slots + rm_jl_indexOfChar.slots) Q (F0 m (pc + 3) ls (ov.toList ++ rest))) : W p l e R s m args below meth c H locs cells slots Q (F0 m pc ls st0) :=
  wo_callS hx hb hml hown hts hK hG hW hM (gt_of (i := 603) (by decide +kernel) (by decide +kernel)) (gt_of (i := 604) (by decide +kernel) (by decide +kernel)) (gt_of (i := 17) (by decide +kernel) (by decide +kernel)) (gt_of (i := 605) (by decide +kernel) (by decide +kernel)) (by decide +kernel) hR hf hn hsz hst hcat hdg kk
abbrev b_jl_indexOf : ByteArray := prog_21_method_22_code
def y_jl_indexOf : MethodName := ⟨"java/lang/StringLatin1", "indexOf", "([BIII)I"⟩
def rm_jl_indexOf : Room := { frames := 1, cells := 0, slots := 0, locals := 25 }
theorem d_jl_indexOf_0 : decode b_jl_indexOf 0 = .ok (.iload_n 1, 1) := by decide +kernel
theorem d_jl_indexOf_1 : decode b_jl_indexOf 1 = .ok (.invokestatic 88, 3) := by decide +kernel
theorem d_jl_indexOf_4 : decode b_jl_indexOf 4 = .ok (.ifCond .ne (5), 3) := by decide +kernel
theorem d_jl_indexOf_7 : decode b_jl_indexOf 7 = .ok (.iconst (-1), 1) := by decide +kernel
theorem d_jl_indexOf_8 : decode b_jl_indexOf 8 = .ok (.ireturn, 1) := by decide +kernel
theorem d_jl_indexOf_9 : decode b_jl_indexOf 9 = .ok (.iload_n 2, 1) := by decide +kernel
theorem d_jl_indexOf_10 : decode b_jl_indexOf 10 = .ok (.iconst 0, 1) := by decide +kernel
theorem d_jl_indexOf_11 : decode b_jl_indexOf 11 = .ok (.invokestatic 92, 3) := by decide +kernel
theorem d_jl_indexOf_14 : decode b_jl_indexOf 14 = .ok (.istore_n 2, 1) := by decide +kernel
theorem d_jl_indexOf_15 : decode b_jl_indexOf 15 = .ok (.iload_n 3, 1) := by decide +kernel
theorem d_jl_indexOf_16 : decode b_jl_indexOf 16 = .ok (.aload_n 0, 1) := by decide +kernel
theorem d_jl_indexOf_17 : decode b_jl_indexOf 17 = .ok (.arraylength, 1) := by decide +kernel
theorem d_jl_indexOf_18 : decode b_jl_indexOf 18 = .ok (.invokestatic 38, 3) := by decide +kernel
theorem d_jl_indexOf_21 : decode b_jl_indexOf 21 = .ok (.istore_n 3, 1) := by decide +kernel
theorem d_jl_indexOf_22 : decode b_jl_indexOf 22 = .ok (.iload_n 2, 1) := by decide +kernel
theorem d_jl_indexOf_23 : decode b_jl_indexOf 23 = .ok (.iload_n 3, 1) := by decide +kernel
theorem d_jl_indexOf_24 : decode b_jl_indexOf 24 = .ok (.if_icmp .lt (5), 3) := by decide +kernel
theorem d_jl_indexOf_27 : decode b_jl_indexOf 27 = .ok (.iconst (-1), 1) := by decide +kernel
theorem d_jl_indexOf_28 : decode b_jl_indexOf 28 = .ok (.ireturn, 1) := by decide +kernel
theorem d_jl_indexOf_29 : decode b_jl_indexOf 29 = .ok (.aload_n 0, 1) := by decide +kernel
theorem d_jl_indexOf_30 : decode b_jl_indexOf 30 = .ok (.iload_n 1, 1) := by decide +kernel
theorem d_jl_indexOf_31 : decode b_jl_indexOf 31 = .ok (.iload_n 2, 1) := by decide +kernel
theorem d_jl_indexOf_32 : decode b_jl_indexOf 32 = .ok (.iload_n 3, 1) := by decide +kernel
theorem d_jl_indexOf_33 : decode b_jl_indexOf 33 = .ok (.invokestatic 95, 3) := by decide +kernel
theorem d_jl_indexOf_36 : decode b_jl_indexOf 36 = .ok (.ireturn, 1) := by decide +kernel
set_option maxHeartbeats 4000000 in
set_option maxRecDepth 100000 in
theorem c_jl_indexOf (l : Launch) (D : va_G) (cA : Nat → ClassId) (base : Nat) {a0 : Nat} {a1 : Int32} {a2 : Int32} {a3 : Int32} {w w' : WW} {r : Int32} (h : f_jl_indexOf a0 a1 a2 a3 w = some (r, w')) : mt l D cls (wo_tys cA) cA base y_jl_indexOf (Cond.code y_jl_indexOf b_jl_indexOf 4 (some .int) :: gt) rm_jl_indexOf [.ref (cA (200 + a0)), .int a1, .int a2, .int a3] w (some (.int r)) w' rm_jl_indexOf.cells rm_jl_indexOf.slots := by
  refine mt_startF (by decide +kernel) (Nat.le_of_ble_eq_true rfl) ?_
  intro p e s m below meth c ls hx hb hr hml hown hts hlk hnm hK hG hW hl
  have C : cx b_jl_indexOf (some .int) 4 y_jl_indexOf.cls "indexOf" p s m [.ref (cA (200 + a0)), .int a1, .int a2, .int a3].toArray meth c D cA base := ⟨hx, hb, hr, hml, hown, hts, hlk, hnm, hK, hG⟩
  have hl : lv_has ls 4 [(0, .ref (cA (200 + a0))), (1, .int a1), (2, .int a2), (3, .int a3)] := hl
  unfold f_jl_indexOf at h
  refine lv_iload_n hx hb d_jl_indexOf_0 rfl (lv_at hl 1 rfl) ?_
  replace h := bs2 h
  obtain ⟨x2, w1, hw1, h⟩ := h
  refine cs_jl_88 (As := [.int a1]) (rest := []) hx hb hml hown hts hK hG hW (c_jl_canEncode l D cA base hw1) ⟨Nat.le_of_ble_eq_true rfl, Nat.le_of_ble_eq_true rfl⟩ ⟨Nat.le_of_ble_eq_true rfl, Nat.le_of_ble_eq_true rfl⟩ rfl hl.1 rfl (Nat.le_of_ble_eq_true rfl) d_jl_indexOf_1 (fun H locs hW => ?_)
  refine lv_if_ne (tgt := 9) hx hb d_jl_indexOf_4 (by decide) (fun c3 => ?_) (fun c3 => ?_)
  · rw [if_neg c3] at h
    refine lv_iload_n hx hb d_jl_indexOf_9 rfl (lv_at hl 2 rfl) ?_
    refine lv_iconst (v := (0 : Int32)) hx hb d_jl_indexOf_10 (by decide) ?_
    replace h := bs2 h
    obtain ⟨x5, w4, hw4, h⟩ := h
    refine cs_jl_92 (As := [.int a2, .int (0 : Int32)]) (rest := []) hx hb hml hown hts hK hG hW (c_ma_max_II l D cA base hw4) ⟨Nat.le_of_ble_eq_true rfl, Nat.le_of_ble_eq_true rfl⟩ ⟨Nat.le_of_ble_eq_true rfl, Nat.le_of_ble_eq_true rfl⟩ rfl hl.1 rfl (Nat.le_of_ble_eq_true rfl) d_jl_indexOf_11 (fun H locs hW => ?_)
    refine lv_istore_n (lv' := [(2, .int x5), (0, .ref (cA (200 + a0))), (1, .int a1), (3, .int a3)]) hx hb d_jl_indexOf_14 rfl hl (by decide) rfl (fun ls hl => ?_)
    refine lv_iload_n hx hb d_jl_indexOf_15 rfl (lv_at hl 3 rfl) ?_
    refine lv_aload_n hx hb d_jl_indexOf_16 rfl (lv_at hl 1 rfl) ?_
    replace h := its h
    obtain ⟨c6, h⟩ := h
    refine va_tlen (v := Int32.ofNat (sLn.getD a0 0)) hx hb (hG.2.2.2.2.2.2.2.2.1.1 a0 c6).2.2.2 hW.2.1 rfl d_jl_indexOf_17 ?_
    replace h := bs2 h
    obtain ⟨x8, w7, hw7, h⟩ := h
    refine cs_jl_38 (As := [.int a3, .int (Int32.ofNat (sLn.getD a0 0))]) (rest := []) hx hb hml hown hts hK hG hW (c_ma_min_II l D cA base hw7) ⟨Nat.le_of_ble_eq_true rfl, Nat.le_of_ble_eq_true rfl⟩ ⟨Nat.le_of_ble_eq_true rfl, Nat.le_of_ble_eq_true rfl⟩ rfl hl.1 rfl (Nat.le_of_ble_eq_true rfl) d_jl_indexOf_18 (fun H locs hW => ?_)
    refine lv_istore_n (lv' := [(3, .int x8), (2, .int x5), (0, .ref (cA (200 + a0))), (1, .int a1)]) hx hb d_jl_indexOf_21 rfl hl (by decide) rfl (fun ls hl => ?_)
    refine lv_iload_n hx hb d_jl_indexOf_22 rfl (lv_at hl 1 rfl) ?_
    refine lv_iload_n hx hb d_jl_indexOf_23 rfl (lv_at hl 0 rfl) ?_
    refine lv_icmp_lt (tgt := 29) hx hb d_jl_indexOf_24 (by decide) (fun c9 => ?_) (fun c9 => ?_)
    · rw [if_pos c9] at h
      refine lv_aload_n hx hb d_jl_indexOf_29 rfl (lv_at hl 2 rfl) ?_
      refine lv_iload_n hx hb d_jl_indexOf_30 rfl (lv_at hl 3 rfl) ?_
      refine lv_iload_n hx hb d_jl_indexOf_31 rfl (lv_at hl 1 rfl) ?_
      refine lv_iload_n hx hb d_jl_indexOf_32 rfl (lv_at hl 0 rfl) ?_
      replace h := bs2 h
      obtain ⟨x11, w10, hw10, h⟩ := h
      refine cs_jl_95 (As := [.ref (cA (200 + a0)), .int a1, .int x5, .int x8]) (rest := []) hx hb hml hown hts hK hG hW (c_jl_indexOfChar l D cA base hw10) ⟨Nat.le_of_ble_eq_true rfl, Nat.le_of_ble_eq_true rfl⟩ ⟨Nat.le_of_ble_eq_true rfl, Nat.le_of_ble_eq_true rfl⟩ rfl hl.1 rfl (Nat.le_of_ble_eq_true rfl) d_jl_indexOf_33 (fun H locs hW => ?_)
      cases h
      exact wo_iret hx hb hr hlk hW d_jl_indexOf_36
    · rw [if_neg c9] at h
      refine lv_iconst (v := (-1 : Int32)) hx hb d_jl_indexOf_27 (by decide) ?_
      cases h
      exact wo_iret hx hb hr hlk hW d_jl_indexOf_28
  · rw [if_pos c3] at h
    refine lv_iconst (v := (-1 : Int32)) hx hb d_jl_indexOf_7 (by decide) ?_
    cases h
    exact wo_iret hx hb hr hlk hW d_jl_indexOf_8
abbrev b_ju_indexOf : ByteArray := prog_22_method_40_code
def y_ju_indexOf : MethodName := ⟨"java/lang/StringUTF16", "indexOf", "([BIII)I"⟩
def rm_ju_indexOf : Room := { frames := 0, cells := 0, slots := 0, locals := 0 }
theorem c_ju_indexOf (l : Launch) (D : va_G) (cA : Nat → ClassId) (base : Nat) {a0 : Nat} {a1 : Int32} {a2 : Int32} {a3 : Int32} {w w' : WW} {r : Int32} (h : f_ju_indexOf a0 a1 a2 a3 w = some (r, w')) : mt l D cls (wo_tys cA) cA base y_ju_indexOf (Cond.code y_ju_indexOf b_ju_indexOf 4 (some .int) :: gt) rm_ju_indexOf [.ref (cA (200 + a0)), .int a1, .int a2, .int a3] w (some (.int r)) w' rm_ju_indexOf.cells rm_ju_indexOf.slots := by
  cases h
theorem cv_js_505 {p : Program} {l : Launch} {e : Env} {R : Room} {s : State} {m : MethodId} {args : Array Value} {below : List Frame} {meth : Method} {c : Code} {H : Heap} {locs : List Loc} {cells slots : Nat} {Q : State → Prop} {D : va_G} {cA : Nat → ClassId} {base : Nat} {w w' : WW} {cc : ByteArray} {pc nL : Nat} {ls : Array Slot} {rest st0 As : List Value} {ov : Option Value} {b : Nat} (hx : p.tables.exec = Jvm.exec) (hb : c.code = cc) (hml : c.maxLocals = nL) (hown : s.vm.findClass Rc_js = some m.cls) (hts : ∀ w ∈ gt, w.before args s = true) (hK : va_K D cls (wo_tys cA) s) (hG : wo_G cA base s) (hW : wo_S D cls cA base s w H locs) (hM : mt l D cls (wo_tys cA) cA base y_js_length (Cond.code y_js_length b_js_length 1 (some .int) :: gt) rm_js_length (.ref (cA (100 + b)) :: As) w ov w' rm_js_length.cells rm_js_length.slots) (hkb : b < 6) (hR : rm_js_length.frames + 1 ≤ R.frames ∧ 8 + (1 + 11) + rm_js_length.locals ≤ R.locals) (hf : cells + rm_js_length.cells ≤ R.cells ∧ slots + rm_js_length.slots ≤ R.slots) (hn : As.length = 0) (hsz : ls.size = nL) (hst : st0 = As.reverse ++ .ref (cA (100 + b)) :: rest) (hcat : (rest.map fun v => v.category).sum ≤ 8) (hdg : decode cc pc = .ok (.invokevirtual 505, 3)) (kk : ∀ (H1 : Heap) (locs1 : List Loc), wo_S D cls cA base s w' H1 locs1 → W p l e R s m args below meth c H1 locs1 (cells + rm_js_length.cells) (slots + rm_js_length.slots) Q (F0 m (pc + 3) ls (ov.toList ++ rest))) : W p l e R s m args below meth c H locs cells slots Q (F0 m pc ls st0) :=
  wo_callVS hx hb hml hown hts hK hG hW hM hkb (gt_of (i := 590) (by decide +kernel) (by decide +kernel)) (gt_of (i := 526) (by decide +kernel) (by decide +kernel)) (gt_of (i := 527) (by decide +kernel) (by decide +kernel)) (gt_of (i := 16) (by decide +kernel) (by decide +kernel)) (gt_of (i := 528) (by decide +kernel) (by decide +kernel)) (by decide +kernel) hR hf hn hsz hst hcat hdg kk
theorem cs_js_637 {p : Program} {l : Launch} {e : Env} {R : Room} {s : State} {m : MethodId} {args : Array Value} {below : List Frame} {meth : Method} {c : Code} {H : Heap} {locs : List Loc} {cells slots : Nat} {Q : State → Prop} {D : va_G} {cA : Nat → ClassId} {base : Nat} {w w' : WW} {cc : ByteArray} {pc nL : Nat} {ls : Array Slot} {rest st0 As : List Value} {ov : Option Value} (hx : p.tables.exec = Jvm.exec) (hb : c.code = cc) (hml : c.maxLocals = nL) (hown : s.vm.findClass Rc_js = some m.cls) (hts : ∀ w ∈ gt, w.before args s = true) (hK : va_K D cls (wo_tys cA) s) (hG : wo_G cA base s) (hW : wo_S D cls cA base s w H locs) (hM : mt l D cls (wo_tys cA) cA base y_jl_indexOf (Cond.code y_jl_indexOf b_jl_indexOf 4 (some .int) :: gt) rm_jl_indexOf (As) w ov w' rm_jl_indexOf.cells rm_jl_indexOf.slots) (hR : rm_jl_indexOf.frames + 1 ≤ R.frames ∧ 8 + (4 + 11) + rm_jl_indexOf.locals ≤ R.locals) (hf : cells + rm_jl_indexOf.cells ≤ R.cells ∧ slots + rm_jl_indexOf.slots ≤ R.slots) (hn : As.length = 4) (hsz : ls.size = nL) (hst : st0 = As.reverse ++ rest) (hcat : (rest.map fun v => v.category).sum ≤ 8) (hdg : decode cc pc = .ok (.invokestatic 637, 3)) (kk : ∀ (H1 : Heap) (locs1 : List Loc), wo_S D cls cA base s w' H1 locs1 → W p l e R s m args below meth c H1 locs1 (cells + rm_jl_indexOf.cells) (slots + rm_jl_indexOf.slots) Q (F0 m (pc + 3) ls (ov.toList ++ rest))) : W p l e R s m args below meth c H locs cells slots Q (F0 m pc ls st0) :=
  wo_callS hx hb hml hown hts hK hG hW hM (gt_of (i := 591) (by decide +kernel) (by decide +kernel)) (gt_of (i := 592) (by decide +kernel) (by decide +kernel)) (gt_of (i := 17) (by decide +kernel) (by decide +kernel)) (gt_of (i := 593) (by decide +kernel) (by decide +kernel)) (by decide +kernel) hR hf hn hsz hst hcat hdg kk
theorem cs_js_640 {p : Program} {l : Launch} {e : Env} {R : Room} {s : State} {m : MethodId} {args : Array Value} {below : List Frame} {meth : Method} {c : Code} {H : Heap} {locs : List Loc} {cells slots : Nat} {Q : State → Prop} {D : va_G} {cA : Nat → ClassId} {base : Nat} {w w' : WW} {cc : ByteArray} {pc nL : Nat} {ls : Array Slot} {rest st0 As : List Value} {ov : Option Value} (hx : p.tables.exec = Jvm.exec) (hb : c.code = cc) (hml : c.maxLocals = nL) (hown : s.vm.findClass Rc_js = some m.cls) (hts : ∀ w ∈ gt, w.before args s = true) (hK : va_K D cls (wo_tys cA) s) (hG : wo_G cA base s) (hW : wo_S D cls cA base s w H locs) (hM : mt l D cls (wo_tys cA) cA base y_ju_indexOf (Cond.code y_ju_indexOf b_ju_indexOf 4 (some .int) :: gt) rm_ju_indexOf (As) w ov w' rm_ju_indexOf.cells rm_ju_indexOf.slots) (hR : rm_ju_indexOf.frames + 1 ≤ R.frames ∧ 8 + (4 + 11) + rm_ju_indexOf.locals ≤ R.locals) (hf : cells + rm_ju_indexOf.cells ≤ R.cells ∧ slots + rm_ju_indexOf.slots ≤ R.slots) (hn : As.length = 4) (hsz : ls.size = nL) (hst : st0 = As.reverse ++ rest) (hcat : (rest.map fun v => v.category).sum ≤ 8) (hdg : decode cc pc = .ok (.invokestatic 640, 3)) (kk : ∀ (H1 : Heap) (locs1 : List Loc), wo_S D cls cA base s w' H1 locs1 → W p l e R s m args below meth c H1 locs1 (cells + rm_ju_indexOf.cells) (slots + rm_ju_indexOf.slots) Q (F0 m (pc + 3) ls (ov.toList ++ rest))) : W p l e R s m args below meth c H locs cells slots Q (F0 m pc ls st0) :=
  wo_callS hx hb hml hown hts hK hG hW hM (gt_of (i := 606) (by decide +kernel) (by decide +kernel)) (gt_of (i := 607) (by decide +kernel) (by decide +kernel)) (gt_of (i := 19) (by decide +kernel) (by decide +kernel)) (gt_of (i := 608) (by decide +kernel) (by decide +kernel)) (by decide +kernel) hR hf hn hsz hst hcat hdg kk
abbrev b_js_indexOf_II : ByteArray := prog_20_method_80_code
def y_js_indexOf_II : MethodName := ⟨"java/lang/String", "indexOf", "(II)I"⟩
def rm_js_indexOf_II : Room := { frames := 2, cells := 0, slots := 0, locals := 48 }
theorem d_js_indexOf_II_0 : decode b_js_indexOf_II 0 = .ok (.aload_n 0, 1) := by decide +kernel
theorem d_js_indexOf_II_1 : decode b_js_indexOf_II 1 = .ok (.invokevirtual 492, 3) := by decide +kernel
theorem d_js_indexOf_II_4 : decode b_js_indexOf_II 4 = .ok (.ifCond .eq (19), 3) := by decide +kernel
theorem d_js_indexOf_II_7 : decode b_js_indexOf_II 7 = .ok (.aload_n 0, 1) := by decide +kernel
theorem d_js_indexOf_II_8 : decode b_js_indexOf_II 8 = .ok (.getfield 9, 3) := by decide +kernel
theorem d_js_indexOf_II_11 : decode b_js_indexOf_II 11 = .ok (.iload_n 1, 1) := by decide +kernel
theorem d_js_indexOf_II_12 : decode b_js_indexOf_II 12 = .ok (.iload_n 2, 1) := by decide +kernel
theorem d_js_indexOf_II_13 : decode b_js_indexOf_II 13 = .ok (.aload_n 0, 1) := by decide +kernel
theorem d_js_indexOf_II_14 : decode b_js_indexOf_II 14 = .ok (.invokevirtual 505, 3) := by decide +kernel
theorem d_js_indexOf_II_17 : decode b_js_indexOf_II 17 = .ok (.invokestatic 637, 3) := by decide +kernel
theorem d_js_indexOf_II_20 : decode b_js_indexOf_II 20 = .ok (.goto (16), 3) := by decide +kernel
theorem d_js_indexOf_II_23 : decode b_js_indexOf_II 23 = .ok (.aload_n 0, 1) := by decide +kernel
theorem d_js_indexOf_II_24 : decode b_js_indexOf_II 24 = .ok (.getfield 9, 3) := by decide +kernel
theorem d_js_indexOf_II_27 : decode b_js_indexOf_II 27 = .ok (.iload_n 1, 1) := by decide +kernel
theorem d_js_indexOf_II_28 : decode b_js_indexOf_II 28 = .ok (.iload_n 2, 1) := by decide +kernel
theorem d_js_indexOf_II_29 : decode b_js_indexOf_II 29 = .ok (.aload_n 0, 1) := by decide +kernel
theorem d_js_indexOf_II_30 : decode b_js_indexOf_II 30 = .ok (.invokevirtual 505, 3) := by decide +kernel
theorem d_js_indexOf_II_33 : decode b_js_indexOf_II 33 = .ok (.invokestatic 640, 3) := by decide +kernel
theorem d_js_indexOf_II_36 : decode b_js_indexOf_II 36 = .ok (.ireturn, 1) := by decide +kernel
theorem kb_js_indexOf_II {a0 : Nat} {a1 : Int32} {a2 : Int32} {w : WW} {r : (Int32 × WW)} (h : f_js_indexOf_II a0 a1 a2 w = some r) : a0 < 6 := (its h).1
set_option maxHeartbeats 4000000 in
set_option maxRecDepth 100000 in
theorem j_js_indexOf_II_36 {p : Program} {l : Launch} {e : Env} {s : State} {m : MethodId} {args : Array Value} {below : List Frame} {meth : Method} {c : Code} {D : va_G} {cA : Nat → ClassId} {base : Nat} {r : Int32} {w' : WW} (C : cx b_js_indexOf_II (some .int) 3 y_js_indexOf_II.cls "indexOf" p s m args meth c D cA base)   : ∀ (z0 : Int32) (w : WW), f_js_indexOf_II_36 z0 w = some (r, w') → ∀ (H : Heap) (locs : List Loc) (ls : Array Slot), wo_S D cls cA base s w H locs → lv_has ls 3 [] → W p l e rm_js_indexOf_II s m args below meth c H locs 0 0 (MQ below (wo_Q D cls cA base (some (.int r)) w') args s rm_js_indexOf_II.cells rm_js_indexOf_II.slots (wo_B base)) (F0 m 36 ls [.int z0]) := by
  obtain ⟨hx, hb, hr, hml, hown, hts, hlk, hnm, hK, hG⟩ := id C
  intro z0 w h H locs ls hW hl
  unfold f_js_indexOf_II_36 at h
  cases h
  exact wo_iret hx hb hr hlk hW d_js_indexOf_II_36
set_option maxHeartbeats 4000000 in
set_option maxRecDepth 100000 in
theorem c_js_indexOf_II (l : Launch) (D : va_G) (cA : Nat → ClassId) (base : Nat) {a0 : Nat} {a1 : Int32} {a2 : Int32} {w w' : WW} {r : Int32} (h : f_js_indexOf_II a0 a1 a2 w = some (r, w')) : mt l D cls (wo_tys cA) cA base y_js_indexOf_II (Cond.code y_js_indexOf_II b_js_indexOf_II 3 (some .int) :: gt) rm_js_indexOf_II [.ref (cA (100 + a0)), .int a1, .int a2] w (some (.int r)) w' rm_js_indexOf_II.cells rm_js_indexOf_II.slots := by
  refine mt_startF (by decide +kernel) (Nat.le_of_ble_eq_true rfl) ?_
  intro p e s m below meth c ls hx hb hr hml hown hts hlk hnm hK hG hW hl
  have C : cx b_js_indexOf_II (some .int) 3 y_js_indexOf_II.cls "indexOf" p s m [.ref (cA (100 + a0)), .int a1, .int a2].toArray meth c D cA base := ⟨hx, hb, hr, hml, hown, hts, hlk, hnm, hK, hG⟩
  have hl : lv_has ls 3 [(0, .ref (cA (100 + a0))), (1, .int a1), (2, .int a2)] := hl
  unfold f_js_indexOf_II at h
  replace h := its h
  obtain ⟨-, h⟩ := h
  refine lv_aload_n hx hb d_js_indexOf_II_0 rfl (lv_at hl 0 rfl) ?_
  replace h := bs2 h
  obtain ⟨x2, w1, hw1, h⟩ := h
  refine cv_js_492 (As := []) (rest := []) hx hb hml hown hts hK hG hW (c_js_isLatin1 l D cA base hw1) (kb_js_isLatin1 hw1) ⟨Nat.le_of_ble_eq_true rfl, Nat.le_of_ble_eq_true rfl⟩ ⟨Nat.le_of_ble_eq_true rfl, Nat.le_of_ble_eq_true rfl⟩ rfl hl.1 rfl (Nat.le_of_ble_eq_true rfl) d_js_indexOf_II_1 (fun H locs hW => ?_)
  refine lv_if_eq (tgt := 23) hx hb d_js_indexOf_II_4 (by decide) (fun c3 => ?_) (fun c3 => ?_)
  · rw [if_pos c3] at h
    refine lv_aload_n hx hb d_js_indexOf_II_23 rfl (lv_at hl 0 rfl) ?_
    replace h := its h
    obtain ⟨c4, h⟩ := h
    refine vk_getf (ref := "java/lang/String") hx hb (hG.2.2.2.2.2.2.2.2.1.1 a0 c4).2.2.1 hW.2.1 hown (hts _ (gt_of (i := 1737) (by decide +kernel) (by decide +kernel))) (fun _ h9 => h9) d_js_indexOf_II_24 ?_
    refine lv_iload_n hx hb d_js_indexOf_II_27 rfl (lv_at hl 1 rfl) ?_
    refine lv_iload_n hx hb d_js_indexOf_II_28 rfl (lv_at hl 2 rfl) ?_
    refine lv_aload_n hx hb d_js_indexOf_II_29 rfl (lv_at hl 0 rfl) ?_
    replace h := bs2 h
    obtain ⟨x6, w5, hw5, h⟩ := h
    refine cv_js_505 (As := []) (rest := [.int a2, .int a1, .ref (cA (200 + a0))]) hx hb hml hown hts hK hG hW (c_js_length l D cA base hw5) (kb_js_length hw5) ⟨Nat.le_of_ble_eq_true rfl, Nat.le_of_ble_eq_true rfl⟩ ⟨Nat.le_of_ble_eq_true rfl, Nat.le_of_ble_eq_true rfl⟩ rfl hl.1 rfl (Nat.le_of_ble_eq_true rfl) d_js_indexOf_II_30 (fun H locs hW => ?_)
    replace h := bs2 h
    obtain ⟨x8, w7, hw7, h⟩ := h
    refine cs_js_640 (As := [.ref (cA (200 + a0)), .int a1, .int a2, .int x6]) (rest := []) hx hb hml hown hts hK hG hW (c_ju_indexOf l D cA base hw7) ⟨Nat.le_of_ble_eq_true rfl, Nat.le_of_ble_eq_true rfl⟩ ⟨Nat.le_of_ble_eq_true rfl, Nat.le_of_ble_eq_true rfl⟩ rfl hl.1 rfl (Nat.le_of_ble_eq_true rfl) d_js_indexOf_II_33 (fun H locs hW => ?_)
    exact j_js_indexOf_II_36 C x8 w7 h _ _ _ hW (lv_sub hl [] rfl)
  · rw [if_neg c3] at h
    refine lv_aload_n hx hb d_js_indexOf_II_7 rfl (lv_at hl 0 rfl) ?_
    replace h := its h
    obtain ⟨c9, h⟩ := h
    refine vk_getf (ref := "java/lang/String") hx hb (hG.2.2.2.2.2.2.2.2.1.1 a0 c9).2.2.1 hW.2.1 hown (hts _ (gt_of (i := 1737) (by decide +kernel) (by decide +kernel))) (fun _ h9 => h9) d_js_indexOf_II_8 ?_
    refine lv_iload_n hx hb d_js_indexOf_II_11 rfl (lv_at hl 1 rfl) ?_
    refine lv_iload_n hx hb d_js_indexOf_II_12 rfl (lv_at hl 2 rfl) ?_
    refine lv_aload_n hx hb d_js_indexOf_II_13 rfl (lv_at hl 0 rfl) ?_
    replace h := bs2 h
    obtain ⟨x11, w10, hw10, h⟩ := h
    refine cv_js_505 (As := []) (rest := [.int a2, .int a1, .ref (cA (200 + a0))]) hx hb hml hown hts hK hG hW (c_js_length l D cA base hw10) (kb_js_length hw10) ⟨Nat.le_of_ble_eq_true rfl, Nat.le_of_ble_eq_true rfl⟩ ⟨Nat.le_of_ble_eq_true rfl, Nat.le_of_ble_eq_true rfl⟩ rfl hl.1 rfl (Nat.le_of_ble_eq_true rfl) d_js_indexOf_II_14 (fun H locs hW => ?_)
    replace h := bs2 h
    obtain ⟨x13, w12, hw12, h⟩ := h
    refine cs_js_637 (As := [.ref (cA (200 + a0)), .int a1, .int a2, .int x11]) (rest := []) hx hb hml hown hts hK hG hW (c_jl_indexOf l D cA base hw12) ⟨Nat.le_of_ble_eq_true rfl, Nat.le_of_ble_eq_true rfl⟩ ⟨Nat.le_of_ble_eq_true rfl, Nat.le_of_ble_eq_true rfl⟩ rfl hl.1 rfl (Nat.le_of_ble_eq_true rfl) d_js_indexOf_II_17 (fun H locs hW => ?_)
    refine lv_goto (tgt := 36) hx hb d_js_indexOf_II_20 (by decide) ?_
    exact j_js_indexOf_II_36 C x13 w12 h _ _ _ hW (lv_sub hl [] rfl)
theorem cv_js_633 {p : Program} {l : Launch} {e : Env} {R : Room} {s : State} {m : MethodId} {args : Array Value} {below : List Frame} {meth : Method} {c : Code} {H : Heap} {locs : List Loc} {cells slots : Nat} {Q : State → Prop} {D : va_G} {cA : Nat → ClassId} {base : Nat} {w w' : WW} {cc : ByteArray} {pc nL : Nat} {ls : Array Slot} {rest st0 As : List Value} {ov : Option Value} {b : Nat} (hx : p.tables.exec = Jvm.exec) (hb : c.code = cc) (hml : c.maxLocals = nL) (hown : s.vm.findClass Rc_js = some m.cls) (hts : ∀ w ∈ gt, w.before args s = true) (hK : va_K D cls (wo_tys cA) s) (hG : wo_G cA base s) (hW : wo_S D cls cA base s w H locs) (hM : mt l D cls (wo_tys cA) cA base y_js_indexOf_II (Cond.code y_js_indexOf_II b_js_indexOf_II 3 (some .int) :: gt) rm_js_indexOf_II (.ref (cA (100 + b)) :: As) w ov w' rm_js_indexOf_II.cells rm_js_indexOf_II.slots) (hkb : b < 6) (hR : rm_js_indexOf_II.frames + 1 ≤ R.frames ∧ 8 + (3 + 11) + rm_js_indexOf_II.locals ≤ R.locals) (hf : cells + rm_js_indexOf_II.cells ≤ R.cells ∧ slots + rm_js_indexOf_II.slots ≤ R.slots) (hn : As.length = 2) (hsz : ls.size = nL) (hst : st0 = As.reverse ++ .ref (cA (100 + b)) :: rest) (hcat : (rest.map fun v => v.category).sum ≤ 8) (hdg : decode cc pc = .ok (.invokevirtual 633, 3)) (kk : ∀ (H1 : Heap) (locs1 : List Loc), wo_S D cls cA base s w' H1 locs1 → W p l e R s m args below meth c H1 locs1 (cells + rm_js_indexOf_II.cells) (slots + rm_js_indexOf_II.slots) Q (F0 m (pc + 3) ls (ov.toList ++ rest))) : W p l e R s m args below meth c H locs cells slots Q (F0 m pc ls st0) :=
  wo_callVS hx hb hml hown hts hK hG hW hM hkb (gt_of (i := 586) (by decide +kernel) (by decide +kernel)) (gt_of (i := 587) (by decide +kernel) (by decide +kernel)) (gt_of (i := 588) (by decide +kernel) (by decide +kernel)) (gt_of (i := 16) (by decide +kernel) (by decide +kernel)) (gt_of (i := 589) (by decide +kernel) (by decide +kernel)) (by decide +kernel) hR hf hn hsz hst hcat hdg kk
abbrev b_js_indexOf_I : ByteArray := prog_20_method_79_code
def y_js_indexOf_I : MethodName := ⟨"java/lang/String", "indexOf", "(I)I"⟩
def rm_js_indexOf_I : Room := { frames := 3, cells := 0, slots := 0, locals := 70 }
theorem d_js_indexOf_I_0 : decode b_js_indexOf_I 0 = .ok (.aload_n 0, 1) := by decide +kernel
theorem d_js_indexOf_I_1 : decode b_js_indexOf_I 1 = .ok (.iload_n 1, 1) := by decide +kernel
theorem d_js_indexOf_I_2 : decode b_js_indexOf_I 2 = .ok (.iconst 0, 1) := by decide +kernel
theorem d_js_indexOf_I_3 : decode b_js_indexOf_I 3 = .ok (.invokevirtual 633, 3) := by decide +kernel
theorem d_js_indexOf_I_6 : decode b_js_indexOf_I 6 = .ok (.ireturn, 1) := by decide +kernel
theorem kb_js_indexOf_I {a0 : Nat} {a1 : Int32} {w : WW} {r : (Int32 × WW)} (h : f_js_indexOf_I a0 a1 w = some r) : a0 < 6 := (its h).1
set_option maxHeartbeats 4000000 in
set_option maxRecDepth 100000 in
theorem c_js_indexOf_I (l : Launch) (D : va_G) (cA : Nat → ClassId) (base : Nat) {a0 : Nat} {a1 : Int32} {w w' : WW} {r : Int32} (h : f_js_indexOf_I a0 a1 w = some (r, w')) : mt l D cls (wo_tys cA) cA base y_js_indexOf_I (Cond.code y_js_indexOf_I b_js_indexOf_I 2 (some .int) :: gt) rm_js_indexOf_I [.ref (cA (100 + a0)), .int a1] w (some (.int r)) w' rm_js_indexOf_I.cells rm_js_indexOf_I.slots := by
  refine mt_startF (by decide +kernel) (Nat.le_of_ble_eq_true rfl) ?_
  intro p e s m below meth c ls hx hb hr hml hown hts hlk hnm hK hG hW hl
  have C : cx b_js_indexOf_I (some .int) 2 y_js_indexOf_I.cls "indexOf" p s m [.ref (cA (100 + a0)), .int a1].toArray meth c D cA base := ⟨hx, hb, hr, hml, hown, hts, hlk, hnm, hK, hG⟩
  have hl : lv_has ls 2 [(0, .ref (cA (100 + a0))), (1, .int a1)] := hl
  unfold f_js_indexOf_I at h
  replace h := its h
  obtain ⟨-, h⟩ := h
  refine lv_aload_n hx hb d_js_indexOf_I_0 rfl (lv_at hl 0 rfl) ?_
  refine lv_iload_n hx hb d_js_indexOf_I_1 rfl (lv_at hl 1 rfl) ?_
  refine lv_iconst (v := (0 : Int32)) hx hb d_js_indexOf_I_2 (by decide) ?_
  replace h := bs2 h
  obtain ⟨x2, w1, hw1, h⟩ := h
  refine cv_js_633 (As := [.int a1, .int (0 : Int32)]) (rest := []) hx hb hml hown hts hK hG hW (c_js_indexOf_II l D cA base hw1) (kb_js_indexOf_II hw1) ⟨Nat.le_of_ble_eq_true rfl, Nat.le_of_ble_eq_true rfl⟩ ⟨Nat.le_of_ble_eq_true rfl, Nat.le_of_ble_eq_true rfl⟩ rfl hl.1 rfl (Nat.le_of_ble_eq_true rfl) d_js_indexOf_I_3 (fun H locs hW => ?_)
  cases h
  exact wo_iret hx hb hr hlk hW d_js_indexOf_I_6
theorem cv_rd_88 {p : Program} {l : Launch} {e : Env} {R : Room} {s : State} {m : MethodId} {args : Array Value} {below : List Frame} {meth : Method} {c : Code} {H : Heap} {locs : List Loc} {cells slots : Nat} {Q : State → Prop} {D : va_G} {cA : Nat → ClassId} {base : Nat} {w w' : WW} {cc : ByteArray} {pc nL : Nat} {ls : Array Slot} {rest st0 As : List Value} {ov : Option Value} {b : Nat} (hx : p.tables.exec = Jvm.exec) (hb : c.code = cc) (hml : c.maxLocals = nL) (hown : s.vm.findClass Rc_rd = some m.cls) (hts : ∀ w ∈ gt, w.before args s = true) (hK : va_K D cls (wo_tys cA) s) (hG : wo_G cA base s) (hW : wo_S D cls cA base s w H locs) (hM : mt l D cls (wo_tys cA) cA base y_js_indexOf_I (Cond.code y_js_indexOf_I b_js_indexOf_I 2 (some .int) :: gt) rm_js_indexOf_I (.ref (cA (100 + b)) :: As) w ov w' rm_js_indexOf_I.cells rm_js_indexOf_I.slots) (hkb : b < 6) (hR : rm_js_indexOf_I.frames + 1 ≤ R.frames ∧ 8 + (2 + 11) + rm_js_indexOf_I.locals ≤ R.locals) (hf : cells + rm_js_indexOf_I.cells ≤ R.cells ∧ slots + rm_js_indexOf_I.slots ≤ R.slots) (hn : As.length = 1) (hsz : ls.size = nL) (hst : st0 = As.reverse ++ .ref (cA (100 + b)) :: rest) (hcat : (rest.map fun v => v.category).sum ≤ 8) (hdg : decode cc pc = .ok (.invokevirtual 88, 3)) (kk : ∀ (H1 : Heap) (locs1 : List Loc), wo_S D cls cA base s w' H1 locs1 → W p l e R s m args below meth c H1 locs1 (cells + rm_js_indexOf_I.cells) (slots + rm_js_indexOf_I.slots) Q (F0 m (pc + 3) ls (ov.toList ++ rest))) : W p l e R s m args below meth c H locs cells slots Q (F0 m pc ls st0) :=
  wo_callVS hx hb hml hown hts hK hG hW hM hkb (gt_of (i := 582) (by decide +kernel) (by decide +kernel)) (gt_of (i := 583) (by decide +kernel) (by decide +kernel)) (gt_of (i := 584) (by decide +kernel) (by decide +kernel)) (gt_of (i := 16) (by decide +kernel) (by decide +kernel)) (gt_of (i := 585) (by decide +kernel) (by decide +kernel)) (by decide +kernel) hR hf hn hsz hst hcat hdg kk
abbrev b_rd_readSign : ByteArray := prog_5_method_9_code
def y_rd_readSign : MethodName := ⟨"AlarmForge$Reader", "readSign", "()V"⟩
def rm_rd_readSign : Room := { frames := 4, cells := 0, slots := 0, locals := 91 }
theorem d_rd_readSign_0 : decode b_rd_readSign 0 = .ok (.aload_n 0, 1) := by decide +kernel
theorem d_rd_readSign_1 : decode b_rd_readSign 1 = .ok (.getfield 9, 3) := by decide +kernel
theorem d_rd_readSign_4 : decode b_rd_readSign 4 = .ok (.aload_n 0, 1) := by decide +kernel
theorem d_rd_readSign_5 : decode b_rd_readSign 5 = .ok (.getfield 29, 3) := by decide +kernel
theorem d_rd_readSign_8 : decode b_rd_readSign 8 = .ok (.caload, 1) := by decide +kernel
theorem d_rd_readSign_9 : decode b_rd_readSign 9 = .ok (.istore_n 1, 1) := by decide +kernel
theorem d_rd_readSign_10 : decode b_rd_readSign 10 = .ok (.aload_n 0, 1) := by decide +kernel
theorem d_rd_readSign_11 : decode b_rd_readSign 11 = .ok (.dup, 1) := by decide +kernel
theorem d_rd_readSign_12 : decode b_rd_readSign 12 = .ok (.getfield 29, 3) := by decide +kernel
theorem d_rd_readSign_15 : decode b_rd_readSign 15 = .ok (.iconst 1, 1) := by decide +kernel
theorem d_rd_readSign_16 : decode b_rd_readSign 16 = .ok (.iadd, 1) := by decide +kernel
theorem d_rd_readSign_17 : decode b_rd_readSign 17 = .ok (.putfield 29, 3) := by decide +kernel
theorem d_rd_readSign_20 : decode b_rd_readSign 20 = .ok (.aload_n 0, 1) := by decide +kernel
theorem d_rd_readSign_21 : decode b_rd_readSign 21 = .ok (.getfield 29, 3) := by decide +kernel
theorem d_rd_readSign_24 : decode b_rd_readSign 24 = .ok (.aload_n 0, 1) := by decide +kernel
theorem d_rd_readSign_25 : decode b_rd_readSign 25 = .ok (.getfield 25, 3) := by decide +kernel
theorem d_rd_readSign_28 : decode b_rd_readSign 28 = .ok (.if_icmp .ge (21), 3) := by decide +kernel
theorem d_rd_readSign_31 : decode b_rd_readSign 31 = .ok (.aload_n 0, 1) := by decide +kernel
theorem d_rd_readSign_32 : decode b_rd_readSign 32 = .ok (.getfield 9, 3) := by decide +kernel
theorem d_rd_readSign_35 : decode b_rd_readSign 35 = .ok (.aload_n 0, 1) := by decide +kernel
theorem d_rd_readSign_36 : decode b_rd_readSign 36 = .ok (.getfield 29, 3) := by decide +kernel
theorem d_rd_readSign_39 : decode b_rd_readSign 39 = .ok (.caload, 1) := by decide +kernel
theorem d_rd_readSign_40 : decode b_rd_readSign 40 = .ok (.bipush (61), 2) := by decide +kernel
theorem d_rd_readSign_42 : decode b_rd_readSign 42 = .ok (.if_icmp .ne (7), 3) := by decide +kernel
theorem d_rd_readSign_45 : decode b_rd_readSign 45 = .ok (.iconst 1, 1) := by decide +kernel
theorem d_rd_readSign_46 : decode b_rd_readSign 46 = .ok (.goto (4), 3) := by decide +kernel
theorem d_rd_readSign_49 : decode b_rd_readSign 49 = .ok (.iconst 0, 1) := by decide +kernel
theorem d_rd_readSign_50 : decode b_rd_readSign 50 = .ok (.istore_n 2, 1) := by decide +kernel
theorem d_rd_readSign_51 : decode b_rd_readSign 51 = .ok (.iload_n 2, 1) := by decide +kernel
theorem d_rd_readSign_52 : decode b_rd_readSign 52 = .ok (.ifCond .eq (19), 3) := by decide +kernel
theorem d_rd_readSign_55 : decode b_rd_readSign 55 = .ok (.iload_n 1, 1) := by decide +kernel
theorem d_rd_readSign_56 : decode b_rd_readSign 56 = .ok (.bipush (61), 2) := by decide +kernel
theorem d_rd_readSign_58 : decode b_rd_readSign 58 = .ok (.if_icmp .ne (13), 3) := by decide +kernel
theorem d_rd_readSign_61 : decode b_rd_readSign 61 = .ok (.aload_n 0, 1) := by decide +kernel
theorem d_rd_readSign_62 : decode b_rd_readSign 62 = .ok (.sipush (256), 3) := by decide +kernel
theorem d_rd_readSign_65 : decode b_rd_readSign 65 = .ok (.putfield 32, 3) := by decide +kernel
theorem d_rd_readSign_68 : decode b_rd_readSign 68 = .ok (.goto (63), 3) := by decide +kernel
theorem d_rd_readSign_71 : decode b_rd_readSign 71 = .ok (.iload_n 2, 1) := by decide +kernel
theorem d_rd_readSign_72 : decode b_rd_readSign 72 = .ok (.ifCond .eq (19), 3) := by decide +kernel
theorem d_rd_readSign_75 : decode b_rd_readSign 75 = .ok (.iload_n 1, 1) := by decide +kernel
theorem d_rd_readSign_76 : decode b_rd_readSign 76 = .ok (.bipush (33), 2) := by decide +kernel
theorem d_rd_readSign_78 : decode b_rd_readSign 78 = .ok (.if_icmp .ne (13), 3) := by decide +kernel
theorem d_rd_readSign_81 : decode b_rd_readSign 81 = .ok (.aload_n 0, 1) := by decide +kernel
theorem d_rd_readSign_82 : decode b_rd_readSign 82 = .ok (.sipush (257), 3) := by decide +kernel
theorem d_rd_readSign_85 : decode b_rd_readSign 85 = .ok (.putfield 32, 3) := by decide +kernel
theorem d_rd_readSign_88 : decode b_rd_readSign 88 = .ok (.goto (43), 3) := by decide +kernel
theorem d_rd_readSign_91 : decode b_rd_readSign 91 = .ok (.iload_n 2, 1) := by decide +kernel
theorem d_rd_readSign_92 : decode b_rd_readSign 92 = .ok (.ifCond .eq (19), 3) := by decide +kernel
theorem d_rd_readSign_95 : decode b_rd_readSign 95 = .ok (.iload_n 1, 1) := by decide +kernel
theorem d_rd_readSign_96 : decode b_rd_readSign 96 = .ok (.bipush (60), 2) := by decide +kernel
theorem d_rd_readSign_98 : decode b_rd_readSign 98 = .ok (.if_icmp .ne (13), 3) := by decide +kernel
theorem d_rd_readSign_101 : decode b_rd_readSign 101 = .ok (.aload_n 0, 1) := by decide +kernel
theorem d_rd_readSign_102 : decode b_rd_readSign 102 = .ok (.sipush (258), 3) := by decide +kernel
theorem d_rd_readSign_105 : decode b_rd_readSign 105 = .ok (.putfield 32, 3) := by decide +kernel
theorem d_rd_readSign_108 : decode b_rd_readSign 108 = .ok (.goto (23), 3) := by decide +kernel
theorem d_rd_readSign_111 : decode b_rd_readSign 111 = .ok (.iconst 0, 1) := by decide +kernel
theorem d_rd_readSign_112 : decode b_rd_readSign 112 = .ok (.istore_n 2, 1) := by decide +kernel
theorem d_rd_readSign_113 : decode b_rd_readSign 113 = .ok (.aload_n 0, 1) := by decide +kernel
theorem d_rd_readSign_114 : decode b_rd_readSign 114 = .ok (.ldc 86, 2) := by decide +kernel
theorem d_rd_readSign_116 : decode b_rd_readSign 116 = .ok (.iload_n 1, 1) := by decide +kernel
theorem d_rd_readSign_117 : decode b_rd_readSign 117 = .ok (.invokevirtual 88, 3) := by decide +kernel
theorem d_rd_readSign_120 : decode b_rd_readSign 120 = .ok (.ifCond .lt (7), 3) := by decide +kernel
theorem d_rd_readSign_123 : decode b_rd_readSign 123 = .ok (.iload_n 1, 1) := by decide +kernel
theorem d_rd_readSign_124 : decode b_rd_readSign 124 = .ok (.goto (4), 3) := by decide +kernel
theorem d_rd_readSign_127 : decode b_rd_readSign 127 = .ok (.iconst (-1), 1) := by decide +kernel
theorem d_rd_readSign_128 : decode b_rd_readSign 128 = .ok (.putfield 32, 3) := by decide +kernel
theorem d_rd_readSign_131 : decode b_rd_readSign 131 = .ok (.iload_n 2, 1) := by decide +kernel
theorem d_rd_readSign_132 : decode b_rd_readSign 132 = .ok (.ifCond .eq (13), 3) := by decide +kernel
theorem d_rd_readSign_135 : decode b_rd_readSign 135 = .ok (.aload_n 0, 1) := by decide +kernel
theorem d_rd_readSign_136 : decode b_rd_readSign 136 = .ok (.dup, 1) := by decide +kernel
theorem d_rd_readSign_137 : decode b_rd_readSign 137 = .ok (.getfield 29, 3) := by decide +kernel
theorem d_rd_readSign_140 : decode b_rd_readSign 140 = .ok (.iconst 1, 1) := by decide +kernel
theorem d_rd_readSign_141 : decode b_rd_readSign 141 = .ok (.iadd, 1) := by decide +kernel
theorem d_rd_readSign_142 : decode b_rd_readSign 142 = .ok (.putfield 29, 3) := by decide +kernel
theorem d_rd_readSign_145 : decode b_rd_readSign 145 = .ok (.return_, 1) := by decide +kernel
theorem kb_rd_readSign {a0 : Nat}  {w : WW} {r : WW} (h : f_rd_readSign a0 w = some r) : kb w a0 1 = true := (its h).1
set_option maxHeartbeats 4000000 in
set_option maxRecDepth 100000 in
theorem j_rd_readSign_145 {p : Program} {l : Launch} {e : Env} {s : State} {m : MethodId} {args : Array Value} {below : List Frame} {meth : Method} {c : Code} {D : va_G} {cA : Nat → ClassId} {base : Nat} {w' : WW} (C : cx b_rd_readSign (none) 3 y_rd_readSign.cls "readSign" p s m args meth c D cA base)   : ∀  (w : WW), f_rd_readSign_145  w = some w' → ∀ (H : Heap) (locs : List Loc) (ls : Array Slot), wo_S D cls cA base s w H locs → lv_has ls 3 [] → W p l e rm_rd_readSign s m args below meth c H locs 0 0 (MQ below (wo_Q D cls cA base none w') args s rm_rd_readSign.cells rm_rd_readSign.slots (wo_B base)) (F0 m 145 ls []) := by
  obtain ⟨hx, hb, hr, hml, hown, hts, hlk, hnm, hK, hG⟩ := id C
  intro  w h H locs ls hW hl
  unfold f_rd_readSign_145 at h
  cases h
  exact wo_vret hx hb hr hlk hW d_rd_readSign_145
set_option maxHeartbeats 4000000 in
set_option maxRecDepth 100000 in
theorem j_rd_readSign_131 {p : Program} {l : Launch} {e : Env} {s : State} {m : MethodId} {args : Array Value} {below : List Frame} {meth : Method} {c : Code} {D : va_G} {cA : Nat → ClassId} {base : Nat} {w' : WW} (C : cx b_rd_readSign (none) 3 y_rd_readSign.cls "readSign" p s m args meth c D cA base)   : ∀ (y0 : Nat) (y2 : Int32) (w : WW), f_rd_readSign_131 y0 y2 w = some w' → ∀ (H : Heap) (locs : List Loc) (ls : Array Slot), wo_S D cls cA base s w H locs → lv_has ls 3 [(0, .ref (base + y0)), (2, .int y2)] → W p l e rm_rd_readSign s m args below meth c H locs 0 0 (MQ below (wo_Q D cls cA base none w') args s rm_rd_readSign.cells rm_rd_readSign.slots (wo_B base)) (F0 m 131 ls []) := by
  obtain ⟨hx, hb, hr, hml, hown, hts, hlk, hnm, hK, hG⟩ := id C
  intro y0 y2 w h H locs ls hW hl
  unfold f_rd_readSign_131 at h
  refine lv_iload_n hx hb d_rd_readSign_131 rfl (lv_at hl 1 rfl) ?_
  refine lv_if_eq (tgt := 145) hx hb d_rd_readSign_132 (by decide) (fun c16 => ?_) (fun c16 => ?_)
  · rw [if_pos c16] at h
    exact j_rd_readSign_145 C w h _ _ _ hW (lv_sub hl [] rfl)
  · rw [if_neg c16] at h
    refine lv_aload_n hx hb d_rd_readSign_135 rfl (lv_at hl 0 rfl) ?_
    refine lv_dup hx hb d_rd_readSign_136 rfl ?_
    replace h := bs h
    obtain ⟨x17, hx17, h⟩ := h
    refine gf_rd_29 hx hb hts hown hK hG hW (gI_s hx17) d_rd_readSign_137 ?_
    refine lv_iconst (v := (1 : Int32)) hx hb d_rd_readSign_140 (by decide) ?_
    refine lv_iadd hx hb d_rd_readSign_141 ?_
    replace h := bs h
    obtain ⟨w18, hw18, h⟩ := h
    refine pf_rd_29 hx hb hts hown hK hG hW rfl rfl (pbi hw18 rfl) d_rd_readSign_142 (fun H locs hW => ?_)
    exact j_rd_readSign_145 C w18 h _ _ _ hW (lv_sub hl [] rfl)
set_option maxHeartbeats 4000000 in
set_option maxRecDepth 100000 in
theorem j_rd_readSign_128 {p : Program} {l : Launch} {e : Env} {s : State} {m : MethodId} {args : Array Value} {below : List Frame} {meth : Method} {c : Code} {D : va_G} {cA : Nat → ClassId} {base : Nat} {w' : WW} (C : cx b_rd_readSign (none) 3 y_rd_readSign.cls "readSign" p s m args meth c D cA base)   : ∀ (y0 : Nat) (y2 : Int32) (z0 : Nat) (z1 : Int32) (w : WW), f_rd_readSign_128 y0 y2 z0 z1 w = some w' → ∀ (H : Heap) (locs : List Loc) (ls : Array Slot), wo_S D cls cA base s w H locs → lv_has ls 3 [(0, .ref (base + y0)), (2, .int y2)] → W p l e rm_rd_readSign s m args below meth c H locs 0 0 (MQ below (wo_Q D cls cA base none w') args s rm_rd_readSign.cells rm_rd_readSign.slots (wo_B base)) (F0 m 128 ls [.int z1, .ref (base + z0)]) := by
  obtain ⟨hx, hb, hr, hml, hown, hts, hlk, hnm, hK, hG⟩ := id C
  intro y0 y2 z0 z1 w h H locs ls hW hl
  unfold f_rd_readSign_128 at h
  replace h := bs h
  obtain ⟨w15, hw15, h⟩ := h
  refine pf_rd_32 hx hb hts hown hK hG hW rfl rfl (pbi hw15 rfl) d_rd_readSign_128 (fun H locs hW => ?_)
  exact j_rd_readSign_131 C y0 y2 w15 h _ _ _ hW (lv_sub hl [0, 1] rfl)
set_option maxHeartbeats 4000000 in
set_option maxRecDepth 100000 in
theorem j_rd_readSign_111 {p : Program} {l : Launch} {e : Env} {s : State} {m : MethodId} {args : Array Value} {below : List Frame} {meth : Method} {c : Code} {D : va_G} {cA : Nat → ClassId} {base : Nat} {w' : WW} (C : cx b_rd_readSign (none) 3 y_rd_readSign.cls "readSign" p s m args meth c D cA base)   : ∀ (y0 : Nat) (y1 : Int32) (w : WW), f_rd_readSign_111 y0 y1 w = some w' → ∀ (H : Heap) (locs : List Loc) (ls : Array Slot), wo_S D cls cA base s w H locs → lv_has ls 3 [(0, .ref (base + y0)), (1, .int y1)] → W p l e rm_rd_readSign s m args below meth c H locs 0 0 (MQ below (wo_Q D cls cA base none w') args s rm_rd_readSign.cells rm_rd_readSign.slots (wo_B base)) (F0 m 111 ls []) := by
  obtain ⟨hx, hb, hr, hml, hown, hts, hlk, hnm, hK, hG⟩ := id C
  intro y0 y1 w h H locs ls hW hl
  unfold f_rd_readSign_111 at h
  refine lv_iconst (v := (0 : Int32)) hx hb d_rd_readSign_111 (by decide) ?_
  refine lv_istore_n (lv' := [(2, .int (0 : Int32)), (0, .ref (base + y0)), (1, .int y1)]) hx hb d_rd_readSign_112 rfl hl (by decide) rfl (fun ls hl => ?_)
  refine lv_aload_n hx hb d_rd_readSign_113 rfl (lv_at hl 1 rfl) ?_
  refine va_ldcS (index := 86) (tx := sTx.getD 5 "") (q := cA (100 + 5)) hx hb hown (hG.2.2.2.2.2.2.2.2.2.1 5 (by decide)) d_rd_readSign_114 ?_
  refine lv_iload_n hx hb d_rd_readSign_116 rfl (lv_at hl 2 rfl) ?_
  replace h := bs2 h
  obtain ⟨x13, w12, hw12, h⟩ := h
  refine cv_rd_88 (As := [.int y1]) (rest := [.ref (base + y0)]) hx hb hml hown hts hK hG hW (c_js_indexOf_I l D cA base hw12) (kb_js_indexOf_I hw12) ⟨Nat.le_of_ble_eq_true rfl, Nat.le_of_ble_eq_true rfl⟩ ⟨Nat.le_of_ble_eq_true rfl, Nat.le_of_ble_eq_true rfl⟩ rfl hl.1 rfl (Nat.le_of_ble_eq_true rfl) d_rd_readSign_117 (fun H locs hW => ?_)
  refine lv_if_lt (tgt := 127) hx hb d_rd_readSign_120 (by decide) (fun c14 => ?_) (fun c14 => ?_)
  · rw [if_pos c14] at h
    refine lv_iconst (v := (-1 : Int32)) hx hb d_rd_readSign_127 (by decide) ?_
    exact j_rd_readSign_128 C y0 (0 : Int32) y0 (-1 : Int32) w12 h _ _ _ hW (lv_sub hl [1, 0] rfl)
  · rw [if_neg c14] at h
    refine lv_iload_n hx hb d_rd_readSign_123 rfl (lv_at hl 2 rfl) ?_
    refine lv_goto (tgt := 128) hx hb d_rd_readSign_124 (by decide) ?_
    exact j_rd_readSign_128 C y0 (0 : Int32) y0 y1 w12 h _ _ _ hW (lv_sub hl [1, 0] rfl)
set_option maxHeartbeats 4000000 in
set_option maxRecDepth 100000 in
theorem j_rd_readSign_91 {p : Program} {l : Launch} {e : Env} {s : State} {m : MethodId} {args : Array Value} {below : List Frame} {meth : Method} {c : Code} {D : va_G} {cA : Nat → ClassId} {base : Nat} {w' : WW} (C : cx b_rd_readSign (none) 3 y_rd_readSign.cls "readSign" p s m args meth c D cA base)   : ∀ (y0 : Nat) (y1 : Int32) (y2 : Int32) (w : WW), f_rd_readSign_91 y0 y1 y2 w = some w' → ∀ (H : Heap) (locs : List Loc) (ls : Array Slot), wo_S D cls cA base s w H locs → lv_has ls 3 [(0, .ref (base + y0)), (1, .int y1), (2, .int y2)] → W p l e rm_rd_readSign s m args below meth c H locs 0 0 (MQ below (wo_Q D cls cA base none w') args s rm_rd_readSign.cells rm_rd_readSign.slots (wo_B base)) (F0 m 91 ls []) := by
  obtain ⟨hx, hb, hr, hml, hown, hts, hlk, hnm, hK, hG⟩ := id C
  intro y0 y1 y2 w h H locs ls hW hl
  unfold f_rd_readSign_91 at h
  refine lv_iload_n hx hb d_rd_readSign_91 rfl (lv_at hl 2 rfl) ?_
  refine lv_if_eq (tgt := 111) hx hb d_rd_readSign_92 (by decide) (fun c11 => ?_) (fun c11 => ?_)
  · rw [if_pos c11] at h
    exact j_rd_readSign_111 C y0 y1 w h _ _ _ hW (lv_sub hl [0, 1] rfl)
  · rw [if_neg c11] at h
    refine lv_iload_n hx hb d_rd_readSign_95 rfl (lv_at hl 1 rfl) ?_
    refine lv_bipush (v := (60 : Int32)) hx hb d_rd_readSign_96 (by decide) ?_
    refine lv_icmp_ne (tgt := 111) hx hb d_rd_readSign_98 (by decide) (fun c19 => ?_) (fun c19 => ?_)
    · rw [if_neg c19] at h
      exact j_rd_readSign_111 C y0 y1 w h _ _ _ hW (lv_sub hl [0, 1] rfl)
    · rw [if_pos c19] at h
      refine lv_aload_n hx hb d_rd_readSign_101 rfl (lv_at hl 0 rfl) ?_
      refine lv_sipush (v := (258 : Int32)) hx hb d_rd_readSign_102 (by decide) ?_
      replace h := bs h
      obtain ⟨w20, hw20, h⟩ := h
      refine pf_rd_32 hx hb hts hown hK hG hW rfl rfl (pbi hw20 rfl) d_rd_readSign_105 (fun H locs hW => ?_)
      refine lv_goto (tgt := 131) hx hb d_rd_readSign_108 (by decide) ?_
      exact j_rd_readSign_131 C y0 y2 w20 h _ _ _ hW (lv_sub hl [0, 2] rfl)
set_option maxHeartbeats 4000000 in
set_option maxRecDepth 100000 in
theorem j_rd_readSign_71 {p : Program} {l : Launch} {e : Env} {s : State} {m : MethodId} {args : Array Value} {below : List Frame} {meth : Method} {c : Code} {D : va_G} {cA : Nat → ClassId} {base : Nat} {w' : WW} (C : cx b_rd_readSign (none) 3 y_rd_readSign.cls "readSign" p s m args meth c D cA base)   : ∀ (y0 : Nat) (y1 : Int32) (y2 : Int32) (w : WW), f_rd_readSign_71 y0 y1 y2 w = some w' → ∀ (H : Heap) (locs : List Loc) (ls : Array Slot), wo_S D cls cA base s w H locs → lv_has ls 3 [(0, .ref (base + y0)), (1, .int y1), (2, .int y2)] → W p l e rm_rd_readSign s m args below meth c H locs 0 0 (MQ below (wo_Q D cls cA base none w') args s rm_rd_readSign.cells rm_rd_readSign.slots (wo_B base)) (F0 m 71 ls []) := by
  obtain ⟨hx, hb, hr, hml, hown, hts, hlk, hnm, hK, hG⟩ := id C
  intro y0 y1 y2 w h H locs ls hW hl
  unfold f_rd_readSign_71 at h
  refine lv_iload_n hx hb d_rd_readSign_71 rfl (lv_at hl 2 rfl) ?_
  refine lv_if_eq (tgt := 91) hx hb d_rd_readSign_72 (by decide) (fun c10 => ?_) (fun c10 => ?_)
  · rw [if_pos c10] at h
    exact j_rd_readSign_91 C y0 y1 y2 w h _ _ _ hW (lv_sub hl [0, 1, 2] rfl)
  · rw [if_neg c10] at h
    refine lv_iload_n hx hb d_rd_readSign_75 rfl (lv_at hl 1 rfl) ?_
    refine lv_bipush (v := (33 : Int32)) hx hb d_rd_readSign_76 (by decide) ?_
    refine lv_icmp_ne (tgt := 91) hx hb d_rd_readSign_78 (by decide) (fun c21 => ?_) (fun c21 => ?_)
    · rw [if_neg c21] at h
      exact j_rd_readSign_91 C y0 y1 y2 w h _ _ _ hW (lv_sub hl [0, 1, 2] rfl)
    · rw [if_pos c21] at h
      refine lv_aload_n hx hb d_rd_readSign_81 rfl (lv_at hl 0 rfl) ?_
      refine lv_sipush (v := (257 : Int32)) hx hb d_rd_readSign_82 (by decide) ?_
      replace h := bs h
      obtain ⟨w22, hw22, h⟩ := h
      refine pf_rd_32 hx hb hts hown hK hG hW rfl rfl (pbi hw22 rfl) d_rd_readSign_85 (fun H locs hW => ?_)
      refine lv_goto (tgt := 131) hx hb d_rd_readSign_88 (by decide) ?_
      exact j_rd_readSign_131 C y0 y2 w22 h _ _ _ hW (lv_sub hl [0, 2] rfl)
set_option maxHeartbeats 4000000 in
set_option maxRecDepth 100000 in
theorem j_rd_readSign_50 {p : Program} {l : Launch} {e : Env} {s : State} {m : MethodId} {args : Array Value} {below : List Frame} {meth : Method} {c : Code} {D : va_G} {cA : Nat → ClassId} {base : Nat} {w' : WW} (C : cx b_rd_readSign (none) 3 y_rd_readSign.cls "readSign" p s m args meth c D cA base)   : ∀ (y0 : Nat) (y1 : Int32) (z0 : Int32) (w : WW), f_rd_readSign_50 y0 y1 z0 w = some w' → ∀ (H : Heap) (locs : List Loc) (ls : Array Slot), wo_S D cls cA base s w H locs → lv_has ls 3 [(0, .ref (base + y0)), (1, .int y1)] → W p l e rm_rd_readSign s m args below meth c H locs 0 0 (MQ below (wo_Q D cls cA base none w') args s rm_rd_readSign.cells rm_rd_readSign.slots (wo_B base)) (F0 m 50 ls [.int z0]) := by
  obtain ⟨hx, hb, hr, hml, hown, hts, hlk, hnm, hK, hG⟩ := id C
  intro y0 y1 z0 w h H locs ls hW hl
  unfold f_rd_readSign_50 at h
  refine lv_istore_n (lv' := [(2, .int z0), (0, .ref (base + y0)), (1, .int y1)]) hx hb d_rd_readSign_50 rfl hl (by decide) rfl (fun ls hl => ?_)
  refine lv_iload_n hx hb d_rd_readSign_51 rfl (lv_at hl 0 rfl) ?_
  refine lv_if_eq (tgt := 71) hx hb d_rd_readSign_52 (by decide) (fun c9 => ?_) (fun c9 => ?_)
  · rw [if_pos c9] at h
    exact j_rd_readSign_71 C y0 y1 z0 w h _ _ _ hW (lv_sub hl [1, 2, 0] rfl)
  · rw [if_neg c9] at h
    refine lv_iload_n hx hb d_rd_readSign_55 rfl (lv_at hl 2 rfl) ?_
    refine lv_bipush (v := (61 : Int32)) hx hb d_rd_readSign_56 (by decide) ?_
    refine lv_icmp_ne (tgt := 71) hx hb d_rd_readSign_58 (by decide) (fun c23 => ?_) (fun c23 => ?_)
    · rw [if_neg c23] at h
      exact j_rd_readSign_71 C y0 y1 z0 w h _ _ _ hW (lv_sub hl [1, 2, 0] rfl)
    · rw [if_pos c23] at h
      refine lv_aload_n hx hb d_rd_readSign_61 rfl (lv_at hl 1 rfl) ?_
      refine lv_sipush (v := (256 : Int32)) hx hb d_rd_readSign_62 (by decide) ?_
      replace h := bs h
      obtain ⟨w24, hw24, h⟩ := h
      refine pf_rd_32 hx hb hts hown hK hG hW rfl rfl (pbi hw24 rfl) d_rd_readSign_65 (fun H locs hW => ?_)
      refine lv_goto (tgt := 131) hx hb d_rd_readSign_68 (by decide) ?_
      exact j_rd_readSign_131 C y0 z0 w24 h _ _ _ hW (lv_sub hl [1, 0] rfl)
set_option maxHeartbeats 4000000 in
set_option maxRecDepth 100000 in
theorem j_rd_readSign_49 {p : Program} {l : Launch} {e : Env} {s : State} {m : MethodId} {args : Array Value} {below : List Frame} {meth : Method} {c : Code} {D : va_G} {cA : Nat → ClassId} {base : Nat} {w' : WW} (C : cx b_rd_readSign (none) 3 y_rd_readSign.cls "readSign" p s m args meth c D cA base)   : ∀ (y0 : Nat) (y1 : Int32) (w : WW), f_rd_readSign_49 y0 y1 w = some w' → ∀ (H : Heap) (locs : List Loc) (ls : Array Slot), wo_S D cls cA base s w H locs → lv_has ls 3 [(0, .ref (base + y0)), (1, .int y1)] → W p l e rm_rd_readSign s m args below meth c H locs 0 0 (MQ below (wo_Q D cls cA base none w') args s rm_rd_readSign.cells rm_rd_readSign.slots (wo_B base)) (F0 m 49 ls []) := by
  obtain ⟨hx, hb, hr, hml, hown, hts, hlk, hnm, hK, hG⟩ := id C
  intro y0 y1 w h H locs ls hW hl
  unfold f_rd_readSign_49 at h
  refine lv_iconst (v := (0 : Int32)) hx hb d_rd_readSign_49 (by decide) ?_
  exact j_rd_readSign_50 C y0 y1 (0 : Int32) w h _ _ _ hW (lv_sub hl [0, 1] rfl)
set_option maxHeartbeats 4000000 in
set_option maxRecDepth 100000 in
theorem c_rd_readSign (l : Launch) (D : va_G) (cA : Nat → ClassId) (base : Nat) {a0 : Nat} {w w' : WW} (h : f_rd_readSign a0 w = some w') : mt l D cls (wo_tys cA) cA base y_rd_readSign (Cond.code y_rd_readSign b_rd_readSign 3 (none) :: gt) rm_rd_readSign [.ref (base + a0)] w none w' rm_rd_readSign.cells rm_rd_readSign.slots := by
  refine mt_start (by decide) (Nat.le_of_ble_eq_true rfl) ?_
  intro p e s m below meth c ls hx hb hr hml hown hts hlk hnm hK hG hW hl
  have C : cx b_rd_readSign (none) 3 y_rd_readSign.cls "readSign" p s m [.ref (base + a0)].toArray meth c D cA base := ⟨hx, hb, hr, hml, hown, hts, hlk, hnm, hK, hG⟩
  have hl : lv_has ls 3 [(0, .ref (base + a0))] := hl
  unfold f_rd_readSign at h
  replace h := its h
  obtain ⟨-, h⟩ := h
  refine lv_aload_n hx hb d_rd_readSign_0 rfl (lv_at hl 0 rfl) ?_
  replace h := bs h
  obtain ⟨x1, hx1, h⟩ := h
  refine gf_rd_9 hx hb hts hown hK hG hW (gN_s hx1) d_rd_readSign_1 ?_
  refine lv_aload_n hx hb d_rd_readSign_4 rfl (lv_at hl 0 rfl) ?_
  replace h := bs h
  obtain ⟨x2, hx2, h⟩ := h
  refine gf_rd_29 hx hb hts hown hK hG hW (gI_s hx2) d_rd_readSign_5 ?_
  replace h := bs h
  obtain ⟨x3, hx3, h⟩ := h
  refine wo_cald hx hb hK hW (t := 3) rfl hx3 d_rd_readSign_8 ?_
  refine lv_istore_n (lv' := [(1, .int x3), (0, .ref (base + a0))]) hx hb d_rd_readSign_9 rfl hl (by decide) rfl (fun ls hl => ?_)
  refine lv_aload_n hx hb d_rd_readSign_10 rfl (lv_at hl 1 rfl) ?_
  refine lv_dup hx hb d_rd_readSign_11 rfl ?_
  replace h := bs h
  obtain ⟨x4, hx4, h⟩ := h
  refine gf_rd_29 hx hb hts hown hK hG hW (gI_s hx4) d_rd_readSign_12 ?_
  refine lv_iconst (v := (1 : Int32)) hx hb d_rd_readSign_15 (by decide) ?_
  refine lv_iadd hx hb d_rd_readSign_16 ?_
  replace h := bs h
  obtain ⟨w5, hw5, h⟩ := h
  refine pf_rd_29 hx hb hts hown hK hG hW rfl rfl (pbi hw5 rfl) d_rd_readSign_17 (fun H locs hW => ?_)
  refine lv_aload_n hx hb d_rd_readSign_20 rfl (lv_at hl 1 rfl) ?_
  replace h := bs h
  obtain ⟨x6, hx6, h⟩ := h
  refine gf_rd_29 hx hb hts hown hK hG hW (gI_s hx6) d_rd_readSign_21 ?_
  refine lv_aload_n hx hb d_rd_readSign_24 rfl (lv_at hl 1 rfl) ?_
  replace h := bs h
  obtain ⟨x7, hx7, h⟩ := h
  refine gf_rd_25 hx hb hts hown hK hG hW (gI_s hx7) d_rd_readSign_25 ?_
  refine lv_icmp_ge (tgt := 49) hx hb d_rd_readSign_28 (by decide) (fun c8 => ?_) (fun c8 => ?_)
  · rw [if_pos c8] at h
    exact j_rd_readSign_49 C a0 x3 w5 h _ _ _ hW (lv_sub hl [1, 0] rfl)
  · rw [if_neg c8] at h
    refine lv_aload_n hx hb d_rd_readSign_31 rfl (lv_at hl 1 rfl) ?_
    replace h := bs h
    obtain ⟨x25, hx25, h⟩ := h
    refine gf_rd_9 hx hb hts hown hK hG hW (gN_s hx25) d_rd_readSign_32 ?_
    refine lv_aload_n hx hb d_rd_readSign_35 rfl (lv_at hl 1 rfl) ?_
    replace h := bs h
    obtain ⟨x26, hx26, h⟩ := h
    refine gf_rd_29 hx hb hts hown hK hG hW (gI_s hx26) d_rd_readSign_36 ?_
    replace h := bs h
    obtain ⟨x27, hx27, h⟩ := h
    refine wo_cald hx hb hK hW (t := 3) rfl hx27 d_rd_readSign_39 ?_
    refine lv_bipush (v := (61 : Int32)) hx hb d_rd_readSign_40 (by decide) ?_
    refine lv_icmp_ne (tgt := 49) hx hb d_rd_readSign_42 (by decide) (fun c28 => ?_) (fun c28 => ?_)
    · rw [if_neg c28] at h
      exact j_rd_readSign_49 C a0 x3 w5 h _ _ _ hW (lv_sub hl [1, 0] rfl)
    · rw [if_pos c28] at h
      refine lv_iconst (v := (1 : Int32)) hx hb d_rd_readSign_45 (by decide) ?_
      refine lv_goto (tgt := 50) hx hb d_rd_readSign_46 (by decide) ?_
      exact j_rd_readSign_50 C a0 x3 (1 : Int32) w5 h _ _ _ hW (lv_sub hl [1, 0] rfl)
