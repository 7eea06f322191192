/-! The law's loop (by wip/gen/law.py). -/
theorem cs_lw_59 {p : Program} {l : Launch} {e : Env} {R : Room} {s : State} {m : MethodId} {args : Array Value} {below : List Frame} {meth : Method} {c : Code} {H : Heap} {locs : List Loc} {cells slots : Nat} {Q : State → Prop} {D : va_G} {cA : Nat → ClassId} {base : Nat} {w w' : WW} {cc : ByteArray} {pc nL : Nat} {ls : Array Slot} {rest st0 As : List Value} {ov : Option Value} (hx : p.tables.exec = Jvm.exec) (hb : c.code = cc) (hml : c.maxLocals = nL) (hown : s.vm.findClass Rc_lw = some m.cls) (hts : ∀ w ∈ gt, w.before args s = true) (hK : va_K D cls (wo_tys cA) s) (hG : wo_G base s) (hW : wo_S D cls cA base s w H locs) (hM : mt l D cls (wo_tys cA) cA base y_lw_text (Cond.codeWith y_lw_text b_lw_text 5 (some .int) hh_lw_text :: gt) rm_lw_text As w ov w' rm_lw_text.cells rm_lw_text.slots) (hR : rm_lw_text.frames + 1 ≤ R.frames ∧ 8 + (5 + 11) + rm_lw_text.locals ≤ R.locals) (hf : cells + rm_lw_text.cells ≤ R.cells ∧ slots + rm_lw_text.slots ≤ R.slots) (hn : As.length = 3) (hsz : ls.size = nL) (hst : st0 = As.reverse ++ rest) (hcat : (rest.map fun v => v.category).sum ≤ 8) (hdg : decode cc pc = .ok (.invokestatic 59, 3)) (kk : ∀ (H1 : Heap) (locs1 : List Loc), wo_S D cls cA base s w' H1 locs1 → W p l e R s m args below meth c H1 locs1 (cells + rm_lw_text.cells) (slots + rm_lw_text.slots) Q (F0 m (pc + 3) ls (ov.toList ++ rest))) : W p l e R s m args below meth c H locs cells slots Q (F0 m pc ls st0) :=
  wo_callSW hx hb hml hown hts hK hG hW hM (gt_of (i := 380) (by decide +kernel) (by decide +kernel)) (gt_of (i := 381) (by decide +kernel) (by decide +kernel)) (gt_of (i := 0) (by decide +kernel) (by decide +kernel)) (gt_of (i := 382) (by decide +kernel) (by decide +kernel)) (by decide +kernel) hR hf hn hsz hst hcat hdg kk
theorem cv_lw_64 {p : Program} {l : Launch} {e : Env} {R : Room} {s : State} {m : MethodId} {args : Array Value} {below : List Frame} {meth : Method} {c : Code} {H : Heap} {locs : List Loc} {cells slots : Nat} {Q : State → Prop} {D : va_G} {cA : Nat → ClassId} {base : Nat} {w w' : WW} {cc : ByteArray} {pc nL : Nat} {ls : Array Slot} {rest st0 As : List Value} {ov : Option Value} {b : Nat} (hx : p.tables.exec = Jvm.exec) (hb : c.code = cc) (hml : c.maxLocals = nL) (hown : s.vm.findClass Rc_lw = some m.cls) (hts : ∀ w ∈ gt, w.before args s = true) (hK : va_K D cls (wo_tys cA) s) (hG : wo_G base s) (hW : wo_S D cls cA base s w H locs) (hM : mt l D cls (wo_tys cA) cA base y_q_text (Cond.code y_q_text b_q_text 7 (some .int) :: gt) rm_q_text (.ref (base + b) :: As) w ov w' rm_q_text.cells rm_q_text.slots) (hkb : kb w b 9 = true) (hR : rm_q_text.frames + 1 ≤ R.frames ∧ 8 + (7 + 11) + rm_q_text.locals ≤ R.locals) (hf : cells + rm_q_text.cells ≤ R.cells ∧ slots + rm_q_text.slots ≤ R.slots) (hn : As.length = 1) (hsz : ls.size = nL) (hst : st0 = As.reverse ++ .ref (base + b) :: rest) (hcat : (rest.map fun v => v.category).sum ≤ 8) (hdg : decode cc pc = .ok (.invokevirtual 64, 3)) (kk : ∀ (H1 : Heap) (locs1 : List Loc), wo_S D cls cA base s w' H1 locs1 → W p l e R s m args below meth c H1 locs1 (cells + rm_q_text.cells) (slots + rm_q_text.slots) Q (F0 m (pc + 3) ls (ov.toList ++ rest))) : W p l e R s m args below meth c H locs cells slots Q (F0 m pc ls st0) :=
  wo_callV (C := Rc_q) hx hb hml hown hts hK hG hW hM hkb rfl (gt_of (i := 1369) (by decide +kernel) (by decide +kernel)) (gt_of (i := 1370) (by decide +kernel) (by decide +kernel)) (gt_of (i := 1371) (by decide +kernel) (by decide +kernel)) (gt_of (i := 10) (by decide +kernel) (by decide +kernel)) (gt_of (i := 1372) (by decide +kernel) (by decide +kernel)) (by decide +kernel) hR hf hn hsz hst hcat hdg kk
theorem cv_lw_65 {p : Program} {l : Launch} {e : Env} {R : Room} {s : State} {m : MethodId} {args : Array Value} {below : List Frame} {meth : Method} {c : Code} {H : Heap} {locs : List Loc} {cells slots : Nat} {Q : State → Prop} {D : va_G} {cA : Nat → ClassId} {base : Nat} {w w' : WW} {cc : ByteArray} {pc nL : Nat} {ls : Array Slot} {rest st0 As : List Value} {ov : Option Value} {b : Nat} (hx : p.tables.exec = Jvm.exec) (hb : c.code = cc) (hml : c.maxLocals = nL) (hown : s.vm.findClass Rc_lw = some m.cls) (hts : ∀ w ∈ gt, w.before args s = true) (hK : va_K D cls (wo_tys cA) s) (hG : wo_G base s) (hW : wo_S D cls cA base s w H locs) (hM : mt l D cls (wo_tys cA) cA base y_q_thrown (Cond.code y_q_thrown b_q_thrown 1 (some .int) :: gt) rm_q_thrown (.ref (base + b) :: As) w ov w' rm_q_thrown.cells rm_q_thrown.slots) (hkb : kb w b 9 = true) (hR : rm_q_thrown.frames + 1 ≤ R.frames ∧ 8 + (1 + 11) + rm_q_thrown.locals ≤ R.locals) (hf : cells + rm_q_thrown.cells ≤ R.cells ∧ slots + rm_q_thrown.slots ≤ R.slots) (hn : As.length = 0) (hsz : ls.size = nL) (hst : st0 = As.reverse ++ .ref (base + b) :: rest) (hcat : (rest.map fun v => v.category).sum ≤ 8) (hdg : decode cc pc = .ok (.invokevirtual 65, 3)) (kk : ∀ (H1 : Heap) (locs1 : List Loc), wo_S D cls cA base s w' H1 locs1 → W p l e R s m args below meth c H1 locs1 (cells + rm_q_thrown.cells) (slots + rm_q_thrown.slots) Q (F0 m (pc + 3) ls (ov.toList ++ rest))) : W p l e R s m args below meth c H locs cells slots Q (F0 m pc ls st0) :=
  wo_callV (C := Rc_q) hx hb hml hown hts hK hG hW hM hkb rfl (gt_of (i := 1365) (by decide +kernel) (by decide +kernel)) (gt_of (i := 1366) (by decide +kernel) (by decide +kernel)) (gt_of (i := 1367) (by decide +kernel) (by decide +kernel)) (gt_of (i := 10) (by decide +kernel) (by decide +kernel)) (gt_of (i := 1368) (by decide +kernel) (by decide +kernel)) (by decide +kernel) hR hf hn hsz hst hcat hdg kk
theorem cv_lw_68 {p : Program} {l : Launch} {e : Env} {R : Room} {s : State} {m : MethodId} {args : Array Value} {below : List Frame} {meth : Method} {c : Code} {H : Heap} {locs : List Loc} {cells slots : Nat} {Q : State → Prop} {D : va_G} {cA : Nat → ClassId} {base : Nat} {w w' : WW} {cc : ByteArray} {pc nL : Nat} {ls : Array Slot} {rest st0 As : List Value} {ov : Option Value} {b : Nat} (hx : p.tables.exec = Jvm.exec) (hb : c.code = cc) (hml : c.maxLocals = nL) (hown : s.vm.findClass Rc_lw = some m.cls) (hts : ∀ w ∈ gt, w.before args s = true) (hK : va_K D cls (wo_tys cA) s) (hG : wo_G base s) (hW : wo_S D cls cA base s w H locs) (hM : mt l D cls (wo_tys cA) cA base y_a_clear (Cond.code y_a_clear b_a_clear 2 (some .int) :: gt) rm_a_clear (.ref (base + b) :: As) w ov w' rm_a_clear.cells rm_a_clear.slots) (hkb : kb w b 0 = true) (hR : rm_a_clear.frames + 1 ≤ R.frames ∧ 8 + (2 + 11) + rm_a_clear.locals ≤ R.locals) (hf : cells + rm_a_clear.cells ≤ R.cells ∧ slots + rm_a_clear.slots ≤ R.slots) (hn : As.length = 0) (hsz : ls.size = nL) (hst : st0 = As.reverse ++ .ref (base + b) :: rest) (hcat : (rest.map fun v => v.category).sum ≤ 8) (hdg : decode cc pc = .ok (.invokevirtual 68, 3)) (kk : ∀ (H1 : Heap) (locs1 : List Loc), wo_S D cls cA base s w' H1 locs1 → W p l e R s m args below meth c H1 locs1 (cells + rm_a_clear.cells) (slots + rm_a_clear.slots) Q (F0 m (pc + 3) ls (ov.toList ++ rest))) : W p l e R s m args below meth c H locs cells slots Q (F0 m pc ls st0) :=
  wo_callV (C := Rc_a) hx hb hml hown hts hK hG hW hM hkb rfl (gt_of (i := 368) (by decide +kernel) (by decide +kernel)) (gt_of (i := 369) (by decide +kernel) (by decide +kernel)) (gt_of (i := 370) (by decide +kernel) (by decide +kernel)) (gt_of (i := 1) (by decide +kernel) (by decide +kernel)) (gt_of (i := 371) (by decide +kernel) (by decide +kernel)) (by decide +kernel) hR hf hn hsz hst hcat hdg kk
theorem cv_lw_71 {p : Program} {l : Launch} {e : Env} {R : Room} {s : State} {m : MethodId} {args : Array Value} {below : List Frame} {meth : Method} {c : Code} {H : Heap} {locs : List Loc} {cells slots : Nat} {Q : State → Prop} {D : va_G} {cA : Nat → ClassId} {base : Nat} {w w' : WW} {cc : ByteArray} {pc nL : Nat} {ls : Array Slot} {rest st0 As : List Value} {ov : Option Value} {b : Nat} (hx : p.tables.exec = Jvm.exec) (hb : c.code = cc) (hml : c.maxLocals = nL) (hown : s.vm.findClass Rc_lw = some m.cls) (hts : ∀ w ∈ gt, w.before args s = true) (hK : va_K D cls (wo_tys cA) s) (hG : wo_G base s) (hW : wo_S D cls cA base s w H locs) (hM : mt l D cls (wo_tys cA) cA base y_q_clear (Cond.code y_q_clear b_q_clear 2 (some .int) :: gt) rm_q_clear (.ref (base + b) :: As) w ov w' rm_q_clear.cells rm_q_clear.slots) (hkb : kb w b 9 = true) (hR : rm_q_clear.frames + 1 ≤ R.frames ∧ 8 + (2 + 11) + rm_q_clear.locals ≤ R.locals) (hf : cells + rm_q_clear.cells ≤ R.cells ∧ slots + rm_q_clear.slots ≤ R.slots) (hn : As.length = 0) (hsz : ls.size = nL) (hst : st0 = As.reverse ++ .ref (base + b) :: rest) (hcat : (rest.map fun v => v.category).sum ≤ 8) (hdg : decode cc pc = .ok (.invokevirtual 71, 3)) (kk : ∀ (H1 : Heap) (locs1 : List Loc), wo_S D cls cA base s w' H1 locs1 → W p l e R s m args below meth c H1 locs1 (cells + rm_q_clear.cells) (slots + rm_q_clear.slots) Q (F0 m (pc + 3) ls (ov.toList ++ rest))) : W p l e R s m args below meth c H locs cells slots Q (F0 m pc ls st0) :=
  wo_callV (C := Rc_q) hx hb hml hown hts hK hG hW hM hkb rfl (gt_of (i := 1382) (by decide +kernel) (by decide +kernel)) (gt_of (i := 1383) (by decide +kernel) (by decide +kernel)) (gt_of (i := 1384) (by decide +kernel) (by decide +kernel)) (gt_of (i := 10) (by decide +kernel) (by decide +kernel)) (gt_of (i := 1385) (by decide +kernel) (by decide +kernel)) (by decide +kernel) hR hf hn hsz hst hcat hdg kk
theorem cs_lw_72 {p : Program} {l : Launch} {e : Env} {R : Room} {s : State} {m : MethodId} {args : Array Value} {below : List Frame} {meth : Method} {c : Code} {H : Heap} {locs : List Loc} {cells slots : Nat} {Q : State → Prop} {D : va_G} {cA : Nat → ClassId} {base : Nat} {w w' : WW} {cc : ByteArray} {pc nL : Nat} {ls : Array Slot} {rest st0 As : List Value} {ov : Option Value} (hx : p.tables.exec = Jvm.exec) (hb : c.code = cc) (hml : c.maxLocals = nL) (hown : s.vm.findClass Rc_lw = some m.cls) (hts : ∀ w ∈ gt, w.before args s = true) (hK : va_K D cls (wo_tys cA) s) (hG : wo_G base s) (hW : wo_S D cls cA base s w H locs) (hM : mt l D cls (wo_tys cA) cA base y_lw_parse (Cond.codeWith y_lw_parse b_lw_parse 3 (some .int) hh_lw_parse :: gt) rm_lw_parse As w ov w' rm_lw_parse.cells rm_lw_parse.slots) (hR : rm_lw_parse.frames + 1 ≤ R.frames ∧ 8 + (3 + 11) + rm_lw_parse.locals ≤ R.locals) (hf : cells + rm_lw_parse.cells ≤ R.cells ∧ slots + rm_lw_parse.slots ≤ R.slots) (hn : As.length = 2) (hsz : ls.size = nL) (hst : st0 = As.reverse ++ rest) (hcat : (rest.map fun v => v.category).sum ≤ 8) (hdg : decode cc pc = .ok (.invokestatic 72, 3)) (kk : ∀ (H1 : Heap) (locs1 : List Loc), wo_S D cls cA base s w' H1 locs1 → W p l e R s m args below meth c H1 locs1 (cells + rm_lw_parse.cells) (slots + rm_lw_parse.slots) Q (F0 m (pc + 3) ls (ov.toList ++ rest))) : W p l e R s m args below meth c H locs cells slots Q (F0 m pc ls st0) :=
  wo_callSW hx hb hml hown hts hK hG hW hM (gt_of (i := 479) (by decide +kernel) (by decide +kernel)) (gt_of (i := 480) (by decide +kernel) (by decide +kernel)) (gt_of (i := 0) (by decide +kernel) (by decide +kernel)) (gt_of (i := 481) (by decide +kernel) (by decide +kernel)) (by decide +kernel) hR hf hn hsz hst hcat hdg kk
theorem cv_lw_75 {p : Program} {l : Launch} {e : Env} {R : Room} {s : State} {m : MethodId} {args : Array Value} {below : List Frame} {meth : Method} {c : Code} {H : Heap} {locs : List Loc} {cells slots : Nat} {Q : State → Prop} {D : va_G} {cA : Nat → ClassId} {base : Nat} {w w' : WW} {cc : ByteArray} {pc nL : Nat} {ls : Array Slot} {rest st0 As : List Value} {ov : Option Value} {b : Nat} (hx : p.tables.exec = Jvm.exec) (hb : c.code = cc) (hml : c.maxLocals = nL) (hown : s.vm.findClass Rc_lw = some m.cls) (hts : ∀ w ∈ gt, w.before args s = true) (hK : va_K D cls (wo_tys cA) s) (hG : wo_G base s) (hW : wo_S D cls cA base s w H locs) (hM : mt l D cls (wo_tys cA) cA base y_q_parse (Cond.code y_q_parse b_q_parse 1 (some .int) :: gt) rm_q_parse (.ref (base + b) :: As) w ov w' rm_q_parse.cells rm_q_parse.slots) (hkb : kb w b 9 = true) (hR : rm_q_parse.frames + 1 ≤ R.frames ∧ 8 + (1 + 11) + rm_q_parse.locals ≤ R.locals) (hf : cells + rm_q_parse.cells ≤ R.cells ∧ slots + rm_q_parse.slots ≤ R.slots) (hn : As.length = 0) (hsz : ls.size = nL) (hst : st0 = As.reverse ++ .ref (base + b) :: rest) (hcat : (rest.map fun v => v.category).sum ≤ 8) (hdg : decode cc pc = .ok (.invokevirtual 75, 3)) (kk : ∀ (H1 : Heap) (locs1 : List Loc), wo_S D cls cA base s w' H1 locs1 → W p l e R s m args below meth c H1 locs1 (cells + rm_q_parse.cells) (slots + rm_q_parse.slots) Q (F0 m (pc + 3) ls (ov.toList ++ rest))) : W p l e R s m args below meth c H locs cells slots Q (F0 m pc ls st0) :=
  wo_callV (C := Rc_q) hx hb hml hown hts hK hG hW hM hkb rfl (gt_of (i := 1386) (by decide +kernel) (by decide +kernel)) (gt_of (i := 1387) (by decide +kernel) (by decide +kernel)) (gt_of (i := 1388) (by decide +kernel) (by decide +kernel)) (gt_of (i := 10) (by decide +kernel) (by decide +kernel)) (gt_of (i := 1389) (by decide +kernel) (by decide +kernel)) (by decide +kernel) hR hf hn hsz hst hcat hdg kk
theorem cv_lw_76 {p : Program} {l : Launch} {e : Env} {R : Room} {s : State} {m : MethodId} {args : Array Value} {below : List Frame} {meth : Method} {c : Code} {H : Heap} {locs : List Loc} {cells slots : Nat} {Q : State → Prop} {D : va_G} {cA : Nat → ClassId} {base : Nat} {w w' : WW} {cc : ByteArray} {pc nL : Nat} {ls : Array Slot} {rest st0 As : List Value} {ov : Option Value} {b : Nat} (hx : p.tables.exec = Jvm.exec) (hb : c.code = cc) (hml : c.maxLocals = nL) (hown : s.vm.findClass Rc_lw = some m.cls) (hts : ∀ w ∈ gt, w.before args s = true) (hK : va_K D cls (wo_tys cA) s) (hG : wo_G base s) (hW : wo_S D cls cA base s w H locs) (hM : mt l D cls (wo_tys cA) cA base y_a_where (Cond.code y_a_where b_a_where 1 (some .int) :: gt) rm_a_where (.ref (base + b) :: As) w ov w' rm_a_where.cells rm_a_where.slots) (hkb : kb w b 0 = true) (hR : rm_a_where.frames + 1 ≤ R.frames ∧ 8 + (1 + 11) + rm_a_where.locals ≤ R.locals) (hf : cells + rm_a_where.cells ≤ R.cells ∧ slots + rm_a_where.slots ≤ R.slots) (hn : As.length = 0) (hsz : ls.size = nL) (hst : st0 = As.reverse ++ .ref (base + b) :: rest) (hcat : (rest.map fun v => v.category).sum ≤ 8) (hdg : decode cc pc = .ok (.invokevirtual 76, 3)) (kk : ∀ (H1 : Heap) (locs1 : List Loc), wo_S D cls cA base s w' H1 locs1 → W p l e R s m args below meth c H1 locs1 (cells + rm_a_where.cells) (slots + rm_a_where.slots) Q (F0 m (pc + 3) ls (ov.toList ++ rest))) : W p l e R s m args below meth c H locs cells slots Q (F0 m pc ls st0) :=
  wo_callV (C := Rc_a) hx hb hml hown hts hK hG hW hM hkb rfl (gt_of (i := 372) (by decide +kernel) (by decide +kernel)) (gt_of (i := 373) (by decide +kernel) (by decide +kernel)) (gt_of (i := 374) (by decide +kernel) (by decide +kernel)) (gt_of (i := 1) (by decide +kernel) (by decide +kernel)) (gt_of (i := 375) (by decide +kernel) (by decide +kernel)) (by decide +kernel) hR hf hn hsz hst hcat hdg kk
theorem cv_lw_79 {p : Program} {l : Launch} {e : Env} {R : Room} {s : State} {m : MethodId} {args : Array Value} {below : List Frame} {meth : Method} {c : Code} {H : Heap} {locs : List Loc} {cells slots : Nat} {Q : State → Prop} {D : va_G} {cA : Nat → ClassId} {base : Nat} {w w' : WW} {cc : ByteArray} {pc nL : Nat} {ls : Array Slot} {rest st0 As : List Value} {ov : Option Value} {b : Nat} (hx : p.tables.exec = Jvm.exec) (hb : c.code = cc) (hml : c.maxLocals = nL) (hown : s.vm.findClass Rc_lw = some m.cls) (hts : ∀ w ∈ gt, w.before args s = true) (hK : va_K D cls (wo_tys cA) s) (hG : wo_G base s) (hW : wo_S D cls cA base s w H locs) (hM : mt l D cls (wo_tys cA) cA base y_q_where (Cond.code y_q_where b_q_where 1 (some .int) :: gt) rm_q_where (.ref (base + b) :: As) w ov w' rm_q_where.cells rm_q_where.slots) (hkb : kb w b 9 = true) (hR : rm_q_where.frames + 1 ≤ R.frames ∧ 8 + (1 + 11) + rm_q_where.locals ≤ R.locals) (hf : cells + rm_q_where.cells ≤ R.cells ∧ slots + rm_q_where.slots ≤ R.slots) (hn : As.length = 0) (hsz : ls.size = nL) (hst : st0 = As.reverse ++ .ref (base + b) :: rest) (hcat : (rest.map fun v => v.category).sum ≤ 8) (hdg : decode cc pc = .ok (.invokevirtual 79, 3)) (kk : ∀ (H1 : Heap) (locs1 : List Loc), wo_S D cls cA base s w' H1 locs1 → W p l e R s m args below meth c H1 locs1 (cells + rm_q_where.cells) (slots + rm_q_where.slots) Q (F0 m (pc + 3) ls (ov.toList ++ rest))) : W p l e R s m args below meth c H locs cells slots Q (F0 m pc ls st0) :=
  wo_callV (C := Rc_q) hx hb hml hown hts hK hG hW hM hkb rfl (gt_of (i := 1514) (by decide +kernel) (by decide +kernel)) (gt_of (i := 1515) (by decide +kernel) (by decide +kernel)) (gt_of (i := 1516) (by decide +kernel) (by decide +kernel)) (gt_of (i := 10) (by decide +kernel) (by decide +kernel)) (gt_of (i := 1517) (by decide +kernel) (by decide +kernel)) (by decide +kernel) hR hf hn hsz hst hcat hdg kk
theorem cs_lw_80 {p : Program} {l : Launch} {e : Env} {R : Room} {s : State} {m : MethodId} {args : Array Value} {below : List Frame} {meth : Method} {c : Code} {H : Heap} {locs : List Loc} {cells slots : Nat} {Q : State → Prop} {D : va_G} {cA : Nat → ClassId} {base : Nat} {w w' : WW} {cc : ByteArray} {pc nL : Nat} {ls : Array Slot} {rest st0 As : List Value} {ov : Option Value} (hx : p.tables.exec = Jvm.exec) (hb : c.code = cc) (hml : c.maxLocals = nL) (hown : s.vm.findClass Rc_lw = some m.cls) (hts : ∀ w ∈ gt, w.before args s = true) (hK : va_K D cls (wo_tys cA) s) (hG : wo_G base s) (hW : wo_S D cls cA base s w H locs) (hM : mt l D cls (wo_tys cA) cA base y_lw_choose (Cond.codeWith y_lw_choose b_lw_choose 5 (some .int) hh_lw_choose :: gt) rm_lw_choose As w ov w' rm_lw_choose.cells rm_lw_choose.slots) (hR : rm_lw_choose.frames + 1 ≤ R.frames ∧ 8 + (5 + 11) + rm_lw_choose.locals ≤ R.locals) (hf : cells + rm_lw_choose.cells ≤ R.cells ∧ slots + rm_lw_choose.slots ≤ R.slots) (hn : As.length = 4) (hsz : ls.size = nL) (hst : st0 = As.reverse ++ rest) (hcat : (rest.map fun v => v.category).sum ≤ 8) (hdg : decode cc pc = .ok (.invokestatic 80, 3)) (kk : ∀ (H1 : Heap) (locs1 : List Loc), wo_S D cls cA base s w' H1 locs1 → W p l e R s m args below meth c H1 locs1 (cells + rm_lw_choose.cells) (slots + rm_lw_choose.slots) Q (F0 m (pc + 3) ls (ov.toList ++ rest))) : W p l e R s m args below meth c H locs cells slots Q (F0 m pc ls st0) :=
  wo_callSW hx hb hml hown hts hK hG hW hM (gt_of (i := 726) (by decide +kernel) (by decide +kernel)) (gt_of (i := 727) (by decide +kernel) (by decide +kernel)) (gt_of (i := 0) (by decide +kernel) (by decide +kernel)) (gt_of (i := 728) (by decide +kernel) (by decide +kernel)) (by decide +kernel) hR hf hn hsz hst hcat hdg kk
theorem cv_lw_83 {p : Program} {l : Launch} {e : Env} {R : Room} {s : State} {m : MethodId} {args : Array Value} {below : List Frame} {meth : Method} {c : Code} {H : Heap} {locs : List Loc} {cells slots : Nat} {Q : State → Prop} {D : va_G} {cA : Nat → ClassId} {base : Nat} {w w' : WW} {cc : ByteArray} {pc nL : Nat} {ls : Array Slot} {rest st0 As : List Value} {ov : Option Value} {b : Nat} (hx : p.tables.exec = Jvm.exec) (hb : c.code = cc) (hml : c.maxLocals = nL) (hown : s.vm.findClass Rc_lw = some m.cls) (hts : ∀ w ∈ gt, w.before args s = true) (hK : va_K D cls (wo_tys cA) s) (hG : wo_G base s) (hW : wo_S D cls cA base s w H locs) (hM : mt l D cls (wo_tys cA) cA base y_q_choose (Cond.code y_q_choose b_q_choose 4 (some .int) :: gt) rm_q_choose (.ref (base + b) :: As) w ov w' rm_q_choose.cells rm_q_choose.slots) (hkb : kb w b 9 = true) (hR : rm_q_choose.frames + 1 ≤ R.frames ∧ 8 + (4 + 11) + rm_q_choose.locals ≤ R.locals) (hf : cells + rm_q_choose.cells ≤ R.cells ∧ slots + rm_q_choose.slots ≤ R.slots) (hn : As.length = 2) (hsz : ls.size = nL) (hst : st0 = As.reverse ++ .ref (base + b) :: rest) (hcat : (rest.map fun v => v.category).sum ≤ 8) (hdg : decode cc pc = .ok (.invokevirtual 83, 3)) (kk : ∀ (H1 : Heap) (locs1 : List Loc), wo_S D cls cA base s w' H1 locs1 → W p l e R s m args below meth c H1 locs1 (cells + rm_q_choose.cells) (slots + rm_q_choose.slots) Q (F0 m (pc + 3) ls (ov.toList ++ rest))) : W p l e R s m args below meth c H locs cells slots Q (F0 m pc ls st0) :=
  wo_callV (C := Rc_q) hx hb hml hown hts hK hG hW hM hkb rfl (gt_of (i := 1518) (by decide +kernel) (by decide +kernel)) (gt_of (i := 1519) (by decide +kernel) (by decide +kernel)) (gt_of (i := 1520) (by decide +kernel) (by decide +kernel)) (gt_of (i := 10) (by decide +kernel) (by decide +kernel)) (gt_of (i := 1521) (by decide +kernel) (by decide +kernel)) (by decide +kernel) hR hf hn hsz hst hcat hdg kk
theorem cs_lw_84 {p : Program} {l : Launch} {e : Env} {R : Room} {s : State} {m : MethodId} {args : Array Value} {below : List Frame} {meth : Method} {c : Code} {H : Heap} {locs : List Loc} {cells slots : Nat} {Q : State → Prop} {D : va_G} {cA : Nat → ClassId} {base : Nat} {w w' : WW} {cc : ByteArray} {pc nL : Nat} {ls : Array Slot} {rest st0 As : List Value} {ov : Option Value} (hx : p.tables.exec = Jvm.exec) (hb : c.code = cc) (hml : c.maxLocals = nL) (hown : s.vm.findClass Rc_lw = some m.cls) (hts : ∀ w ∈ gt, w.before args s = true) (hK : va_K D cls (wo_tys cA) s) (hG : wo_G base s) (hW : wo_S D cls cA base s w H locs) (hM : mt l D cls (wo_tys cA) cA base y_lw_input (Cond.codeWith y_lw_input b_lw_input 4 (some .int) hh_lw_input :: gt) rm_lw_input As w ov w' rm_lw_input.cells rm_lw_input.slots) (hR : rm_lw_input.frames + 1 ≤ R.frames ∧ 8 + (4 + 11) + rm_lw_input.locals ≤ R.locals) (hf : cells + rm_lw_input.cells ≤ R.cells ∧ slots + rm_lw_input.slots ≤ R.slots) (hn : As.length = 3) (hsz : ls.size = nL) (hst : st0 = As.reverse ++ rest) (hcat : (rest.map fun v => v.category).sum ≤ 8) (hdg : decode cc pc = .ok (.invokestatic 84, 3)) (kk : ∀ (H1 : Heap) (locs1 : List Loc), wo_S D cls cA base s w' H1 locs1 → W p l e R s m args below meth c H1 locs1 (cells + rm_lw_input.cells) (slots + rm_lw_input.slots) Q (F0 m (pc + 3) ls (ov.toList ++ rest))) : W p l e R s m args below meth c H locs cells slots Q (F0 m pc ls st0) :=
  wo_callSW hx hb hml hown hts hK hG hW hM (gt_of (i := 733) (by decide +kernel) (by decide +kernel)) (gt_of (i := 734) (by decide +kernel) (by decide +kernel)) (gt_of (i := 0) (by decide +kernel) (by decide +kernel)) (gt_of (i := 735) (by decide +kernel) (by decide +kernel)) (by decide +kernel) hR hf hn hsz hst hcat hdg kk
theorem cv_lw_87 {p : Program} {l : Launch} {e : Env} {R : Room} {s : State} {m : MethodId} {args : Array Value} {below : List Frame} {meth : Method} {c : Code} {H : Heap} {locs : List Loc} {cells slots : Nat} {Q : State → Prop} {D : va_G} {cA : Nat → ClassId} {base : Nat} {w w' : WW} {cc : ByteArray} {pc nL : Nat} {ls : Array Slot} {rest st0 As : List Value} {ov : Option Value} {b : Nat} (hx : p.tables.exec = Jvm.exec) (hb : c.code = cc) (hml : c.maxLocals = nL) (hown : s.vm.findClass Rc_lw = some m.cls) (hts : ∀ w ∈ gt, w.before args s = true) (hK : va_K D cls (wo_tys cA) s) (hG : wo_G base s) (hW : wo_S D cls cA base s w H locs) (hM : mt l D cls (wo_tys cA) cA base y_q_input (Cond.code y_q_input b_q_input 2 (some .int) :: gt) rm_q_input (.ref (base + b) :: As) w ov w' rm_q_input.cells rm_q_input.slots) (hkb : kb w b 9 = true) (hR : rm_q_input.frames + 1 ≤ R.frames ∧ 8 + (2 + 11) + rm_q_input.locals ≤ R.locals) (hf : cells + rm_q_input.cells ≤ R.cells ∧ slots + rm_q_input.slots ≤ R.slots) (hn : As.length = 1) (hsz : ls.size = nL) (hst : st0 = As.reverse ++ .ref (base + b) :: rest) (hcat : (rest.map fun v => v.category).sum ≤ 8) (hdg : decode cc pc = .ok (.invokevirtual 87, 3)) (kk : ∀ (H1 : Heap) (locs1 : List Loc), wo_S D cls cA base s w' H1 locs1 → W p l e R s m args below meth c H1 locs1 (cells + rm_q_input.cells) (slots + rm_q_input.slots) Q (F0 m (pc + 3) ls (ov.toList ++ rest))) : W p l e R s m args below meth c H locs cells slots Q (F0 m pc ls st0) :=
  wo_callV (C := Rc_q) hx hb hml hown hts hK hG hW hM hkb rfl (gt_of (i := 1523) (by decide +kernel) (by decide +kernel)) (gt_of (i := 1524) (by decide +kernel) (by decide +kernel)) (gt_of (i := 1525) (by decide +kernel) (by decide +kernel)) (gt_of (i := 10) (by decide +kernel) (by decide +kernel)) (gt_of (i := 1526) (by decide +kernel) (by decide +kernel)) (by decide +kernel) hR hf hn hsz hst hcat hdg kk
theorem cv_lw_88 {p : Program} {l : Launch} {e : Env} {R : Room} {s : State} {m : MethodId} {args : Array Value} {below : List Frame} {meth : Method} {c : Code} {H : Heap} {locs : List Loc} {cells slots : Nat} {Q : State → Prop} {D : va_G} {cA : Nat → ClassId} {base : Nat} {w w' : WW} {cc : ByteArray} {pc nL : Nat} {ls : Array Slot} {rest st0 As : List Value} {ov : Option Value} {b : Nat} (hx : p.tables.exec = Jvm.exec) (hb : c.code = cc) (hml : c.maxLocals = nL) (hown : s.vm.findClass Rc_lw = some m.cls) (hts : ∀ w ∈ gt, w.before args s = true) (hK : va_K D cls (wo_tys cA) s) (hG : wo_G base s) (hW : wo_S D cls cA base s w H locs) (hM : mt l D cls (wo_tys cA) cA base y_a_forget (Cond.code y_a_forget b_a_forget 2 (some .int) :: gt) rm_a_forget (.ref (base + b) :: As) w ov w' rm_a_forget.cells rm_a_forget.slots) (hkb : kb w b 0 = true) (hR : rm_a_forget.frames + 1 ≤ R.frames ∧ 8 + (2 + 11) + rm_a_forget.locals ≤ R.locals) (hf : cells + rm_a_forget.cells ≤ R.cells ∧ slots + rm_a_forget.slots ≤ R.slots) (hn : As.length = 0) (hsz : ls.size = nL) (hst : st0 = As.reverse ++ .ref (base + b) :: rest) (hcat : (rest.map fun v => v.category).sum ≤ 8) (hdg : decode cc pc = .ok (.invokevirtual 88, 3)) (kk : ∀ (H1 : Heap) (locs1 : List Loc), wo_S D cls cA base s w' H1 locs1 → W p l e R s m args below meth c H1 locs1 (cells + rm_a_forget.cells) (slots + rm_a_forget.slots) Q (F0 m (pc + 3) ls (ov.toList ++ rest))) : W p l e R s m args below meth c H locs cells slots Q (F0 m pc ls st0) :=
  wo_callV (C := Rc_a) hx hb hml hown hts hK hG hW hM hkb rfl (gt_of (i := 376) (by decide +kernel) (by decide +kernel)) (gt_of (i := 377) (by decide +kernel) (by decide +kernel)) (gt_of (i := 378) (by decide +kernel) (by decide +kernel)) (gt_of (i := 1) (by decide +kernel) (by decide +kernel)) (gt_of (i := 379) (by decide +kernel) (by decide +kernel)) (by decide +kernel) hR hf hn hsz hst hcat hdg kk
theorem cv_lw_91 {p : Program} {l : Launch} {e : Env} {R : Room} {s : State} {m : MethodId} {args : Array Value} {below : List Frame} {meth : Method} {c : Code} {H : Heap} {locs : List Loc} {cells slots : Nat} {Q : State → Prop} {D : va_G} {cA : Nat → ClassId} {base : Nat} {w w' : WW} {cc : ByteArray} {pc nL : Nat} {ls : Array Slot} {rest st0 As : List Value} {ov : Option Value} {b : Nat} (hx : p.tables.exec = Jvm.exec) (hb : c.code = cc) (hml : c.maxLocals = nL) (hown : s.vm.findClass Rc_lw = some m.cls) (hts : ∀ w ∈ gt, w.before args s = true) (hK : va_K D cls (wo_tys cA) s) (hG : wo_G base s) (hW : wo_S D cls cA base s w H locs) (hM : mt l D cls (wo_tys cA) cA base y_q_forget (Cond.code y_q_forget b_q_forget 2 (some .int) :: gt) rm_q_forget (.ref (base + b) :: As) w ov w' rm_q_forget.cells rm_q_forget.slots) (hkb : kb w b 9 = true) (hR : rm_q_forget.frames + 1 ≤ R.frames ∧ 8 + (2 + 11) + rm_q_forget.locals ≤ R.locals) (hf : cells + rm_q_forget.cells ≤ R.cells ∧ slots + rm_q_forget.slots ≤ R.slots) (hn : As.length = 0) (hsz : ls.size = nL) (hst : st0 = As.reverse ++ .ref (base + b) :: rest) (hcat : (rest.map fun v => v.category).sum ≤ 8) (hdg : decode cc pc = .ok (.invokevirtual 91, 3)) (kk : ∀ (H1 : Heap) (locs1 : List Loc), wo_S D cls cA base s w' H1 locs1 → W p l e R s m args below meth c H1 locs1 (cells + rm_q_forget.cells) (slots + rm_q_forget.slots) Q (F0 m (pc + 3) ls (ov.toList ++ rest))) : W p l e R s m args below meth c H locs cells slots Q (F0 m pc ls st0) :=
  wo_callV (C := Rc_q) hx hb hml hown hts hK hG hW hM hkb rfl (gt_of (i := 1527) (by decide +kernel) (by decide +kernel)) (gt_of (i := 1528) (by decide +kernel) (by decide +kernel)) (gt_of (i := 1529) (by decide +kernel) (by decide +kernel)) (gt_of (i := 10) (by decide +kernel) (by decide +kernel)) (gt_of (i := 1530) (by decide +kernel) (by decide +kernel)) (by decide +kernel) hR hf hn hsz hst hcat hdg kk
theorem cs_lw_92 {p : Program} {l : Launch} {e : Env} {R : Room} {s : State} {m : MethodId} {args : Array Value} {below : List Frame} {meth : Method} {c : Code} {H : Heap} {locs : List Loc} {cells slots : Nat} {Q : State → Prop} {D : va_G} {cA : Nat → ClassId} {base : Nat} {w w' : WW} {cc : ByteArray} {pc nL : Nat} {ls : Array Slot} {rest st0 As : List Value} {ov : Option Value} (hx : p.tables.exec = Jvm.exec) (hb : c.code = cc) (hml : c.maxLocals = nL) (hown : s.vm.findClass Rc_lw = some m.cls) (hts : ∀ w ∈ gt, w.before args s = true) (hK : va_K D cls (wo_tys cA) s) (hG : wo_G base s) (hW : wo_S D cls cA base s w H locs) (hM : mt l D cls (wo_tys cA) cA base y_lw_run (Cond.codeWith y_lw_run b_lw_run 4 (some .int) hh_lw_run :: gt) rm_lw_run As w ov w' rm_lw_run.cells rm_lw_run.slots) (hR : rm_lw_run.frames + 1 ≤ R.frames ∧ 8 + (4 + 11) + rm_lw_run.locals ≤ R.locals) (hf : cells + rm_lw_run.cells ≤ R.cells ∧ slots + rm_lw_run.slots ≤ R.slots) (hn : As.length = 3) (hsz : ls.size = nL) (hst : st0 = As.reverse ++ rest) (hcat : (rest.map fun v => v.category).sum ≤ 8) (hdg : decode cc pc = .ok (.invokestatic 92, 3)) (kk : ∀ (H1 : Heap) (locs1 : List Loc), wo_S D cls cA base s w' H1 locs1 → W p l e R s m args below meth c H1 locs1 (cells + rm_lw_run.cells) (slots + rm_lw_run.slots) Q (F0 m (pc + 3) ls (ov.toList ++ rest))) : W p l e R s m args below meth c H locs cells slots Q (F0 m pc ls st0) :=
  wo_callSW hx hb hml hown hts hK hG hW hM (gt_of (i := 744) (by decide +kernel) (by decide +kernel)) (gt_of (i := 745) (by decide +kernel) (by decide +kernel)) (gt_of (i := 0) (by decide +kernel) (by decide +kernel)) (gt_of (i := 746) (by decide +kernel) (by decide +kernel)) (by decide +kernel) hR hf hn hsz hst hcat hdg kk
theorem cv_lw_94 {p : Program} {l : Launch} {e : Env} {R : Room} {s : State} {m : MethodId} {args : Array Value} {below : List Frame} {meth : Method} {c : Code} {H : Heap} {locs : List Loc} {cells slots : Nat} {Q : State → Prop} {D : va_G} {cA : Nat → ClassId} {base : Nat} {w w' : WW} {cc : ByteArray} {pc nL : Nat} {ls : Array Slot} {rest st0 As : List Value} {ov : Option Value} {b : Nat} (hx : p.tables.exec = Jvm.exec) (hb : c.code = cc) (hml : c.maxLocals = nL) (hown : s.vm.findClass Rc_lw = some m.cls) (hts : ∀ w ∈ gt, w.before args s = true) (hK : va_K D cls (wo_tys cA) s) (hG : wo_G base s) (hW : wo_S D cls cA base s w H locs) (hM : mt l D cls (wo_tys cA) cA base y_q_run (Cond.code y_q_run b_q_run 2 (some .int) :: gt) rm_q_run (.ref (base + b) :: As) w ov w' rm_q_run.cells rm_q_run.slots) (hkb : kb w b 9 = true) (hR : rm_q_run.frames + 1 ≤ R.frames ∧ 8 + (2 + 11) + rm_q_run.locals ≤ R.locals) (hf : cells + rm_q_run.cells ≤ R.cells ∧ slots + rm_q_run.slots ≤ R.slots) (hn : As.length = 1) (hsz : ls.size = nL) (hst : st0 = As.reverse ++ .ref (base + b) :: rest) (hcat : (rest.map fun v => v.category).sum ≤ 8) (hdg : decode cc pc = .ok (.invokevirtual 94, 3)) (kk : ∀ (H1 : Heap) (locs1 : List Loc), wo_S D cls cA base s w' H1 locs1 → W p l e R s m args below meth c H1 locs1 (cells + rm_q_run.cells) (slots + rm_q_run.slots) Q (F0 m (pc + 3) ls (ov.toList ++ rest))) : W p l e R s m args below meth c H locs cells slots Q (F0 m pc ls st0) :=
  wo_callV (C := Rc_q) hx hb hml hown hts hK hG hW hM hkb rfl (gt_of (i := 1531) (by decide +kernel) (by decide +kernel)) (gt_of (i := 1532) (by decide +kernel) (by decide +kernel)) (gt_of (i := 1533) (by decide +kernel) (by decide +kernel)) (gt_of (i := 10) (by decide +kernel) (by decide +kernel)) (gt_of (i := 1534) (by decide +kernel) (by decide +kernel)) (by decide +kernel) hR hf hn hsz hst hcat hdg kk
theorem cs_lw_95 {p : Program} {l : Launch} {e : Env} {R : Room} {s : State} {m : MethodId} {args : Array Value} {below : List Frame} {meth : Method} {c : Code} {H : Heap} {locs : List Loc} {cells slots : Nat} {Q : State → Prop} {D : va_G} {cA : Nat → ClassId} {base : Nat} {w w' : WW} {cc : ByteArray} {pc nL : Nat} {ls : Array Slot} {rest st0 As : List Value} {ov : Option Value} (hx : p.tables.exec = Jvm.exec) (hb : c.code = cc) (hml : c.maxLocals = nL) (hown : s.vm.findClass Rc_lw = some m.cls) (hts : ∀ w ∈ gt, w.before args s = true) (hK : va_K D cls (wo_tys cA) s) (hG : wo_G base s) (hW : wo_S D cls cA base s w H locs) (hM : mt l D cls (wo_tys cA) cA base y_lw_ran (Cond.codeWith y_lw_ran b_lw_ran 4 (some .int) hh_lw_ran :: gt) rm_lw_ran As w ov w' rm_lw_ran.cells rm_lw_ran.slots) (hR : rm_lw_ran.frames + 1 ≤ R.frames ∧ 8 + (4 + 11) + rm_lw_ran.locals ≤ R.locals) (hf : cells + rm_lw_ran.cells ≤ R.cells ∧ slots + rm_lw_ran.slots ≤ R.slots) (hn : As.length = 3) (hsz : ls.size = nL) (hst : st0 = As.reverse ++ rest) (hcat : (rest.map fun v => v.category).sum ≤ 8) (hdg : decode cc pc = .ok (.invokestatic 95, 3)) (kk : ∀ (H1 : Heap) (locs1 : List Loc), wo_S D cls cA base s w' H1 locs1 → W p l e R s m args below meth c H1 locs1 (cells + rm_lw_ran.cells) (slots + rm_lw_ran.slots) Q (F0 m (pc + 3) ls (ov.toList ++ rest))) : W p l e R s m args below meth c H locs cells slots Q (F0 m pc ls st0) :=
  wo_callSW hx hb hml hown hts hK hG hW hM (gt_of (i := 875) (by decide +kernel) (by decide +kernel)) (gt_of (i := 876) (by decide +kernel) (by decide +kernel)) (gt_of (i := 0) (by decide +kernel) (by decide +kernel)) (gt_of (i := 877) (by decide +kernel) (by decide +kernel)) (by decide +kernel) hR hf hn hsz hst hcat hdg kk
theorem cv_lw_97 {p : Program} {l : Launch} {e : Env} {R : Room} {s : State} {m : MethodId} {args : Array Value} {below : List Frame} {meth : Method} {c : Code} {H : Heap} {locs : List Loc} {cells slots : Nat} {Q : State → Prop} {D : va_G} {cA : Nat → ClassId} {base : Nat} {w w' : WW} {cc : ByteArray} {pc nL : Nat} {ls : Array Slot} {rest st0 As : List Value} {ov : Option Value} {b : Nat} (hx : p.tables.exec = Jvm.exec) (hb : c.code = cc) (hml : c.maxLocals = nL) (hown : s.vm.findClass Rc_lw = some m.cls) (hts : ∀ w ∈ gt, w.before args s = true) (hK : va_K D cls (wo_tys cA) s) (hG : wo_G base s) (hW : wo_S D cls cA base s w H locs) (hM : mt l D cls (wo_tys cA) cA base y_q_ran (Cond.code y_q_ran b_q_ran 2 (some .int) :: gt) rm_q_ran (.ref (base + b) :: As) w ov w' rm_q_ran.cells rm_q_ran.slots) (hkb : kb w b 9 = true) (hR : rm_q_ran.frames + 1 ≤ R.frames ∧ 8 + (2 + 11) + rm_q_ran.locals ≤ R.locals) (hf : cells + rm_q_ran.cells ≤ R.cells ∧ slots + rm_q_ran.slots ≤ R.slots) (hn : As.length = 1) (hsz : ls.size = nL) (hst : st0 = As.reverse ++ .ref (base + b) :: rest) (hcat : (rest.map fun v => v.category).sum ≤ 8) (hdg : decode cc pc = .ok (.invokevirtual 97, 3)) (kk : ∀ (H1 : Heap) (locs1 : List Loc), wo_S D cls cA base s w' H1 locs1 → W p l e R s m args below meth c H1 locs1 (cells + rm_q_ran.cells) (slots + rm_q_ran.slots) Q (F0 m (pc + 3) ls (ov.toList ++ rest))) : W p l e R s m args below meth c H locs cells slots Q (F0 m pc ls st0) :=
  wo_callV (C := Rc_q) hx hb hml hown hts hK hG hW hM hkb rfl (gt_of (i := 1562) (by decide +kernel) (by decide +kernel)) (gt_of (i := 1563) (by decide +kernel) (by decide +kernel)) (gt_of (i := 1564) (by decide +kernel) (by decide +kernel)) (gt_of (i := 10) (by decide +kernel) (by decide +kernel)) (gt_of (i := 1565) (by decide +kernel) (by decide +kernel)) (by decide +kernel) hR hf hn hsz hst hcat hdg kk
theorem cs_lw_98 {p : Program} {l : Launch} {e : Env} {R : Room} {s : State} {m : MethodId} {args : Array Value} {below : List Frame} {meth : Method} {c : Code} {H : Heap} {locs : List Loc} {cells slots : Nat} {Q : State → Prop} {D : va_G} {cA : Nat → ClassId} {base : Nat} {w w' : WW} {cc : ByteArray} {pc nL : Nat} {ls : Array Slot} {rest st0 As : List Value} {ov : Option Value} (hx : p.tables.exec = Jvm.exec) (hb : c.code = cc) (hml : c.maxLocals = nL) (hown : s.vm.findClass Rc_lw = some m.cls) (hts : ∀ w ∈ gt, w.before args s = true) (hK : va_K D cls (wo_tys cA) s) (hG : wo_G base s) (hW : wo_S D cls cA base s w H locs) (hM : mt l D cls (wo_tys cA) cA base y_lw_analyse (Cond.codeWith y_lw_analyse b_lw_analyse 3 (some .int) hh_lw_analyse :: gt) rm_lw_analyse As w ov w' rm_lw_analyse.cells rm_lw_analyse.slots) (hR : rm_lw_analyse.frames + 1 ≤ R.frames ∧ 8 + (3 + 11) + rm_lw_analyse.locals ≤ R.locals) (hf : cells + rm_lw_analyse.cells ≤ R.cells ∧ slots + rm_lw_analyse.slots ≤ R.slots) (hn : As.length = 2) (hsz : ls.size = nL) (hst : st0 = As.reverse ++ rest) (hcat : (rest.map fun v => v.category).sum ≤ 8) (hdg : decode cc pc = .ok (.invokestatic 98, 3)) (kk : ∀ (H1 : Heap) (locs1 : List Loc), wo_S D cls cA base s w' H1 locs1 → W p l e R s m args below meth c H1 locs1 (cells + rm_lw_analyse.cells) (slots + rm_lw_analyse.slots) Q (F0 m (pc + 3) ls (ov.toList ++ rest))) : W p l e R s m args below meth c H locs cells slots Q (F0 m pc ls st0) :=
  wo_callSW hx hb hml hown hts hK hG hW hM (gt_of (i := 882) (by decide +kernel) (by decide +kernel)) (gt_of (i := 883) (by decide +kernel) (by decide +kernel)) (gt_of (i := 0) (by decide +kernel) (by decide +kernel)) (gt_of (i := 884) (by decide +kernel) (by decide +kernel)) (by decide +kernel) hR hf hn hsz hst hcat hdg kk
theorem cv_lw_100 {p : Program} {l : Launch} {e : Env} {R : Room} {s : State} {m : MethodId} {args : Array Value} {below : List Frame} {meth : Method} {c : Code} {H : Heap} {locs : List Loc} {cells slots : Nat} {Q : State → Prop} {D : va_G} {cA : Nat → ClassId} {base : Nat} {w w' : WW} {cc : ByteArray} {pc nL : Nat} {ls : Array Slot} {rest st0 As : List Value} {ov : Option Value} {b : Nat} (hx : p.tables.exec = Jvm.exec) (hb : c.code = cc) (hml : c.maxLocals = nL) (hown : s.vm.findClass Rc_lw = some m.cls) (hts : ∀ w ∈ gt, w.before args s = true) (hK : va_K D cls (wo_tys cA) s) (hG : wo_G base s) (hW : wo_S D cls cA base s w H locs) (hM : mt l D cls (wo_tys cA) cA base y_q_analyse (Cond.code y_q_analyse b_q_analyse 3 (some .int) :: gt) rm_q_analyse (.ref (base + b) :: As) w ov w' rm_q_analyse.cells rm_q_analyse.slots) (hkb : kb w b 9 = true) (hR : rm_q_analyse.frames + 1 ≤ R.frames ∧ 8 + (3 + 11) + rm_q_analyse.locals ≤ R.locals) (hf : cells + rm_q_analyse.cells ≤ R.cells ∧ slots + rm_q_analyse.slots ≤ R.slots) (hn : As.length = 0) (hsz : ls.size = nL) (hst : st0 = As.reverse ++ .ref (base + b) :: rest) (hcat : (rest.map fun v => v.category).sum ≤ 8) (hdg : decode cc pc = .ok (.invokevirtual 100, 3)) (kk : ∀ (H1 : Heap) (locs1 : List Loc), wo_S D cls cA base s w' H1 locs1 → W p l e R s m args below meth c H1 locs1 (cells + rm_q_analyse.cells) (slots + rm_q_analyse.slots) Q (F0 m (pc + 3) ls (ov.toList ++ rest))) : W p l e R s m args below meth c H locs cells slots Q (F0 m pc ls st0) :=
  wo_callV (C := Rc_q) hx hb hml hown hts hK hG hW hM hkb rfl (gt_of (i := 1573) (by decide +kernel) (by decide +kernel)) (gt_of (i := 1574) (by decide +kernel) (by decide +kernel)) (gt_of (i := 1575) (by decide +kernel) (by decide +kernel)) (gt_of (i := 10) (by decide +kernel) (by decide +kernel)) (gt_of (i := 1576) (by decide +kernel) (by decide +kernel)) (by decide +kernel) hR hf hn hsz hst hcat hdg kk
theorem cs_lw_101 {p : Program} {l : Launch} {e : Env} {R : Room} {s : State} {m : MethodId} {args : Array Value} {below : List Frame} {meth : Method} {c : Code} {H : Heap} {locs : List Loc} {cells slots : Nat} {Q : State → Prop} {D : va_G} {cA : Nat → ClassId} {base : Nat} {w w' : WW} {cc : ByteArray} {pc nL : Nat} {ls : Array Slot} {rest st0 As : List Value} {ov : Option Value} (hx : p.tables.exec = Jvm.exec) (hb : c.code = cc) (hml : c.maxLocals = nL) (hown : s.vm.findClass Rc_lw = some m.cls) (hts : ∀ w ∈ gt, w.before args s = true) (hK : va_K D cls (wo_tys cA) s) (hG : wo_G base s) (hW : wo_S D cls cA base s w H locs) (hM : mt l D cls (wo_tys cA) cA base y_lw_warning (Cond.codeWith y_lw_warning b_lw_warning 4 (some .int) hh_lw_warning :: gt) rm_lw_warning As w ov w' rm_lw_warning.cells rm_lw_warning.slots) (hR : rm_lw_warning.frames + 1 ≤ R.frames ∧ 8 + (4 + 11) + rm_lw_warning.locals ≤ R.locals) (hf : cells + rm_lw_warning.cells ≤ R.cells ∧ slots + rm_lw_warning.slots ≤ R.slots) (hn : As.length = 3) (hsz : ls.size = nL) (hst : st0 = As.reverse ++ rest) (hcat : (rest.map fun v => v.category).sum ≤ 8) (hdg : decode cc pc = .ok (.invokestatic 101, 3)) (kk : ∀ (H1 : Heap) (locs1 : List Loc), wo_S D cls cA base s w' H1 locs1 → W p l e R s m args below meth c H1 locs1 (cells + rm_lw_warning.cells) (slots + rm_lw_warning.slots) Q (F0 m (pc + 3) ls (ov.toList ++ rest))) : W p l e R s m args below meth c H locs cells slots Q (F0 m pc ls st0) :=
  wo_callSW hx hb hml hown hts hK hG hW hM (gt_of (i := 1120) (by decide +kernel) (by decide +kernel)) (gt_of (i := 1121) (by decide +kernel) (by decide +kernel)) (gt_of (i := 0) (by decide +kernel) (by decide +kernel)) (gt_of (i := 1122) (by decide +kernel) (by decide +kernel)) (by decide +kernel) hR hf hn hsz hst hcat hdg kk
theorem cv_lw_103 {p : Program} {l : Launch} {e : Env} {R : Room} {s : State} {m : MethodId} {args : Array Value} {below : List Frame} {meth : Method} {c : Code} {H : Heap} {locs : List Loc} {cells slots : Nat} {Q : State → Prop} {D : va_G} {cA : Nat → ClassId} {base : Nat} {w w' : WW} {cc : ByteArray} {pc nL : Nat} {ls : Array Slot} {rest st0 As : List Value} {ov : Option Value} {b : Nat} (hx : p.tables.exec = Jvm.exec) (hb : c.code = cc) (hml : c.maxLocals = nL) (hown : s.vm.findClass Rc_lw = some m.cls) (hts : ∀ w ∈ gt, w.before args s = true) (hK : va_K D cls (wo_tys cA) s) (hG : wo_G base s) (hW : wo_S D cls cA base s w H locs) (hM : mt l D cls (wo_tys cA) cA base y_q_warning (Cond.code y_q_warning b_q_warning 5 (some .int) :: gt) rm_q_warning (.ref (base + b) :: As) w ov w' rm_q_warning.cells rm_q_warning.slots) (hkb : kb w b 9 = true) (hR : rm_q_warning.frames + 1 ≤ R.frames ∧ 8 + (5 + 11) + rm_q_warning.locals ≤ R.locals) (hf : cells + rm_q_warning.cells ≤ R.cells ∧ slots + rm_q_warning.slots ≤ R.slots) (hn : As.length = 1) (hsz : ls.size = nL) (hst : st0 = As.reverse ++ .ref (base + b) :: rest) (hcat : (rest.map fun v => v.category).sum ≤ 8) (hdg : decode cc pc = .ok (.invokevirtual 103, 3)) (kk : ∀ (H1 : Heap) (locs1 : List Loc), wo_S D cls cA base s w' H1 locs1 → W p l e R s m args below meth c H1 locs1 (cells + rm_q_warning.cells) (slots + rm_q_warning.slots) Q (F0 m (pc + 3) ls (ov.toList ++ rest))) : W p l e R s m args below meth c H locs cells slots Q (F0 m pc ls st0) :=
  wo_callV (C := Rc_q) hx hb hml hown hts hK hG hW hM hkb rfl (gt_of (i := 1720) (by decide +kernel) (by decide +kernel)) (gt_of (i := 1721) (by decide +kernel) (by decide +kernel)) (gt_of (i := 1722) (by decide +kernel) (by decide +kernel)) (gt_of (i := 10) (by decide +kernel) (by decide +kernel)) (gt_of (i := 1723) (by decide +kernel) (by decide +kernel)) (by decide +kernel) hR hf hn hsz hst hcat hdg kk
theorem cs_lw_104 {p : Program} {l : Launch} {e : Env} {R : Room} {s : State} {m : MethodId} {args : Array Value} {below : List Frame} {meth : Method} {c : Code} {H : Heap} {locs : List Loc} {cells slots : Nat} {Q : State → Prop} {D : va_G} {cA : Nat → ClassId} {base : Nat} {w w' : WW} {cc : ByteArray} {pc nL : Nat} {ls : Array Slot} {rest st0 As : List Value} {ov : Option Value} (hx : p.tables.exec = Jvm.exec) (hb : c.code = cc) (hml : c.maxLocals = nL) (hown : s.vm.findClass Rc_lw = some m.cls) (hts : ∀ w ∈ gt, w.before args s = true) (hK : va_K D cls (wo_tys cA) s) (hG : wo_G base s) (hW : wo_S D cls cA base s w H locs) (hM : mt l D cls (wo_tys cA) cA base y_lw_left (Cond.codeWith y_lw_left b_lw_left 5 (some .int) hh_lw_left :: gt) rm_lw_left As w ov w' rm_lw_left.cells rm_lw_left.slots) (hR : rm_lw_left.frames + 1 ≤ R.frames ∧ 8 + (5 + 11) + rm_lw_left.locals ≤ R.locals) (hf : cells + rm_lw_left.cells ≤ R.cells ∧ slots + rm_lw_left.slots ≤ R.slots) (hn : As.length = 4) (hsz : ls.size = nL) (hst : st0 = As.reverse ++ rest) (hcat : (rest.map fun v => v.category).sum ≤ 8) (hdg : decode cc pc = .ok (.invokestatic 104, 3)) (kk : ∀ (H1 : Heap) (locs1 : List Loc), wo_S D cls cA base s w' H1 locs1 → W p l e R s m args below meth c H1 locs1 (cells + rm_lw_left.cells) (slots + rm_lw_left.slots) Q (F0 m (pc + 3) ls (ov.toList ++ rest))) : W p l e R s m args below meth c H locs cells slots Q (F0 m pc ls st0) :=
  wo_callSW hx hb hml hown hts hK hG hW hM (gt_of (i := 1133) (by decide +kernel) (by decide +kernel)) (gt_of (i := 1134) (by decide +kernel) (by decide +kernel)) (gt_of (i := 0) (by decide +kernel) (by decide +kernel)) (gt_of (i := 1135) (by decide +kernel) (by decide +kernel)) (by decide +kernel) hR hf hn hsz hst hcat hdg kk
theorem cv_lw_106 {p : Program} {l : Launch} {e : Env} {R : Room} {s : State} {m : MethodId} {args : Array Value} {below : List Frame} {meth : Method} {c : Code} {H : Heap} {locs : List Loc} {cells slots : Nat} {Q : State → Prop} {D : va_G} {cA : Nat → ClassId} {base : Nat} {w w' : WW} {cc : ByteArray} {pc nL : Nat} {ls : Array Slot} {rest st0 As : List Value} {ov : Option Value} {b : Nat} (hx : p.tables.exec = Jvm.exec) (hb : c.code = cc) (hml : c.maxLocals = nL) (hown : s.vm.findClass Rc_lw = some m.cls) (hts : ∀ w ∈ gt, w.before args s = true) (hK : va_K D cls (wo_tys cA) s) (hG : wo_G base s) (hW : wo_S D cls cA base s w H locs) (hM : mt l D cls (wo_tys cA) cA base y_q_left_II (Cond.code y_q_left_II b_q_left_II 4 (some .int) :: gt) rm_q_left_II (.ref (base + b) :: As) w ov w' rm_q_left_II.cells rm_q_left_II.slots) (hkb : kb w b 9 = true) (hR : rm_q_left_II.frames + 1 ≤ R.frames ∧ 8 + (4 + 11) + rm_q_left_II.locals ≤ R.locals) (hf : cells + rm_q_left_II.cells ≤ R.cells ∧ slots + rm_q_left_II.slots ≤ R.slots) (hn : As.length = 2) (hsz : ls.size = nL) (hst : st0 = As.reverse ++ .ref (base + b) :: rest) (hcat : (rest.map fun v => v.category).sum ≤ 8) (hdg : decode cc pc = .ok (.invokevirtual 106, 3)) (kk : ∀ (H1 : Heap) (locs1 : List Loc), wo_S D cls cA base s w' H1 locs1 → W p l e R s m args below meth c H1 locs1 (cells + rm_q_left_II.cells) (slots + rm_q_left_II.slots) Q (F0 m (pc + 3) ls (ov.toList ++ rest))) : W p l e R s m args below meth c H locs cells slots Q (F0 m pc ls st0) :=
  wo_callV (C := Rc_q) hx hb hml hown hts hK hG hW hM hkb rfl (gt_of (i := 1724) (by decide +kernel) (by decide +kernel)) (gt_of (i := 1725) (by decide +kernel) (by decide +kernel)) (gt_of (i := 1726) (by decide +kernel) (by decide +kernel)) (gt_of (i := 10) (by decide +kernel) (by decide +kernel)) (gt_of (i := 1727) (by decide +kernel) (by decide +kernel)) (by decide +kernel) hR hf hn hsz hst hcat hdg kk
theorem cs_lw_107 {p : Program} {l : Launch} {e : Env} {R : Room} {s : State} {m : MethodId} {args : Array Value} {below : List Frame} {meth : Method} {c : Code} {H : Heap} {locs : List Loc} {cells slots : Nat} {Q : State → Prop} {D : va_G} {cA : Nat → ClassId} {base : Nat} {w w' : WW} {cc : ByteArray} {pc nL : Nat} {ls : Array Slot} {rest st0 As : List Value} {ov : Option Value} (hx : p.tables.exec = Jvm.exec) (hb : c.code = cc) (hml : c.maxLocals = nL) (hown : s.vm.findClass Rc_lw = some m.cls) (hts : ∀ w ∈ gt, w.before args s = true) (hK : va_K D cls (wo_tys cA) s) (hG : wo_G base s) (hW : wo_S D cls cA base s w H locs) (hM : mt l D cls (wo_tys cA) cA base y_lw_count (Cond.codeWith y_lw_count b_lw_count 4 (some .int) hh_lw_count :: gt) rm_lw_count As w ov w' rm_lw_count.cells rm_lw_count.slots) (hR : rm_lw_count.frames + 1 ≤ R.frames ∧ 8 + (4 + 11) + rm_lw_count.locals ≤ R.locals) (hf : cells + rm_lw_count.cells ≤ R.cells ∧ slots + rm_lw_count.slots ≤ R.slots) (hn : As.length = 3) (hsz : ls.size = nL) (hst : st0 = As.reverse ++ rest) (hcat : (rest.map fun v => v.category).sum ≤ 8) (hdg : decode cc pc = .ok (.invokestatic 107, 3)) (kk : ∀ (H1 : Heap) (locs1 : List Loc), wo_S D cls cA base s w' H1 locs1 → W p l e R s m args below meth c H1 locs1 (cells + rm_lw_count.cells) (slots + rm_lw_count.slots) Q (F0 m (pc + 3) ls (ov.toList ++ rest))) : W p l e R s m args below meth c H locs cells slots Q (F0 m pc ls st0) :=
  wo_callSW hx hb hml hown hts hK hG hW hM (gt_of (i := 1146) (by decide +kernel) (by decide +kernel)) (gt_of (i := 1147) (by decide +kernel) (by decide +kernel)) (gt_of (i := 0) (by decide +kernel) (by decide +kernel)) (gt_of (i := 1148) (by decide +kernel) (by decide +kernel)) (by decide +kernel) hR hf hn hsz hst hcat hdg kk
theorem cv_lw_109 {p : Program} {l : Launch} {e : Env} {R : Room} {s : State} {m : MethodId} {args : Array Value} {below : List Frame} {meth : Method} {c : Code} {H : Heap} {locs : List Loc} {cells slots : Nat} {Q : State → Prop} {D : va_G} {cA : Nat → ClassId} {base : Nat} {w w' : WW} {cc : ByteArray} {pc nL : Nat} {ls : Array Slot} {rest st0 As : List Value} {ov : Option Value} {b : Nat} (hx : p.tables.exec = Jvm.exec) (hb : c.code = cc) (hml : c.maxLocals = nL) (hown : s.vm.findClass Rc_lw = some m.cls) (hts : ∀ w ∈ gt, w.before args s = true) (hK : va_K D cls (wo_tys cA) s) (hG : wo_G base s) (hW : wo_S D cls cA base s w H locs) (hM : mt l D cls (wo_tys cA) cA base y_q_count (Cond.code y_q_count b_q_count 2 (some .int) :: gt) rm_q_count (.ref (base + b) :: As) w ov w' rm_q_count.cells rm_q_count.slots) (hkb : kb w b 9 = true) (hR : rm_q_count.frames + 1 ≤ R.frames ∧ 8 + (2 + 11) + rm_q_count.locals ≤ R.locals) (hf : cells + rm_q_count.cells ≤ R.cells ∧ slots + rm_q_count.slots ≤ R.slots) (hn : As.length = 1) (hsz : ls.size = nL) (hst : st0 = As.reverse ++ .ref (base + b) :: rest) (hcat : (rest.map fun v => v.category).sum ≤ 8) (hdg : decode cc pc = .ok (.invokevirtual 109, 3)) (kk : ∀ (H1 : Heap) (locs1 : List Loc), wo_S D cls cA base s w' H1 locs1 → W p l e R s m args below meth c H1 locs1 (cells + rm_q_count.cells) (slots + rm_q_count.slots) Q (F0 m (pc + 3) ls (ov.toList ++ rest))) : W p l e R s m args below meth c H locs cells slots Q (F0 m pc ls st0) :=
  wo_callV (C := Rc_q) hx hb hml hown hts hK hG hW hM hkb rfl (gt_of (i := 1730) (by decide +kernel) (by decide +kernel)) (gt_of (i := 1731) (by decide +kernel) (by decide +kernel)) (gt_of (i := 1732) (by decide +kernel) (by decide +kernel)) (gt_of (i := 10) (by decide +kernel) (by decide +kernel)) (gt_of (i := 1733) (by decide +kernel) (by decide +kernel)) (by decide +kernel) hR hf hn hsz hst hcat hdg kk
theorem d_lw_law_23 : decode code 23 = .ok (.iload 4, 2) := by decide +kernel
theorem d_lw_law_25 : decode code 25 = .ok (.aload_n 0, 1) := by decide +kernel
theorem d_lw_law_26 : decode code 26 = .ok (.arraylength, 1) := by decide +kernel
theorem d_lw_law_27 : decode code 27 = .ok (.iconst 3, 1) := by decide +kernel
theorem d_lw_law_28 : decode code 28 = .ok (.isub, 1) := by decide +kernel
theorem d_lw_law_29 : decode code 29 = .ok (.if_icmp .gt (712), 3) := by decide +kernel
theorem d_lw_law_32 : decode code 32 = .ok (.aload_n 0, 1) := by decide +kernel
theorem d_lw_law_33 : decode code 33 = .ok (.iload 4, 2) := by decide +kernel
theorem d_lw_law_35 : decode code 35 = .ok (.iaload, 1) := by decide +kernel
theorem d_lw_law_36 : decode code 36 = .ok (.bipush (15), 2) := by decide +kernel
theorem d_lw_law_38 : decode code 38 = .ok (.iand, 1) := by decide +kernel
theorem d_lw_law_39 : decode code 39 = .ok (.tableswitch (696) (0) (12) #[65, 153, 166, 210, 223, 291, 347, 360, 416, 472, 516, 572, 640], 65) := by decide +kernel
theorem d_lw_law_104 : decode code 104 = .ok (.aload_n 1, 1) := by decide +kernel
theorem d_lw_law_105 : decode code 105 = .ok (.aload_n 0, 1) := by decide +kernel
theorem d_lw_law_106 : decode code 106 = .ok (.iload 4, 2) := by decide +kernel
theorem d_lw_law_108 : decode code 108 = .ok (.iconst 1, 1) := by decide +kernel
theorem d_lw_law_109 : decode code 109 = .ok (.iadd, 1) := by decide +kernel
theorem d_lw_law_110 : decode code 110 = .ok (.iaload, 1) := by decide +kernel
theorem d_lw_law_111 : decode code 111 = .ok (.i2l, 1) := by decide +kernel
theorem d_lw_law_112 : decode code 112 = .ok (.bipush (32), 2) := by decide +kernel
theorem d_lw_law_114 : decode code 114 = .ok (.lshl, 1) := by decide +kernel
theorem d_lw_law_115 : decode code 115 = .ok (.aload_n 0, 1) := by decide +kernel
theorem d_lw_law_116 : decode code 116 = .ok (.iload 4, 2) := by decide +kernel
theorem d_lw_law_118 : decode code 118 = .ok (.iconst 2, 1) := by decide +kernel
theorem d_lw_law_119 : decode code 119 = .ok (.iadd, 1) := by decide +kernel
theorem d_lw_law_120 : decode code 120 = .ok (.iaload, 1) := by decide +kernel
theorem d_lw_law_121 : decode code 121 = .ok (.i2l, 1) := by decide +kernel
theorem d_lw_law_122 : decode code 122 = .ok (.ldc2_w 57, 3) := by decide +kernel
theorem d_lw_law_125 : decode code 125 = .ok (.land, 1) := by decide +kernel
theorem d_lw_law_126 : decode code 126 = .ok (.lor, 1) := by decide +kernel
theorem d_lw_law_127 : decode code 127 = .ok (.aload_n 3, 1) := by decide +kernel
theorem d_lw_law_128 : decode code 128 = .ok (.invokestatic 59, 3) := by decide +kernel
theorem d_lw_law_131 : decode code 131 = .ok (.istore 5, 2) := by decide +kernel
theorem d_lw_law_133 : decode code 133 = .ok (.aload_n 2, 1) := by decide +kernel
theorem d_lw_law_134 : decode code 134 = .ok (.aload_n 0, 1) := by decide +kernel
theorem d_lw_law_135 : decode code 135 = .ok (.iload 4, 2) := by decide +kernel
theorem d_lw_law_137 : decode code 137 = .ok (.iconst 1, 1) := by decide +kernel
theorem d_lw_law_138 : decode code 138 = .ok (.iadd, 1) := by decide +kernel
theorem d_lw_law_139 : decode code 139 = .ok (.iaload, 1) := by decide +kernel
theorem d_lw_law_140 : decode code 140 = .ok (.i2l, 1) := by decide +kernel
theorem d_lw_law_141 : decode code 141 = .ok (.bipush (32), 2) := by decide +kernel
theorem d_lw_law_143 : decode code 143 = .ok (.lshl, 1) := by decide +kernel
theorem d_lw_law_144 : decode code 144 = .ok (.aload_n 0, 1) := by decide +kernel
theorem d_lw_law_145 : decode code 145 = .ok (.iload 4, 2) := by decide +kernel
theorem d_lw_law_147 : decode code 147 = .ok (.iconst 2, 1) := by decide +kernel
theorem d_lw_law_148 : decode code 148 = .ok (.iadd, 1) := by decide +kernel
theorem d_lw_law_149 : decode code 149 = .ok (.iaload, 1) := by decide +kernel
theorem d_lw_law_150 : decode code 150 = .ok (.i2l, 1) := by decide +kernel
theorem d_lw_law_151 : decode code 151 = .ok (.ldc2_w 57, 3) := by decide +kernel
theorem d_lw_law_154 : decode code 154 = .ok (.land, 1) := by decide +kernel
theorem d_lw_law_155 : decode code 155 = .ok (.lor, 1) := by decide +kernel
theorem d_lw_law_156 : decode code 156 = .ok (.invokevirtual 64, 3) := by decide +kernel
theorem d_lw_law_159 : decode code 159 = .ok (.istore 6, 2) := by decide +kernel
theorem d_lw_law_161 : decode code 161 = .ok (.aload_n 2, 1) := by decide +kernel
theorem d_lw_law_162 : decode code 162 = .ok (.invokevirtual 65, 3) := by decide +kernel
theorem d_lw_law_165 : decode code 165 = .ok (.iload 5, 2) := by decide +kernel
theorem d_lw_law_167 : decode code 167 = .ok (.if_icmp .eq (5), 3) := by decide +kernel
theorem d_lw_law_170 : decode code 170 = .ok (.iconst 0, 1) := by decide +kernel
theorem d_lw_law_171 : decode code 171 = .ok (.ireturn, 1) := by decide +kernel
theorem d_lw_law_172 : decode code 172 = .ok (.iload 5, 2) := by decide +kernel
theorem d_lw_law_174 : decode code 174 = .ok (.ifCond .ne (15), 3) := by decide +kernel
theorem d_lw_law_177 : decode code 177 = .ok (.aload_n 3, 1) := by decide +kernel
theorem d_lw_law_178 : decode code 178 = .ok (.iconst 0, 1) := by decide +kernel
theorem d_lw_law_179 : decode code 179 = .ok (.laload, 1) := by decide +kernel
theorem d_lw_law_180 : decode code 180 = .ok (.iload 6, 2) := by decide +kernel
theorem d_lw_law_182 : decode code 182 = .ok (.i2l, 1) := by decide +kernel
theorem d_lw_law_183 : decode code 183 = .ok (.lcmp, 1) := by decide +kernel
theorem d_lw_law_184 : decode code 184 = .ok (.ifCond .eq (5), 3) := by decide +kernel
theorem d_lw_law_187 : decode code 187 = .ok (.iconst 0, 1) := by decide +kernel
theorem d_lw_law_188 : decode code 188 = .ok (.ireturn, 1) := by decide +kernel
theorem d_lw_law_189 : decode code 189 = .ok (.goto (546), 3) := by decide +kernel
theorem d_lw_law_192 : decode code 192 = .ok (.aload_n 1, 1) := by decide +kernel
theorem d_lw_law_193 : decode code 193 = .ok (.invokevirtual 68, 3) := by decide +kernel
theorem d_lw_law_196 : decode code 196 = .ok (.aload_n 2, 1) := by decide +kernel
theorem d_lw_law_197 : decode code 197 = .ok (.invokevirtual 71, 3) := by decide +kernel
theorem d_lw_law_200 : decode code 200 = .ok (.if_icmp .eq (535), 3) := by decide +kernel
theorem d_lw_law_203 : decode code 203 = .ok (.iconst 0, 1) := by decide +kernel
theorem d_lw_law_204 : decode code 204 = .ok (.ireturn, 1) := by decide +kernel
theorem d_lw_law_205 : decode code 205 = .ok (.aload_n 1, 1) := by decide +kernel
theorem d_lw_law_206 : decode code 206 = .ok (.aload_n 3, 1) := by decide +kernel
theorem d_lw_law_207 : decode code 207 = .ok (.invokestatic 72, 3) := by decide +kernel
theorem d_lw_law_210 : decode code 210 = .ok (.istore 5, 2) := by decide +kernel
theorem d_lw_law_212 : decode code 212 = .ok (.aload_n 2, 1) := by decide +kernel
theorem d_lw_law_213 : decode code 213 = .ok (.invokevirtual 75, 3) := by decide +kernel
theorem d_lw_law_216 : decode code 216 = .ok (.istore 6, 2) := by decide +kernel
theorem d_lw_law_218 : decode code 218 = .ok (.aload_n 2, 1) := by decide +kernel
theorem d_lw_law_219 : decode code 219 = .ok (.invokevirtual 65, 3) := by decide +kernel
theorem d_lw_law_222 : decode code 222 = .ok (.iload 5, 2) := by decide +kernel
theorem d_lw_law_224 : decode code 224 = .ok (.if_icmp .eq (5), 3) := by decide +kernel
theorem d_lw_law_227 : decode code 227 = .ok (.iconst 0, 1) := by decide +kernel
theorem d_lw_law_228 : decode code 228 = .ok (.ireturn, 1) := by decide +kernel
theorem d_lw_law_229 : decode code 229 = .ok (.iload 5, 2) := by decide +kernel
theorem d_lw_law_231 : decode code 231 = .ok (.ifCond .ne (15), 3) := by decide +kernel
theorem d_lw_law_234 : decode code 234 = .ok (.aload_n 3, 1) := by decide +kernel
theorem d_lw_law_235 : decode code 235 = .ok (.iconst 0, 1) := by decide +kernel
theorem d_lw_law_236 : decode code 236 = .ok (.laload, 1) := by decide +kernel
theorem d_lw_law_237 : decode code 237 = .ok (.iload 6, 2) := by decide +kernel
theorem d_lw_law_239 : decode code 239 = .ok (.i2l, 1) := by decide +kernel
theorem d_lw_law_240 : decode code 240 = .ok (.lcmp, 1) := by decide +kernel
theorem d_lw_law_241 : decode code 241 = .ok (.ifCond .eq (5), 3) := by decide +kernel
theorem d_lw_law_244 : decode code 244 = .ok (.iconst 0, 1) := by decide +kernel
theorem d_lw_law_245 : decode code 245 = .ok (.ireturn, 1) := by decide +kernel
theorem d_lw_law_246 : decode code 246 = .ok (.goto (489), 3) := by decide +kernel
theorem d_lw_law_249 : decode code 249 = .ok (.aload_n 1, 1) := by decide +kernel
theorem d_lw_law_250 : decode code 250 = .ok (.invokevirtual 76, 3) := by decide +kernel
theorem d_lw_law_253 : decode code 253 = .ok (.aload_n 2, 1) := by decide +kernel
theorem d_lw_law_254 : decode code 254 = .ok (.invokevirtual 79, 3) := by decide +kernel
theorem d_lw_law_257 : decode code 257 = .ok (.if_icmp .eq (478), 3) := by decide +kernel
theorem d_lw_law_260 : decode code 260 = .ok (.iconst 0, 1) := by decide +kernel
theorem d_lw_law_261 : decode code 261 = .ok (.ireturn, 1) := by decide +kernel
theorem d_lw_law_262 : decode code 262 = .ok (.aload_n 1, 1) := by decide +kernel
theorem d_lw_law_263 : decode code 263 = .ok (.aload_n 0, 1) := by decide +kernel
theorem d_lw_law_264 : decode code 264 = .ok (.iload 4, 2) := by decide +kernel
theorem d_lw_law_266 : decode code 266 = .ok (.iconst 1, 1) := by decide +kernel
theorem d_lw_law_267 : decode code 267 = .ok (.iadd, 1) := by decide +kernel
theorem d_lw_law_268 : decode code 268 = .ok (.iaload, 1) := by decide +kernel
theorem d_lw_law_269 : decode code 269 = .ok (.aload_n 0, 1) := by decide +kernel
theorem d_lw_law_270 : decode code 270 = .ok (.iload 4, 2) := by decide +kernel
theorem d_lw_law_272 : decode code 272 = .ok (.iconst 2, 1) := by decide +kernel
theorem d_lw_law_273 : decode code 273 = .ok (.iadd, 1) := by decide +kernel
theorem d_lw_law_274 : decode code 274 = .ok (.iaload, 1) := by decide +kernel
theorem d_lw_law_275 : decode code 275 = .ok (.aload_n 3, 1) := by decide +kernel
theorem d_lw_law_276 : decode code 276 = .ok (.invokestatic 80, 3) := by decide +kernel
theorem d_lw_law_279 : decode code 279 = .ok (.istore 5, 2) := by decide +kernel
theorem d_lw_law_281 : decode code 281 = .ok (.aload_n 2, 1) := by decide +kernel
theorem d_lw_law_282 : decode code 282 = .ok (.aload_n 0, 1) := by decide +kernel
theorem d_lw_law_283 : decode code 283 = .ok (.iload 4, 2) := by decide +kernel
theorem d_lw_law_285 : decode code 285 = .ok (.iconst 1, 1) := by decide +kernel
theorem d_lw_law_286 : decode code 286 = .ok (.iadd, 1) := by decide +kernel
theorem d_lw_law_287 : decode code 287 = .ok (.iaload, 1) := by decide +kernel
theorem d_lw_law_288 : decode code 288 = .ok (.aload_n 0, 1) := by decide +kernel
theorem d_lw_law_289 : decode code 289 = .ok (.iload 4, 2) := by decide +kernel
theorem d_lw_law_291 : decode code 291 = .ok (.iconst 2, 1) := by decide +kernel
theorem d_lw_law_292 : decode code 292 = .ok (.iadd, 1) := by decide +kernel
theorem d_lw_law_293 : decode code 293 = .ok (.iaload, 1) := by decide +kernel
theorem d_lw_law_294 : decode code 294 = .ok (.invokevirtual 83, 3) := by decide +kernel
theorem d_lw_law_297 : decode code 297 = .ok (.istore 6, 2) := by decide +kernel
theorem d_lw_law_299 : decode code 299 = .ok (.aload_n 2, 1) := by decide +kernel
theorem d_lw_law_300 : decode code 300 = .ok (.invokevirtual 65, 3) := by decide +kernel
theorem d_lw_law_303 : decode code 303 = .ok (.iload 5, 2) := by decide +kernel
theorem d_lw_law_305 : decode code 305 = .ok (.if_icmp .eq (5), 3) := by decide +kernel
theorem d_lw_law_308 : decode code 308 = .ok (.iconst 0, 1) := by decide +kernel
theorem d_lw_law_309 : decode code 309 = .ok (.ireturn, 1) := by decide +kernel
theorem d_lw_law_310 : decode code 310 = .ok (.iload 5, 2) := by decide +kernel
theorem d_lw_law_312 : decode code 312 = .ok (.ifCond .ne (15), 3) := by decide +kernel
theorem d_lw_law_315 : decode code 315 = .ok (.aload_n 3, 1) := by decide +kernel
theorem d_lw_law_316 : decode code 316 = .ok (.iconst 0, 1) := by decide +kernel
theorem d_lw_law_317 : decode code 317 = .ok (.laload, 1) := by decide +kernel
theorem d_lw_law_318 : decode code 318 = .ok (.iload 6, 2) := by decide +kernel
theorem d_lw_law_320 : decode code 320 = .ok (.i2l, 1) := by decide +kernel
theorem d_lw_law_321 : decode code 321 = .ok (.lcmp, 1) := by decide +kernel
theorem d_lw_law_322 : decode code 322 = .ok (.ifCond .eq (5), 3) := by decide +kernel
theorem d_lw_law_325 : decode code 325 = .ok (.iconst 0, 1) := by decide +kernel
theorem d_lw_law_326 : decode code 326 = .ok (.ireturn, 1) := by decide +kernel
theorem d_lw_law_327 : decode code 327 = .ok (.goto (408), 3) := by decide +kernel
theorem d_lw_law_330 : decode code 330 = .ok (.aload_n 1, 1) := by decide +kernel
theorem d_lw_law_331 : decode code 331 = .ok (.aload_n 0, 1) := by decide +kernel
theorem d_lw_law_332 : decode code 332 = .ok (.iload 4, 2) := by decide +kernel
theorem d_lw_law_334 : decode code 334 = .ok (.iconst 1, 1) := by decide +kernel
theorem d_lw_law_335 : decode code 335 = .ok (.iadd, 1) := by decide +kernel
theorem d_lw_law_336 : decode code 336 = .ok (.iaload, 1) := by decide +kernel
theorem d_lw_law_337 : decode code 337 = .ok (.aload_n 3, 1) := by decide +kernel
theorem d_lw_law_338 : decode code 338 = .ok (.invokestatic 84, 3) := by decide +kernel
theorem d_lw_law_341 : decode code 341 = .ok (.istore 5, 2) := by decide +kernel
theorem d_lw_law_343 : decode code 343 = .ok (.aload_n 2, 1) := by decide +kernel
theorem d_lw_law_344 : decode code 344 = .ok (.aload_n 0, 1) := by decide +kernel
theorem d_lw_law_345 : decode code 345 = .ok (.iload 4, 2) := by decide +kernel
theorem d_lw_law_347 : decode code 347 = .ok (.iconst 1, 1) := by decide +kernel
theorem d_lw_law_348 : decode code 348 = .ok (.iadd, 1) := by decide +kernel
theorem d_lw_law_349 : decode code 349 = .ok (.iaload, 1) := by decide +kernel
theorem d_lw_law_350 : decode code 350 = .ok (.invokevirtual 87, 3) := by decide +kernel
theorem d_lw_law_353 : decode code 353 = .ok (.istore 6, 2) := by decide +kernel
theorem d_lw_law_355 : decode code 355 = .ok (.aload_n 2, 1) := by decide +kernel
theorem d_lw_law_356 : decode code 356 = .ok (.invokevirtual 65, 3) := by decide +kernel
theorem d_lw_law_359 : decode code 359 = .ok (.iload 5, 2) := by decide +kernel
theorem d_lw_law_361 : decode code 361 = .ok (.if_icmp .eq (5), 3) := by decide +kernel
theorem d_lw_law_364 : decode code 364 = .ok (.iconst 0, 1) := by decide +kernel
theorem d_lw_law_365 : decode code 365 = .ok (.ireturn, 1) := by decide +kernel
theorem d_lw_law_366 : decode code 366 = .ok (.iload 5, 2) := by decide +kernel
theorem d_lw_law_368 : decode code 368 = .ok (.ifCond .ne (15), 3) := by decide +kernel
theorem d_lw_law_371 : decode code 371 = .ok (.aload_n 3, 1) := by decide +kernel
theorem d_lw_law_372 : decode code 372 = .ok (.iconst 0, 1) := by decide +kernel
theorem d_lw_law_373 : decode code 373 = .ok (.laload, 1) := by decide +kernel
theorem d_lw_law_374 : decode code 374 = .ok (.iload 6, 2) := by decide +kernel
theorem d_lw_law_376 : decode code 376 = .ok (.i2l, 1) := by decide +kernel
theorem d_lw_law_377 : decode code 377 = .ok (.lcmp, 1) := by decide +kernel
theorem d_lw_law_378 : decode code 378 = .ok (.ifCond .eq (5), 3) := by decide +kernel
theorem d_lw_law_381 : decode code 381 = .ok (.iconst 0, 1) := by decide +kernel
theorem d_lw_law_382 : decode code 382 = .ok (.ireturn, 1) := by decide +kernel
theorem d_lw_law_383 : decode code 383 = .ok (.goto (352), 3) := by decide +kernel
theorem d_lw_law_386 : decode code 386 = .ok (.aload_n 1, 1) := by decide +kernel
theorem d_lw_law_387 : decode code 387 = .ok (.invokevirtual 88, 3) := by decide +kernel
theorem d_lw_law_390 : decode code 390 = .ok (.aload_n 2, 1) := by decide +kernel
theorem d_lw_law_391 : decode code 391 = .ok (.invokevirtual 91, 3) := by decide +kernel
theorem d_lw_law_394 : decode code 394 = .ok (.if_icmp .eq (341), 3) := by decide +kernel
theorem d_lw_law_397 : decode code 397 = .ok (.iconst 0, 1) := by decide +kernel
theorem d_lw_law_398 : decode code 398 = .ok (.ireturn, 1) := by decide +kernel
theorem d_lw_law_399 : decode code 399 = .ok (.aload_n 1, 1) := by decide +kernel
theorem d_lw_law_400 : decode code 400 = .ok (.aload_n 0, 1) := by decide +kernel
theorem d_lw_law_401 : decode code 401 = .ok (.iload 4, 2) := by decide +kernel
theorem d_lw_law_403 : decode code 403 = .ok (.iconst 1, 1) := by decide +kernel
theorem d_lw_law_404 : decode code 404 = .ok (.iadd, 1) := by decide +kernel
theorem d_lw_law_405 : decode code 405 = .ok (.iaload, 1) := by decide +kernel
theorem d_lw_law_406 : decode code 406 = .ok (.aload_n 3, 1) := by decide +kernel
theorem d_lw_law_407 : decode code 407 = .ok (.invokestatic 92, 3) := by decide +kernel
theorem d_lw_law_410 : decode code 410 = .ok (.istore 5, 2) := by decide +kernel
theorem d_lw_law_412 : decode code 412 = .ok (.aload_n 2, 1) := by decide +kernel
theorem d_lw_law_413 : decode code 413 = .ok (.aload_n 0, 1) := by decide +kernel
theorem d_lw_law_414 : decode code 414 = .ok (.iload 4, 2) := by decide +kernel
theorem d_lw_law_416 : decode code 416 = .ok (.iconst 1, 1) := by decide +kernel
theorem d_lw_law_417 : decode code 417 = .ok (.iadd, 1) := by decide +kernel
theorem d_lw_law_418 : decode code 418 = .ok (.iaload, 1) := by decide +kernel
theorem d_lw_law_419 : decode code 419 = .ok (.invokevirtual 94, 3) := by decide +kernel
theorem d_lw_law_422 : decode code 422 = .ok (.istore 6, 2) := by decide +kernel
theorem d_lw_law_424 : decode code 424 = .ok (.aload_n 2, 1) := by decide +kernel
theorem d_lw_law_425 : decode code 425 = .ok (.invokevirtual 65, 3) := by decide +kernel
theorem d_lw_law_428 : decode code 428 = .ok (.iload 5, 2) := by decide +kernel
theorem d_lw_law_430 : decode code 430 = .ok (.if_icmp .eq (5), 3) := by decide +kernel
theorem d_lw_law_433 : decode code 433 = .ok (.iconst 0, 1) := by decide +kernel
theorem d_lw_law_434 : decode code 434 = .ok (.ireturn, 1) := by decide +kernel
theorem d_lw_law_435 : decode code 435 = .ok (.iload 5, 2) := by decide +kernel
theorem d_lw_law_437 : decode code 437 = .ok (.ifCond .ne (15), 3) := by decide +kernel
theorem d_lw_law_440 : decode code 440 = .ok (.aload_n 3, 1) := by decide +kernel
theorem d_lw_law_441 : decode code 441 = .ok (.iconst 0, 1) := by decide +kernel
theorem d_lw_law_442 : decode code 442 = .ok (.laload, 1) := by decide +kernel
theorem d_lw_law_443 : decode code 443 = .ok (.iload 6, 2) := by decide +kernel
theorem d_lw_law_445 : decode code 445 = .ok (.i2l, 1) := by decide +kernel
theorem d_lw_law_446 : decode code 446 = .ok (.lcmp, 1) := by decide +kernel
theorem d_lw_law_447 : decode code 447 = .ok (.ifCond .eq (5), 3) := by decide +kernel
theorem d_lw_law_450 : decode code 450 = .ok (.iconst 0, 1) := by decide +kernel
theorem d_lw_law_451 : decode code 451 = .ok (.ireturn, 1) := by decide +kernel
theorem d_lw_law_452 : decode code 452 = .ok (.goto (283), 3) := by decide +kernel
theorem d_lw_law_455 : decode code 455 = .ok (.aload_n 1, 1) := by decide +kernel
theorem d_lw_law_456 : decode code 456 = .ok (.aload_n 0, 1) := by decide +kernel
theorem d_lw_law_457 : decode code 457 = .ok (.iload 4, 2) := by decide +kernel
theorem d_lw_law_459 : decode code 459 = .ok (.iconst 1, 1) := by decide +kernel
theorem d_lw_law_460 : decode code 460 = .ok (.iadd, 1) := by decide +kernel
theorem d_lw_law_461 : decode code 461 = .ok (.iaload, 1) := by decide +kernel
theorem d_lw_law_462 : decode code 462 = .ok (.aload_n 3, 1) := by decide +kernel
theorem d_lw_law_463 : decode code 463 = .ok (.invokestatic 95, 3) := by decide +kernel
theorem d_lw_law_466 : decode code 466 = .ok (.istore 5, 2) := by decide +kernel
theorem d_lw_law_468 : decode code 468 = .ok (.aload_n 2, 1) := by decide +kernel
theorem d_lw_law_469 : decode code 469 = .ok (.aload_n 0, 1) := by decide +kernel
theorem d_lw_law_470 : decode code 470 = .ok (.iload 4, 2) := by decide +kernel
theorem d_lw_law_472 : decode code 472 = .ok (.iconst 1, 1) := by decide +kernel
theorem d_lw_law_473 : decode code 473 = .ok (.iadd, 1) := by decide +kernel
theorem d_lw_law_474 : decode code 474 = .ok (.iaload, 1) := by decide +kernel
theorem d_lw_law_475 : decode code 475 = .ok (.invokevirtual 97, 3) := by decide +kernel
theorem d_lw_law_478 : decode code 478 = .ok (.istore 6, 2) := by decide +kernel
theorem d_lw_law_480 : decode code 480 = .ok (.aload_n 2, 1) := by decide +kernel
theorem d_lw_law_481 : decode code 481 = .ok (.invokevirtual 65, 3) := by decide +kernel
theorem d_lw_law_484 : decode code 484 = .ok (.iload 5, 2) := by decide +kernel
theorem d_lw_law_486 : decode code 486 = .ok (.if_icmp .eq (5), 3) := by decide +kernel
theorem d_lw_law_489 : decode code 489 = .ok (.iconst 0, 1) := by decide +kernel
theorem d_lw_law_490 : decode code 490 = .ok (.ireturn, 1) := by decide +kernel
theorem d_lw_law_491 : decode code 491 = .ok (.iload 5, 2) := by decide +kernel
theorem d_lw_law_493 : decode code 493 = .ok (.ifCond .ne (15), 3) := by decide +kernel
theorem d_lw_law_496 : decode code 496 = .ok (.aload_n 3, 1) := by decide +kernel
theorem d_lw_law_497 : decode code 497 = .ok (.iconst 0, 1) := by decide +kernel
theorem d_lw_law_498 : decode code 498 = .ok (.laload, 1) := by decide +kernel
theorem d_lw_law_499 : decode code 499 = .ok (.iload 6, 2) := by decide +kernel
theorem d_lw_law_501 : decode code 501 = .ok (.i2l, 1) := by decide +kernel
theorem d_lw_law_502 : decode code 502 = .ok (.lcmp, 1) := by decide +kernel
theorem d_lw_law_503 : decode code 503 = .ok (.ifCond .eq (5), 3) := by decide +kernel
theorem d_lw_law_506 : decode code 506 = .ok (.iconst 0, 1) := by decide +kernel
theorem d_lw_law_507 : decode code 507 = .ok (.ireturn, 1) := by decide +kernel
theorem d_lw_law_508 : decode code 508 = .ok (.goto (227), 3) := by decide +kernel
theorem d_lw_law_511 : decode code 511 = .ok (.aload_n 1, 1) := by decide +kernel
theorem d_lw_law_512 : decode code 512 = .ok (.aload_n 3, 1) := by decide +kernel
theorem d_lw_law_513 : decode code 513 = .ok (.invokestatic 98, 3) := by decide +kernel
theorem d_lw_law_516 : decode code 516 = .ok (.istore 5, 2) := by decide +kernel
theorem d_lw_law_518 : decode code 518 = .ok (.aload_n 2, 1) := by decide +kernel
theorem d_lw_law_519 : decode code 519 = .ok (.invokevirtual 100, 3) := by decide +kernel
theorem d_lw_law_522 : decode code 522 = .ok (.istore 6, 2) := by decide +kernel
theorem d_lw_law_524 : decode code 524 = .ok (.aload_n 2, 1) := by decide +kernel
theorem d_lw_law_525 : decode code 525 = .ok (.invokevirtual 65, 3) := by decide +kernel
theorem d_lw_law_528 : decode code 528 = .ok (.iload 5, 2) := by decide +kernel
theorem d_lw_law_530 : decode code 530 = .ok (.if_icmp .eq (5), 3) := by decide +kernel
theorem d_lw_law_533 : decode code 533 = .ok (.iconst 0, 1) := by decide +kernel
theorem d_lw_law_534 : decode code 534 = .ok (.ireturn, 1) := by decide +kernel
theorem d_lw_law_535 : decode code 535 = .ok (.iload 5, 2) := by decide +kernel
theorem d_lw_law_537 : decode code 537 = .ok (.ifCond .ne (15), 3) := by decide +kernel
theorem d_lw_law_540 : decode code 540 = .ok (.aload_n 3, 1) := by decide +kernel
theorem d_lw_law_541 : decode code 541 = .ok (.iconst 0, 1) := by decide +kernel
theorem d_lw_law_542 : decode code 542 = .ok (.laload, 1) := by decide +kernel
theorem d_lw_law_543 : decode code 543 = .ok (.iload 6, 2) := by decide +kernel
theorem d_lw_law_545 : decode code 545 = .ok (.i2l, 1) := by decide +kernel
theorem d_lw_law_546 : decode code 546 = .ok (.lcmp, 1) := by decide +kernel
theorem d_lw_law_547 : decode code 547 = .ok (.ifCond .eq (5), 3) := by decide +kernel
theorem d_lw_law_550 : decode code 550 = .ok (.iconst 0, 1) := by decide +kernel
theorem d_lw_law_551 : decode code 551 = .ok (.ireturn, 1) := by decide +kernel
theorem d_lw_law_552 : decode code 552 = .ok (.goto (183), 3) := by decide +kernel
theorem d_lw_law_555 : decode code 555 = .ok (.aload_n 1, 1) := by decide +kernel
theorem d_lw_law_556 : decode code 556 = .ok (.aload_n 0, 1) := by decide +kernel
theorem d_lw_law_557 : decode code 557 = .ok (.iload 4, 2) := by decide +kernel
theorem d_lw_law_559 : decode code 559 = .ok (.iconst 1, 1) := by decide +kernel
theorem d_lw_law_560 : decode code 560 = .ok (.iadd, 1) := by decide +kernel
theorem d_lw_law_561 : decode code 561 = .ok (.iaload, 1) := by decide +kernel
theorem d_lw_law_562 : decode code 562 = .ok (.aload_n 3, 1) := by decide +kernel
theorem d_lw_law_563 : decode code 563 = .ok (.invokestatic 101, 3) := by decide +kernel
theorem d_lw_law_566 : decode code 566 = .ok (.istore 5, 2) := by decide +kernel
theorem d_lw_law_568 : decode code 568 = .ok (.aload_n 2, 1) := by decide +kernel
theorem d_lw_law_569 : decode code 569 = .ok (.aload_n 0, 1) := by decide +kernel
theorem d_lw_law_570 : decode code 570 = .ok (.iload 4, 2) := by decide +kernel
theorem d_lw_law_572 : decode code 572 = .ok (.iconst 1, 1) := by decide +kernel
theorem d_lw_law_573 : decode code 573 = .ok (.iadd, 1) := by decide +kernel
theorem d_lw_law_574 : decode code 574 = .ok (.iaload, 1) := by decide +kernel
theorem d_lw_law_575 : decode code 575 = .ok (.invokevirtual 103, 3) := by decide +kernel
theorem d_lw_law_578 : decode code 578 = .ok (.istore 6, 2) := by decide +kernel
theorem d_lw_law_580 : decode code 580 = .ok (.aload_n 2, 1) := by decide +kernel
theorem d_lw_law_581 : decode code 581 = .ok (.invokevirtual 65, 3) := by decide +kernel
theorem d_lw_law_584 : decode code 584 = .ok (.iload 5, 2) := by decide +kernel
theorem d_lw_law_586 : decode code 586 = .ok (.if_icmp .eq (5), 3) := by decide +kernel
theorem d_lw_law_589 : decode code 589 = .ok (.iconst 0, 1) := by decide +kernel
theorem d_lw_law_590 : decode code 590 = .ok (.ireturn, 1) := by decide +kernel
theorem d_lw_law_591 : decode code 591 = .ok (.iload 5, 2) := by decide +kernel
theorem d_lw_law_593 : decode code 593 = .ok (.ifCond .ne (15), 3) := by decide +kernel
theorem d_lw_law_596 : decode code 596 = .ok (.aload_n 3, 1) := by decide +kernel
theorem d_lw_law_597 : decode code 597 = .ok (.iconst 0, 1) := by decide +kernel
theorem d_lw_law_598 : decode code 598 = .ok (.laload, 1) := by decide +kernel
theorem d_lw_law_599 : decode code 599 = .ok (.iload 6, 2) := by decide +kernel
theorem d_lw_law_601 : decode code 601 = .ok (.i2l, 1) := by decide +kernel
theorem d_lw_law_602 : decode code 602 = .ok (.lcmp, 1) := by decide +kernel
theorem d_lw_law_603 : decode code 603 = .ok (.ifCond .eq (5), 3) := by decide +kernel
theorem d_lw_law_606 : decode code 606 = .ok (.iconst 0, 1) := by decide +kernel
theorem d_lw_law_607 : decode code 607 = .ok (.ireturn, 1) := by decide +kernel
theorem d_lw_law_608 : decode code 608 = .ok (.goto (127), 3) := by decide +kernel
theorem d_lw_law_611 : decode code 611 = .ok (.aload_n 1, 1) := by decide +kernel
theorem d_lw_law_612 : decode code 612 = .ok (.aload_n 0, 1) := by decide +kernel
theorem d_lw_law_613 : decode code 613 = .ok (.iload 4, 2) := by decide +kernel
theorem d_lw_law_615 : decode code 615 = .ok (.iconst 1, 1) := by decide +kernel
theorem d_lw_law_616 : decode code 616 = .ok (.iadd, 1) := by decide +kernel
theorem d_lw_law_617 : decode code 617 = .ok (.iaload, 1) := by decide +kernel
theorem d_lw_law_618 : decode code 618 = .ok (.aload_n 0, 1) := by decide +kernel
theorem d_lw_law_619 : decode code 619 = .ok (.iload 4, 2) := by decide +kernel
theorem d_lw_law_621 : decode code 621 = .ok (.iconst 2, 1) := by decide +kernel
theorem d_lw_law_622 : decode code 622 = .ok (.iadd, 1) := by decide +kernel
theorem d_lw_law_623 : decode code 623 = .ok (.iaload, 1) := by decide +kernel
theorem d_lw_law_624 : decode code 624 = .ok (.aload_n 3, 1) := by decide +kernel
theorem d_lw_law_625 : decode code 625 = .ok (.invokestatic 104, 3) := by decide +kernel
theorem d_lw_law_628 : decode code 628 = .ok (.istore 5, 2) := by decide +kernel
theorem d_lw_law_630 : decode code 630 = .ok (.aload_n 2, 1) := by decide +kernel
theorem d_lw_law_631 : decode code 631 = .ok (.aload_n 0, 1) := by decide +kernel
theorem d_lw_law_632 : decode code 632 = .ok (.iload 4, 2) := by decide +kernel
theorem d_lw_law_634 : decode code 634 = .ok (.iconst 1, 1) := by decide +kernel
theorem d_lw_law_635 : decode code 635 = .ok (.iadd, 1) := by decide +kernel
theorem d_lw_law_636 : decode code 636 = .ok (.iaload, 1) := by decide +kernel
theorem d_lw_law_637 : decode code 637 = .ok (.aload_n 0, 1) := by decide +kernel
theorem d_lw_law_638 : decode code 638 = .ok (.iload 4, 2) := by decide +kernel
theorem d_lw_law_640 : decode code 640 = .ok (.iconst 2, 1) := by decide +kernel
theorem d_lw_law_641 : decode code 641 = .ok (.iadd, 1) := by decide +kernel
theorem d_lw_law_642 : decode code 642 = .ok (.iaload, 1) := by decide +kernel
theorem d_lw_law_643 : decode code 643 = .ok (.invokevirtual 106, 3) := by decide +kernel
theorem d_lw_law_646 : decode code 646 = .ok (.istore 6, 2) := by decide +kernel
theorem d_lw_law_648 : decode code 648 = .ok (.aload_n 2, 1) := by decide +kernel
theorem d_lw_law_649 : decode code 649 = .ok (.invokevirtual 65, 3) := by decide +kernel
theorem d_lw_law_652 : decode code 652 = .ok (.iload 5, 2) := by decide +kernel
theorem d_lw_law_654 : decode code 654 = .ok (.if_icmp .eq (5), 3) := by decide +kernel
theorem d_lw_law_657 : decode code 657 = .ok (.iconst 0, 1) := by decide +kernel
theorem d_lw_law_658 : decode code 658 = .ok (.ireturn, 1) := by decide +kernel
theorem d_lw_law_659 : decode code 659 = .ok (.iload 5, 2) := by decide +kernel
theorem d_lw_law_661 : decode code 661 = .ok (.ifCond .ne (15), 3) := by decide +kernel
theorem d_lw_law_664 : decode code 664 = .ok (.aload_n 3, 1) := by decide +kernel
theorem d_lw_law_665 : decode code 665 = .ok (.iconst 0, 1) := by decide +kernel
theorem d_lw_law_666 : decode code 666 = .ok (.laload, 1) := by decide +kernel
theorem d_lw_law_667 : decode code 667 = .ok (.iload 6, 2) := by decide +kernel
theorem d_lw_law_669 : decode code 669 = .ok (.i2l, 1) := by decide +kernel
theorem d_lw_law_670 : decode code 670 = .ok (.lcmp, 1) := by decide +kernel
theorem d_lw_law_671 : decode code 671 = .ok (.ifCond .eq (5), 3) := by decide +kernel
theorem d_lw_law_674 : decode code 674 = .ok (.iconst 0, 1) := by decide +kernel
theorem d_lw_law_675 : decode code 675 = .ok (.ireturn, 1) := by decide +kernel
theorem d_lw_law_676 : decode code 676 = .ok (.goto (59), 3) := by decide +kernel
theorem d_lw_law_679 : decode code 679 = .ok (.aload_n 1, 1) := by decide +kernel
theorem d_lw_law_680 : decode code 680 = .ok (.aload_n 0, 1) := by decide +kernel
theorem d_lw_law_681 : decode code 681 = .ok (.iload 4, 2) := by decide +kernel
theorem d_lw_law_683 : decode code 683 = .ok (.iconst 1, 1) := by decide +kernel
theorem d_lw_law_684 : decode code 684 = .ok (.iadd, 1) := by decide +kernel
theorem d_lw_law_685 : decode code 685 = .ok (.iaload, 1) := by decide +kernel
theorem d_lw_law_686 : decode code 686 = .ok (.aload_n 3, 1) := by decide +kernel
theorem d_lw_law_687 : decode code 687 = .ok (.invokestatic 107, 3) := by decide +kernel
theorem d_lw_law_690 : decode code 690 = .ok (.istore 5, 2) := by decide +kernel
theorem d_lw_law_692 : decode code 692 = .ok (.aload_n 2, 1) := by decide +kernel
theorem d_lw_law_693 : decode code 693 = .ok (.aload_n 0, 1) := by decide +kernel
theorem d_lw_law_694 : decode code 694 = .ok (.iload 4, 2) := by decide +kernel
theorem d_lw_law_696 : decode code 696 = .ok (.iconst 1, 1) := by decide +kernel
theorem d_lw_law_697 : decode code 697 = .ok (.iadd, 1) := by decide +kernel
theorem d_lw_law_698 : decode code 698 = .ok (.iaload, 1) := by decide +kernel
theorem d_lw_law_699 : decode code 699 = .ok (.invokevirtual 109, 3) := by decide +kernel
theorem d_lw_law_702 : decode code 702 = .ok (.istore 6, 2) := by decide +kernel
theorem d_lw_law_704 : decode code 704 = .ok (.aload_n 2, 1) := by decide +kernel
theorem d_lw_law_705 : decode code 705 = .ok (.invokevirtual 65, 3) := by decide +kernel
theorem d_lw_law_708 : decode code 708 = .ok (.iload 5, 2) := by decide +kernel
theorem d_lw_law_710 : decode code 710 = .ok (.if_icmp .eq (5), 3) := by decide +kernel
theorem d_lw_law_713 : decode code 713 = .ok (.iconst 0, 1) := by decide +kernel
theorem d_lw_law_714 : decode code 714 = .ok (.ireturn, 1) := by decide +kernel
theorem d_lw_law_715 : decode code 715 = .ok (.iload 5, 2) := by decide +kernel
theorem d_lw_law_717 : decode code 717 = .ok (.ifCond .ne (15), 3) := by decide +kernel
theorem d_lw_law_720 : decode code 720 = .ok (.aload_n 3, 1) := by decide +kernel
theorem d_lw_law_721 : decode code 721 = .ok (.iconst 0, 1) := by decide +kernel
theorem d_lw_law_722 : decode code 722 = .ok (.laload, 1) := by decide +kernel
theorem d_lw_law_723 : decode code 723 = .ok (.iload 6, 2) := by decide +kernel
theorem d_lw_law_725 : decode code 725 = .ok (.i2l, 1) := by decide +kernel
theorem d_lw_law_726 : decode code 726 = .ok (.lcmp, 1) := by decide +kernel
theorem d_lw_law_727 : decode code 727 = .ok (.ifCond .eq (5), 3) := by decide +kernel
theorem d_lw_law_730 : decode code 730 = .ok (.iconst 0, 1) := by decide +kernel
theorem d_lw_law_731 : decode code 731 = .ok (.ireturn, 1) := by decide +kernel
theorem d_lw_law_732 : decode code 732 = .ok (.goto (3), 3) := by decide +kernel
theorem d_lw_law_735 : decode code 735 = .ok (.iinc 4 (3), 3) := by decide +kernel
theorem d_lw_law_738 : decode code 738 = .ok (.goto (-715), 3) := by decide +kernel
theorem d_lw_law_741 : decode code 741 = .ok (.iconst 1, 1) := by decide +kernel
theorem d_lw_law_742 : decode code 742 = .ok (.ireturn, 1) := by decide +kernel
def f_lw_loop (L : Nat) (xs : Nat → Int32) : Nat → Nat → Nat → Nat → Int32 → WW → Option (Int32 × WW)
  | 0, _, _, _, _, _ => none
  | n + 1, y1, y2, y3, y4, w =>
    if ((Int32.ofNat L) - (3 : Int32)) < y4 then
      some ((1 : Int32), w)
    else
      (sc L xs y4).bind fun x2 =>
      if (x2 &&& (15 : Int32)) = (0 : Int32) then
        (sc L xs (y4 + (1 : Int32))).bind fun x4 =>
        (sc L xs (y4 + (2 : Int32))).bind fun x5 =>
        bd2 (f_lw_text y1 (((Int32.toInt64 x4) <<< (Int32.toInt64 (32 : Int32) &&& 63)) ||| ((Int32.toInt64 x5) &&& (4294967295 : Int64))) y3 w) fun x6 w7 =>
        (sc L xs (y4 + (1 : Int32))).bind fun x8 =>
        (sc L xs (y4 + (2 : Int32))).bind fun x9 =>
        bd2 (f_q_text y2 (((Int32.toInt64 x8) <<< (Int32.toInt64 (32 : Int32) &&& 63)) ||| ((Int32.toInt64 x9) &&& (4294967295 : Int64))) w7) fun x10 w11 =>
        bd2 (f_q_thrown y2 w11) fun x12 w13 =>
        if x12 = x6 then
          if x6 = 0 then
            (rL w13 y3 1 (0 : Int32)).bind fun x16 =>
            if x16 = (Int32.toInt64 x10) then
              f_lw_loop L xs n y1 y2 y3 (y4 + (3 : Int32)) w13
            else
              some ((0 : Int32), w13)
          else
            f_lw_loop L xs n y1 y2 y3 (y4 + (3 : Int32)) w13
        else
          some ((0 : Int32), w13)
      else
        if (x2 &&& (15 : Int32)) = (1 : Int32) then
          bd2 (f_a_clear y1 w) fun x19 w20 =>
          bd2 (f_q_clear y2 w20) fun x21 w22 =>
          if x19 = x21 then
            f_lw_loop L xs n y1 y2 y3 (y4 + (3 : Int32)) w22
          else
            some ((0 : Int32), w22)
        else
          if (x2 &&& (15 : Int32)) = (2 : Int32) then
            bd2 (f_lw_parse y1 y3 w) fun x25 w26 =>
            bd2 (f_q_parse y2 w26) fun x27 w28 =>
            bd2 (f_q_thrown y2 w28) fun x29 w30 =>
            if x29 = x25 then
              if x25 = 0 then
                (rL w30 y3 1 (0 : Int32)).bind fun x33 =>
                if x33 = (Int32.toInt64 x27) then
                  f_lw_loop L xs n y1 y2 y3 (y4 + (3 : Int32)) w30
                else
                  some ((0 : Int32), w30)
              else
                f_lw_loop L xs n y1 y2 y3 (y4 + (3 : Int32)) w30
            else
              some ((0 : Int32), w30)
          else
            if (x2 &&& (15 : Int32)) = (3 : Int32) then
              bd2 (f_a_where y1 w) fun x36 w37 =>
              bd2 (f_q_where y2 w37) fun x38 w39 =>
              if x36 = x38 then
                f_lw_loop L xs n y1 y2 y3 (y4 + (3 : Int32)) w39
              else
                some ((0 : Int32), w39)
            else
              if (x2 &&& (15 : Int32)) = (4 : Int32) then
                (sc L xs (y4 + (1 : Int32))).bind fun x42 =>
                (sc L xs (y4 + (2 : Int32))).bind fun x43 =>
                bd2 (f_lw_choose y1 x42 x43 y3 w) fun x44 w45 =>
                (sc L xs (y4 + (1 : Int32))).bind fun x46 =>
                (sc L xs (y4 + (2 : Int32))).bind fun x47 =>
                bd2 (f_q_choose y2 x46 x47 w45) fun x48 w49 =>
                bd2 (f_q_thrown y2 w49) fun x50 w51 =>
                if x50 = x44 then
                  if x44 = 0 then
                    (rL w51 y3 1 (0 : Int32)).bind fun x54 =>
                    if x54 = (Int32.toInt64 x48) then
                      f_lw_loop L xs n y1 y2 y3 (y4 + (3 : Int32)) w51
                    else
                      some ((0 : Int32), w51)
                  else
                    f_lw_loop L xs n y1 y2 y3 (y4 + (3 : Int32)) w51
                else
                  some ((0 : Int32), w51)
              else
                if (x2 &&& (15 : Int32)) = (5 : Int32) then
                  (sc L xs (y4 + (1 : Int32))).bind fun x57 =>
                  bd2 (f_lw_input y1 x57 y3 w) fun x58 w59 =>
                  (sc L xs (y4 + (1 : Int32))).bind fun x60 =>
                  bd2 (f_q_input y2 x60 w59) fun x61 w62 =>
                  bd2 (f_q_thrown y2 w62) fun x63 w64 =>
                  if x63 = x58 then
                    if x58 = 0 then
                      (rL w64 y3 1 (0 : Int32)).bind fun x67 =>
                      if x67 = (Int32.toInt64 x61) then
                        f_lw_loop L xs n y1 y2 y3 (y4 + (3 : Int32)) w64
                      else
                        some ((0 : Int32), w64)
                    else
                      f_lw_loop L xs n y1 y2 y3 (y4 + (3 : Int32)) w64
                  else
                    some ((0 : Int32), w64)
                else
                  if (x2 &&& (15 : Int32)) = (6 : Int32) then
                    bd2 (f_a_forget y1 w) fun x70 w71 =>
                    bd2 (f_q_forget y2 w71) fun x72 w73 =>
                    if x70 = x72 then
                      f_lw_loop L xs n y1 y2 y3 (y4 + (3 : Int32)) w73
                    else
                      some ((0 : Int32), w73)
                  else
                    if (x2 &&& (15 : Int32)) = (7 : Int32) then
                      (sc L xs (y4 + (1 : Int32))).bind fun x76 =>
                      bd2 (f_lw_run y1 x76 y3 w) fun x77 w78 =>
                      (sc L xs (y4 + (1 : Int32))).bind fun x79 =>
                      bd2 (f_q_run y2 x79 w78) fun x80 w81 =>
                      bd2 (f_q_thrown y2 w81) fun x82 w83 =>
                      if x82 = x77 then
                        if x77 = 0 then
                          (rL w83 y3 1 (0 : Int32)).bind fun x86 =>
                          if x86 = (Int32.toInt64 x80) then
                            f_lw_loop L xs n y1 y2 y3 (y4 + (3 : Int32)) w83
                          else
                            some ((0 : Int32), w83)
                        else
                          f_lw_loop L xs n y1 y2 y3 (y4 + (3 : Int32)) w83
                      else
                        some ((0 : Int32), w83)
                    else
                      if (x2 &&& (15 : Int32)) = (8 : Int32) then
                        (sc L xs (y4 + (1 : Int32))).bind fun x89 =>
                        bd2 (f_lw_ran y1 x89 y3 w) fun x90 w91 =>
                        (sc L xs (y4 + (1 : Int32))).bind fun x92 =>
                        bd2 (f_q_ran y2 x92 w91) fun x93 w94 =>
                        bd2 (f_q_thrown y2 w94) fun x95 w96 =>
                        if x95 = x90 then
                          if x90 = 0 then
                            (rL w96 y3 1 (0 : Int32)).bind fun x99 =>
                            if x99 = (Int32.toInt64 x93) then
                              f_lw_loop L xs n y1 y2 y3 (y4 + (3 : Int32)) w96
                            else
                              some ((0 : Int32), w96)
                          else
                            f_lw_loop L xs n y1 y2 y3 (y4 + (3 : Int32)) w96
                        else
                          some ((0 : Int32), w96)
                      else
                        if (x2 &&& (15 : Int32)) = (9 : Int32) then
                          bd2 (f_lw_analyse y1 y3 w) fun x102 w103 =>
                          bd2 (f_q_analyse y2 w103) fun x104 w105 =>
                          bd2 (f_q_thrown y2 w105) fun x106 w107 =>
                          if x106 = x102 then
                            if x102 = 0 then
                              (rL w107 y3 1 (0 : Int32)).bind fun x110 =>
                              if x110 = (Int32.toInt64 x104) then
                                f_lw_loop L xs n y1 y2 y3 (y4 + (3 : Int32)) w107
                              else
                                some ((0 : Int32), w107)
                            else
                              f_lw_loop L xs n y1 y2 y3 (y4 + (3 : Int32)) w107
                          else
                            some ((0 : Int32), w107)
                        else
                          if (x2 &&& (15 : Int32)) = (10 : Int32) then
                            (sc L xs (y4 + (1 : Int32))).bind fun x113 =>
                            bd2 (f_lw_warning y1 x113 y3 w) fun x114 w115 =>
                            (sc L xs (y4 + (1 : Int32))).bind fun x116 =>
                            bd2 (f_q_warning y2 x116 w115) fun x117 w118 =>
                            bd2 (f_q_thrown y2 w118) fun x119 w120 =>
                            if x119 = x114 then
                              if x114 = 0 then
                                (rL w120 y3 1 (0 : Int32)).bind fun x123 =>
                                if x123 = (Int32.toInt64 x117) then
                                  f_lw_loop L xs n y1 y2 y3 (y4 + (3 : Int32)) w120
                                else
                                  some ((0 : Int32), w120)
                              else
                                f_lw_loop L xs n y1 y2 y3 (y4 + (3 : Int32)) w120
                            else
                              some ((0 : Int32), w120)
                          else
                            if (x2 &&& (15 : Int32)) = (11 : Int32) then
                              (sc L xs (y4 + (1 : Int32))).bind fun x126 =>
                              (sc L xs (y4 + (2 : Int32))).bind fun x127 =>
                              bd2 (f_lw_left y1 x126 x127 y3 w) fun x128 w129 =>
                              (sc L xs (y4 + (1 : Int32))).bind fun x130 =>
                              (sc L xs (y4 + (2 : Int32))).bind fun x131 =>
                              bd2 (f_q_left_II y2 x130 x131 w129) fun x132 w133 =>
                              bd2 (f_q_thrown y2 w133) fun x134 w135 =>
                              if x134 = x128 then
                                if x128 = 0 then
                                  (rL w135 y3 1 (0 : Int32)).bind fun x138 =>
                                  if x138 = (Int32.toInt64 x132) then
                                    f_lw_loop L xs n y1 y2 y3 (y4 + (3 : Int32)) w135
                                  else
                                    some ((0 : Int32), w135)
                                else
                                  f_lw_loop L xs n y1 y2 y3 (y4 + (3 : Int32)) w135
                              else
                                some ((0 : Int32), w135)
                            else
                              if (x2 &&& (15 : Int32)) = (12 : Int32) then
                                (sc L xs (y4 + (1 : Int32))).bind fun x141 =>
                                bd2 (f_lw_count y1 x141 y3 w) fun x142 w143 =>
                                (sc L xs (y4 + (1 : Int32))).bind fun x144 =>
                                bd2 (f_q_count y2 x144 w143) fun x145 w146 =>
                                bd2 (f_q_thrown y2 w146) fun x147 w148 =>
                                if x147 = x142 then
                                  if x142 = 0 then
                                    (rL w148 y3 1 (0 : Int32)).bind fun x151 =>
                                    if x151 = (Int32.toInt64 x145) then
                                      f_lw_loop L xs n y1 y2 y3 (y4 + (3 : Int32)) w148
                                    else
                                      some ((0 : Int32), w148)
                                  else
                                    f_lw_loop L xs n y1 y2 y3 (y4 + (3 : Int32)) w148
                                else
                                  some ((0 : Int32), w148)
                              else
                                f_lw_loop L xs n y1 y2 y3 (y4 + (3 : Int32)) w
set_option maxHeartbeats 40000000 in
set_option maxRecDepth 100000 in
theorem j_lw_loop {p : Program} {l : Launch} {e : Env} {s : State} {m : MethodId} {below : List Frame} {meth : Method} {c : Code} (hst : l.stackTraces = false) {b L : Nat} {xs : Nat → Int32} (C0 : lw_At p s m meth c b L xs) {D : va_G} {cA : Nat → ClassId} {base : Nat} (hbb : b < base) (hbs : s.heap.size ≤ base) (hK : va_K D cls (wo_tys cA) s) (hG : wo_G base s) {w' : WW} : ∀ n : Nat, ∀ (y1 y2 y3 : Nat) (y4 : Int32) (w : WW), f_lw_loop L xs n y1 y2 y3 y4 w = some ((1 : Int32), w') → ∀ (k : Nat) (H : Heap) (locs : List Loc) (ls : Array Slot), wo_S D cls cA base s w H locs → lv_has ls 7 [(0, .ref b), (1, .ref (base + y1)), (2, .ref (base + y2)), (3, .ref (base + y3)), (4, .int y4)] → k + n ≤ 520 → W p l e room_1 s m #[Value.ref b] below meth c H locs (417 + k) (542100 + 6 * k) (lw_Z below #[Value.ref b] s) (F0 m 23 ls []) := by
  obtain ⟨hx, hb, hr, hml, hown, hts0, hX, hbl, hlk, hgv⟩ := id C0
  have hts : ∀ w ∈ gt, w.before #[Value.ref b] s = true := fun w hw => hts0 w (List.mem_filter.mp hw).1
  intro n
  induction n with
  | zero => intro y1 y2 y3 y4 w h; cases h
  | succ n ih =>
    intro y1 y2 y3 y4 w h k H locs ls hW hl hk
    rw [f_lw_loop] at h
    refine lv_iload hx hb d_lw_law_23 (lv_at hl 4 rfl) ?_
    refine lv_aload_n hx hb d_lw_law_25 rfl (lv_at hl 0 rfl) ?_
    refine wo_slen hx hb hX hbl hbb hW d_lw_law_26 ?_
    refine lv_iconst (v := (3 : Int32)) hx hb d_lw_law_27 (by decide) ?_
    refine lv_isub hx hb d_lw_law_28 ?_
    refine lv_icmp_gt (tgt := 741) hx hb d_lw_law_29 (by decide) (fun c1 => ?_) (fun c1 => ?_)
    · rw [if_pos c1] at h
      refine lv_iconst (v := (1 : Int32)) hx hb d_lw_law_741 (by decide) ?_
      refine va_forget (fun q hq => Nat.le_trans hbs (hW.2.1.2.2 q hq)) ?_
      refine W.widen (k := 600002) (n := 7302232) (by omega) (by omega) ?_
      exact lw_ret hx hb hr hlk d_lw_law_742
    · rw [if_neg c1] at h
      refine lv_aload_n hx hb d_lw_law_32 rfl (lv_at hl 0 rfl) ?_
      refine lv_iload hx hb d_lw_law_33 (lv_at hl 4 rfl) ?_
      replace h := bs h
      obtain ⟨x2, hx2, h⟩ := h
      refine wo_sld hx hb hX hbl hbb hW hx2 d_lw_law_35 ?_
      refine lv_bipush (v := (15 : Int32)) hx hb d_lw_law_36 (by decide) ?_
      refine lv_iand hx hb d_lw_law_38 ?_
      by_cases c3 : (x2 &&& (15 : Int32)) = (0 : Int32)
      · rw [if_pos c3] at h
        refine lv_tableIn (off := 65) (tgt := 104) hx hb d_lw_law_39 (by rw [c3]; decide) (by rw [c3]; decide) (by rw [c3]; rfl) (by decide) ?_
        refine lv_aload_n hx hb d_lw_law_104 rfl (lv_at hl 1 rfl) ?_
        refine lv_aload_n hx hb d_lw_law_105 rfl (lv_at hl 0 rfl) ?_
        refine lv_iload hx hb d_lw_law_106 (lv_at hl 4 rfl) ?_
        refine lv_iconst (v := (1 : Int32)) hx hb d_lw_law_108 (by decide) ?_
        refine lv_iadd hx hb d_lw_law_109 ?_
        replace h := bs h
        obtain ⟨x4, hx4, h⟩ := h
        refine wo_sld hx hb hX hbl hbb hW hx4 d_lw_law_110 ?_
        refine lv_i2l hx hb d_lw_law_111 rfl ?_
        refine lv_bipush (v := (32 : Int32)) hx hb d_lw_law_112 (by decide) ?_
        refine lv_lshl hx hb d_lw_law_114 rfl ?_
        refine lv_aload_n hx hb d_lw_law_115 rfl (lv_at hl 0 rfl) ?_
        refine lv_iload hx hb d_lw_law_116 (lv_at hl 4 rfl) ?_
        refine lv_iconst (v := (2 : Int32)) hx hb d_lw_law_118 (by decide) ?_
        refine lv_iadd hx hb d_lw_law_119 ?_
        replace h := bs h
        obtain ⟨x5, hx5, h⟩ := h
        refine wo_sld hx hb hX hbl hbb hW hx5 d_lw_law_120 ?_
        refine lv_i2l hx hb d_lw_law_121 rfl ?_
        refine lv_ldc2 (own := Rc_lw) (v := (4294967295 : Int64)) hx hb hown (hts (.constantLong "AlarmForgeLaw" 57 (4294967295 : Int64)) (gt_of (i := 1735) (by decide +kernel) (by decide +kernel))) d_lw_law_122 ?_
        refine lv_land hx hb d_lw_law_125 ?_
        refine lv_lor hx hb d_lw_law_126 ?_
        refine lv_aload_n hx hb d_lw_law_127 rfl (lv_at hl 3 rfl) ?_
        replace h := bs2 h
        obtain ⟨x6, w7, hw7, h⟩ := h
        refine cs_lw_59 (As := [.ref (base + y1), .long (((Int32.toInt64 x4) <<< (Int32.toInt64 (32 : Int32) &&& 63)) ||| ((Int32.toInt64 x5) &&& (4294967295 : Int64))), .ref (base + y3)]) (rest := []) hx hb hml hown hts hK hG hW (c_lw_text l hst D cA base hw7) ⟨Nat.le_of_ble_eq_true rfl, Nat.le_of_ble_eq_true rfl⟩ ⟨by show 417 + k + 1 ≤ 600002; omega, by show 542100 + 6 * k + 6 ≤ 7302232; omega⟩ rfl hl.1 rfl (Nat.le_of_ble_eq_true rfl) d_lw_law_128 (fun H locs hW => ?_)
        refine W.widen (k := 417 + (k + 1)) (n := 542100 + 6 * (k + 1)) (by show 417 + k + 1 ≤ 417 + (k + 1); omega) (by show 542100 + 6 * k + 6 ≤ 542100 + 6 * (k + 1); omega) ?_
        refine lv_istore (lv' := [(5, .int x6), (0, .ref b), (1, .ref (base + y1)), (2, .ref (base + y2)), (3, .ref (base + y3)), (4, .int y4)]) hx hb d_lw_law_131 hl (by decide) rfl (fun ls hl => ?_)
        refine lv_aload_n hx hb d_lw_law_133 rfl (lv_at hl 3 rfl) ?_
        refine lv_aload_n hx hb d_lw_law_134 rfl (lv_at hl 1 rfl) ?_
        refine lv_iload hx hb d_lw_law_135 (lv_at hl 5 rfl) ?_
        refine lv_iconst (v := (1 : Int32)) hx hb d_lw_law_137 (by decide) ?_
        refine lv_iadd hx hb d_lw_law_138 ?_
        replace h := bs h
        obtain ⟨x8, hx8, h⟩ := h
        refine wo_sld hx hb hX hbl hbb hW hx8 d_lw_law_139 ?_
        refine lv_i2l hx hb d_lw_law_140 rfl ?_
        refine lv_bipush (v := (32 : Int32)) hx hb d_lw_law_141 (by decide) ?_
        refine lv_lshl hx hb d_lw_law_143 rfl ?_
        refine lv_aload_n hx hb d_lw_law_144 rfl (lv_at hl 1 rfl) ?_
        refine lv_iload hx hb d_lw_law_145 (lv_at hl 5 rfl) ?_
        refine lv_iconst (v := (2 : Int32)) hx hb d_lw_law_147 (by decide) ?_
        refine lv_iadd hx hb d_lw_law_148 ?_
        replace h := bs h
        obtain ⟨x9, hx9, h⟩ := h
        refine wo_sld hx hb hX hbl hbb hW hx9 d_lw_law_149 ?_
        refine lv_i2l hx hb d_lw_law_150 rfl ?_
        refine lv_ldc2 (own := Rc_lw) (v := (4294967295 : Int64)) hx hb hown (hts (.constantLong "AlarmForgeLaw" 57 (4294967295 : Int64)) (gt_of (i := 1735) (by decide +kernel) (by decide +kernel))) d_lw_law_151 ?_
        refine lv_land hx hb d_lw_law_154 ?_
        refine lv_lor hx hb d_lw_law_155 ?_
        replace h := bs2 h
        obtain ⟨x10, w11, hw11, h⟩ := h
        refine cv_lw_64 (As := [.long (((Int32.toInt64 x8) <<< (Int32.toInt64 (32 : Int32) &&& 63)) ||| ((Int32.toInt64 x9) &&& (4294967295 : Int64)))]) (rest := []) hx hb hml hown hts hK hG hW (c_q_text l D cA base hw11) (kb_q_text hw11) ⟨Nat.le_of_ble_eq_true rfl, Nat.le_of_ble_eq_true rfl⟩ ⟨by show 417 + (k + 1) + 0 ≤ 600002; omega, by show 542100 + 6 * (k + 1) + 0 ≤ 7302232; omega⟩ rfl hl.1 rfl (Nat.le_of_ble_eq_true rfl) d_lw_law_156 (fun H locs hW => ?_)
        refine W.widen (k := 417 + (k + 1)) (n := 542100 + 6 * (k + 1)) (by show 417 + (k + 1) + 0 ≤ 417 + (k + 1); omega) (by show 542100 + 6 * (k + 1) + 0 ≤ 542100 + 6 * (k + 1); omega) ?_
        refine lv_istore (lv' := [(6, .int x10), (5, .int x6), (0, .ref b), (1, .ref (base + y1)), (2, .ref (base + y2)), (3, .ref (base + y3)), (4, .int y4)]) hx hb d_lw_law_159 hl (by decide) rfl (fun ls hl => ?_)
        refine lv_aload_n hx hb d_lw_law_161 rfl (lv_at hl 4 rfl) ?_
        replace h := bs2 h
        obtain ⟨x12, w13, hw13, h⟩ := h
        refine cv_lw_65 (As := []) (rest := []) hx hb hml hown hts hK hG hW (c_q_thrown l D cA base hw13) (kb_q_thrown hw13) ⟨Nat.le_of_ble_eq_true rfl, Nat.le_of_ble_eq_true rfl⟩ ⟨by show 417 + (k + 1) + 0 ≤ 600002; omega, by show 542100 + 6 * (k + 1) + 0 ≤ 7302232; omega⟩ rfl hl.1 rfl (Nat.le_of_ble_eq_true rfl) d_lw_law_162 (fun H locs hW => ?_)
        refine W.widen (k := 417 + (k + 1)) (n := 542100 + 6 * (k + 1)) (by show 417 + (k + 1) + 0 ≤ 417 + (k + 1); omega) (by show 542100 + 6 * (k + 1) + 0 ≤ 542100 + 6 * (k + 1); omega) ?_
        refine lv_iload hx hb d_lw_law_165 (lv_at hl 1 rfl) ?_
        refine lv_icmp_eq (tgt := 172) hx hb d_lw_law_167 (by decide) (fun c14 => ?_) (fun c14 => ?_)
        · rw [if_pos c14] at h
          refine lv_iload hx hb d_lw_law_172 (lv_at hl 1 rfl) ?_
          refine lv_if_ne (tgt := 189) hx hb d_lw_law_174 (by decide) (fun c15 => ?_) (fun c15 => ?_)
          · rw [if_neg c15] at h
            refine lv_goto (tgt := 735) hx hb d_lw_law_189 (by decide) ?_
            refine lv_iinc (v := (y4 + (3 : Int32))) (lv' := [(4, .int (y4 + (3 : Int32))), (6, .int x10), (5, .int x6), (0, .ref b), (1, .ref (base + y1)), (2, .ref (base + y2)), (3, .ref (base + y3))]) hx hb d_lw_law_735 hl (k := 6) rfl rfl (by decide) rfl (fun ls hl => ?_)
            refine lv_goto (tgt := 23) hx hb d_lw_law_738 (by decide) ?_
            exact ih y1 y2 y3 (y4 + (3 : Int32)) w13 h (k + 1) _ _ _ hW (lv_sub hl [3, 4, 5, 6, 0] rfl) (by omega)
          · rw [if_pos c15] at h
            refine lv_aload_n hx hb d_lw_law_177 rfl (lv_at hl 5 rfl) ?_
            refine lv_iconst (v := (0 : Int32)) hx hb d_lw_law_178 (by decide) ?_
            replace h := bs h
            obtain ⟨x16, hx16, h⟩ := h
            refine wo_lald hx hb hK hW (t := 1) rfl hx16 d_lw_law_179 ?_
            refine lv_iload hx hb d_lw_law_180 (lv_at hl 0 rfl) ?_
            refine lv_i2l hx hb d_lw_law_182 rfl ?_
            refine lc_eq (tgt := 189) hx hb d_lw_law_183 d_lw_law_184 (by decide) (fun c17 => ?_) (fun c17 => ?_)
            · rw [if_pos c17] at h
              refine lv_goto (tgt := 735) hx hb d_lw_law_189 (by decide) ?_
              refine lv_iinc (v := (y4 + (3 : Int32))) (lv' := [(4, .int (y4 + (3 : Int32))), (6, .int x10), (5, .int x6), (0, .ref b), (1, .ref (base + y1)), (2, .ref (base + y2)), (3, .ref (base + y3))]) hx hb d_lw_law_735 hl (k := 6) rfl rfl (by decide) rfl (fun ls hl => ?_)
              refine lv_goto (tgt := 23) hx hb d_lw_law_738 (by decide) ?_
              exact ih y1 y2 y3 (y4 + (3 : Int32)) w13 h (k + 1) _ _ _ hW (lv_sub hl [3, 4, 5, 6, 0] rfl) (by omega)
            · rw [if_neg c17] at h
              refine lv_iconst (v := (0 : Int32)) hx hb d_lw_law_187 (by decide) ?_
              exact absurd (show (0 : Int32) = 1 from congrArg Prod.fst (Option.some.inj h)) (by decide)
        · rw [if_neg c14] at h
          refine lv_iconst (v := (0 : Int32)) hx hb d_lw_law_170 (by decide) ?_
          exact absurd (show (0 : Int32) = 1 from congrArg Prod.fst (Option.some.inj h)) (by decide)
      · rw [if_neg c3] at h
        by_cases c18 : (x2 &&& (15 : Int32)) = (1 : Int32)
        · rw [if_pos c18] at h
          refine lv_tableIn (off := 153) (tgt := 192) hx hb d_lw_law_39 (by rw [c18]; decide) (by rw [c18]; decide) (by rw [c18]; rfl) (by decide) ?_
          refine lv_aload_n hx hb d_lw_law_192 rfl (lv_at hl 1 rfl) ?_
          replace h := bs2 h
          obtain ⟨x19, w20, hw20, h⟩ := h
          refine cv_lw_68 (As := []) (rest := []) hx hb hml hown hts hK hG hW (c_a_clear l D cA base hw20) (kb_a_clear hw20) ⟨Nat.le_of_ble_eq_true rfl, Nat.le_of_ble_eq_true rfl⟩ ⟨by show 417 + k + 0 ≤ 600002; omega, by show 542100 + 6 * k + 0 ≤ 7302232; omega⟩ rfl hl.1 rfl (Nat.le_of_ble_eq_true rfl) d_lw_law_193 (fun H locs hW => ?_)
          refine W.widen (k := 417 + (k + 1)) (n := 542100 + 6 * (k + 1)) (by show 417 + k + 0 ≤ 417 + (k + 1); omega) (by show 542100 + 6 * k + 0 ≤ 542100 + 6 * (k + 1); omega) ?_
          refine lv_aload_n hx hb d_lw_law_196 rfl (lv_at hl 2 rfl) ?_
          replace h := bs2 h
          obtain ⟨x21, w22, hw22, h⟩ := h
          refine cv_lw_71 (As := []) (rest := [.int x19]) hx hb hml hown hts hK hG hW (c_q_clear l D cA base hw22) (kb_q_clear hw22) ⟨Nat.le_of_ble_eq_true rfl, Nat.le_of_ble_eq_true rfl⟩ ⟨by show 417 + (k + 1) + 0 ≤ 600002; omega, by show 542100 + 6 * (k + 1) + 0 ≤ 7302232; omega⟩ rfl hl.1 rfl (Nat.le_of_ble_eq_true rfl) d_lw_law_197 (fun H locs hW => ?_)
          refine W.widen (k := 417 + (k + 1)) (n := 542100 + 6 * (k + 1)) (by show 417 + (k + 1) + 0 ≤ 417 + (k + 1); omega) (by show 542100 + 6 * (k + 1) + 0 ≤ 542100 + 6 * (k + 1); omega) ?_
          refine lv_icmp_eq (tgt := 735) hx hb d_lw_law_200 (by decide) (fun c23 => ?_) (fun c23 => ?_)
          · rw [if_pos c23] at h
            refine lv_iinc (v := (y4 + (3 : Int32))) (lv' := [(4, .int (y4 + (3 : Int32))), (0, .ref b), (1, .ref (base + y1)), (2, .ref (base + y2)), (3, .ref (base + y3))]) hx hb d_lw_law_735 hl (k := 4) rfl rfl (by decide) rfl (fun ls hl => ?_)
            refine lv_goto (tgt := 23) hx hb d_lw_law_738 (by decide) ?_
            exact ih y1 y2 y3 (y4 + (3 : Int32)) w22 h (k + 1) _ _ _ hW (lv_sub hl [1, 2, 3, 4, 0] rfl) (by omega)
          · rw [if_neg c23] at h
            refine lv_iconst (v := (0 : Int32)) hx hb d_lw_law_203 (by decide) ?_
            exact absurd (show (0 : Int32) = 1 from congrArg Prod.fst (Option.some.inj h)) (by decide)
        · rw [if_neg c18] at h
          by_cases c24 : (x2 &&& (15 : Int32)) = (2 : Int32)
          · rw [if_pos c24] at h
            refine lv_tableIn (off := 166) (tgt := 205) hx hb d_lw_law_39 (by rw [c24]; decide) (by rw [c24]; decide) (by rw [c24]; rfl) (by decide) ?_
            refine lv_aload_n hx hb d_lw_law_205 rfl (lv_at hl 1 rfl) ?_
            refine lv_aload_n hx hb d_lw_law_206 rfl (lv_at hl 3 rfl) ?_
            replace h := bs2 h
            obtain ⟨x25, w26, hw26, h⟩ := h
            refine cs_lw_72 (As := [.ref (base + y1), .ref (base + y3)]) (rest := []) hx hb hml hown hts hK hG hW (c_lw_parse l hst D cA base hw26) ⟨Nat.le_of_ble_eq_true rfl, Nat.le_of_ble_eq_true rfl⟩ ⟨by show 417 + k + 1 ≤ 600002; omega, by show 542100 + 6 * k + 6 ≤ 7302232; omega⟩ rfl hl.1 rfl (Nat.le_of_ble_eq_true rfl) d_lw_law_207 (fun H locs hW => ?_)
            refine W.widen (k := 417 + (k + 1)) (n := 542100 + 6 * (k + 1)) (by show 417 + k + 1 ≤ 417 + (k + 1); omega) (by show 542100 + 6 * k + 6 ≤ 542100 + 6 * (k + 1); omega) ?_
            refine lv_istore (lv' := [(5, .int x25), (0, .ref b), (1, .ref (base + y1)), (2, .ref (base + y2)), (3, .ref (base + y3)), (4, .int y4)]) hx hb d_lw_law_210 hl (by decide) rfl (fun ls hl => ?_)
            refine lv_aload_n hx hb d_lw_law_212 rfl (lv_at hl 3 rfl) ?_
            replace h := bs2 h
            obtain ⟨x27, w28, hw28, h⟩ := h
            refine cv_lw_75 (As := []) (rest := []) hx hb hml hown hts hK hG hW (c_q_parse l D cA base hw28) (kb_q_parse hw28) ⟨Nat.le_of_ble_eq_true rfl, Nat.le_of_ble_eq_true rfl⟩ ⟨by show 417 + (k + 1) + 0 ≤ 600002; omega, by show 542100 + 6 * (k + 1) + 0 ≤ 7302232; omega⟩ rfl hl.1 rfl (Nat.le_of_ble_eq_true rfl) d_lw_law_213 (fun H locs hW => ?_)
            refine W.widen (k := 417 + (k + 1)) (n := 542100 + 6 * (k + 1)) (by show 417 + (k + 1) + 0 ≤ 417 + (k + 1); omega) (by show 542100 + 6 * (k + 1) + 0 ≤ 542100 + 6 * (k + 1); omega) ?_
            refine lv_istore (lv' := [(6, .int x27), (5, .int x25), (0, .ref b), (1, .ref (base + y1)), (2, .ref (base + y2)), (3, .ref (base + y3)), (4, .int y4)]) hx hb d_lw_law_216 hl (by decide) rfl (fun ls hl => ?_)
            refine lv_aload_n hx hb d_lw_law_218 rfl (lv_at hl 4 rfl) ?_
            replace h := bs2 h
            obtain ⟨x29, w30, hw30, h⟩ := h
            refine cv_lw_65 (As := []) (rest := []) hx hb hml hown hts hK hG hW (c_q_thrown l D cA base hw30) (kb_q_thrown hw30) ⟨Nat.le_of_ble_eq_true rfl, Nat.le_of_ble_eq_true rfl⟩ ⟨by show 417 + (k + 1) + 0 ≤ 600002; omega, by show 542100 + 6 * (k + 1) + 0 ≤ 7302232; omega⟩ rfl hl.1 rfl (Nat.le_of_ble_eq_true rfl) d_lw_law_219 (fun H locs hW => ?_)
            refine W.widen (k := 417 + (k + 1)) (n := 542100 + 6 * (k + 1)) (by show 417 + (k + 1) + 0 ≤ 417 + (k + 1); omega) (by show 542100 + 6 * (k + 1) + 0 ≤ 542100 + 6 * (k + 1); omega) ?_
            refine lv_iload hx hb d_lw_law_222 (lv_at hl 1 rfl) ?_
            refine lv_icmp_eq (tgt := 229) hx hb d_lw_law_224 (by decide) (fun c31 => ?_) (fun c31 => ?_)
            · rw [if_pos c31] at h
              refine lv_iload hx hb d_lw_law_229 (lv_at hl 1 rfl) ?_
              refine lv_if_ne (tgt := 246) hx hb d_lw_law_231 (by decide) (fun c32 => ?_) (fun c32 => ?_)
              · rw [if_neg c32] at h
                refine lv_goto (tgt := 735) hx hb d_lw_law_246 (by decide) ?_
                refine lv_iinc (v := (y4 + (3 : Int32))) (lv' := [(4, .int (y4 + (3 : Int32))), (6, .int x27), (5, .int x25), (0, .ref b), (1, .ref (base + y1)), (2, .ref (base + y2)), (3, .ref (base + y3))]) hx hb d_lw_law_735 hl (k := 6) rfl rfl (by decide) rfl (fun ls hl => ?_)
                refine lv_goto (tgt := 23) hx hb d_lw_law_738 (by decide) ?_
                exact ih y1 y2 y3 (y4 + (3 : Int32)) w30 h (k + 1) _ _ _ hW (lv_sub hl [3, 4, 5, 6, 0] rfl) (by omega)
              · rw [if_pos c32] at h
                refine lv_aload_n hx hb d_lw_law_234 rfl (lv_at hl 5 rfl) ?_
                refine lv_iconst (v := (0 : Int32)) hx hb d_lw_law_235 (by decide) ?_
                replace h := bs h
                obtain ⟨x33, hx33, h⟩ := h
                refine wo_lald hx hb hK hW (t := 1) rfl hx33 d_lw_law_236 ?_
                refine lv_iload hx hb d_lw_law_237 (lv_at hl 0 rfl) ?_
                refine lv_i2l hx hb d_lw_law_239 rfl ?_
                refine lc_eq (tgt := 246) hx hb d_lw_law_240 d_lw_law_241 (by decide) (fun c34 => ?_) (fun c34 => ?_)
                · rw [if_pos c34] at h
                  refine lv_goto (tgt := 735) hx hb d_lw_law_246 (by decide) ?_
                  refine lv_iinc (v := (y4 + (3 : Int32))) (lv' := [(4, .int (y4 + (3 : Int32))), (6, .int x27), (5, .int x25), (0, .ref b), (1, .ref (base + y1)), (2, .ref (base + y2)), (3, .ref (base + y3))]) hx hb d_lw_law_735 hl (k := 6) rfl rfl (by decide) rfl (fun ls hl => ?_)
                  refine lv_goto (tgt := 23) hx hb d_lw_law_738 (by decide) ?_
                  exact ih y1 y2 y3 (y4 + (3 : Int32)) w30 h (k + 1) _ _ _ hW (lv_sub hl [3, 4, 5, 6, 0] rfl) (by omega)
                · rw [if_neg c34] at h
                  refine lv_iconst (v := (0 : Int32)) hx hb d_lw_law_244 (by decide) ?_
                  exact absurd (show (0 : Int32) = 1 from congrArg Prod.fst (Option.some.inj h)) (by decide)
            · rw [if_neg c31] at h
              refine lv_iconst (v := (0 : Int32)) hx hb d_lw_law_227 (by decide) ?_
              exact absurd (show (0 : Int32) = 1 from congrArg Prod.fst (Option.some.inj h)) (by decide)
          · rw [if_neg c24] at h
            by_cases c35 : (x2 &&& (15 : Int32)) = (3 : Int32)
            · rw [if_pos c35] at h
              refine lv_tableIn (off := 210) (tgt := 249) hx hb d_lw_law_39 (by rw [c35]; decide) (by rw [c35]; decide) (by rw [c35]; rfl) (by decide) ?_
              refine lv_aload_n hx hb d_lw_law_249 rfl (lv_at hl 1 rfl) ?_
              replace h := bs2 h
              obtain ⟨x36, w37, hw37, h⟩ := h
              refine cv_lw_76 (As := []) (rest := []) hx hb hml hown hts hK hG hW (c_a_where l D cA base hw37) (kb_a_where hw37) ⟨Nat.le_of_ble_eq_true rfl, Nat.le_of_ble_eq_true rfl⟩ ⟨by show 417 + k + 0 ≤ 600002; omega, by show 542100 + 6 * k + 0 ≤ 7302232; omega⟩ rfl hl.1 rfl (Nat.le_of_ble_eq_true rfl) d_lw_law_250 (fun H locs hW => ?_)
              refine W.widen (k := 417 + (k + 1)) (n := 542100 + 6 * (k + 1)) (by show 417 + k + 0 ≤ 417 + (k + 1); omega) (by show 542100 + 6 * k + 0 ≤ 542100 + 6 * (k + 1); omega) ?_
              refine lv_aload_n hx hb d_lw_law_253 rfl (lv_at hl 2 rfl) ?_
              replace h := bs2 h
              obtain ⟨x38, w39, hw39, h⟩ := h
              refine cv_lw_79 (As := []) (rest := [.int x36]) hx hb hml hown hts hK hG hW (c_q_where l D cA base hw39) (kb_q_where hw39) ⟨Nat.le_of_ble_eq_true rfl, Nat.le_of_ble_eq_true rfl⟩ ⟨by show 417 + (k + 1) + 0 ≤ 600002; omega, by show 542100 + 6 * (k + 1) + 0 ≤ 7302232; omega⟩ rfl hl.1 rfl (Nat.le_of_ble_eq_true rfl) d_lw_law_254 (fun H locs hW => ?_)
              refine W.widen (k := 417 + (k + 1)) (n := 542100 + 6 * (k + 1)) (by show 417 + (k + 1) + 0 ≤ 417 + (k + 1); omega) (by show 542100 + 6 * (k + 1) + 0 ≤ 542100 + 6 * (k + 1); omega) ?_
              refine lv_icmp_eq (tgt := 735) hx hb d_lw_law_257 (by decide) (fun c40 => ?_) (fun c40 => ?_)
              · rw [if_pos c40] at h
                refine lv_iinc (v := (y4 + (3 : Int32))) (lv' := [(4, .int (y4 + (3 : Int32))), (0, .ref b), (1, .ref (base + y1)), (2, .ref (base + y2)), (3, .ref (base + y3))]) hx hb d_lw_law_735 hl (k := 4) rfl rfl (by decide) rfl (fun ls hl => ?_)
                refine lv_goto (tgt := 23) hx hb d_lw_law_738 (by decide) ?_
                exact ih y1 y2 y3 (y4 + (3 : Int32)) w39 h (k + 1) _ _ _ hW (lv_sub hl [1, 2, 3, 4, 0] rfl) (by omega)
              · rw [if_neg c40] at h
                refine lv_iconst (v := (0 : Int32)) hx hb d_lw_law_260 (by decide) ?_
                exact absurd (show (0 : Int32) = 1 from congrArg Prod.fst (Option.some.inj h)) (by decide)
            · rw [if_neg c35] at h
              by_cases c41 : (x2 &&& (15 : Int32)) = (4 : Int32)
              · rw [if_pos c41] at h
                refine lv_tableIn (off := 223) (tgt := 262) hx hb d_lw_law_39 (by rw [c41]; decide) (by rw [c41]; decide) (by rw [c41]; rfl) (by decide) ?_
                refine lv_aload_n hx hb d_lw_law_262 rfl (lv_at hl 1 rfl) ?_
                refine lv_aload_n hx hb d_lw_law_263 rfl (lv_at hl 0 rfl) ?_
                refine lv_iload hx hb d_lw_law_264 (lv_at hl 4 rfl) ?_
                refine lv_iconst (v := (1 : Int32)) hx hb d_lw_law_266 (by decide) ?_
                refine lv_iadd hx hb d_lw_law_267 ?_
                replace h := bs h
                obtain ⟨x42, hx42, h⟩ := h
                refine wo_sld hx hb hX hbl hbb hW hx42 d_lw_law_268 ?_
                refine lv_aload_n hx hb d_lw_law_269 rfl (lv_at hl 0 rfl) ?_
                refine lv_iload hx hb d_lw_law_270 (lv_at hl 4 rfl) ?_
                refine lv_iconst (v := (2 : Int32)) hx hb d_lw_law_272 (by decide) ?_
                refine lv_iadd hx hb d_lw_law_273 ?_
                replace h := bs h
                obtain ⟨x43, hx43, h⟩ := h
                refine wo_sld hx hb hX hbl hbb hW hx43 d_lw_law_274 ?_
                refine lv_aload_n hx hb d_lw_law_275 rfl (lv_at hl 3 rfl) ?_
                replace h := bs2 h
                obtain ⟨x44, w45, hw45, h⟩ := h
                refine cs_lw_80 (As := [.ref (base + y1), .int x42, .int x43, .ref (base + y3)]) (rest := []) hx hb hml hown hts hK hG hW (c_lw_choose l hst D cA base hw45) ⟨Nat.le_of_ble_eq_true rfl, Nat.le_of_ble_eq_true rfl⟩ ⟨by show 417 + k + 1 ≤ 600002; omega, by show 542100 + 6 * k + 6 ≤ 7302232; omega⟩ rfl hl.1 rfl (Nat.le_of_ble_eq_true rfl) d_lw_law_276 (fun H locs hW => ?_)
                refine W.widen (k := 417 + (k + 1)) (n := 542100 + 6 * (k + 1)) (by show 417 + k + 1 ≤ 417 + (k + 1); omega) (by show 542100 + 6 * k + 6 ≤ 542100 + 6 * (k + 1); omega) ?_
                refine lv_istore (lv' := [(5, .int x44), (0, .ref b), (1, .ref (base + y1)), (2, .ref (base + y2)), (3, .ref (base + y3)), (4, .int y4)]) hx hb d_lw_law_279 hl (by decide) rfl (fun ls hl => ?_)
                refine lv_aload_n hx hb d_lw_law_281 rfl (lv_at hl 3 rfl) ?_
                refine lv_aload_n hx hb d_lw_law_282 rfl (lv_at hl 1 rfl) ?_
                refine lv_iload hx hb d_lw_law_283 (lv_at hl 5 rfl) ?_
                refine lv_iconst (v := (1 : Int32)) hx hb d_lw_law_285 (by decide) ?_
                refine lv_iadd hx hb d_lw_law_286 ?_
                replace h := bs h
                obtain ⟨x46, hx46, h⟩ := h
                refine wo_sld hx hb hX hbl hbb hW hx46 d_lw_law_287 ?_
                refine lv_aload_n hx hb d_lw_law_288 rfl (lv_at hl 1 rfl) ?_
                refine lv_iload hx hb d_lw_law_289 (lv_at hl 5 rfl) ?_
                refine lv_iconst (v := (2 : Int32)) hx hb d_lw_law_291 (by decide) ?_
                refine lv_iadd hx hb d_lw_law_292 ?_
                replace h := bs h
                obtain ⟨x47, hx47, h⟩ := h
                refine wo_sld hx hb hX hbl hbb hW hx47 d_lw_law_293 ?_
                replace h := bs2 h
                obtain ⟨x48, w49, hw49, h⟩ := h
                refine cv_lw_83 (As := [.int x46, .int x47]) (rest := []) hx hb hml hown hts hK hG hW (c_q_choose l D cA base hw49) (kb_q_choose hw49) ⟨Nat.le_of_ble_eq_true rfl, Nat.le_of_ble_eq_true rfl⟩ ⟨by show 417 + (k + 1) + 0 ≤ 600002; omega, by show 542100 + 6 * (k + 1) + 0 ≤ 7302232; omega⟩ rfl hl.1 rfl (Nat.le_of_ble_eq_true rfl) d_lw_law_294 (fun H locs hW => ?_)
                refine W.widen (k := 417 + (k + 1)) (n := 542100 + 6 * (k + 1)) (by show 417 + (k + 1) + 0 ≤ 417 + (k + 1); omega) (by show 542100 + 6 * (k + 1) + 0 ≤ 542100 + 6 * (k + 1); omega) ?_
                refine lv_istore (lv' := [(6, .int x48), (5, .int x44), (0, .ref b), (1, .ref (base + y1)), (2, .ref (base + y2)), (3, .ref (base + y3)), (4, .int y4)]) hx hb d_lw_law_297 hl (by decide) rfl (fun ls hl => ?_)
                refine lv_aload_n hx hb d_lw_law_299 rfl (lv_at hl 4 rfl) ?_
                replace h := bs2 h
                obtain ⟨x50, w51, hw51, h⟩ := h
                refine cv_lw_65 (As := []) (rest := []) hx hb hml hown hts hK hG hW (c_q_thrown l D cA base hw51) (kb_q_thrown hw51) ⟨Nat.le_of_ble_eq_true rfl, Nat.le_of_ble_eq_true rfl⟩ ⟨by show 417 + (k + 1) + 0 ≤ 600002; omega, by show 542100 + 6 * (k + 1) + 0 ≤ 7302232; omega⟩ rfl hl.1 rfl (Nat.le_of_ble_eq_true rfl) d_lw_law_300 (fun H locs hW => ?_)
                refine W.widen (k := 417 + (k + 1)) (n := 542100 + 6 * (k + 1)) (by show 417 + (k + 1) + 0 ≤ 417 + (k + 1); omega) (by show 542100 + 6 * (k + 1) + 0 ≤ 542100 + 6 * (k + 1); omega) ?_
                refine lv_iload hx hb d_lw_law_303 (lv_at hl 1 rfl) ?_
                refine lv_icmp_eq (tgt := 310) hx hb d_lw_law_305 (by decide) (fun c52 => ?_) (fun c52 => ?_)
                · rw [if_pos c52] at h
                  refine lv_iload hx hb d_lw_law_310 (lv_at hl 1 rfl) ?_
                  refine lv_if_ne (tgt := 327) hx hb d_lw_law_312 (by decide) (fun c53 => ?_) (fun c53 => ?_)
                  · rw [if_neg c53] at h
                    refine lv_goto (tgt := 735) hx hb d_lw_law_327 (by decide) ?_
                    refine lv_iinc (v := (y4 + (3 : Int32))) (lv' := [(4, .int (y4 + (3 : Int32))), (6, .int x48), (5, .int x44), (0, .ref b), (1, .ref (base + y1)), (2, .ref (base + y2)), (3, .ref (base + y3))]) hx hb d_lw_law_735 hl (k := 6) rfl rfl (by decide) rfl (fun ls hl => ?_)
                    refine lv_goto (tgt := 23) hx hb d_lw_law_738 (by decide) ?_
                    exact ih y1 y2 y3 (y4 + (3 : Int32)) w51 h (k + 1) _ _ _ hW (lv_sub hl [3, 4, 5, 6, 0] rfl) (by omega)
                  · rw [if_pos c53] at h
                    refine lv_aload_n hx hb d_lw_law_315 rfl (lv_at hl 5 rfl) ?_
                    refine lv_iconst (v := (0 : Int32)) hx hb d_lw_law_316 (by decide) ?_
                    replace h := bs h
                    obtain ⟨x54, hx54, h⟩ := h
                    refine wo_lald hx hb hK hW (t := 1) rfl hx54 d_lw_law_317 ?_
                    refine lv_iload hx hb d_lw_law_318 (lv_at hl 0 rfl) ?_
                    refine lv_i2l hx hb d_lw_law_320 rfl ?_
                    refine lc_eq (tgt := 327) hx hb d_lw_law_321 d_lw_law_322 (by decide) (fun c55 => ?_) (fun c55 => ?_)
                    · rw [if_pos c55] at h
                      refine lv_goto (tgt := 735) hx hb d_lw_law_327 (by decide) ?_
                      refine lv_iinc (v := (y4 + (3 : Int32))) (lv' := [(4, .int (y4 + (3 : Int32))), (6, .int x48), (5, .int x44), (0, .ref b), (1, .ref (base + y1)), (2, .ref (base + y2)), (3, .ref (base + y3))]) hx hb d_lw_law_735 hl (k := 6) rfl rfl (by decide) rfl (fun ls hl => ?_)
                      refine lv_goto (tgt := 23) hx hb d_lw_law_738 (by decide) ?_
                      exact ih y1 y2 y3 (y4 + (3 : Int32)) w51 h (k + 1) _ _ _ hW (lv_sub hl [3, 4, 5, 6, 0] rfl) (by omega)
                    · rw [if_neg c55] at h
                      refine lv_iconst (v := (0 : Int32)) hx hb d_lw_law_325 (by decide) ?_
                      exact absurd (show (0 : Int32) = 1 from congrArg Prod.fst (Option.some.inj h)) (by decide)
                · rw [if_neg c52] at h
                  refine lv_iconst (v := (0 : Int32)) hx hb d_lw_law_308 (by decide) ?_
                  exact absurd (show (0 : Int32) = 1 from congrArg Prod.fst (Option.some.inj h)) (by decide)
              · rw [if_neg c41] at h
                by_cases c56 : (x2 &&& (15 : Int32)) = (5 : Int32)
                · rw [if_pos c56] at h
                  refine lv_tableIn (off := 291) (tgt := 330) hx hb d_lw_law_39 (by rw [c56]; decide) (by rw [c56]; decide) (by rw [c56]; rfl) (by decide) ?_
                  refine lv_aload_n hx hb d_lw_law_330 rfl (lv_at hl 1 rfl) ?_
                  refine lv_aload_n hx hb d_lw_law_331 rfl (lv_at hl 0 rfl) ?_
                  refine lv_iload hx hb d_lw_law_332 (lv_at hl 4 rfl) ?_
                  refine lv_iconst (v := (1 : Int32)) hx hb d_lw_law_334 (by decide) ?_
                  refine lv_iadd hx hb d_lw_law_335 ?_
                  replace h := bs h
                  obtain ⟨x57, hx57, h⟩ := h
                  refine wo_sld hx hb hX hbl hbb hW hx57 d_lw_law_336 ?_
                  refine lv_aload_n hx hb d_lw_law_337 rfl (lv_at hl 3 rfl) ?_
                  replace h := bs2 h
                  obtain ⟨x58, w59, hw59, h⟩ := h
                  refine cs_lw_84 (As := [.ref (base + y1), .int x57, .ref (base + y3)]) (rest := []) hx hb hml hown hts hK hG hW (c_lw_input l hst D cA base hw59) ⟨Nat.le_of_ble_eq_true rfl, Nat.le_of_ble_eq_true rfl⟩ ⟨by show 417 + k + 1 ≤ 600002; omega, by show 542100 + 6 * k + 6 ≤ 7302232; omega⟩ rfl hl.1 rfl (Nat.le_of_ble_eq_true rfl) d_lw_law_338 (fun H locs hW => ?_)
                  refine W.widen (k := 417 + (k + 1)) (n := 542100 + 6 * (k + 1)) (by show 417 + k + 1 ≤ 417 + (k + 1); omega) (by show 542100 + 6 * k + 6 ≤ 542100 + 6 * (k + 1); omega) ?_
                  refine lv_istore (lv' := [(5, .int x58), (0, .ref b), (1, .ref (base + y1)), (2, .ref (base + y2)), (3, .ref (base + y3)), (4, .int y4)]) hx hb d_lw_law_341 hl (by decide) rfl (fun ls hl => ?_)
                  refine lv_aload_n hx hb d_lw_law_343 rfl (lv_at hl 3 rfl) ?_
                  refine lv_aload_n hx hb d_lw_law_344 rfl (lv_at hl 1 rfl) ?_
                  refine lv_iload hx hb d_lw_law_345 (lv_at hl 5 rfl) ?_
                  refine lv_iconst (v := (1 : Int32)) hx hb d_lw_law_347 (by decide) ?_
                  refine lv_iadd hx hb d_lw_law_348 ?_
                  replace h := bs h
                  obtain ⟨x60, hx60, h⟩ := h
                  refine wo_sld hx hb hX hbl hbb hW hx60 d_lw_law_349 ?_
                  replace h := bs2 h
                  obtain ⟨x61, w62, hw62, h⟩ := h
                  refine cv_lw_87 (As := [.int x60]) (rest := []) hx hb hml hown hts hK hG hW (c_q_input l D cA base hw62) (kb_q_input hw62) ⟨Nat.le_of_ble_eq_true rfl, Nat.le_of_ble_eq_true rfl⟩ ⟨by show 417 + (k + 1) + 0 ≤ 600002; omega, by show 542100 + 6 * (k + 1) + 0 ≤ 7302232; omega⟩ rfl hl.1 rfl (Nat.le_of_ble_eq_true rfl) d_lw_law_350 (fun H locs hW => ?_)
                  refine W.widen (k := 417 + (k + 1)) (n := 542100 + 6 * (k + 1)) (by show 417 + (k + 1) + 0 ≤ 417 + (k + 1); omega) (by show 542100 + 6 * (k + 1) + 0 ≤ 542100 + 6 * (k + 1); omega) ?_
                  refine lv_istore (lv' := [(6, .int x61), (5, .int x58), (0, .ref b), (1, .ref (base + y1)), (2, .ref (base + y2)), (3, .ref (base + y3)), (4, .int y4)]) hx hb d_lw_law_353 hl (by decide) rfl (fun ls hl => ?_)
                  refine lv_aload_n hx hb d_lw_law_355 rfl (lv_at hl 4 rfl) ?_
                  replace h := bs2 h
                  obtain ⟨x63, w64, hw64, h⟩ := h
                  refine cv_lw_65 (As := []) (rest := []) hx hb hml hown hts hK hG hW (c_q_thrown l D cA base hw64) (kb_q_thrown hw64) ⟨Nat.le_of_ble_eq_true rfl, Nat.le_of_ble_eq_true rfl⟩ ⟨by show 417 + (k + 1) + 0 ≤ 600002; omega, by show 542100 + 6 * (k + 1) + 0 ≤ 7302232; omega⟩ rfl hl.1 rfl (Nat.le_of_ble_eq_true rfl) d_lw_law_356 (fun H locs hW => ?_)
                  refine W.widen (k := 417 + (k + 1)) (n := 542100 + 6 * (k + 1)) (by show 417 + (k + 1) + 0 ≤ 417 + (k + 1); omega) (by show 542100 + 6 * (k + 1) + 0 ≤ 542100 + 6 * (k + 1); omega) ?_
                  refine lv_iload hx hb d_lw_law_359 (lv_at hl 1 rfl) ?_
                  refine lv_icmp_eq (tgt := 366) hx hb d_lw_law_361 (by decide) (fun c65 => ?_) (fun c65 => ?_)
                  · rw [if_pos c65] at h
                    refine lv_iload hx hb d_lw_law_366 (lv_at hl 1 rfl) ?_
                    refine lv_if_ne (tgt := 383) hx hb d_lw_law_368 (by decide) (fun c66 => ?_) (fun c66 => ?_)
                    · rw [if_neg c66] at h
                      refine lv_goto (tgt := 735) hx hb d_lw_law_383 (by decide) ?_
                      refine lv_iinc (v := (y4 + (3 : Int32))) (lv' := [(4, .int (y4 + (3 : Int32))), (6, .int x61), (5, .int x58), (0, .ref b), (1, .ref (base + y1)), (2, .ref (base + y2)), (3, .ref (base + y3))]) hx hb d_lw_law_735 hl (k := 6) rfl rfl (by decide) rfl (fun ls hl => ?_)
                      refine lv_goto (tgt := 23) hx hb d_lw_law_738 (by decide) ?_
                      exact ih y1 y2 y3 (y4 + (3 : Int32)) w64 h (k + 1) _ _ _ hW (lv_sub hl [3, 4, 5, 6, 0] rfl) (by omega)
                    · rw [if_pos c66] at h
                      refine lv_aload_n hx hb d_lw_law_371 rfl (lv_at hl 5 rfl) ?_
                      refine lv_iconst (v := (0 : Int32)) hx hb d_lw_law_372 (by decide) ?_
                      replace h := bs h
                      obtain ⟨x67, hx67, h⟩ := h
                      refine wo_lald hx hb hK hW (t := 1) rfl hx67 d_lw_law_373 ?_
                      refine lv_iload hx hb d_lw_law_374 (lv_at hl 0 rfl) ?_
                      refine lv_i2l hx hb d_lw_law_376 rfl ?_
                      refine lc_eq (tgt := 383) hx hb d_lw_law_377 d_lw_law_378 (by decide) (fun c68 => ?_) (fun c68 => ?_)
                      · rw [if_pos c68] at h
                        refine lv_goto (tgt := 735) hx hb d_lw_law_383 (by decide) ?_
                        refine lv_iinc (v := (y4 + (3 : Int32))) (lv' := [(4, .int (y4 + (3 : Int32))), (6, .int x61), (5, .int x58), (0, .ref b), (1, .ref (base + y1)), (2, .ref (base + y2)), (3, .ref (base + y3))]) hx hb d_lw_law_735 hl (k := 6) rfl rfl (by decide) rfl (fun ls hl => ?_)
                        refine lv_goto (tgt := 23) hx hb d_lw_law_738 (by decide) ?_
                        exact ih y1 y2 y3 (y4 + (3 : Int32)) w64 h (k + 1) _ _ _ hW (lv_sub hl [3, 4, 5, 6, 0] rfl) (by omega)
                      · rw [if_neg c68] at h
                        refine lv_iconst (v := (0 : Int32)) hx hb d_lw_law_381 (by decide) ?_
                        exact absurd (show (0 : Int32) = 1 from congrArg Prod.fst (Option.some.inj h)) (by decide)
                  · rw [if_neg c65] at h
                    refine lv_iconst (v := (0 : Int32)) hx hb d_lw_law_364 (by decide) ?_
                    exact absurd (show (0 : Int32) = 1 from congrArg Prod.fst (Option.some.inj h)) (by decide)
                · rw [if_neg c56] at h
                  by_cases c69 : (x2 &&& (15 : Int32)) = (6 : Int32)
                  · rw [if_pos c69] at h
                    refine lv_tableIn (off := 347) (tgt := 386) hx hb d_lw_law_39 (by rw [c69]; decide) (by rw [c69]; decide) (by rw [c69]; rfl) (by decide) ?_
                    refine lv_aload_n hx hb d_lw_law_386 rfl (lv_at hl 1 rfl) ?_
                    replace h := bs2 h
                    obtain ⟨x70, w71, hw71, h⟩ := h
                    refine cv_lw_88 (As := []) (rest := []) hx hb hml hown hts hK hG hW (c_a_forget l D cA base hw71) (kb_a_forget hw71) ⟨Nat.le_of_ble_eq_true rfl, Nat.le_of_ble_eq_true rfl⟩ ⟨by show 417 + k + 0 ≤ 600002; omega, by show 542100 + 6 * k + 0 ≤ 7302232; omega⟩ rfl hl.1 rfl (Nat.le_of_ble_eq_true rfl) d_lw_law_387 (fun H locs hW => ?_)
                    refine W.widen (k := 417 + (k + 1)) (n := 542100 + 6 * (k + 1)) (by show 417 + k + 0 ≤ 417 + (k + 1); omega) (by show 542100 + 6 * k + 0 ≤ 542100 + 6 * (k + 1); omega) ?_
                    refine lv_aload_n hx hb d_lw_law_390 rfl (lv_at hl 2 rfl) ?_
                    replace h := bs2 h
                    obtain ⟨x72, w73, hw73, h⟩ := h
                    refine cv_lw_91 (As := []) (rest := [.int x70]) hx hb hml hown hts hK hG hW (c_q_forget l D cA base hw73) (kb_q_forget hw73) ⟨Nat.le_of_ble_eq_true rfl, Nat.le_of_ble_eq_true rfl⟩ ⟨by show 417 + (k + 1) + 0 ≤ 600002; omega, by show 542100 + 6 * (k + 1) + 0 ≤ 7302232; omega⟩ rfl hl.1 rfl (Nat.le_of_ble_eq_true rfl) d_lw_law_391 (fun H locs hW => ?_)
                    refine W.widen (k := 417 + (k + 1)) (n := 542100 + 6 * (k + 1)) (by show 417 + (k + 1) + 0 ≤ 417 + (k + 1); omega) (by show 542100 + 6 * (k + 1) + 0 ≤ 542100 + 6 * (k + 1); omega) ?_
                    refine lv_icmp_eq (tgt := 735) hx hb d_lw_law_394 (by decide) (fun c74 => ?_) (fun c74 => ?_)
                    · rw [if_pos c74] at h
                      refine lv_iinc (v := (y4 + (3 : Int32))) (lv' := [(4, .int (y4 + (3 : Int32))), (0, .ref b), (1, .ref (base + y1)), (2, .ref (base + y2)), (3, .ref (base + y3))]) hx hb d_lw_law_735 hl (k := 4) rfl rfl (by decide) rfl (fun ls hl => ?_)
                      refine lv_goto (tgt := 23) hx hb d_lw_law_738 (by decide) ?_
                      exact ih y1 y2 y3 (y4 + (3 : Int32)) w73 h (k + 1) _ _ _ hW (lv_sub hl [1, 2, 3, 4, 0] rfl) (by omega)
                    · rw [if_neg c74] at h
                      refine lv_iconst (v := (0 : Int32)) hx hb d_lw_law_397 (by decide) ?_
                      exact absurd (show (0 : Int32) = 1 from congrArg Prod.fst (Option.some.inj h)) (by decide)
                  · rw [if_neg c69] at h
                    by_cases c75 : (x2 &&& (15 : Int32)) = (7 : Int32)
                    · rw [if_pos c75] at h
                      refine lv_tableIn (off := 360) (tgt := 399) hx hb d_lw_law_39 (by rw [c75]; decide) (by rw [c75]; decide) (by rw [c75]; rfl) (by decide) ?_
                      refine lv_aload_n hx hb d_lw_law_399 rfl (lv_at hl 1 rfl) ?_
                      refine lv_aload_n hx hb d_lw_law_400 rfl (lv_at hl 0 rfl) ?_
                      refine lv_iload hx hb d_lw_law_401 (lv_at hl 4 rfl) ?_
                      refine lv_iconst (v := (1 : Int32)) hx hb d_lw_law_403 (by decide) ?_
                      refine lv_iadd hx hb d_lw_law_404 ?_
                      replace h := bs h
                      obtain ⟨x76, hx76, h⟩ := h
                      refine wo_sld hx hb hX hbl hbb hW hx76 d_lw_law_405 ?_
                      refine lv_aload_n hx hb d_lw_law_406 rfl (lv_at hl 3 rfl) ?_
                      replace h := bs2 h
                      obtain ⟨x77, w78, hw78, h⟩ := h
                      refine cs_lw_92 (As := [.ref (base + y1), .int x76, .ref (base + y3)]) (rest := []) hx hb hml hown hts hK hG hW (c_lw_run l hst D cA base hw78) ⟨Nat.le_of_ble_eq_true rfl, Nat.le_of_ble_eq_true rfl⟩ ⟨by show 417 + k + 1 ≤ 600002; omega, by show 542100 + 6 * k + 6 ≤ 7302232; omega⟩ rfl hl.1 rfl (Nat.le_of_ble_eq_true rfl) d_lw_law_407 (fun H locs hW => ?_)
                      refine W.widen (k := 417 + (k + 1)) (n := 542100 + 6 * (k + 1)) (by show 417 + k + 1 ≤ 417 + (k + 1); omega) (by show 542100 + 6 * k + 6 ≤ 542100 + 6 * (k + 1); omega) ?_
                      refine lv_istore (lv' := [(5, .int x77), (0, .ref b), (1, .ref (base + y1)), (2, .ref (base + y2)), (3, .ref (base + y3)), (4, .int y4)]) hx hb d_lw_law_410 hl (by decide) rfl (fun ls hl => ?_)
                      refine lv_aload_n hx hb d_lw_law_412 rfl (lv_at hl 3 rfl) ?_
                      refine lv_aload_n hx hb d_lw_law_413 rfl (lv_at hl 1 rfl) ?_
                      refine lv_iload hx hb d_lw_law_414 (lv_at hl 5 rfl) ?_
                      refine lv_iconst (v := (1 : Int32)) hx hb d_lw_law_416 (by decide) ?_
                      refine lv_iadd hx hb d_lw_law_417 ?_
                      replace h := bs h
                      obtain ⟨x79, hx79, h⟩ := h
                      refine wo_sld hx hb hX hbl hbb hW hx79 d_lw_law_418 ?_
                      replace h := bs2 h
                      obtain ⟨x80, w81, hw81, h⟩ := h
                      refine cv_lw_94 (As := [.int x79]) (rest := []) hx hb hml hown hts hK hG hW (c_q_run l D cA base hw81) (kb_q_run hw81) ⟨Nat.le_of_ble_eq_true rfl, Nat.le_of_ble_eq_true rfl⟩ ⟨by show 417 + (k + 1) + 0 ≤ 600002; omega, by show 542100 + 6 * (k + 1) + 0 ≤ 7302232; omega⟩ rfl hl.1 rfl (Nat.le_of_ble_eq_true rfl) d_lw_law_419 (fun H locs hW => ?_)
                      refine W.widen (k := 417 + (k + 1)) (n := 542100 + 6 * (k + 1)) (by show 417 + (k + 1) + 0 ≤ 417 + (k + 1); omega) (by show 542100 + 6 * (k + 1) + 0 ≤ 542100 + 6 * (k + 1); omega) ?_
                      refine lv_istore (lv' := [(6, .int x80), (5, .int x77), (0, .ref b), (1, .ref (base + y1)), (2, .ref (base + y2)), (3, .ref (base + y3)), (4, .int y4)]) hx hb d_lw_law_422 hl (by decide) rfl (fun ls hl => ?_)
                      refine lv_aload_n hx hb d_lw_law_424 rfl (lv_at hl 4 rfl) ?_
                      replace h := bs2 h
                      obtain ⟨x82, w83, hw83, h⟩ := h
                      refine cv_lw_65 (As := []) (rest := []) hx hb hml hown hts hK hG hW (c_q_thrown l D cA base hw83) (kb_q_thrown hw83) ⟨Nat.le_of_ble_eq_true rfl, Nat.le_of_ble_eq_true rfl⟩ ⟨by show 417 + (k + 1) + 0 ≤ 600002; omega, by show 542100 + 6 * (k + 1) + 0 ≤ 7302232; omega⟩ rfl hl.1 rfl (Nat.le_of_ble_eq_true rfl) d_lw_law_425 (fun H locs hW => ?_)
                      refine W.widen (k := 417 + (k + 1)) (n := 542100 + 6 * (k + 1)) (by show 417 + (k + 1) + 0 ≤ 417 + (k + 1); omega) (by show 542100 + 6 * (k + 1) + 0 ≤ 542100 + 6 * (k + 1); omega) ?_
                      refine lv_iload hx hb d_lw_law_428 (lv_at hl 1 rfl) ?_
                      refine lv_icmp_eq (tgt := 435) hx hb d_lw_law_430 (by decide) (fun c84 => ?_) (fun c84 => ?_)
                      · rw [if_pos c84] at h
                        refine lv_iload hx hb d_lw_law_435 (lv_at hl 1 rfl) ?_
                        refine lv_if_ne (tgt := 452) hx hb d_lw_law_437 (by decide) (fun c85 => ?_) (fun c85 => ?_)
                        · rw [if_neg c85] at h
                          refine lv_goto (tgt := 735) hx hb d_lw_law_452 (by decide) ?_
                          refine lv_iinc (v := (y4 + (3 : Int32))) (lv' := [(4, .int (y4 + (3 : Int32))), (6, .int x80), (5, .int x77), (0, .ref b), (1, .ref (base + y1)), (2, .ref (base + y2)), (3, .ref (base + y3))]) hx hb d_lw_law_735 hl (k := 6) rfl rfl (by decide) rfl (fun ls hl => ?_)
                          refine lv_goto (tgt := 23) hx hb d_lw_law_738 (by decide) ?_
                          exact ih y1 y2 y3 (y4 + (3 : Int32)) w83 h (k + 1) _ _ _ hW (lv_sub hl [3, 4, 5, 6, 0] rfl) (by omega)
                        · rw [if_pos c85] at h
                          refine lv_aload_n hx hb d_lw_law_440 rfl (lv_at hl 5 rfl) ?_
                          refine lv_iconst (v := (0 : Int32)) hx hb d_lw_law_441 (by decide) ?_
                          replace h := bs h
                          obtain ⟨x86, hx86, h⟩ := h
                          refine wo_lald hx hb hK hW (t := 1) rfl hx86 d_lw_law_442 ?_
                          refine lv_iload hx hb d_lw_law_443 (lv_at hl 0 rfl) ?_
                          refine lv_i2l hx hb d_lw_law_445 rfl ?_
                          refine lc_eq (tgt := 452) hx hb d_lw_law_446 d_lw_law_447 (by decide) (fun c87 => ?_) (fun c87 => ?_)
                          · rw [if_pos c87] at h
                            refine lv_goto (tgt := 735) hx hb d_lw_law_452 (by decide) ?_
                            refine lv_iinc (v := (y4 + (3 : Int32))) (lv' := [(4, .int (y4 + (3 : Int32))), (6, .int x80), (5, .int x77), (0, .ref b), (1, .ref (base + y1)), (2, .ref (base + y2)), (3, .ref (base + y3))]) hx hb d_lw_law_735 hl (k := 6) rfl rfl (by decide) rfl (fun ls hl => ?_)
                            refine lv_goto (tgt := 23) hx hb d_lw_law_738 (by decide) ?_
                            exact ih y1 y2 y3 (y4 + (3 : Int32)) w83 h (k + 1) _ _ _ hW (lv_sub hl [3, 4, 5, 6, 0] rfl) (by omega)
                          · rw [if_neg c87] at h
                            refine lv_iconst (v := (0 : Int32)) hx hb d_lw_law_450 (by decide) ?_
                            exact absurd (show (0 : Int32) = 1 from congrArg Prod.fst (Option.some.inj h)) (by decide)
                      · rw [if_neg c84] at h
                        refine lv_iconst (v := (0 : Int32)) hx hb d_lw_law_433 (by decide) ?_
                        exact absurd (show (0 : Int32) = 1 from congrArg Prod.fst (Option.some.inj h)) (by decide)
                    · rw [if_neg c75] at h
                      by_cases c88 : (x2 &&& (15 : Int32)) = (8 : Int32)
                      · rw [if_pos c88] at h
                        refine lv_tableIn (off := 416) (tgt := 455) hx hb d_lw_law_39 (by rw [c88]; decide) (by rw [c88]; decide) (by rw [c88]; rfl) (by decide) ?_
                        refine lv_aload_n hx hb d_lw_law_455 rfl (lv_at hl 1 rfl) ?_
                        refine lv_aload_n hx hb d_lw_law_456 rfl (lv_at hl 0 rfl) ?_
                        refine lv_iload hx hb d_lw_law_457 (lv_at hl 4 rfl) ?_
                        refine lv_iconst (v := (1 : Int32)) hx hb d_lw_law_459 (by decide) ?_
                        refine lv_iadd hx hb d_lw_law_460 ?_
                        replace h := bs h
                        obtain ⟨x89, hx89, h⟩ := h
                        refine wo_sld hx hb hX hbl hbb hW hx89 d_lw_law_461 ?_
                        refine lv_aload_n hx hb d_lw_law_462 rfl (lv_at hl 3 rfl) ?_
                        replace h := bs2 h
                        obtain ⟨x90, w91, hw91, h⟩ := h
                        refine cs_lw_95 (As := [.ref (base + y1), .int x89, .ref (base + y3)]) (rest := []) hx hb hml hown hts hK hG hW (c_lw_ran l hst D cA base hw91) ⟨Nat.le_of_ble_eq_true rfl, Nat.le_of_ble_eq_true rfl⟩ ⟨by show 417 + k + 1 ≤ 600002; omega, by show 542100 + 6 * k + 6 ≤ 7302232; omega⟩ rfl hl.1 rfl (Nat.le_of_ble_eq_true rfl) d_lw_law_463 (fun H locs hW => ?_)
                        refine W.widen (k := 417 + (k + 1)) (n := 542100 + 6 * (k + 1)) (by show 417 + k + 1 ≤ 417 + (k + 1); omega) (by show 542100 + 6 * k + 6 ≤ 542100 + 6 * (k + 1); omega) ?_
                        refine lv_istore (lv' := [(5, .int x90), (0, .ref b), (1, .ref (base + y1)), (2, .ref (base + y2)), (3, .ref (base + y3)), (4, .int y4)]) hx hb d_lw_law_466 hl (by decide) rfl (fun ls hl => ?_)
                        refine lv_aload_n hx hb d_lw_law_468 rfl (lv_at hl 3 rfl) ?_
                        refine lv_aload_n hx hb d_lw_law_469 rfl (lv_at hl 1 rfl) ?_
                        refine lv_iload hx hb d_lw_law_470 (lv_at hl 5 rfl) ?_
                        refine lv_iconst (v := (1 : Int32)) hx hb d_lw_law_472 (by decide) ?_
                        refine lv_iadd hx hb d_lw_law_473 ?_
                        replace h := bs h
                        obtain ⟨x92, hx92, h⟩ := h
                        refine wo_sld hx hb hX hbl hbb hW hx92 d_lw_law_474 ?_
                        replace h := bs2 h
                        obtain ⟨x93, w94, hw94, h⟩ := h
                        refine cv_lw_97 (As := [.int x92]) (rest := []) hx hb hml hown hts hK hG hW (c_q_ran l D cA base hw94) (kb_q_ran hw94) ⟨Nat.le_of_ble_eq_true rfl, Nat.le_of_ble_eq_true rfl⟩ ⟨by show 417 + (k + 1) + 0 ≤ 600002; omega, by show 542100 + 6 * (k + 1) + 0 ≤ 7302232; omega⟩ rfl hl.1 rfl (Nat.le_of_ble_eq_true rfl) d_lw_law_475 (fun H locs hW => ?_)
                        refine W.widen (k := 417 + (k + 1)) (n := 542100 + 6 * (k + 1)) (by show 417 + (k + 1) + 0 ≤ 417 + (k + 1); omega) (by show 542100 + 6 * (k + 1) + 0 ≤ 542100 + 6 * (k + 1); omega) ?_
                        refine lv_istore (lv' := [(6, .int x93), (5, .int x90), (0, .ref b), (1, .ref (base + y1)), (2, .ref (base + y2)), (3, .ref (base + y3)), (4, .int y4)]) hx hb d_lw_law_478 hl (by decide) rfl (fun ls hl => ?_)
                        refine lv_aload_n hx hb d_lw_law_480 rfl (lv_at hl 4 rfl) ?_
                        replace h := bs2 h
                        obtain ⟨x95, w96, hw96, h⟩ := h
                        refine cv_lw_65 (As := []) (rest := []) hx hb hml hown hts hK hG hW (c_q_thrown l D cA base hw96) (kb_q_thrown hw96) ⟨Nat.le_of_ble_eq_true rfl, Nat.le_of_ble_eq_true rfl⟩ ⟨by show 417 + (k + 1) + 0 ≤ 600002; omega, by show 542100 + 6 * (k + 1) + 0 ≤ 7302232; omega⟩ rfl hl.1 rfl (Nat.le_of_ble_eq_true rfl) d_lw_law_481 (fun H locs hW => ?_)
                        refine W.widen (k := 417 + (k + 1)) (n := 542100 + 6 * (k + 1)) (by show 417 + (k + 1) + 0 ≤ 417 + (k + 1); omega) (by show 542100 + 6 * (k + 1) + 0 ≤ 542100 + 6 * (k + 1); omega) ?_
                        refine lv_iload hx hb d_lw_law_484 (lv_at hl 1 rfl) ?_
                        refine lv_icmp_eq (tgt := 491) hx hb d_lw_law_486 (by decide) (fun c97 => ?_) (fun c97 => ?_)
                        · rw [if_pos c97] at h
                          refine lv_iload hx hb d_lw_law_491 (lv_at hl 1 rfl) ?_
                          refine lv_if_ne (tgt := 508) hx hb d_lw_law_493 (by decide) (fun c98 => ?_) (fun c98 => ?_)
                          · rw [if_neg c98] at h
                            refine lv_goto (tgt := 735) hx hb d_lw_law_508 (by decide) ?_
                            refine lv_iinc (v := (y4 + (3 : Int32))) (lv' := [(4, .int (y4 + (3 : Int32))), (6, .int x93), (5, .int x90), (0, .ref b), (1, .ref (base + y1)), (2, .ref (base + y2)), (3, .ref (base + y3))]) hx hb d_lw_law_735 hl (k := 6) rfl rfl (by decide) rfl (fun ls hl => ?_)
                            refine lv_goto (tgt := 23) hx hb d_lw_law_738 (by decide) ?_
                            exact ih y1 y2 y3 (y4 + (3 : Int32)) w96 h (k + 1) _ _ _ hW (lv_sub hl [3, 4, 5, 6, 0] rfl) (by omega)
                          · rw [if_pos c98] at h
                            refine lv_aload_n hx hb d_lw_law_496 rfl (lv_at hl 5 rfl) ?_
                            refine lv_iconst (v := (0 : Int32)) hx hb d_lw_law_497 (by decide) ?_
                            replace h := bs h
                            obtain ⟨x99, hx99, h⟩ := h
                            refine wo_lald hx hb hK hW (t := 1) rfl hx99 d_lw_law_498 ?_
                            refine lv_iload hx hb d_lw_law_499 (lv_at hl 0 rfl) ?_
                            refine lv_i2l hx hb d_lw_law_501 rfl ?_
                            refine lc_eq (tgt := 508) hx hb d_lw_law_502 d_lw_law_503 (by decide) (fun c100 => ?_) (fun c100 => ?_)
                            · rw [if_pos c100] at h
                              refine lv_goto (tgt := 735) hx hb d_lw_law_508 (by decide) ?_
                              refine lv_iinc (v := (y4 + (3 : Int32))) (lv' := [(4, .int (y4 + (3 : Int32))), (6, .int x93), (5, .int x90), (0, .ref b), (1, .ref (base + y1)), (2, .ref (base + y2)), (3, .ref (base + y3))]) hx hb d_lw_law_735 hl (k := 6) rfl rfl (by decide) rfl (fun ls hl => ?_)
                              refine lv_goto (tgt := 23) hx hb d_lw_law_738 (by decide) ?_
                              exact ih y1 y2 y3 (y4 + (3 : Int32)) w96 h (k + 1) _ _ _ hW (lv_sub hl [3, 4, 5, 6, 0] rfl) (by omega)
                            · rw [if_neg c100] at h
                              refine lv_iconst (v := (0 : Int32)) hx hb d_lw_law_506 (by decide) ?_
                              exact absurd (show (0 : Int32) = 1 from congrArg Prod.fst (Option.some.inj h)) (by decide)
                        · rw [if_neg c97] at h
                          refine lv_iconst (v := (0 : Int32)) hx hb d_lw_law_489 (by decide) ?_
                          exact absurd (show (0 : Int32) = 1 from congrArg Prod.fst (Option.some.inj h)) (by decide)
                      · rw [if_neg c88] at h
                        by_cases c101 : (x2 &&& (15 : Int32)) = (9 : Int32)
                        · rw [if_pos c101] at h
                          refine lv_tableIn (off := 472) (tgt := 511) hx hb d_lw_law_39 (by rw [c101]; decide) (by rw [c101]; decide) (by rw [c101]; rfl) (by decide) ?_
                          refine lv_aload_n hx hb d_lw_law_511 rfl (lv_at hl 1 rfl) ?_
                          refine lv_aload_n hx hb d_lw_law_512 rfl (lv_at hl 3 rfl) ?_
                          replace h := bs2 h
                          obtain ⟨x102, w103, hw103, h⟩ := h
                          refine cs_lw_98 (As := [.ref (base + y1), .ref (base + y3)]) (rest := []) hx hb hml hown hts hK hG hW (c_lw_analyse l hst D cA base hw103) ⟨Nat.le_of_ble_eq_true rfl, Nat.le_of_ble_eq_true rfl⟩ ⟨by show 417 + k + 1 ≤ 600002; omega, by show 542100 + 6 * k + 6 ≤ 7302232; omega⟩ rfl hl.1 rfl (Nat.le_of_ble_eq_true rfl) d_lw_law_513 (fun H locs hW => ?_)
                          refine W.widen (k := 417 + (k + 1)) (n := 542100 + 6 * (k + 1)) (by show 417 + k + 1 ≤ 417 + (k + 1); omega) (by show 542100 + 6 * k + 6 ≤ 542100 + 6 * (k + 1); omega) ?_
                          refine lv_istore (lv' := [(5, .int x102), (0, .ref b), (1, .ref (base + y1)), (2, .ref (base + y2)), (3, .ref (base + y3)), (4, .int y4)]) hx hb d_lw_law_516 hl (by decide) rfl (fun ls hl => ?_)
                          refine lv_aload_n hx hb d_lw_law_518 rfl (lv_at hl 3 rfl) ?_
                          replace h := bs2 h
                          obtain ⟨x104, w105, hw105, h⟩ := h
                          refine cv_lw_100 (As := []) (rest := []) hx hb hml hown hts hK hG hW (c_q_analyse l D cA base hw105) (kb_q_analyse hw105) ⟨Nat.le_of_ble_eq_true rfl, Nat.le_of_ble_eq_true rfl⟩ ⟨by show 417 + (k + 1) + 0 ≤ 600002; omega, by show 542100 + 6 * (k + 1) + 0 ≤ 7302232; omega⟩ rfl hl.1 rfl (Nat.le_of_ble_eq_true rfl) d_lw_law_519 (fun H locs hW => ?_)
                          refine W.widen (k := 417 + (k + 1)) (n := 542100 + 6 * (k + 1)) (by show 417 + (k + 1) + 0 ≤ 417 + (k + 1); omega) (by show 542100 + 6 * (k + 1) + 0 ≤ 542100 + 6 * (k + 1); omega) ?_
                          refine lv_istore (lv' := [(6, .int x104), (5, .int x102), (0, .ref b), (1, .ref (base + y1)), (2, .ref (base + y2)), (3, .ref (base + y3)), (4, .int y4)]) hx hb d_lw_law_522 hl (by decide) rfl (fun ls hl => ?_)
                          refine lv_aload_n hx hb d_lw_law_524 rfl (lv_at hl 4 rfl) ?_
                          replace h := bs2 h
                          obtain ⟨x106, w107, hw107, h⟩ := h
                          refine cv_lw_65 (As := []) (rest := []) hx hb hml hown hts hK hG hW (c_q_thrown l D cA base hw107) (kb_q_thrown hw107) ⟨Nat.le_of_ble_eq_true rfl, Nat.le_of_ble_eq_true rfl⟩ ⟨by show 417 + (k + 1) + 0 ≤ 600002; omega, by show 542100 + 6 * (k + 1) + 0 ≤ 7302232; omega⟩ rfl hl.1 rfl (Nat.le_of_ble_eq_true rfl) d_lw_law_525 (fun H locs hW => ?_)
                          refine W.widen (k := 417 + (k + 1)) (n := 542100 + 6 * (k + 1)) (by show 417 + (k + 1) + 0 ≤ 417 + (k + 1); omega) (by show 542100 + 6 * (k + 1) + 0 ≤ 542100 + 6 * (k + 1); omega) ?_
                          refine lv_iload hx hb d_lw_law_528 (lv_at hl 1 rfl) ?_
                          refine lv_icmp_eq (tgt := 535) hx hb d_lw_law_530 (by decide) (fun c108 => ?_) (fun c108 => ?_)
                          · rw [if_pos c108] at h
                            refine lv_iload hx hb d_lw_law_535 (lv_at hl 1 rfl) ?_
                            refine lv_if_ne (tgt := 552) hx hb d_lw_law_537 (by decide) (fun c109 => ?_) (fun c109 => ?_)
                            · rw [if_neg c109] at h
                              refine lv_goto (tgt := 735) hx hb d_lw_law_552 (by decide) ?_
                              refine lv_iinc (v := (y4 + (3 : Int32))) (lv' := [(4, .int (y4 + (3 : Int32))), (6, .int x104), (5, .int x102), (0, .ref b), (1, .ref (base + y1)), (2, .ref (base + y2)), (3, .ref (base + y3))]) hx hb d_lw_law_735 hl (k := 6) rfl rfl (by decide) rfl (fun ls hl => ?_)
                              refine lv_goto (tgt := 23) hx hb d_lw_law_738 (by decide) ?_
                              exact ih y1 y2 y3 (y4 + (3 : Int32)) w107 h (k + 1) _ _ _ hW (lv_sub hl [3, 4, 5, 6, 0] rfl) (by omega)
                            · rw [if_pos c109] at h
                              refine lv_aload_n hx hb d_lw_law_540 rfl (lv_at hl 5 rfl) ?_
                              refine lv_iconst (v := (0 : Int32)) hx hb d_lw_law_541 (by decide) ?_
                              replace h := bs h
                              obtain ⟨x110, hx110, h⟩ := h
                              refine wo_lald hx hb hK hW (t := 1) rfl hx110 d_lw_law_542 ?_
                              refine lv_iload hx hb d_lw_law_543 (lv_at hl 0 rfl) ?_
                              refine lv_i2l hx hb d_lw_law_545 rfl ?_
                              refine lc_eq (tgt := 552) hx hb d_lw_law_546 d_lw_law_547 (by decide) (fun c111 => ?_) (fun c111 => ?_)
                              · rw [if_pos c111] at h
                                refine lv_goto (tgt := 735) hx hb d_lw_law_552 (by decide) ?_
                                refine lv_iinc (v := (y4 + (3 : Int32))) (lv' := [(4, .int (y4 + (3 : Int32))), (6, .int x104), (5, .int x102), (0, .ref b), (1, .ref (base + y1)), (2, .ref (base + y2)), (3, .ref (base + y3))]) hx hb d_lw_law_735 hl (k := 6) rfl rfl (by decide) rfl (fun ls hl => ?_)
                                refine lv_goto (tgt := 23) hx hb d_lw_law_738 (by decide) ?_
                                exact ih y1 y2 y3 (y4 + (3 : Int32)) w107 h (k + 1) _ _ _ hW (lv_sub hl [3, 4, 5, 6, 0] rfl) (by omega)
                              · rw [if_neg c111] at h
                                refine lv_iconst (v := (0 : Int32)) hx hb d_lw_law_550 (by decide) ?_
                                exact absurd (show (0 : Int32) = 1 from congrArg Prod.fst (Option.some.inj h)) (by decide)
                          · rw [if_neg c108] at h
                            refine lv_iconst (v := (0 : Int32)) hx hb d_lw_law_533 (by decide) ?_
                            exact absurd (show (0 : Int32) = 1 from congrArg Prod.fst (Option.some.inj h)) (by decide)
                        · rw [if_neg c101] at h
                          by_cases c112 : (x2 &&& (15 : Int32)) = (10 : Int32)
                          · rw [if_pos c112] at h
                            refine lv_tableIn (off := 516) (tgt := 555) hx hb d_lw_law_39 (by rw [c112]; decide) (by rw [c112]; decide) (by rw [c112]; rfl) (by decide) ?_
                            refine lv_aload_n hx hb d_lw_law_555 rfl (lv_at hl 1 rfl) ?_
                            refine lv_aload_n hx hb d_lw_law_556 rfl (lv_at hl 0 rfl) ?_
                            refine lv_iload hx hb d_lw_law_557 (lv_at hl 4 rfl) ?_
                            refine lv_iconst (v := (1 : Int32)) hx hb d_lw_law_559 (by decide) ?_
                            refine lv_iadd hx hb d_lw_law_560 ?_
                            replace h := bs h
                            obtain ⟨x113, hx113, h⟩ := h
                            refine wo_sld hx hb hX hbl hbb hW hx113 d_lw_law_561 ?_
                            refine lv_aload_n hx hb d_lw_law_562 rfl (lv_at hl 3 rfl) ?_
                            replace h := bs2 h
                            obtain ⟨x114, w115, hw115, h⟩ := h
                            refine cs_lw_101 (As := [.ref (base + y1), .int x113, .ref (base + y3)]) (rest := []) hx hb hml hown hts hK hG hW (c_lw_warning l hst D cA base hw115) ⟨Nat.le_of_ble_eq_true rfl, Nat.le_of_ble_eq_true rfl⟩ ⟨by show 417 + k + 1 ≤ 600002; omega, by show 542100 + 6 * k + 6 ≤ 7302232; omega⟩ rfl hl.1 rfl (Nat.le_of_ble_eq_true rfl) d_lw_law_563 (fun H locs hW => ?_)
                            refine W.widen (k := 417 + (k + 1)) (n := 542100 + 6 * (k + 1)) (by show 417 + k + 1 ≤ 417 + (k + 1); omega) (by show 542100 + 6 * k + 6 ≤ 542100 + 6 * (k + 1); omega) ?_
                            refine lv_istore (lv' := [(5, .int x114), (0, .ref b), (1, .ref (base + y1)), (2, .ref (base + y2)), (3, .ref (base + y3)), (4, .int y4)]) hx hb d_lw_law_566 hl (by decide) rfl (fun ls hl => ?_)
                            refine lv_aload_n hx hb d_lw_law_568 rfl (lv_at hl 3 rfl) ?_
                            refine lv_aload_n hx hb d_lw_law_569 rfl (lv_at hl 1 rfl) ?_
                            refine lv_iload hx hb d_lw_law_570 (lv_at hl 5 rfl) ?_
                            refine lv_iconst (v := (1 : Int32)) hx hb d_lw_law_572 (by decide) ?_
                            refine lv_iadd hx hb d_lw_law_573 ?_
                            replace h := bs h
                            obtain ⟨x116, hx116, h⟩ := h
                            refine wo_sld hx hb hX hbl hbb hW hx116 d_lw_law_574 ?_
                            replace h := bs2 h
                            obtain ⟨x117, w118, hw118, h⟩ := h
                            refine cv_lw_103 (As := [.int x116]) (rest := []) hx hb hml hown hts hK hG hW (c_q_warning l D cA base hw118) (kb_q_warning hw118) ⟨Nat.le_of_ble_eq_true rfl, Nat.le_of_ble_eq_true rfl⟩ ⟨by show 417 + (k + 1) + 0 ≤ 600002; omega, by show 542100 + 6 * (k + 1) + 0 ≤ 7302232; omega⟩ rfl hl.1 rfl (Nat.le_of_ble_eq_true rfl) d_lw_law_575 (fun H locs hW => ?_)
                            refine W.widen (k := 417 + (k + 1)) (n := 542100 + 6 * (k + 1)) (by show 417 + (k + 1) + 0 ≤ 417 + (k + 1); omega) (by show 542100 + 6 * (k + 1) + 0 ≤ 542100 + 6 * (k + 1); omega) ?_
                            refine lv_istore (lv' := [(6, .int x117), (5, .int x114), (0, .ref b), (1, .ref (base + y1)), (2, .ref (base + y2)), (3, .ref (base + y3)), (4, .int y4)]) hx hb d_lw_law_578 hl (by decide) rfl (fun ls hl => ?_)
                            refine lv_aload_n hx hb d_lw_law_580 rfl (lv_at hl 4 rfl) ?_
                            replace h := bs2 h
                            obtain ⟨x119, w120, hw120, h⟩ := h
                            refine cv_lw_65 (As := []) (rest := []) hx hb hml hown hts hK hG hW (c_q_thrown l D cA base hw120) (kb_q_thrown hw120) ⟨Nat.le_of_ble_eq_true rfl, Nat.le_of_ble_eq_true rfl⟩ ⟨by show 417 + (k + 1) + 0 ≤ 600002; omega, by show 542100 + 6 * (k + 1) + 0 ≤ 7302232; omega⟩ rfl hl.1 rfl (Nat.le_of_ble_eq_true rfl) d_lw_law_581 (fun H locs hW => ?_)
                            refine W.widen (k := 417 + (k + 1)) (n := 542100 + 6 * (k + 1)) (by show 417 + (k + 1) + 0 ≤ 417 + (k + 1); omega) (by show 542100 + 6 * (k + 1) + 0 ≤ 542100 + 6 * (k + 1); omega) ?_
                            refine lv_iload hx hb d_lw_law_584 (lv_at hl 1 rfl) ?_
                            refine lv_icmp_eq (tgt := 591) hx hb d_lw_law_586 (by decide) (fun c121 => ?_) (fun c121 => ?_)
                            · rw [if_pos c121] at h
                              refine lv_iload hx hb d_lw_law_591 (lv_at hl 1 rfl) ?_
                              refine lv_if_ne (tgt := 608) hx hb d_lw_law_593 (by decide) (fun c122 => ?_) (fun c122 => ?_)
                              · rw [if_neg c122] at h
                                refine lv_goto (tgt := 735) hx hb d_lw_law_608 (by decide) ?_
                                refine lv_iinc (v := (y4 + (3 : Int32))) (lv' := [(4, .int (y4 + (3 : Int32))), (6, .int x117), (5, .int x114), (0, .ref b), (1, .ref (base + y1)), (2, .ref (base + y2)), (3, .ref (base + y3))]) hx hb d_lw_law_735 hl (k := 6) rfl rfl (by decide) rfl (fun ls hl => ?_)
                                refine lv_goto (tgt := 23) hx hb d_lw_law_738 (by decide) ?_
                                exact ih y1 y2 y3 (y4 + (3 : Int32)) w120 h (k + 1) _ _ _ hW (lv_sub hl [3, 4, 5, 6, 0] rfl) (by omega)
                              · rw [if_pos c122] at h
                                refine lv_aload_n hx hb d_lw_law_596 rfl (lv_at hl 5 rfl) ?_
                                refine lv_iconst (v := (0 : Int32)) hx hb d_lw_law_597 (by decide) ?_
                                replace h := bs h
                                obtain ⟨x123, hx123, h⟩ := h
                                refine wo_lald hx hb hK hW (t := 1) rfl hx123 d_lw_law_598 ?_
                                refine lv_iload hx hb d_lw_law_599 (lv_at hl 0 rfl) ?_
                                refine lv_i2l hx hb d_lw_law_601 rfl ?_
                                refine lc_eq (tgt := 608) hx hb d_lw_law_602 d_lw_law_603 (by decide) (fun c124 => ?_) (fun c124 => ?_)
                                · rw [if_pos c124] at h
                                  refine lv_goto (tgt := 735) hx hb d_lw_law_608 (by decide) ?_
                                  refine lv_iinc (v := (y4 + (3 : Int32))) (lv' := [(4, .int (y4 + (3 : Int32))), (6, .int x117), (5, .int x114), (0, .ref b), (1, .ref (base + y1)), (2, .ref (base + y2)), (3, .ref (base + y3))]) hx hb d_lw_law_735 hl (k := 6) rfl rfl (by decide) rfl (fun ls hl => ?_)
                                  refine lv_goto (tgt := 23) hx hb d_lw_law_738 (by decide) ?_
                                  exact ih y1 y2 y3 (y4 + (3 : Int32)) w120 h (k + 1) _ _ _ hW (lv_sub hl [3, 4, 5, 6, 0] rfl) (by omega)
                                · rw [if_neg c124] at h
                                  refine lv_iconst (v := (0 : Int32)) hx hb d_lw_law_606 (by decide) ?_
                                  exact absurd (show (0 : Int32) = 1 from congrArg Prod.fst (Option.some.inj h)) (by decide)
                            · rw [if_neg c121] at h
                              refine lv_iconst (v := (0 : Int32)) hx hb d_lw_law_589 (by decide) ?_
                              exact absurd (show (0 : Int32) = 1 from congrArg Prod.fst (Option.some.inj h)) (by decide)
                          · rw [if_neg c112] at h
                            by_cases c125 : (x2 &&& (15 : Int32)) = (11 : Int32)
                            · rw [if_pos c125] at h
                              refine lv_tableIn (off := 572) (tgt := 611) hx hb d_lw_law_39 (by rw [c125]; decide) (by rw [c125]; decide) (by rw [c125]; rfl) (by decide) ?_
                              refine lv_aload_n hx hb d_lw_law_611 rfl (lv_at hl 1 rfl) ?_
                              refine lv_aload_n hx hb d_lw_law_612 rfl (lv_at hl 0 rfl) ?_
                              refine lv_iload hx hb d_lw_law_613 (lv_at hl 4 rfl) ?_
                              refine lv_iconst (v := (1 : Int32)) hx hb d_lw_law_615 (by decide) ?_
                              refine lv_iadd hx hb d_lw_law_616 ?_
                              replace h := bs h
                              obtain ⟨x126, hx126, h⟩ := h
                              refine wo_sld hx hb hX hbl hbb hW hx126 d_lw_law_617 ?_
                              refine lv_aload_n hx hb d_lw_law_618 rfl (lv_at hl 0 rfl) ?_
                              refine lv_iload hx hb d_lw_law_619 (lv_at hl 4 rfl) ?_
                              refine lv_iconst (v := (2 : Int32)) hx hb d_lw_law_621 (by decide) ?_
                              refine lv_iadd hx hb d_lw_law_622 ?_
                              replace h := bs h
                              obtain ⟨x127, hx127, h⟩ := h
                              refine wo_sld hx hb hX hbl hbb hW hx127 d_lw_law_623 ?_
                              refine lv_aload_n hx hb d_lw_law_624 rfl (lv_at hl 3 rfl) ?_
                              replace h := bs2 h
                              obtain ⟨x128, w129, hw129, h⟩ := h
                              refine cs_lw_104 (As := [.ref (base + y1), .int x126, .int x127, .ref (base + y3)]) (rest := []) hx hb hml hown hts hK hG hW (c_lw_left l hst D cA base hw129) ⟨Nat.le_of_ble_eq_true rfl, Nat.le_of_ble_eq_true rfl⟩ ⟨by show 417 + k + 1 ≤ 600002; omega, by show 542100 + 6 * k + 6 ≤ 7302232; omega⟩ rfl hl.1 rfl (Nat.le_of_ble_eq_true rfl) d_lw_law_625 (fun H locs hW => ?_)
                              refine W.widen (k := 417 + (k + 1)) (n := 542100 + 6 * (k + 1)) (by show 417 + k + 1 ≤ 417 + (k + 1); omega) (by show 542100 + 6 * k + 6 ≤ 542100 + 6 * (k + 1); omega) ?_
                              refine lv_istore (lv' := [(5, .int x128), (0, .ref b), (1, .ref (base + y1)), (2, .ref (base + y2)), (3, .ref (base + y3)), (4, .int y4)]) hx hb d_lw_law_628 hl (by decide) rfl (fun ls hl => ?_)
                              refine lv_aload_n hx hb d_lw_law_630 rfl (lv_at hl 3 rfl) ?_
                              refine lv_aload_n hx hb d_lw_law_631 rfl (lv_at hl 1 rfl) ?_
                              refine lv_iload hx hb d_lw_law_632 (lv_at hl 5 rfl) ?_
                              refine lv_iconst (v := (1 : Int32)) hx hb d_lw_law_634 (by decide) ?_
                              refine lv_iadd hx hb d_lw_law_635 ?_
                              replace h := bs h
                              obtain ⟨x130, hx130, h⟩ := h
                              refine wo_sld hx hb hX hbl hbb hW hx130 d_lw_law_636 ?_
                              refine lv_aload_n hx hb d_lw_law_637 rfl (lv_at hl 1 rfl) ?_
                              refine lv_iload hx hb d_lw_law_638 (lv_at hl 5 rfl) ?_
                              refine lv_iconst (v := (2 : Int32)) hx hb d_lw_law_640 (by decide) ?_
                              refine lv_iadd hx hb d_lw_law_641 ?_
                              replace h := bs h
                              obtain ⟨x131, hx131, h⟩ := h
                              refine wo_sld hx hb hX hbl hbb hW hx131 d_lw_law_642 ?_
                              replace h := bs2 h
                              obtain ⟨x132, w133, hw133, h⟩ := h
                              refine cv_lw_106 (As := [.int x130, .int x131]) (rest := []) hx hb hml hown hts hK hG hW (c_q_left_II l D cA base hw133) (kb_q_left_II hw133) ⟨Nat.le_of_ble_eq_true rfl, Nat.le_of_ble_eq_true rfl⟩ ⟨by show 417 + (k + 1) + 0 ≤ 600002; omega, by show 542100 + 6 * (k + 1) + 0 ≤ 7302232; omega⟩ rfl hl.1 rfl (Nat.le_of_ble_eq_true rfl) d_lw_law_643 (fun H locs hW => ?_)
                              refine W.widen (k := 417 + (k + 1)) (n := 542100 + 6 * (k + 1)) (by show 417 + (k + 1) + 0 ≤ 417 + (k + 1); omega) (by show 542100 + 6 * (k + 1) + 0 ≤ 542100 + 6 * (k + 1); omega) ?_
                              refine lv_istore (lv' := [(6, .int x132), (5, .int x128), (0, .ref b), (1, .ref (base + y1)), (2, .ref (base + y2)), (3, .ref (base + y3)), (4, .int y4)]) hx hb d_lw_law_646 hl (by decide) rfl (fun ls hl => ?_)
                              refine lv_aload_n hx hb d_lw_law_648 rfl (lv_at hl 4 rfl) ?_
                              replace h := bs2 h
                              obtain ⟨x134, w135, hw135, h⟩ := h
                              refine cv_lw_65 (As := []) (rest := []) hx hb hml hown hts hK hG hW (c_q_thrown l D cA base hw135) (kb_q_thrown hw135) ⟨Nat.le_of_ble_eq_true rfl, Nat.le_of_ble_eq_true rfl⟩ ⟨by show 417 + (k + 1) + 0 ≤ 600002; omega, by show 542100 + 6 * (k + 1) + 0 ≤ 7302232; omega⟩ rfl hl.1 rfl (Nat.le_of_ble_eq_true rfl) d_lw_law_649 (fun H locs hW => ?_)
                              refine W.widen (k := 417 + (k + 1)) (n := 542100 + 6 * (k + 1)) (by show 417 + (k + 1) + 0 ≤ 417 + (k + 1); omega) (by show 542100 + 6 * (k + 1) + 0 ≤ 542100 + 6 * (k + 1); omega) ?_
                              refine lv_iload hx hb d_lw_law_652 (lv_at hl 1 rfl) ?_
                              refine lv_icmp_eq (tgt := 659) hx hb d_lw_law_654 (by decide) (fun c136 => ?_) (fun c136 => ?_)
                              · rw [if_pos c136] at h
                                refine lv_iload hx hb d_lw_law_659 (lv_at hl 1 rfl) ?_
                                refine lv_if_ne (tgt := 676) hx hb d_lw_law_661 (by decide) (fun c137 => ?_) (fun c137 => ?_)
                                · rw [if_neg c137] at h
                                  refine lv_goto (tgt := 735) hx hb d_lw_law_676 (by decide) ?_
                                  refine lv_iinc (v := (y4 + (3 : Int32))) (lv' := [(4, .int (y4 + (3 : Int32))), (6, .int x132), (5, .int x128), (0, .ref b), (1, .ref (base + y1)), (2, .ref (base + y2)), (3, .ref (base + y3))]) hx hb d_lw_law_735 hl (k := 6) rfl rfl (by decide) rfl (fun ls hl => ?_)
                                  refine lv_goto (tgt := 23) hx hb d_lw_law_738 (by decide) ?_
                                  exact ih y1 y2 y3 (y4 + (3 : Int32)) w135 h (k + 1) _ _ _ hW (lv_sub hl [3, 4, 5, 6, 0] rfl) (by omega)
                                · rw [if_pos c137] at h
                                  refine lv_aload_n hx hb d_lw_law_664 rfl (lv_at hl 5 rfl) ?_
                                  refine lv_iconst (v := (0 : Int32)) hx hb d_lw_law_665 (by decide) ?_
                                  replace h := bs h
                                  obtain ⟨x138, hx138, h⟩ := h
                                  refine wo_lald hx hb hK hW (t := 1) rfl hx138 d_lw_law_666 ?_
                                  refine lv_iload hx hb d_lw_law_667 (lv_at hl 0 rfl) ?_
                                  refine lv_i2l hx hb d_lw_law_669 rfl ?_
                                  refine lc_eq (tgt := 676) hx hb d_lw_law_670 d_lw_law_671 (by decide) (fun c139 => ?_) (fun c139 => ?_)
                                  · rw [if_pos c139] at h
                                    refine lv_goto (tgt := 735) hx hb d_lw_law_676 (by decide) ?_
                                    refine lv_iinc (v := (y4 + (3 : Int32))) (lv' := [(4, .int (y4 + (3 : Int32))), (6, .int x132), (5, .int x128), (0, .ref b), (1, .ref (base + y1)), (2, .ref (base + y2)), (3, .ref (base + y3))]) hx hb d_lw_law_735 hl (k := 6) rfl rfl (by decide) rfl (fun ls hl => ?_)
                                    refine lv_goto (tgt := 23) hx hb d_lw_law_738 (by decide) ?_
                                    exact ih y1 y2 y3 (y4 + (3 : Int32)) w135 h (k + 1) _ _ _ hW (lv_sub hl [3, 4, 5, 6, 0] rfl) (by omega)
                                  · rw [if_neg c139] at h
                                    refine lv_iconst (v := (0 : Int32)) hx hb d_lw_law_674 (by decide) ?_
                                    exact absurd (show (0 : Int32) = 1 from congrArg Prod.fst (Option.some.inj h)) (by decide)
                              · rw [if_neg c136] at h
                                refine lv_iconst (v := (0 : Int32)) hx hb d_lw_law_657 (by decide) ?_
                                exact absurd (show (0 : Int32) = 1 from congrArg Prod.fst (Option.some.inj h)) (by decide)
                            · rw [if_neg c125] at h
                              by_cases c140 : (x2 &&& (15 : Int32)) = (12 : Int32)
                              · rw [if_pos c140] at h
                                refine lv_tableIn (off := 640) (tgt := 679) hx hb d_lw_law_39 (by rw [c140]; decide) (by rw [c140]; decide) (by rw [c140]; rfl) (by decide) ?_
                                refine lv_aload_n hx hb d_lw_law_679 rfl (lv_at hl 1 rfl) ?_
                                refine lv_aload_n hx hb d_lw_law_680 rfl (lv_at hl 0 rfl) ?_
                                refine lv_iload hx hb d_lw_law_681 (lv_at hl 4 rfl) ?_
                                refine lv_iconst (v := (1 : Int32)) hx hb d_lw_law_683 (by decide) ?_
                                refine lv_iadd hx hb d_lw_law_684 ?_
                                replace h := bs h
                                obtain ⟨x141, hx141, h⟩ := h
                                refine wo_sld hx hb hX hbl hbb hW hx141 d_lw_law_685 ?_
                                refine lv_aload_n hx hb d_lw_law_686 rfl (lv_at hl 3 rfl) ?_
                                replace h := bs2 h
                                obtain ⟨x142, w143, hw143, h⟩ := h
                                refine cs_lw_107 (As := [.ref (base + y1), .int x141, .ref (base + y3)]) (rest := []) hx hb hml hown hts hK hG hW (c_lw_count l hst D cA base hw143) ⟨Nat.le_of_ble_eq_true rfl, Nat.le_of_ble_eq_true rfl⟩ ⟨by show 417 + k + 1 ≤ 600002; omega, by show 542100 + 6 * k + 6 ≤ 7302232; omega⟩ rfl hl.1 rfl (Nat.le_of_ble_eq_true rfl) d_lw_law_687 (fun H locs hW => ?_)
                                refine W.widen (k := 417 + (k + 1)) (n := 542100 + 6 * (k + 1)) (by show 417 + k + 1 ≤ 417 + (k + 1); omega) (by show 542100 + 6 * k + 6 ≤ 542100 + 6 * (k + 1); omega) ?_
                                refine lv_istore (lv' := [(5, .int x142), (0, .ref b), (1, .ref (base + y1)), (2, .ref (base + y2)), (3, .ref (base + y3)), (4, .int y4)]) hx hb d_lw_law_690 hl (by decide) rfl (fun ls hl => ?_)
                                refine lv_aload_n hx hb d_lw_law_692 rfl (lv_at hl 3 rfl) ?_
                                refine lv_aload_n hx hb d_lw_law_693 rfl (lv_at hl 1 rfl) ?_
                                refine lv_iload hx hb d_lw_law_694 (lv_at hl 5 rfl) ?_
                                refine lv_iconst (v := (1 : Int32)) hx hb d_lw_law_696 (by decide) ?_
                                refine lv_iadd hx hb d_lw_law_697 ?_
                                replace h := bs h
                                obtain ⟨x144, hx144, h⟩ := h
                                refine wo_sld hx hb hX hbl hbb hW hx144 d_lw_law_698 ?_
                                replace h := bs2 h
                                obtain ⟨x145, w146, hw146, h⟩ := h
                                refine cv_lw_109 (As := [.int x144]) (rest := []) hx hb hml hown hts hK hG hW (c_q_count l D cA base hw146) (kb_q_count hw146) ⟨Nat.le_of_ble_eq_true rfl, Nat.le_of_ble_eq_true rfl⟩ ⟨by show 417 + (k + 1) + 0 ≤ 600002; omega, by show 542100 + 6 * (k + 1) + 0 ≤ 7302232; omega⟩ rfl hl.1 rfl (Nat.le_of_ble_eq_true rfl) d_lw_law_699 (fun H locs hW => ?_)
                                refine W.widen (k := 417 + (k + 1)) (n := 542100 + 6 * (k + 1)) (by show 417 + (k + 1) + 0 ≤ 417 + (k + 1); omega) (by show 542100 + 6 * (k + 1) + 0 ≤ 542100 + 6 * (k + 1); omega) ?_
                                refine lv_istore (lv' := [(6, .int x145), (5, .int x142), (0, .ref b), (1, .ref (base + y1)), (2, .ref (base + y2)), (3, .ref (base + y3)), (4, .int y4)]) hx hb d_lw_law_702 hl (by decide) rfl (fun ls hl => ?_)
                                refine lv_aload_n hx hb d_lw_law_704 rfl (lv_at hl 4 rfl) ?_
                                replace h := bs2 h
                                obtain ⟨x147, w148, hw148, h⟩ := h
                                refine cv_lw_65 (As := []) (rest := []) hx hb hml hown hts hK hG hW (c_q_thrown l D cA base hw148) (kb_q_thrown hw148) ⟨Nat.le_of_ble_eq_true rfl, Nat.le_of_ble_eq_true rfl⟩ ⟨by show 417 + (k + 1) + 0 ≤ 600002; omega, by show 542100 + 6 * (k + 1) + 0 ≤ 7302232; omega⟩ rfl hl.1 rfl (Nat.le_of_ble_eq_true rfl) d_lw_law_705 (fun H locs hW => ?_)
                                refine W.widen (k := 417 + (k + 1)) (n := 542100 + 6 * (k + 1)) (by show 417 + (k + 1) + 0 ≤ 417 + (k + 1); omega) (by show 542100 + 6 * (k + 1) + 0 ≤ 542100 + 6 * (k + 1); omega) ?_
                                refine lv_iload hx hb d_lw_law_708 (lv_at hl 1 rfl) ?_
                                refine lv_icmp_eq (tgt := 715) hx hb d_lw_law_710 (by decide) (fun c149 => ?_) (fun c149 => ?_)
                                · rw [if_pos c149] at h
                                  refine lv_iload hx hb d_lw_law_715 (lv_at hl 1 rfl) ?_
                                  refine lv_if_ne (tgt := 732) hx hb d_lw_law_717 (by decide) (fun c150 => ?_) (fun c150 => ?_)
                                  · rw [if_neg c150] at h
                                    refine lv_goto (tgt := 735) hx hb d_lw_law_732 (by decide) ?_
                                    refine lv_iinc (v := (y4 + (3 : Int32))) (lv' := [(4, .int (y4 + (3 : Int32))), (6, .int x145), (5, .int x142), (0, .ref b), (1, .ref (base + y1)), (2, .ref (base + y2)), (3, .ref (base + y3))]) hx hb d_lw_law_735 hl (k := 6) rfl rfl (by decide) rfl (fun ls hl => ?_)
                                    refine lv_goto (tgt := 23) hx hb d_lw_law_738 (by decide) ?_
                                    exact ih y1 y2 y3 (y4 + (3 : Int32)) w148 h (k + 1) _ _ _ hW (lv_sub hl [3, 4, 5, 6, 0] rfl) (by omega)
                                  · rw [if_pos c150] at h
                                    refine lv_aload_n hx hb d_lw_law_720 rfl (lv_at hl 5 rfl) ?_
                                    refine lv_iconst (v := (0 : Int32)) hx hb d_lw_law_721 (by decide) ?_
                                    replace h := bs h
                                    obtain ⟨x151, hx151, h⟩ := h
                                    refine wo_lald hx hb hK hW (t := 1) rfl hx151 d_lw_law_722 ?_
                                    refine lv_iload hx hb d_lw_law_723 (lv_at hl 0 rfl) ?_
                                    refine lv_i2l hx hb d_lw_law_725 rfl ?_
                                    refine lc_eq (tgt := 732) hx hb d_lw_law_726 d_lw_law_727 (by decide) (fun c152 => ?_) (fun c152 => ?_)
                                    · rw [if_pos c152] at h
                                      refine lv_goto (tgt := 735) hx hb d_lw_law_732 (by decide) ?_
                                      refine lv_iinc (v := (y4 + (3 : Int32))) (lv' := [(4, .int (y4 + (3 : Int32))), (6, .int x145), (5, .int x142), (0, .ref b), (1, .ref (base + y1)), (2, .ref (base + y2)), (3, .ref (base + y3))]) hx hb d_lw_law_735 hl (k := 6) rfl rfl (by decide) rfl (fun ls hl => ?_)
                                      refine lv_goto (tgt := 23) hx hb d_lw_law_738 (by decide) ?_
                                      exact ih y1 y2 y3 (y4 + (3 : Int32)) w148 h (k + 1) _ _ _ hW (lv_sub hl [3, 4, 5, 6, 0] rfl) (by omega)
                                    · rw [if_neg c152] at h
                                      refine lv_iconst (v := (0 : Int32)) hx hb d_lw_law_730 (by decide) ?_
                                      exact absurd (show (0 : Int32) = 1 from congrArg Prod.fst (Option.some.inj h)) (by decide)
                                · rw [if_neg c149] at h
                                  refine lv_iconst (v := (0 : Int32)) hx hb d_lw_law_713 (by decide) ?_
                                  exact absurd (show (0 : Int32) = 1 from congrArg Prod.fst (Option.some.inj h)) (by decide)
                              · rw [if_neg c140] at h
                                refine lv_tableOut (tgt := 735) hx hb d_lw_law_39 (by have n0 := lv_neT c3 (show (0 : Int32).toInt = 0 from rfl); have n1 := lv_neT c18 (show (1 : Int32).toInt = 1 from rfl); have n2 := lv_neT c24 (show (2 : Int32).toInt = 2 from rfl); have n3 := lv_neT c35 (show (3 : Int32).toInt = 3 from rfl); have n4 := lv_neT c41 (show (4 : Int32).toInt = 4 from rfl); have n5 := lv_neT c56 (show (5 : Int32).toInt = 5 from rfl); have n6 := lv_neT c69 (show (6 : Int32).toInt = 6 from rfl); have n7 := lv_neT c75 (show (7 : Int32).toInt = 7 from rfl); have n8 := lv_neT c88 (show (8 : Int32).toInt = 8 from rfl); have n9 := lv_neT c101 (show (9 : Int32).toInt = 9 from rfl); have n10 := lv_neT c112 (show (10 : Int32).toInt = 10 from rfl); have n11 := lv_neT c125 (show (11 : Int32).toInt = 11 from rfl); have n12 := lv_neT c140 (show (12 : Int32).toInt = 12 from rfl); omega) (by decide) ?_
                                refine lv_iinc (v := (y4 + (3 : Int32))) (lv' := [(4, .int (y4 + (3 : Int32))), (0, .ref b), (1, .ref (base + y1)), (2, .ref (base + y2)), (3, .ref (base + y3))]) hx hb d_lw_law_735 hl (k := 4) rfl rfl (by decide) rfl (fun ls hl => ?_)
                                refine lv_goto (tgt := 23) hx hb d_lw_law_738 (by decide) ?_
                                refine W.widen (k := 417 + (k + 1)) (n := 542100 + 6 * (k + 1)) (by show 417 + k + 0 ≤ 417 + (k + 1); omega) (by show 542100 + 6 * k + 0 ≤ 542100 + 6 * (k + 1); omega) ?_
                                exact ih y1 y2 y3 (y4 + (3 : Int32)) w h (k + 1) _ _ _ hW (lv_sub hl [1, 2, 3, 4, 0] rfl) (by omega)
