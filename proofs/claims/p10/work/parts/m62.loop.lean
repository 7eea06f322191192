/-! The law's loop (by wip/gen/law.py). -/
theorem cs_lw_59 {p : Program} {l : Launch} {e : Env} {R : Room} {s : State} {m : MethodId} {args : Array Value} {below : List Frame} {meth : Method} {c : Code} {H : Heap} {locs : List Loc} {cells slots : Nat} {Q : State → Prop} {D : va_G} {cA : Nat → ClassId} {base : Nat} {w w' : WW} {cc : ByteArray} {pc nL : Nat} {ls : Array Slot} {rest st0 As : List Value} {ov : Option Value} (hx : p.tables.exec = Jvm.exec) (hb : c.code = cc) (hml : c.maxLocals = nL) (hown : s.vm.findClass Rc_lw = some m.cls) (hts : ∀ w ∈ gt, w.before args s = true) (hK : va_K D cls (wo_tys cA) s) (hG : wo_G cA base s) (hW : wo_S D cls cA base s w H locs) (hM : mt l D cls (wo_tys cA) cA base y_lw_text (Cond.codeWith y_lw_text b_lw_text 5 (some .int) hh_lw_text :: gt) rm_lw_text As w ov w' rm_lw_text.cells rm_lw_text.slots) (hR : rm_lw_text.frames + 1 ≤ R.frames ∧ 8 + (5 + 11) + rm_lw_text.locals ≤ R.locals) (hf : cells + rm_lw_text.cells ≤ R.cells ∧ slots + rm_lw_text.slots ≤ R.slots) (hn : As.length = 3) (hsz : ls.size = nL) (hst : st0 = As.reverse ++ rest) (hcat : (rest.map fun v => v.category).sum ≤ 8) (hdg : decode cc pc = .ok (.invokestatic 59, 3)) (kk : ∀ (H1 : Heap) (locs1 : List Loc), wo_S D cls cA base s w' H1 locs1 → W p l e R s m args below meth c H1 locs1 (cells + rm_lw_text.cells) (slots + rm_lw_text.slots) Q (F0 m (pc + 3) ls (ov.toList ++ rest))) : W p l e R s m args below meth c H locs cells slots Q (F0 m pc ls st0) :=
  wo_callSW hx hb hml hown hts hK hG hW hM (gt_of (i := 380) (by decide +kernel) (by decide +kernel)) (gt_of (i := 381) (by decide +kernel) (by decide +kernel)) (gt_of (i := 0) (by decide +kernel) (by decide +kernel)) (gt_of (i := 382) (by decide +kernel) (by decide +kernel)) (by decide +kernel) hR hf hn hsz hst hcat hdg kk
theorem cv_lw_64 {p : Program} {l : Launch} {e : Env} {R : Room} {s : State} {m : MethodId} {args : Array Value} {below : List Frame} {meth : Method} {c : Code} {H : Heap} {locs : List Loc} {cells slots : Nat} {Q : State → Prop} {D : va_G} {cA : Nat → ClassId} {base : Nat} {w w' : WW} {cc : ByteArray} {pc nL : Nat} {ls : Array Slot} {rest st0 As : List Value} {ov : Option Value} {b : Nat} (hx : p.tables.exec = Jvm.exec) (hb : c.code = cc) (hml : c.maxLocals = nL) (hown : s.vm.findClass Rc_lw = some m.cls) (hts : ∀ w ∈ gt, w.before args s = true) (hK : va_K D cls (wo_tys cA) s) (hG : wo_G cA base s) (hW : wo_S D cls cA base s w H locs) (hM : mt l D cls (wo_tys cA) cA base y_q_text (Cond.code y_q_text b_q_text 7 (some .int) :: gt) rm_q_text (.ref (base + b) :: As) w ov w' rm_q_text.cells rm_q_text.slots) (hkb : kb w b 9 = true) (hR : rm_q_text.frames + 1 ≤ R.frames ∧ 8 + (7 + 11) + rm_q_text.locals ≤ R.locals) (hf : cells + rm_q_text.cells ≤ R.cells ∧ slots + rm_q_text.slots ≤ R.slots) (hn : As.length = 1) (hsz : ls.size = nL) (hst : st0 = As.reverse ++ .ref (base + b) :: rest) (hcat : (rest.map fun v => v.category).sum ≤ 8) (hdg : decode cc pc = .ok (.invokevirtual 64, 3)) (kk : ∀ (H1 : Heap) (locs1 : List Loc), wo_S D cls cA base s w' H1 locs1 → W p l e R s m args below meth c H1 locs1 (cells + rm_q_text.cells) (slots + rm_q_text.slots) Q (F0 m (pc + 3) ls (ov.toList ++ rest))) : W p l e R s m args below meth c H locs cells slots Q (F0 m pc ls st0) :=
  wo_callV (C := Rc_q) hx hb hml hown hts hK hG hW hM hkb rfl (gt_of (i := 1369) (by decide +kernel) (by decide +kernel)) (gt_of (i := 1370) (by decide +kernel) (by decide +kernel)) (gt_of (i := 1371) (by decide +kernel) (by decide +kernel)) (gt_of (i := 10) (by decide +kernel) (by decide +kernel)) (gt_of (i := 1372) (by decide +kernel) (by decide +kernel)) (by decide +kernel) hR hf hn hsz hst hcat hdg kk
theorem cv_lw_65 {p : Program} {l : Launch} {e : Env} {R : Room} {s : State} {m : MethodId} {args : Array Value} {below : List Frame} {meth : Method} {c : Code} {H : Heap} {locs : List Loc} {cells slots : Nat} {Q : State → Prop} {D : va_G} {cA : Nat → ClassId} {base : Nat} {w w' : WW} {cc : ByteArray} {pc nL : Nat} {ls : Array Slot} {rest st0 As : List Value} {ov : Option Value} {b : Nat} (hx : p.tables.exec = Jvm.exec) (hb : c.code = cc) (hml : c.maxLocals = nL) (hown : s.vm.findClass Rc_lw = some m.cls) (hts : ∀ w ∈ gt, w.before args s = true) (hK : va_K D cls (wo_tys cA) s) (hG : wo_G cA base s) (hW : wo_S D cls cA base s w H locs) (hM : mt l D cls (wo_tys cA) cA base y_a_clear (Cond.code y_a_clear b_a_clear 2 (some .int) :: gt) rm_a_clear (.ref (base + b) :: As) w ov w' rm_a_clear.cells rm_a_clear.slots) (hkb : kb w b 0 = true) (hR : rm_a_clear.frames + 1 ≤ R.frames ∧ 8 + (2 + 11) + rm_a_clear.locals ≤ R.locals) (hf : cells + rm_a_clear.cells ≤ R.cells ∧ slots + rm_a_clear.slots ≤ R.slots) (hn : As.length = 0) (hsz : ls.size = nL) (hst : st0 = As.reverse ++ .ref (base + b) :: rest) (hcat : (rest.map fun v => v.category).sum ≤ 8) (hdg : decode cc pc = .ok (.invokevirtual 65, 3)) (kk : ∀ (H1 : Heap) (locs1 : List Loc), wo_S D cls cA base s w' H1 locs1 → W p l e R s m args below meth c H1 locs1 (cells + rm_a_clear.cells) (slots + rm_a_clear.slots) Q (F0 m (pc + 3) ls (ov.toList ++ rest))) : W p l e R s m args below meth c H locs cells slots Q (F0 m pc ls st0) :=
  wo_callV (C := Rc_a) hx hb hml hown hts hK hG hW hM hkb rfl (gt_of (i := 368) (by decide +kernel) (by decide +kernel)) (gt_of (i := 369) (by decide +kernel) (by decide +kernel)) (gt_of (i := 370) (by decide +kernel) (by decide +kernel)) (gt_of (i := 1) (by decide +kernel) (by decide +kernel)) (gt_of (i := 371) (by decide +kernel) (by decide +kernel)) (by decide +kernel) hR hf hn hsz hst hcat hdg kk
theorem cv_lw_68 {p : Program} {l : Launch} {e : Env} {R : Room} {s : State} {m : MethodId} {args : Array Value} {below : List Frame} {meth : Method} {c : Code} {H : Heap} {locs : List Loc} {cells slots : Nat} {Q : State → Prop} {D : va_G} {cA : Nat → ClassId} {base : Nat} {w w' : WW} {cc : ByteArray} {pc nL : Nat} {ls : Array Slot} {rest st0 As : List Value} {ov : Option Value} {b : Nat} (hx : p.tables.exec = Jvm.exec) (hb : c.code = cc) (hml : c.maxLocals = nL) (hown : s.vm.findClass Rc_lw = some m.cls) (hts : ∀ w ∈ gt, w.before args s = true) (hK : va_K D cls (wo_tys cA) s) (hG : wo_G cA base s) (hW : wo_S D cls cA base s w H locs) (hM : mt l D cls (wo_tys cA) cA base y_q_clear (Cond.code y_q_clear b_q_clear 2 (some .int) :: gt) rm_q_clear (.ref (base + b) :: As) w ov w' rm_q_clear.cells rm_q_clear.slots) (hkb : kb w b 9 = true) (hR : rm_q_clear.frames + 1 ≤ R.frames ∧ 8 + (2 + 11) + rm_q_clear.locals ≤ R.locals) (hf : cells + rm_q_clear.cells ≤ R.cells ∧ slots + rm_q_clear.slots ≤ R.slots) (hn : As.length = 0) (hsz : ls.size = nL) (hst : st0 = As.reverse ++ .ref (base + b) :: rest) (hcat : (rest.map fun v => v.category).sum ≤ 8) (hdg : decode cc pc = .ok (.invokevirtual 68, 3)) (kk : ∀ (H1 : Heap) (locs1 : List Loc), wo_S D cls cA base s w' H1 locs1 → W p l e R s m args below meth c H1 locs1 (cells + rm_q_clear.cells) (slots + rm_q_clear.slots) Q (F0 m (pc + 3) ls (ov.toList ++ rest))) : W p l e R s m args below meth c H locs cells slots Q (F0 m pc ls st0) :=
  wo_callV (C := Rc_q) hx hb hml hown hts hK hG hW hM hkb rfl (gt_of (i := 1382) (by decide +kernel) (by decide +kernel)) (gt_of (i := 1383) (by decide +kernel) (by decide +kernel)) (gt_of (i := 1384) (by decide +kernel) (by decide +kernel)) (gt_of (i := 10) (by decide +kernel) (by decide +kernel)) (gt_of (i := 1385) (by decide +kernel) (by decide +kernel)) (by decide +kernel) hR hf hn hsz hst hcat hdg kk
theorem cs_lw_69 {p : Program} {l : Launch} {e : Env} {R : Room} {s : State} {m : MethodId} {args : Array Value} {below : List Frame} {meth : Method} {c : Code} {H : Heap} {locs : List Loc} {cells slots : Nat} {Q : State → Prop} {D : va_G} {cA : Nat → ClassId} {base : Nat} {w w' : WW} {cc : ByteArray} {pc nL : Nat} {ls : Array Slot} {rest st0 As : List Value} {ov : Option Value} (hx : p.tables.exec = Jvm.exec) (hb : c.code = cc) (hml : c.maxLocals = nL) (hown : s.vm.findClass Rc_lw = some m.cls) (hts : ∀ w ∈ gt, w.before args s = true) (hK : va_K D cls (wo_tys cA) s) (hG : wo_G cA base s) (hW : wo_S D cls cA base s w H locs) (hM : mt l D cls (wo_tys cA) cA base y_lw_parse (Cond.codeWith y_lw_parse b_lw_parse 3 (some .int) hh_lw_parse :: gt) rm_lw_parse As w ov w' rm_lw_parse.cells rm_lw_parse.slots) (hR : rm_lw_parse.frames + 1 ≤ R.frames ∧ 8 + (3 + 11) + rm_lw_parse.locals ≤ R.locals) (hf : cells + rm_lw_parse.cells ≤ R.cells ∧ slots + rm_lw_parse.slots ≤ R.slots) (hn : As.length = 2) (hsz : ls.size = nL) (hst : st0 = As.reverse ++ rest) (hcat : (rest.map fun v => v.category).sum ≤ 8) (hdg : decode cc pc = .ok (.invokestatic 69, 3)) (kk : ∀ (H1 : Heap) (locs1 : List Loc), wo_S D cls cA base s w' H1 locs1 → W p l e R s m args below meth c H1 locs1 (cells + rm_lw_parse.cells) (slots + rm_lw_parse.slots) Q (F0 m (pc + 3) ls (ov.toList ++ rest))) : W p l e R s m args below meth c H locs cells slots Q (F0 m pc ls st0) :=
  wo_callSW hx hb hml hown hts hK hG hW hM (gt_of (i := 479) (by decide +kernel) (by decide +kernel)) (gt_of (i := 480) (by decide +kernel) (by decide +kernel)) (gt_of (i := 0) (by decide +kernel) (by decide +kernel)) (gt_of (i := 481) (by decide +kernel) (by decide +kernel)) (by decide +kernel) hR hf hn hsz hst hcat hdg kk
theorem cv_lw_72 {p : Program} {l : Launch} {e : Env} {R : Room} {s : State} {m : MethodId} {args : Array Value} {below : List Frame} {meth : Method} {c : Code} {H : Heap} {locs : List Loc} {cells slots : Nat} {Q : State → Prop} {D : va_G} {cA : Nat → ClassId} {base : Nat} {w w' : WW} {cc : ByteArray} {pc nL : Nat} {ls : Array Slot} {rest st0 As : List Value} {ov : Option Value} {b : Nat} (hx : p.tables.exec = Jvm.exec) (hb : c.code = cc) (hml : c.maxLocals = nL) (hown : s.vm.findClass Rc_lw = some m.cls) (hts : ∀ w ∈ gt, w.before args s = true) (hK : va_K D cls (wo_tys cA) s) (hG : wo_G cA base s) (hW : wo_S D cls cA base s w H locs) (hM : mt l D cls (wo_tys cA) cA base y_q_parse (Cond.code y_q_parse b_q_parse 1 (some .int) :: gt) rm_q_parse (.ref (base + b) :: As) w ov w' rm_q_parse.cells rm_q_parse.slots) (hkb : kb w b 9 = true) (hR : rm_q_parse.frames + 1 ≤ R.frames ∧ 8 + (1 + 11) + rm_q_parse.locals ≤ R.locals) (hf : cells + rm_q_parse.cells ≤ R.cells ∧ slots + rm_q_parse.slots ≤ R.slots) (hn : As.length = 0) (hsz : ls.size = nL) (hst : st0 = As.reverse ++ .ref (base + b) :: rest) (hcat : (rest.map fun v => v.category).sum ≤ 8) (hdg : decode cc pc = .ok (.invokevirtual 72, 3)) (kk : ∀ (H1 : Heap) (locs1 : List Loc), wo_S D cls cA base s w' H1 locs1 → W p l e R s m args below meth c H1 locs1 (cells + rm_q_parse.cells) (slots + rm_q_parse.slots) Q (F0 m (pc + 3) ls (ov.toList ++ rest))) : W p l e R s m args below meth c H locs cells slots Q (F0 m pc ls st0) :=
  wo_callV (C := Rc_q) hx hb hml hown hts hK hG hW hM hkb rfl (gt_of (i := 1386) (by decide +kernel) (by decide +kernel)) (gt_of (i := 1387) (by decide +kernel) (by decide +kernel)) (gt_of (i := 1388) (by decide +kernel) (by decide +kernel)) (gt_of (i := 10) (by decide +kernel) (by decide +kernel)) (gt_of (i := 1389) (by decide +kernel) (by decide +kernel)) (by decide +kernel) hR hf hn hsz hst hcat hdg kk
theorem cv_lw_73 {p : Program} {l : Launch} {e : Env} {R : Room} {s : State} {m : MethodId} {args : Array Value} {below : List Frame} {meth : Method} {c : Code} {H : Heap} {locs : List Loc} {cells slots : Nat} {Q : State → Prop} {D : va_G} {cA : Nat → ClassId} {base : Nat} {w w' : WW} {cc : ByteArray} {pc nL : Nat} {ls : Array Slot} {rest st0 As : List Value} {ov : Option Value} {b : Nat} (hx : p.tables.exec = Jvm.exec) (hb : c.code = cc) (hml : c.maxLocals = nL) (hown : s.vm.findClass Rc_lw = some m.cls) (hts : ∀ w ∈ gt, w.before args s = true) (hK : va_K D cls (wo_tys cA) s) (hG : wo_G cA base s) (hW : wo_S D cls cA base s w H locs) (hM : mt l D cls (wo_tys cA) cA base y_a_where (Cond.code y_a_where b_a_where 1 (some .int) :: gt) rm_a_where (.ref (base + b) :: As) w ov w' rm_a_where.cells rm_a_where.slots) (hkb : kb w b 0 = true) (hR : rm_a_where.frames + 1 ≤ R.frames ∧ 8 + (1 + 11) + rm_a_where.locals ≤ R.locals) (hf : cells + rm_a_where.cells ≤ R.cells ∧ slots + rm_a_where.slots ≤ R.slots) (hn : As.length = 0) (hsz : ls.size = nL) (hst : st0 = As.reverse ++ .ref (base + b) :: rest) (hcat : (rest.map fun v => v.category).sum ≤ 8) (hdg : decode cc pc = .ok (.invokevirtual 73, 3)) (kk : ∀ (H1 : Heap) (locs1 : List Loc), wo_S D cls cA base s w' H1 locs1 → W p l e R s m args below meth c H1 locs1 (cells + rm_a_where.cells) (slots + rm_a_where.slots) Q (F0 m (pc + 3) ls (ov.toList ++ rest))) : W p l e R s m args below meth c H locs cells slots Q (F0 m pc ls st0) :=
  wo_callV (C := Rc_a) hx hb hml hown hts hK hG hW hM hkb rfl (gt_of (i := 372) (by decide +kernel) (by decide +kernel)) (gt_of (i := 373) (by decide +kernel) (by decide +kernel)) (gt_of (i := 374) (by decide +kernel) (by decide +kernel)) (gt_of (i := 1) (by decide +kernel) (by decide +kernel)) (gt_of (i := 375) (by decide +kernel) (by decide +kernel)) (by decide +kernel) hR hf hn hsz hst hcat hdg kk
theorem cv_lw_76 {p : Program} {l : Launch} {e : Env} {R : Room} {s : State} {m : MethodId} {args : Array Value} {below : List Frame} {meth : Method} {c : Code} {H : Heap} {locs : List Loc} {cells slots : Nat} {Q : State → Prop} {D : va_G} {cA : Nat → ClassId} {base : Nat} {w w' : WW} {cc : ByteArray} {pc nL : Nat} {ls : Array Slot} {rest st0 As : List Value} {ov : Option Value} {b : Nat} (hx : p.tables.exec = Jvm.exec) (hb : c.code = cc) (hml : c.maxLocals = nL) (hown : s.vm.findClass Rc_lw = some m.cls) (hts : ∀ w ∈ gt, w.before args s = true) (hK : va_K D cls (wo_tys cA) s) (hG : wo_G cA base s) (hW : wo_S D cls cA base s w H locs) (hM : mt l D cls (wo_tys cA) cA base y_q_where (Cond.code y_q_where b_q_where 1 (some .int) :: gt) rm_q_where (.ref (base + b) :: As) w ov w' rm_q_where.cells rm_q_where.slots) (hkb : kb w b 9 = true) (hR : rm_q_where.frames + 1 ≤ R.frames ∧ 8 + (1 + 11) + rm_q_where.locals ≤ R.locals) (hf : cells + rm_q_where.cells ≤ R.cells ∧ slots + rm_q_where.slots ≤ R.slots) (hn : As.length = 0) (hsz : ls.size = nL) (hst : st0 = As.reverse ++ .ref (base + b) :: rest) (hcat : (rest.map fun v => v.category).sum ≤ 8) (hdg : decode cc pc = .ok (.invokevirtual 76, 3)) (kk : ∀ (H1 : Heap) (locs1 : List Loc), wo_S D cls cA base s w' H1 locs1 → W p l e R s m args below meth c H1 locs1 (cells + rm_q_where.cells) (slots + rm_q_where.slots) Q (F0 m (pc + 3) ls (ov.toList ++ rest))) : W p l e R s m args below meth c H locs cells slots Q (F0 m pc ls st0) :=
  wo_callV (C := Rc_q) hx hb hml hown hts hK hG hW hM hkb rfl (gt_of (i := 1514) (by decide +kernel) (by decide +kernel)) (gt_of (i := 1515) (by decide +kernel) (by decide +kernel)) (gt_of (i := 1516) (by decide +kernel) (by decide +kernel)) (gt_of (i := 10) (by decide +kernel) (by decide +kernel)) (gt_of (i := 1517) (by decide +kernel) (by decide +kernel)) (by decide +kernel) hR hf hn hsz hst hcat hdg kk
theorem cs_lw_77 {p : Program} {l : Launch} {e : Env} {R : Room} {s : State} {m : MethodId} {args : Array Value} {below : List Frame} {meth : Method} {c : Code} {H : Heap} {locs : List Loc} {cells slots : Nat} {Q : State → Prop} {D : va_G} {cA : Nat → ClassId} {base : Nat} {w w' : WW} {cc : ByteArray} {pc nL : Nat} {ls : Array Slot} {rest st0 As : List Value} {ov : Option Value} (hx : p.tables.exec = Jvm.exec) (hb : c.code = cc) (hml : c.maxLocals = nL) (hown : s.vm.findClass Rc_lw = some m.cls) (hts : ∀ w ∈ gt, w.before args s = true) (hK : va_K D cls (wo_tys cA) s) (hG : wo_G cA base s) (hW : wo_S D cls cA base s w H locs) (hM : mt l D cls (wo_tys cA) cA base y_lw_choose (Cond.codeWith y_lw_choose b_lw_choose 5 (some .int) hh_lw_choose :: gt) rm_lw_choose As w ov w' rm_lw_choose.cells rm_lw_choose.slots) (hR : rm_lw_choose.frames + 1 ≤ R.frames ∧ 8 + (5 + 11) + rm_lw_choose.locals ≤ R.locals) (hf : cells + rm_lw_choose.cells ≤ R.cells ∧ slots + rm_lw_choose.slots ≤ R.slots) (hn : As.length = 4) (hsz : ls.size = nL) (hst : st0 = As.reverse ++ rest) (hcat : (rest.map fun v => v.category).sum ≤ 8) (hdg : decode cc pc = .ok (.invokestatic 77, 3)) (kk : ∀ (H1 : Heap) (locs1 : List Loc), wo_S D cls cA base s w' H1 locs1 → W p l e R s m args below meth c H1 locs1 (cells + rm_lw_choose.cells) (slots + rm_lw_choose.slots) Q (F0 m (pc + 3) ls (ov.toList ++ rest))) : W p l e R s m args below meth c H locs cells slots Q (F0 m pc ls st0) :=
  wo_callSW hx hb hml hown hts hK hG hW hM (gt_of (i := 726) (by decide +kernel) (by decide +kernel)) (gt_of (i := 727) (by decide +kernel) (by decide +kernel)) (gt_of (i := 0) (by decide +kernel) (by decide +kernel)) (gt_of (i := 728) (by decide +kernel) (by decide +kernel)) (by decide +kernel) hR hf hn hsz hst hcat hdg kk
theorem cv_lw_80 {p : Program} {l : Launch} {e : Env} {R : Room} {s : State} {m : MethodId} {args : Array Value} {below : List Frame} {meth : Method} {c : Code} {H : Heap} {locs : List Loc} {cells slots : Nat} {Q : State → Prop} {D : va_G} {cA : Nat → ClassId} {base : Nat} {w w' : WW} {cc : ByteArray} {pc nL : Nat} {ls : Array Slot} {rest st0 As : List Value} {ov : Option Value} {b : Nat} (hx : p.tables.exec = Jvm.exec) (hb : c.code = cc) (hml : c.maxLocals = nL) (hown : s.vm.findClass Rc_lw = some m.cls) (hts : ∀ w ∈ gt, w.before args s = true) (hK : va_K D cls (wo_tys cA) s) (hG : wo_G cA base s) (hW : wo_S D cls cA base s w H locs) (hM : mt l D cls (wo_tys cA) cA base y_q_choose (Cond.code y_q_choose b_q_choose 4 (some .int) :: gt) rm_q_choose (.ref (base + b) :: As) w ov w' rm_q_choose.cells rm_q_choose.slots) (hkb : kb w b 9 = true) (hR : rm_q_choose.frames + 1 ≤ R.frames ∧ 8 + (4 + 11) + rm_q_choose.locals ≤ R.locals) (hf : cells + rm_q_choose.cells ≤ R.cells ∧ slots + rm_q_choose.slots ≤ R.slots) (hn : As.length = 2) (hsz : ls.size = nL) (hst : st0 = As.reverse ++ .ref (base + b) :: rest) (hcat : (rest.map fun v => v.category).sum ≤ 8) (hdg : decode cc pc = .ok (.invokevirtual 80, 3)) (kk : ∀ (H1 : Heap) (locs1 : List Loc), wo_S D cls cA base s w' H1 locs1 → W p l e R s m args below meth c H1 locs1 (cells + rm_q_choose.cells) (slots + rm_q_choose.slots) Q (F0 m (pc + 3) ls (ov.toList ++ rest))) : W p l e R s m args below meth c H locs cells slots Q (F0 m pc ls st0) :=
  wo_callV (C := Rc_q) hx hb hml hown hts hK hG hW hM hkb rfl (gt_of (i := 1518) (by decide +kernel) (by decide +kernel)) (gt_of (i := 1519) (by decide +kernel) (by decide +kernel)) (gt_of (i := 1520) (by decide +kernel) (by decide +kernel)) (gt_of (i := 10) (by decide +kernel) (by decide +kernel)) (gt_of (i := 1521) (by decide +kernel) (by decide +kernel)) (by decide +kernel) hR hf hn hsz hst hcat hdg kk
theorem cs_lw_81 {p : Program} {l : Launch} {e : Env} {R : Room} {s : State} {m : MethodId} {args : Array Value} {below : List Frame} {meth : Method} {c : Code} {H : Heap} {locs : List Loc} {cells slots : Nat} {Q : State → Prop} {D : va_G} {cA : Nat → ClassId} {base : Nat} {w w' : WW} {cc : ByteArray} {pc nL : Nat} {ls : Array Slot} {rest st0 As : List Value} {ov : Option Value} (hx : p.tables.exec = Jvm.exec) (hb : c.code = cc) (hml : c.maxLocals = nL) (hown : s.vm.findClass Rc_lw = some m.cls) (hts : ∀ w ∈ gt, w.before args s = true) (hK : va_K D cls (wo_tys cA) s) (hG : wo_G cA base s) (hW : wo_S D cls cA base s w H locs) (hM : mt l D cls (wo_tys cA) cA base y_lw_input (Cond.codeWith y_lw_input b_lw_input 4 (some .int) hh_lw_input :: gt) rm_lw_input As w ov w' rm_lw_input.cells rm_lw_input.slots) (hR : rm_lw_input.frames + 1 ≤ R.frames ∧ 8 + (4 + 11) + rm_lw_input.locals ≤ R.locals) (hf : cells + rm_lw_input.cells ≤ R.cells ∧ slots + rm_lw_input.slots ≤ R.slots) (hn : As.length = 3) (hsz : ls.size = nL) (hst : st0 = As.reverse ++ rest) (hcat : (rest.map fun v => v.category).sum ≤ 8) (hdg : decode cc pc = .ok (.invokestatic 81, 3)) (kk : ∀ (H1 : Heap) (locs1 : List Loc), wo_S D cls cA base s w' H1 locs1 → W p l e R s m args below meth c H1 locs1 (cells + rm_lw_input.cells) (slots + rm_lw_input.slots) Q (F0 m (pc + 3) ls (ov.toList ++ rest))) : W p l e R s m args below meth c H locs cells slots Q (F0 m pc ls st0) :=
  wo_callSW hx hb hml hown hts hK hG hW hM (gt_of (i := 733) (by decide +kernel) (by decide +kernel)) (gt_of (i := 734) (by decide +kernel) (by decide +kernel)) (gt_of (i := 0) (by decide +kernel) (by decide +kernel)) (gt_of (i := 735) (by decide +kernel) (by decide +kernel)) (by decide +kernel) hR hf hn hsz hst hcat hdg kk
theorem cv_lw_84 {p : Program} {l : Launch} {e : Env} {R : Room} {s : State} {m : MethodId} {args : Array Value} {below : List Frame} {meth : Method} {c : Code} {H : Heap} {locs : List Loc} {cells slots : Nat} {Q : State → Prop} {D : va_G} {cA : Nat → ClassId} {base : Nat} {w w' : WW} {cc : ByteArray} {pc nL : Nat} {ls : Array Slot} {rest st0 As : List Value} {ov : Option Value} {b : Nat} (hx : p.tables.exec = Jvm.exec) (hb : c.code = cc) (hml : c.maxLocals = nL) (hown : s.vm.findClass Rc_lw = some m.cls) (hts : ∀ w ∈ gt, w.before args s = true) (hK : va_K D cls (wo_tys cA) s) (hG : wo_G cA base s) (hW : wo_S D cls cA base s w H locs) (hM : mt l D cls (wo_tys cA) cA base y_q_input (Cond.code y_q_input b_q_input 2 (some .int) :: gt) rm_q_input (.ref (base + b) :: As) w ov w' rm_q_input.cells rm_q_input.slots) (hkb : kb w b 9 = true) (hR : rm_q_input.frames + 1 ≤ R.frames ∧ 8 + (2 + 11) + rm_q_input.locals ≤ R.locals) (hf : cells + rm_q_input.cells ≤ R.cells ∧ slots + rm_q_input.slots ≤ R.slots) (hn : As.length = 1) (hsz : ls.size = nL) (hst : st0 = As.reverse ++ .ref (base + b) :: rest) (hcat : (rest.map fun v => v.category).sum ≤ 8) (hdg : decode cc pc = .ok (.invokevirtual 84, 3)) (kk : ∀ (H1 : Heap) (locs1 : List Loc), wo_S D cls cA base s w' H1 locs1 → W p l e R s m args below meth c H1 locs1 (cells + rm_q_input.cells) (slots + rm_q_input.slots) Q (F0 m (pc + 3) ls (ov.toList ++ rest))) : W p l e R s m args below meth c H locs cells slots Q (F0 m pc ls st0) :=
  wo_callV (C := Rc_q) hx hb hml hown hts hK hG hW hM hkb rfl (gt_of (i := 1523) (by decide +kernel) (by decide +kernel)) (gt_of (i := 1524) (by decide +kernel) (by decide +kernel)) (gt_of (i := 1525) (by decide +kernel) (by decide +kernel)) (gt_of (i := 10) (by decide +kernel) (by decide +kernel)) (gt_of (i := 1526) (by decide +kernel) (by decide +kernel)) (by decide +kernel) hR hf hn hsz hst hcat hdg kk
theorem cv_lw_85 {p : Program} {l : Launch} {e : Env} {R : Room} {s : State} {m : MethodId} {args : Array Value} {below : List Frame} {meth : Method} {c : Code} {H : Heap} {locs : List Loc} {cells slots : Nat} {Q : State → Prop} {D : va_G} {cA : Nat → ClassId} {base : Nat} {w w' : WW} {cc : ByteArray} {pc nL : Nat} {ls : Array Slot} {rest st0 As : List Value} {ov : Option Value} {b : Nat} (hx : p.tables.exec = Jvm.exec) (hb : c.code = cc) (hml : c.maxLocals = nL) (hown : s.vm.findClass Rc_lw = some m.cls) (hts : ∀ w ∈ gt, w.before args s = true) (hK : va_K D cls (wo_tys cA) s) (hG : wo_G cA base s) (hW : wo_S D cls cA base s w H locs) (hM : mt l D cls (wo_tys cA) cA base y_a_forget (Cond.code y_a_forget b_a_forget 2 (some .int) :: gt) rm_a_forget (.ref (base + b) :: As) w ov w' rm_a_forget.cells rm_a_forget.slots) (hkb : kb w b 0 = true) (hR : rm_a_forget.frames + 1 ≤ R.frames ∧ 8 + (2 + 11) + rm_a_forget.locals ≤ R.locals) (hf : cells + rm_a_forget.cells ≤ R.cells ∧ slots + rm_a_forget.slots ≤ R.slots) (hn : As.length = 0) (hsz : ls.size = nL) (hst : st0 = As.reverse ++ .ref (base + b) :: rest) (hcat : (rest.map fun v => v.category).sum ≤ 8) (hdg : decode cc pc = .ok (.invokevirtual 85, 3)) (kk : ∀ (H1 : Heap) (locs1 : List Loc), wo_S D cls cA base s w' H1 locs1 → W p l e R s m args below meth c H1 locs1 (cells + rm_a_forget.cells) (slots + rm_a_forget.slots) Q (F0 m (pc + 3) ls (ov.toList ++ rest))) : W p l e R s m args below meth c H locs cells slots Q (F0 m pc ls st0) :=
  wo_callV (C := Rc_a) hx hb hml hown hts hK hG hW hM hkb rfl (gt_of (i := 376) (by decide +kernel) (by decide +kernel)) (gt_of (i := 377) (by decide +kernel) (by decide +kernel)) (gt_of (i := 378) (by decide +kernel) (by decide +kernel)) (gt_of (i := 1) (by decide +kernel) (by decide +kernel)) (gt_of (i := 379) (by decide +kernel) (by decide +kernel)) (by decide +kernel) hR hf hn hsz hst hcat hdg kk
theorem cv_lw_88 {p : Program} {l : Launch} {e : Env} {R : Room} {s : State} {m : MethodId} {args : Array Value} {below : List Frame} {meth : Method} {c : Code} {H : Heap} {locs : List Loc} {cells slots : Nat} {Q : State → Prop} {D : va_G} {cA : Nat → ClassId} {base : Nat} {w w' : WW} {cc : ByteArray} {pc nL : Nat} {ls : Array Slot} {rest st0 As : List Value} {ov : Option Value} {b : Nat} (hx : p.tables.exec = Jvm.exec) (hb : c.code = cc) (hml : c.maxLocals = nL) (hown : s.vm.findClass Rc_lw = some m.cls) (hts : ∀ w ∈ gt, w.before args s = true) (hK : va_K D cls (wo_tys cA) s) (hG : wo_G cA base s) (hW : wo_S D cls cA base s w H locs) (hM : mt l D cls (wo_tys cA) cA base y_q_forget (Cond.code y_q_forget b_q_forget 2 (some .int) :: gt) rm_q_forget (.ref (base + b) :: As) w ov w' rm_q_forget.cells rm_q_forget.slots) (hkb : kb w b 9 = true) (hR : rm_q_forget.frames + 1 ≤ R.frames ∧ 8 + (2 + 11) + rm_q_forget.locals ≤ R.locals) (hf : cells + rm_q_forget.cells ≤ R.cells ∧ slots + rm_q_forget.slots ≤ R.slots) (hn : As.length = 0) (hsz : ls.size = nL) (hst : st0 = As.reverse ++ .ref (base + b) :: rest) (hcat : (rest.map fun v => v.category).sum ≤ 8) (hdg : decode cc pc = .ok (.invokevirtual 88, 3)) (kk : ∀ (H1 : Heap) (locs1 : List Loc), wo_S D cls cA base s w' H1 locs1 → W p l e R s m args below meth c H1 locs1 (cells + rm_q_forget.cells) (slots + rm_q_forget.slots) Q (F0 m (pc + 3) ls (ov.toList ++ rest))) : W p l e R s m args below meth c H locs cells slots Q (F0 m pc ls st0) :=
  wo_callV (C := Rc_q) hx hb hml hown hts hK hG hW hM hkb rfl (gt_of (i := 1527) (by decide +kernel) (by decide +kernel)) (gt_of (i := 1528) (by decide +kernel) (by decide +kernel)) (gt_of (i := 1529) (by decide +kernel) (by decide +kernel)) (gt_of (i := 10) (by decide +kernel) (by decide +kernel)) (gt_of (i := 1530) (by decide +kernel) (by decide +kernel)) (by decide +kernel) hR hf hn hsz hst hcat hdg kk
theorem cs_lw_89 {p : Program} {l : Launch} {e : Env} {R : Room} {s : State} {m : MethodId} {args : Array Value} {below : List Frame} {meth : Method} {c : Code} {H : Heap} {locs : List Loc} {cells slots : Nat} {Q : State → Prop} {D : va_G} {cA : Nat → ClassId} {base : Nat} {w w' : WW} {cc : ByteArray} {pc nL : Nat} {ls : Array Slot} {rest st0 As : List Value} {ov : Option Value} (hx : p.tables.exec = Jvm.exec) (hb : c.code = cc) (hml : c.maxLocals = nL) (hown : s.vm.findClass Rc_lw = some m.cls) (hts : ∀ w ∈ gt, w.before args s = true) (hK : va_K D cls (wo_tys cA) s) (hG : wo_G cA base s) (hW : wo_S D cls cA base s w H locs) (hM : mt l D cls (wo_tys cA) cA base y_lw_run (Cond.codeWith y_lw_run b_lw_run 4 (some .int) hh_lw_run :: gt) rm_lw_run As w ov w' rm_lw_run.cells rm_lw_run.slots) (hR : rm_lw_run.frames + 1 ≤ R.frames ∧ 8 + (4 + 11) + rm_lw_run.locals ≤ R.locals) (hf : cells + rm_lw_run.cells ≤ R.cells ∧ slots + rm_lw_run.slots ≤ R.slots) (hn : As.length = 3) (hsz : ls.size = nL) (hst : st0 = As.reverse ++ rest) (hcat : (rest.map fun v => v.category).sum ≤ 8) (hdg : decode cc pc = .ok (.invokestatic 89, 3)) (kk : ∀ (H1 : Heap) (locs1 : List Loc), wo_S D cls cA base s w' H1 locs1 → W p l e R s m args below meth c H1 locs1 (cells + rm_lw_run.cells) (slots + rm_lw_run.slots) Q (F0 m (pc + 3) ls (ov.toList ++ rest))) : W p l e R s m args below meth c H locs cells slots Q (F0 m pc ls st0) :=
  wo_callSW hx hb hml hown hts hK hG hW hM (gt_of (i := 744) (by decide +kernel) (by decide +kernel)) (gt_of (i := 745) (by decide +kernel) (by decide +kernel)) (gt_of (i := 0) (by decide +kernel) (by decide +kernel)) (gt_of (i := 746) (by decide +kernel) (by decide +kernel)) (by decide +kernel) hR hf hn hsz hst hcat hdg kk
theorem cv_lw_91 {p : Program} {l : Launch} {e : Env} {R : Room} {s : State} {m : MethodId} {args : Array Value} {below : List Frame} {meth : Method} {c : Code} {H : Heap} {locs : List Loc} {cells slots : Nat} {Q : State → Prop} {D : va_G} {cA : Nat → ClassId} {base : Nat} {w w' : WW} {cc : ByteArray} {pc nL : Nat} {ls : Array Slot} {rest st0 As : List Value} {ov : Option Value} {b : Nat} (hx : p.tables.exec = Jvm.exec) (hb : c.code = cc) (hml : c.maxLocals = nL) (hown : s.vm.findClass Rc_lw = some m.cls) (hts : ∀ w ∈ gt, w.before args s = true) (hK : va_K D cls (wo_tys cA) s) (hG : wo_G cA base s) (hW : wo_S D cls cA base s w H locs) (hM : mt l D cls (wo_tys cA) cA base y_q_run (Cond.code y_q_run b_q_run 2 (some .int) :: gt) rm_q_run (.ref (base + b) :: As) w ov w' rm_q_run.cells rm_q_run.slots) (hkb : kb w b 9 = true) (hR : rm_q_run.frames + 1 ≤ R.frames ∧ 8 + (2 + 11) + rm_q_run.locals ≤ R.locals) (hf : cells + rm_q_run.cells ≤ R.cells ∧ slots + rm_q_run.slots ≤ R.slots) (hn : As.length = 1) (hsz : ls.size = nL) (hst : st0 = As.reverse ++ .ref (base + b) :: rest) (hcat : (rest.map fun v => v.category).sum ≤ 8) (hdg : decode cc pc = .ok (.invokevirtual 91, 3)) (kk : ∀ (H1 : Heap) (locs1 : List Loc), wo_S D cls cA base s w' H1 locs1 → W p l e R s m args below meth c H1 locs1 (cells + rm_q_run.cells) (slots + rm_q_run.slots) Q (F0 m (pc + 3) ls (ov.toList ++ rest))) : W p l e R s m args below meth c H locs cells slots Q (F0 m pc ls st0) :=
  wo_callV (C := Rc_q) hx hb hml hown hts hK hG hW hM hkb rfl (gt_of (i := 1531) (by decide +kernel) (by decide +kernel)) (gt_of (i := 1532) (by decide +kernel) (by decide +kernel)) (gt_of (i := 1533) (by decide +kernel) (by decide +kernel)) (gt_of (i := 10) (by decide +kernel) (by decide +kernel)) (gt_of (i := 1534) (by decide +kernel) (by decide +kernel)) (by decide +kernel) hR hf hn hsz hst hcat hdg kk
theorem cs_lw_92 {p : Program} {l : Launch} {e : Env} {R : Room} {s : State} {m : MethodId} {args : Array Value} {below : List Frame} {meth : Method} {c : Code} {H : Heap} {locs : List Loc} {cells slots : Nat} {Q : State → Prop} {D : va_G} {cA : Nat → ClassId} {base : Nat} {w w' : WW} {cc : ByteArray} {pc nL : Nat} {ls : Array Slot} {rest st0 As : List Value} {ov : Option Value} (hx : p.tables.exec = Jvm.exec) (hb : c.code = cc) (hml : c.maxLocals = nL) (hown : s.vm.findClass Rc_lw = some m.cls) (hts : ∀ w ∈ gt, w.before args s = true) (hK : va_K D cls (wo_tys cA) s) (hG : wo_G cA base s) (hW : wo_S D cls cA base s w H locs) (hM : mt l D cls (wo_tys cA) cA base y_lw_ran (Cond.codeWith y_lw_ran b_lw_ran 4 (some .int) hh_lw_ran :: gt) rm_lw_ran As w ov w' rm_lw_ran.cells rm_lw_ran.slots) (hR : rm_lw_ran.frames + 1 ≤ R.frames ∧ 8 + (4 + 11) + rm_lw_ran.locals ≤ R.locals) (hf : cells + rm_lw_ran.cells ≤ R.cells ∧ slots + rm_lw_ran.slots ≤ R.slots) (hn : As.length = 3) (hsz : ls.size = nL) (hst : st0 = As.reverse ++ rest) (hcat : (rest.map fun v => v.category).sum ≤ 8) (hdg : decode cc pc = .ok (.invokestatic 92, 3)) (kk : ∀ (H1 : Heap) (locs1 : List Loc), wo_S D cls cA base s w' H1 locs1 → W p l e R s m args below meth c H1 locs1 (cells + rm_lw_ran.cells) (slots + rm_lw_ran.slots) Q (F0 m (pc + 3) ls (ov.toList ++ rest))) : W p l e R s m args below meth c H locs cells slots Q (F0 m pc ls st0) :=
  wo_callSW hx hb hml hown hts hK hG hW hM (gt_of (i := 875) (by decide +kernel) (by decide +kernel)) (gt_of (i := 876) (by decide +kernel) (by decide +kernel)) (gt_of (i := 0) (by decide +kernel) (by decide +kernel)) (gt_of (i := 877) (by decide +kernel) (by decide +kernel)) (by decide +kernel) hR hf hn hsz hst hcat hdg kk
theorem cv_lw_94 {p : Program} {l : Launch} {e : Env} {R : Room} {s : State} {m : MethodId} {args : Array Value} {below : List Frame} {meth : Method} {c : Code} {H : Heap} {locs : List Loc} {cells slots : Nat} {Q : State → Prop} {D : va_G} {cA : Nat → ClassId} {base : Nat} {w w' : WW} {cc : ByteArray} {pc nL : Nat} {ls : Array Slot} {rest st0 As : List Value} {ov : Option Value} {b : Nat} (hx : p.tables.exec = Jvm.exec) (hb : c.code = cc) (hml : c.maxLocals = nL) (hown : s.vm.findClass Rc_lw = some m.cls) (hts : ∀ w ∈ gt, w.before args s = true) (hK : va_K D cls (wo_tys cA) s) (hG : wo_G cA base s) (hW : wo_S D cls cA base s w H locs) (hM : mt l D cls (wo_tys cA) cA base y_q_ran (Cond.code y_q_ran b_q_ran 2 (some .int) :: gt) rm_q_ran (.ref (base + b) :: As) w ov w' rm_q_ran.cells rm_q_ran.slots) (hkb : kb w b 9 = true) (hR : rm_q_ran.frames + 1 ≤ R.frames ∧ 8 + (2 + 11) + rm_q_ran.locals ≤ R.locals) (hf : cells + rm_q_ran.cells ≤ R.cells ∧ slots + rm_q_ran.slots ≤ R.slots) (hn : As.length = 1) (hsz : ls.size = nL) (hst : st0 = As.reverse ++ .ref (base + b) :: rest) (hcat : (rest.map fun v => v.category).sum ≤ 8) (hdg : decode cc pc = .ok (.invokevirtual 94, 3)) (kk : ∀ (H1 : Heap) (locs1 : List Loc), wo_S D cls cA base s w' H1 locs1 → W p l e R s m args below meth c H1 locs1 (cells + rm_q_ran.cells) (slots + rm_q_ran.slots) Q (F0 m (pc + 3) ls (ov.toList ++ rest))) : W p l e R s m args below meth c H locs cells slots Q (F0 m pc ls st0) :=
  wo_callV (C := Rc_q) hx hb hml hown hts hK hG hW hM hkb rfl (gt_of (i := 1562) (by decide +kernel) (by decide +kernel)) (gt_of (i := 1563) (by decide +kernel) (by decide +kernel)) (gt_of (i := 1564) (by decide +kernel) (by decide +kernel)) (gt_of (i := 10) (by decide +kernel) (by decide +kernel)) (gt_of (i := 1565) (by decide +kernel) (by decide +kernel)) (by decide +kernel) hR hf hn hsz hst hcat hdg kk
theorem cv_lw_95 {p : Program} {l : Launch} {e : Env} {R : Room} {s : State} {m : MethodId} {args : Array Value} {below : List Frame} {meth : Method} {c : Code} {H : Heap} {locs : List Loc} {cells slots : Nat} {Q : State → Prop} {D : va_G} {cA : Nat → ClassId} {base : Nat} {w w' : WW} {cc : ByteArray} {pc nL : Nat} {ls : Array Slot} {rest st0 As : List Value} {ov : Option Value} {b : Nat} (hx : p.tables.exec = Jvm.exec) (hb : c.code = cc) (hml : c.maxLocals = nL) (hown : s.vm.findClass Rc_lw = some m.cls) (hts : ∀ w ∈ gt, w.before args s = true) (hK : va_K D cls (wo_tys cA) s) (hG : wo_G cA base s) (hW : wo_S D cls cA base s w H locs) (hM : mt l D cls (wo_tys cA) cA base y_q_thrown (Cond.code y_q_thrown b_q_thrown 1 (some .int) :: gt) rm_q_thrown (.ref (base + b) :: As) w ov w' rm_q_thrown.cells rm_q_thrown.slots) (hkb : kb w b 9 = true) (hR : rm_q_thrown.frames + 1 ≤ R.frames ∧ 8 + (1 + 11) + rm_q_thrown.locals ≤ R.locals) (hf : cells + rm_q_thrown.cells ≤ R.cells ∧ slots + rm_q_thrown.slots ≤ R.slots) (hn : As.length = 0) (hsz : ls.size = nL) (hst : st0 = As.reverse ++ .ref (base + b) :: rest) (hcat : (rest.map fun v => v.category).sum ≤ 8) (hdg : decode cc pc = .ok (.invokevirtual 95, 3)) (kk : ∀ (H1 : Heap) (locs1 : List Loc), wo_S D cls cA base s w' H1 locs1 → W p l e R s m args below meth c H1 locs1 (cells + rm_q_thrown.cells) (slots + rm_q_thrown.slots) Q (F0 m (pc + 3) ls (ov.toList ++ rest))) : W p l e R s m args below meth c H locs cells slots Q (F0 m pc ls st0) :=
  wo_callV (C := Rc_q) hx hb hml hown hts hK hG hW hM hkb rfl (gt_of (i := 1365) (by decide +kernel) (by decide +kernel)) (gt_of (i := 1366) (by decide +kernel) (by decide +kernel)) (gt_of (i := 1367) (by decide +kernel) (by decide +kernel)) (gt_of (i := 10) (by decide +kernel) (by decide +kernel)) (gt_of (i := 1368) (by decide +kernel) (by decide +kernel)) (by decide +kernel) hR hf hn hsz hst hcat hdg kk
theorem cs_lw_98 {p : Program} {l : Launch} {e : Env} {R : Room} {s : State} {m : MethodId} {args : Array Value} {below : List Frame} {meth : Method} {c : Code} {H : Heap} {locs : List Loc} {cells slots : Nat} {Q : State → Prop} {D : va_G} {cA : Nat → ClassId} {base : Nat} {w w' : WW} {cc : ByteArray} {pc nL : Nat} {ls : Array Slot} {rest st0 As : List Value} {ov : Option Value} (hx : p.tables.exec = Jvm.exec) (hb : c.code = cc) (hml : c.maxLocals = nL) (hown : s.vm.findClass Rc_lw = some m.cls) (hts : ∀ w ∈ gt, w.before args s = true) (hK : va_K D cls (wo_tys cA) s) (hG : wo_G cA base s) (hW : wo_S D cls cA base s w H locs) (hM : mt l D cls (wo_tys cA) cA base y_lw_analyse (Cond.codeWith y_lw_analyse b_lw_analyse 3 (some .int) hh_lw_analyse :: gt) rm_lw_analyse As w ov w' rm_lw_analyse.cells rm_lw_analyse.slots) (hR : rm_lw_analyse.frames + 1 ≤ R.frames ∧ 8 + (3 + 11) + rm_lw_analyse.locals ≤ R.locals) (hf : cells + rm_lw_analyse.cells ≤ R.cells ∧ slots + rm_lw_analyse.slots ≤ R.slots) (hn : As.length = 2) (hsz : ls.size = nL) (hst : st0 = As.reverse ++ rest) (hcat : (rest.map fun v => v.category).sum ≤ 8) (hdg : decode cc pc = .ok (.invokestatic 98, 3)) (kk : ∀ (H1 : Heap) (locs1 : List Loc), wo_S D cls cA base s w' H1 locs1 → W p l e R s m args below meth c H1 locs1 (cells + rm_lw_analyse.cells) (slots + rm_lw_analyse.slots) Q (F0 m (pc + 3) ls (ov.toList ++ rest))) : W p l e R s m args below meth c H locs cells slots Q (F0 m pc ls st0) :=
  wo_callSW hx hb hml hown hts hK hG hW hM (gt_of (i := 882) (by decide +kernel) (by decide +kernel)) (gt_of (i := 883) (by decide +kernel) (by decide +kernel)) (gt_of (i := 0) (by decide +kernel) (by decide +kernel)) (gt_of (i := 884) (by decide +kernel) (by decide +kernel)) (by decide +kernel) hR hf hn hsz hst hcat hdg kk
theorem cv_lw_100 {p : Program} {l : Launch} {e : Env} {R : Room} {s : State} {m : MethodId} {args : Array Value} {below : List Frame} {meth : Method} {c : Code} {H : Heap} {locs : List Loc} {cells slots : Nat} {Q : State → Prop} {D : va_G} {cA : Nat → ClassId} {base : Nat} {w w' : WW} {cc : ByteArray} {pc nL : Nat} {ls : Array Slot} {rest st0 As : List Value} {ov : Option Value} {b : Nat} (hx : p.tables.exec = Jvm.exec) (hb : c.code = cc) (hml : c.maxLocals = nL) (hown : s.vm.findClass Rc_lw = some m.cls) (hts : ∀ w ∈ gt, w.before args s = true) (hK : va_K D cls (wo_tys cA) s) (hG : wo_G cA base s) (hW : wo_S D cls cA base s w H locs) (hM : mt l D cls (wo_tys cA) cA base y_q_analyse (Cond.code y_q_analyse b_q_analyse 3 (some .int) :: gt) rm_q_analyse (.ref (base + b) :: As) w ov w' rm_q_analyse.cells rm_q_analyse.slots) (hkb : kb w b 9 = true) (hR : rm_q_analyse.frames + 1 ≤ R.frames ∧ 8 + (3 + 11) + rm_q_analyse.locals ≤ R.locals) (hf : cells + rm_q_analyse.cells ≤ R.cells ∧ slots + rm_q_analyse.slots ≤ R.slots) (hn : As.length = 0) (hsz : ls.size = nL) (hst : st0 = As.reverse ++ .ref (base + b) :: rest) (hcat : (rest.map fun v => v.category).sum ≤ 8) (hdg : decode cc pc = .ok (.invokevirtual 100, 3)) (kk : ∀ (H1 : Heap) (locs1 : List Loc), wo_S D cls cA base s w' H1 locs1 → W p l e R s m args below meth c H1 locs1 (cells + rm_q_analyse.cells) (slots + rm_q_analyse.slots) Q (F0 m (pc + 3) ls (ov.toList ++ rest))) : W p l e R s m args below meth c H locs cells slots Q (F0 m pc ls st0) :=
  wo_callV (C := Rc_q) hx hb hml hown hts hK hG hW hM hkb rfl (gt_of (i := 1573) (by decide +kernel) (by decide +kernel)) (gt_of (i := 1574) (by decide +kernel) (by decide +kernel)) (gt_of (i := 1575) (by decide +kernel) (by decide +kernel)) (gt_of (i := 10) (by decide +kernel) (by decide +kernel)) (gt_of (i := 1576) (by decide +kernel) (by decide +kernel)) (by decide +kernel) hR hf hn hsz hst hcat hdg kk
theorem cs_lw_101 {p : Program} {l : Launch} {e : Env} {R : Room} {s : State} {m : MethodId} {args : Array Value} {below : List Frame} {meth : Method} {c : Code} {H : Heap} {locs : List Loc} {cells slots : Nat} {Q : State → Prop} {D : va_G} {cA : Nat → ClassId} {base : Nat} {w w' : WW} {cc : ByteArray} {pc nL : Nat} {ls : Array Slot} {rest st0 As : List Value} {ov : Option Value} (hx : p.tables.exec = Jvm.exec) (hb : c.code = cc) (hml : c.maxLocals = nL) (hown : s.vm.findClass Rc_lw = some m.cls) (hts : ∀ w ∈ gt, w.before args s = true) (hK : va_K D cls (wo_tys cA) s) (hG : wo_G cA base s) (hW : wo_S D cls cA base s w H locs) (hM : mt l D cls (wo_tys cA) cA base y_lw_warning (Cond.codeWith y_lw_warning b_lw_warning 4 (some .int) hh_lw_warning :: gt) rm_lw_warning As w ov w' rm_lw_warning.cells rm_lw_warning.slots) (hR : rm_lw_warning.frames + 1 ≤ R.frames ∧ 8 + (4 + 11) + rm_lw_warning.locals ≤ R.locals) (hf : cells + rm_lw_warning.cells ≤ R.cells ∧ slots + rm_lw_warning.slots ≤ R.slots) (hn : As.length = 3) (hsz : ls.size = nL) (hst : st0 = As.reverse ++ rest) (hcat : (rest.map fun v => v.category).sum ≤ 8) (hdg : decode cc pc = .ok (.invokestatic 101, 3)) (kk : ∀ (H1 : Heap) (locs1 : List Loc), wo_S D cls cA base s w' H1 locs1 → W p l e R s m args below meth c H1 locs1 (cells + rm_lw_warning.cells) (slots + rm_lw_warning.slots) Q (F0 m (pc + 3) ls (ov.toList ++ rest))) : W p l e R s m args below meth c H locs cells slots Q (F0 m pc ls st0) :=
  wo_callSW hx hb hml hown hts hK hG hW hM (gt_of (i := 1120) (by decide +kernel) (by decide +kernel)) (gt_of (i := 1121) (by decide +kernel) (by decide +kernel)) (gt_of (i := 0) (by decide +kernel) (by decide +kernel)) (gt_of (i := 1122) (by decide +kernel) (by decide +kernel)) (by decide +kernel) hR hf hn hsz hst hcat hdg kk
theorem cv_lw_103 {p : Program} {l : Launch} {e : Env} {R : Room} {s : State} {m : MethodId} {args : Array Value} {below : List Frame} {meth : Method} {c : Code} {H : Heap} {locs : List Loc} {cells slots : Nat} {Q : State → Prop} {D : va_G} {cA : Nat → ClassId} {base : Nat} {w w' : WW} {cc : ByteArray} {pc nL : Nat} {ls : Array Slot} {rest st0 As : List Value} {ov : Option Value} {b : Nat} (hx : p.tables.exec = Jvm.exec) (hb : c.code = cc) (hml : c.maxLocals = nL) (hown : s.vm.findClass Rc_lw = some m.cls) (hts : ∀ w ∈ gt, w.before args s = true) (hK : va_K D cls (wo_tys cA) s) (hG : wo_G cA base s) (hW : wo_S D cls cA base s w H locs) (hM : mt l D cls (wo_tys cA) cA base y_q_warning (Cond.code y_q_warning b_q_warning 5 (some .int) :: gt) rm_q_warning (.ref (base + b) :: As) w ov w' rm_q_warning.cells rm_q_warning.slots) (hkb : kb w b 9 = true) (hR : rm_q_warning.frames + 1 ≤ R.frames ∧ 8 + (5 + 11) + rm_q_warning.locals ≤ R.locals) (hf : cells + rm_q_warning.cells ≤ R.cells ∧ slots + rm_q_warning.slots ≤ R.slots) (hn : As.length = 1) (hsz : ls.size = nL) (hst : st0 = As.reverse ++ .ref (base + b) :: rest) (hcat : (rest.map fun v => v.category).sum ≤ 8) (hdg : decode cc pc = .ok (.invokevirtual 103, 3)) (kk : ∀ (H1 : Heap) (locs1 : List Loc), wo_S D cls cA base s w' H1 locs1 → W p l e R s m args below meth c H1 locs1 (cells + rm_q_warning.cells) (slots + rm_q_warning.slots) Q (F0 m (pc + 3) ls (ov.toList ++ rest))) : W p l e R s m args below meth c H locs cells slots Q (F0 m pc ls st0) :=
  wo_callV (C := Rc_q) hx hb hml hown hts hK hG hW hM hkb rfl (gt_of (i := 1720) (by decide +kernel) (by decide +kernel)) (gt_of (i := 1721) (by decide +kernel) (by decide +kernel)) (gt_of (i := 1722) (by decide +kernel) (by decide +kernel)) (gt_of (i := 10) (by decide +kernel) (by decide +kernel)) (gt_of (i := 1723) (by decide +kernel) (by decide +kernel)) (by decide +kernel) hR hf hn hsz hst hcat hdg kk
theorem cs_lw_104 {p : Program} {l : Launch} {e : Env} {R : Room} {s : State} {m : MethodId} {args : Array Value} {below : List Frame} {meth : Method} {c : Code} {H : Heap} {locs : List Loc} {cells slots : Nat} {Q : State → Prop} {D : va_G} {cA : Nat → ClassId} {base : Nat} {w w' : WW} {cc : ByteArray} {pc nL : Nat} {ls : Array Slot} {rest st0 As : List Value} {ov : Option Value} (hx : p.tables.exec = Jvm.exec) (hb : c.code = cc) (hml : c.maxLocals = nL) (hown : s.vm.findClass Rc_lw = some m.cls) (hts : ∀ w ∈ gt, w.before args s = true) (hK : va_K D cls (wo_tys cA) s) (hG : wo_G cA base s) (hW : wo_S D cls cA base s w H locs) (hM : mt l D cls (wo_tys cA) cA base y_lw_left (Cond.codeWith y_lw_left b_lw_left 5 (some .int) hh_lw_left :: gt) rm_lw_left As w ov w' rm_lw_left.cells rm_lw_left.slots) (hR : rm_lw_left.frames + 1 ≤ R.frames ∧ 8 + (5 + 11) + rm_lw_left.locals ≤ R.locals) (hf : cells + rm_lw_left.cells ≤ R.cells ∧ slots + rm_lw_left.slots ≤ R.slots) (hn : As.length = 4) (hsz : ls.size = nL) (hst : st0 = As.reverse ++ rest) (hcat : (rest.map fun v => v.category).sum ≤ 8) (hdg : decode cc pc = .ok (.invokestatic 104, 3)) (kk : ∀ (H1 : Heap) (locs1 : List Loc), wo_S D cls cA base s w' H1 locs1 → W p l e R s m args below meth c H1 locs1 (cells + rm_lw_left.cells) (slots + rm_lw_left.slots) Q (F0 m (pc + 3) ls (ov.toList ++ rest))) : W p l e R s m args below meth c H locs cells slots Q (F0 m pc ls st0) :=
  wo_callSW hx hb hml hown hts hK hG hW hM (gt_of (i := 1133) (by decide +kernel) (by decide +kernel)) (gt_of (i := 1134) (by decide +kernel) (by decide +kernel)) (gt_of (i := 0) (by decide +kernel) (by decide +kernel)) (gt_of (i := 1135) (by decide +kernel) (by decide +kernel)) (by decide +kernel) hR hf hn hsz hst hcat hdg kk
theorem cv_lw_106 {p : Program} {l : Launch} {e : Env} {R : Room} {s : State} {m : MethodId} {args : Array Value} {below : List Frame} {meth : Method} {c : Code} {H : Heap} {locs : List Loc} {cells slots : Nat} {Q : State → Prop} {D : va_G} {cA : Nat → ClassId} {base : Nat} {w w' : WW} {cc : ByteArray} {pc nL : Nat} {ls : Array Slot} {rest st0 As : List Value} {ov : Option Value} {b : Nat} (hx : p.tables.exec = Jvm.exec) (hb : c.code = cc) (hml : c.maxLocals = nL) (hown : s.vm.findClass Rc_lw = some m.cls) (hts : ∀ w ∈ gt, w.before args s = true) (hK : va_K D cls (wo_tys cA) s) (hG : wo_G cA base s) (hW : wo_S D cls cA base s w H locs) (hM : mt l D cls (wo_tys cA) cA base y_q_left_II (Cond.code y_q_left_II b_q_left_II 4 (some .int) :: gt) rm_q_left_II (.ref (base + b) :: As) w ov w' rm_q_left_II.cells rm_q_left_II.slots) (hkb : kb w b 9 = true) (hR : rm_q_left_II.frames + 1 ≤ R.frames ∧ 8 + (4 + 11) + rm_q_left_II.locals ≤ R.locals) (hf : cells + rm_q_left_II.cells ≤ R.cells ∧ slots + rm_q_left_II.slots ≤ R.slots) (hn : As.length = 2) (hsz : ls.size = nL) (hst : st0 = As.reverse ++ .ref (base + b) :: rest) (hcat : (rest.map fun v => v.category).sum ≤ 8) (hdg : decode cc pc = .ok (.invokevirtual 106, 3)) (kk : ∀ (H1 : Heap) (locs1 : List Loc), wo_S D cls cA base s w' H1 locs1 → W p l e R s m args below meth c H1 locs1 (cells + rm_q_left_II.cells) (slots + rm_q_left_II.slots) Q (F0 m (pc + 3) ls (ov.toList ++ rest))) : W p l e R s m args below meth c H locs cells slots Q (F0 m pc ls st0) :=
  wo_callV (C := Rc_q) hx hb hml hown hts hK hG hW hM hkb rfl (gt_of (i := 1724) (by decide +kernel) (by decide +kernel)) (gt_of (i := 1725) (by decide +kernel) (by decide +kernel)) (gt_of (i := 1726) (by decide +kernel) (by decide +kernel)) (gt_of (i := 10) (by decide +kernel) (by decide +kernel)) (gt_of (i := 1727) (by decide +kernel) (by decide +kernel)) (by decide +kernel) hR hf hn hsz hst hcat hdg kk
theorem cs_lw_107 {p : Program} {l : Launch} {e : Env} {R : Room} {s : State} {m : MethodId} {args : Array Value} {below : List Frame} {meth : Method} {c : Code} {H : Heap} {locs : List Loc} {cells slots : Nat} {Q : State → Prop} {D : va_G} {cA : Nat → ClassId} {base : Nat} {w w' : WW} {cc : ByteArray} {pc nL : Nat} {ls : Array Slot} {rest st0 As : List Value} {ov : Option Value} (hx : p.tables.exec = Jvm.exec) (hb : c.code = cc) (hml : c.maxLocals = nL) (hown : s.vm.findClass Rc_lw = some m.cls) (hts : ∀ w ∈ gt, w.before args s = true) (hK : va_K D cls (wo_tys cA) s) (hG : wo_G cA base s) (hW : wo_S D cls cA base s w H locs) (hM : mt l D cls (wo_tys cA) cA base y_lw_count (Cond.codeWith y_lw_count b_lw_count 4 (some .int) hh_lw_count :: gt) rm_lw_count As w ov w' rm_lw_count.cells rm_lw_count.slots) (hR : rm_lw_count.frames + 1 ≤ R.frames ∧ 8 + (4 + 11) + rm_lw_count.locals ≤ R.locals) (hf : cells + rm_lw_count.cells ≤ R.cells ∧ slots + rm_lw_count.slots ≤ R.slots) (hn : As.length = 3) (hsz : ls.size = nL) (hst : st0 = As.reverse ++ rest) (hcat : (rest.map fun v => v.category).sum ≤ 8) (hdg : decode cc pc = .ok (.invokestatic 107, 3)) (kk : ∀ (H1 : Heap) (locs1 : List Loc), wo_S D cls cA base s w' H1 locs1 → W p l e R s m args below meth c H1 locs1 (cells + rm_lw_count.cells) (slots + rm_lw_count.slots) Q (F0 m (pc + 3) ls (ov.toList ++ rest))) : W p l e R s m args below meth c H locs cells slots Q (F0 m pc ls st0) :=
  wo_callSW hx hb hml hown hts hK hG hW hM (gt_of (i := 1146) (by decide +kernel) (by decide +kernel)) (gt_of (i := 1147) (by decide +kernel) (by decide +kernel)) (gt_of (i := 0) (by decide +kernel) (by decide +kernel)) (gt_of (i := 1148) (by decide +kernel) (by decide +kernel)) (by decide +kernel) hR hf hn hsz hst hcat hdg kk
theorem cv_lw_109 {p : Program} {l : Launch} {e : Env} {R : Room} {s : State} {m : MethodId} {args : Array Value} {below : List Frame} {meth : Method} {c : Code} {H : Heap} {locs : List Loc} {cells slots : Nat} {Q : State → Prop} {D : va_G} {cA : Nat → ClassId} {base : Nat} {w w' : WW} {cc : ByteArray} {pc nL : Nat} {ls : Array Slot} {rest st0 As : List Value} {ov : Option Value} {b : Nat} (hx : p.tables.exec = Jvm.exec) (hb : c.code = cc) (hml : c.maxLocals = nL) (hown : s.vm.findClass Rc_lw = some m.cls) (hts : ∀ w ∈ gt, w.before args s = true) (hK : va_K D cls (wo_tys cA) s) (hG : wo_G cA base s) (hW : wo_S D cls cA base s w H locs) (hM : mt l D cls (wo_tys cA) cA base y_q_count (Cond.code y_q_count b_q_count 2 (some .int) :: gt) rm_q_count (.ref (base + b) :: As) w ov w' rm_q_count.cells rm_q_count.slots) (hkb : kb w b 9 = true) (hR : rm_q_count.frames + 1 ≤ R.frames ∧ 8 + (2 + 11) + rm_q_count.locals ≤ R.locals) (hf : cells + rm_q_count.cells ≤ R.cells ∧ slots + rm_q_count.slots ≤ R.slots) (hn : As.length = 1) (hsz : ls.size = nL) (hst : st0 = As.reverse ++ .ref (base + b) :: rest) (hcat : (rest.map fun v => v.category).sum ≤ 8) (hdg : decode cc pc = .ok (.invokevirtual 109, 3)) (kk : ∀ (H1 : Heap) (locs1 : List Loc), wo_S D cls cA base s w' H1 locs1 → W p l e R s m args below meth c H1 locs1 (cells + rm_q_count.cells) (slots + rm_q_count.slots) Q (F0 m (pc + 3) ls (ov.toList ++ rest))) : W p l e R s m args below meth c H locs cells slots Q (F0 m pc ls st0) :=
  wo_callV (C := Rc_q) hx hb hml hown hts hK hG hW hM hkb rfl (gt_of (i := 1730) (by decide +kernel) (by decide +kernel)) (gt_of (i := 1731) (by decide +kernel) (by decide +kernel)) (gt_of (i := 1732) (by decide +kernel) (by decide +kernel)) (gt_of (i := 10) (by decide +kernel) (by decide +kernel)) (gt_of (i := 1733) (by decide +kernel) (by decide +kernel)) (by decide +kernel) hR hf hn hsz hst hcat hdg kk
theorem d_lw_law_23 : decode code 23 = .ok (.iload 4, 2) := by decide +kernel
theorem d_lw_law_25 : decode code 25 = .ok (.aload_n 0, 1) := by decide +kernel
theorem d_lw_law_26 : decode code 26 = .ok (.arraylength, 1) := by decide +kernel
theorem d_lw_law_27 : decode code 27 = .ok (.iconst 3, 1) := by decide +kernel
theorem d_lw_law_28 : decode code 28 = .ok (.isub, 1) := by decide +kernel
theorem d_lw_law_29 : decode code 29 = .ok (.if_icmp .gt (460), 3) := by decide +kernel
theorem d_lw_law_32 : decode code 32 = .ok (.aload_n 0, 1) := by decide +kernel
theorem d_lw_law_33 : decode code 33 = .ok (.iload 4, 2) := by decide +kernel
theorem d_lw_law_35 : decode code 35 = .ok (.iaload, 1) := by decide +kernel
theorem d_lw_law_36 : decode code 36 = .ok (.bipush (15), 2) := by decide +kernel
theorem d_lw_law_38 : decode code 38 = .ok (.iand, 1) := by decide +kernel
theorem d_lw_law_39 : decode code 39 = .ok (.tableswitch (444) (0) (12) #[65, 125, 138, 154, 167, 207, 235, 248, 276, 332, 348, 376, 416], 65) := by decide +kernel
theorem d_lw_law_104 : decode code 104 = .ok (.aload_n 1, 1) := by decide +kernel
theorem d_lw_law_105 : decode code 105 = .ok (.aload_n 0, 1) := by decide +kernel
theorem d_lw_law_106 : decode code 106 = .ok (.iload 4, 2) := by decide +kernel
theorem d_lw_law_108 : decode code 108 = .ok (.iconst 1, 1) := by decide +kernel
theorem d_lw_law_109 : decode code 109 = .ok (.iadd, 1) := by decide +kernel
theorem d_lw_law_110 : decode code 110 = .ok (.iaload, 1) := by decide +kernel
theorem d_lw_law_111 : decode code 111 = .ok (.i2l, 1) := by decide +kernel
theorem d_lw_law_112 : decode code 112 = .ok (.bipush (32), 2) := by decide +kernel
theorem d_lw_law_114 : decode code 114 = .ok (.lshl, 1) := by decide +kernel
theorem d_lw_law_115 : decode code 115 = .ok (.aload_n 0, 1) := by decide +kernel
theorem d_lw_law_116 : decode code 116 = .ok (.iload 4, 2) := by decide +kernel
theorem d_lw_law_118 : decode code 118 = .ok (.iconst 2, 1) := by decide +kernel
theorem d_lw_law_119 : decode code 119 = .ok (.iadd, 1) := by decide +kernel
theorem d_lw_law_120 : decode code 120 = .ok (.iaload, 1) := by decide +kernel
theorem d_lw_law_121 : decode code 121 = .ok (.i2l, 1) := by decide +kernel
theorem d_lw_law_122 : decode code 122 = .ok (.ldc2_w 57, 3) := by decide +kernel
theorem d_lw_law_125 : decode code 125 = .ok (.land, 1) := by decide +kernel
theorem d_lw_law_126 : decode code 126 = .ok (.lor, 1) := by decide +kernel
theorem d_lw_law_127 : decode code 127 = .ok (.aload_n 3, 1) := by decide +kernel
theorem d_lw_law_128 : decode code 128 = .ok (.invokestatic 59, 3) := by decide +kernel
theorem d_lw_law_131 : decode code 131 = .ok (.istore 5, 2) := by decide +kernel
theorem d_lw_law_133 : decode code 133 = .ok (.aload_n 2, 1) := by decide +kernel
theorem d_lw_law_134 : decode code 134 = .ok (.aload_n 0, 1) := by decide +kernel
theorem d_lw_law_135 : decode code 135 = .ok (.iload 4, 2) := by decide +kernel
theorem d_lw_law_137 : decode code 137 = .ok (.iconst 1, 1) := by decide +kernel
theorem d_lw_law_138 : decode code 138 = .ok (.iadd, 1) := by decide +kernel
theorem d_lw_law_139 : decode code 139 = .ok (.iaload, 1) := by decide +kernel
theorem d_lw_law_140 : decode code 140 = .ok (.i2l, 1) := by decide +kernel
theorem d_lw_law_141 : decode code 141 = .ok (.bipush (32), 2) := by decide +kernel
theorem d_lw_law_143 : decode code 143 = .ok (.lshl, 1) := by decide +kernel
theorem d_lw_law_144 : decode code 144 = .ok (.aload_n 0, 1) := by decide +kernel
theorem d_lw_law_145 : decode code 145 = .ok (.iload 4, 2) := by decide +kernel
theorem d_lw_law_147 : decode code 147 = .ok (.iconst 2, 1) := by decide +kernel
theorem d_lw_law_148 : decode code 148 = .ok (.iadd, 1) := by decide +kernel
theorem d_lw_law_149 : decode code 149 = .ok (.iaload, 1) := by decide +kernel
theorem d_lw_law_150 : decode code 150 = .ok (.i2l, 1) := by decide +kernel
theorem d_lw_law_151 : decode code 151 = .ok (.ldc2_w 57, 3) := by decide +kernel
theorem d_lw_law_154 : decode code 154 = .ok (.land, 1) := by decide +kernel
theorem d_lw_law_155 : decode code 155 = .ok (.lor, 1) := by decide +kernel
theorem d_lw_law_156 : decode code 156 = .ok (.invokevirtual 64, 3) := by decide +kernel
theorem d_lw_law_159 : decode code 159 = .ok (.istore 6, 2) := by decide +kernel
theorem d_lw_law_161 : decode code 161 = .ok (.goto (322), 3) := by decide +kernel
theorem d_lw_law_164 : decode code 164 = .ok (.aload_n 1, 1) := by decide +kernel
theorem d_lw_law_165 : decode code 165 = .ok (.invokevirtual 65, 3) := by decide +kernel
theorem d_lw_law_168 : decode code 168 = .ok (.pop, 1) := by decide +kernel
theorem d_lw_law_169 : decode code 169 = .ok (.aload_n 2, 1) := by decide +kernel
theorem d_lw_law_170 : decode code 170 = .ok (.invokevirtual 68, 3) := by decide +kernel
theorem d_lw_law_173 : decode code 173 = .ok (.pop, 1) := by decide +kernel
theorem d_lw_law_174 : decode code 174 = .ok (.goto (309), 3) := by decide +kernel
theorem d_lw_law_177 : decode code 177 = .ok (.aload_n 1, 1) := by decide +kernel
theorem d_lw_law_178 : decode code 178 = .ok (.aload_n 3, 1) := by decide +kernel
theorem d_lw_law_179 : decode code 179 = .ok (.invokestatic 69, 3) := by decide +kernel
theorem d_lw_law_182 : decode code 182 = .ok (.istore 5, 2) := by decide +kernel
theorem d_lw_law_184 : decode code 184 = .ok (.aload_n 2, 1) := by decide +kernel
theorem d_lw_law_185 : decode code 185 = .ok (.invokevirtual 72, 3) := by decide +kernel
theorem d_lw_law_188 : decode code 188 = .ok (.istore 6, 2) := by decide +kernel
theorem d_lw_law_190 : decode code 190 = .ok (.goto (293), 3) := by decide +kernel
theorem d_lw_law_193 : decode code 193 = .ok (.aload_n 1, 1) := by decide +kernel
theorem d_lw_law_194 : decode code 194 = .ok (.invokevirtual 73, 3) := by decide +kernel
theorem d_lw_law_197 : decode code 197 = .ok (.pop, 1) := by decide +kernel
theorem d_lw_law_198 : decode code 198 = .ok (.aload_n 2, 1) := by decide +kernel
theorem d_lw_law_199 : decode code 199 = .ok (.invokevirtual 76, 3) := by decide +kernel
theorem d_lw_law_202 : decode code 202 = .ok (.pop, 1) := by decide +kernel
theorem d_lw_law_203 : decode code 203 = .ok (.goto (280), 3) := by decide +kernel
theorem d_lw_law_206 : decode code 206 = .ok (.aload_n 1, 1) := by decide +kernel
theorem d_lw_law_207 : decode code 207 = .ok (.aload_n 0, 1) := by decide +kernel
theorem d_lw_law_208 : decode code 208 = .ok (.iload 4, 2) := by decide +kernel
theorem d_lw_law_210 : decode code 210 = .ok (.iconst 1, 1) := by decide +kernel
theorem d_lw_law_211 : decode code 211 = .ok (.iadd, 1) := by decide +kernel
theorem d_lw_law_212 : decode code 212 = .ok (.iaload, 1) := by decide +kernel
theorem d_lw_law_213 : decode code 213 = .ok (.aload_n 0, 1) := by decide +kernel
theorem d_lw_law_214 : decode code 214 = .ok (.iload 4, 2) := by decide +kernel
theorem d_lw_law_216 : decode code 216 = .ok (.iconst 2, 1) := by decide +kernel
theorem d_lw_law_217 : decode code 217 = .ok (.iadd, 1) := by decide +kernel
theorem d_lw_law_218 : decode code 218 = .ok (.iaload, 1) := by decide +kernel
theorem d_lw_law_219 : decode code 219 = .ok (.aload_n 3, 1) := by decide +kernel
theorem d_lw_law_220 : decode code 220 = .ok (.invokestatic 77, 3) := by decide +kernel
theorem d_lw_law_223 : decode code 223 = .ok (.istore 5, 2) := by decide +kernel
theorem d_lw_law_225 : decode code 225 = .ok (.aload_n 2, 1) := by decide +kernel
theorem d_lw_law_226 : decode code 226 = .ok (.aload_n 0, 1) := by decide +kernel
theorem d_lw_law_227 : decode code 227 = .ok (.iload 4, 2) := by decide +kernel
theorem d_lw_law_229 : decode code 229 = .ok (.iconst 1, 1) := by decide +kernel
theorem d_lw_law_230 : decode code 230 = .ok (.iadd, 1) := by decide +kernel
theorem d_lw_law_231 : decode code 231 = .ok (.iaload, 1) := by decide +kernel
theorem d_lw_law_232 : decode code 232 = .ok (.aload_n 0, 1) := by decide +kernel
theorem d_lw_law_233 : decode code 233 = .ok (.iload 4, 2) := by decide +kernel
theorem d_lw_law_235 : decode code 235 = .ok (.iconst 2, 1) := by decide +kernel
theorem d_lw_law_236 : decode code 236 = .ok (.iadd, 1) := by decide +kernel
theorem d_lw_law_237 : decode code 237 = .ok (.iaload, 1) := by decide +kernel
theorem d_lw_law_238 : decode code 238 = .ok (.invokevirtual 80, 3) := by decide +kernel
theorem d_lw_law_241 : decode code 241 = .ok (.istore 6, 2) := by decide +kernel
theorem d_lw_law_243 : decode code 243 = .ok (.goto (240), 3) := by decide +kernel
theorem d_lw_law_246 : decode code 246 = .ok (.aload_n 1, 1) := by decide +kernel
theorem d_lw_law_247 : decode code 247 = .ok (.aload_n 0, 1) := by decide +kernel
theorem d_lw_law_248 : decode code 248 = .ok (.iload 4, 2) := by decide +kernel
theorem d_lw_law_250 : decode code 250 = .ok (.iconst 1, 1) := by decide +kernel
theorem d_lw_law_251 : decode code 251 = .ok (.iadd, 1) := by decide +kernel
theorem d_lw_law_252 : decode code 252 = .ok (.iaload, 1) := by decide +kernel
theorem d_lw_law_253 : decode code 253 = .ok (.aload_n 3, 1) := by decide +kernel
theorem d_lw_law_254 : decode code 254 = .ok (.invokestatic 81, 3) := by decide +kernel
theorem d_lw_law_257 : decode code 257 = .ok (.istore 5, 2) := by decide +kernel
theorem d_lw_law_259 : decode code 259 = .ok (.aload_n 2, 1) := by decide +kernel
theorem d_lw_law_260 : decode code 260 = .ok (.aload_n 0, 1) := by decide +kernel
theorem d_lw_law_261 : decode code 261 = .ok (.iload 4, 2) := by decide +kernel
theorem d_lw_law_263 : decode code 263 = .ok (.iconst 1, 1) := by decide +kernel
theorem d_lw_law_264 : decode code 264 = .ok (.iadd, 1) := by decide +kernel
theorem d_lw_law_265 : decode code 265 = .ok (.iaload, 1) := by decide +kernel
theorem d_lw_law_266 : decode code 266 = .ok (.invokevirtual 84, 3) := by decide +kernel
theorem d_lw_law_269 : decode code 269 = .ok (.istore 6, 2) := by decide +kernel
theorem d_lw_law_271 : decode code 271 = .ok (.goto (212), 3) := by decide +kernel
theorem d_lw_law_274 : decode code 274 = .ok (.aload_n 1, 1) := by decide +kernel
theorem d_lw_law_275 : decode code 275 = .ok (.invokevirtual 85, 3) := by decide +kernel
theorem d_lw_law_278 : decode code 278 = .ok (.pop, 1) := by decide +kernel
theorem d_lw_law_279 : decode code 279 = .ok (.aload_n 2, 1) := by decide +kernel
theorem d_lw_law_280 : decode code 280 = .ok (.invokevirtual 88, 3) := by decide +kernel
theorem d_lw_law_283 : decode code 283 = .ok (.pop, 1) := by decide +kernel
theorem d_lw_law_284 : decode code 284 = .ok (.goto (199), 3) := by decide +kernel
theorem d_lw_law_287 : decode code 287 = .ok (.aload_n 1, 1) := by decide +kernel
theorem d_lw_law_288 : decode code 288 = .ok (.aload_n 0, 1) := by decide +kernel
theorem d_lw_law_289 : decode code 289 = .ok (.iload 4, 2) := by decide +kernel
theorem d_lw_law_291 : decode code 291 = .ok (.iconst 1, 1) := by decide +kernel
theorem d_lw_law_292 : decode code 292 = .ok (.iadd, 1) := by decide +kernel
theorem d_lw_law_293 : decode code 293 = .ok (.iaload, 1) := by decide +kernel
theorem d_lw_law_294 : decode code 294 = .ok (.aload_n 3, 1) := by decide +kernel
theorem d_lw_law_295 : decode code 295 = .ok (.invokestatic 89, 3) := by decide +kernel
theorem d_lw_law_298 : decode code 298 = .ok (.istore 5, 2) := by decide +kernel
theorem d_lw_law_300 : decode code 300 = .ok (.aload_n 2, 1) := by decide +kernel
theorem d_lw_law_301 : decode code 301 = .ok (.aload_n 0, 1) := by decide +kernel
theorem d_lw_law_302 : decode code 302 = .ok (.iload 4, 2) := by decide +kernel
theorem d_lw_law_304 : decode code 304 = .ok (.iconst 1, 1) := by decide +kernel
theorem d_lw_law_305 : decode code 305 = .ok (.iadd, 1) := by decide +kernel
theorem d_lw_law_306 : decode code 306 = .ok (.iaload, 1) := by decide +kernel
theorem d_lw_law_307 : decode code 307 = .ok (.invokevirtual 91, 3) := by decide +kernel
theorem d_lw_law_310 : decode code 310 = .ok (.istore 6, 2) := by decide +kernel
theorem d_lw_law_312 : decode code 312 = .ok (.goto (171), 3) := by decide +kernel
theorem d_lw_law_315 : decode code 315 = .ok (.aload_n 1, 1) := by decide +kernel
theorem d_lw_law_316 : decode code 316 = .ok (.aload_n 0, 1) := by decide +kernel
theorem d_lw_law_317 : decode code 317 = .ok (.iload 4, 2) := by decide +kernel
theorem d_lw_law_319 : decode code 319 = .ok (.iconst 1, 1) := by decide +kernel
theorem d_lw_law_320 : decode code 320 = .ok (.iadd, 1) := by decide +kernel
theorem d_lw_law_321 : decode code 321 = .ok (.iaload, 1) := by decide +kernel
theorem d_lw_law_322 : decode code 322 = .ok (.aload_n 3, 1) := by decide +kernel
theorem d_lw_law_323 : decode code 323 = .ok (.invokestatic 92, 3) := by decide +kernel
theorem d_lw_law_326 : decode code 326 = .ok (.istore 5, 2) := by decide +kernel
theorem d_lw_law_328 : decode code 328 = .ok (.aload_n 2, 1) := by decide +kernel
theorem d_lw_law_329 : decode code 329 = .ok (.aload_n 0, 1) := by decide +kernel
theorem d_lw_law_330 : decode code 330 = .ok (.iload 4, 2) := by decide +kernel
theorem d_lw_law_332 : decode code 332 = .ok (.iconst 1, 1) := by decide +kernel
theorem d_lw_law_333 : decode code 333 = .ok (.iadd, 1) := by decide +kernel
theorem d_lw_law_334 : decode code 334 = .ok (.iaload, 1) := by decide +kernel
theorem d_lw_law_335 : decode code 335 = .ok (.invokevirtual 94, 3) := by decide +kernel
theorem d_lw_law_338 : decode code 338 = .ok (.istore 6, 2) := by decide +kernel
theorem d_lw_law_340 : decode code 340 = .ok (.aload_n 2, 1) := by decide +kernel
theorem d_lw_law_341 : decode code 341 = .ok (.invokevirtual 95, 3) := by decide +kernel
theorem d_lw_law_344 : decode code 344 = .ok (.iload 5, 2) := by decide +kernel
theorem d_lw_law_346 : decode code 346 = .ok (.if_icmp .eq (5), 3) := by decide +kernel
theorem d_lw_law_349 : decode code 349 = .ok (.iconst 0, 1) := by decide +kernel
theorem d_lw_law_350 : decode code 350 = .ok (.ireturn, 1) := by decide +kernel
theorem d_lw_law_351 : decode code 351 = .ok (.iload 5, 2) := by decide +kernel
theorem d_lw_law_353 : decode code 353 = .ok (.ifCond .ne (15), 3) := by decide +kernel
theorem d_lw_law_356 : decode code 356 = .ok (.aload_n 3, 1) := by decide +kernel
theorem d_lw_law_357 : decode code 357 = .ok (.iconst 0, 1) := by decide +kernel
theorem d_lw_law_358 : decode code 358 = .ok (.laload, 1) := by decide +kernel
theorem d_lw_law_359 : decode code 359 = .ok (.iload 6, 2) := by decide +kernel
theorem d_lw_law_361 : decode code 361 = .ok (.i2l, 1) := by decide +kernel
theorem d_lw_law_362 : decode code 362 = .ok (.lcmp, 1) := by decide +kernel
theorem d_lw_law_363 : decode code 363 = .ok (.ifCond .eq (5), 3) := by decide +kernel
theorem d_lw_law_366 : decode code 366 = .ok (.iconst 0, 1) := by decide +kernel
theorem d_lw_law_367 : decode code 367 = .ok (.ireturn, 1) := by decide +kernel
theorem d_lw_law_368 : decode code 368 = .ok (.goto (115), 3) := by decide +kernel
theorem d_lw_law_371 : decode code 371 = .ok (.aload_n 1, 1) := by decide +kernel
theorem d_lw_law_372 : decode code 372 = .ok (.aload_n 3, 1) := by decide +kernel
theorem d_lw_law_373 : decode code 373 = .ok (.invokestatic 98, 3) := by decide +kernel
theorem d_lw_law_376 : decode code 376 = .ok (.istore 5, 2) := by decide +kernel
theorem d_lw_law_378 : decode code 378 = .ok (.aload_n 2, 1) := by decide +kernel
theorem d_lw_law_379 : decode code 379 = .ok (.invokevirtual 100, 3) := by decide +kernel
theorem d_lw_law_382 : decode code 382 = .ok (.istore 6, 2) := by decide +kernel
theorem d_lw_law_384 : decode code 384 = .ok (.goto (99), 3) := by decide +kernel
theorem d_lw_law_387 : decode code 387 = .ok (.aload_n 1, 1) := by decide +kernel
theorem d_lw_law_388 : decode code 388 = .ok (.aload_n 0, 1) := by decide +kernel
theorem d_lw_law_389 : decode code 389 = .ok (.iload 4, 2) := by decide +kernel
theorem d_lw_law_391 : decode code 391 = .ok (.iconst 1, 1) := by decide +kernel
theorem d_lw_law_392 : decode code 392 = .ok (.iadd, 1) := by decide +kernel
theorem d_lw_law_393 : decode code 393 = .ok (.iaload, 1) := by decide +kernel
theorem d_lw_law_394 : decode code 394 = .ok (.aload_n 3, 1) := by decide +kernel
theorem d_lw_law_395 : decode code 395 = .ok (.invokestatic 101, 3) := by decide +kernel
theorem d_lw_law_398 : decode code 398 = .ok (.istore 5, 2) := by decide +kernel
theorem d_lw_law_400 : decode code 400 = .ok (.aload_n 2, 1) := by decide +kernel
theorem d_lw_law_401 : decode code 401 = .ok (.aload_n 0, 1) := by decide +kernel
theorem d_lw_law_402 : decode code 402 = .ok (.iload 4, 2) := by decide +kernel
theorem d_lw_law_404 : decode code 404 = .ok (.iconst 1, 1) := by decide +kernel
theorem d_lw_law_405 : decode code 405 = .ok (.iadd, 1) := by decide +kernel
theorem d_lw_law_406 : decode code 406 = .ok (.iaload, 1) := by decide +kernel
theorem d_lw_law_407 : decode code 407 = .ok (.invokevirtual 103, 3) := by decide +kernel
theorem d_lw_law_410 : decode code 410 = .ok (.istore 6, 2) := by decide +kernel
theorem d_lw_law_412 : decode code 412 = .ok (.goto (71), 3) := by decide +kernel
theorem d_lw_law_415 : decode code 415 = .ok (.aload_n 1, 1) := by decide +kernel
theorem d_lw_law_416 : decode code 416 = .ok (.aload_n 0, 1) := by decide +kernel
theorem d_lw_law_417 : decode code 417 = .ok (.iload 4, 2) := by decide +kernel
theorem d_lw_law_419 : decode code 419 = .ok (.iconst 1, 1) := by decide +kernel
theorem d_lw_law_420 : decode code 420 = .ok (.iadd, 1) := by decide +kernel
theorem d_lw_law_421 : decode code 421 = .ok (.iaload, 1) := by decide +kernel
theorem d_lw_law_422 : decode code 422 = .ok (.aload_n 0, 1) := by decide +kernel
theorem d_lw_law_423 : decode code 423 = .ok (.iload 4, 2) := by decide +kernel
theorem d_lw_law_425 : decode code 425 = .ok (.iconst 2, 1) := by decide +kernel
theorem d_lw_law_426 : decode code 426 = .ok (.iadd, 1) := by decide +kernel
theorem d_lw_law_427 : decode code 427 = .ok (.iaload, 1) := by decide +kernel
theorem d_lw_law_428 : decode code 428 = .ok (.aload_n 3, 1) := by decide +kernel
theorem d_lw_law_429 : decode code 429 = .ok (.invokestatic 104, 3) := by decide +kernel
theorem d_lw_law_432 : decode code 432 = .ok (.istore 5, 2) := by decide +kernel
theorem d_lw_law_434 : decode code 434 = .ok (.aload_n 2, 1) := by decide +kernel
theorem d_lw_law_435 : decode code 435 = .ok (.aload_n 0, 1) := by decide +kernel
theorem d_lw_law_436 : decode code 436 = .ok (.iload 4, 2) := by decide +kernel
theorem d_lw_law_438 : decode code 438 = .ok (.iconst 1, 1) := by decide +kernel
theorem d_lw_law_439 : decode code 439 = .ok (.iadd, 1) := by decide +kernel
theorem d_lw_law_440 : decode code 440 = .ok (.iaload, 1) := by decide +kernel
theorem d_lw_law_441 : decode code 441 = .ok (.aload_n 0, 1) := by decide +kernel
theorem d_lw_law_442 : decode code 442 = .ok (.iload 4, 2) := by decide +kernel
theorem d_lw_law_444 : decode code 444 = .ok (.iconst 2, 1) := by decide +kernel
theorem d_lw_law_445 : decode code 445 = .ok (.iadd, 1) := by decide +kernel
theorem d_lw_law_446 : decode code 446 = .ok (.iaload, 1) := by decide +kernel
theorem d_lw_law_447 : decode code 447 = .ok (.invokevirtual 106, 3) := by decide +kernel
theorem d_lw_law_450 : decode code 450 = .ok (.istore 6, 2) := by decide +kernel
theorem d_lw_law_452 : decode code 452 = .ok (.goto (31), 3) := by decide +kernel
theorem d_lw_law_455 : decode code 455 = .ok (.aload_n 1, 1) := by decide +kernel
theorem d_lw_law_456 : decode code 456 = .ok (.aload_n 0, 1) := by decide +kernel
theorem d_lw_law_457 : decode code 457 = .ok (.iload 4, 2) := by decide +kernel
theorem d_lw_law_459 : decode code 459 = .ok (.iconst 1, 1) := by decide +kernel
theorem d_lw_law_460 : decode code 460 = .ok (.iadd, 1) := by decide +kernel
theorem d_lw_law_461 : decode code 461 = .ok (.iaload, 1) := by decide +kernel
theorem d_lw_law_462 : decode code 462 = .ok (.aload_n 3, 1) := by decide +kernel
theorem d_lw_law_463 : decode code 463 = .ok (.invokestatic 107, 3) := by decide +kernel
theorem d_lw_law_466 : decode code 466 = .ok (.istore 5, 2) := by decide +kernel
theorem d_lw_law_468 : decode code 468 = .ok (.aload_n 2, 1) := by decide +kernel
theorem d_lw_law_469 : decode code 469 = .ok (.aload_n 0, 1) := by decide +kernel
theorem d_lw_law_470 : decode code 470 = .ok (.iload 4, 2) := by decide +kernel
theorem d_lw_law_472 : decode code 472 = .ok (.iconst 1, 1) := by decide +kernel
theorem d_lw_law_473 : decode code 473 = .ok (.iadd, 1) := by decide +kernel
theorem d_lw_law_474 : decode code 474 = .ok (.iaload, 1) := by decide +kernel
theorem d_lw_law_475 : decode code 475 = .ok (.invokevirtual 109, 3) := by decide +kernel
theorem d_lw_law_478 : decode code 478 = .ok (.istore 6, 2) := by decide +kernel
theorem d_lw_law_480 : decode code 480 = .ok (.goto (3), 3) := by decide +kernel
theorem d_lw_law_483 : decode code 483 = .ok (.iinc 4 (3), 3) := by decide +kernel
theorem d_lw_law_486 : decode code 486 = .ok (.goto (-463), 3) := by decide +kernel
theorem d_lw_law_489 : decode code 489 = .ok (.iconst 1, 1) := by decide +kernel
theorem d_lw_law_490 : decode code 490 = .ok (.ireturn, 1) := by decide +kernel
set_option maxHeartbeats 40000000 in
set_option maxRecDepth 100000 in
theorem j_lw_loop {p : Program} {l : Launch} {e : Env} {s : State} {m : MethodId} {below : List Frame} {meth : Method} {c : Code} (hst : l.stackTraces = false) {b L : Nat} {xs : Nat → Int32} (C0 : lw_At p s m meth c b L xs) {D : va_G} {cA : Nat → ClassId} {base : Nat} (hbb : b < base) (hbs : s.heap.size ≤ base) (hK : va_K D cls (wo_tys cA) s) (hG : wo_G cA base s) {w' : WW} : ∀ n : Nat, ∀ (y1 y2 y3 : Nat) (y4 : Int32) (w : WW), f_lw_loop L xs n y1 y2 y3 y4 w = some ((1 : Int32), w') → ∀ (k : Nat) (H : Heap) (locs : List Loc) (ls : Array Slot), wo_S D cls cA base s w H locs → lv_has ls 7 [(0, .ref b), (1, .ref (base + y1)), (2, .ref (base + y2)), (3, .ref (base + y3)), (4, .int y4)] → k + n ≤ 520 → W p l e room_1 s m #[Value.ref b] below meth c H locs (417 + k) (542100 + 6 * k) (lw_Z below #[Value.ref b] s) (F0 m 23 ls []) := by
  obtain ⟨hx, hb, hr, hml, hown, hts0, hX, hbl, hlk, hgv⟩ := id C0
  have hts : ∀ w ∈ gt, w.before #[Value.ref b] s = true := fun w hw => hts0 w (List.mem_filter.mp hw).1
  intro n
  induction n with
  | zero => intro y1 y2 y3 y4 w h; cases h
  | succ n ih =>
    intro y1 y2 y3 y4 w h k H locs ls hW hl hk
    rw [f_lw_loop] at h
    refine lv_iload hx hb d_lw_law_23 (lv_at hl 4 rfl) ?_
    refine lv_aload_n hx hb d_lw_law_25 rfl (lv_at hl 0 rfl) ?_
    refine wo_slen hx hb hX hbl hbb hW d_lw_law_26 ?_
    refine lv_iconst (v := (3 : Int32)) hx hb d_lw_law_27 (by decide) ?_
    refine lv_isub hx hb d_lw_law_28 ?_
    refine lv_icmp_gt (tgt := 489) hx hb d_lw_law_29 (by decide) (fun c1 => ?_) (fun c1 => ?_)
    · rw [if_pos c1] at h
      refine lv_iconst (v := (1 : Int32)) hx hb d_lw_law_489 (by decide) ?_
      refine va_forget (fun q hq => Nat.le_trans hbs (hW.2.1.2.2 q hq)) ?_
      refine W.widen (k := 601024) (n := 7293034) (by omega) (by omega) ?_
      exact lw_ret hx hb hr hlk d_lw_law_490
    · rw [if_neg c1] at h
      refine lv_aload_n hx hb d_lw_law_32 rfl (lv_at hl 0 rfl) ?_
      refine lv_iload hx hb d_lw_law_33 (lv_at hl 4 rfl) ?_
      replace h := bs h
      obtain ⟨x2, hx2, h⟩ := h
      refine wo_sld hx hb hX hbl hbb hW hx2 d_lw_law_35 ?_
      refine lv_bipush (v := (15 : Int32)) hx hb d_lw_law_36 (by decide) ?_
      refine lv_iand hx hb d_lw_law_38 ?_
      by_cases c3 : (x2 &&& (15 : Int32)) = (0 : Int32)
      · rw [if_pos c3] at h
        refine lv_tableIn (off := 65) (tgt := 104) hx hb d_lw_law_39 (by rw [c3]; decide) (by rw [c3]; decide) (by rw [c3]; rfl) (by decide) ?_
        refine lv_aload_n hx hb d_lw_law_104 rfl (lv_at hl 1 rfl) ?_
        refine lv_aload_n hx hb d_lw_law_105 rfl (lv_at hl 0 rfl) ?_
        refine lv_iload hx hb d_lw_law_106 (lv_at hl 4 rfl) ?_
        refine lv_iconst (v := (1 : Int32)) hx hb d_lw_law_108 (by decide) ?_
        refine lv_iadd hx hb d_lw_law_109 ?_
        replace h := bs h
        obtain ⟨x4, hx4, h⟩ := h
        refine wo_sld hx hb hX hbl hbb hW hx4 d_lw_law_110 ?_
        refine lv_i2l hx hb d_lw_law_111 rfl ?_
        refine lv_bipush (v := (32 : Int32)) hx hb d_lw_law_112 (by decide) ?_
        refine lv_lshl hx hb d_lw_law_114 rfl ?_
        refine lv_aload_n hx hb d_lw_law_115 rfl (lv_at hl 0 rfl) ?_
        refine lv_iload hx hb d_lw_law_116 (lv_at hl 4 rfl) ?_
        refine lv_iconst (v := (2 : Int32)) hx hb d_lw_law_118 (by decide) ?_
        refine lv_iadd hx hb d_lw_law_119 ?_
        replace h := bs h
        obtain ⟨x5, hx5, h⟩ := h
        refine wo_sld hx hb hX hbl hbb hW hx5 d_lw_law_120 ?_
        refine lv_i2l hx hb d_lw_law_121 rfl ?_
        refine lv_ldc2 (own := Rc_lw) (v := (4294967295 : Int64)) hx hb hown (hts (.constantLong "AlarmForgeLaw" 57 (4294967295 : Int64)) (gt_of (i := 1735) (by decide +kernel) (by decide +kernel))) d_lw_law_122 ?_
        refine lv_land hx hb d_lw_law_125 ?_
        refine lv_lor hx hb d_lw_law_126 ?_
        refine lv_aload_n hx hb d_lw_law_127 rfl (lv_at hl 3 rfl) ?_
        replace h := bs2 h
        obtain ⟨x6, w7, hw7, h⟩ := h
        refine cs_lw_59 (As := [.ref (base + y1), .long (((Int32.toInt64 x4) <<< (Int32.toInt64 (32 : Int32) &&& 63)) ||| ((Int32.toInt64 x5) &&& (4294967295 : Int64))), .ref (base + y3)]) (rest := []) hx hb hml hown hts hK hG hW (c_lw_text l hst D cA base hw7) ⟨Nat.le_of_ble_eq_true rfl, Nat.le_of_ble_eq_true rfl⟩ ⟨by show 417 + k + 1 ≤ 601024; omega, by show 542100 + 6 * k + 6 ≤ 7293034; omega⟩ rfl hl.1 rfl (Nat.le_of_ble_eq_true rfl) d_lw_law_128 (fun H locs hW => ?_)
        refine W.widen (k := 417 + (k + 1)) (n := 542100 + 6 * (k + 1)) (by show 417 + k + 1 ≤ 417 + (k + 1); omega) (by show 542100 + 6 * k + 6 ≤ 542100 + 6 * (k + 1); omega) ?_
        refine lv_istore (lv' := [(5, .int x6), (0, .ref b), (1, .ref (base + y1)), (2, .ref (base + y2)), (3, .ref (base + y3)), (4, .int y4)]) hx hb d_lw_law_131 hl (by decide) rfl (fun ls hl => ?_)
        refine lv_aload_n hx hb d_lw_law_133 rfl (lv_at hl 3 rfl) ?_
        refine lv_aload_n hx hb d_lw_law_134 rfl (lv_at hl 1 rfl) ?_
        refine lv_iload hx hb d_lw_law_135 (lv_at hl 5 rfl) ?_
        refine lv_iconst (v := (1 : Int32)) hx hb d_lw_law_137 (by decide) ?_
        refine lv_iadd hx hb d_lw_law_138 ?_
        replace h := bs h
        obtain ⟨x8, hx8, h⟩ := h
        refine wo_sld hx hb hX hbl hbb hW hx8 d_lw_law_139 ?_
        refine lv_i2l hx hb d_lw_law_140 rfl ?_
        refine lv_bipush (v := (32 : Int32)) hx hb d_lw_law_141 (by decide) ?_
        refine lv_lshl hx hb d_lw_law_143 rfl ?_
        refine lv_aload_n hx hb d_lw_law_144 rfl (lv_at hl 1 rfl) ?_
        refine lv_iload hx hb d_lw_law_145 (lv_at hl 5 rfl) ?_
        refine lv_iconst (v := (2 : Int32)) hx hb d_lw_law_147 (by decide) ?_
        refine lv_iadd hx hb d_lw_law_148 ?_
        replace h := bs h
        obtain ⟨x9, hx9, h⟩ := h
        refine wo_sld hx hb hX hbl hbb hW hx9 d_lw_law_149 ?_
        refine lv_i2l hx hb d_lw_law_150 rfl ?_
        refine lv_ldc2 (own := Rc_lw) (v := (4294967295 : Int64)) hx hb hown (hts (.constantLong "AlarmForgeLaw" 57 (4294967295 : Int64)) (gt_of (i := 1735) (by decide +kernel) (by decide +kernel))) d_lw_law_151 ?_
        refine lv_land hx hb d_lw_law_154 ?_
        refine lv_lor hx hb d_lw_law_155 ?_
        replace h := bs2 h
        obtain ⟨x10, w11, hw11, h⟩ := h
        refine cv_lw_64 (As := [.long (((Int32.toInt64 x8) <<< (Int32.toInt64 (32 : Int32) &&& 63)) ||| ((Int32.toInt64 x9) &&& (4294967295 : Int64)))]) (rest := []) hx hb hml hown hts hK hG hW (c_q_text l D cA base hw11) (kb_q_text hw11) ⟨Nat.le_of_ble_eq_true rfl, Nat.le_of_ble_eq_true rfl⟩ ⟨by show 417 + (k + 1) + 0 ≤ 601024; omega, by show 542100 + 6 * (k + 1) + 0 ≤ 7293034; omega⟩ rfl hl.1 rfl (Nat.le_of_ble_eq_true rfl) d_lw_law_156 (fun H locs hW => ?_)
        refine W.widen (k := 417 + (k + 1)) (n := 542100 + 6 * (k + 1)) (by show 417 + (k + 1) + 0 ≤ 417 + (k + 1); omega) (by show 542100 + 6 * (k + 1) + 0 ≤ 542100 + 6 * (k + 1); omega) ?_
        refine lv_istore (lv' := [(6, .int x10), (5, .int x6), (0, .ref b), (1, .ref (base + y1)), (2, .ref (base + y2)), (3, .ref (base + y3)), (4, .int y4)]) hx hb d_lw_law_159 hl (by decide) rfl (fun ls hl => ?_)
        refine lv_goto (tgt := 483) hx hb d_lw_law_161 (by decide) ?_
        refine lv_iinc (v := (y4 + (3 : Int32))) (lv' := [(4, .int (y4 + (3 : Int32))), (6, .int x10), (5, .int x6), (0, .ref b), (1, .ref (base + y1)), (2, .ref (base + y2)), (3, .ref (base + y3))]) hx hb d_lw_law_483 hl (k := 6) rfl rfl (by decide) rfl (fun ls hl => ?_)
        refine lv_goto (tgt := 23) hx hb d_lw_law_486 (by decide) ?_
        exact ih y1 y2 y3 (y4 + (3 : Int32)) w11 h (k + 1) _ _ _ hW (lv_sub hl [3, 4, 5, 6, 0] rfl) (by omega)
      · rw [if_neg c3] at h
        by_cases c12 : (x2 &&& (15 : Int32)) = (1 : Int32)
        · rw [if_pos c12] at h
          refine lv_tableIn (off := 125) (tgt := 164) hx hb d_lw_law_39 (by rw [c12]; decide) (by rw [c12]; decide) (by rw [c12]; rfl) (by decide) ?_
          refine lv_aload_n hx hb d_lw_law_164 rfl (lv_at hl 1 rfl) ?_
          replace h := bs2 h
          obtain ⟨x13, w14, hw14, h⟩ := h
          refine cv_lw_65 (As := []) (rest := []) hx hb hml hown hts hK hG hW (c_a_clear l D cA base hw14) (kb_a_clear hw14) ⟨Nat.le_of_ble_eq_true rfl, Nat.le_of_ble_eq_true rfl⟩ ⟨by show 417 + k + 0 ≤ 601024; omega, by show 542100 + 6 * k + 0 ≤ 7293034; omega⟩ rfl hl.1 rfl (Nat.le_of_ble_eq_true rfl) d_lw_law_165 (fun H locs hW => ?_)
          refine W.widen (k := 417 + (k + 1)) (n := 542100 + 6 * (k + 1)) (by show 417 + k + 0 ≤ 417 + (k + 1); omega) (by show 542100 + 6 * k + 0 ≤ 542100 + 6 * (k + 1); omega) ?_
          refine lv_pop hx hb d_lw_law_168 rfl ?_
          refine lv_aload_n hx hb d_lw_law_169 rfl (lv_at hl 2 rfl) ?_
          replace h := bs2 h
          obtain ⟨x15, w16, hw16, h⟩ := h
          refine cv_lw_68 (As := []) (rest := []) hx hb hml hown hts hK hG hW (c_q_clear l D cA base hw16) (kb_q_clear hw16) ⟨Nat.le_of_ble_eq_true rfl, Nat.le_of_ble_eq_true rfl⟩ ⟨by show 417 + (k + 1) + 0 ≤ 601024; omega, by show 542100 + 6 * (k + 1) + 0 ≤ 7293034; omega⟩ rfl hl.1 rfl (Nat.le_of_ble_eq_true rfl) d_lw_law_170 (fun H locs hW => ?_)
          refine W.widen (k := 417 + (k + 1)) (n := 542100 + 6 * (k + 1)) (by show 417 + (k + 1) + 0 ≤ 417 + (k + 1); omega) (by show 542100 + 6 * (k + 1) + 0 ≤ 542100 + 6 * (k + 1); omega) ?_
          refine lv_pop hx hb d_lw_law_173 rfl ?_
          refine lv_goto (tgt := 483) hx hb d_lw_law_174 (by decide) ?_
          refine lv_iinc (v := (y4 + (3 : Int32))) (lv' := [(4, .int (y4 + (3 : Int32))), (0, .ref b), (1, .ref (base + y1)), (2, .ref (base + y2)), (3, .ref (base + y3))]) hx hb d_lw_law_483 hl (k := 4) rfl rfl (by decide) rfl (fun ls hl => ?_)
          refine lv_goto (tgt := 23) hx hb d_lw_law_486 (by decide) ?_
          exact ih y1 y2 y3 (y4 + (3 : Int32)) w16 h (k + 1) _ _ _ hW (lv_sub hl [1, 2, 3, 4, 0] rfl) (by omega)
        · rw [if_neg c12] at h
          by_cases c17 : (x2 &&& (15 : Int32)) = (2 : Int32)
          · rw [if_pos c17] at h
            refine lv_tableIn (off := 138) (tgt := 177) hx hb d_lw_law_39 (by rw [c17]; decide) (by rw [c17]; decide) (by rw [c17]; rfl) (by decide) ?_
            refine lv_aload_n hx hb d_lw_law_177 rfl (lv_at hl 1 rfl) ?_
            refine lv_aload_n hx hb d_lw_law_178 rfl (lv_at hl 3 rfl) ?_
            replace h := bs2 h
            obtain ⟨x18, w19, hw19, h⟩ := h
            refine cs_lw_69 (As := [.ref (base + y1), .ref (base + y3)]) (rest := []) hx hb hml hown hts hK hG hW (c_lw_parse l hst D cA base hw19) ⟨Nat.le_of_ble_eq_true rfl, Nat.le_of_ble_eq_true rfl⟩ ⟨by show 417 + k + 1 ≤ 601024; omega, by show 542100 + 6 * k + 6 ≤ 7293034; omega⟩ rfl hl.1 rfl (Nat.le_of_ble_eq_true rfl) d_lw_law_179 (fun H locs hW => ?_)
            refine W.widen (k := 417 + (k + 1)) (n := 542100 + 6 * (k + 1)) (by show 417 + k + 1 ≤ 417 + (k + 1); omega) (by show 542100 + 6 * k + 6 ≤ 542100 + 6 * (k + 1); omega) ?_
            refine lv_istore (lv' := [(5, .int x18), (0, .ref b), (1, .ref (base + y1)), (2, .ref (base + y2)), (3, .ref (base + y3)), (4, .int y4)]) hx hb d_lw_law_182 hl (by decide) rfl (fun ls hl => ?_)
            refine lv_aload_n hx hb d_lw_law_184 rfl (lv_at hl 3 rfl) ?_
            replace h := bs2 h
            obtain ⟨x20, w21, hw21, h⟩ := h
            refine cv_lw_72 (As := []) (rest := []) hx hb hml hown hts hK hG hW (c_q_parse l D cA base hw21) (kb_q_parse hw21) ⟨Nat.le_of_ble_eq_true rfl, Nat.le_of_ble_eq_true rfl⟩ ⟨by show 417 + (k + 1) + 0 ≤ 601024; omega, by show 542100 + 6 * (k + 1) + 0 ≤ 7293034; omega⟩ rfl hl.1 rfl (Nat.le_of_ble_eq_true rfl) d_lw_law_185 (fun H locs hW => ?_)
            refine W.widen (k := 417 + (k + 1)) (n := 542100 + 6 * (k + 1)) (by show 417 + (k + 1) + 0 ≤ 417 + (k + 1); omega) (by show 542100 + 6 * (k + 1) + 0 ≤ 542100 + 6 * (k + 1); omega) ?_
            refine lv_istore (lv' := [(6, .int x20), (5, .int x18), (0, .ref b), (1, .ref (base + y1)), (2, .ref (base + y2)), (3, .ref (base + y3)), (4, .int y4)]) hx hb d_lw_law_188 hl (by decide) rfl (fun ls hl => ?_)
            refine lv_goto (tgt := 483) hx hb d_lw_law_190 (by decide) ?_
            refine lv_iinc (v := (y4 + (3 : Int32))) (lv' := [(4, .int (y4 + (3 : Int32))), (6, .int x20), (5, .int x18), (0, .ref b), (1, .ref (base + y1)), (2, .ref (base + y2)), (3, .ref (base + y3))]) hx hb d_lw_law_483 hl (k := 6) rfl rfl (by decide) rfl (fun ls hl => ?_)
            refine lv_goto (tgt := 23) hx hb d_lw_law_486 (by decide) ?_
            exact ih y1 y2 y3 (y4 + (3 : Int32)) w21 h (k + 1) _ _ _ hW (lv_sub hl [3, 4, 5, 6, 0] rfl) (by omega)
          · rw [if_neg c17] at h
            by_cases c22 : (x2 &&& (15 : Int32)) = (3 : Int32)
            · rw [if_pos c22] at h
              refine lv_tableIn (off := 154) (tgt := 193) hx hb d_lw_law_39 (by rw [c22]; decide) (by rw [c22]; decide) (by rw [c22]; rfl) (by decide) ?_
              refine lv_aload_n hx hb d_lw_law_193 rfl (lv_at hl 1 rfl) ?_
              replace h := bs2 h
              obtain ⟨x23, w24, hw24, h⟩ := h
              refine cv_lw_73 (As := []) (rest := []) hx hb hml hown hts hK hG hW (c_a_where l D cA base hw24) (kb_a_where hw24) ⟨Nat.le_of_ble_eq_true rfl, Nat.le_of_ble_eq_true rfl⟩ ⟨by show 417 + k + 0 ≤ 601024; omega, by show 542100 + 6 * k + 0 ≤ 7293034; omega⟩ rfl hl.1 rfl (Nat.le_of_ble_eq_true rfl) d_lw_law_194 (fun H locs hW => ?_)
              refine W.widen (k := 417 + (k + 1)) (n := 542100 + 6 * (k + 1)) (by show 417 + k + 0 ≤ 417 + (k + 1); omega) (by show 542100 + 6 * k + 0 ≤ 542100 + 6 * (k + 1); omega) ?_
              refine lv_pop hx hb d_lw_law_197 rfl ?_
              refine lv_aload_n hx hb d_lw_law_198 rfl (lv_at hl 2 rfl) ?_
              replace h := bs2 h
              obtain ⟨x25, w26, hw26, h⟩ := h
              refine cv_lw_76 (As := []) (rest := []) hx hb hml hown hts hK hG hW (c_q_where l D cA base hw26) (kb_q_where hw26) ⟨Nat.le_of_ble_eq_true rfl, Nat.le_of_ble_eq_true rfl⟩ ⟨by show 417 + (k + 1) + 0 ≤ 601024; omega, by show 542100 + 6 * (k + 1) + 0 ≤ 7293034; omega⟩ rfl hl.1 rfl (Nat.le_of_ble_eq_true rfl) d_lw_law_199 (fun H locs hW => ?_)
              refine W.widen (k := 417 + (k + 1)) (n := 542100 + 6 * (k + 1)) (by show 417 + (k + 1) + 0 ≤ 417 + (k + 1); omega) (by show 542100 + 6 * (k + 1) + 0 ≤ 542100 + 6 * (k + 1); omega) ?_
              refine lv_pop hx hb d_lw_law_202 rfl ?_
              refine lv_goto (tgt := 483) hx hb d_lw_law_203 (by decide) ?_
              refine lv_iinc (v := (y4 + (3 : Int32))) (lv' := [(4, .int (y4 + (3 : Int32))), (0, .ref b), (1, .ref (base + y1)), (2, .ref (base + y2)), (3, .ref (base + y3))]) hx hb d_lw_law_483 hl (k := 4) rfl rfl (by decide) rfl (fun ls hl => ?_)
              refine lv_goto (tgt := 23) hx hb d_lw_law_486 (by decide) ?_
              exact ih y1 y2 y3 (y4 + (3 : Int32)) w26 h (k + 1) _ _ _ hW (lv_sub hl [1, 2, 3, 4, 0] rfl) (by omega)
            · rw [if_neg c22] at h
              by_cases c27 : (x2 &&& (15 : Int32)) = (4 : Int32)
              · rw [if_pos c27] at h
                refine lv_tableIn (off := 167) (tgt := 206) hx hb d_lw_law_39 (by rw [c27]; decide) (by rw [c27]; decide) (by rw [c27]; rfl) (by decide) ?_
                refine lv_aload_n hx hb d_lw_law_206 rfl (lv_at hl 1 rfl) ?_
                refine lv_aload_n hx hb d_lw_law_207 rfl (lv_at hl 0 rfl) ?_
                refine lv_iload hx hb d_lw_law_208 (lv_at hl 4 rfl) ?_
                refine lv_iconst (v := (1 : Int32)) hx hb d_lw_law_210 (by decide) ?_
                refine lv_iadd hx hb d_lw_law_211 ?_
                replace h := bs h
                obtain ⟨x28, hx28, h⟩ := h
                refine wo_sld hx hb hX hbl hbb hW hx28 d_lw_law_212 ?_
                refine lv_aload_n hx hb d_lw_law_213 rfl (lv_at hl 0 rfl) ?_
                refine lv_iload hx hb d_lw_law_214 (lv_at hl 4 rfl) ?_
                refine lv_iconst (v := (2 : Int32)) hx hb d_lw_law_216 (by decide) ?_
                refine lv_iadd hx hb d_lw_law_217 ?_
                replace h := bs h
                obtain ⟨x29, hx29, h⟩ := h
                refine wo_sld hx hb hX hbl hbb hW hx29 d_lw_law_218 ?_
                refine lv_aload_n hx hb d_lw_law_219 rfl (lv_at hl 3 rfl) ?_
                replace h := bs2 h
                obtain ⟨x30, w31, hw31, h⟩ := h
                refine cs_lw_77 (As := [.ref (base + y1), .int x28, .int x29, .ref (base + y3)]) (rest := []) hx hb hml hown hts hK hG hW (c_lw_choose l hst D cA base hw31) ⟨Nat.le_of_ble_eq_true rfl, Nat.le_of_ble_eq_true rfl⟩ ⟨by show 417 + k + 1 ≤ 601024; omega, by show 542100 + 6 * k + 6 ≤ 7293034; omega⟩ rfl hl.1 rfl (Nat.le_of_ble_eq_true rfl) d_lw_law_220 (fun H locs hW => ?_)
                refine W.widen (k := 417 + (k + 1)) (n := 542100 + 6 * (k + 1)) (by show 417 + k + 1 ≤ 417 + (k + 1); omega) (by show 542100 + 6 * k + 6 ≤ 542100 + 6 * (k + 1); omega) ?_
                refine lv_istore (lv' := [(5, .int x30), (0, .ref b), (1, .ref (base + y1)), (2, .ref (base + y2)), (3, .ref (base + y3)), (4, .int y4)]) hx hb d_lw_law_223 hl (by decide) rfl (fun ls hl => ?_)
                refine lv_aload_n hx hb d_lw_law_225 rfl (lv_at hl 3 rfl) ?_
                refine lv_aload_n hx hb d_lw_law_226 rfl (lv_at hl 1 rfl) ?_
                refine lv_iload hx hb d_lw_law_227 (lv_at hl 5 rfl) ?_
                refine lv_iconst (v := (1 : Int32)) hx hb d_lw_law_229 (by decide) ?_
                refine lv_iadd hx hb d_lw_law_230 ?_
                replace h := bs h
                obtain ⟨x32, hx32, h⟩ := h
                refine wo_sld hx hb hX hbl hbb hW hx32 d_lw_law_231 ?_
                refine lv_aload_n hx hb d_lw_law_232 rfl (lv_at hl 1 rfl) ?_
                refine lv_iload hx hb d_lw_law_233 (lv_at hl 5 rfl) ?_
                refine lv_iconst (v := (2 : Int32)) hx hb d_lw_law_235 (by decide) ?_
                refine lv_iadd hx hb d_lw_law_236 ?_
                replace h := bs h
                obtain ⟨x33, hx33, h⟩ := h
                refine wo_sld hx hb hX hbl hbb hW hx33 d_lw_law_237 ?_
                replace h := bs2 h
                obtain ⟨x34, w35, hw35, h⟩ := h
                refine cv_lw_80 (As := [.int x32, .int x33]) (rest := []) hx hb hml hown hts hK hG hW (c_q_choose l D cA base hw35) (kb_q_choose hw35) ⟨Nat.le_of_ble_eq_true rfl, Nat.le_of_ble_eq_true rfl⟩ ⟨by show 417 + (k + 1) + 0 ≤ 601024; omega, by show 542100 + 6 * (k + 1) + 0 ≤ 7293034; omega⟩ rfl hl.1 rfl (Nat.le_of_ble_eq_true rfl) d_lw_law_238 (fun H locs hW => ?_)
                refine W.widen (k := 417 + (k + 1)) (n := 542100 + 6 * (k + 1)) (by show 417 + (k + 1) + 0 ≤ 417 + (k + 1); omega) (by show 542100 + 6 * (k + 1) + 0 ≤ 542100 + 6 * (k + 1); omega) ?_
                refine lv_istore (lv' := [(6, .int x34), (5, .int x30), (0, .ref b), (1, .ref (base + y1)), (2, .ref (base + y2)), (3, .ref (base + y3)), (4, .int y4)]) hx hb d_lw_law_241 hl (by decide) rfl (fun ls hl => ?_)
                refine lv_goto (tgt := 483) hx hb d_lw_law_243 (by decide) ?_
                refine lv_iinc (v := (y4 + (3 : Int32))) (lv' := [(4, .int (y4 + (3 : Int32))), (6, .int x34), (5, .int x30), (0, .ref b), (1, .ref (base + y1)), (2, .ref (base + y2)), (3, .ref (base + y3))]) hx hb d_lw_law_483 hl (k := 6) rfl rfl (by decide) rfl (fun ls hl => ?_)
                refine lv_goto (tgt := 23) hx hb d_lw_law_486 (by decide) ?_
                exact ih y1 y2 y3 (y4 + (3 : Int32)) w35 h (k + 1) _ _ _ hW (lv_sub hl [3, 4, 5, 6, 0] rfl) (by omega)
              · rw [if_neg c27] at h
                by_cases c36 : (x2 &&& (15 : Int32)) = (5 : Int32)
                · rw [if_pos c36] at h
                  refine lv_tableIn (off := 207) (tgt := 246) hx hb d_lw_law_39 (by rw [c36]; decide) (by rw [c36]; decide) (by rw [c36]; rfl) (by decide) ?_
                  refine lv_aload_n hx hb d_lw_law_246 rfl (lv_at hl 1 rfl) ?_
                  refine lv_aload_n hx hb d_lw_law_247 rfl (lv_at hl 0 rfl) ?_
                  refine lv_iload hx hb d_lw_law_248 (lv_at hl 4 rfl) ?_
                  refine lv_iconst (v := (1 : Int32)) hx hb d_lw_law_250 (by decide) ?_
                  refine lv_iadd hx hb d_lw_law_251 ?_
                  replace h := bs h
                  obtain ⟨x37, hx37, h⟩ := h
                  refine wo_sld hx hb hX hbl hbb hW hx37 d_lw_law_252 ?_
                  refine lv_aload_n hx hb d_lw_law_253 rfl (lv_at hl 3 rfl) ?_
                  replace h := bs2 h
                  obtain ⟨x38, w39, hw39, h⟩ := h
                  refine cs_lw_81 (As := [.ref (base + y1), .int x37, .ref (base + y3)]) (rest := []) hx hb hml hown hts hK hG hW (c_lw_input l hst D cA base hw39) ⟨Nat.le_of_ble_eq_true rfl, Nat.le_of_ble_eq_true rfl⟩ ⟨by show 417 + k + 1 ≤ 601024; omega, by show 542100 + 6 * k + 6 ≤ 7293034; omega⟩ rfl hl.1 rfl (Nat.le_of_ble_eq_true rfl) d_lw_law_254 (fun H locs hW => ?_)
                  refine W.widen (k := 417 + (k + 1)) (n := 542100 + 6 * (k + 1)) (by show 417 + k + 1 ≤ 417 + (k + 1); omega) (by show 542100 + 6 * k + 6 ≤ 542100 + 6 * (k + 1); omega) ?_
                  refine lv_istore (lv' := [(5, .int x38), (0, .ref b), (1, .ref (base + y1)), (2, .ref (base + y2)), (3, .ref (base + y3)), (4, .int y4)]) hx hb d_lw_law_257 hl (by decide) rfl (fun ls hl => ?_)
                  refine lv_aload_n hx hb d_lw_law_259 rfl (lv_at hl 3 rfl) ?_
                  refine lv_aload_n hx hb d_lw_law_260 rfl (lv_at hl 1 rfl) ?_
                  refine lv_iload hx hb d_lw_law_261 (lv_at hl 5 rfl) ?_
                  refine lv_iconst (v := (1 : Int32)) hx hb d_lw_law_263 (by decide) ?_
                  refine lv_iadd hx hb d_lw_law_264 ?_
                  replace h := bs h
                  obtain ⟨x40, hx40, h⟩ := h
                  refine wo_sld hx hb hX hbl hbb hW hx40 d_lw_law_265 ?_
                  replace h := bs2 h
                  obtain ⟨x41, w42, hw42, h⟩ := h
                  refine cv_lw_84 (As := [.int x40]) (rest := []) hx hb hml hown hts hK hG hW (c_q_input l D cA base hw42) (kb_q_input hw42) ⟨Nat.le_of_ble_eq_true rfl, Nat.le_of_ble_eq_true rfl⟩ ⟨by show 417 + (k + 1) + 0 ≤ 601024; omega, by show 542100 + 6 * (k + 1) + 0 ≤ 7293034; omega⟩ rfl hl.1 rfl (Nat.le_of_ble_eq_true rfl) d_lw_law_266 (fun H locs hW => ?_)
                  refine W.widen (k := 417 + (k + 1)) (n := 542100 + 6 * (k + 1)) (by show 417 + (k + 1) + 0 ≤ 417 + (k + 1); omega) (by show 542100 + 6 * (k + 1) + 0 ≤ 542100 + 6 * (k + 1); omega) ?_
                  refine lv_istore (lv' := [(6, .int x41), (5, .int x38), (0, .ref b), (1, .ref (base + y1)), (2, .ref (base + y2)), (3, .ref (base + y3)), (4, .int y4)]) hx hb d_lw_law_269 hl (by decide) rfl (fun ls hl => ?_)
                  refine lv_goto (tgt := 483) hx hb d_lw_law_271 (by decide) ?_
                  refine lv_iinc (v := (y4 + (3 : Int32))) (lv' := [(4, .int (y4 + (3 : Int32))), (6, .int x41), (5, .int x38), (0, .ref b), (1, .ref (base + y1)), (2, .ref (base + y2)), (3, .ref (base + y3))]) hx hb d_lw_law_483 hl (k := 6) rfl rfl (by decide) rfl (fun ls hl => ?_)
                  refine lv_goto (tgt := 23) hx hb d_lw_law_486 (by decide) ?_
                  exact ih y1 y2 y3 (y4 + (3 : Int32)) w42 h (k + 1) _ _ _ hW (lv_sub hl [3, 4, 5, 6, 0] rfl) (by omega)
                · rw [if_neg c36] at h
                  by_cases c43 : (x2 &&& (15 : Int32)) = (6 : Int32)
                  · rw [if_pos c43] at h
                    refine lv_tableIn (off := 235) (tgt := 274) hx hb d_lw_law_39 (by rw [c43]; decide) (by rw [c43]; decide) (by rw [c43]; rfl) (by decide) ?_
                    refine lv_aload_n hx hb d_lw_law_274 rfl (lv_at hl 1 rfl) ?_
                    replace h := bs2 h
                    obtain ⟨x44, w45, hw45, h⟩ := h
                    refine cv_lw_85 (As := []) (rest := []) hx hb hml hown hts hK hG hW (c_a_forget l D cA base hw45) (kb_a_forget hw45) ⟨Nat.le_of_ble_eq_true rfl, Nat.le_of_ble_eq_true rfl⟩ ⟨by show 417 + k + 0 ≤ 601024; omega, by show 542100 + 6 * k + 0 ≤ 7293034; omega⟩ rfl hl.1 rfl (Nat.le_of_ble_eq_true rfl) d_lw_law_275 (fun H locs hW => ?_)
                    refine W.widen (k := 417 + (k + 1)) (n := 542100 + 6 * (k + 1)) (by show 417 + k + 0 ≤ 417 + (k + 1); omega) (by show 542100 + 6 * k + 0 ≤ 542100 + 6 * (k + 1); omega) ?_
                    refine lv_pop hx hb d_lw_law_278 rfl ?_
                    refine lv_aload_n hx hb d_lw_law_279 rfl (lv_at hl 2 rfl) ?_
                    replace h := bs2 h
                    obtain ⟨x46, w47, hw47, h⟩ := h
                    refine cv_lw_88 (As := []) (rest := []) hx hb hml hown hts hK hG hW (c_q_forget l D cA base hw47) (kb_q_forget hw47) ⟨Nat.le_of_ble_eq_true rfl, Nat.le_of_ble_eq_true rfl⟩ ⟨by show 417 + (k + 1) + 0 ≤ 601024; omega, by show 542100 + 6 * (k + 1) + 0 ≤ 7293034; omega⟩ rfl hl.1 rfl (Nat.le_of_ble_eq_true rfl) d_lw_law_280 (fun H locs hW => ?_)
                    refine W.widen (k := 417 + (k + 1)) (n := 542100 + 6 * (k + 1)) (by show 417 + (k + 1) + 0 ≤ 417 + (k + 1); omega) (by show 542100 + 6 * (k + 1) + 0 ≤ 542100 + 6 * (k + 1); omega) ?_
                    refine lv_pop hx hb d_lw_law_283 rfl ?_
                    refine lv_goto (tgt := 483) hx hb d_lw_law_284 (by decide) ?_
                    refine lv_iinc (v := (y4 + (3 : Int32))) (lv' := [(4, .int (y4 + (3 : Int32))), (0, .ref b), (1, .ref (base + y1)), (2, .ref (base + y2)), (3, .ref (base + y3))]) hx hb d_lw_law_483 hl (k := 4) rfl rfl (by decide) rfl (fun ls hl => ?_)
                    refine lv_goto (tgt := 23) hx hb d_lw_law_486 (by decide) ?_
                    exact ih y1 y2 y3 (y4 + (3 : Int32)) w47 h (k + 1) _ _ _ hW (lv_sub hl [1, 2, 3, 4, 0] rfl) (by omega)
                  · rw [if_neg c43] at h
                    by_cases c48 : (x2 &&& (15 : Int32)) = (7 : Int32)
                    · rw [if_pos c48] at h
                      refine lv_tableIn (off := 248) (tgt := 287) hx hb d_lw_law_39 (by rw [c48]; decide) (by rw [c48]; decide) (by rw [c48]; rfl) (by decide) ?_
                      refine lv_aload_n hx hb d_lw_law_287 rfl (lv_at hl 1 rfl) ?_
                      refine lv_aload_n hx hb d_lw_law_288 rfl (lv_at hl 0 rfl) ?_
                      refine lv_iload hx hb d_lw_law_289 (lv_at hl 4 rfl) ?_
                      refine lv_iconst (v := (1 : Int32)) hx hb d_lw_law_291 (by decide) ?_
                      refine lv_iadd hx hb d_lw_law_292 ?_
                      replace h := bs h
                      obtain ⟨x49, hx49, h⟩ := h
                      refine wo_sld hx hb hX hbl hbb hW hx49 d_lw_law_293 ?_
                      refine lv_aload_n hx hb d_lw_law_294 rfl (lv_at hl 3 rfl) ?_
                      replace h := bs2 h
                      obtain ⟨x50, w51, hw51, h⟩ := h
                      refine cs_lw_89 (As := [.ref (base + y1), .int x49, .ref (base + y3)]) (rest := []) hx hb hml hown hts hK hG hW (c_lw_run l hst D cA base hw51) ⟨Nat.le_of_ble_eq_true rfl, Nat.le_of_ble_eq_true rfl⟩ ⟨by show 417 + k + 1 ≤ 601024; omega, by show 542100 + 6 * k + 6 ≤ 7293034; omega⟩ rfl hl.1 rfl (Nat.le_of_ble_eq_true rfl) d_lw_law_295 (fun H locs hW => ?_)
                      refine W.widen (k := 417 + (k + 1)) (n := 542100 + 6 * (k + 1)) (by show 417 + k + 1 ≤ 417 + (k + 1); omega) (by show 542100 + 6 * k + 6 ≤ 542100 + 6 * (k + 1); omega) ?_
                      refine lv_istore (lv' := [(5, .int x50), (0, .ref b), (1, .ref (base + y1)), (2, .ref (base + y2)), (3, .ref (base + y3)), (4, .int y4)]) hx hb d_lw_law_298 hl (by decide) rfl (fun ls hl => ?_)
                      refine lv_aload_n hx hb d_lw_law_300 rfl (lv_at hl 3 rfl) ?_
                      refine lv_aload_n hx hb d_lw_law_301 rfl (lv_at hl 1 rfl) ?_
                      refine lv_iload hx hb d_lw_law_302 (lv_at hl 5 rfl) ?_
                      refine lv_iconst (v := (1 : Int32)) hx hb d_lw_law_304 (by decide) ?_
                      refine lv_iadd hx hb d_lw_law_305 ?_
                      replace h := bs h
                      obtain ⟨x52, hx52, h⟩ := h
                      refine wo_sld hx hb hX hbl hbb hW hx52 d_lw_law_306 ?_
                      replace h := bs2 h
                      obtain ⟨x53, w54, hw54, h⟩ := h
                      refine cv_lw_91 (As := [.int x52]) (rest := []) hx hb hml hown hts hK hG hW (c_q_run l D cA base hw54) (kb_q_run hw54) ⟨Nat.le_of_ble_eq_true rfl, Nat.le_of_ble_eq_true rfl⟩ ⟨by show 417 + (k + 1) + 0 ≤ 601024; omega, by show 542100 + 6 * (k + 1) + 0 ≤ 7293034; omega⟩ rfl hl.1 rfl (Nat.le_of_ble_eq_true rfl) d_lw_law_307 (fun H locs hW => ?_)
                      refine W.widen (k := 417 + (k + 1)) (n := 542100 + 6 * (k + 1)) (by show 417 + (k + 1) + 0 ≤ 417 + (k + 1); omega) (by show 542100 + 6 * (k + 1) + 0 ≤ 542100 + 6 * (k + 1); omega) ?_
                      refine lv_istore (lv' := [(6, .int x53), (5, .int x50), (0, .ref b), (1, .ref (base + y1)), (2, .ref (base + y2)), (3, .ref (base + y3)), (4, .int y4)]) hx hb d_lw_law_310 hl (by decide) rfl (fun ls hl => ?_)
                      refine lv_goto (tgt := 483) hx hb d_lw_law_312 (by decide) ?_
                      refine lv_iinc (v := (y4 + (3 : Int32))) (lv' := [(4, .int (y4 + (3 : Int32))), (6, .int x53), (5, .int x50), (0, .ref b), (1, .ref (base + y1)), (2, .ref (base + y2)), (3, .ref (base + y3))]) hx hb d_lw_law_483 hl (k := 6) rfl rfl (by decide) rfl (fun ls hl => ?_)
                      refine lv_goto (tgt := 23) hx hb d_lw_law_486 (by decide) ?_
                      exact ih y1 y2 y3 (y4 + (3 : Int32)) w54 h (k + 1) _ _ _ hW (lv_sub hl [3, 4, 5, 6, 0] rfl) (by omega)
                    · rw [if_neg c48] at h
                      by_cases c55 : (x2 &&& (15 : Int32)) = (8 : Int32)
                      · rw [if_pos c55] at h
                        refine lv_tableIn (off := 276) (tgt := 315) hx hb d_lw_law_39 (by rw [c55]; decide) (by rw [c55]; decide) (by rw [c55]; rfl) (by decide) ?_
                        refine lv_aload_n hx hb d_lw_law_315 rfl (lv_at hl 1 rfl) ?_
                        refine lv_aload_n hx hb d_lw_law_316 rfl (lv_at hl 0 rfl) ?_
                        refine lv_iload hx hb d_lw_law_317 (lv_at hl 4 rfl) ?_
                        refine lv_iconst (v := (1 : Int32)) hx hb d_lw_law_319 (by decide) ?_
                        refine lv_iadd hx hb d_lw_law_320 ?_
                        replace h := bs h
                        obtain ⟨x56, hx56, h⟩ := h
                        refine wo_sld hx hb hX hbl hbb hW hx56 d_lw_law_321 ?_
                        refine lv_aload_n hx hb d_lw_law_322 rfl (lv_at hl 3 rfl) ?_
                        replace h := bs2 h
                        obtain ⟨x57, w58, hw58, h⟩ := h
                        refine cs_lw_92 (As := [.ref (base + y1), .int x56, .ref (base + y3)]) (rest := []) hx hb hml hown hts hK hG hW (c_lw_ran l hst D cA base hw58) ⟨Nat.le_of_ble_eq_true rfl, Nat.le_of_ble_eq_true rfl⟩ ⟨by show 417 + k + 1 ≤ 601024; omega, by show 542100 + 6 * k + 6 ≤ 7293034; omega⟩ rfl hl.1 rfl (Nat.le_of_ble_eq_true rfl) d_lw_law_323 (fun H locs hW => ?_)
                        refine W.widen (k := 417 + (k + 1)) (n := 542100 + 6 * (k + 1)) (by show 417 + k + 1 ≤ 417 + (k + 1); omega) (by show 542100 + 6 * k + 6 ≤ 542100 + 6 * (k + 1); omega) ?_
                        refine lv_istore (lv' := [(5, .int x57), (0, .ref b), (1, .ref (base + y1)), (2, .ref (base + y2)), (3, .ref (base + y3)), (4, .int y4)]) hx hb d_lw_law_326 hl (by decide) rfl (fun ls hl => ?_)
                        refine lv_aload_n hx hb d_lw_law_328 rfl (lv_at hl 3 rfl) ?_
                        refine lv_aload_n hx hb d_lw_law_329 rfl (lv_at hl 1 rfl) ?_
                        refine lv_iload hx hb d_lw_law_330 (lv_at hl 5 rfl) ?_
                        refine lv_iconst (v := (1 : Int32)) hx hb d_lw_law_332 (by decide) ?_
                        refine lv_iadd hx hb d_lw_law_333 ?_
                        replace h := bs h
                        obtain ⟨x59, hx59, h⟩ := h
                        refine wo_sld hx hb hX hbl hbb hW hx59 d_lw_law_334 ?_
                        replace h := bs2 h
                        obtain ⟨x60, w61, hw61, h⟩ := h
                        refine cv_lw_94 (As := [.int x59]) (rest := []) hx hb hml hown hts hK hG hW (c_q_ran l D cA base hw61) (kb_q_ran hw61) ⟨Nat.le_of_ble_eq_true rfl, Nat.le_of_ble_eq_true rfl⟩ ⟨by show 417 + (k + 1) + 0 ≤ 601024; omega, by show 542100 + 6 * (k + 1) + 0 ≤ 7293034; omega⟩ rfl hl.1 rfl (Nat.le_of_ble_eq_true rfl) d_lw_law_335 (fun H locs hW => ?_)
                        refine W.widen (k := 417 + (k + 1)) (n := 542100 + 6 * (k + 1)) (by show 417 + (k + 1) + 0 ≤ 417 + (k + 1); omega) (by show 542100 + 6 * (k + 1) + 0 ≤ 542100 + 6 * (k + 1); omega) ?_
                        refine lv_istore (lv' := [(6, .int x60), (5, .int x57), (0, .ref b), (1, .ref (base + y1)), (2, .ref (base + y2)), (3, .ref (base + y3)), (4, .int y4)]) hx hb d_lw_law_338 hl (by decide) rfl (fun ls hl => ?_)
                        refine lv_aload_n hx hb d_lw_law_340 rfl (lv_at hl 4 rfl) ?_
                        replace h := bs2 h
                        obtain ⟨x62, w63, hw63, h⟩ := h
                        refine cv_lw_95 (As := []) (rest := []) hx hb hml hown hts hK hG hW (c_q_thrown l D cA base hw63) (kb_q_thrown hw63) ⟨Nat.le_of_ble_eq_true rfl, Nat.le_of_ble_eq_true rfl⟩ ⟨by show 417 + (k + 1) + 0 ≤ 601024; omega, by show 542100 + 6 * (k + 1) + 0 ≤ 7293034; omega⟩ rfl hl.1 rfl (Nat.le_of_ble_eq_true rfl) d_lw_law_341 (fun H locs hW => ?_)
                        refine W.widen (k := 417 + (k + 1)) (n := 542100 + 6 * (k + 1)) (by show 417 + (k + 1) + 0 ≤ 417 + (k + 1); omega) (by show 542100 + 6 * (k + 1) + 0 ≤ 542100 + 6 * (k + 1); omega) ?_
                        refine lv_iload hx hb d_lw_law_344 (lv_at hl 1 rfl) ?_
                        refine lv_icmp_eq (tgt := 351) hx hb d_lw_law_346 (by decide) (fun c64 => ?_) (fun c64 => ?_)
                        · rw [if_pos c64] at h
                          refine lv_iload hx hb d_lw_law_351 (lv_at hl 1 rfl) ?_
                          refine lv_if_ne (tgt := 368) hx hb d_lw_law_353 (by decide) (fun c65 => ?_) (fun c65 => ?_)
                          · rw [if_neg c65] at h
                            refine lv_goto (tgt := 483) hx hb d_lw_law_368 (by decide) ?_
                            refine lv_iinc (v := (y4 + (3 : Int32))) (lv' := [(4, .int (y4 + (3 : Int32))), (6, .int x60), (5, .int x57), (0, .ref b), (1, .ref (base + y1)), (2, .ref (base + y2)), (3, .ref (base + y3))]) hx hb d_lw_law_483 hl (k := 6) rfl rfl (by decide) rfl (fun ls hl => ?_)
                            refine lv_goto (tgt := 23) hx hb d_lw_law_486 (by decide) ?_
                            exact ih y1 y2 y3 (y4 + (3 : Int32)) w63 h (k + 1) _ _ _ hW (lv_sub hl [3, 4, 5, 6, 0] rfl) (by omega)
                          · rw [if_pos c65] at h
                            refine lv_aload_n hx hb d_lw_law_356 rfl (lv_at hl 5 rfl) ?_
                            refine lv_iconst (v := (0 : Int32)) hx hb d_lw_law_357 (by decide) ?_
                            replace h := bs h
                            obtain ⟨x66, hx66, h⟩ := h
                            refine wo_lald hx hb hK hW (t := 1) rfl hx66 d_lw_law_358 ?_
                            refine lv_iload hx hb d_lw_law_359 (lv_at hl 0 rfl) ?_
                            refine lv_i2l hx hb d_lw_law_361 rfl ?_
                            refine lc_eq (tgt := 368) hx hb d_lw_law_362 d_lw_law_363 (by decide) (fun c67 => ?_) (fun c67 => ?_)
                            · rw [if_pos c67] at h
                              refine lv_goto (tgt := 483) hx hb d_lw_law_368 (by decide) ?_
                              refine lv_iinc (v := (y4 + (3 : Int32))) (lv' := [(4, .int (y4 + (3 : Int32))), (6, .int x60), (5, .int x57), (0, .ref b), (1, .ref (base + y1)), (2, .ref (base + y2)), (3, .ref (base + y3))]) hx hb d_lw_law_483 hl (k := 6) rfl rfl (by decide) rfl (fun ls hl => ?_)
                              refine lv_goto (tgt := 23) hx hb d_lw_law_486 (by decide) ?_
                              exact ih y1 y2 y3 (y4 + (3 : Int32)) w63 h (k + 1) _ _ _ hW (lv_sub hl [3, 4, 5, 6, 0] rfl) (by omega)
                            · rw [if_neg c67] at h
                              refine lv_iconst (v := (0 : Int32)) hx hb d_lw_law_366 (by decide) ?_
                              exact absurd (show (0 : Int32) = 1 from congrArg Prod.fst (Option.some.inj h)) (by decide)
                        · rw [if_neg c64] at h
                          refine lv_iconst (v := (0 : Int32)) hx hb d_lw_law_349 (by decide) ?_
                          exact absurd (show (0 : Int32) = 1 from congrArg Prod.fst (Option.some.inj h)) (by decide)
                      · rw [if_neg c55] at h
                        by_cases c68 : (x2 &&& (15 : Int32)) = (9 : Int32)
                        · rw [if_pos c68] at h
                          refine lv_tableIn (off := 332) (tgt := 371) hx hb d_lw_law_39 (by rw [c68]; decide) (by rw [c68]; decide) (by rw [c68]; rfl) (by decide) ?_
                          refine lv_aload_n hx hb d_lw_law_371 rfl (lv_at hl 1 rfl) ?_
                          refine lv_aload_n hx hb d_lw_law_372 rfl (lv_at hl 3 rfl) ?_
                          replace h := bs2 h
                          obtain ⟨x69, w70, hw70, h⟩ := h
                          refine cs_lw_98 (As := [.ref (base + y1), .ref (base + y3)]) (rest := []) hx hb hml hown hts hK hG hW (c_lw_analyse l hst D cA base hw70) ⟨Nat.le_of_ble_eq_true rfl, Nat.le_of_ble_eq_true rfl⟩ ⟨by show 417 + k + 1 ≤ 601024; omega, by show 542100 + 6 * k + 6 ≤ 7293034; omega⟩ rfl hl.1 rfl (Nat.le_of_ble_eq_true rfl) d_lw_law_373 (fun H locs hW => ?_)
                          refine W.widen (k := 417 + (k + 1)) (n := 542100 + 6 * (k + 1)) (by show 417 + k + 1 ≤ 417 + (k + 1); omega) (by show 542100 + 6 * k + 6 ≤ 542100 + 6 * (k + 1); omega) ?_
                          refine lv_istore (lv' := [(5, .int x69), (0, .ref b), (1, .ref (base + y1)), (2, .ref (base + y2)), (3, .ref (base + y3)), (4, .int y4)]) hx hb d_lw_law_376 hl (by decide) rfl (fun ls hl => ?_)
                          refine lv_aload_n hx hb d_lw_law_378 rfl (lv_at hl 3 rfl) ?_
                          replace h := bs2 h
                          obtain ⟨x71, w72, hw72, h⟩ := h
                          refine cv_lw_100 (As := []) (rest := []) hx hb hml hown hts hK hG hW (c_q_analyse l D cA base hw72) (kb_q_analyse hw72) ⟨Nat.le_of_ble_eq_true rfl, Nat.le_of_ble_eq_true rfl⟩ ⟨by show 417 + (k + 1) + 0 ≤ 601024; omega, by show 542100 + 6 * (k + 1) + 0 ≤ 7293034; omega⟩ rfl hl.1 rfl (Nat.le_of_ble_eq_true rfl) d_lw_law_379 (fun H locs hW => ?_)
                          refine W.widen (k := 417 + (k + 1)) (n := 542100 + 6 * (k + 1)) (by show 417 + (k + 1) + 0 ≤ 417 + (k + 1); omega) (by show 542100 + 6 * (k + 1) + 0 ≤ 542100 + 6 * (k + 1); omega) ?_
                          refine lv_istore (lv' := [(6, .int x71), (5, .int x69), (0, .ref b), (1, .ref (base + y1)), (2, .ref (base + y2)), (3, .ref (base + y3)), (4, .int y4)]) hx hb d_lw_law_382 hl (by decide) rfl (fun ls hl => ?_)
                          refine lv_goto (tgt := 483) hx hb d_lw_law_384 (by decide) ?_
                          refine lv_iinc (v := (y4 + (3 : Int32))) (lv' := [(4, .int (y4 + (3 : Int32))), (6, .int x71), (5, .int x69), (0, .ref b), (1, .ref (base + y1)), (2, .ref (base + y2)), (3, .ref (base + y3))]) hx hb d_lw_law_483 hl (k := 6) rfl rfl (by decide) rfl (fun ls hl => ?_)
                          refine lv_goto (tgt := 23) hx hb d_lw_law_486 (by decide) ?_
                          exact ih y1 y2 y3 (y4 + (3 : Int32)) w72 h (k + 1) _ _ _ hW (lv_sub hl [3, 4, 5, 6, 0] rfl) (by omega)
                        · rw [if_neg c68] at h
                          by_cases c73 : (x2 &&& (15 : Int32)) = (10 : Int32)
                          · rw [if_pos c73] at h
                            refine lv_tableIn (off := 348) (tgt := 387) hx hb d_lw_law_39 (by rw [c73]; decide) (by rw [c73]; decide) (by rw [c73]; rfl) (by decide) ?_
                            refine lv_aload_n hx hb d_lw_law_387 rfl (lv_at hl 1 rfl) ?_
                            refine lv_aload_n hx hb d_lw_law_388 rfl (lv_at hl 0 rfl) ?_
                            refine lv_iload hx hb d_lw_law_389 (lv_at hl 4 rfl) ?_
                            refine lv_iconst (v := (1 : Int32)) hx hb d_lw_law_391 (by decide) ?_
                            refine lv_iadd hx hb d_lw_law_392 ?_
                            replace h := bs h
                            obtain ⟨x74, hx74, h⟩ := h
                            refine wo_sld hx hb hX hbl hbb hW hx74 d_lw_law_393 ?_
                            refine lv_aload_n hx hb d_lw_law_394 rfl (lv_at hl 3 rfl) ?_
                            replace h := bs2 h
                            obtain ⟨x75, w76, hw76, h⟩ := h
                            refine cs_lw_101 (As := [.ref (base + y1), .int x74, .ref (base + y3)]) (rest := []) hx hb hml hown hts hK hG hW (c_lw_warning l hst D cA base hw76) ⟨Nat.le_of_ble_eq_true rfl, Nat.le_of_ble_eq_true rfl⟩ ⟨by show 417 + k + 1 ≤ 601024; omega, by show 542100 + 6 * k + 6 ≤ 7293034; omega⟩ rfl hl.1 rfl (Nat.le_of_ble_eq_true rfl) d_lw_law_395 (fun H locs hW => ?_)
                            refine W.widen (k := 417 + (k + 1)) (n := 542100 + 6 * (k + 1)) (by show 417 + k + 1 ≤ 417 + (k + 1); omega) (by show 542100 + 6 * k + 6 ≤ 542100 + 6 * (k + 1); omega) ?_
                            refine lv_istore (lv' := [(5, .int x75), (0, .ref b), (1, .ref (base + y1)), (2, .ref (base + y2)), (3, .ref (base + y3)), (4, .int y4)]) hx hb d_lw_law_398 hl (by decide) rfl (fun ls hl => ?_)
                            refine lv_aload_n hx hb d_lw_law_400 rfl (lv_at hl 3 rfl) ?_
                            refine lv_aload_n hx hb d_lw_law_401 rfl (lv_at hl 1 rfl) ?_
                            refine lv_iload hx hb d_lw_law_402 (lv_at hl 5 rfl) ?_
                            refine lv_iconst (v := (1 : Int32)) hx hb d_lw_law_404 (by decide) ?_
                            refine lv_iadd hx hb d_lw_law_405 ?_
                            replace h := bs h
                            obtain ⟨x77, hx77, h⟩ := h
                            refine wo_sld hx hb hX hbl hbb hW hx77 d_lw_law_406 ?_
                            replace h := bs2 h
                            obtain ⟨x78, w79, hw79, h⟩ := h
                            refine cv_lw_103 (As := [.int x77]) (rest := []) hx hb hml hown hts hK hG hW (c_q_warning l D cA base hw79) (kb_q_warning hw79) ⟨Nat.le_of_ble_eq_true rfl, Nat.le_of_ble_eq_true rfl⟩ ⟨by show 417 + (k + 1) + 0 ≤ 601024; omega, by show 542100 + 6 * (k + 1) + 0 ≤ 7293034; omega⟩ rfl hl.1 rfl (Nat.le_of_ble_eq_true rfl) d_lw_law_407 (fun H locs hW => ?_)
                            refine W.widen (k := 417 + (k + 1)) (n := 542100 + 6 * (k + 1)) (by show 417 + (k + 1) + 0 ≤ 417 + (k + 1); omega) (by show 542100 + 6 * (k + 1) + 0 ≤ 542100 + 6 * (k + 1); omega) ?_
                            refine lv_istore (lv' := [(6, .int x78), (5, .int x75), (0, .ref b), (1, .ref (base + y1)), (2, .ref (base + y2)), (3, .ref (base + y3)), (4, .int y4)]) hx hb d_lw_law_410 hl (by decide) rfl (fun ls hl => ?_)
                            refine lv_goto (tgt := 483) hx hb d_lw_law_412 (by decide) ?_
                            refine lv_iinc (v := (y4 + (3 : Int32))) (lv' := [(4, .int (y4 + (3 : Int32))), (6, .int x78), (5, .int x75), (0, .ref b), (1, .ref (base + y1)), (2, .ref (base + y2)), (3, .ref (base + y3))]) hx hb d_lw_law_483 hl (k := 6) rfl rfl (by decide) rfl (fun ls hl => ?_)
                            refine lv_goto (tgt := 23) hx hb d_lw_law_486 (by decide) ?_
                            exact ih y1 y2 y3 (y4 + (3 : Int32)) w79 h (k + 1) _ _ _ hW (lv_sub hl [3, 4, 5, 6, 0] rfl) (by omega)
                          · rw [if_neg c73] at h
                            by_cases c80 : (x2 &&& (15 : Int32)) = (11 : Int32)
                            · rw [if_pos c80] at h
                              refine lv_tableIn (off := 376) (tgt := 415) hx hb d_lw_law_39 (by rw [c80]; decide) (by rw [c80]; decide) (by rw [c80]; rfl) (by decide) ?_
                              refine lv_aload_n hx hb d_lw_law_415 rfl (lv_at hl 1 rfl) ?_
                              refine lv_aload_n hx hb d_lw_law_416 rfl (lv_at hl 0 rfl) ?_
                              refine lv_iload hx hb d_lw_law_417 (lv_at hl 4 rfl) ?_
                              refine lv_iconst (v := (1 : Int32)) hx hb d_lw_law_419 (by decide) ?_
                              refine lv_iadd hx hb d_lw_law_420 ?_
                              replace h := bs h
                              obtain ⟨x81, hx81, h⟩ := h
                              refine wo_sld hx hb hX hbl hbb hW hx81 d_lw_law_421 ?_
                              refine lv_aload_n hx hb d_lw_law_422 rfl (lv_at hl 0 rfl) ?_
                              refine lv_iload hx hb d_lw_law_423 (lv_at hl 4 rfl) ?_
                              refine lv_iconst (v := (2 : Int32)) hx hb d_lw_law_425 (by decide) ?_
                              refine lv_iadd hx hb d_lw_law_426 ?_
                              replace h := bs h
                              obtain ⟨x82, hx82, h⟩ := h
                              refine wo_sld hx hb hX hbl hbb hW hx82 d_lw_law_427 ?_
                              refine lv_aload_n hx hb d_lw_law_428 rfl (lv_at hl 3 rfl) ?_
                              replace h := bs2 h
                              obtain ⟨x83, w84, hw84, h⟩ := h
                              refine cs_lw_104 (As := [.ref (base + y1), .int x81, .int x82, .ref (base + y3)]) (rest := []) hx hb hml hown hts hK hG hW (c_lw_left l hst D cA base hw84) ⟨Nat.le_of_ble_eq_true rfl, Nat.le_of_ble_eq_true rfl⟩ ⟨by show 417 + k + 1 ≤ 601024; omega, by show 542100 + 6 * k + 6 ≤ 7293034; omega⟩ rfl hl.1 rfl (Nat.le_of_ble_eq_true rfl) d_lw_law_429 (fun H locs hW => ?_)
                              refine W.widen (k := 417 + (k + 1)) (n := 542100 + 6 * (k + 1)) (by show 417 + k + 1 ≤ 417 + (k + 1); omega) (by show 542100 + 6 * k + 6 ≤ 542100 + 6 * (k + 1); omega) ?_
                              refine lv_istore (lv' := [(5, .int x83), (0, .ref b), (1, .ref (base + y1)), (2, .ref (base + y2)), (3, .ref (base + y3)), (4, .int y4)]) hx hb d_lw_law_432 hl (by decide) rfl (fun ls hl => ?_)
                              refine lv_aload_n hx hb d_lw_law_434 rfl (lv_at hl 3 rfl) ?_
                              refine lv_aload_n hx hb d_lw_law_435 rfl (lv_at hl 1 rfl) ?_
                              refine lv_iload hx hb d_lw_law_436 (lv_at hl 5 rfl) ?_
                              refine lv_iconst (v := (1 : Int32)) hx hb d_lw_law_438 (by decide) ?_
                              refine lv_iadd hx hb d_lw_law_439 ?_
                              replace h := bs h
                              obtain ⟨x85, hx85, h⟩ := h
                              refine wo_sld hx hb hX hbl hbb hW hx85 d_lw_law_440 ?_
                              refine lv_aload_n hx hb d_lw_law_441 rfl (lv_at hl 1 rfl) ?_
                              refine lv_iload hx hb d_lw_law_442 (lv_at hl 5 rfl) ?_
                              refine lv_iconst (v := (2 : Int32)) hx hb d_lw_law_444 (by decide) ?_
                              refine lv_iadd hx hb d_lw_law_445 ?_
                              replace h := bs h
                              obtain ⟨x86, hx86, h⟩ := h
                              refine wo_sld hx hb hX hbl hbb hW hx86 d_lw_law_446 ?_
                              replace h := bs2 h
                              obtain ⟨x87, w88, hw88, h⟩ := h
                              refine cv_lw_106 (As := [.int x85, .int x86]) (rest := []) hx hb hml hown hts hK hG hW (c_q_left_II l D cA base hw88) (kb_q_left_II hw88) ⟨Nat.le_of_ble_eq_true rfl, Nat.le_of_ble_eq_true rfl⟩ ⟨by show 417 + (k + 1) + 0 ≤ 601024; omega, by show 542100 + 6 * (k + 1) + 0 ≤ 7293034; omega⟩ rfl hl.1 rfl (Nat.le_of_ble_eq_true rfl) d_lw_law_447 (fun H locs hW => ?_)
                              refine W.widen (k := 417 + (k + 1)) (n := 542100 + 6 * (k + 1)) (by show 417 + (k + 1) + 0 ≤ 417 + (k + 1); omega) (by show 542100 + 6 * (k + 1) + 0 ≤ 542100 + 6 * (k + 1); omega) ?_
                              refine lv_istore (lv' := [(6, .int x87), (5, .int x83), (0, .ref b), (1, .ref (base + y1)), (2, .ref (base + y2)), (3, .ref (base + y3)), (4, .int y4)]) hx hb d_lw_law_450 hl (by decide) rfl (fun ls hl => ?_)
                              refine lv_goto (tgt := 483) hx hb d_lw_law_452 (by decide) ?_
                              refine lv_iinc (v := (y4 + (3 : Int32))) (lv' := [(4, .int (y4 + (3 : Int32))), (6, .int x87), (5, .int x83), (0, .ref b), (1, .ref (base + y1)), (2, .ref (base + y2)), (3, .ref (base + y3))]) hx hb d_lw_law_483 hl (k := 6) rfl rfl (by decide) rfl (fun ls hl => ?_)
                              refine lv_goto (tgt := 23) hx hb d_lw_law_486 (by decide) ?_
                              exact ih y1 y2 y3 (y4 + (3 : Int32)) w88 h (k + 1) _ _ _ hW (lv_sub hl [3, 4, 5, 6, 0] rfl) (by omega)
                            · rw [if_neg c80] at h
                              by_cases c89 : (x2 &&& (15 : Int32)) = (12 : Int32)
                              · rw [if_pos c89] at h
                                refine lv_tableIn (off := 416) (tgt := 455) hx hb d_lw_law_39 (by rw [c89]; decide) (by rw [c89]; decide) (by rw [c89]; rfl) (by decide) ?_
                                refine lv_aload_n hx hb d_lw_law_455 rfl (lv_at hl 1 rfl) ?_
                                refine lv_aload_n hx hb d_lw_law_456 rfl (lv_at hl 0 rfl) ?_
                                refine lv_iload hx hb d_lw_law_457 (lv_at hl 4 rfl) ?_
                                refine lv_iconst (v := (1 : Int32)) hx hb d_lw_law_459 (by decide) ?_
                                refine lv_iadd hx hb d_lw_law_460 ?_
                                replace h := bs h
                                obtain ⟨x90, hx90, h⟩ := h
                                refine wo_sld hx hb hX hbl hbb hW hx90 d_lw_law_461 ?_
                                refine lv_aload_n hx hb d_lw_law_462 rfl (lv_at hl 3 rfl) ?_
                                replace h := bs2 h
                                obtain ⟨x91, w92, hw92, h⟩ := h
                                refine cs_lw_107 (As := [.ref (base + y1), .int x90, .ref (base + y3)]) (rest := []) hx hb hml hown hts hK hG hW (c_lw_count l hst D cA base hw92) ⟨Nat.le_of_ble_eq_true rfl, Nat.le_of_ble_eq_true rfl⟩ ⟨by show 417 + k + 1 ≤ 601024; omega, by show 542100 + 6 * k + 6 ≤ 7293034; omega⟩ rfl hl.1 rfl (Nat.le_of_ble_eq_true rfl) d_lw_law_463 (fun H locs hW => ?_)
                                refine W.widen (k := 417 + (k + 1)) (n := 542100 + 6 * (k + 1)) (by show 417 + k + 1 ≤ 417 + (k + 1); omega) (by show 542100 + 6 * k + 6 ≤ 542100 + 6 * (k + 1); omega) ?_
                                refine lv_istore (lv' := [(5, .int x91), (0, .ref b), (1, .ref (base + y1)), (2, .ref (base + y2)), (3, .ref (base + y3)), (4, .int y4)]) hx hb d_lw_law_466 hl (by decide) rfl (fun ls hl => ?_)
                                refine lv_aload_n hx hb d_lw_law_468 rfl (lv_at hl 3 rfl) ?_
                                refine lv_aload_n hx hb d_lw_law_469 rfl (lv_at hl 1 rfl) ?_
                                refine lv_iload hx hb d_lw_law_470 (lv_at hl 5 rfl) ?_
                                refine lv_iconst (v := (1 : Int32)) hx hb d_lw_law_472 (by decide) ?_
                                refine lv_iadd hx hb d_lw_law_473 ?_
                                replace h := bs h
                                obtain ⟨x93, hx93, h⟩ := h
                                refine wo_sld hx hb hX hbl hbb hW hx93 d_lw_law_474 ?_
                                replace h := bs2 h
                                obtain ⟨x94, w95, hw95, h⟩ := h
                                refine cv_lw_109 (As := [.int x93]) (rest := []) hx hb hml hown hts hK hG hW (c_q_count l D cA base hw95) (kb_q_count hw95) ⟨Nat.le_of_ble_eq_true rfl, Nat.le_of_ble_eq_true rfl⟩ ⟨by show 417 + (k + 1) + 0 ≤ 601024; omega, by show 542100 + 6 * (k + 1) + 0 ≤ 7293034; omega⟩ rfl hl.1 rfl (Nat.le_of_ble_eq_true rfl) d_lw_law_475 (fun H locs hW => ?_)
                                refine W.widen (k := 417 + (k + 1)) (n := 542100 + 6 * (k + 1)) (by show 417 + (k + 1) + 0 ≤ 417 + (k + 1); omega) (by show 542100 + 6 * (k + 1) + 0 ≤ 542100 + 6 * (k + 1); omega) ?_
                                refine lv_istore (lv' := [(6, .int x94), (5, .int x91), (0, .ref b), (1, .ref (base + y1)), (2, .ref (base + y2)), (3, .ref (base + y3)), (4, .int y4)]) hx hb d_lw_law_478 hl (by decide) rfl (fun ls hl => ?_)
                                refine lv_goto (tgt := 483) hx hb d_lw_law_480 (by decide) ?_
                                refine lv_iinc (v := (y4 + (3 : Int32))) (lv' := [(4, .int (y4 + (3 : Int32))), (6, .int x94), (5, .int x91), (0, .ref b), (1, .ref (base + y1)), (2, .ref (base + y2)), (3, .ref (base + y3))]) hx hb d_lw_law_483 hl (k := 6) rfl rfl (by decide) rfl (fun ls hl => ?_)
                                refine lv_goto (tgt := 23) hx hb d_lw_law_486 (by decide) ?_
                                exact ih y1 y2 y3 (y4 + (3 : Int32)) w95 h (k + 1) _ _ _ hW (lv_sub hl [3, 4, 5, 6, 0] rfl) (by omega)
                              · rw [if_neg c89] at h
                                refine lv_tableOut (tgt := 483) hx hb d_lw_law_39 (by have n0 := lv_neT c3 (show (0 : Int32).toInt = 0 from rfl); have n1 := lv_neT c12 (show (1 : Int32).toInt = 1 from rfl); have n2 := lv_neT c17 (show (2 : Int32).toInt = 2 from rfl); have n3 := lv_neT c22 (show (3 : Int32).toInt = 3 from rfl); have n4 := lv_neT c27 (show (4 : Int32).toInt = 4 from rfl); have n5 := lv_neT c36 (show (5 : Int32).toInt = 5 from rfl); have n6 := lv_neT c43 (show (6 : Int32).toInt = 6 from rfl); have n7 := lv_neT c48 (show (7 : Int32).toInt = 7 from rfl); have n8 := lv_neT c55 (show (8 : Int32).toInt = 8 from rfl); have n9 := lv_neT c68 (show (9 : Int32).toInt = 9 from rfl); have n10 := lv_neT c73 (show (10 : Int32).toInt = 10 from rfl); have n11 := lv_neT c80 (show (11 : Int32).toInt = 11 from rfl); have n12 := lv_neT c89 (show (12 : Int32).toInt = 12 from rfl); omega) (by decide) ?_
                                refine lv_iinc (v := (y4 + (3 : Int32))) (lv' := [(4, .int (y4 + (3 : Int32))), (0, .ref b), (1, .ref (base + y1)), (2, .ref (base + y2)), (3, .ref (base + y3))]) hx hb d_lw_law_483 hl (k := 4) rfl rfl (by decide) rfl (fun ls hl => ?_)
                                refine lv_goto (tgt := 23) hx hb d_lw_law_486 (by decide) ?_
                                refine W.widen (k := 417 + (k + 1)) (n := 542100 + 6 * (k + 1)) (by show 417 + k + 0 ≤ 417 + (k + 1); omega) (by show 542100 + 6 * k + 0 ≤ 542100 + 6 * (k + 1); omega) ?_
                                exact ih y1 y2 y3 (y4 + (3 : Int32)) w h (k + 1) _ _ _ hW (lv_sub hl [1, 2, 3, 4, 0] rfl) (by omega)
