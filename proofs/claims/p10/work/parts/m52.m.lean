/-! Methods as functions, and their contracts (by wip/gen/run.py). -/
theorem cv_q_454 {p : Program} {l : Launch} {e : Env} {R : Room} {s : State} {m : MethodId} {args : Array Value} {below : List Frame} {meth : Method} {c : Code} {H : Heap} {locs : List Loc} {cells slots : Nat} {Q : State → Prop} {D : va_G} {cA : Nat → ClassId} {base : Nat} {w w' : WW} {cc : ByteArray} {pc nL : Nat} {ls : Array Slot} {rest st0 As : List Value} {ov : Option Value} {b : Nat} (hx : p.tables.exec = Jvm.exec) (hb : c.code = cc) (hml : c.maxLocals = nL) (hown : s.vm.findClass Rc_q = some m.cls) (hts : ∀ w ∈ gt, w.before args s = true) (hK : va_K D cls (wo_tys cA) s) (hG : wo_G cA base s) (hW : wo_S D cls cA base s w H locs) (hM : mt l D cls (wo_tys cA) cA base y_q_isBeyond (Cond.code y_q_isBeyond b_q_isBeyond 2 (some .boolean) :: gt) rm_q_isBeyond (.ref (base + b) :: As) w ov w' rm_q_isBeyond.cells rm_q_isBeyond.slots) (hkb : kb w b 9 = true) (hR : rm_q_isBeyond.frames + 1 ≤ R.frames ∧ 8 + (2 + 11) + rm_q_isBeyond.locals ≤ R.locals) (hf : cells + rm_q_isBeyond.cells ≤ R.cells ∧ slots + rm_q_isBeyond.slots ≤ R.slots) (hn : As.length = 1) (hsz : ls.size = nL) (hst : st0 = As.reverse ++ .ref (base + b) :: rest) (hcat : (rest.map fun v => v.category).sum ≤ 8) (hdg : decode cc pc = .ok (.invokevirtual 454, 3)) (kk : ∀ (H1 : Heap) (locs1 : List Loc), wo_S D cls cA base s w' H1 locs1 → W p l e R s m args below meth c H1 locs1 (cells + rm_q_isBeyond.cells) (slots + rm_q_isBeyond.slots) Q (F0 m (pc + 3) ls (ov.toList ++ rest))) : W p l e R s m args below meth c H locs cells slots Q (F0 m pc ls st0) :=
  wo_callV (C := Rc_q) hx hb hml hown hts hK hG hW hM hkb rfl (gt_of (i := 1610) (by decide +kernel) (by decide +kernel)) (gt_of (i := 1612) (by decide +kernel) (by decide +kernel)) (gt_sel (i := 95) (by decide +kernel) (by decide +kernel)) (gt_of (i := 10) (by decide +kernel) (by decide +kernel)) (gt_of (i := 1613) (by decide +kernel) (by decide +kernel)) (by decide +kernel) hR hf hn hsz hst hcat hdg kk
theorem cv_q_457 {p : Program} {l : Launch} {e : Env} {R : Room} {s : State} {m : MethodId} {args : Array Value} {below : List Frame} {meth : Method} {c : Code} {H : Heap} {locs : List Loc} {cells slots : Nat} {Q : State → Prop} {D : va_G} {cA : Nat → ClassId} {base : Nat} {w w' : WW} {cc : ByteArray} {pc nL : Nat} {ls : Array Slot} {rest st0 As : List Value} {ov : Option Value} {b : Nat} (hx : p.tables.exec = Jvm.exec) (hb : c.code = cc) (hml : c.maxLocals = nL) (hown : s.vm.findClass Rc_q = some m.cls) (hts : ∀ w ∈ gt, w.before args s = true) (hK : va_K D cls (wo_tys cA) s) (hG : wo_G cA base s) (hW : wo_S D cls cA base s w H locs) (hM : mt l D cls (wo_tys cA) cA base y_q_readCells (Cond.code y_q_readCells b_q_readCells 7 (none) :: gt) rm_q_readCells (.ref (base + b) :: As) w ov w' rm_q_readCells.cells rm_q_readCells.slots) (hkb : kb w b 9 = true) (hR : rm_q_readCells.frames + 1 ≤ R.frames ∧ 8 + (7 + 11) + rm_q_readCells.locals ≤ R.locals) (hf : cells + rm_q_readCells.cells ≤ R.cells ∧ slots + rm_q_readCells.slots ≤ R.slots) (hn : As.length = 3) (hsz : ls.size = nL) (hst : st0 = As.reverse ++ .ref (base + b) :: rest) (hcat : (rest.map fun v => v.category).sum ≤ 8) (hdg : decode cc pc = .ok (.invokevirtual 457, 3)) (kk : ∀ (H1 : Heap) (locs1 : List Loc), wo_S D cls cA base s w' H1 locs1 → W p l e R s m args below meth c H1 locs1 (cells + rm_q_readCells.cells) (slots + rm_q_readCells.slots) Q (F0 m (pc + 3) ls (ov.toList ++ rest))) : W p l e R s m args below meth c H locs cells slots Q (F0 m pc ls st0) :=
  wo_callV (C := Rc_q) hx hb hml hown hts hK hG hW hM hkb rfl (gt_of (i := 1614) (by decide +kernel) (by decide +kernel)) (gt_of (i := 1616) (by decide +kernel) (by decide +kernel)) (gt_sel (i := 96) (by decide +kernel) (by decide +kernel)) (gt_of (i := 10) (by decide +kernel) (by decide +kernel)) (gt_of (i := 1617) (by decide +kernel) (by decide +kernel)) (by decide +kernel) hR hf hn hsz hst hcat hdg kk
theorem cv_q_460 {p : Program} {l : Launch} {e : Env} {R : Room} {s : State} {m : MethodId} {args : Array Value} {below : List Frame} {meth : Method} {c : Code} {H : Heap} {locs : List Loc} {cells slots : Nat} {Q : State → Prop} {D : va_G} {cA : Nat → ClassId} {base : Nat} {w w' : WW} {cc : ByteArray} {pc nL : Nat} {ls : Array Slot} {rest st0 As : List Value} {ov : Option Value} {b : Nat} (hx : p.tables.exec = Jvm.exec) (hb : c.code = cc) (hml : c.maxLocals = nL) (hown : s.vm.findClass Rc_q = some m.cls) (hts : ∀ w ∈ gt, w.before args s = true) (hK : va_K D cls (wo_tys cA) s) (hG : wo_G cA base s) (hW : wo_S D cls cA base s w H locs) (hM : mt l D cls (wo_tys cA) cA base y_q_sum (Cond.code y_q_sum b_q_sum 21 (none) :: gt) rm_q_sum (.ref (base + b) :: As) w ov w' rm_q_sum.cells rm_q_sum.slots) (hkb : kb w b 9 = true) (hR : rm_q_sum.frames + 1 ≤ R.frames ∧ 8 + (21 + 11) + rm_q_sum.locals ≤ R.locals) (hf : cells + rm_q_sum.cells ≤ R.cells ∧ slots + rm_q_sum.slots ≤ R.slots) (hn : As.length = 4) (hsz : ls.size = nL) (hst : st0 = As.reverse ++ .ref (base + b) :: rest) (hcat : (rest.map fun v => v.category).sum ≤ 8) (hdg : decode cc pc = .ok (.invokevirtual 460, 3)) (kk : ∀ (H1 : Heap) (locs1 : List Loc), wo_S D cls cA base s w' H1 locs1 → W p l e R s m args below meth c H1 locs1 (cells + rm_q_sum.cells) (slots + rm_q_sum.slots) Q (F0 m (pc + 3) ls (ov.toList ++ rest))) : W p l e R s m args below meth c H locs cells slots Q (F0 m pc ls st0) :=
  wo_callV (C := Rc_q) hx hb hml hown hts hK hG hW hM hkb rfl (gt_of (i := 1637) (by decide +kernel) (by decide +kernel)) (gt_of (i := 1639) (by decide +kernel) (by decide +kernel)) (gt_sel (i := 100) (by decide +kernel) (by decide +kernel)) (gt_of (i := 10) (by decide +kernel) (by decide +kernel)) (gt_of (i := 1640) (by decide +kernel) (by decide +kernel)) (by decide +kernel) hR hf hn hsz hst hcat hdg kk
theorem cv_q_464 {p : Program} {l : Launch} {e : Env} {R : Room} {s : State} {m : MethodId} {args : Array Value} {below : List Frame} {meth : Method} {c : Code} {H : Heap} {locs : List Loc} {cells slots : Nat} {Q : State → Prop} {D : va_G} {cA : Nat → ClassId} {base : Nat} {w w' : WW} {cc : ByteArray} {pc nL : Nat} {ls : Array Slot} {rest st0 As : List Value} {ov : Option Value} {b : Nat} (hx : p.tables.exec = Jvm.exec) (hb : c.code = cc) (hml : c.maxLocals = nL) (hown : s.vm.findClass Rc_q = some m.cls) (hts : ∀ w ∈ gt, w.before args s = true) (hK : va_K D cls (wo_tys cA) s) (hG : wo_G cA base s) (hW : wo_S D cls cA base s w H locs) (hM : mt l D cls (wo_tys cA) cA base y_q_quotient (Cond.code y_q_quotient b_q_quotient 29 (none) :: gt) rm_q_quotient (.ref (base + b) :: As) w ov w' rm_q_quotient.cells rm_q_quotient.slots) (hkb : kb w b 9 = true) (hR : rm_q_quotient.frames + 1 ≤ R.frames ∧ 8 + (29 + 11) + rm_q_quotient.locals ≤ R.locals) (hf : cells + rm_q_quotient.cells ≤ R.cells ∧ slots + rm_q_quotient.slots ≤ R.slots) (hn : As.length = 4) (hsz : ls.size = nL) (hst : st0 = As.reverse ++ .ref (base + b) :: rest) (hcat : (rest.map fun v => v.category).sum ≤ 8) (hdg : decode cc pc = .ok (.invokevirtual 464, 3)) (kk : ∀ (H1 : Heap) (locs1 : List Loc), wo_S D cls cA base s w' H1 locs1 → W p l e R s m args below meth c H1 locs1 (cells + rm_q_quotient.cells) (slots + rm_q_quotient.slots) Q (F0 m (pc + 3) ls (ov.toList ++ rest))) : W p l e R s m args below meth c H locs cells slots Q (F0 m pc ls st0) :=
  wo_callV (C := Rc_q) hx hb hml hown hts hK hG hW hM hkb rfl (gt_of (i := 1651) (by decide +kernel) (by decide +kernel)) (gt_of (i := 1653) (by decide +kernel) (by decide +kernel)) (gt_sel (i := 102) (by decide +kernel) (by decide +kernel)) (gt_of (i := 10) (by decide +kernel) (by decide +kernel)) (gt_of (i := 1654) (by decide +kernel) (by decide +kernel)) (by decide +kernel) hR hf hn hsz hst hcat hdg kk
abbrev b_q_look : ByteArray := prog_11_method_74_code
def y_q_look : MethodName := ⟨"AlarmForgeModel", "look", "(III)Z"⟩
def rm_q_look : Room := { frames := 4, cells := 0, slots := 0, locals := 115 }
theorem d_q_look_0 : decode b_q_look 0 = .ok (.iload_n 3, 1) := by decide +kernel
theorem d_q_look_1 : decode b_q_look 1 = .ok (.istore 4, 2) := by decide +kernel
theorem d_q_look_3 : decode b_q_look 3 = .ok (.iload_n 1, 1) := by decide +kernel
theorem d_q_look_4 : decode b_q_look 4 = .ok (.istore 5, 2) := by decide +kernel
theorem d_q_look_6 : decode b_q_look 6 = .ok (.iload 5, 2) := by decide +kernel
theorem d_q_look_8 : decode b_q_look 8 = .ok (.iload_n 2, 1) := by decide +kernel
theorem d_q_look_9 : decode b_q_look 9 = .ok (.if_icmp .ge (265), 3) := by decide +kernel
theorem d_q_look_12 : decode b_q_look 12 = .ok (.aload_n 0, 1) := by decide +kernel
theorem d_q_look_13 : decode b_q_look 13 = .ok (.getfield 72, 3) := by decide +kernel
theorem d_q_look_16 : decode b_q_look 16 = .ok (.iload 5, 2) := by decide +kernel
theorem d_q_look_18 : decode b_q_look 18 = .ok (.iaload, 1) := by decide +kernel
theorem d_q_look_19 : decode b_q_look 19 = .ok (.istore 6, 2) := by decide +kernel
theorem d_q_look_21 : decode b_q_look 21 = .ok (.aload_n 0, 1) := by decide +kernel
theorem d_q_look_22 : decode b_q_look 22 = .ok (.getfield 75, 3) := by decide +kernel
theorem d_q_look_25 : decode b_q_look 25 = .ok (.iload 5, 2) := by decide +kernel
theorem d_q_look_27 : decode b_q_look 27 = .ok (.iaload, 1) := by decide +kernel
theorem d_q_look_28 : decode b_q_look 28 = .ok (.istore 7, 2) := by decide +kernel
theorem d_q_look_30 : decode b_q_look 30 = .ok (.iload 6, 2) := by decide +kernel
theorem d_q_look_32 : decode b_q_look 32 = .ok (.iconst 1, 1) := by decide +kernel
theorem d_q_look_33 : decode b_q_look 33 = .ok (.if_icmp .ne (25), 3) := by decide +kernel
theorem d_q_look_36 : decode b_q_look 36 = .ok (.aload_n 0, 1) := by decide +kernel
theorem d_q_look_37 : decode b_q_look 37 = .ok (.iload 4, 2) := by decide +kernel
theorem d_q_look_39 : decode b_q_look 39 = .ok (.iload 7, 2) := by decide +kernel
theorem d_q_look_41 : decode b_q_look 41 = .ok (.i2l, 1) := by decide +kernel
theorem d_q_look_42 : decode b_q_look 42 = .ok (.iload 7, 2) := by decide +kernel
theorem d_q_look_44 : decode b_q_look 44 = .ok (.i2l, 1) := by decide +kernel
theorem d_q_look_45 : decode b_q_look 45 = .ok (.lconst 0, 1) := by decide +kernel
theorem d_q_look_46 : decode b_q_look 46 = .ok (.iload 7, 2) := by decide +kernel
theorem d_q_look_48 : decode b_q_look 48 = .ok (.i2l, 1) := by decide +kernel
theorem d_q_look_49 : decode b_q_look 49 = .ok (.invokevirtual 396, 3) := by decide +kernel
theorem d_q_look_52 : decode b_q_look 52 = .ok (.iinc 4 (1), 3) := by decide +kernel
theorem d_q_look_55 : decode b_q_look 55 = .ok (.goto (192), 3) := by decide +kernel
theorem d_q_look_58 : decode b_q_look 58 = .ok (.iload 6, 2) := by decide +kernel
theorem d_q_look_60 : decode b_q_look 60 = .ok (.iconst 2, 1) := by decide +kernel
theorem d_q_look_61 : decode b_q_look 61 = .ok (.if_icmp .ne (39), 3) := by decide +kernel
theorem d_q_look_64 : decode b_q_look 64 = .ok (.aload_n 0, 1) := by decide +kernel
theorem d_q_look_65 : decode b_q_look 65 = .ok (.getfield 130, 3) := by decide +kernel
theorem d_q_look_68 : decode b_q_look 68 = .ok (.iload 7, 2) := by decide +kernel
theorem d_q_look_70 : decode b_q_look 70 = .ok (.baload, 1) := by decide +kernel
theorem d_q_look_71 : decode b_q_look 71 = .ok (.ifCond .eq (15), 3) := by decide +kernel
theorem d_q_look_74 : decode b_q_look 74 = .ok (.aload_n 0, 1) := by decide +kernel
theorem d_q_look_75 : decode b_q_look 75 = .ok (.iconst 1, 1) := by decide +kernel
theorem d_q_look_76 : decode b_q_look 76 = .ok (.aload_n 0, 1) := by decide +kernel
theorem d_q_look_77 : decode b_q_look 77 = .ok (.getfield 78, 3) := by decide +kernel
theorem d_q_look_80 : decode b_q_look 80 = .ok (.iload 5, 2) := by decide +kernel
theorem d_q_look_82 : decode b_q_look 82 = .ok (.iaload, 1) := by decide +kernel
theorem d_q_look_83 : decode b_q_look 83 = .ok (.invokevirtual 442, 3) := by decide +kernel
theorem d_q_look_86 : decode b_q_look 86 = .ok (.aload_n 0, 1) := by decide +kernel
theorem d_q_look_87 : decode b_q_look 87 = .ok (.iload 4, 2) := by decide +kernel
theorem d_q_look_89 : decode b_q_look 89 = .ok (.iload 7, 2) := by decide +kernel
theorem d_q_look_91 : decode b_q_look 91 = .ok (.invokevirtual 400, 3) := by decide +kernel
theorem d_q_look_94 : decode b_q_look 94 = .ok (.iinc 4 (1), 3) := by decide +kernel
theorem d_q_look_97 : decode b_q_look 97 = .ok (.goto (150), 3) := by decide +kernel
theorem d_q_look_100 : decode b_q_look 100 = .ok (.iload 6, 2) := by decide +kernel
theorem d_q_look_102 : decode b_q_look 102 = .ok (.iconst 3, 1) := by decide +kernel
theorem d_q_look_103 : decode b_q_look 103 = .ok (.if_icmp .ne (43), 3) := by decide +kernel
theorem d_q_look_106 : decode b_q_look 106 = .ok (.aload_n 0, 1) := by decide +kernel
theorem d_q_look_107 : decode b_q_look 107 = .ok (.iload 4, 2) := by decide +kernel
theorem d_q_look_109 : decode b_q_look 109 = .ok (.iconst 1, 1) := by decide +kernel
theorem d_q_look_110 : decode b_q_look 110 = .ok (.isub, 1) := by decide +kernel
theorem d_q_look_111 : decode b_q_look 111 = .ok (.invokevirtual 454, 3) := by decide +kernel
theorem d_q_look_114 : decode b_q_look 114 = .ok (.ifCond .eq (15), 3) := by decide +kernel
theorem d_q_look_117 : decode b_q_look 117 = .ok (.aload_n 0, 1) := by decide +kernel
theorem d_q_look_118 : decode b_q_look 118 = .ok (.iconst 2, 1) := by decide +kernel
theorem d_q_look_119 : decode b_q_look 119 = .ok (.aload_n 0, 1) := by decide +kernel
theorem d_q_look_120 : decode b_q_look 120 = .ok (.getfield 78, 3) := by decide +kernel
theorem d_q_look_123 : decode b_q_look 123 = .ok (.iload 5, 2) := by decide +kernel
theorem d_q_look_125 : decode b_q_look 125 = .ok (.iaload, 1) := by decide +kernel
theorem d_q_look_126 : decode b_q_look 126 = .ok (.invokevirtual 442, 3) := by decide +kernel
theorem d_q_look_129 : decode b_q_look 129 = .ok (.aload_n 0, 1) := by decide +kernel
theorem d_q_look_130 : decode b_q_look 130 = .ok (.iload 4, 2) := by decide +kernel
theorem d_q_look_132 : decode b_q_look 132 = .ok (.iconst 1, 1) := by decide +kernel
theorem d_q_look_133 : decode b_q_look 133 = .ok (.isub, 1) := by decide +kernel
theorem d_q_look_134 : decode b_q_look 134 = .ok (.iload 7, 2) := by decide +kernel
theorem d_q_look_136 : decode b_q_look 136 = .ok (.iload 4, 2) := by decide +kernel
theorem d_q_look_138 : decode b_q_look 138 = .ok (.iconst 1, 1) := by decide +kernel
theorem d_q_look_139 : decode b_q_look 139 = .ok (.isub, 1) := by decide +kernel
theorem d_q_look_140 : decode b_q_look 140 = .ok (.invokevirtual 457, 3) := by decide +kernel
theorem d_q_look_143 : decode b_q_look 143 = .ok (.goto (104), 3) := by decide +kernel
theorem d_q_look_146 : decode b_q_look 146 = .ok (.iload 6, 2) := by decide +kernel
theorem d_q_look_148 : decode b_q_look 148 = .ok (.iconst 4, 1) := by decide +kernel
theorem d_q_look_149 : decode b_q_look 149 = .ok (.if_icmp .ne (47), 3) := by decide +kernel
theorem d_q_look_152 : decode b_q_look 152 = .ok (.aload_n 0, 1) := by decide +kernel
theorem d_q_look_153 : decode b_q_look 153 = .ok (.iload 4, 2) := by decide +kernel
theorem d_q_look_155 : decode b_q_look 155 = .ok (.iload 4, 2) := by decide +kernel
theorem d_q_look_157 : decode b_q_look 157 = .ok (.iconst 1, 1) := by decide +kernel
theorem d_q_look_158 : decode b_q_look 158 = .ok (.isub, 1) := by decide +kernel
theorem d_q_look_159 : decode b_q_look 159 = .ok (.invokevirtual 400, 3) := by decide +kernel
theorem d_q_look_162 : decode b_q_look 162 = .ok (.aload_n 0, 1) := by decide +kernel
theorem d_q_look_163 : decode b_q_look 163 = .ok (.iload 4, 2) := by decide +kernel
theorem d_q_look_165 : decode b_q_look 165 = .ok (.iconst 1, 1) := by decide +kernel
theorem d_q_look_166 : decode b_q_look 166 = .ok (.isub, 1) := by decide +kernel
theorem d_q_look_167 : decode b_q_look 167 = .ok (.lconst 0, 1) := by decide +kernel
theorem d_q_look_168 : decode b_q_look 168 = .ok (.lconst 0, 1) := by decide +kernel
theorem d_q_look_169 : decode b_q_look 169 = .ok (.lconst 0, 1) := by decide +kernel
theorem d_q_look_170 : decode b_q_look 170 = .ok (.lconst 0, 1) := by decide +kernel
theorem d_q_look_171 : decode b_q_look 171 = .ok (.invokevirtual 396, 3) := by decide +kernel
theorem d_q_look_174 : decode b_q_look 174 = .ok (.aload_n 0, 1) := by decide +kernel
theorem d_q_look_175 : decode b_q_look 175 = .ok (.bipush (6), 2) := by decide +kernel
theorem d_q_look_177 : decode b_q_look 177 = .ok (.iload 4, 2) := by decide +kernel
theorem d_q_look_179 : decode b_q_look 179 = .ok (.iconst 1, 1) := by decide +kernel
theorem d_q_look_180 : decode b_q_look 180 = .ok (.isub, 1) := by decide +kernel
theorem d_q_look_181 : decode b_q_look 181 = .ok (.iload 4, 2) := by decide +kernel
theorem d_q_look_183 : decode b_q_look 183 = .ok (.aload_n 0, 1) := by decide +kernel
theorem d_q_look_184 : decode b_q_look 184 = .ok (.getfield 78, 3) := by decide +kernel
theorem d_q_look_187 : decode b_q_look 187 = .ok (.iload 5, 2) := by decide +kernel
theorem d_q_look_189 : decode b_q_look 189 = .ok (.iaload, 1) := by decide +kernel
theorem d_q_look_190 : decode b_q_look 190 = .ok (.invokevirtual 460, 3) := by decide +kernel
theorem d_q_look_193 : decode b_q_look 193 = .ok (.goto (54), 3) := by decide +kernel
theorem d_q_look_196 : decode b_q_look 196 = .ok (.iinc 4 (-1), 3) := by decide +kernel
theorem d_q_look_199 : decode b_q_look 199 = .ok (.iload 6, 2) := by decide +kernel
theorem d_q_look_201 : decode b_q_look 201 = .ok (.bipush (8), 2) := by decide +kernel
theorem d_q_look_203 : decode b_q_look 203 = .ok (.if_icmp .ge (25), 3) := by decide +kernel
theorem d_q_look_206 : decode b_q_look 206 = .ok (.aload_n 0, 1) := by decide +kernel
theorem d_q_look_207 : decode b_q_look 207 = .ok (.iload 6, 2) := by decide +kernel
theorem d_q_look_209 : decode b_q_look 209 = .ok (.iload 4, 2) := by decide +kernel
theorem d_q_look_211 : decode b_q_look 211 = .ok (.iconst 1, 1) := by decide +kernel
theorem d_q_look_212 : decode b_q_look 212 = .ok (.isub, 1) := by decide +kernel
theorem d_q_look_213 : decode b_q_look 213 = .ok (.iload 4, 2) := by decide +kernel
theorem d_q_look_215 : decode b_q_look 215 = .ok (.aload_n 0, 1) := by decide +kernel
theorem d_q_look_216 : decode b_q_look 216 = .ok (.getfield 78, 3) := by decide +kernel
theorem d_q_look_219 : decode b_q_look 219 = .ok (.iload 5, 2) := by decide +kernel
theorem d_q_look_221 : decode b_q_look 221 = .ok (.iaload, 1) := by decide +kernel
theorem d_q_look_222 : decode b_q_look 222 = .ok (.invokevirtual 460, 3) := by decide +kernel
theorem d_q_look_225 : decode b_q_look 225 = .ok (.goto (22), 3) := by decide +kernel
theorem d_q_look_228 : decode b_q_look 228 = .ok (.aload_n 0, 1) := by decide +kernel
theorem d_q_look_229 : decode b_q_look 229 = .ok (.iload 6, 2) := by decide +kernel
theorem d_q_look_231 : decode b_q_look 231 = .ok (.iload 4, 2) := by decide +kernel
theorem d_q_look_233 : decode b_q_look 233 = .ok (.iconst 1, 1) := by decide +kernel
theorem d_q_look_234 : decode b_q_look 234 = .ok (.isub, 1) := by decide +kernel
theorem d_q_look_235 : decode b_q_look 235 = .ok (.iload 4, 2) := by decide +kernel
theorem d_q_look_237 : decode b_q_look 237 = .ok (.aload_n 0, 1) := by decide +kernel
theorem d_q_look_238 : decode b_q_look 238 = .ok (.getfield 78, 3) := by decide +kernel
theorem d_q_look_241 : decode b_q_look 241 = .ok (.iload 5, 2) := by decide +kernel
theorem d_q_look_243 : decode b_q_look 243 = .ok (.iaload, 1) := by decide +kernel
theorem d_q_look_244 : decode b_q_look 244 = .ok (.invokevirtual 464, 3) := by decide +kernel
theorem d_q_look_247 : decode b_q_look 247 = .ok (.aload_n 0, 1) := by decide +kernel
theorem d_q_look_248 : decode b_q_look 248 = .ok (.getfield 124, 3) := by decide +kernel
theorem d_q_look_251 : decode b_q_look 251 = .ok (.iload 4, 2) := by decide +kernel
theorem d_q_look_253 : decode b_q_look 253 = .ok (.iconst 1, 1) := by decide +kernel
theorem d_q_look_254 : decode b_q_look 254 = .ok (.isub, 1) := by decide +kernel
theorem d_q_look_255 : decode b_q_look 255 = .ok (.laload, 1) := by decide +kernel
theorem d_q_look_256 : decode b_q_look 256 = .ok (.lconst 0, 1) := by decide +kernel
theorem d_q_look_257 : decode b_q_look 257 = .ok (.lcmp, 1) := by decide +kernel
theorem d_q_look_258 : decode b_q_look 258 = .ok (.ifCond .ge (10), 3) := by decide +kernel
theorem d_q_look_261 : decode b_q_look 261 = .ok (.aload_n 0, 1) := by decide +kernel
theorem d_q_look_262 : decode b_q_look 262 = .ok (.iload_n 3, 1) := by decide +kernel
theorem d_q_look_263 : decode b_q_look 263 = .ok (.invokevirtual 393, 3) := by decide +kernel
theorem d_q_look_266 : decode b_q_look 266 = .ok (.iconst 0, 1) := by decide +kernel
theorem d_q_look_267 : decode b_q_look 267 = .ok (.ireturn, 1) := by decide +kernel
theorem d_q_look_268 : decode b_q_look 268 = .ok (.iinc 5 (1), 3) := by decide +kernel
theorem d_q_look_271 : decode b_q_look 271 = .ok (.goto (-265), 3) := by decide +kernel
theorem d_q_look_274 : decode b_q_look 274 = .ok (.iconst 1, 1) := by decide +kernel
theorem d_q_look_275 : decode b_q_look 275 = .ok (.ireturn, 1) := by decide +kernel
theorem kb_q_look {a0 : Nat} {a1 : Int32} {a2 : Int32} {a3 : Int32} {w : WW} {r : (Int32 × WW)} (h : f_q_look a0 a1 a2 a3 w = some r) : kb w a0 9 = true := (its h).1
set_option maxHeartbeats 4000000 in
set_option maxRecDepth 100000 in
theorem j_q_look_247 {p : Program} {l : Launch} {e : Env} {s : State} {m : MethodId} {args : Array Value} {below : List Frame} {meth : Method} {c : Code} {D : va_G} {cA : Nat → ClassId} {base : Nat} {r : Int32} {w' : WW} (C : cx b_q_look (some .boolean) 8 y_q_look.cls "look" p s m args meth c D cA base) {k_6 : Nat → Int32 → Int32 → Int32 → Int32 → WW → Option (Int32 × WW)} (hk_6 : ∀ (y0 : Nat) (y2 : Int32) (y3 : Int32) (y4 : Int32) (y5 : Int32) (w : WW), k_6 y0 y2 y3 y4 y5 w = some (r, w') → ∀ (H : Heap) (locs : List Loc) (ls : Array Slot), wo_S D cls cA base s w H locs → lv_has ls 8 [(0, .ref (base + y0)), (2, .int y2), (3, .int y3), (4, .int y4), (5, .int y5)] → W p l e rm_q_look s m args below meth c H locs 0 0 (MQ below (wo_Q D cls cA base (some (.int r)) w') args s rm_q_look.cells rm_q_look.slots (wo_B base)) (F0 m 6 ls [])) : ∀ (y0 : Nat) (y2 : Int32) (y3 : Int32) (y4 : Int32) (y5 : Int32) (w : WW), f_q_look_247 k_6 y0 y2 y3 y4 y5 w = some (r, w') → ∀ (H : Heap) (locs : List Loc) (ls : Array Slot), wo_S D cls cA base s w H locs → lv_has ls 8 [(0, .ref (base + y0)), (2, .int y2), (3, .int y3), (4, .int y4), (5, .int y5)] → W p l e rm_q_look s m args below meth c H locs 0 0 (MQ below (wo_Q D cls cA base (some (.int r)) w') args s rm_q_look.cells rm_q_look.slots (wo_B base)) (F0 m 247 ls []) := by
  obtain ⟨hx, hb, hr, hml, hown, hts, hlk, hnm, hK, hG⟩ := id C
  intro y0 y2 y3 y4 y5 w h H locs ls hW hl
  unfold f_q_look_247 at h
  refine lv_aload_n hx hb d_q_look_247 rfl (lv_at hl 0 rfl) ?_
  replace h := bs h
  obtain ⟨x15, hx15, h⟩ := h
  refine gf_q_124 hx hb hts hown hK hG hW (gN_s hx15) d_q_look_248 ?_
  refine lv_iload hx hb d_q_look_251 (lv_at hl 3 rfl) ?_
  refine lv_iconst (v := (1 : Int32)) hx hb d_q_look_253 (by decide) ?_
  refine lv_isub hx hb d_q_look_254 ?_
  replace h := bs h
  obtain ⟨x16, hx16, h⟩ := h
  refine wo_lald hx hb hK hW (t := 1) rfl hx16 d_q_look_255 ?_
  refine lv_lconst (v := (0 : Int64)) hx hb d_q_look_256 (by decide) ?_
  refine lc_ge (tgt := 268) hx hb d_q_look_257 d_q_look_258 (by decide) (fun c17 => ?_) (fun c17 => ?_)
  · rw [if_pos c17] at h
    refine lv_iinc (v := (y5 + (1 : Int32))) (lv' := [(5, .int (y5 + (1 : Int32))), (0, .ref (base + y0)), (2, .int y2), (3, .int y3), (4, .int y4)]) hx hb d_q_look_268 hl (k := 4) rfl rfl (by decide) rfl (fun ls hl => ?_)
    refine lv_goto (tgt := 6) hx hb d_q_look_271 (by decide) ?_
    exact hk_6 y0 y2 y3 y4 (y5 + (1 : Int32)) w h _ _ _ hW (lv_sub hl [1, 2, 3, 4, 0] rfl)
  · rw [if_neg c17] at h
    refine lv_aload_n hx hb d_q_look_261 rfl (lv_at hl 0 rfl) ?_
    refine lv_iload_n hx hb d_q_look_262 rfl (lv_at hl 2 rfl) ?_
    replace h := bs h
    obtain ⟨w18, hw18, h⟩ := h
    refine cv_q_393 (As := [.int y3]) (rest := []) hx hb hml hown hts hK hG hW (c_q_none l D cA base hw18) (kb_q_none hw18) ⟨Nat.le_of_ble_eq_true rfl, Nat.le_of_ble_eq_true rfl⟩ ⟨Nat.le_of_ble_eq_true rfl, Nat.le_of_ble_eq_true rfl⟩ rfl hl.1 rfl (Nat.le_of_ble_eq_true rfl) d_q_look_263 (fun H locs hW => ?_)
    refine lv_iconst (v := (0 : Int32)) hx hb d_q_look_266 (by decide) ?_
    replace h := its h
    obtain ⟨c19, h⟩ := h
    cases h
    exact wo_zret hx hb hr hlk hW c19 d_q_look_267
set_option maxHeartbeats 4000000 in
set_option maxRecDepth 100000 in
theorem j_q_look_129 {p : Program} {l : Launch} {e : Env} {s : State} {m : MethodId} {args : Array Value} {below : List Frame} {meth : Method} {c : Code} {D : va_G} {cA : Nat → ClassId} {base : Nat} {r : Int32} {w' : WW} (C : cx b_q_look (some .boolean) 8 y_q_look.cls "look" p s m args meth c D cA base) {k_6 : Nat → Int32 → Int32 → Int32 → Int32 → WW → Option (Int32 × WW)} (hk_6 : ∀ (y0 : Nat) (y2 : Int32) (y3 : Int32) (y4 : Int32) (y5 : Int32) (w : WW), k_6 y0 y2 y3 y4 y5 w = some (r, w') → ∀ (H : Heap) (locs : List Loc) (ls : Array Slot), wo_S D cls cA base s w H locs → lv_has ls 8 [(0, .ref (base + y0)), (2, .int y2), (3, .int y3), (4, .int y4), (5, .int y5)] → W p l e rm_q_look s m args below meth c H locs 0 0 (MQ below (wo_Q D cls cA base (some (.int r)) w') args s rm_q_look.cells rm_q_look.slots (wo_B base)) (F0 m 6 ls [])) : ∀ (y0 : Nat) (y2 : Int32) (y3 : Int32) (y4 : Int32) (y5 : Int32) (y7 : Int32) (w : WW), f_q_look_129 k_6 y0 y2 y3 y4 y5 y7 w = some (r, w') → ∀ (H : Heap) (locs : List Loc) (ls : Array Slot), wo_S D cls cA base s w H locs → lv_has ls 8 [(0, .ref (base + y0)), (2, .int y2), (3, .int y3), (4, .int y4), (5, .int y5), (7, .int y7)] → W p l e rm_q_look s m args below meth c H locs 0 0 (MQ below (wo_Q D cls cA base (some (.int r)) w') args s rm_q_look.cells rm_q_look.slots (wo_B base)) (F0 m 129 ls []) := by
  obtain ⟨hx, hb, hr, hml, hown, hts, hlk, hnm, hK, hG⟩ := id C
  intro y0 y2 y3 y4 y5 y7 w h H locs ls hW hl
  unfold f_q_look_129 at h
  refine lv_aload_n hx hb d_q_look_129 rfl (lv_at hl 0 rfl) ?_
  refine lv_iload hx hb d_q_look_130 (lv_at hl 3 rfl) ?_
  refine lv_iconst (v := (1 : Int32)) hx hb d_q_look_132 (by decide) ?_
  refine lv_isub hx hb d_q_look_133 ?_
  refine lv_iload hx hb d_q_look_134 (lv_at hl 5 rfl) ?_
  refine lv_iload hx hb d_q_look_136 (lv_at hl 3 rfl) ?_
  refine lv_iconst (v := (1 : Int32)) hx hb d_q_look_138 (by decide) ?_
  refine lv_isub hx hb d_q_look_139 ?_
  replace h := bs h
  obtain ⟨w31, hw31, h⟩ := h
  refine cv_q_457 (As := [.int (y4 - (1 : Int32)), .int y7, .int (y4 - (1 : Int32))]) (rest := []) hx hb hml hown hts hK hG hW (c_q_readCells l D cA base hw31) (kb_q_readCells hw31) ⟨Nat.le_of_ble_eq_true rfl, Nat.le_of_ble_eq_true rfl⟩ ⟨Nat.le_of_ble_eq_true rfl, Nat.le_of_ble_eq_true rfl⟩ rfl hl.1 rfl (Nat.le_of_ble_eq_true rfl) d_q_look_140 (fun H locs hW => ?_)
  refine lv_goto (tgt := 247) hx hb d_q_look_143 (by decide) ?_
  exact j_q_look_247 C hk_6 y0 y2 y3 y4 y5 w31 h _ _ _ hW (lv_sub hl [0, 1, 2, 3, 4] rfl)
set_option maxHeartbeats 4000000 in
set_option maxRecDepth 100000 in
theorem j_q_look_86 {p : Program} {l : Launch} {e : Env} {s : State} {m : MethodId} {args : Array Value} {below : List Frame} {meth : Method} {c : Code} {D : va_G} {cA : Nat → ClassId} {base : Nat} {r : Int32} {w' : WW} (C : cx b_q_look (some .boolean) 8 y_q_look.cls "look" p s m args meth c D cA base) {k_6 : Nat → Int32 → Int32 → Int32 → Int32 → WW → Option (Int32 × WW)} (hk_6 : ∀ (y0 : Nat) (y2 : Int32) (y3 : Int32) (y4 : Int32) (y5 : Int32) (w : WW), k_6 y0 y2 y3 y4 y5 w = some (r, w') → ∀ (H : Heap) (locs : List Loc) (ls : Array Slot), wo_S D cls cA base s w H locs → lv_has ls 8 [(0, .ref (base + y0)), (2, .int y2), (3, .int y3), (4, .int y4), (5, .int y5)] → W p l e rm_q_look s m args below meth c H locs 0 0 (MQ below (wo_Q D cls cA base (some (.int r)) w') args s rm_q_look.cells rm_q_look.slots (wo_B base)) (F0 m 6 ls [])) : ∀ (y0 : Nat) (y2 : Int32) (y3 : Int32) (y4 : Int32) (y5 : Int32) (y7 : Int32) (w : WW), f_q_look_86 k_6 y0 y2 y3 y4 y5 y7 w = some (r, w') → ∀ (H : Heap) (locs : List Loc) (ls : Array Slot), wo_S D cls cA base s w H locs → lv_has ls 8 [(0, .ref (base + y0)), (2, .int y2), (3, .int y3), (4, .int y4), (5, .int y5), (7, .int y7)] → W p l e rm_q_look s m args below meth c H locs 0 0 (MQ below (wo_Q D cls cA base (some (.int r)) w') args s rm_q_look.cells rm_q_look.slots (wo_B base)) (F0 m 86 ls []) := by
  obtain ⟨hx, hb, hr, hml, hown, hts, hlk, hnm, hK, hG⟩ := id C
  intro y0 y2 y3 y4 y5 y7 w h H locs ls hW hl
  unfold f_q_look_86 at h
  refine lv_aload_n hx hb d_q_look_86 rfl (lv_at hl 0 rfl) ?_
  refine lv_iload hx hb d_q_look_87 (lv_at hl 3 rfl) ?_
  refine lv_iload hx hb d_q_look_89 (lv_at hl 5 rfl) ?_
  replace h := bs h
  obtain ⟨w38, hw38, h⟩ := h
  refine cv_q_400 (As := [.int y4, .int y7]) (rest := []) hx hb hml hown hts hK hG hW (c_q_copy l D cA base hw38) (kb_q_copy hw38) ⟨Nat.le_of_ble_eq_true rfl, Nat.le_of_ble_eq_true rfl⟩ ⟨Nat.le_of_ble_eq_true rfl, Nat.le_of_ble_eq_true rfl⟩ rfl hl.1 rfl (Nat.le_of_ble_eq_true rfl) d_q_look_91 (fun H locs hW => ?_)
  refine lv_iinc (v := (y4 + (1 : Int32))) (lv' := [(4, .int (y4 + (1 : Int32))), (0, .ref (base + y0)), (2, .int y2), (3, .int y3), (5, .int y5), (7, .int y7)]) hx hb d_q_look_94 hl (k := 3) rfl rfl (by decide) rfl (fun ls hl => ?_)
  refine lv_goto (tgt := 247) hx hb d_q_look_97 (by decide) ?_
  exact j_q_look_247 C hk_6 y0 y2 y3 (y4 + (1 : Int32)) y5 w38 h _ _ _ hW (lv_sub hl [1, 2, 3, 0, 4] rfl)
set_option maxHeartbeats 4000000 in
set_option maxRecDepth 100000 in
theorem j_q_look_6 {p : Program} {l : Launch} {e : Env} {s : State} {m : MethodId} {args : Array Value} {below : List Frame} {meth : Method} {c : Code} {D : va_G} {cA : Nat → ClassId} {base : Nat} {r : Int32} {w' : WW} (C : cx b_q_look (some .boolean) 8 y_q_look.cls "look" p s m args meth c D cA base)   : ∀ n : Nat, ∀ (y0 : Nat) (y2 : Int32) (y3 : Int32) (y4 : Int32) (y5 : Int32) (w : WW), f_q_look_6 n y0 y2 y3 y4 y5 w = some (r, w') → ∀ (H : Heap) (locs : List Loc) (ls : Array Slot), wo_S D cls cA base s w H locs → lv_has ls 8 [(0, .ref (base + y0)), (2, .int y2), (3, .int y3), (4, .int y4), (5, .int y5)] → W p l e rm_q_look s m args below meth c H locs 0 0 (MQ below (wo_Q D cls cA base (some (.int r)) w') args s rm_q_look.cells rm_q_look.slots (wo_B base)) (F0 m 6 ls []) := by
  obtain ⟨hx, hb, hr, hml, hown, hts, hlk, hnm, hK, hG⟩ := id C
  intro n
  induction n with
  | zero => intro y0 y2 y3 y4 y5 w h; cases h
  | succ n ih =>
    intro y0 y2 y3 y4 y5 w h H locs ls hW hl
    rw [f_q_look_6] at h
    refine lv_iload hx hb d_q_look_6 (lv_at hl 4 rfl) ?_
    refine lv_iload_n hx hb d_q_look_8 rfl (lv_at hl 1 rfl) ?_
    refine lv_icmp_ge (tgt := 274) hx hb d_q_look_9 (by decide) (fun c1 => ?_) (fun c1 => ?_)
    · rw [if_pos c1] at h
      refine lv_iconst (v := (1 : Int32)) hx hb d_q_look_274 (by decide) ?_
      replace h := its h
      obtain ⟨c2, h⟩ := h
      cases h
      exact wo_zret hx hb hr hlk hW c2 d_q_look_275
    · rw [if_neg c1] at h
      refine lv_aload_n hx hb d_q_look_12 rfl (lv_at hl 0 rfl) ?_
      replace h := bs h
      obtain ⟨x3, hx3, h⟩ := h
      refine gf_q_72 hx hb hts hown hK hG hW (gN_s hx3) d_q_look_13 ?_
      refine lv_iload hx hb d_q_look_16 (lv_at hl 4 rfl) ?_
      replace h := bs h
      obtain ⟨x4, hx4, h⟩ := h
      refine wo_iald hx hb hK hW (t := 0) rfl hx4 d_q_look_18 ?_
      refine lv_istore (lv' := [(6, .int x4), (0, .ref (base + y0)), (2, .int y2), (3, .int y3), (4, .int y4), (5, .int y5)]) hx hb d_q_look_19 hl (by decide) rfl (fun ls hl => ?_)
      refine lv_aload_n hx hb d_q_look_21 rfl (lv_at hl 1 rfl) ?_
      replace h := bs h
      obtain ⟨x5, hx5, h⟩ := h
      refine gf_q_75 hx hb hts hown hK hG hW (gN_s hx5) d_q_look_22 ?_
      refine lv_iload hx hb d_q_look_25 (lv_at hl 5 rfl) ?_
      replace h := bs h
      obtain ⟨x6, hx6, h⟩ := h
      refine wo_iald hx hb hK hW (t := 0) rfl hx6 d_q_look_27 ?_
      refine lv_istore (lv' := [(7, .int x6), (6, .int x4), (0, .ref (base + y0)), (2, .int y2), (3, .int y3), (4, .int y4), (5, .int y5)]) hx hb d_q_look_28 hl (by decide) rfl (fun ls hl => ?_)
      refine lv_iload hx hb d_q_look_30 (lv_at hl 1 rfl) ?_
      refine lv_iconst (v := (1 : Int32)) hx hb d_q_look_32 (by decide) ?_
      refine lv_icmp_ne (tgt := 58) hx hb d_q_look_33 (by decide) (fun c7 => ?_) (fun c7 => ?_)
      · rw [if_neg c7] at h
        refine lv_iload hx hb d_q_look_58 (lv_at hl 1 rfl) ?_
        refine lv_iconst (v := (2 : Int32)) hx hb d_q_look_60 (by decide) ?_
        refine lv_icmp_ne (tgt := 100) hx hb d_q_look_61 (by decide) (fun c8 => ?_) (fun c8 => ?_)
        · rw [if_neg c8] at h
          refine lv_iload hx hb d_q_look_100 (lv_at hl 1 rfl) ?_
          refine lv_iconst (v := (3 : Int32)) hx hb d_q_look_102 (by decide) ?_
          refine lv_icmp_ne (tgt := 146) hx hb d_q_look_103 (by decide) (fun c9 => ?_) (fun c9 => ?_)
          · rw [if_neg c9] at h
            refine lv_iload hx hb d_q_look_146 (lv_at hl 1 rfl) ?_
            refine lv_iconst (v := (4 : Int32)) hx hb d_q_look_148 (by decide) ?_
            refine lv_icmp_ne (tgt := 196) hx hb d_q_look_149 (by decide) (fun c10 => ?_) (fun c10 => ?_)
            · rw [if_neg c10] at h
              refine lv_iinc (v := (y4 + (-1 : Int32))) (lv' := [(4, .int (y4 + (-1 : Int32))), (7, .int x6), (6, .int x4), (0, .ref (base + y0)), (2, .int y2), (3, .int y3), (5, .int y5)]) hx hb d_q_look_196 hl (k := 5) rfl rfl (by decide) rfl (fun ls hl => ?_)
              refine lv_iload hx hb d_q_look_199 (lv_at hl 2 rfl) ?_
              refine lv_bipush (v := (8 : Int32)) hx hb d_q_look_201 (by decide) ?_
              refine lv_icmp_ge (tgt := 228) hx hb d_q_look_203 (by decide) (fun c11 => ?_) (fun c11 => ?_)
              · rw [if_pos c11] at h
                refine lv_aload_n hx hb d_q_look_228 rfl (lv_at hl 3 rfl) ?_
                refine lv_iload hx hb d_q_look_229 (lv_at hl 2 rfl) ?_
                refine lv_iload hx hb d_q_look_231 (lv_at hl 0 rfl) ?_
                refine lv_iconst (v := (1 : Int32)) hx hb d_q_look_233 (by decide) ?_
                refine lv_isub hx hb d_q_look_234 ?_
                refine lv_iload hx hb d_q_look_235 (lv_at hl 0 rfl) ?_
                refine lv_aload_n hx hb d_q_look_237 rfl (lv_at hl 3 rfl) ?_
                replace h := bs h
                obtain ⟨x12, hx12, h⟩ := h
                refine gf_q_78 hx hb hts hown hK hG hW (gN_s hx12) d_q_look_238 ?_
                refine lv_iload hx hb d_q_look_241 (lv_at hl 6 rfl) ?_
                replace h := bs h
                obtain ⟨x13, hx13, h⟩ := h
                refine wo_iald hx hb hK hW (t := 0) rfl hx13 d_q_look_243 ?_
                replace h := bs h
                obtain ⟨w14, hw14, h⟩ := h
                refine cv_q_464 (As := [.int x4, .int ((y4 + (-1 : Int32)) - (1 : Int32)), .int (y4 + (-1 : Int32)), .int x13]) (rest := []) hx hb hml hown hts hK hG hW (c_q_quotient l D cA base hw14) (kb_q_quotient hw14) ⟨Nat.le_of_ble_eq_true rfl, Nat.le_of_ble_eq_true rfl⟩ ⟨Nat.le_of_ble_eq_true rfl, Nat.le_of_ble_eq_true rfl⟩ rfl hl.1 rfl (Nat.le_of_ble_eq_true rfl) d_q_look_244 (fun H locs hW => ?_)
                exact j_q_look_247 C ih y0 y2 y3 (y4 + (-1 : Int32)) y5 w14 h _ _ _ hW (lv_sub hl [3, 4, 5, 0, 6] rfl)
              · rw [if_neg c11] at h
                refine lv_aload_n hx hb d_q_look_206 rfl (lv_at hl 3 rfl) ?_
                refine lv_iload hx hb d_q_look_207 (lv_at hl 2 rfl) ?_
                refine lv_iload hx hb d_q_look_209 (lv_at hl 0 rfl) ?_
                refine lv_iconst (v := (1 : Int32)) hx hb d_q_look_211 (by decide) ?_
                refine lv_isub hx hb d_q_look_212 ?_
                refine lv_iload hx hb d_q_look_213 (lv_at hl 0 rfl) ?_
                refine lv_aload_n hx hb d_q_look_215 rfl (lv_at hl 3 rfl) ?_
                replace h := bs h
                obtain ⟨x20, hx20, h⟩ := h
                refine gf_q_78 hx hb hts hown hK hG hW (gN_s hx20) d_q_look_216 ?_
                refine lv_iload hx hb d_q_look_219 (lv_at hl 6 rfl) ?_
                replace h := bs h
                obtain ⟨x21, hx21, h⟩ := h
                refine wo_iald hx hb hK hW (t := 0) rfl hx21 d_q_look_221 ?_
                replace h := bs h
                obtain ⟨w22, hw22, h⟩ := h
                refine cv_q_460 (As := [.int x4, .int ((y4 + (-1 : Int32)) - (1 : Int32)), .int (y4 + (-1 : Int32)), .int x21]) (rest := []) hx hb hml hown hts hK hG hW (c_q_sum l D cA base hw22) (kb_q_sum hw22) ⟨Nat.le_of_ble_eq_true rfl, Nat.le_of_ble_eq_true rfl⟩ ⟨Nat.le_of_ble_eq_true rfl, Nat.le_of_ble_eq_true rfl⟩ rfl hl.1 rfl (Nat.le_of_ble_eq_true rfl) d_q_look_222 (fun H locs hW => ?_)
                refine lv_goto (tgt := 247) hx hb d_q_look_225 (by decide) ?_
                exact j_q_look_247 C ih y0 y2 y3 (y4 + (-1 : Int32)) y5 w22 h _ _ _ hW (lv_sub hl [3, 4, 5, 0, 6] rfl)
            · rw [if_pos c10] at h
              refine lv_aload_n hx hb d_q_look_152 rfl (lv_at hl 2 rfl) ?_
              refine lv_iload hx hb d_q_look_153 (lv_at hl 5 rfl) ?_
              refine lv_iload hx hb d_q_look_155 (lv_at hl 5 rfl) ?_
              refine lv_iconst (v := (1 : Int32)) hx hb d_q_look_157 (by decide) ?_
              refine lv_isub hx hb d_q_look_158 ?_
              replace h := bs h
              obtain ⟨w23, hw23, h⟩ := h
              refine cv_q_400 (As := [.int y4, .int (y4 - (1 : Int32))]) (rest := []) hx hb hml hown hts hK hG hW (c_q_copy l D cA base hw23) (kb_q_copy hw23) ⟨Nat.le_of_ble_eq_true rfl, Nat.le_of_ble_eq_true rfl⟩ ⟨Nat.le_of_ble_eq_true rfl, Nat.le_of_ble_eq_true rfl⟩ rfl hl.1 rfl (Nat.le_of_ble_eq_true rfl) d_q_look_159 (fun H locs hW => ?_)
              refine lv_aload_n hx hb d_q_look_162 rfl (lv_at hl 2 rfl) ?_
              refine lv_iload hx hb d_q_look_163 (lv_at hl 5 rfl) ?_
              refine lv_iconst (v := (1 : Int32)) hx hb d_q_look_165 (by decide) ?_
              refine lv_isub hx hb d_q_look_166 ?_
              refine lv_lconst (v := (0 : Int64)) hx hb d_q_look_167 (by decide) ?_
              refine lv_lconst (v := (0 : Int64)) hx hb d_q_look_168 (by decide) ?_
              refine lv_lconst (v := (0 : Int64)) hx hb d_q_look_169 (by decide) ?_
              refine lv_lconst (v := (0 : Int64)) hx hb d_q_look_170 (by decide) ?_
              replace h := bs h
              obtain ⟨w24, hw24, h⟩ := h
              refine cv_q_396 (As := [.int (y4 - (1 : Int32)), .long (0 : Int64), .long (0 : Int64), .long (0 : Int64), .long (0 : Int64)]) (rest := []) hx hb hml hown hts hK hG hW (c_q_put4 l D cA base hw24) (kb_q_put4 hw24) ⟨Nat.le_of_ble_eq_true rfl, Nat.le_of_ble_eq_true rfl⟩ ⟨Nat.le_of_ble_eq_true rfl, Nat.le_of_ble_eq_true rfl⟩ rfl hl.1 rfl (Nat.le_of_ble_eq_true rfl) d_q_look_171 (fun H locs hW => ?_)
              refine lv_aload_n hx hb d_q_look_174 rfl (lv_at hl 2 rfl) ?_
              refine lv_bipush (v := (6 : Int32)) hx hb d_q_look_175 (by decide) ?_
              refine lv_iload hx hb d_q_look_177 (lv_at hl 5 rfl) ?_
              refine lv_iconst (v := (1 : Int32)) hx hb d_q_look_179 (by decide) ?_
              refine lv_isub hx hb d_q_look_180 ?_
              refine lv_iload hx hb d_q_look_181 (lv_at hl 5 rfl) ?_
              refine lv_aload_n hx hb d_q_look_183 rfl (lv_at hl 2 rfl) ?_
              replace h := bs h
              obtain ⟨x25, hx25, h⟩ := h
              refine gf_q_78 hx hb hts hown hK hG hW (gN_s hx25) d_q_look_184 ?_
              refine lv_iload hx hb d_q_look_187 (lv_at hl 6 rfl) ?_
              replace h := bs h
              obtain ⟨x26, hx26, h⟩ := h
              refine wo_iald hx hb hK hW (t := 0) rfl hx26 d_q_look_189 ?_
              replace h := bs h
              obtain ⟨w27, hw27, h⟩ := h
              refine cv_q_460 (As := [.int (6 : Int32), .int (y4 - (1 : Int32)), .int y4, .int x26]) (rest := []) hx hb hml hown hts hK hG hW (c_q_sum l D cA base hw27) (kb_q_sum hw27) ⟨Nat.le_of_ble_eq_true rfl, Nat.le_of_ble_eq_true rfl⟩ ⟨Nat.le_of_ble_eq_true rfl, Nat.le_of_ble_eq_true rfl⟩ rfl hl.1 rfl (Nat.le_of_ble_eq_true rfl) d_q_look_190 (fun H locs hW => ?_)
              refine lv_goto (tgt := 247) hx hb d_q_look_193 (by decide) ?_
              exact j_q_look_247 C ih y0 y2 y3 y4 y5 w27 h _ _ _ hW (lv_sub hl [2, 3, 4, 5, 6] rfl)
          · rw [if_pos c9] at h
            refine lv_aload_n hx hb d_q_look_106 rfl (lv_at hl 2 rfl) ?_
            refine lv_iload hx hb d_q_look_107 (lv_at hl 5 rfl) ?_
            refine lv_iconst (v := (1 : Int32)) hx hb d_q_look_109 (by decide) ?_
            refine lv_isub hx hb d_q_look_110 ?_
            replace h := bs2 h
            obtain ⟨x29, w28, hw28, h⟩ := h
            refine cv_q_454 (As := [.int (y4 - (1 : Int32))]) (rest := []) hx hb hml hown hts hK hG hW (c_q_isBeyond l D cA base hw28) (kb_q_isBeyond hw28) ⟨Nat.le_of_ble_eq_true rfl, Nat.le_of_ble_eq_true rfl⟩ ⟨Nat.le_of_ble_eq_true rfl, Nat.le_of_ble_eq_true rfl⟩ rfl hl.1 rfl (Nat.le_of_ble_eq_true rfl) d_q_look_111 (fun H locs hW => ?_)
            refine lv_if_eq (tgt := 129) hx hb d_q_look_114 (by decide) (fun c30 => ?_) (fun c30 => ?_)
            · rw [if_pos c30] at h
              exact j_q_look_129 C ih y0 y2 y3 y4 y5 x6 w28 h _ _ _ hW (lv_sub hl [2, 3, 4, 5, 6, 0] rfl)
            · rw [if_neg c30] at h
              refine lv_aload_n hx hb d_q_look_117 rfl (lv_at hl 2 rfl) ?_
              refine lv_iconst (v := (2 : Int32)) hx hb d_q_look_118 (by decide) ?_
              refine lv_aload_n hx hb d_q_look_119 rfl (lv_at hl 2 rfl) ?_
              replace h := bs h
              obtain ⟨x32, hx32, h⟩ := h
              refine gf_q_78 hx hb hts hown hK hG hW (gN_s hx32) d_q_look_120 ?_
              refine lv_iload hx hb d_q_look_123 (lv_at hl 6 rfl) ?_
              replace h := bs h
              obtain ⟨x33, hx33, h⟩ := h
              refine wo_iald hx hb hK hW (t := 0) rfl hx33 d_q_look_125 ?_
              replace h := bs h
              obtain ⟨w34, hw34, h⟩ := h
              refine cv_q_442 (As := [.int (2 : Int32), .int x33]) (rest := []) hx hb hml hown hts hK hG hW (c_q_warn l D cA base hw34) (kb_q_warn hw34) ⟨Nat.le_of_ble_eq_true rfl, Nat.le_of_ble_eq_true rfl⟩ ⟨Nat.le_of_ble_eq_true rfl, Nat.le_of_ble_eq_true rfl⟩ rfl hl.1 rfl (Nat.le_of_ble_eq_true rfl) d_q_look_126 (fun H locs hW => ?_)
              exact j_q_look_129 C ih y0 y2 y3 y4 y5 x6 w34 h _ _ _ hW (lv_sub hl [2, 3, 4, 5, 6, 0] rfl)
        · rw [if_pos c8] at h
          refine lv_aload_n hx hb d_q_look_64 rfl (lv_at hl 2 rfl) ?_
          replace h := bs h
          obtain ⟨x35, hx35, h⟩ := h
          refine gf_q_130 hx hb hts hown hK hG hW (gN_s hx35) d_q_look_65 ?_
          refine lv_iload hx hb d_q_look_68 (lv_at hl 0 rfl) ?_
          replace h := bs h
          obtain ⟨x36, hx36, h⟩ := h
          refine wo_zald hx hb hK hW (t := 2) rfl hx36 d_q_look_70 ?_
          refine lv_if_eq (tgt := 86) hx hb d_q_look_71 (by decide) (fun c37 => ?_) (fun c37 => ?_)
          · rw [if_pos c37] at h
            exact j_q_look_86 C ih y0 y2 y3 y4 y5 x6 w h _ _ _ hW (lv_sub hl [2, 3, 4, 5, 6, 0] rfl)
          · rw [if_neg c37] at h
            refine lv_aload_n hx hb d_q_look_74 rfl (lv_at hl 2 rfl) ?_
            refine lv_iconst (v := (1 : Int32)) hx hb d_q_look_75 (by decide) ?_
            refine lv_aload_n hx hb d_q_look_76 rfl (lv_at hl 2 rfl) ?_
            replace h := bs h
            obtain ⟨x39, hx39, h⟩ := h
            refine gf_q_78 hx hb hts hown hK hG hW (gN_s hx39) d_q_look_77 ?_
            refine lv_iload hx hb d_q_look_80 (lv_at hl 6 rfl) ?_
            replace h := bs h
            obtain ⟨x40, hx40, h⟩ := h
            refine wo_iald hx hb hK hW (t := 0) rfl hx40 d_q_look_82 ?_
            replace h := bs h
            obtain ⟨w41, hw41, h⟩ := h
            refine cv_q_442 (As := [.int (1 : Int32), .int x40]) (rest := []) hx hb hml hown hts hK hG hW (c_q_warn l D cA base hw41) (kb_q_warn hw41) ⟨Nat.le_of_ble_eq_true rfl, Nat.le_of_ble_eq_true rfl⟩ ⟨Nat.le_of_ble_eq_true rfl, Nat.le_of_ble_eq_true rfl⟩ rfl hl.1 rfl (Nat.le_of_ble_eq_true rfl) d_q_look_83 (fun H locs hW => ?_)
            exact j_q_look_86 C ih y0 y2 y3 y4 y5 x6 w41 h _ _ _ hW (lv_sub hl [2, 3, 4, 5, 6, 0] rfl)
      · rw [if_pos c7] at h
        refine lv_aload_n hx hb d_q_look_36 rfl (lv_at hl 2 rfl) ?_
        refine lv_iload hx hb d_q_look_37 (lv_at hl 5 rfl) ?_
        refine lv_iload hx hb d_q_look_39 (lv_at hl 0 rfl) ?_
        refine lv_i2l hx hb d_q_look_41 rfl ?_
        refine lv_iload hx hb d_q_look_42 (lv_at hl 0 rfl) ?_
        refine lv_i2l hx hb d_q_look_44 rfl ?_
        refine lv_lconst (v := (0 : Int64)) hx hb d_q_look_45 (by decide) ?_
        refine lv_iload hx hb d_q_look_46 (lv_at hl 0 rfl) ?_
        refine lv_i2l hx hb d_q_look_48 rfl ?_
        replace h := bs h
        obtain ⟨w42, hw42, h⟩ := h
        refine cv_q_396 (As := [.int y4, .long (Int32.toInt64 x6), .long (Int32.toInt64 x6), .long (0 : Int64), .long (Int32.toInt64 x6)]) (rest := []) hx hb hml hown hts hK hG hW (c_q_put4 l D cA base hw42) (kb_q_put4 hw42) ⟨Nat.le_of_ble_eq_true rfl, Nat.le_of_ble_eq_true rfl⟩ ⟨Nat.le_of_ble_eq_true rfl, Nat.le_of_ble_eq_true rfl⟩ rfl hl.1 rfl (Nat.le_of_ble_eq_true rfl) d_q_look_49 (fun H locs hW => ?_)
        refine lv_iinc (v := (y4 + (1 : Int32))) (lv' := [(4, .int (y4 + (1 : Int32))), (7, .int x6), (6, .int x4), (0, .ref (base + y0)), (2, .int y2), (3, .int y3), (5, .int y5)]) hx hb d_q_look_52 hl (k := 5) rfl rfl (by decide) rfl (fun ls hl => ?_)
        refine lv_goto (tgt := 247) hx hb d_q_look_55 (by decide) ?_
        exact j_q_look_247 C ih y0 y2 y3 (y4 + (1 : Int32)) y5 w42 h _ _ _ hW (lv_sub hl [3, 4, 5, 0, 6] rfl)
set_option maxHeartbeats 4000000 in
set_option maxRecDepth 100000 in
theorem c_q_look (l : Launch) (D : va_G) (cA : Nat → ClassId) (base : Nat) {a0 : Nat} {a1 : Int32} {a2 : Int32} {a3 : Int32} {w w' : WW} {r : Int32} (h : f_q_look a0 a1 a2 a3 w = some (r, w')) : mt l D cls (wo_tys cA) cA base y_q_look (Cond.code y_q_look b_q_look 8 (some .boolean) :: gt) rm_q_look [.ref (base + a0), .int a1, .int a2, .int a3] w (some (.int r)) w' rm_q_look.cells rm_q_look.slots := by
  refine mt_start (by decide) (Nat.le_of_ble_eq_true rfl) ?_
  intro p e s m below meth c ls hx hb hr hml hown hts hlk hnm hK hG hW hl
  have C : cx b_q_look (some .boolean) 8 y_q_look.cls "look" p s m [.ref (base + a0), .int a1, .int a2, .int a3].toArray meth c D cA base := ⟨hx, hb, hr, hml, hown, hts, hlk, hnm, hK, hG⟩
  have hl : lv_has ls 8 [(0, .ref (base + a0)), (1, .int a1), (2, .int a2), (3, .int a3)] := hl
  unfold f_q_look at h
  replace h := its h
  obtain ⟨-, h⟩ := h
  refine lv_iload_n hx hb d_q_look_0 rfl (lv_at hl 3 rfl) ?_
  refine lv_istore (lv' := [(4, .int a3), (0, .ref (base + a0)), (1, .int a1), (2, .int a2), (3, .int a3)]) hx hb d_q_look_1 hl (by decide) rfl (fun ls hl => ?_)
  refine lv_iload_n hx hb d_q_look_3 rfl (lv_at hl 2 rfl) ?_
  refine lv_istore (lv' := [(5, .int a1), (4, .int a3), (0, .ref (base + a0)), (1, .int a1), (2, .int a2), (3, .int a3)]) hx hb d_q_look_4 hl (by decide) rfl (fun ls hl => ?_)
  exact j_q_look_6 C KK a0 a2 a3 a3 a1 w h _ _ _ hW (lv_sub hl [2, 4, 5, 1, 0] rfl)
abbrev b_q_meet : ByteArray := prog_11_method_59_code
def y_q_meet : MethodName := ⟨"AlarmForgeModel", "meet", "(III)V"⟩
def rm_q_meet : Room := { frames := 2, cells := 0, slots := 0, locals := 66 }
theorem d_q_meet_0 : decode b_q_meet 0 = .ok (.aload_n 0, 1) := by decide +kernel
theorem d_q_meet_1 : decode b_q_meet 1 = .ok (.getfield 124, 3) := by decide +kernel
theorem d_q_meet_4 : decode b_q_meet 4 = .ok (.iload_n 2, 1) := by decide +kernel
theorem d_q_meet_5 : decode b_q_meet 5 = .ok (.laload, 1) := by decide +kernel
theorem d_q_meet_6 : decode b_q_meet 6 = .ok (.lconst 0, 1) := by decide +kernel
theorem d_q_meet_7 : decode b_q_meet 7 = .ok (.lcmp, 1) := by decide +kernel
theorem d_q_meet_8 : decode b_q_meet 8 = .ok (.ifCond .lt (14), 3) := by decide +kernel
theorem d_q_meet_11 : decode b_q_meet 11 = .ok (.aload_n 0, 1) := by decide +kernel
theorem d_q_meet_12 : decode b_q_meet 12 = .ok (.getfield 124, 3) := by decide +kernel
theorem d_q_meet_15 : decode b_q_meet 15 = .ok (.iload_n 3, 1) := by decide +kernel
theorem d_q_meet_16 : decode b_q_meet 16 = .ok (.laload, 1) := by decide +kernel
theorem d_q_meet_17 : decode b_q_meet 17 = .ok (.lconst 0, 1) := by decide +kernel
theorem d_q_meet_18 : decode b_q_meet 18 = .ok (.lcmp, 1) := by decide +kernel
theorem d_q_meet_19 : decode b_q_meet 19 = .ok (.ifCond .ge (9), 3) := by decide +kernel
theorem d_q_meet_22 : decode b_q_meet 22 = .ok (.aload_n 0, 1) := by decide +kernel
theorem d_q_meet_23 : decode b_q_meet 23 = .ok (.iload_n 1, 1) := by decide +kernel
theorem d_q_meet_24 : decode b_q_meet 24 = .ok (.invokevirtual 393, 3) := by decide +kernel
theorem d_q_meet_27 : decode b_q_meet 27 = .ok (.return_, 1) := by decide +kernel
theorem d_q_meet_28 : decode b_q_meet 28 = .ok (.aload_n 0, 1) := by decide +kernel
theorem d_q_meet_29 : decode b_q_meet 29 = .ok (.getfield 117, 3) := by decide +kernel
theorem d_q_meet_32 : decode b_q_meet 32 = .ok (.iload_n 2, 1) := by decide +kernel
theorem d_q_meet_33 : decode b_q_meet 33 = .ok (.laload, 1) := by decide +kernel
theorem d_q_meet_34 : decode b_q_meet 34 = .ok (.aload_n 0, 1) := by decide +kernel
theorem d_q_meet_35 : decode b_q_meet 35 = .ok (.getfield 117, 3) := by decide +kernel
theorem d_q_meet_38 : decode b_q_meet 38 = .ok (.iload_n 3, 1) := by decide +kernel
theorem d_q_meet_39 : decode b_q_meet 39 = .ok (.laload, 1) := by decide +kernel
theorem d_q_meet_40 : decode b_q_meet 40 = .ok (.lcmp, 1) := by decide +kernel
theorem d_q_meet_41 : decode b_q_meet 41 = .ok (.ifCond .le (12), 3) := by decide +kernel
theorem d_q_meet_44 : decode b_q_meet 44 = .ok (.aload_n 0, 1) := by decide +kernel
theorem d_q_meet_45 : decode b_q_meet 45 = .ok (.getfield 117, 3) := by decide +kernel
theorem d_q_meet_48 : decode b_q_meet 48 = .ok (.iload_n 2, 1) := by decide +kernel
theorem d_q_meet_49 : decode b_q_meet 49 = .ok (.laload, 1) := by decide +kernel
theorem d_q_meet_50 : decode b_q_meet 50 = .ok (.goto (9), 3) := by decide +kernel
theorem d_q_meet_53 : decode b_q_meet 53 = .ok (.aload_n 0, 1) := by decide +kernel
theorem d_q_meet_54 : decode b_q_meet 54 = .ok (.getfield 117, 3) := by decide +kernel
theorem d_q_meet_57 : decode b_q_meet 57 = .ok (.iload_n 3, 1) := by decide +kernel
theorem d_q_meet_58 : decode b_q_meet 58 = .ok (.laload, 1) := by decide +kernel
theorem d_q_meet_59 : decode b_q_meet 59 = .ok (.lstore 4, 2) := by decide +kernel
theorem d_q_meet_61 : decode b_q_meet 61 = .ok (.aload_n 0, 1) := by decide +kernel
theorem d_q_meet_62 : decode b_q_meet 62 = .ok (.getfield 121, 3) := by decide +kernel
theorem d_q_meet_65 : decode b_q_meet 65 = .ok (.iload_n 2, 1) := by decide +kernel
theorem d_q_meet_66 : decode b_q_meet 66 = .ok (.laload, 1) := by decide +kernel
theorem d_q_meet_67 : decode b_q_meet 67 = .ok (.aload_n 0, 1) := by decide +kernel
theorem d_q_meet_68 : decode b_q_meet 68 = .ok (.getfield 121, 3) := by decide +kernel
theorem d_q_meet_71 : decode b_q_meet 71 = .ok (.iload_n 3, 1) := by decide +kernel
theorem d_q_meet_72 : decode b_q_meet 72 = .ok (.laload, 1) := by decide +kernel
theorem d_q_meet_73 : decode b_q_meet 73 = .ok (.lcmp, 1) := by decide +kernel
theorem d_q_meet_74 : decode b_q_meet 74 = .ok (.ifCond .ge (12), 3) := by decide +kernel
theorem d_q_meet_77 : decode b_q_meet 77 = .ok (.aload_n 0, 1) := by decide +kernel
theorem d_q_meet_78 : decode b_q_meet 78 = .ok (.getfield 121, 3) := by decide +kernel
theorem d_q_meet_81 : decode b_q_meet 81 = .ok (.iload_n 2, 1) := by decide +kernel
theorem d_q_meet_82 : decode b_q_meet 82 = .ok (.laload, 1) := by decide +kernel
theorem d_q_meet_83 : decode b_q_meet 83 = .ok (.goto (9), 3) := by decide +kernel
theorem d_q_meet_86 : decode b_q_meet 86 = .ok (.aload_n 0, 1) := by decide +kernel
theorem d_q_meet_87 : decode b_q_meet 87 = .ok (.getfield 121, 3) := by decide +kernel
theorem d_q_meet_90 : decode b_q_meet 90 = .ok (.iload_n 3, 1) := by decide +kernel
theorem d_q_meet_91 : decode b_q_meet 91 = .ok (.laload, 1) := by decide +kernel
theorem d_q_meet_92 : decode b_q_meet 92 = .ok (.lstore 6, 2) := by decide +kernel
theorem d_q_meet_94 : decode b_q_meet 94 = .ok (.aload_n 0, 1) := by decide +kernel
theorem d_q_meet_95 : decode b_q_meet 95 = .ok (.getfield 124, 3) := by decide +kernel
theorem d_q_meet_98 : decode b_q_meet 98 = .ok (.iload_n 2, 1) := by decide +kernel
theorem d_q_meet_99 : decode b_q_meet 99 = .ok (.laload, 1) := by decide +kernel
theorem d_q_meet_100 : decode b_q_meet 100 = .ok (.lconst 0, 1) := by decide +kernel
theorem d_q_meet_101 : decode b_q_meet 101 = .ok (.lcmp, 1) := by decide +kernel
theorem d_q_meet_102 : decode b_q_meet 102 = .ok (.ifCond .eq (58), 3) := by decide +kernel
theorem d_q_meet_105 : decode b_q_meet 105 = .ok (.aload_n 0, 1) := by decide +kernel
theorem d_q_meet_106 : decode b_q_meet 106 = .ok (.getfield 124, 3) := by decide +kernel
theorem d_q_meet_109 : decode b_q_meet 109 = .ok (.iload_n 3, 1) := by decide +kernel
theorem d_q_meet_110 : decode b_q_meet 110 = .ok (.laload, 1) := by decide +kernel
theorem d_q_meet_111 : decode b_q_meet 111 = .ok (.lconst 0, 1) := by decide +kernel
theorem d_q_meet_112 : decode b_q_meet 112 = .ok (.lcmp, 1) := by decide +kernel
theorem d_q_meet_113 : decode b_q_meet 113 = .ok (.ifCond .eq (47), 3) := by decide +kernel
theorem d_q_meet_116 : decode b_q_meet 116 = .ok (.aload_n 0, 1) := by decide +kernel
theorem d_q_meet_117 : decode b_q_meet 117 = .ok (.getfield 127, 3) := by decide +kernel
theorem d_q_meet_120 : decode b_q_meet 120 = .ok (.iload_n 2, 1) := by decide +kernel
theorem d_q_meet_121 : decode b_q_meet 121 = .ok (.laload, 1) := by decide +kernel
theorem d_q_meet_122 : decode b_q_meet 122 = .ok (.aload_n 0, 1) := by decide +kernel
theorem d_q_meet_123 : decode b_q_meet 123 = .ok (.getfield 127, 3) := by decide +kernel
theorem d_q_meet_126 : decode b_q_meet 126 = .ok (.iload_n 3, 1) := by decide +kernel
theorem d_q_meet_127 : decode b_q_meet 127 = .ok (.laload, 1) := by decide +kernel
theorem d_q_meet_128 : decode b_q_meet 128 = .ok (.lsub, 1) := by decide +kernel
theorem d_q_meet_129 : decode b_q_meet 129 = .ok (.aload_n 0, 1) := by decide +kernel
theorem d_q_meet_130 : decode b_q_meet 130 = .ok (.getfield 124, 3) := by decide +kernel
theorem d_q_meet_133 : decode b_q_meet 133 = .ok (.iload_n 2, 1) := by decide +kernel
theorem d_q_meet_134 : decode b_q_meet 134 = .ok (.laload, 1) := by decide +kernel
theorem d_q_meet_135 : decode b_q_meet 135 = .ok (.aload_n 0, 1) := by decide +kernel
theorem d_q_meet_136 : decode b_q_meet 136 = .ok (.getfield 124, 3) := by decide +kernel
theorem d_q_meet_139 : decode b_q_meet 139 = .ok (.iload_n 3, 1) := by decide +kernel
theorem d_q_meet_140 : decode b_q_meet 140 = .ok (.laload, 1) := by decide +kernel
theorem d_q_meet_141 : decode b_q_meet 141 = .ok (.invokestatic 403, 3) := by decide +kernel
theorem d_q_meet_144 : decode b_q_meet 144 = .ok (.invokestatic 389, 3) := by decide +kernel
theorem d_q_meet_147 : decode b_q_meet 147 = .ok (.lconst 0, 1) := by decide +kernel
theorem d_q_meet_148 : decode b_q_meet 148 = .ok (.lcmp, 1) := by decide +kernel
theorem d_q_meet_149 : decode b_q_meet 149 = .ok (.ifCond .eq (7), 3) := by decide +kernel
theorem d_q_meet_152 : decode b_q_meet 152 = .ok (.iconst 1, 1) := by decide +kernel
theorem d_q_meet_153 : decode b_q_meet 153 = .ok (.goto (59), 3) := by decide +kernel
theorem d_q_meet_156 : decode b_q_meet 156 = .ok (.iconst 0, 1) := by decide +kernel
theorem d_q_meet_157 : decode b_q_meet 157 = .ok (.goto (55), 3) := by decide +kernel
theorem d_q_meet_160 : decode b_q_meet 160 = .ok (.aload_n 0, 1) := by decide +kernel
theorem d_q_meet_161 : decode b_q_meet 161 = .ok (.getfield 124, 3) := by decide +kernel
theorem d_q_meet_164 : decode b_q_meet 164 = .ok (.iload_n 2, 1) := by decide +kernel
theorem d_q_meet_165 : decode b_q_meet 165 = .ok (.laload, 1) := by decide +kernel
theorem d_q_meet_166 : decode b_q_meet 166 = .ok (.lconst 0, 1) := by decide +kernel
theorem d_q_meet_167 : decode b_q_meet 167 = .ok (.lcmp, 1) := by decide +kernel
theorem d_q_meet_168 : decode b_q_meet 168 = .ok (.ifCond .ne (25), 3) := by decide +kernel
theorem d_q_meet_171 : decode b_q_meet 171 = .ok (.aload_n 0, 1) := by decide +kernel
theorem d_q_meet_172 : decode b_q_meet 172 = .ok (.aload_n 0, 1) := by decide +kernel
theorem d_q_meet_173 : decode b_q_meet 173 = .ok (.getfield 127, 3) := by decide +kernel
theorem d_q_meet_176 : decode b_q_meet 176 = .ok (.iload_n 2, 1) := by decide +kernel
theorem d_q_meet_177 : decode b_q_meet 177 = .ok (.laload, 1) := by decide +kernel
theorem d_q_meet_178 : decode b_q_meet 178 = .ok (.iload_n 3, 1) := by decide +kernel
theorem d_q_meet_179 : decode b_q_meet 179 = .ok (.invokevirtual 409, 3) := by decide +kernel
theorem d_q_meet_182 : decode b_q_meet 182 = .ok (.ifCond .ne (7), 3) := by decide +kernel
theorem d_q_meet_185 : decode b_q_meet 185 = .ok (.iconst 1, 1) := by decide +kernel
theorem d_q_meet_186 : decode b_q_meet 186 = .ok (.goto (26), 3) := by decide +kernel
theorem d_q_meet_189 : decode b_q_meet 189 = .ok (.iconst 0, 1) := by decide +kernel
theorem d_q_meet_190 : decode b_q_meet 190 = .ok (.goto (22), 3) := by decide +kernel
theorem d_q_meet_193 : decode b_q_meet 193 = .ok (.aload_n 0, 1) := by decide +kernel
theorem d_q_meet_194 : decode b_q_meet 194 = .ok (.aload_n 0, 1) := by decide +kernel
theorem d_q_meet_195 : decode b_q_meet 195 = .ok (.getfield 127, 3) := by decide +kernel
theorem d_q_meet_198 : decode b_q_meet 198 = .ok (.iload_n 3, 1) := by decide +kernel
theorem d_q_meet_199 : decode b_q_meet 199 = .ok (.laload, 1) := by decide +kernel
theorem d_q_meet_200 : decode b_q_meet 200 = .ok (.iload_n 2, 1) := by decide +kernel
theorem d_q_meet_201 : decode b_q_meet 201 = .ok (.invokevirtual 409, 3) := by decide +kernel
theorem d_q_meet_204 : decode b_q_meet 204 = .ok (.ifCond .ne (7), 3) := by decide +kernel
theorem d_q_meet_207 : decode b_q_meet 207 = .ok (.iconst 1, 1) := by decide +kernel
theorem d_q_meet_208 : decode b_q_meet 208 = .ok (.goto (4), 3) := by decide +kernel
theorem d_q_meet_211 : decode b_q_meet 211 = .ok (.iconst 0, 1) := by decide +kernel
theorem d_q_meet_212 : decode b_q_meet 212 = .ok (.istore 8, 2) := by decide +kernel
theorem d_q_meet_214 : decode b_q_meet 214 = .ok (.aload_n 0, 1) := by decide +kernel
theorem d_q_meet_215 : decode b_q_meet 215 = .ok (.getfield 124, 3) := by decide +kernel
theorem d_q_meet_218 : decode b_q_meet 218 = .ok (.iload_n 2, 1) := by decide +kernel
theorem d_q_meet_219 : decode b_q_meet 219 = .ok (.laload, 1) := by decide +kernel
theorem d_q_meet_220 : decode b_q_meet 220 = .ok (.lconst 0, 1) := by decide +kernel
theorem d_q_meet_221 : decode b_q_meet 221 = .ok (.lcmp, 1) := by decide +kernel
theorem d_q_meet_222 : decode b_q_meet 222 = .ok (.ifCond .eq (30), 3) := by decide +kernel
theorem d_q_meet_225 : decode b_q_meet 225 = .ok (.aload_n 0, 1) := by decide +kernel
theorem d_q_meet_226 : decode b_q_meet 226 = .ok (.getfield 124, 3) := by decide +kernel
theorem d_q_meet_229 : decode b_q_meet 229 = .ok (.iload_n 3, 1) := by decide +kernel
theorem d_q_meet_230 : decode b_q_meet 230 = .ok (.laload, 1) := by decide +kernel
theorem d_q_meet_231 : decode b_q_meet 231 = .ok (.lconst 0, 1) := by decide +kernel
theorem d_q_meet_232 : decode b_q_meet 232 = .ok (.lcmp, 1) := by decide +kernel
theorem d_q_meet_233 : decode b_q_meet 233 = .ok (.ifCond .eq (23), 3) := by decide +kernel
theorem d_q_meet_236 : decode b_q_meet 236 = .ok (.aload_n 0, 1) := by decide +kernel
theorem d_q_meet_237 : decode b_q_meet 237 = .ok (.getfield 124, 3) := by decide +kernel
theorem d_q_meet_240 : decode b_q_meet 240 = .ok (.iload_n 2, 1) := by decide +kernel
theorem d_q_meet_241 : decode b_q_meet 241 = .ok (.laload, 1) := by decide +kernel
theorem d_q_meet_242 : decode b_q_meet 242 = .ok (.aload_n 0, 1) := by decide +kernel
theorem d_q_meet_243 : decode b_q_meet 243 = .ok (.getfield 124, 3) := by decide +kernel
theorem d_q_meet_246 : decode b_q_meet 246 = .ok (.iload_n 3, 1) := by decide +kernel
theorem d_q_meet_247 : decode b_q_meet 247 = .ok (.laload, 1) := by decide +kernel
theorem d_q_meet_248 : decode b_q_meet 248 = .ok (.lcmp, 1) := by decide +kernel
theorem d_q_meet_249 : decode b_q_meet 249 = .ok (.ifCond .lt (7), 3) := by decide +kernel
theorem d_q_meet_252 : decode b_q_meet 252 = .ok (.iconst 1, 1) := by decide +kernel
theorem d_q_meet_253 : decode b_q_meet 253 = .ok (.goto (4), 3) := by decide +kernel
theorem d_q_meet_256 : decode b_q_meet 256 = .ok (.iconst 0, 1) := by decide +kernel
theorem d_q_meet_257 : decode b_q_meet 257 = .ok (.istore 9, 2) := by decide +kernel
theorem d_q_meet_259 : decode b_q_meet 259 = .ok (.iload 8, 2) := by decide +kernel
theorem d_q_meet_261 : decode b_q_meet 261 = .ok (.ifCond .eq (11), 3) := by decide +kernel
theorem d_q_meet_264 : decode b_q_meet 264 = .ok (.aload_n 0, 1) := by decide +kernel
theorem d_q_meet_265 : decode b_q_meet 265 = .ok (.iload_n 1, 1) := by decide +kernel
theorem d_q_meet_266 : decode b_q_meet 266 = .ok (.invokevirtual 393, 3) := by decide +kernel
theorem d_q_meet_269 : decode b_q_meet 269 = .ok (.goto (52), 3) := by decide +kernel
theorem d_q_meet_272 : decode b_q_meet 272 = .ok (.aload_n 0, 1) := by decide +kernel
theorem d_q_meet_273 : decode b_q_meet 273 = .ok (.iload_n 1, 1) := by decide +kernel
theorem d_q_meet_274 : decode b_q_meet 274 = .ok (.lload 4, 2) := by decide +kernel
theorem d_q_meet_276 : decode b_q_meet 276 = .ok (.lload 6, 2) := by decide +kernel
theorem d_q_meet_278 : decode b_q_meet 278 = .ok (.iload 9, 2) := by decide +kernel
theorem d_q_meet_280 : decode b_q_meet 280 = .ok (.ifCond .eq (12), 3) := by decide +kernel
theorem d_q_meet_283 : decode b_q_meet 283 = .ok (.aload_n 0, 1) := by decide +kernel
theorem d_q_meet_284 : decode b_q_meet 284 = .ok (.getfield 124, 3) := by decide +kernel
theorem d_q_meet_287 : decode b_q_meet 287 = .ok (.iload_n 2, 1) := by decide +kernel
theorem d_q_meet_288 : decode b_q_meet 288 = .ok (.laload, 1) := by decide +kernel
theorem d_q_meet_289 : decode b_q_meet 289 = .ok (.goto (9), 3) := by decide +kernel
theorem d_q_meet_292 : decode b_q_meet 292 = .ok (.aload_n 0, 1) := by decide +kernel
theorem d_q_meet_293 : decode b_q_meet 293 = .ok (.getfield 124, 3) := by decide +kernel
theorem d_q_meet_296 : decode b_q_meet 296 = .ok (.iload_n 3, 1) := by decide +kernel
theorem d_q_meet_297 : decode b_q_meet 297 = .ok (.laload, 1) := by decide +kernel
theorem d_q_meet_298 : decode b_q_meet 298 = .ok (.iload 9, 2) := by decide +kernel
theorem d_q_meet_300 : decode b_q_meet 300 = .ok (.ifCond .eq (12), 3) := by decide +kernel
theorem d_q_meet_303 : decode b_q_meet 303 = .ok (.aload_n 0, 1) := by decide +kernel
theorem d_q_meet_304 : decode b_q_meet 304 = .ok (.getfield 127, 3) := by decide +kernel
theorem d_q_meet_307 : decode b_q_meet 307 = .ok (.iload_n 2, 1) := by decide +kernel
theorem d_q_meet_308 : decode b_q_meet 308 = .ok (.laload, 1) := by decide +kernel
theorem d_q_meet_309 : decode b_q_meet 309 = .ok (.goto (9), 3) := by decide +kernel
theorem d_q_meet_312 : decode b_q_meet 312 = .ok (.aload_n 0, 1) := by decide +kernel
theorem d_q_meet_313 : decode b_q_meet 313 = .ok (.getfield 127, 3) := by decide +kernel
theorem d_q_meet_316 : decode b_q_meet 316 = .ok (.iload_n 3, 1) := by decide +kernel
theorem d_q_meet_317 : decode b_q_meet 317 = .ok (.laload, 1) := by decide +kernel
theorem d_q_meet_318 : decode b_q_meet 318 = .ok (.invokevirtual 406, 3) := by decide +kernel
theorem d_q_meet_321 : decode b_q_meet 321 = .ok (.return_, 1) := by decide +kernel
theorem kb_q_meet {a0 : Nat} {a1 : Int32} {a2 : Int32} {a3 : Int32} {w : WW} {r : WW} (h : f_q_meet a0 a1 a2 a3 w = some r) : kb w a0 9 = true := (its h).1
set_option maxHeartbeats 4000000 in
set_option maxRecDepth 100000 in
theorem j_q_meet_22 {p : Program} {l : Launch} {e : Env} {s : State} {m : MethodId} {args : Array Value} {below : List Frame} {meth : Method} {c : Code} {D : va_G} {cA : Nat → ClassId} {base : Nat} {w' : WW} (C : cx b_q_meet (none) 10 y_q_meet.cls "meet" p s m args meth c D cA base)   : ∀ (y0 : Nat) (y1 : Int32) (w : WW), f_q_meet_22 y0 y1 w = some w' → ∀ (H : Heap) (locs : List Loc) (ls : Array Slot), wo_S D cls cA base s w H locs → lv_has ls 10 [(0, .ref (base + y0)), (1, .int y1)] → W p l e rm_q_meet s m args below meth c H locs 0 0 (MQ below (wo_Q D cls cA base none w') args s rm_q_meet.cells rm_q_meet.slots (wo_B base)) (F0 m 22 ls []) := by
  obtain ⟨hx, hb, hr, hml, hown, hts, hlk, hnm, hK, hG⟩ := id C
  intro y0 y1 w h H locs ls hW hl
  unfold f_q_meet_22 at h
  refine lv_aload_n hx hb d_q_meet_22 rfl (lv_at hl 0 rfl) ?_
  refine lv_iload_n hx hb d_q_meet_23 rfl (lv_at hl 1 rfl) ?_
  replace h := bs h
  obtain ⟨w4, hw4, h⟩ := h
  refine cv_q_393 (As := [.int y1]) (rest := []) hx hb hml hown hts hK hG hW (c_q_none l D cA base hw4) (kb_q_none hw4) ⟨Nat.le_of_ble_eq_true rfl, Nat.le_of_ble_eq_true rfl⟩ ⟨Nat.le_of_ble_eq_true rfl, Nat.le_of_ble_eq_true rfl⟩ rfl hl.1 rfl (Nat.le_of_ble_eq_true rfl) d_q_meet_24 (fun H locs hW => ?_)
  cases h
  exact wo_vret hx hb hr hlk hW d_q_meet_27
set_option maxHeartbeats 4000000 in
set_option maxRecDepth 100000 in
theorem j_q_meet_321 {p : Program} {l : Launch} {e : Env} {s : State} {m : MethodId} {args : Array Value} {below : List Frame} {meth : Method} {c : Code} {D : va_G} {cA : Nat → ClassId} {base : Nat} {w' : WW} (C : cx b_q_meet (none) 10 y_q_meet.cls "meet" p s m args meth c D cA base)   : ∀  (w : WW), f_q_meet_321  w = some w' → ∀ (H : Heap) (locs : List Loc) (ls : Array Slot), wo_S D cls cA base s w H locs → lv_has ls 10 [] → W p l e rm_q_meet s m args below meth c H locs 0 0 (MQ below (wo_Q D cls cA base none w') args s rm_q_meet.cells rm_q_meet.slots (wo_B base)) (F0 m 321 ls []) := by
  obtain ⟨hx, hb, hr, hml, hown, hts, hlk, hnm, hK, hG⟩ := id C
  intro  w h H locs ls hW hl
  unfold f_q_meet_321 at h
  cases h
  exact wo_vret hx hb hr hlk hW d_q_meet_321
set_option maxHeartbeats 4000000 in
set_option maxRecDepth 100000 in
theorem j_q_meet_318 {p : Program} {l : Launch} {e : Env} {s : State} {m : MethodId} {args : Array Value} {below : List Frame} {meth : Method} {c : Code} {D : va_G} {cA : Nat → ClassId} {base : Nat} {w' : WW} (C : cx b_q_meet (none) 10 y_q_meet.cls "meet" p s m args meth c D cA base)   : ∀ (z0 : Nat) (z1 : Int32) (z2 : Int64) (z3 : Int64) (z4 : Int64) (z5 : Int64) (w : WW), f_q_meet_318 z0 z1 z2 z3 z4 z5 w = some w' → ∀ (H : Heap) (locs : List Loc) (ls : Array Slot), wo_S D cls cA base s w H locs → lv_has ls 10 [] → W p l e rm_q_meet s m args below meth c H locs 0 0 (MQ below (wo_Q D cls cA base none w') args s rm_q_meet.cells rm_q_meet.slots (wo_B base)) (F0 m 318 ls [.long z5, .long z4, .long z3, .long z2, .int z1, .ref (base + z0)]) := by
  obtain ⟨hx, hb, hr, hml, hown, hts, hlk, hnm, hK, hG⟩ := id C
  intro z0 z1 z2 z3 z4 z5 w h H locs ls hW hl
  unfold f_q_meet_318 at h
  replace h := bs h
  obtain ⟨w43, hw43, h⟩ := h
  refine cv_q_406 (As := [.int z1, .long z2, .long z3, .long z4, .long z5]) (rest := []) hx hb hml hown hts hK hG hW (c_q_put l D cA base hw43) (kb_q_put hw43) ⟨Nat.le_of_ble_eq_true rfl, Nat.le_of_ble_eq_true rfl⟩ ⟨Nat.le_of_ble_eq_true rfl, Nat.le_of_ble_eq_true rfl⟩ rfl hl.1 rfl (Nat.le_of_ble_eq_true rfl) d_q_meet_318 (fun H locs hW => ?_)
  exact j_q_meet_321 C w43 h _ _ _ hW (lv_sub hl [] rfl)
set_option maxHeartbeats 4000000 in
set_option maxRecDepth 100000 in
theorem j_q_meet_298 {p : Program} {l : Launch} {e : Env} {s : State} {m : MethodId} {args : Array Value} {below : List Frame} {meth : Method} {c : Code} {D : va_G} {cA : Nat → ClassId} {base : Nat} {w' : WW} (C : cx b_q_meet (none) 10 y_q_meet.cls "meet" p s m args meth c D cA base)   : ∀ (y0 : Nat) (y2 : Int32) (y3 : Int32) (y9 : Int32) (z0 : Nat) (z1 : Int32) (z2 : Int64) (z3 : Int64) (z4 : Int64) (w : WW), f_q_meet_298 y0 y2 y3 y9 z0 z1 z2 z3 z4 w = some w' → ∀ (H : Heap) (locs : List Loc) (ls : Array Slot), wo_S D cls cA base s w H locs → lv_has ls 10 [(0, .ref (base + y0)), (2, .int y2), (3, .int y3), (9, .int y9)] → W p l e rm_q_meet s m args below meth c H locs 0 0 (MQ below (wo_Q D cls cA base none w') args s rm_q_meet.cells rm_q_meet.slots (wo_B base)) (F0 m 298 ls [.long z4, .long z3, .long z2, .int z1, .ref (base + z0)]) := by
  obtain ⟨hx, hb, hr, hml, hown, hts, hlk, hnm, hK, hG⟩ := id C
  intro y0 y2 y3 y9 z0 z1 z2 z3 z4 w h H locs ls hW hl
  unfold f_q_meet_298 at h
  refine lv_iload hx hb d_q_meet_298 (lv_at hl 3 rfl) ?_
  refine lv_if_eq (tgt := 312) hx hb d_q_meet_300 (by decide) (fun c40 => ?_) (fun c40 => ?_)
  · rw [if_pos c40] at h
    refine lv_aload_n hx hb d_q_meet_312 rfl (lv_at hl 0 rfl) ?_
    replace h := bs h
    obtain ⟨x41, hx41, h⟩ := h
    refine gf_q_127 hx hb hts hown hK hG hW (gN_s hx41) d_q_meet_313 ?_
    refine lv_iload_n hx hb d_q_meet_316 rfl (lv_at hl 2 rfl) ?_
    replace h := bs h
    obtain ⟨x42, hx42, h⟩ := h
    refine wo_lald hx hb hK hW (t := 1) rfl hx42 d_q_meet_317 ?_
    exact j_q_meet_318 C z0 z1 z2 z3 z4 x42 w h _ _ _ hW (lv_sub hl [] rfl)
  · rw [if_neg c40] at h
    refine lv_aload_n hx hb d_q_meet_303 rfl (lv_at hl 0 rfl) ?_
    replace h := bs h
    obtain ⟨x44, hx44, h⟩ := h
    refine gf_q_127 hx hb hts hown hK hG hW (gN_s hx44) d_q_meet_304 ?_
    refine lv_iload_n hx hb d_q_meet_307 rfl (lv_at hl 1 rfl) ?_
    replace h := bs h
    obtain ⟨x45, hx45, h⟩ := h
    refine wo_lald hx hb hK hW (t := 1) rfl hx45 d_q_meet_308 ?_
    refine lv_goto (tgt := 318) hx hb d_q_meet_309 (by decide) ?_
    exact j_q_meet_318 C z0 z1 z2 z3 z4 x45 w h _ _ _ hW (lv_sub hl [] rfl)
set_option maxHeartbeats 4000000 in
set_option maxRecDepth 100000 in
theorem j_q_meet_257 {p : Program} {l : Launch} {e : Env} {s : State} {m : MethodId} {args : Array Value} {below : List Frame} {meth : Method} {c : Code} {D : va_G} {cA : Nat → ClassId} {base : Nat} {w' : WW} (C : cx b_q_meet (none) 10 y_q_meet.cls "meet" p s m args meth c D cA base)   : ∀ (y0 : Nat) (y1 : Int32) (y2 : Int32) (y3 : Int32) (y4 : Int64) (y6 : Int64) (y8 : Int32) (z0 : Int32) (w : WW), f_q_meet_257 y0 y1 y2 y3 y4 y6 y8 z0 w = some w' → ∀ (H : Heap) (locs : List Loc) (ls : Array Slot), wo_S D cls cA base s w H locs → lv_has ls 10 [(0, .ref (base + y0)), (1, .int y1), (2, .int y2), (3, .int y3), (4, .long y4), (6, .long y6), (8, .int y8)] → W p l e rm_q_meet s m args below meth c H locs 0 0 (MQ below (wo_Q D cls cA base none w') args s rm_q_meet.cells rm_q_meet.slots (wo_B base)) (F0 m 257 ls [.int z0]) := by
  obtain ⟨hx, hb, hr, hml, hown, hts, hlk, hnm, hK, hG⟩ := id C
  intro y0 y1 y2 y3 y4 y6 y8 z0 w h H locs ls hW hl
  unfold f_q_meet_257 at h
  refine lv_istore (lv' := [(9, .int z0), (0, .ref (base + y0)), (1, .int y1), (2, .int y2), (3, .int y3), (4, .long y4), (6, .long y6), (8, .int y8)]) hx hb d_q_meet_257 hl (by decide) rfl (fun ls hl => ?_)
  refine lv_iload hx hb d_q_meet_259 (lv_at hl 7 rfl) ?_
  refine lv_if_eq (tgt := 272) hx hb d_q_meet_261 (by decide) (fun c36 => ?_) (fun c36 => ?_)
  · rw [if_pos c36] at h
    refine lv_aload_n hx hb d_q_meet_272 rfl (lv_at hl 1 rfl) ?_
    refine lv_iload_n hx hb d_q_meet_273 rfl (lv_at hl 2 rfl) ?_
    refine lv_lload hx hb d_q_meet_274 (lv_at hl 5 rfl) ?_
    refine lv_lload hx hb d_q_meet_276 (lv_at hl 6 rfl) ?_
    refine lv_iload hx hb d_q_meet_278 (lv_at hl 0 rfl) ?_
    refine lv_if_eq (tgt := 292) hx hb d_q_meet_280 (by decide) (fun c37 => ?_) (fun c37 => ?_)
    · rw [if_pos c37] at h
      refine lv_aload_n hx hb d_q_meet_292 rfl (lv_at hl 1 rfl) ?_
      replace h := bs h
      obtain ⟨x38, hx38, h⟩ := h
      refine gf_q_124 hx hb hts hown hK hG hW (gN_s hx38) d_q_meet_293 ?_
      refine lv_iload_n hx hb d_q_meet_296 rfl (lv_at hl 4 rfl) ?_
      replace h := bs h
      obtain ⟨x39, hx39, h⟩ := h
      refine wo_lald hx hb hK hW (t := 1) rfl hx39 d_q_meet_297 ?_
      exact j_q_meet_298 C y0 y2 y3 z0 y0 y1 y4 y6 x39 w h _ _ _ hW (lv_sub hl [1, 3, 4, 0] rfl)
    · rw [if_neg c37] at h
      refine lv_aload_n hx hb d_q_meet_283 rfl (lv_at hl 1 rfl) ?_
      replace h := bs h
      obtain ⟨x46, hx46, h⟩ := h
      refine gf_q_124 hx hb hts hown hK hG hW (gN_s hx46) d_q_meet_284 ?_
      refine lv_iload_n hx hb d_q_meet_287 rfl (lv_at hl 3 rfl) ?_
      replace h := bs h
      obtain ⟨x47, hx47, h⟩ := h
      refine wo_lald hx hb hK hW (t := 1) rfl hx47 d_q_meet_288 ?_
      refine lv_goto (tgt := 298) hx hb d_q_meet_289 (by decide) ?_
      exact j_q_meet_298 C y0 y2 y3 z0 y0 y1 y4 y6 x47 w h _ _ _ hW (lv_sub hl [1, 3, 4, 0] rfl)
  · rw [if_neg c36] at h
    refine lv_aload_n hx hb d_q_meet_264 rfl (lv_at hl 1 rfl) ?_
    refine lv_iload_n hx hb d_q_meet_265 rfl (lv_at hl 2 rfl) ?_
    replace h := bs h
    obtain ⟨w48, hw48, h⟩ := h
    refine cv_q_393 (As := [.int y1]) (rest := []) hx hb hml hown hts hK hG hW (c_q_none l D cA base hw48) (kb_q_none hw48) ⟨Nat.le_of_ble_eq_true rfl, Nat.le_of_ble_eq_true rfl⟩ ⟨Nat.le_of_ble_eq_true rfl, Nat.le_of_ble_eq_true rfl⟩ rfl hl.1 rfl (Nat.le_of_ble_eq_true rfl) d_q_meet_266 (fun H locs hW => ?_)
    refine lv_goto (tgt := 321) hx hb d_q_meet_269 (by decide) ?_
    exact j_q_meet_321 C w48 h _ _ _ hW (lv_sub hl [] rfl)
set_option maxHeartbeats 4000000 in
set_option maxRecDepth 100000 in
theorem j_q_meet_252 {p : Program} {l : Launch} {e : Env} {s : State} {m : MethodId} {args : Array Value} {below : List Frame} {meth : Method} {c : Code} {D : va_G} {cA : Nat → ClassId} {base : Nat} {w' : WW} (C : cx b_q_meet (none) 10 y_q_meet.cls "meet" p s m args meth c D cA base)   : ∀ (y0 : Nat) (y1 : Int32) (y2 : Int32) (y3 : Int32) (y4 : Int64) (y6 : Int64) (y8 : Int32) (w : WW), f_q_meet_252 y0 y1 y2 y3 y4 y6 y8 w = some w' → ∀ (H : Heap) (locs : List Loc) (ls : Array Slot), wo_S D cls cA base s w H locs → lv_has ls 10 [(0, .ref (base + y0)), (1, .int y1), (2, .int y2), (3, .int y3), (4, .long y4), (6, .long y6), (8, .int y8)] → W p l e rm_q_meet s m args below meth c H locs 0 0 (MQ below (wo_Q D cls cA base none w') args s rm_q_meet.cells rm_q_meet.slots (wo_B base)) (F0 m 252 ls []) := by
  obtain ⟨hx, hb, hr, hml, hown, hts, hlk, hnm, hK, hG⟩ := id C
  intro y0 y1 y2 y3 y4 y6 y8 w h H locs ls hW hl
  unfold f_q_meet_252 at h
  refine lv_iconst (v := (1 : Int32)) hx hb d_q_meet_252 (by decide) ?_
  refine lv_goto (tgt := 257) hx hb d_q_meet_253 (by decide) ?_
  exact j_q_meet_257 C y0 y1 y2 y3 y4 y6 y8 (1 : Int32) w h _ _ _ hW (lv_sub hl [0, 1, 2, 3, 4, 5, 6] rfl)
set_option maxHeartbeats 4000000 in
set_option maxRecDepth 100000 in
theorem j_q_meet_256 {p : Program} {l : Launch} {e : Env} {s : State} {m : MethodId} {args : Array Value} {below : List Frame} {meth : Method} {c : Code} {D : va_G} {cA : Nat → ClassId} {base : Nat} {w' : WW} (C : cx b_q_meet (none) 10 y_q_meet.cls "meet" p s m args meth c D cA base)   : ∀ (y0 : Nat) (y1 : Int32) (y2 : Int32) (y3 : Int32) (y4 : Int64) (y6 : Int64) (y8 : Int32) (w : WW), f_q_meet_256 y0 y1 y2 y3 y4 y6 y8 w = some w' → ∀ (H : Heap) (locs : List Loc) (ls : Array Slot), wo_S D cls cA base s w H locs → lv_has ls 10 [(0, .ref (base + y0)), (1, .int y1), (2, .int y2), (3, .int y3), (4, .long y4), (6, .long y6), (8, .int y8)] → W p l e rm_q_meet s m args below meth c H locs 0 0 (MQ below (wo_Q D cls cA base none w') args s rm_q_meet.cells rm_q_meet.slots (wo_B base)) (F0 m 256 ls []) := by
  obtain ⟨hx, hb, hr, hml, hown, hts, hlk, hnm, hK, hG⟩ := id C
  intro y0 y1 y2 y3 y4 y6 y8 w h H locs ls hW hl
  unfold f_q_meet_256 at h
  refine lv_iconst (v := (0 : Int32)) hx hb d_q_meet_256 (by decide) ?_
  exact j_q_meet_257 C y0 y1 y2 y3 y4 y6 y8 (0 : Int32) w h _ _ _ hW (lv_sub hl [0, 1, 2, 3, 4, 5, 6] rfl)
set_option maxHeartbeats 4000000 in
set_option maxRecDepth 100000 in
theorem j_q_meet_212 {p : Program} {l : Launch} {e : Env} {s : State} {m : MethodId} {args : Array Value} {below : List Frame} {meth : Method} {c : Code} {D : va_G} {cA : Nat → ClassId} {base : Nat} {w' : WW} (C : cx b_q_meet (none) 10 y_q_meet.cls "meet" p s m args meth c D cA base)   : ∀ (y0 : Nat) (y1 : Int32) (y2 : Int32) (y3 : Int32) (y4 : Int64) (y6 : Int64) (z0 : Int32) (w : WW), f_q_meet_212 y0 y1 y2 y3 y4 y6 z0 w = some w' → ∀ (H : Heap) (locs : List Loc) (ls : Array Slot), wo_S D cls cA base s w H locs → lv_has ls 10 [(0, .ref (base + y0)), (1, .int y1), (2, .int y2), (3, .int y3), (4, .long y4), (6, .long y6)] → W p l e rm_q_meet s m args below meth c H locs 0 0 (MQ below (wo_Q D cls cA base none w') args s rm_q_meet.cells rm_q_meet.slots (wo_B base)) (F0 m 212 ls [.int z0]) := by
  obtain ⟨hx, hb, hr, hml, hown, hts, hlk, hnm, hK, hG⟩ := id C
  intro y0 y1 y2 y3 y4 y6 z0 w h H locs ls hW hl
  unfold f_q_meet_212 at h
  refine lv_istore (lv' := [(8, .int z0), (0, .ref (base + y0)), (1, .int y1), (2, .int y2), (3, .int y3), (4, .long y4), (6, .long y6)]) hx hb d_q_meet_212 hl (by decide) rfl (fun ls hl => ?_)
  refine lv_aload_n hx hb d_q_meet_214 rfl (lv_at hl 1 rfl) ?_
  replace h := bs h
  obtain ⟨x33, hx33, h⟩ := h
  refine gf_q_124 hx hb hts hown hK hG hW (gN_s hx33) d_q_meet_215 ?_
  refine lv_iload_n hx hb d_q_meet_218 rfl (lv_at hl 3 rfl) ?_
  replace h := bs h
  obtain ⟨x34, hx34, h⟩ := h
  refine wo_lald hx hb hK hW (t := 1) rfl hx34 d_q_meet_219 ?_
  refine lv_lconst (v := (0 : Int64)) hx hb d_q_meet_220 (by decide) ?_
  refine lc_eq (tgt := 252) hx hb d_q_meet_221 d_q_meet_222 (by decide) (fun c35 => ?_) (fun c35 => ?_)
  · rw [if_pos c35] at h
    exact j_q_meet_252 C y0 y1 y2 y3 y4 y6 z0 w h _ _ _ hW (lv_sub hl [1, 2, 3, 4, 5, 6, 0] rfl)
  · rw [if_neg c35] at h
    refine lv_aload_n hx hb d_q_meet_225 rfl (lv_at hl 1 rfl) ?_
    replace h := bs h
    obtain ⟨x49, hx49, h⟩ := h
    refine gf_q_124 hx hb hts hown hK hG hW (gN_s hx49) d_q_meet_226 ?_
    refine lv_iload_n hx hb d_q_meet_229 rfl (lv_at hl 4 rfl) ?_
    replace h := bs h
    obtain ⟨x50, hx50, h⟩ := h
    refine wo_lald hx hb hK hW (t := 1) rfl hx50 d_q_meet_230 ?_
    refine lv_lconst (v := (0 : Int64)) hx hb d_q_meet_231 (by decide) ?_
    refine lc_eq (tgt := 256) hx hb d_q_meet_232 d_q_meet_233 (by decide) (fun c51 => ?_) (fun c51 => ?_)
    · rw [if_pos c51] at h
      exact j_q_meet_256 C y0 y1 y2 y3 y4 y6 z0 w h _ _ _ hW (lv_sub hl [1, 2, 3, 4, 5, 6, 0] rfl)
    · rw [if_neg c51] at h
      refine lv_aload_n hx hb d_q_meet_236 rfl (lv_at hl 1 rfl) ?_
      replace h := bs h
      obtain ⟨x52, hx52, h⟩ := h
      refine gf_q_124 hx hb hts hown hK hG hW (gN_s hx52) d_q_meet_237 ?_
      refine lv_iload_n hx hb d_q_meet_240 rfl (lv_at hl 3 rfl) ?_
      replace h := bs h
      obtain ⟨x53, hx53, h⟩ := h
      refine wo_lald hx hb hK hW (t := 1) rfl hx53 d_q_meet_241 ?_
      refine lv_aload_n hx hb d_q_meet_242 rfl (lv_at hl 1 rfl) ?_
      replace h := bs h
      obtain ⟨x54, hx54, h⟩ := h
      refine gf_q_124 hx hb hts hown hK hG hW (gN_s hx54) d_q_meet_243 ?_
      refine lv_iload_n hx hb d_q_meet_246 rfl (lv_at hl 4 rfl) ?_
      replace h := bs h
      obtain ⟨x55, hx55, h⟩ := h
      refine wo_lald hx hb hK hW (t := 1) rfl hx55 d_q_meet_247 ?_
      refine lc_lt (tgt := 256) hx hb d_q_meet_248 d_q_meet_249 (by decide) (fun c56 => ?_) (fun c56 => ?_)
      · rw [if_pos c56] at h
        exact j_q_meet_256 C y0 y1 y2 y3 y4 y6 z0 w h _ _ _ hW (lv_sub hl [1, 2, 3, 4, 5, 6, 0] rfl)
      · rw [if_neg c56] at h
        exact j_q_meet_252 C y0 y1 y2 y3 y4 y6 z0 w h _ _ _ hW (lv_sub hl [1, 2, 3, 4, 5, 6, 0] rfl)
set_option maxHeartbeats 4000000 in
set_option maxRecDepth 100000 in
theorem j_q_meet_160 {p : Program} {l : Launch} {e : Env} {s : State} {m : MethodId} {args : Array Value} {below : List Frame} {meth : Method} {c : Code} {D : va_G} {cA : Nat → ClassId} {base : Nat} {w' : WW} (C : cx b_q_meet (none) 10 y_q_meet.cls "meet" p s m args meth c D cA base)   : ∀ (y0 : Nat) (y1 : Int32) (y2 : Int32) (y3 : Int32) (y4 : Int64) (y6 : Int64) (w : WW), f_q_meet_160 y0 y1 y2 y3 y4 y6 w = some w' → ∀ (H : Heap) (locs : List Loc) (ls : Array Slot), wo_S D cls cA base s w H locs → lv_has ls 10 [(0, .ref (base + y0)), (1, .int y1), (2, .int y2), (3, .int y3), (4, .long y4), (6, .long y6)] → W p l e rm_q_meet s m args below meth c H locs 0 0 (MQ below (wo_Q D cls cA base none w') args s rm_q_meet.cells rm_q_meet.slots (wo_B base)) (F0 m 160 ls []) := by
  obtain ⟨hx, hb, hr, hml, hown, hts, hlk, hnm, hK, hG⟩ := id C
  intro y0 y1 y2 y3 y4 y6 w h H locs ls hW hl
  unfold f_q_meet_160 at h
  refine lv_aload_n hx hb d_q_meet_160 rfl (lv_at hl 0 rfl) ?_
  replace h := bs h
  obtain ⟨x25, hx25, h⟩ := h
  refine gf_q_124 hx hb hts hown hK hG hW (gN_s hx25) d_q_meet_161 ?_
  refine lv_iload_n hx hb d_q_meet_164 rfl (lv_at hl 2 rfl) ?_
  replace h := bs h
  obtain ⟨x26, hx26, h⟩ := h
  refine wo_lald hx hb hK hW (t := 1) rfl hx26 d_q_meet_165 ?_
  refine lv_lconst (v := (0 : Int64)) hx hb d_q_meet_166 (by decide) ?_
  refine lc_ne (tgt := 193) hx hb d_q_meet_167 d_q_meet_168 (by decide) (fun c27 => ?_) (fun c27 => ?_)
  · rw [if_neg c27] at h
    refine lv_aload_n hx hb d_q_meet_193 rfl (lv_at hl 0 rfl) ?_
    refine lv_aload_n hx hb d_q_meet_194 rfl (lv_at hl 0 rfl) ?_
    replace h := bs h
    obtain ⟨x28, hx28, h⟩ := h
    refine gf_q_127 hx hb hts hown hK hG hW (gN_s hx28) d_q_meet_195 ?_
    refine lv_iload_n hx hb d_q_meet_198 rfl (lv_at hl 3 rfl) ?_
    replace h := bs h
    obtain ⟨x29, hx29, h⟩ := h
    refine wo_lald hx hb hK hW (t := 1) rfl hx29 d_q_meet_199 ?_
    refine lv_iload_n hx hb d_q_meet_200 rfl (lv_at hl 2 rfl) ?_
    replace h := bs2 h
    obtain ⟨x31, w30, hw30, h⟩ := h
    refine cv_q_409 (As := [.long x29, .int y2]) (rest := []) hx hb hml hown hts hK hG hW (c_q_isOf l D cA base hw30) (kb_q_isOf hw30) ⟨Nat.le_of_ble_eq_true rfl, Nat.le_of_ble_eq_true rfl⟩ ⟨Nat.le_of_ble_eq_true rfl, Nat.le_of_ble_eq_true rfl⟩ rfl hl.1 rfl (Nat.le_of_ble_eq_true rfl) d_q_meet_201 (fun H locs hW => ?_)
    refine lv_if_ne (tgt := 211) hx hb d_q_meet_204 (by decide) (fun c32 => ?_) (fun c32 => ?_)
    · rw [if_neg c32] at h
      refine lv_iconst (v := (0 : Int32)) hx hb d_q_meet_211 (by decide) ?_
      exact j_q_meet_212 C y0 y1 y2 y3 y4 y6 (0 : Int32) w30 h _ _ _ hW (lv_sub hl [0, 1, 2, 3, 4, 5] rfl)
    · rw [if_pos c32] at h
      refine lv_iconst (v := (1 : Int32)) hx hb d_q_meet_207 (by decide) ?_
      refine lv_goto (tgt := 212) hx hb d_q_meet_208 (by decide) ?_
      exact j_q_meet_212 C y0 y1 y2 y3 y4 y6 (1 : Int32) w30 h _ _ _ hW (lv_sub hl [0, 1, 2, 3, 4, 5] rfl)
  · rw [if_pos c27] at h
    refine lv_aload_n hx hb d_q_meet_171 rfl (lv_at hl 0 rfl) ?_
    refine lv_aload_n hx hb d_q_meet_172 rfl (lv_at hl 0 rfl) ?_
    replace h := bs h
    obtain ⟨x57, hx57, h⟩ := h
    refine gf_q_127 hx hb hts hown hK hG hW (gN_s hx57) d_q_meet_173 ?_
    refine lv_iload_n hx hb d_q_meet_176 rfl (lv_at hl 2 rfl) ?_
    replace h := bs h
    obtain ⟨x58, hx58, h⟩ := h
    refine wo_lald hx hb hK hW (t := 1) rfl hx58 d_q_meet_177 ?_
    refine lv_iload_n hx hb d_q_meet_178 rfl (lv_at hl 3 rfl) ?_
    replace h := bs2 h
    obtain ⟨x60, w59, hw59, h⟩ := h
    refine cv_q_409 (As := [.long x58, .int y3]) (rest := []) hx hb hml hown hts hK hG hW (c_q_isOf l D cA base hw59) (kb_q_isOf hw59) ⟨Nat.le_of_ble_eq_true rfl, Nat.le_of_ble_eq_true rfl⟩ ⟨Nat.le_of_ble_eq_true rfl, Nat.le_of_ble_eq_true rfl⟩ rfl hl.1 rfl (Nat.le_of_ble_eq_true rfl) d_q_meet_179 (fun H locs hW => ?_)
    refine lv_if_ne (tgt := 189) hx hb d_q_meet_182 (by decide) (fun c61 => ?_) (fun c61 => ?_)
    · rw [if_neg c61] at h
      refine lv_iconst (v := (0 : Int32)) hx hb d_q_meet_189 (by decide) ?_
      refine lv_goto (tgt := 212) hx hb d_q_meet_190 (by decide) ?_
      exact j_q_meet_212 C y0 y1 y2 y3 y4 y6 (0 : Int32) w59 h _ _ _ hW (lv_sub hl [0, 1, 2, 3, 4, 5] rfl)
    · rw [if_pos c61] at h
      refine lv_iconst (v := (1 : Int32)) hx hb d_q_meet_185 (by decide) ?_
      refine lv_goto (tgt := 212) hx hb d_q_meet_186 (by decide) ?_
      exact j_q_meet_212 C y0 y1 y2 y3 y4 y6 (1 : Int32) w59 h _ _ _ hW (lv_sub hl [0, 1, 2, 3, 4, 5] rfl)
set_option maxHeartbeats 4000000 in
set_option maxRecDepth 100000 in
theorem j_q_meet_92 {p : Program} {l : Launch} {e : Env} {s : State} {m : MethodId} {args : Array Value} {below : List Frame} {meth : Method} {c : Code} {D : va_G} {cA : Nat → ClassId} {base : Nat} {w' : WW} (C : cx b_q_meet (none) 10 y_q_meet.cls "meet" p s m args meth c D cA base)   : ∀ (y0 : Nat) (y1 : Int32) (y2 : Int32) (y3 : Int32) (y4 : Int64) (z0 : Int64) (w : WW), f_q_meet_92 y0 y1 y2 y3 y4 z0 w = some w' → ∀ (H : Heap) (locs : List Loc) (ls : Array Slot), wo_S D cls cA base s w H locs → lv_has ls 10 [(0, .ref (base + y0)), (1, .int y1), (2, .int y2), (3, .int y3), (4, .long y4)] → W p l e rm_q_meet s m args below meth c H locs 0 0 (MQ below (wo_Q D cls cA base none w') args s rm_q_meet.cells rm_q_meet.slots (wo_B base)) (F0 m 92 ls [.long z0]) := by
  obtain ⟨hx, hb, hr, hml, hown, hts, hlk, hnm, hK, hG⟩ := id C
  intro y0 y1 y2 y3 y4 z0 w h H locs ls hW hl
  unfold f_q_meet_92 at h
  refine lv_lstore (lv' := [(6, .long z0), (0, .ref (base + y0)), (1, .int y1), (2, .int y2), (3, .int y3), (4, .long y4)]) hx hb d_q_meet_92 hl (by decide) rfl (fun ls hl => ?_)
  refine lv_aload_n hx hb d_q_meet_94 rfl (lv_at hl 1 rfl) ?_
  replace h := bs h
  obtain ⟨x22, hx22, h⟩ := h
  refine gf_q_124 hx hb hts hown hK hG hW (gN_s hx22) d_q_meet_95 ?_
  refine lv_iload_n hx hb d_q_meet_98 rfl (lv_at hl 3 rfl) ?_
  replace h := bs h
  obtain ⟨x23, hx23, h⟩ := h
  refine wo_lald hx hb hK hW (t := 1) rfl hx23 d_q_meet_99 ?_
  refine lv_lconst (v := (0 : Int64)) hx hb d_q_meet_100 (by decide) ?_
  refine lc_eq (tgt := 160) hx hb d_q_meet_101 d_q_meet_102 (by decide) (fun c24 => ?_) (fun c24 => ?_)
  · rw [if_pos c24] at h
    exact j_q_meet_160 C y0 y1 y2 y3 y4 z0 w h _ _ _ hW (lv_sub hl [1, 2, 3, 4, 5, 0] rfl)
  · rw [if_neg c24] at h
    refine lv_aload_n hx hb d_q_meet_105 rfl (lv_at hl 1 rfl) ?_
    replace h := bs h
    obtain ⟨x62, hx62, h⟩ := h
    refine gf_q_124 hx hb hts hown hK hG hW (gN_s hx62) d_q_meet_106 ?_
    refine lv_iload_n hx hb d_q_meet_109 rfl (lv_at hl 4 rfl) ?_
    replace h := bs h
    obtain ⟨x63, hx63, h⟩ := h
    refine wo_lald hx hb hK hW (t := 1) rfl hx63 d_q_meet_110 ?_
    refine lv_lconst (v := (0 : Int64)) hx hb d_q_meet_111 (by decide) ?_
    refine lc_eq (tgt := 160) hx hb d_q_meet_112 d_q_meet_113 (by decide) (fun c64 => ?_) (fun c64 => ?_)
    · rw [if_pos c64] at h
      exact j_q_meet_160 C y0 y1 y2 y3 y4 z0 w h _ _ _ hW (lv_sub hl [1, 2, 3, 4, 5, 0] rfl)
    · rw [if_neg c64] at h
      refine lv_aload_n hx hb d_q_meet_116 rfl (lv_at hl 1 rfl) ?_
      replace h := bs h
      obtain ⟨x65, hx65, h⟩ := h
      refine gf_q_127 hx hb hts hown hK hG hW (gN_s hx65) d_q_meet_117 ?_
      refine lv_iload_n hx hb d_q_meet_120 rfl (lv_at hl 3 rfl) ?_
      replace h := bs h
      obtain ⟨x66, hx66, h⟩ := h
      refine wo_lald hx hb hK hW (t := 1) rfl hx66 d_q_meet_121 ?_
      refine lv_aload_n hx hb d_q_meet_122 rfl (lv_at hl 1 rfl) ?_
      replace h := bs h
      obtain ⟨x67, hx67, h⟩ := h
      refine gf_q_127 hx hb hts hown hK hG hW (gN_s hx67) d_q_meet_123 ?_
      refine lv_iload_n hx hb d_q_meet_126 rfl (lv_at hl 4 rfl) ?_
      replace h := bs h
      obtain ⟨x68, hx68, h⟩ := h
      refine wo_lald hx hb hK hW (t := 1) rfl hx68 d_q_meet_127 ?_
      refine lv_lsub hx hb d_q_meet_128 ?_
      refine lv_aload_n hx hb d_q_meet_129 rfl (lv_at hl 1 rfl) ?_
      replace h := bs h
      obtain ⟨x69, hx69, h⟩ := h
      refine gf_q_124 hx hb hts hown hK hG hW (gN_s hx69) d_q_meet_130 ?_
      refine lv_iload_n hx hb d_q_meet_133 rfl (lv_at hl 3 rfl) ?_
      replace h := bs h
      obtain ⟨x70, hx70, h⟩ := h
      refine wo_lald hx hb hK hW (t := 1) rfl hx70 d_q_meet_134 ?_
      refine lv_aload_n hx hb d_q_meet_135 rfl (lv_at hl 1 rfl) ?_
      replace h := bs h
      obtain ⟨x71, hx71, h⟩ := h
      refine gf_q_124 hx hb hts hown hK hG hW (gN_s hx71) d_q_meet_136 ?_
      refine lv_iload_n hx hb d_q_meet_139 rfl (lv_at hl 4 rfl) ?_
      replace h := bs h
      obtain ⟨x72, hx72, h⟩ := h
      refine wo_lald hx hb hK hW (t := 1) rfl hx72 d_q_meet_140 ?_
      replace h := bs2 h
      obtain ⟨x74, w73, hw73, h⟩ := h
      refine cs_q_403 (As := [.long x70, .long x72]) (rest := [.long (x66 - x68)]) hx hb hml hown hts hK hG hW (c_q_gcd l D cA base hw73) ⟨Nat.le_of_ble_eq_true rfl, Nat.le_of_ble_eq_true rfl⟩ ⟨Nat.le_of_ble_eq_true rfl, Nat.le_of_ble_eq_true rfl⟩ rfl hl.1 rfl (Nat.le_of_ble_eq_true rfl) d_q_meet_141 (fun H locs hW => ?_)
      replace h := bs2 h
      obtain ⟨x76, w75, hw75, h⟩ := h
      refine cs_q_389 (As := [.long (x66 - x68), .long x74]) (rest := []) hx hb hml hown hts hK hG hW (c_q_left_JJ l D cA base hw75) ⟨Nat.le_of_ble_eq_true rfl, Nat.le_of_ble_eq_true rfl⟩ ⟨Nat.le_of_ble_eq_true rfl, Nat.le_of_ble_eq_true rfl⟩ rfl hl.1 rfl (Nat.le_of_ble_eq_true rfl) d_q_meet_144 (fun H locs hW => ?_)
      refine lv_lconst (v := (0 : Int64)) hx hb d_q_meet_147 (by decide) ?_
      refine lc_eq (tgt := 156) hx hb d_q_meet_148 d_q_meet_149 (by decide) (fun c77 => ?_) (fun c77 => ?_)
      · rw [if_pos c77] at h
        refine lv_iconst (v := (0 : Int32)) hx hb d_q_meet_156 (by decide) ?_
        refine lv_goto (tgt := 212) hx hb d_q_meet_157 (by decide) ?_
        exact j_q_meet_212 C y0 y1 y2 y3 y4 z0 (0 : Int32) w75 h _ _ _ hW (lv_sub hl [1, 2, 3, 4, 5, 0] rfl)
      · rw [if_neg c77] at h
        refine lv_iconst (v := (1 : Int32)) hx hb d_q_meet_152 (by decide) ?_
        refine lv_goto (tgt := 212) hx hb d_q_meet_153 (by decide) ?_
        exact j_q_meet_212 C y0 y1 y2 y3 y4 z0 (1 : Int32) w75 h _ _ _ hW (lv_sub hl [1, 2, 3, 4, 5, 0] rfl)
set_option maxHeartbeats 4000000 in
set_option maxRecDepth 100000 in
theorem j_q_meet_59 {p : Program} {l : Launch} {e : Env} {s : State} {m : MethodId} {args : Array Value} {below : List Frame} {meth : Method} {c : Code} {D : va_G} {cA : Nat → ClassId} {base : Nat} {w' : WW} (C : cx b_q_meet (none) 10 y_q_meet.cls "meet" p s m args meth c D cA base)   : ∀ (y0 : Nat) (y1 : Int32) (y2 : Int32) (y3 : Int32) (z0 : Int64) (w : WW), f_q_meet_59 y0 y1 y2 y3 z0 w = some w' → ∀ (H : Heap) (locs : List Loc) (ls : Array Slot), wo_S D cls cA base s w H locs → lv_has ls 10 [(0, .ref (base + y0)), (1, .int y1), (2, .int y2), (3, .int y3)] → W p l e rm_q_meet s m args below meth c H locs 0 0 (MQ below (wo_Q D cls cA base none w') args s rm_q_meet.cells rm_q_meet.slots (wo_B base)) (F0 m 59 ls [.long z0]) := by
  obtain ⟨hx, hb, hr, hml, hown, hts, hlk, hnm, hK, hG⟩ := id C
  intro y0 y1 y2 y3 z0 w h H locs ls hW hl
  unfold f_q_meet_59 at h
  refine lv_lstore (lv' := [(4, .long z0), (0, .ref (base + y0)), (1, .int y1), (2, .int y2), (3, .int y3)]) hx hb d_q_meet_59 hl (by decide) rfl (fun ls hl => ?_)
  refine lv_aload_n hx hb d_q_meet_61 rfl (lv_at hl 1 rfl) ?_
  replace h := bs h
  obtain ⟨x15, hx15, h⟩ := h
  refine gf_q_121 hx hb hts hown hK hG hW (gN_s hx15) d_q_meet_62 ?_
  refine lv_iload_n hx hb d_q_meet_65 rfl (lv_at hl 3 rfl) ?_
  replace h := bs h
  obtain ⟨x16, hx16, h⟩ := h
  refine wo_lald hx hb hK hW (t := 1) rfl hx16 d_q_meet_66 ?_
  refine lv_aload_n hx hb d_q_meet_67 rfl (lv_at hl 1 rfl) ?_
  replace h := bs h
  obtain ⟨x17, hx17, h⟩ := h
  refine gf_q_121 hx hb hts hown hK hG hW (gN_s hx17) d_q_meet_68 ?_
  refine lv_iload_n hx hb d_q_meet_71 rfl (lv_at hl 4 rfl) ?_
  replace h := bs h
  obtain ⟨x18, hx18, h⟩ := h
  refine wo_lald hx hb hK hW (t := 1) rfl hx18 d_q_meet_72 ?_
  refine lc_ge (tgt := 86) hx hb d_q_meet_73 d_q_meet_74 (by decide) (fun c19 => ?_) (fun c19 => ?_)
  · rw [if_pos c19] at h
    refine lv_aload_n hx hb d_q_meet_86 rfl (lv_at hl 1 rfl) ?_
    replace h := bs h
    obtain ⟨x20, hx20, h⟩ := h
    refine gf_q_121 hx hb hts hown hK hG hW (gN_s hx20) d_q_meet_87 ?_
    refine lv_iload_n hx hb d_q_meet_90 rfl (lv_at hl 4 rfl) ?_
    replace h := bs h
    obtain ⟨x21, hx21, h⟩ := h
    refine wo_lald hx hb hK hW (t := 1) rfl hx21 d_q_meet_91 ?_
    exact j_q_meet_92 C y0 y1 y2 y3 z0 x21 w h _ _ _ hW (lv_sub hl [1, 2, 3, 4, 0] rfl)
  · rw [if_neg c19] at h
    refine lv_aload_n hx hb d_q_meet_77 rfl (lv_at hl 1 rfl) ?_
    replace h := bs h
    obtain ⟨x78, hx78, h⟩ := h
    refine gf_q_121 hx hb hts hown hK hG hW (gN_s hx78) d_q_meet_78 ?_
    refine lv_iload_n hx hb d_q_meet_81 rfl (lv_at hl 3 rfl) ?_
    replace h := bs h
    obtain ⟨x79, hx79, h⟩ := h
    refine wo_lald hx hb hK hW (t := 1) rfl hx79 d_q_meet_82 ?_
    refine lv_goto (tgt := 92) hx hb d_q_meet_83 (by decide) ?_
    exact j_q_meet_92 C y0 y1 y2 y3 z0 x79 w h _ _ _ hW (lv_sub hl [1, 2, 3, 4, 0] rfl)
set_option maxHeartbeats 4000000 in
set_option maxRecDepth 100000 in
theorem c_q_meet (l : Launch) (D : va_G) (cA : Nat → ClassId) (base : Nat) {a0 : Nat} {a1 : Int32} {a2 : Int32} {a3 : Int32} {w w' : WW} (h : f_q_meet a0 a1 a2 a3 w = some w') : mt l D cls (wo_tys cA) cA base y_q_meet (Cond.code y_q_meet b_q_meet 10 (none) :: gt) rm_q_meet [.ref (base + a0), .int a1, .int a2, .int a3] w none w' rm_q_meet.cells rm_q_meet.slots := by
  refine mt_start (by decide) (Nat.le_of_ble_eq_true rfl) ?_
  intro p e s m below meth c ls hx hb hr hml hown hts hlk hnm hK hG hW hl
  have C : cx b_q_meet (none) 10 y_q_meet.cls "meet" p s m [.ref (base + a0), .int a1, .int a2, .int a3].toArray meth c D cA base := ⟨hx, hb, hr, hml, hown, hts, hlk, hnm, hK, hG⟩
  have hl : lv_has ls 10 [(0, .ref (base + a0)), (1, .int a1), (2, .int a2), (3, .int a3)] := hl
  unfold f_q_meet at h
  replace h := its h
  obtain ⟨-, h⟩ := h
  refine lv_aload_n hx hb d_q_meet_0 rfl (lv_at hl 0 rfl) ?_
  replace h := bs h
  obtain ⟨x1, hx1, h⟩ := h
  refine gf_q_124 hx hb hts hown hK hG hW (gN_s hx1) d_q_meet_1 ?_
  refine lv_iload_n hx hb d_q_meet_4 rfl (lv_at hl 2 rfl) ?_
  replace h := bs h
  obtain ⟨x2, hx2, h⟩ := h
  refine wo_lald hx hb hK hW (t := 1) rfl hx2 d_q_meet_5 ?_
  refine lv_lconst (v := (0 : Int64)) hx hb d_q_meet_6 (by decide) ?_
  refine lc_lt (tgt := 22) hx hb d_q_meet_7 d_q_meet_8 (by decide) (fun c3 => ?_) (fun c3 => ?_)
  · rw [if_pos c3] at h
    exact j_q_meet_22 C a0 a1 w h _ _ _ hW (lv_sub hl [0, 1] rfl)
  · rw [if_neg c3] at h
    refine lv_aload_n hx hb d_q_meet_11 rfl (lv_at hl 0 rfl) ?_
    replace h := bs h
    obtain ⟨x5, hx5, h⟩ := h
    refine gf_q_124 hx hb hts hown hK hG hW (gN_s hx5) d_q_meet_12 ?_
    refine lv_iload_n hx hb d_q_meet_15 rfl (lv_at hl 3 rfl) ?_
    replace h := bs h
    obtain ⟨x6, hx6, h⟩ := h
    refine wo_lald hx hb hK hW (t := 1) rfl hx6 d_q_meet_16 ?_
    refine lv_lconst (v := (0 : Int64)) hx hb d_q_meet_17 (by decide) ?_
    refine lc_ge (tgt := 28) hx hb d_q_meet_18 d_q_meet_19 (by decide) (fun c7 => ?_) (fun c7 => ?_)
    · rw [if_pos c7] at h
      refine lv_aload_n hx hb d_q_meet_28 rfl (lv_at hl 0 rfl) ?_
      replace h := bs h
      obtain ⟨x8, hx8, h⟩ := h
      refine gf_q_117 hx hb hts hown hK hG hW (gN_s hx8) d_q_meet_29 ?_
      refine lv_iload_n hx hb d_q_meet_32 rfl (lv_at hl 2 rfl) ?_
      replace h := bs h
      obtain ⟨x9, hx9, h⟩ := h
      refine wo_lald hx hb hK hW (t := 1) rfl hx9 d_q_meet_33 ?_
      refine lv_aload_n hx hb d_q_meet_34 rfl (lv_at hl 0 rfl) ?_
      replace h := bs h
      obtain ⟨x10, hx10, h⟩ := h
      refine gf_q_117 hx hb hts hown hK hG hW (gN_s hx10) d_q_meet_35 ?_
      refine lv_iload_n hx hb d_q_meet_38 rfl (lv_at hl 3 rfl) ?_
      replace h := bs h
      obtain ⟨x11, hx11, h⟩ := h
      refine wo_lald hx hb hK hW (t := 1) rfl hx11 d_q_meet_39 ?_
      refine lc_le (tgt := 53) hx hb d_q_meet_40 d_q_meet_41 (by decide) (fun c12 => ?_) (fun c12 => ?_)
      · rw [if_pos c12] at h
        refine lv_aload_n hx hb d_q_meet_53 rfl (lv_at hl 0 rfl) ?_
        replace h := bs h
        obtain ⟨x13, hx13, h⟩ := h
        refine gf_q_117 hx hb hts hown hK hG hW (gN_s hx13) d_q_meet_54 ?_
        refine lv_iload_n hx hb d_q_meet_57 rfl (lv_at hl 3 rfl) ?_
        replace h := bs h
        obtain ⟨x14, hx14, h⟩ := h
        refine wo_lald hx hb hK hW (t := 1) rfl hx14 d_q_meet_58 ?_
        exact j_q_meet_59 C a0 a1 a2 a3 x14 w h _ _ _ hW (lv_sub hl [0, 1, 2, 3] rfl)
      · rw [if_neg c12] at h
        refine lv_aload_n hx hb d_q_meet_44 rfl (lv_at hl 0 rfl) ?_
        replace h := bs h
        obtain ⟨x80, hx80, h⟩ := h
        refine gf_q_117 hx hb hts hown hK hG hW (gN_s hx80) d_q_meet_45 ?_
        refine lv_iload_n hx hb d_q_meet_48 rfl (lv_at hl 2 rfl) ?_
        replace h := bs h
        obtain ⟨x81, hx81, h⟩ := h
        refine wo_lald hx hb hK hW (t := 1) rfl hx81 d_q_meet_49 ?_
        refine lv_goto (tgt := 59) hx hb d_q_meet_50 (by decide) ?_
        exact j_q_meet_59 C a0 a1 a2 a3 x81 w h _ _ _ hW (lv_sub hl [0, 1, 2, 3] rfl)
    · rw [if_neg c7] at h
      exact j_q_meet_22 C a0 a1 w h _ _ _ hW (lv_sub hl [0, 1] rfl)
abbrev b_q_without : ByteArray := prog_11_method_75_code
def y_q_without : MethodName := ⟨"AlarmForgeModel", "without", "(III)V"⟩
def rm_q_without : Room := { frames := 2, cells := 0, slots := 0, locals := 66 }
theorem d_q_without_0 : decode b_q_without 0 = .ok (.aload_n 0, 1) := by decide +kernel
theorem d_q_without_1 : decode b_q_without 1 = .ok (.getfield 117, 3) := by decide +kernel
theorem d_q_without_4 : decode b_q_without 4 = .ok (.iload_n 2, 1) := by decide +kernel
theorem d_q_without_5 : decode b_q_without 5 = .ok (.laload, 1) := by decide +kernel
theorem d_q_without_6 : decode b_q_without 6 = .ok (.lstore 4, 2) := by decide +kernel
theorem d_q_without_8 : decode b_q_without 8 = .ok (.aload_n 0, 1) := by decide +kernel
theorem d_q_without_9 : decode b_q_without 9 = .ok (.getfield 121, 3) := by decide +kernel
theorem d_q_without_12 : decode b_q_without 12 = .ok (.iload_n 2, 1) := by decide +kernel
theorem d_q_without_13 : decode b_q_without 13 = .ok (.laload, 1) := by decide +kernel
theorem d_q_without_14 : decode b_q_without 14 = .ok (.lstore 6, 2) := by decide +kernel
theorem d_q_without_16 : decode b_q_without 16 = .ok (.aload_n 0, 1) := by decide +kernel
theorem d_q_without_17 : decode b_q_without 17 = .ok (.getfield 124, 3) := by decide +kernel
theorem d_q_without_20 : decode b_q_without 20 = .ok (.iload_n 3, 1) := by decide +kernel
theorem d_q_without_21 : decode b_q_without 21 = .ok (.laload, 1) := by decide +kernel
theorem d_q_without_22 : decode b_q_without 22 = .ok (.lconst 0, 1) := by decide +kernel
theorem d_q_without_23 : decode b_q_without 23 = .ok (.lcmp, 1) := by decide +kernel
theorem d_q_without_24 : decode b_q_without 24 = .ok (.ifCond .ne (21), 3) := by decide +kernel
theorem d_q_without_27 : decode b_q_without 27 = .ok (.lload 4, 2) := by decide +kernel
theorem d_q_without_29 : decode b_q_without 29 = .ok (.aload_n 0, 1) := by decide +kernel
theorem d_q_without_30 : decode b_q_without 30 = .ok (.getfield 127, 3) := by decide +kernel
theorem d_q_without_33 : decode b_q_without 33 = .ok (.iload_n 3, 1) := by decide +kernel
theorem d_q_without_34 : decode b_q_without 34 = .ok (.laload, 1) := by decide +kernel
theorem d_q_without_35 : decode b_q_without 35 = .ok (.lcmp, 1) := by decide +kernel
theorem d_q_without_36 : decode b_q_without 36 = .ok (.ifCond .ne (9), 3) := by decide +kernel
theorem d_q_without_39 : decode b_q_without 39 = .ok (.lload 4, 2) := by decide +kernel
theorem d_q_without_41 : decode b_q_without 41 = .ok (.lconst 1, 1) := by decide +kernel
theorem d_q_without_42 : decode b_q_without 42 = .ok (.ladd, 1) := by decide +kernel
theorem d_q_without_43 : decode b_q_without 43 = .ok (.lstore 4, 2) := by decide +kernel
theorem d_q_without_45 : decode b_q_without 45 = .ok (.aload_n 0, 1) := by decide +kernel
theorem d_q_without_46 : decode b_q_without 46 = .ok (.getfield 124, 3) := by decide +kernel
theorem d_q_without_49 : decode b_q_without 49 = .ok (.iload_n 3, 1) := by decide +kernel
theorem d_q_without_50 : decode b_q_without 50 = .ok (.laload, 1) := by decide +kernel
theorem d_q_without_51 : decode b_q_without 51 = .ok (.lconst 0, 1) := by decide +kernel
theorem d_q_without_52 : decode b_q_without 52 = .ok (.lcmp, 1) := by decide +kernel
theorem d_q_without_53 : decode b_q_without 53 = .ok (.ifCond .ne (21), 3) := by decide +kernel
theorem d_q_without_56 : decode b_q_without 56 = .ok (.lload 6, 2) := by decide +kernel
theorem d_q_without_58 : decode b_q_without 58 = .ok (.aload_n 0, 1) := by decide +kernel
theorem d_q_without_59 : decode b_q_without 59 = .ok (.getfield 127, 3) := by decide +kernel
theorem d_q_without_62 : decode b_q_without 62 = .ok (.iload_n 3, 1) := by decide +kernel
theorem d_q_without_63 : decode b_q_without 63 = .ok (.laload, 1) := by decide +kernel
theorem d_q_without_64 : decode b_q_without 64 = .ok (.lcmp, 1) := by decide +kernel
theorem d_q_without_65 : decode b_q_without 65 = .ok (.ifCond .ne (9), 3) := by decide +kernel
theorem d_q_without_68 : decode b_q_without 68 = .ok (.lload 6, 2) := by decide +kernel
theorem d_q_without_70 : decode b_q_without 70 = .ok (.lconst 1, 1) := by decide +kernel
theorem d_q_without_71 : decode b_q_without 71 = .ok (.lsub, 1) := by decide +kernel
theorem d_q_without_72 : decode b_q_without 72 = .ok (.lstore 6, 2) := by decide +kernel
theorem d_q_without_74 : decode b_q_without 74 = .ok (.lload 4, 2) := by decide +kernel
theorem d_q_without_76 : decode b_q_without 76 = .ok (.lload 6, 2) := by decide +kernel
theorem d_q_without_78 : decode b_q_without 78 = .ok (.lcmp, 1) := by decide +kernel
theorem d_q_without_79 : decode b_q_without 79 = .ok (.ifCond .le (11), 3) := by decide +kernel
theorem d_q_without_82 : decode b_q_without 82 = .ok (.aload_n 0, 1) := by decide +kernel
theorem d_q_without_83 : decode b_q_without 83 = .ok (.iload_n 1, 1) := by decide +kernel
theorem d_q_without_84 : decode b_q_without 84 = .ok (.invokevirtual 393, 3) := by decide +kernel
theorem d_q_without_87 : decode b_q_without 87 = .ok (.goto (24), 3) := by decide +kernel
theorem d_q_without_90 : decode b_q_without 90 = .ok (.aload_n 0, 1) := by decide +kernel
theorem d_q_without_91 : decode b_q_without 91 = .ok (.iload_n 1, 1) := by decide +kernel
theorem d_q_without_92 : decode b_q_without 92 = .ok (.lload 4, 2) := by decide +kernel
theorem d_q_without_94 : decode b_q_without 94 = .ok (.lload 6, 2) := by decide +kernel
theorem d_q_without_96 : decode b_q_without 96 = .ok (.aload_n 0, 1) := by decide +kernel
theorem d_q_without_97 : decode b_q_without 97 = .ok (.getfield 124, 3) := by decide +kernel
theorem d_q_without_100 : decode b_q_without 100 = .ok (.iload_n 2, 1) := by decide +kernel
theorem d_q_without_101 : decode b_q_without 101 = .ok (.laload, 1) := by decide +kernel
theorem d_q_without_102 : decode b_q_without 102 = .ok (.aload_n 0, 1) := by decide +kernel
theorem d_q_without_103 : decode b_q_without 103 = .ok (.getfield 127, 3) := by decide +kernel
theorem d_q_without_106 : decode b_q_without 106 = .ok (.iload_n 2, 1) := by decide +kernel
theorem d_q_without_107 : decode b_q_without 107 = .ok (.laload, 1) := by decide +kernel
theorem d_q_without_108 : decode b_q_without 108 = .ok (.invokevirtual 406, 3) := by decide +kernel
theorem d_q_without_111 : decode b_q_without 111 = .ok (.return_, 1) := by decide +kernel
theorem kb_q_without {a0 : Nat} {a1 : Int32} {a2 : Int32} {a3 : Int32} {w : WW} {r : WW} (h : f_q_without a0 a1 a2 a3 w = some r) : kb w a0 9 = true := (its h).1
set_option maxHeartbeats 4000000 in
set_option maxRecDepth 100000 in
theorem j_q_without_111 {p : Program} {l : Launch} {e : Env} {s : State} {m : MethodId} {args : Array Value} {below : List Frame} {meth : Method} {c : Code} {D : va_G} {cA : Nat → ClassId} {base : Nat} {w' : WW} (C : cx b_q_without (none) 8 y_q_without.cls "without" p s m args meth c D cA base)   : ∀  (w : WW), f_q_without_111  w = some w' → ∀ (H : Heap) (locs : List Loc) (ls : Array Slot), wo_S D cls cA base s w H locs → lv_has ls 8 [] → W p l e rm_q_without s m args below meth c H locs 0 0 (MQ below (wo_Q D cls cA base none w') args s rm_q_without.cells rm_q_without.slots (wo_B base)) (F0 m 111 ls []) := by
  obtain ⟨hx, hb, hr, hml, hown, hts, hlk, hnm, hK, hG⟩ := id C
  intro  w h H locs ls hW hl
  unfold f_q_without_111 at h
  cases h
  exact wo_vret hx hb hr hlk hW d_q_without_111
set_option maxHeartbeats 4000000 in
set_option maxRecDepth 100000 in
theorem j_q_without_74 {p : Program} {l : Launch} {e : Env} {s : State} {m : MethodId} {args : Array Value} {below : List Frame} {meth : Method} {c : Code} {D : va_G} {cA : Nat → ClassId} {base : Nat} {w' : WW} (C : cx b_q_without (none) 8 y_q_without.cls "without" p s m args meth c D cA base)   : ∀ (y0 : Nat) (y1 : Int32) (y2 : Int32) (y4 : Int64) (y6 : Int64) (w : WW), f_q_without_74 y0 y1 y2 y4 y6 w = some w' → ∀ (H : Heap) (locs : List Loc) (ls : Array Slot), wo_S D cls cA base s w H locs → lv_has ls 8 [(0, .ref (base + y0)), (1, .int y1), (2, .int y2), (4, .long y4), (6, .long y6)] → W p l e rm_q_without s m args below meth c H locs 0 0 (MQ below (wo_Q D cls cA base none w') args s rm_q_without.cells rm_q_without.slots (wo_B base)) (F0 m 74 ls []) := by
  obtain ⟨hx, hb, hr, hml, hown, hts, hlk, hnm, hK, hG⟩ := id C
  intro y0 y1 y2 y4 y6 w h H locs ls hW hl
  unfold f_q_without_74 at h
  refine lv_lload hx hb d_q_without_74 (lv_at hl 3 rfl) ?_
  refine lv_lload hx hb d_q_without_76 (lv_at hl 4 rfl) ?_
  refine lc_le (tgt := 90) hx hb d_q_without_78 d_q_without_79 (by decide) (fun c11 => ?_) (fun c11 => ?_)
  · rw [if_pos c11] at h
    refine lv_aload_n hx hb d_q_without_90 rfl (lv_at hl 0 rfl) ?_
    refine lv_iload_n hx hb d_q_without_91 rfl (lv_at hl 1 rfl) ?_
    refine lv_lload hx hb d_q_without_92 (lv_at hl 3 rfl) ?_
    refine lv_lload hx hb d_q_without_94 (lv_at hl 4 rfl) ?_
    refine lv_aload_n hx hb d_q_without_96 rfl (lv_at hl 0 rfl) ?_
    replace h := bs h
    obtain ⟨x12, hx12, h⟩ := h
    refine gf_q_124 hx hb hts hown hK hG hW (gN_s hx12) d_q_without_97 ?_
    refine lv_iload_n hx hb d_q_without_100 rfl (lv_at hl 2 rfl) ?_
    replace h := bs h
    obtain ⟨x13, hx13, h⟩ := h
    refine wo_lald hx hb hK hW (t := 1) rfl hx13 d_q_without_101 ?_
    refine lv_aload_n hx hb d_q_without_102 rfl (lv_at hl 0 rfl) ?_
    replace h := bs h
    obtain ⟨x14, hx14, h⟩ := h
    refine gf_q_127 hx hb hts hown hK hG hW (gN_s hx14) d_q_without_103 ?_
    refine lv_iload_n hx hb d_q_without_106 rfl (lv_at hl 2 rfl) ?_
    replace h := bs h
    obtain ⟨x15, hx15, h⟩ := h
    refine wo_lald hx hb hK hW (t := 1) rfl hx15 d_q_without_107 ?_
    replace h := bs h
    obtain ⟨w16, hw16, h⟩ := h
    refine cv_q_406 (As := [.int y1, .long y4, .long y6, .long x13, .long x15]) (rest := []) hx hb hml hown hts hK hG hW (c_q_put l D cA base hw16) (kb_q_put hw16) ⟨Nat.le_of_ble_eq_true rfl, Nat.le_of_ble_eq_true rfl⟩ ⟨Nat.le_of_ble_eq_true rfl, Nat.le_of_ble_eq_true rfl⟩ rfl hl.1 rfl (Nat.le_of_ble_eq_true rfl) d_q_without_108 (fun H locs hW => ?_)
    exact j_q_without_111 C w16 h _ _ _ hW (lv_sub hl [] rfl)
  · rw [if_neg c11] at h
    refine lv_aload_n hx hb d_q_without_82 rfl (lv_at hl 0 rfl) ?_
    refine lv_iload_n hx hb d_q_without_83 rfl (lv_at hl 1 rfl) ?_
    replace h := bs h
    obtain ⟨w17, hw17, h⟩ := h
    refine cv_q_393 (As := [.int y1]) (rest := []) hx hb hml hown hts hK hG hW (c_q_none l D cA base hw17) (kb_q_none hw17) ⟨Nat.le_of_ble_eq_true rfl, Nat.le_of_ble_eq_true rfl⟩ ⟨Nat.le_of_ble_eq_true rfl, Nat.le_of_ble_eq_true rfl⟩ rfl hl.1 rfl (Nat.le_of_ble_eq_true rfl) d_q_without_84 (fun H locs hW => ?_)
    refine lv_goto (tgt := 111) hx hb d_q_without_87 (by decide) ?_
    exact j_q_without_111 C w17 h _ _ _ hW (lv_sub hl [] rfl)
set_option maxHeartbeats 4000000 in
set_option maxRecDepth 100000 in
theorem j_q_without_45 {p : Program} {l : Launch} {e : Env} {s : State} {m : MethodId} {args : Array Value} {below : List Frame} {meth : Method} {c : Code} {D : va_G} {cA : Nat → ClassId} {base : Nat} {w' : WW} (C : cx b_q_without (none) 8 y_q_without.cls "without" p s m args meth c D cA base)   : ∀ (y0 : Nat) (y1 : Int32) (y2 : Int32) (y3 : Int32) (y4 : Int64) (y6 : Int64) (w : WW), f_q_without_45 y0 y1 y2 y3 y4 y6 w = some w' → ∀ (H : Heap) (locs : List Loc) (ls : Array Slot), wo_S D cls cA base s w H locs → lv_has ls 8 [(0, .ref (base + y0)), (1, .int y1), (2, .int y2), (3, .int y3), (4, .long y4), (6, .long y6)] → W p l e rm_q_without s m args below meth c H locs 0 0 (MQ below (wo_Q D cls cA base none w') args s rm_q_without.cells rm_q_without.slots (wo_B base)) (F0 m 45 ls []) := by
  obtain ⟨hx, hb, hr, hml, hown, hts, hlk, hnm, hK, hG⟩ := id C
  intro y0 y1 y2 y3 y4 y6 w h H locs ls hW hl
  unfold f_q_without_45 at h
  refine lv_aload_n hx hb d_q_without_45 rfl (lv_at hl 0 rfl) ?_
  replace h := bs h
  obtain ⟨x8, hx8, h⟩ := h
  refine gf_q_124 hx hb hts hown hK hG hW (gN_s hx8) d_q_without_46 ?_
  refine lv_iload_n hx hb d_q_without_49 rfl (lv_at hl 3 rfl) ?_
  replace h := bs h
  obtain ⟨x9, hx9, h⟩ := h
  refine wo_lald hx hb hK hW (t := 1) rfl hx9 d_q_without_50 ?_
  refine lv_lconst (v := (0 : Int64)) hx hb d_q_without_51 (by decide) ?_
  refine lc_ne (tgt := 74) hx hb d_q_without_52 d_q_without_53 (by decide) (fun c10 => ?_) (fun c10 => ?_)
  · rw [if_neg c10] at h
    exact j_q_without_74 C y0 y1 y2 y4 y6 w h _ _ _ hW (lv_sub hl [0, 1, 2, 4, 5] rfl)
  · rw [if_pos c10] at h
    refine lv_lload hx hb d_q_without_56 (lv_at hl 5 rfl) ?_
    refine lv_aload_n hx hb d_q_without_58 rfl (lv_at hl 0 rfl) ?_
    replace h := bs h
    obtain ⟨x18, hx18, h⟩ := h
    refine gf_q_127 hx hb hts hown hK hG hW (gN_s hx18) d_q_without_59 ?_
    refine lv_iload_n hx hb d_q_without_62 rfl (lv_at hl 3 rfl) ?_
    replace h := bs h
    obtain ⟨x19, hx19, h⟩ := h
    refine wo_lald hx hb hK hW (t := 1) rfl hx19 d_q_without_63 ?_
    refine lc_ne (tgt := 74) hx hb d_q_without_64 d_q_without_65 (by decide) (fun c20 => ?_) (fun c20 => ?_)
    · rw [if_neg c20] at h
      exact j_q_without_74 C y0 y1 y2 y4 y6 w h _ _ _ hW (lv_sub hl [0, 1, 2, 4, 5] rfl)
    · rw [if_pos c20] at h
      refine lv_lload hx hb d_q_without_68 (lv_at hl 5 rfl) ?_
      refine lv_lconst (v := (1 : Int64)) hx hb d_q_without_70 (by decide) ?_
      refine lv_lsub hx hb d_q_without_71 ?_
      refine lv_lstore (lv' := [(6, .long (y6 - (1 : Int64))), (0, .ref (base + y0)), (1, .int y1), (2, .int y2), (3, .int y3), (4, .long y4)]) hx hb d_q_without_72 hl (by decide) rfl (fun ls hl => ?_)
      exact j_q_without_74 C y0 y1 y2 y4 (y6 - (1 : Int64)) w h _ _ _ hW (lv_sub hl [1, 2, 3, 5, 0] rfl)
set_option maxHeartbeats 4000000 in
set_option maxRecDepth 100000 in
theorem c_q_without (l : Launch) (D : va_G) (cA : Nat → ClassId) (base : Nat) {a0 : Nat} {a1 : Int32} {a2 : Int32} {a3 : Int32} {w w' : WW} (h : f_q_without a0 a1 a2 a3 w = some w') : mt l D cls (wo_tys cA) cA base y_q_without (Cond.code y_q_without b_q_without 8 (none) :: gt) rm_q_without [.ref (base + a0), .int a1, .int a2, .int a3] w none w' rm_q_without.cells rm_q_without.slots := by
  refine mt_start (by decide) (Nat.le_of_ble_eq_true rfl) ?_
  intro p e s m below meth c ls hx hb hr hml hown hts hlk hnm hK hG hW hl
  have C : cx b_q_without (none) 8 y_q_without.cls "without" p s m [.ref (base + a0), .int a1, .int a2, .int a3].toArray meth c D cA base := ⟨hx, hb, hr, hml, hown, hts, hlk, hnm, hK, hG⟩
  have hl : lv_has ls 8 [(0, .ref (base + a0)), (1, .int a1), (2, .int a2), (3, .int a3)] := hl
  unfold f_q_without at h
  replace h := its h
  obtain ⟨-, h⟩ := h
  refine lv_aload_n hx hb d_q_without_0 rfl (lv_at hl 0 rfl) ?_
  replace h := bs h
  obtain ⟨x1, hx1, h⟩ := h
  refine gf_q_117 hx hb hts hown hK hG hW (gN_s hx1) d_q_without_1 ?_
  refine lv_iload_n hx hb d_q_without_4 rfl (lv_at hl 2 rfl) ?_
  replace h := bs h
  obtain ⟨x2, hx2, h⟩ := h
  refine wo_lald hx hb hK hW (t := 1) rfl hx2 d_q_without_5 ?_
  refine lv_lstore (lv' := [(4, .long x2), (0, .ref (base + a0)), (1, .int a1), (2, .int a2), (3, .int a3)]) hx hb d_q_without_6 hl (by decide) rfl (fun ls hl => ?_)
  refine lv_aload_n hx hb d_q_without_8 rfl (lv_at hl 1 rfl) ?_
  replace h := bs h
  obtain ⟨x3, hx3, h⟩ := h
  refine gf_q_121 hx hb hts hown hK hG hW (gN_s hx3) d_q_without_9 ?_
  refine lv_iload_n hx hb d_q_without_12 rfl (lv_at hl 3 rfl) ?_
  replace h := bs h
  obtain ⟨x4, hx4, h⟩ := h
  refine wo_lald hx hb hK hW (t := 1) rfl hx4 d_q_without_13 ?_
  refine lv_lstore (lv' := [(6, .long x4), (4, .long x2), (0, .ref (base + a0)), (1, .int a1), (2, .int a2), (3, .int a3)]) hx hb d_q_without_14 hl (by decide) rfl (fun ls hl => ?_)
  refine lv_aload_n hx hb d_q_without_16 rfl (lv_at hl 2 rfl) ?_
  replace h := bs h
  obtain ⟨x5, hx5, h⟩ := h
  refine gf_q_124 hx hb hts hown hK hG hW (gN_s hx5) d_q_without_17 ?_
  refine lv_iload_n hx hb d_q_without_20 rfl (lv_at hl 5 rfl) ?_
  replace h := bs h
  obtain ⟨x6, hx6, h⟩ := h
  refine wo_lald hx hb hK hW (t := 1) rfl hx6 d_q_without_21 ?_
  refine lv_lconst (v := (0 : Int64)) hx hb d_q_without_22 (by decide) ?_
  refine lc_ne (tgt := 45) hx hb d_q_without_23 d_q_without_24 (by decide) (fun c7 => ?_) (fun c7 => ?_)
  · rw [if_neg c7] at h
    exact j_q_without_45 C a0 a1 a2 a3 x2 x4 w h _ _ _ hW (lv_sub hl [2, 3, 4, 5, 1, 0] rfl)
  · rw [if_pos c7] at h
    refine lv_lload hx hb d_q_without_27 (lv_at hl 1 rfl) ?_
    refine lv_aload_n hx hb d_q_without_29 rfl (lv_at hl 2 rfl) ?_
    replace h := bs h
    obtain ⟨x21, hx21, h⟩ := h
    refine gf_q_127 hx hb hts hown hK hG hW (gN_s hx21) d_q_without_30 ?_
    refine lv_iload_n hx hb d_q_without_33 rfl (lv_at hl 5 rfl) ?_
    replace h := bs h
    obtain ⟨x22, hx22, h⟩ := h
    refine wo_lald hx hb hK hW (t := 1) rfl hx22 d_q_without_34 ?_
    refine lc_ne (tgt := 45) hx hb d_q_without_35 d_q_without_36 (by decide) (fun c23 => ?_) (fun c23 => ?_)
    · rw [if_neg c23] at h
      exact j_q_without_45 C a0 a1 a2 a3 x2 x4 w h _ _ _ hW (lv_sub hl [2, 3, 4, 5, 1, 0] rfl)
    · rw [if_pos c23] at h
      refine lv_lload hx hb d_q_without_39 (lv_at hl 1 rfl) ?_
      refine lv_lconst (v := (1 : Int64)) hx hb d_q_without_41 (by decide) ?_
      refine lv_ladd hx hb d_q_without_42 ?_
      refine lv_lstore (lv' := [(4, .long (x2 + (1 : Int64))), (6, .long x4), (0, .ref (base + a0)), (1, .int a1), (2, .int a2), (3, .int a3)]) hx hb d_q_without_43 hl (by decide) rfl (fun ls hl => ?_)
      exact j_q_without_45 C a0 a1 a2 a3 (x2 + (1 : Int64)) x4 w h _ _ _ hW (lv_sub hl [2, 3, 4, 5, 0, 1] rfl)
