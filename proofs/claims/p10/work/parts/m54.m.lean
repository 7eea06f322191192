/-! Methods as functions, and their contracts (by wip/gen/run.py). -/
theorem cv_q_479 {p : Program} {l : Launch} {e : Env} {R : Room} {s : State} {m : MethodId} {args : Array Value} {below : List Frame} {meth : Method} {c : Code} {H : Heap} {locs : List Loc} {cells slots : Nat} {Q : State → Prop} {D : va_G} {cA : Nat → ClassId} {base : Nat} {w w' : WW} {cc : ByteArray} {pc nL : Nat} {ls : Array Slot} {rest st0 As : List Value} {ov : Option Value} {b : Nat} (hx : p.tables.exec = Jvm.exec) (hb : c.code = cc) (hml : c.maxLocals = nL) (hown : s.vm.findClass Rc_q = some m.cls) (hts : ∀ w ∈ gt, w.before args s = true) (hK : va_K D cls (wo_tys cA) s) (hG : wo_G cA base s) (hW : wo_S D cls cA base s w H locs) (hM : mt l D cls (wo_tys cA) cA base y_q_all (Cond.code y_q_all b_q_all 2 (none) :: gt) rm_q_all (.ref (base + b) :: As) w ov w' rm_q_all.cells rm_q_all.slots) (hkb : kb w b 9 = true) (hR : rm_q_all.frames + 1 ≤ R.frames ∧ 8 + (2 + 11) + rm_q_all.locals ≤ R.locals) (hf : cells + rm_q_all.cells ≤ R.cells ∧ slots + rm_q_all.slots ≤ R.slots) (hn : As.length = 1) (hsz : ls.size = nL) (hst : st0 = As.reverse ++ .ref (base + b) :: rest) (hcat : (rest.map fun v => v.category).sum ≤ 8) (hdg : decode cc pc = .ok (.invokevirtual 479, 3)) (kk : ∀ (H1 : Heap) (locs1 : List Loc), wo_S D cls cA base s w' H1 locs1 → W p l e R s m args below meth c H1 locs1 (cells + rm_q_all.cells) (slots + rm_q_all.slots) Q (F0 m (pc + 3) ls (ov.toList ++ rest))) : W p l e R s m args below meth c H locs cells slots Q (F0 m pc ls st0) :=
  wo_callV (C := Rc_q) hx hb hml hown hts hK hG hW hM hkb rfl (gt_of (i := 1671) (by decide +kernel) (by decide +kernel)) (gt_of (i := 1673) (by decide +kernel) (by decide +kernel)) (gt_sel (i := 107) (by decide +kernel) (by decide +kernel)) (gt_of (i := 10) (by decide +kernel) (by decide +kernel)) (gt_of (i := 1674) (by decide +kernel) (by decide +kernel)) (by decide +kernel) hR hf hn hsz hst hcat hdg kk
theorem cv_q_482 {p : Program} {l : Launch} {e : Env} {R : Room} {s : State} {m : MethodId} {args : Array Value} {below : List Frame} {meth : Method} {c : Code} {H : Heap} {locs : List Loc} {cells slots : Nat} {Q : State → Prop} {D : va_G} {cA : Nat → ClassId} {base : Nat} {w w' : WW} {cc : ByteArray} {pc nL : Nat} {ls : Array Slot} {rest st0 As : List Value} {ov : Option Value} {b : Nat} (hx : p.tables.exec = Jvm.exec) (hb : c.code = cc) (hml : c.maxLocals = nL) (hown : s.vm.findClass Rc_q = some m.cls) (hts : ∀ w ∈ gt, w.before args s = true) (hK : va_K D cls (wo_tys cA) s) (hG : wo_G cA base s) (hW : wo_S D cls cA base s w H locs) (hM : mt l D cls (wo_tys cA) cA base y_q_store (Cond.code y_q_store b_q_store 10 (none) :: gt) rm_q_store (.ref (base + b) :: As) w ov w' rm_q_store.cells rm_q_store.slots) (hkb : kb w b 9 = true) (hR : rm_q_store.frames + 1 ≤ R.frames ∧ 8 + (10 + 11) + rm_q_store.locals ≤ R.locals) (hf : cells + rm_q_store.cells ≤ R.cells ∧ slots + rm_q_store.slots ≤ R.slots) (hn : As.length = 1) (hsz : ls.size = nL) (hst : st0 = As.reverse ++ .ref (base + b) :: rest) (hcat : (rest.map fun v => v.category).sum ≤ 8) (hdg : decode cc pc = .ok (.invokevirtual 482, 3)) (kk : ∀ (H1 : Heap) (locs1 : List Loc), wo_S D cls cA base s w' H1 locs1 → W p l e R s m args below meth c H1 locs1 (cells + rm_q_store.cells) (slots + rm_q_store.slots) Q (F0 m (pc + 3) ls (ov.toList ++ rest))) : W p l e R s m args below meth c H locs cells slots Q (F0 m pc ls st0) :=
  wo_callV (C := Rc_q) hx hb hml hown hts hK hG hW hM hkb rfl (gt_of (i := 1675) (by decide +kernel) (by decide +kernel)) (gt_of (i := 1677) (by decide +kernel) (by decide +kernel)) (gt_sel (i := 108) (by decide +kernel) (by decide +kernel)) (gt_of (i := 10) (by decide +kernel) (by decide +kernel)) (gt_of (i := 1678) (by decide +kernel) (by decide +kernel)) (by decide +kernel) hR hf hn hsz hst hcat hdg kk
abbrev b_q_pass : ByteArray := prog_11_method_79_code
def y_q_pass : MethodName := ⟨"AlarmForgeModel", "pass", "(I)V"⟩
def rm_q_pass : Room := { frames := 6, cells := 0, slots := 0, locals := 171 }
theorem d_q_pass_0 : decode b_q_pass 0 = .ok (.aload_n 0, 1) := by decide +kernel
theorem d_q_pass_1 : decode b_q_pass 1 = .ok (.getfield 133, 3) := by decide +kernel
theorem d_q_pass_4 : decode b_q_pass 4 = .ok (.iconst 0, 1) := by decide +kernel
theorem d_q_pass_5 : decode b_q_pass 5 = .ok (.baload, 1) := by decide +kernel
theorem d_q_pass_6 : decode b_q_pass 6 = .ok (.ifCond .eq (4), 3) := by decide +kernel
theorem d_q_pass_9 : decode b_q_pass 9 = .ok (.return_, 1) := by decide +kernel
theorem d_q_pass_10 : decode b_q_pass 10 = .ok (.aload_n 0, 1) := by decide +kernel
theorem d_q_pass_11 : decode b_q_pass 11 = .ok (.getfield 26, 3) := by decide +kernel
theorem d_q_pass_14 : decode b_q_pass 14 = .ok (.iload_n 1, 1) := by decide +kernel
theorem d_q_pass_15 : decode b_q_pass 15 = .ok (.iaload, 1) := by decide +kernel
theorem d_q_pass_16 : decode b_q_pass 16 = .ok (.iconst 1, 1) := by decide +kernel
theorem d_q_pass_17 : decode b_q_pass 17 = .ok (.if_icmp .ne (28), 3) := by decide +kernel
theorem d_q_pass_20 : decode b_q_pass 20 = .ok (.aload_n 0, 1) := by decide +kernel
theorem d_q_pass_21 : decode b_q_pass 21 = .ok (.aload_n 0, 1) := by decide +kernel
theorem d_q_pass_22 : decode b_q_pass 22 = .ok (.getfield 29, 3) := by decide +kernel
theorem d_q_pass_25 : decode b_q_pass 25 = .ok (.iload_n 1, 1) := by decide +kernel
theorem d_q_pass_26 : decode b_q_pass 26 = .ok (.iaload, 1) := by decide +kernel
theorem d_q_pass_27 : decode b_q_pass 27 = .ok (.invokevirtual 479, 3) := by decide +kernel
theorem d_q_pass_30 : decode b_q_pass 30 = .ok (.aload_n 0, 1) := by decide +kernel
theorem d_q_pass_31 : decode b_q_pass 31 = .ok (.getfield 130, 3) := by decide +kernel
theorem d_q_pass_34 : decode b_q_pass 34 = .ok (.aload_n 0, 1) := by decide +kernel
theorem d_q_pass_35 : decode b_q_pass 35 = .ok (.getfield 29, 3) := by decide +kernel
theorem d_q_pass_38 : decode b_q_pass 38 = .ok (.iload_n 1, 1) := by decide +kernel
theorem d_q_pass_39 : decode b_q_pass 39 = .ok (.iaload, 1) := by decide +kernel
theorem d_q_pass_40 : decode b_q_pass 40 = .ok (.iconst 0, 1) := by decide +kernel
theorem d_q_pass_41 : decode b_q_pass 41 = .ok (.bastore, 1) := by decide +kernel
theorem d_q_pass_42 : decode b_q_pass 42 = .ok (.goto (142), 3) := by decide +kernel
theorem d_q_pass_45 : decode b_q_pass 45 = .ok (.aload_n 0, 1) := by decide +kernel
theorem d_q_pass_46 : decode b_q_pass 46 = .ok (.getfield 26, 3) := by decide +kernel
theorem d_q_pass_49 : decode b_q_pass 49 = .ok (.iload_n 1, 1) := by decide +kernel
theorem d_q_pass_50 : decode b_q_pass 50 = .ok (.iaload, 1) := by decide +kernel
theorem d_q_pass_51 : decode b_q_pass 51 = .ok (.ifCond .ne (71), 3) := by decide +kernel
theorem d_q_pass_54 : decode b_q_pass 54 = .ok (.aload_n 0, 1) := by decide +kernel
theorem d_q_pass_55 : decode b_q_pass 55 = .ok (.aload_n 0, 1) := by decide +kernel
theorem d_q_pass_56 : decode b_q_pass 56 = .ok (.getfield 35, 3) := by decide +kernel
theorem d_q_pass_59 : decode b_q_pass 59 = .ok (.iload_n 1, 1) := by decide +kernel
theorem d_q_pass_60 : decode b_q_pass 60 = .ok (.iaload, 1) := by decide +kernel
theorem d_q_pass_61 : decode b_q_pass 61 = .ok (.aload_n 0, 1) := by decide +kernel
theorem d_q_pass_62 : decode b_q_pass 62 = .ok (.getfield 38, 3) := by decide +kernel
theorem d_q_pass_65 : decode b_q_pass 65 = .ok (.iload_n 1, 1) := by decide +kernel
theorem d_q_pass_66 : decode b_q_pass 66 = .ok (.iaload, 1) := by decide +kernel
theorem d_q_pass_67 : decode b_q_pass 67 = .ok (.sipush (226), 3) := by decide +kernel
theorem d_q_pass_70 : decode b_q_pass 70 = .ok (.invokevirtual 467, 3) := by decide +kernel
theorem d_q_pass_73 : decode b_q_pass 73 = .ok (.istore_n 2, 1) := by decide +kernel
theorem d_q_pass_74 : decode b_q_pass 74 = .ok (.aload_n 0, 1) := by decide +kernel
theorem d_q_pass_75 : decode b_q_pass 75 = .ok (.getfield 133, 3) := by decide +kernel
theorem d_q_pass_78 : decode b_q_pass 78 = .ok (.iconst 0, 1) := by decide +kernel
theorem d_q_pass_79 : decode b_q_pass 79 = .ok (.iload_n 2, 1) := by decide +kernel
theorem d_q_pass_80 : decode b_q_pass 80 = .ok (.ifCond .ne (7), 3) := by decide +kernel
theorem d_q_pass_83 : decode b_q_pass 83 = .ok (.iconst 1, 1) := by decide +kernel
theorem d_q_pass_84 : decode b_q_pass 84 = .ok (.goto (4), 3) := by decide +kernel
theorem d_q_pass_87 : decode b_q_pass 87 = .ok (.iconst 0, 1) := by decide +kernel
theorem d_q_pass_88 : decode b_q_pass 88 = .ok (.bastore, 1) := by decide +kernel
theorem d_q_pass_89 : decode b_q_pass 89 = .ok (.iload_n 2, 1) := by decide +kernel
theorem d_q_pass_90 : decode b_q_pass 90 = .ok (.ifCond .ne (4), 3) := by decide +kernel
theorem d_q_pass_93 : decode b_q_pass 93 = .ok (.return_, 1) := by decide +kernel
theorem d_q_pass_94 : decode b_q_pass 94 = .ok (.aload_n 0, 1) := by decide +kernel
theorem d_q_pass_95 : decode b_q_pass 95 = .ok (.aload_n 0, 1) := by decide +kernel
theorem d_q_pass_96 : decode b_q_pass 96 = .ok (.getfield 29, 3) := by decide +kernel
theorem d_q_pass_99 : decode b_q_pass 99 = .ok (.iload_n 1, 1) := by decide +kernel
theorem d_q_pass_100 : decode b_q_pass 100 = .ok (.iaload, 1) := by decide +kernel
theorem d_q_pass_101 : decode b_q_pass 101 = .ok (.sipush (226), 3) := by decide +kernel
theorem d_q_pass_104 : decode b_q_pass 104 = .ok (.invokevirtual 400, 3) := by decide +kernel
theorem d_q_pass_107 : decode b_q_pass 107 = .ok (.aload_n 0, 1) := by decide +kernel
theorem d_q_pass_108 : decode b_q_pass 108 = .ok (.getfield 130, 3) := by decide +kernel
theorem d_q_pass_111 : decode b_q_pass 111 = .ok (.aload_n 0, 1) := by decide +kernel
theorem d_q_pass_112 : decode b_q_pass 112 = .ok (.getfield 29, 3) := by decide +kernel
theorem d_q_pass_115 : decode b_q_pass 115 = .ok (.iload_n 1, 1) := by decide +kernel
theorem d_q_pass_116 : decode b_q_pass 116 = .ok (.iaload, 1) := by decide +kernel
theorem d_q_pass_117 : decode b_q_pass 117 = .ok (.iconst 0, 1) := by decide +kernel
theorem d_q_pass_118 : decode b_q_pass 118 = .ok (.bastore, 1) := by decide +kernel
theorem d_q_pass_119 : decode b_q_pass 119 = .ok (.goto (65), 3) := by decide +kernel
theorem d_q_pass_122 : decode b_q_pass 122 = .ok (.aload_n 0, 1) := by decide +kernel
theorem d_q_pass_123 : decode b_q_pass 123 = .ok (.getfield 26, 3) := by decide +kernel
theorem d_q_pass_126 : decode b_q_pass 126 = .ok (.iload_n 1, 1) := by decide +kernel
theorem d_q_pass_127 : decode b_q_pass 127 = .ok (.iaload, 1) := by decide +kernel
theorem d_q_pass_128 : decode b_q_pass 128 = .ok (.iconst 2, 1) := by decide +kernel
theorem d_q_pass_129 : decode b_q_pass 129 = .ok (.if_icmp .ne (11), 3) := by decide +kernel
theorem d_q_pass_132 : decode b_q_pass 132 = .ok (.aload_n 0, 1) := by decide +kernel
theorem d_q_pass_133 : decode b_q_pass 133 = .ok (.iload_n 1, 1) := by decide +kernel
theorem d_q_pass_134 : decode b_q_pass 134 = .ok (.invokevirtual 482, 3) := by decide +kernel
theorem d_q_pass_137 : decode b_q_pass 137 = .ok (.goto (47), 3) := by decide +kernel
theorem d_q_pass_140 : decode b_q_pass 140 = .ok (.aload_n 0, 1) := by decide +kernel
theorem d_q_pass_141 : decode b_q_pass 141 = .ok (.iconst 1, 1) := by decide +kernel
theorem d_q_pass_142 : decode b_q_pass 142 = .ok (.iconst 0, 1) := by decide +kernel
theorem d_q_pass_143 : decode b_q_pass 143 = .ok (.invokevirtual 445, 3) := by decide +kernel
theorem d_q_pass_146 : decode b_q_pass 146 = .ok (.aload_n 0, 1) := by decide +kernel
theorem d_q_pass_147 : decode b_q_pass 147 = .ok (.iload_n 1, 1) := by decide +kernel
theorem d_q_pass_148 : decode b_q_pass 148 = .ok (.iconst 0, 1) := by decide +kernel
theorem d_q_pass_149 : decode b_q_pass 149 = .ok (.invokevirtual 485, 3) := by decide +kernel
theorem d_q_pass_152 : decode b_q_pass 152 = .ok (.aload_n 0, 1) := by decide +kernel
theorem d_q_pass_153 : decode b_q_pass 153 = .ok (.getfield 133, 3) := by decide +kernel
theorem d_q_pass_156 : decode b_q_pass 156 = .ok (.iconst 0, 1) := by decide +kernel
theorem d_q_pass_157 : decode b_q_pass 157 = .ok (.baload, 1) := by decide +kernel
theorem d_q_pass_158 : decode b_q_pass 158 = .ok (.ifCond .ne (14), 3) := by decide +kernel
theorem d_q_pass_161 : decode b_q_pass 161 = .ok (.aload_n 0, 1) := by decide +kernel
theorem d_q_pass_162 : decode b_q_pass 162 = .ok (.iconst 5, 1) := by decide +kernel
theorem d_q_pass_163 : decode b_q_pass 163 = .ok (.aload_n 0, 1) := by decide +kernel
theorem d_q_pass_164 : decode b_q_pass 164 = .ok (.getfield 32, 3) := by decide +kernel
theorem d_q_pass_167 : decode b_q_pass 167 = .ok (.iload_n 1, 1) := by decide +kernel
theorem d_q_pass_168 : decode b_q_pass 168 = .ok (.iaload, 1) := by decide +kernel
theorem d_q_pass_169 : decode b_q_pass 169 = .ok (.invokevirtual 442, 3) := by decide +kernel
theorem d_q_pass_172 : decode b_q_pass 172 = .ok (.aload_n 0, 1) := by decide +kernel
theorem d_q_pass_173 : decode b_q_pass 173 = .ok (.iconst 0, 1) := by decide +kernel
theorem d_q_pass_174 : decode b_q_pass 174 = .ok (.iconst 1, 1) := by decide +kernel
theorem d_q_pass_175 : decode b_q_pass 175 = .ok (.invokevirtual 445, 3) := by decide +kernel
theorem d_q_pass_178 : decode b_q_pass 178 = .ok (.aload_n 0, 1) := by decide +kernel
theorem d_q_pass_179 : decode b_q_pass 179 = .ok (.iload_n 1, 1) := by decide +kernel
theorem d_q_pass_180 : decode b_q_pass 180 = .ok (.iconst 1, 1) := by decide +kernel
theorem d_q_pass_181 : decode b_q_pass 181 = .ok (.invokevirtual 485, 3) := by decide +kernel
theorem d_q_pass_184 : decode b_q_pass 184 = .ok (.return_, 1) := by decide +kernel
theorem kb_q_pass {a0 : Nat} {a1 : Int32} {w : WW} {r : WW} (h : f_q_pass a0 a1 w = some r) : kb w a0 9 = true := (its h).1
set_option maxHeartbeats 4000000 in
set_option maxRecDepth 100000 in
theorem j_q_pass_184 {p : Program} {l : Launch} {e : Env} {s : State} {m : MethodId} {args : Array Value} {below : List Frame} {meth : Method} {c : Code} {D : va_G} {cA : Nat → ClassId} {base : Nat} {w' : WW} (C : cx b_q_pass (none) 3 y_q_pass.cls "pass" p s m args meth c D cA base)   : ∀  (w : WW), f_q_pass_184  w = some w' → ∀ (H : Heap) (locs : List Loc) (ls : Array Slot), wo_S D cls cA base s w H locs → lv_has ls 3 [] → W p l e rm_q_pass s m args below meth c H locs 0 0 (MQ below (wo_Q D cls cA base none w') args s rm_q_pass.cells rm_q_pass.slots (wo_B base)) (F0 m 184 ls []) := by
  obtain ⟨hx, hb, hr, hml, hown, hts, hlk, hnm, hK, hG⟩ := id C
  intro  w h H locs ls hW hl
  unfold f_q_pass_184 at h
  cases h
  exact wo_vret hx hb hr hlk hW d_q_pass_184
set_option maxHeartbeats 4000000 in
set_option maxRecDepth 100000 in
theorem j_q_pass_172 {p : Program} {l : Launch} {e : Env} {s : State} {m : MethodId} {args : Array Value} {below : List Frame} {meth : Method} {c : Code} {D : va_G} {cA : Nat → ClassId} {base : Nat} {w' : WW} (C : cx b_q_pass (none) 3 y_q_pass.cls "pass" p s m args meth c D cA base)   : ∀ (y0 : Nat) (y1 : Int32) (w : WW), f_q_pass_172 y0 y1 w = some w' → ∀ (H : Heap) (locs : List Loc) (ls : Array Slot), wo_S D cls cA base s w H locs → lv_has ls 3 [(0, .ref (base + y0)), (1, .int y1)] → W p l e rm_q_pass s m args below meth c H locs 0 0 (MQ below (wo_Q D cls cA base none w') args s rm_q_pass.cells rm_q_pass.slots (wo_B base)) (F0 m 172 ls []) := by
  obtain ⟨hx, hb, hr, hml, hown, hts, hlk, hnm, hK, hG⟩ := id C
  intro y0 y1 w h H locs ls hW hl
  unfold f_q_pass_172 at h
  refine lv_aload_n hx hb d_q_pass_172 rfl (lv_at hl 0 rfl) ?_
  refine lv_iconst (v := (0 : Int32)) hx hb d_q_pass_173 (by decide) ?_
  refine lv_iconst (v := (1 : Int32)) hx hb d_q_pass_174 (by decide) ?_
  replace h := bs h
  obtain ⟨w18, hw18, h⟩ := h
  refine cv_q_445 (As := [.int (0 : Int32), .int (1 : Int32)]) (rest := []) hx hb hml hown hts hK hG hW (c_q_copyState l D cA base hw18) (kb_q_copyState hw18) ⟨Nat.le_of_ble_eq_true rfl, Nat.le_of_ble_eq_true rfl⟩ ⟨Nat.le_of_ble_eq_true rfl, Nat.le_of_ble_eq_true rfl⟩ rfl hl.1 rfl (Nat.le_of_ble_eq_true rfl) d_q_pass_175 (fun H locs hW => ?_)
  refine lv_aload_n hx hb d_q_pass_178 rfl (lv_at hl 0 rfl) ?_
  refine lv_iload_n hx hb d_q_pass_179 rfl (lv_at hl 1 rfl) ?_
  refine lv_iconst (v := (1 : Int32)) hx hb d_q_pass_180 (by decide) ?_
  replace h := bs h
  obtain ⟨w19, hw19, h⟩ := h
  refine cv_q_485 (As := [.int y1, .int (1 : Int32)]) (rest := []) hx hb hml hown hts hK hG hW (c_q_assume l D cA base hw19) (kb_q_assume hw19) ⟨Nat.le_of_ble_eq_true rfl, Nat.le_of_ble_eq_true rfl⟩ ⟨Nat.le_of_ble_eq_true rfl, Nat.le_of_ble_eq_true rfl⟩ rfl hl.1 rfl (Nat.le_of_ble_eq_true rfl) d_q_pass_181 (fun H locs hW => ?_)
  exact j_q_pass_184 C w19 h _ _ _ hW (lv_sub hl [] rfl)
set_option maxHeartbeats 4000000 in
set_option maxRecDepth 100000 in
theorem j_q_pass_88 {p : Program} {l : Launch} {e : Env} {s : State} {m : MethodId} {args : Array Value} {below : List Frame} {meth : Method} {c : Code} {D : va_G} {cA : Nat → ClassId} {base : Nat} {w' : WW} (C : cx b_q_pass (none) 3 y_q_pass.cls "pass" p s m args meth c D cA base)   : ∀ (y0 : Nat) (y1 : Int32) (y2 : Int32) (z0 : Nat) (z1 : Int32) (z2 : Int32) (w : WW), f_q_pass_88 y0 y1 y2 z0 z1 z2 w = some w' → ∀ (H : Heap) (locs : List Loc) (ls : Array Slot), wo_S D cls cA base s w H locs → lv_has ls 3 [(0, .ref (base + y0)), (1, .int y1), (2, .int y2)] → W p l e rm_q_pass s m args below meth c H locs 0 0 (MQ below (wo_Q D cls cA base none w') args s rm_q_pass.cells rm_q_pass.slots (wo_B base)) (F0 m 88 ls [.int z2, .int z1, .ref (base + z0)]) := by
  obtain ⟨hx, hb, hr, hml, hown, hts, hlk, hnm, hK, hG⟩ := id C
  intro y0 y1 y2 z0 z1 z2 w h H locs ls hW hl
  unfold f_q_pass_88 at h
  replace h := bs h
  obtain ⟨w32, hw32, h⟩ := h
  refine wo_zast hx hb hK hW (t := 2) rfl hw32 d_q_pass_88 (fun H locs hW => ?_)
  refine lv_iload_n hx hb d_q_pass_89 rfl (lv_at hl 2 rfl) ?_
  refine lv_if_ne (tgt := 94) hx hb d_q_pass_90 (by decide) (fun c33 => ?_) (fun c33 => ?_)
  · rw [if_neg c33] at h
    refine lv_aload_n hx hb d_q_pass_94 rfl (lv_at hl 0 rfl) ?_
    refine lv_aload_n hx hb d_q_pass_95 rfl (lv_at hl 0 rfl) ?_
    replace h := bs h
    obtain ⟨x34, hx34, h⟩ := h
    refine gf_q_29 hx hb hts hown hK hG hW (gN_s hx34) d_q_pass_96 ?_
    refine lv_iload_n hx hb d_q_pass_99 rfl (lv_at hl 1 rfl) ?_
    replace h := bs h
    obtain ⟨x35, hx35, h⟩ := h
    refine wo_iald hx hb hK hW (t := 0) rfl hx35 d_q_pass_100 ?_
    refine lv_sipush (v := (226 : Int32)) hx hb d_q_pass_101 (by decide) ?_
    replace h := bs h
    obtain ⟨w36, hw36, h⟩ := h
    refine cv_q_400 (As := [.int x35, .int (226 : Int32)]) (rest := []) hx hb hml hown hts hK hG hW (c_q_copy l D cA base hw36) (kb_q_copy hw36) ⟨Nat.le_of_ble_eq_true rfl, Nat.le_of_ble_eq_true rfl⟩ ⟨Nat.le_of_ble_eq_true rfl, Nat.le_of_ble_eq_true rfl⟩ rfl hl.1 rfl (Nat.le_of_ble_eq_true rfl) d_q_pass_104 (fun H locs hW => ?_)
    refine lv_aload_n hx hb d_q_pass_107 rfl (lv_at hl 0 rfl) ?_
    replace h := bs h
    obtain ⟨x37, hx37, h⟩ := h
    refine gf_q_130 hx hb hts hown hK hG hW (gN_s hx37) d_q_pass_108 ?_
    refine lv_aload_n hx hb d_q_pass_111 rfl (lv_at hl 0 rfl) ?_
    replace h := bs h
    obtain ⟨x38, hx38, h⟩ := h
    refine gf_q_29 hx hb hts hown hK hG hW (gN_s hx38) d_q_pass_112 ?_
    refine lv_iload_n hx hb d_q_pass_115 rfl (lv_at hl 1 rfl) ?_
    replace h := bs h
    obtain ⟨x39, hx39, h⟩ := h
    refine wo_iald hx hb hK hW (t := 0) rfl hx39 d_q_pass_116 ?_
    refine lv_iconst (v := (0 : Int32)) hx hb d_q_pass_117 (by decide) ?_
    replace h := bs h
    obtain ⟨w40, hw40, h⟩ := h
    refine wo_zast hx hb hK hW (t := 2) rfl hw40 d_q_pass_118 (fun H locs hW => ?_)
    refine lv_goto (tgt := 184) hx hb d_q_pass_119 (by decide) ?_
    exact j_q_pass_184 C w40 h _ _ _ hW (lv_sub hl [] rfl)
  · rw [if_pos c33] at h
    cases h
    exact wo_vret hx hb hr hlk hW d_q_pass_93
set_option maxHeartbeats 4000000 in
set_option maxRecDepth 100000 in
theorem c_q_pass (l : Launch) (D : va_G) (cA : Nat → ClassId) (base : Nat) {a0 : Nat} {a1 : Int32} {w w' : WW} (h : f_q_pass a0 a1 w = some w') : mt l D cls (wo_tys cA) cA base y_q_pass (Cond.code y_q_pass b_q_pass 3 (none) :: gt) rm_q_pass [.ref (base + a0), .int a1] w none w' rm_q_pass.cells rm_q_pass.slots := by
  refine mt_start (by decide) (Nat.le_of_ble_eq_true rfl) ?_
  intro p e s m below meth c ls hx hb hr hml hown hts hlk hnm hK hG hW hl
  have C : cx b_q_pass (none) 3 y_q_pass.cls "pass" p s m [.ref (base + a0), .int a1].toArray meth c D cA base := ⟨hx, hb, hr, hml, hown, hts, hlk, hnm, hK, hG⟩
  have hl : lv_has ls 3 [(0, .ref (base + a0)), (1, .int a1)] := hl
  unfold f_q_pass at h
  replace h := its h
  obtain ⟨-, h⟩ := h
  refine lv_aload_n hx hb d_q_pass_0 rfl (lv_at hl 0 rfl) ?_
  replace h := bs h
  obtain ⟨x1, hx1, h⟩ := h
  refine gf_q_133 hx hb hts hown hK hG hW (gN_s hx1) d_q_pass_1 ?_
  refine lv_iconst (v := (0 : Int32)) hx hb d_q_pass_4 (by decide) ?_
  replace h := bs h
  obtain ⟨x2, hx2, h⟩ := h
  refine wo_zald hx hb hK hW (t := 2) rfl hx2 d_q_pass_5 ?_
  refine lv_if_eq (tgt := 10) hx hb d_q_pass_6 (by decide) (fun c3 => ?_) (fun c3 => ?_)
  · rw [if_pos c3] at h
    refine lv_aload_n hx hb d_q_pass_10 rfl (lv_at hl 0 rfl) ?_
    replace h := bs h
    obtain ⟨x4, hx4, h⟩ := h
    refine gf_q_26 hx hb hts hown hK hG hW (gN_s hx4) d_q_pass_11 ?_
    refine lv_iload_n hx hb d_q_pass_14 rfl (lv_at hl 1 rfl) ?_
    replace h := bs h
    obtain ⟨x5, hx5, h⟩ := h
    refine wo_iald hx hb hK hW (t := 0) rfl hx5 d_q_pass_15 ?_
    refine lv_iconst (v := (1 : Int32)) hx hb d_q_pass_16 (by decide) ?_
    refine lv_icmp_ne (tgt := 45) hx hb d_q_pass_17 (by decide) (fun c6 => ?_) (fun c6 => ?_)
    · rw [if_neg c6] at h
      refine lv_aload_n hx hb d_q_pass_45 rfl (lv_at hl 0 rfl) ?_
      replace h := bs h
      obtain ⟨x7, hx7, h⟩ := h
      refine gf_q_26 hx hb hts hown hK hG hW (gN_s hx7) d_q_pass_46 ?_
      refine lv_iload_n hx hb d_q_pass_49 rfl (lv_at hl 1 rfl) ?_
      replace h := bs h
      obtain ⟨x8, hx8, h⟩ := h
      refine wo_iald hx hb hK hW (t := 0) rfl hx8 d_q_pass_50 ?_
      refine lv_if_ne (tgt := 122) hx hb d_q_pass_51 (by decide) (fun c9 => ?_) (fun c9 => ?_)
      · rw [if_neg c9] at h
        refine lv_aload_n hx hb d_q_pass_122 rfl (lv_at hl 0 rfl) ?_
        replace h := bs h
        obtain ⟨x10, hx10, h⟩ := h
        refine gf_q_26 hx hb hts hown hK hG hW (gN_s hx10) d_q_pass_123 ?_
        refine lv_iload_n hx hb d_q_pass_126 rfl (lv_at hl 1 rfl) ?_
        replace h := bs h
        obtain ⟨x11, hx11, h⟩ := h
        refine wo_iald hx hb hK hW (t := 0) rfl hx11 d_q_pass_127 ?_
        refine lv_iconst (v := (2 : Int32)) hx hb d_q_pass_128 (by decide) ?_
        refine lv_icmp_ne (tgt := 140) hx hb d_q_pass_129 (by decide) (fun c12 => ?_) (fun c12 => ?_)
        · rw [if_neg c12] at h
          refine lv_aload_n hx hb d_q_pass_140 rfl (lv_at hl 0 rfl) ?_
          refine lv_iconst (v := (1 : Int32)) hx hb d_q_pass_141 (by decide) ?_
          refine lv_iconst (v := (0 : Int32)) hx hb d_q_pass_142 (by decide) ?_
          replace h := bs h
          obtain ⟨w13, hw13, h⟩ := h
          refine cv_q_445 (As := [.int (1 : Int32), .int (0 : Int32)]) (rest := []) hx hb hml hown hts hK hG hW (c_q_copyState l D cA base hw13) (kb_q_copyState hw13) ⟨Nat.le_of_ble_eq_true rfl, Nat.le_of_ble_eq_true rfl⟩ ⟨Nat.le_of_ble_eq_true rfl, Nat.le_of_ble_eq_true rfl⟩ rfl hl.1 rfl (Nat.le_of_ble_eq_true rfl) d_q_pass_143 (fun H locs hW => ?_)
          refine lv_aload_n hx hb d_q_pass_146 rfl (lv_at hl 0 rfl) ?_
          refine lv_iload_n hx hb d_q_pass_147 rfl (lv_at hl 1 rfl) ?_
          refine lv_iconst (v := (0 : Int32)) hx hb d_q_pass_148 (by decide) ?_
          replace h := bs h
          obtain ⟨w14, hw14, h⟩ := h
          refine cv_q_485 (As := [.int a1, .int (0 : Int32)]) (rest := []) hx hb hml hown hts hK hG hW (c_q_assume l D cA base hw14) (kb_q_assume hw14) ⟨Nat.le_of_ble_eq_true rfl, Nat.le_of_ble_eq_true rfl⟩ ⟨Nat.le_of_ble_eq_true rfl, Nat.le_of_ble_eq_true rfl⟩ rfl hl.1 rfl (Nat.le_of_ble_eq_true rfl) d_q_pass_149 (fun H locs hW => ?_)
          refine lv_aload_n hx hb d_q_pass_152 rfl (lv_at hl 0 rfl) ?_
          replace h := bs h
          obtain ⟨x15, hx15, h⟩ := h
          refine gf_q_133 hx hb hts hown hK hG hW (gN_s hx15) d_q_pass_153 ?_
          refine lv_iconst (v := (0 : Int32)) hx hb d_q_pass_156 (by decide) ?_
          replace h := bs h
          obtain ⟨x16, hx16, h⟩ := h
          refine wo_zald hx hb hK hW (t := 2) rfl hx16 d_q_pass_157 ?_
          refine lv_if_ne (tgt := 172) hx hb d_q_pass_158 (by decide) (fun c17 => ?_) (fun c17 => ?_)
          · rw [if_neg c17] at h
            exact j_q_pass_172 C a0 a1 w14 h _ _ _ hW (lv_sub hl [0, 1] rfl)
          · rw [if_pos c17] at h
            refine lv_aload_n hx hb d_q_pass_161 rfl (lv_at hl 0 rfl) ?_
            refine lv_iconst (v := (5 : Int32)) hx hb d_q_pass_162 (by decide) ?_
            refine lv_aload_n hx hb d_q_pass_163 rfl (lv_at hl 0 rfl) ?_
            replace h := bs h
            obtain ⟨x20, hx20, h⟩ := h
            refine gf_q_32 hx hb hts hown hK hG hW (gN_s hx20) d_q_pass_164 ?_
            refine lv_iload_n hx hb d_q_pass_167 rfl (lv_at hl 1 rfl) ?_
            replace h := bs h
            obtain ⟨x21, hx21, h⟩ := h
            refine wo_iald hx hb hK hW (t := 0) rfl hx21 d_q_pass_168 ?_
            replace h := bs h
            obtain ⟨w22, hw22, h⟩ := h
            refine cv_q_442 (As := [.int (5 : Int32), .int x21]) (rest := []) hx hb hml hown hts hK hG hW (c_q_warn l D cA base hw22) (kb_q_warn hw22) ⟨Nat.le_of_ble_eq_true rfl, Nat.le_of_ble_eq_true rfl⟩ ⟨Nat.le_of_ble_eq_true rfl, Nat.le_of_ble_eq_true rfl⟩ rfl hl.1 rfl (Nat.le_of_ble_eq_true rfl) d_q_pass_169 (fun H locs hW => ?_)
            exact j_q_pass_172 C a0 a1 w22 h _ _ _ hW (lv_sub hl [0, 1] rfl)
        · rw [if_pos c12] at h
          refine lv_aload_n hx hb d_q_pass_132 rfl (lv_at hl 0 rfl) ?_
          refine lv_iload_n hx hb d_q_pass_133 rfl (lv_at hl 1 rfl) ?_
          replace h := bs h
          obtain ⟨w23, hw23, h⟩ := h
          refine cv_q_482 (As := [.int a1]) (rest := []) hx hb hml hown hts hK hG hW (c_q_store l D cA base hw23) (kb_q_store hw23) ⟨Nat.le_of_ble_eq_true rfl, Nat.le_of_ble_eq_true rfl⟩ ⟨Nat.le_of_ble_eq_true rfl, Nat.le_of_ble_eq_true rfl⟩ rfl hl.1 rfl (Nat.le_of_ble_eq_true rfl) d_q_pass_134 (fun H locs hW => ?_)
          refine lv_goto (tgt := 184) hx hb d_q_pass_137 (by decide) ?_
          exact j_q_pass_184 C w23 h _ _ _ hW (lv_sub hl [] rfl)
      · rw [if_pos c9] at h
        refine lv_aload_n hx hb d_q_pass_54 rfl (lv_at hl 0 rfl) ?_
        refine lv_aload_n hx hb d_q_pass_55 rfl (lv_at hl 0 rfl) ?_
        replace h := bs h
        obtain ⟨x24, hx24, h⟩ := h
        refine gf_q_35 hx hb hts hown hK hG hW (gN_s hx24) d_q_pass_56 ?_
        refine lv_iload_n hx hb d_q_pass_59 rfl (lv_at hl 1 rfl) ?_
        replace h := bs h
        obtain ⟨x25, hx25, h⟩ := h
        refine wo_iald hx hb hK hW (t := 0) rfl hx25 d_q_pass_60 ?_
        refine lv_aload_n hx hb d_q_pass_61 rfl (lv_at hl 0 rfl) ?_
        replace h := bs h
        obtain ⟨x26, hx26, h⟩ := h
        refine gf_q_38 hx hb hts hown hK hG hW (gN_s hx26) d_q_pass_62 ?_
        refine lv_iload_n hx hb d_q_pass_65 rfl (lv_at hl 1 rfl) ?_
        replace h := bs h
        obtain ⟨x27, hx27, h⟩ := h
        refine wo_iald hx hb hK hW (t := 0) rfl hx27 d_q_pass_66 ?_
        refine lv_sipush (v := (226 : Int32)) hx hb d_q_pass_67 (by decide) ?_
        replace h := bs2 h
        obtain ⟨x29, w28, hw28, h⟩ := h
        refine cv_q_467 (As := [.int x25, .int x27, .int (226 : Int32)]) (rest := []) hx hb hml hown hts hK hG hW (c_q_look l D cA base hw28) (kb_q_look hw28) ⟨Nat.le_of_ble_eq_true rfl, Nat.le_of_ble_eq_true rfl⟩ ⟨Nat.le_of_ble_eq_true rfl, Nat.le_of_ble_eq_true rfl⟩ rfl hl.1 rfl (Nat.le_of_ble_eq_true rfl) d_q_pass_70 (fun H locs hW => ?_)
        refine lv_istore_n (lv' := [(2, .int x29), (0, .ref (base + a0)), (1, .int a1)]) hx hb d_q_pass_73 rfl hl (by decide) rfl (fun ls hl => ?_)
        refine lv_aload_n hx hb d_q_pass_74 rfl (lv_at hl 1 rfl) ?_
        replace h := bs h
        obtain ⟨x30, hx30, h⟩ := h
        refine gf_q_133 hx hb hts hown hK hG hW (gN_s hx30) d_q_pass_75 ?_
        refine lv_iconst (v := (0 : Int32)) hx hb d_q_pass_78 (by decide) ?_
        refine lv_iload_n hx hb d_q_pass_79 rfl (lv_at hl 0 rfl) ?_
        refine lv_if_ne (tgt := 87) hx hb d_q_pass_80 (by decide) (fun c31 => ?_) (fun c31 => ?_)
        · rw [if_neg c31] at h
          refine lv_iconst (v := (0 : Int32)) hx hb d_q_pass_87 (by decide) ?_
          exact j_q_pass_88 C a0 a1 x29 x30 (0 : Int32) (0 : Int32) w28 h _ _ _ hW (lv_sub hl [1, 2, 0] rfl)
        · rw [if_pos c31] at h
          refine lv_iconst (v := (1 : Int32)) hx hb d_q_pass_83 (by decide) ?_
          refine lv_goto (tgt := 88) hx hb d_q_pass_84 (by decide) ?_
          exact j_q_pass_88 C a0 a1 x29 x30 (0 : Int32) (1 : Int32) w28 h _ _ _ hW (lv_sub hl [1, 2, 0] rfl)
    · rw [if_pos c6] at h
      refine lv_aload_n hx hb d_q_pass_20 rfl (lv_at hl 0 rfl) ?_
      refine lv_aload_n hx hb d_q_pass_21 rfl (lv_at hl 0 rfl) ?_
      replace h := bs h
      obtain ⟨x41, hx41, h⟩ := h
      refine gf_q_29 hx hb hts hown hK hG hW (gN_s hx41) d_q_pass_22 ?_
      refine lv_iload_n hx hb d_q_pass_25 rfl (lv_at hl 1 rfl) ?_
      replace h := bs h
      obtain ⟨x42, hx42, h⟩ := h
      refine wo_iald hx hb hK hW (t := 0) rfl hx42 d_q_pass_26 ?_
      replace h := bs h
      obtain ⟨w43, hw43, h⟩ := h
      refine cv_q_479 (As := [.int x42]) (rest := []) hx hb hml hown hts hK hG hW (c_q_all l D cA base hw43) (kb_q_all hw43) ⟨Nat.le_of_ble_eq_true rfl, Nat.le_of_ble_eq_true rfl⟩ ⟨Nat.le_of_ble_eq_true rfl, Nat.le_of_ble_eq_true rfl⟩ rfl hl.1 rfl (Nat.le_of_ble_eq_true rfl) d_q_pass_27 (fun H locs hW => ?_)
      refine lv_aload_n hx hb d_q_pass_30 rfl (lv_at hl 0 rfl) ?_
      replace h := bs h
      obtain ⟨x44, hx44, h⟩ := h
      refine gf_q_130 hx hb hts hown hK hG hW (gN_s hx44) d_q_pass_31 ?_
      refine lv_aload_n hx hb d_q_pass_34 rfl (lv_at hl 0 rfl) ?_
      replace h := bs h
      obtain ⟨x45, hx45, h⟩ := h
      refine gf_q_29 hx hb hts hown hK hG hW (gN_s hx45) d_q_pass_35 ?_
      refine lv_iload_n hx hb d_q_pass_38 rfl (lv_at hl 1 rfl) ?_
      replace h := bs h
      obtain ⟨x46, hx46, h⟩ := h
      refine wo_iald hx hb hK hW (t := 0) rfl hx46 d_q_pass_39 ?_
      refine lv_iconst (v := (0 : Int32)) hx hb d_q_pass_40 (by decide) ?_
      replace h := bs h
      obtain ⟨w47, hw47, h⟩ := h
      refine wo_zast hx hb hK hW (t := 2) rfl hw47 d_q_pass_41 (fun H locs hW => ?_)
      refine lv_goto (tgt := 184) hx hb d_q_pass_42 (by decide) ?_
      exact j_q_pass_184 C w47 h _ _ _ hW (lv_sub hl [] rfl)
  · rw [if_neg c3] at h
    cases h
    exact wo_vret hx hb hr hlk hW d_q_pass_9
abbrev b_q_below : ByteArray := prog_11_method_60_code
def y_q_below : MethodName := ⟨"AlarmForgeModel", "below", "(J)J"⟩
def rm_q_below : Room := { frames := 0, cells := 0, slots := 0, locals := 0 }
theorem d_q_below_0 : decode b_q_below 0 = .ok (.lload_n 0, 1) := by decide +kernel
theorem d_q_below_1 : decode b_q_below 1 = .ok (.ldc2_w 413, 3) := by decide +kernel
theorem d_q_below_4 : decode b_q_below 4 = .ok (.lcmp, 1) := by decide +kernel
theorem d_q_below_5 : decode b_q_below 5 = .ok (.ifCond .lt (9), 3) := by decide +kernel
theorem d_q_below_8 : decode b_q_below 8 = .ok (.ldc2_w 413, 3) := by decide +kernel
theorem d_q_below_11 : decode b_q_below 11 = .ok (.goto (82), 3) := by decide +kernel
theorem d_q_below_14 : decode b_q_below 14 = .ok (.lload_n 0, 1) := by decide +kernel
theorem d_q_below_15 : decode b_q_below 15 = .ok (.ldc2_w 373, 3) := by decide +kernel
theorem d_q_below_18 : decode b_q_below 18 = .ok (.lcmp, 1) := by decide +kernel
theorem d_q_below_19 : decode b_q_below 19 = .ok (.ifCond .lt (9), 3) := by decide +kernel
theorem d_q_below_22 : decode b_q_below 22 = .ok (.ldc2_w 373, 3) := by decide +kernel
theorem d_q_below_25 : decode b_q_below 25 = .ok (.goto (68), 3) := by decide +kernel
theorem d_q_below_28 : decode b_q_below 28 = .ok (.lload_n 0, 1) := by decide +kernel
theorem d_q_below_29 : decode b_q_below 29 = .ok (.lconst 1, 1) := by decide +kernel
theorem d_q_below_30 : decode b_q_below 30 = .ok (.lcmp, 1) := by decide +kernel
theorem d_q_below_31 : decode b_q_below 31 = .ok (.ifCond .lt (7), 3) := by decide +kernel
theorem d_q_below_34 : decode b_q_below 34 = .ok (.lconst 1, 1) := by decide +kernel
theorem d_q_below_35 : decode b_q_below 35 = .ok (.goto (58), 3) := by decide +kernel
theorem d_q_below_38 : decode b_q_below 38 = .ok (.lload_n 0, 1) := by decide +kernel
theorem d_q_below_39 : decode b_q_below 39 = .ok (.lconst 0, 1) := by decide +kernel
theorem d_q_below_40 : decode b_q_below 40 = .ok (.lcmp, 1) := by decide +kernel
theorem d_q_below_41 : decode b_q_below 41 = .ok (.ifCond .lt (7), 3) := by decide +kernel
theorem d_q_below_44 : decode b_q_below 44 = .ok (.lconst 0, 1) := by decide +kernel
theorem d_q_below_45 : decode b_q_below 45 = .ok (.goto (48), 3) := by decide +kernel
theorem d_q_below_48 : decode b_q_below 48 = .ok (.lload_n 0, 1) := by decide +kernel
theorem d_q_below_49 : decode b_q_below 49 = .ok (.ldc2_w 385, 3) := by decide +kernel
theorem d_q_below_52 : decode b_q_below 52 = .ok (.lcmp, 1) := by decide +kernel
theorem d_q_below_53 : decode b_q_below 53 = .ok (.ifCond .lt (9), 3) := by decide +kernel
theorem d_q_below_56 : decode b_q_below 56 = .ok (.ldc2_w 385, 3) := by decide +kernel
theorem d_q_below_59 : decode b_q_below 59 = .ok (.goto (34), 3) := by decide +kernel
theorem d_q_below_62 : decode b_q_below 62 = .ok (.lload_n 0, 1) := by decide +kernel
theorem d_q_below_63 : decode b_q_below 63 = .ok (.ldc2_w 415, 3) := by decide +kernel
theorem d_q_below_66 : decode b_q_below 66 = .ok (.lcmp, 1) := by decide +kernel
theorem d_q_below_67 : decode b_q_below 67 = .ok (.ifCond .lt (9), 3) := by decide +kernel
theorem d_q_below_70 : decode b_q_below 70 = .ok (.ldc2_w 415, 3) := by decide +kernel
theorem d_q_below_73 : decode b_q_below 73 = .ok (.goto (20), 3) := by decide +kernel
theorem d_q_below_76 : decode b_q_below 76 = .ok (.lload_n 0, 1) := by decide +kernel
theorem d_q_below_77 : decode b_q_below 77 = .ok (.ldc2_w 417, 3) := by decide +kernel
theorem d_q_below_80 : decode b_q_below 80 = .ok (.lcmp, 1) := by decide +kernel
theorem d_q_below_81 : decode b_q_below 81 = .ok (.ifCond .lt (9), 3) := by decide +kernel
theorem d_q_below_84 : decode b_q_below 84 = .ok (.ldc2_w 417, 3) := by decide +kernel
theorem d_q_below_87 : decode b_q_below 87 = .ok (.goto (6), 3) := by decide +kernel
theorem d_q_below_90 : decode b_q_below 90 = .ok (.ldc2_w 340, 3) := by decide +kernel
theorem d_q_below_93 : decode b_q_below 93 = .ok (.lreturn, 1) := by decide +kernel
set_option maxHeartbeats 4000000 in
set_option maxRecDepth 100000 in
theorem j_q_below_93 {p : Program} {l : Launch} {e : Env} {s : State} {m : MethodId} {args : Array Value} {below : List Frame} {meth : Method} {c : Code} {D : va_G} {cA : Nat → ClassId} {base : Nat} {r : Int64} {w' : WW} (C : cx b_q_below (some .long) 2 y_q_below.cls "below" p s m args meth c D cA base)   : ∀ (z0 : Int64) (w : WW), f_q_below_93 z0 w = some (r, w') → ∀ (H : Heap) (locs : List Loc) (ls : Array Slot), wo_S D cls cA base s w H locs → lv_has ls 2 [] → W p l e rm_q_below s m args below meth c H locs 0 0 (MQ below (wo_Q D cls cA base (some (.long r)) w') args s rm_q_below.cells rm_q_below.slots (wo_B base)) (F0 m 93 ls [.long z0]) := by
  obtain ⟨hx, hb, hr, hml, hown, hts, hlk, hnm, hK, hG⟩ := id C
  intro z0 w h H locs ls hW hl
  unfold f_q_below_93 at h
  cases h
  exact wo_lret hx hb hr hlk hW d_q_below_93
set_option maxHeartbeats 4000000 in
set_option maxRecDepth 100000 in
theorem c_q_below (l : Launch) (D : va_G) (cA : Nat → ClassId) (base : Nat) {a0 : Int64} {w w' : WW} {r : Int64} (h : f_q_below a0 w = some (r, w')) : mt l D cls (wo_tys cA) cA base y_q_below (Cond.code y_q_below b_q_below 2 (some .long) :: gt) rm_q_below [.long a0] w (some (.long r)) w' rm_q_below.cells rm_q_below.slots := by
  refine mt_start (by decide) (Nat.le_of_ble_eq_true rfl) ?_
  intro p e s m below meth c ls hx hb hr hml hown hts hlk hnm hK hG hW hl
  have C : cx b_q_below (some .long) 2 y_q_below.cls "below" p s m [.long a0].toArray meth c D cA base := ⟨hx, hb, hr, hml, hown, hts, hlk, hnm, hK, hG⟩
  have hl : lv_has ls 2 [(0, .long a0)] := hl
  unfold f_q_below at h
  refine lv_lload_n hx hb d_q_below_0 rfl (lv_at hl 0 rfl) ?_
  refine lv_ldc2 (own := Rc_q) (v := (100 : Int64)) hx hb hown (hts (.constantLong "AlarmForgeModel" 413 (100 : Int64)) (gt_of (i := 1694) (by decide +kernel) (by decide +kernel))) d_q_below_1 ?_
  refine lc_lt (tgt := 14) hx hb d_q_below_4 d_q_below_5 (by decide) (fun c1 => ?_) (fun c1 => ?_)
  · rw [if_pos c1] at h
    refine lv_lload_n hx hb d_q_below_14 rfl (lv_at hl 0 rfl) ?_
    refine lv_ldc2 (own := Rc_q) (v := (10 : Int64)) hx hb hown (hts (.constantLong "AlarmForgeModel" 373 (10 : Int64)) (gt_of (i := 1567) (by decide +kernel) (by decide +kernel))) d_q_below_15 ?_
    refine lc_lt (tgt := 28) hx hb d_q_below_18 d_q_below_19 (by decide) (fun c2 => ?_) (fun c2 => ?_)
    · rw [if_pos c2] at h
      refine lv_lload_n hx hb d_q_below_28 rfl (lv_at hl 0 rfl) ?_
      refine lv_lconst (v := (1 : Int64)) hx hb d_q_below_29 (by decide) ?_
      refine lc_lt (tgt := 38) hx hb d_q_below_30 d_q_below_31 (by decide) (fun c3 => ?_) (fun c3 => ?_)
      · rw [if_pos c3] at h
        refine lv_lload_n hx hb d_q_below_38 rfl (lv_at hl 0 rfl) ?_
        refine lv_lconst (v := (0 : Int64)) hx hb d_q_below_39 (by decide) ?_
        refine lc_lt (tgt := 48) hx hb d_q_below_40 d_q_below_41 (by decide) (fun c4 => ?_) (fun c4 => ?_)
        · rw [if_pos c4] at h
          refine lv_lload_n hx hb d_q_below_48 rfl (lv_at hl 0 rfl) ?_
          refine lv_ldc2 (own := Rc_q) (v := (-1 : Int64)) hx hb hown (hts (.constantLong "AlarmForgeModel" 385 (-1 : Int64)) (gt_of (i := 1581) (by decide +kernel) (by decide +kernel))) d_q_below_49 ?_
          refine lc_lt (tgt := 62) hx hb d_q_below_52 d_q_below_53 (by decide) (fun c5 => ?_) (fun c5 => ?_)
          · rw [if_pos c5] at h
            refine lv_lload_n hx hb d_q_below_62 rfl (lv_at hl 0 rfl) ?_
            refine lv_ldc2 (own := Rc_q) (v := (-10 : Int64)) hx hb hown (hts (.constantLong "AlarmForgeModel" 415 (-10 : Int64)) (gt_of (i := 1695) (by decide +kernel) (by decide +kernel))) d_q_below_63 ?_
            refine lc_lt (tgt := 76) hx hb d_q_below_66 d_q_below_67 (by decide) (fun c6 => ?_) (fun c6 => ?_)
            · rw [if_pos c6] at h
              refine lv_lload_n hx hb d_q_below_76 rfl (lv_at hl 0 rfl) ?_
              refine lv_ldc2 (own := Rc_q) (v := (-100 : Int64)) hx hb hown (hts (.constantLong "AlarmForgeModel" 417 (-100 : Int64)) (gt_of (i := 1696) (by decide +kernel) (by decide +kernel))) d_q_below_77 ?_
              refine lc_lt (tgt := 90) hx hb d_q_below_80 d_q_below_81 (by decide) (fun c7 => ?_) (fun c7 => ?_)
              · rw [if_pos c7] at h
                refine lv_ldc2 (own := Rc_q) (v := (-2147483648 : Int64)) hx hb hown (hts (.constantLong "AlarmForgeModel" 340 (-2147483648 : Int64)) (gt_of (i := 1553) (by decide +kernel) (by decide +kernel))) d_q_below_90 ?_
                exact j_q_below_93 C (-2147483648 : Int64) w h _ _ _ hW (lv_sub hl [] rfl)
              · rw [if_neg c7] at h
                refine lv_ldc2 (own := Rc_q) (v := (-100 : Int64)) hx hb hown (hts (.constantLong "AlarmForgeModel" 417 (-100 : Int64)) (gt_of (i := 1696) (by decide +kernel) (by decide +kernel))) d_q_below_84 ?_
                refine lv_goto (tgt := 93) hx hb d_q_below_87 (by decide) ?_
                exact j_q_below_93 C (-100 : Int64) w h _ _ _ hW (lv_sub hl [] rfl)
            · rw [if_neg c6] at h
              refine lv_ldc2 (own := Rc_q) (v := (-10 : Int64)) hx hb hown (hts (.constantLong "AlarmForgeModel" 415 (-10 : Int64)) (gt_of (i := 1695) (by decide +kernel) (by decide +kernel))) d_q_below_70 ?_
              refine lv_goto (tgt := 93) hx hb d_q_below_73 (by decide) ?_
              exact j_q_below_93 C (-10 : Int64) w h _ _ _ hW (lv_sub hl [] rfl)
          · rw [if_neg c5] at h
            refine lv_ldc2 (own := Rc_q) (v := (-1 : Int64)) hx hb hown (hts (.constantLong "AlarmForgeModel" 385 (-1 : Int64)) (gt_of (i := 1581) (by decide +kernel) (by decide +kernel))) d_q_below_56 ?_
            refine lv_goto (tgt := 93) hx hb d_q_below_59 (by decide) ?_
            exact j_q_below_93 C (-1 : Int64) w h _ _ _ hW (lv_sub hl [] rfl)
        · rw [if_neg c4] at h
          refine lv_lconst (v := (0 : Int64)) hx hb d_q_below_44 (by decide) ?_
          refine lv_goto (tgt := 93) hx hb d_q_below_45 (by decide) ?_
          exact j_q_below_93 C (0 : Int64) w h _ _ _ hW (lv_sub hl [] rfl)
      · rw [if_neg c3] at h
        refine lv_lconst (v := (1 : Int64)) hx hb d_q_below_34 (by decide) ?_
        refine lv_goto (tgt := 93) hx hb d_q_below_35 (by decide) ?_
        exact j_q_below_93 C (1 : Int64) w h _ _ _ hW (lv_sub hl [] rfl)
    · rw [if_neg c2] at h
      refine lv_ldc2 (own := Rc_q) (v := (10 : Int64)) hx hb hown (hts (.constantLong "AlarmForgeModel" 373 (10 : Int64)) (gt_of (i := 1567) (by decide +kernel) (by decide +kernel))) d_q_below_22 ?_
      refine lv_goto (tgt := 93) hx hb d_q_below_25 (by decide) ?_
      exact j_q_below_93 C (10 : Int64) w h _ _ _ hW (lv_sub hl [] rfl)
  · rw [if_neg c1] at h
    refine lv_ldc2 (own := Rc_q) (v := (100 : Int64)) hx hb hown (hts (.constantLong "AlarmForgeModel" 413 (100 : Int64)) (gt_of (i := 1694) (by decide +kernel) (by decide +kernel))) d_q_below_8 ?_
    refine lv_goto (tgt := 93) hx hb d_q_below_11 (by decide) ?_
    exact j_q_below_93 C (100 : Int64) w h _ _ _ hW (lv_sub hl [] rfl)
abbrev b_q_above : ByteArray := prog_11_method_61_code
def y_q_above : MethodName := ⟨"AlarmForgeModel", "above", "(J)J"⟩
def rm_q_above : Room := { frames := 0, cells := 0, slots := 0, locals := 0 }
theorem d_q_above_0 : decode b_q_above 0 = .ok (.lload_n 0, 1) := by decide +kernel
theorem d_q_above_1 : decode b_q_above 1 = .ok (.ldc2_w 417, 3) := by decide +kernel
theorem d_q_above_4 : decode b_q_above 4 = .ok (.lcmp, 1) := by decide +kernel
theorem d_q_above_5 : decode b_q_above 5 = .ok (.ifCond .gt (9), 3) := by decide +kernel
theorem d_q_above_8 : decode b_q_above 8 = .ok (.ldc2_w 417, 3) := by decide +kernel
theorem d_q_above_11 : decode b_q_above 11 = .ok (.goto (82), 3) := by decide +kernel
theorem d_q_above_14 : decode b_q_above 14 = .ok (.lload_n 0, 1) := by decide +kernel
theorem d_q_above_15 : decode b_q_above 15 = .ok (.ldc2_w 415, 3) := by decide +kernel
theorem d_q_above_18 : decode b_q_above 18 = .ok (.lcmp, 1) := by decide +kernel
theorem d_q_above_19 : decode b_q_above 19 = .ok (.ifCond .gt (9), 3) := by decide +kernel
theorem d_q_above_22 : decode b_q_above 22 = .ok (.ldc2_w 415, 3) := by decide +kernel
theorem d_q_above_25 : decode b_q_above 25 = .ok (.goto (68), 3) := by decide +kernel
theorem d_q_above_28 : decode b_q_above 28 = .ok (.lload_n 0, 1) := by decide +kernel
theorem d_q_above_29 : decode b_q_above 29 = .ok (.ldc2_w 385, 3) := by decide +kernel
theorem d_q_above_32 : decode b_q_above 32 = .ok (.lcmp, 1) := by decide +kernel
theorem d_q_above_33 : decode b_q_above 33 = .ok (.ifCond .gt (9), 3) := by decide +kernel
theorem d_q_above_36 : decode b_q_above 36 = .ok (.ldc2_w 385, 3) := by decide +kernel
theorem d_q_above_39 : decode b_q_above 39 = .ok (.goto (54), 3) := by decide +kernel
theorem d_q_above_42 : decode b_q_above 42 = .ok (.lload_n 0, 1) := by decide +kernel
theorem d_q_above_43 : decode b_q_above 43 = .ok (.lconst 0, 1) := by decide +kernel
theorem d_q_above_44 : decode b_q_above 44 = .ok (.lcmp, 1) := by decide +kernel
theorem d_q_above_45 : decode b_q_above 45 = .ok (.ifCond .gt (7), 3) := by decide +kernel
theorem d_q_above_48 : decode b_q_above 48 = .ok (.lconst 0, 1) := by decide +kernel
theorem d_q_above_49 : decode b_q_above 49 = .ok (.goto (44), 3) := by decide +kernel
theorem d_q_above_52 : decode b_q_above 52 = .ok (.lload_n 0, 1) := by decide +kernel
theorem d_q_above_53 : decode b_q_above 53 = .ok (.lconst 1, 1) := by decide +kernel
theorem d_q_above_54 : decode b_q_above 54 = .ok (.lcmp, 1) := by decide +kernel
theorem d_q_above_55 : decode b_q_above 55 = .ok (.ifCond .gt (7), 3) := by decide +kernel
theorem d_q_above_58 : decode b_q_above 58 = .ok (.lconst 1, 1) := by decide +kernel
theorem d_q_above_59 : decode b_q_above 59 = .ok (.goto (34), 3) := by decide +kernel
theorem d_q_above_62 : decode b_q_above 62 = .ok (.lload_n 0, 1) := by decide +kernel
theorem d_q_above_63 : decode b_q_above 63 = .ok (.ldc2_w 373, 3) := by decide +kernel
theorem d_q_above_66 : decode b_q_above 66 = .ok (.lcmp, 1) := by decide +kernel
theorem d_q_above_67 : decode b_q_above 67 = .ok (.ifCond .gt (9), 3) := by decide +kernel
theorem d_q_above_70 : decode b_q_above 70 = .ok (.ldc2_w 373, 3) := by decide +kernel
theorem d_q_above_73 : decode b_q_above 73 = .ok (.goto (20), 3) := by decide +kernel
theorem d_q_above_76 : decode b_q_above 76 = .ok (.lload_n 0, 1) := by decide +kernel
theorem d_q_above_77 : decode b_q_above 77 = .ok (.ldc2_w 413, 3) := by decide +kernel
theorem d_q_above_80 : decode b_q_above 80 = .ok (.lcmp, 1) := by decide +kernel
theorem d_q_above_81 : decode b_q_above 81 = .ok (.ifCond .gt (9), 3) := by decide +kernel
theorem d_q_above_84 : decode b_q_above 84 = .ok (.ldc2_w 413, 3) := by decide +kernel
theorem d_q_above_87 : decode b_q_above 87 = .ok (.goto (6), 3) := by decide +kernel
theorem d_q_above_90 : decode b_q_above 90 = .ok (.ldc2_w 342, 3) := by decide +kernel
theorem d_q_above_93 : decode b_q_above 93 = .ok (.lreturn, 1) := by decide +kernel
set_option maxHeartbeats 4000000 in
set_option maxRecDepth 100000 in
theorem j_q_above_93 {p : Program} {l : Launch} {e : Env} {s : State} {m : MethodId} {args : Array Value} {below : List Frame} {meth : Method} {c : Code} {D : va_G} {cA : Nat → ClassId} {base : Nat} {r : Int64} {w' : WW} (C : cx b_q_above (some .long) 2 y_q_above.cls "above" p s m args meth c D cA base)   : ∀ (z0 : Int64) (w : WW), f_q_above_93 z0 w = some (r, w') → ∀ (H : Heap) (locs : List Loc) (ls : Array Slot), wo_S D cls cA base s w H locs → lv_has ls 2 [] → W p l e rm_q_above s m args below meth c H locs 0 0 (MQ below (wo_Q D cls cA base (some (.long r)) w') args s rm_q_above.cells rm_q_above.slots (wo_B base)) (F0 m 93 ls [.long z0]) := by
  obtain ⟨hx, hb, hr, hml, hown, hts, hlk, hnm, hK, hG⟩ := id C
  intro z0 w h H locs ls hW hl
  unfold f_q_above_93 at h
  cases h
  exact wo_lret hx hb hr hlk hW d_q_above_93
set_option maxHeartbeats 4000000 in
set_option maxRecDepth 100000 in
theorem c_q_above (l : Launch) (D : va_G) (cA : Nat → ClassId) (base : Nat) {a0 : Int64} {w w' : WW} {r : Int64} (h : f_q_above a0 w = some (r, w')) : mt l D cls (wo_tys cA) cA base y_q_above (Cond.code y_q_above b_q_above 2 (some .long) :: gt) rm_q_above [.long a0] w (some (.long r)) w' rm_q_above.cells rm_q_above.slots := by
  refine mt_start (by decide) (Nat.le_of_ble_eq_true rfl) ?_
  intro p e s m below meth c ls hx hb hr hml hown hts hlk hnm hK hG hW hl
  have C : cx b_q_above (some .long) 2 y_q_above.cls "above" p s m [.long a0].toArray meth c D cA base := ⟨hx, hb, hr, hml, hown, hts, hlk, hnm, hK, hG⟩
  have hl : lv_has ls 2 [(0, .long a0)] := hl
  unfold f_q_above at h
  refine lv_lload_n hx hb d_q_above_0 rfl (lv_at hl 0 rfl) ?_
  refine lv_ldc2 (own := Rc_q) (v := (-100 : Int64)) hx hb hown (hts (.constantLong "AlarmForgeModel" 417 (-100 : Int64)) (gt_of (i := 1696) (by decide +kernel) (by decide +kernel))) d_q_above_1 ?_
  refine lc_gt (tgt := 14) hx hb d_q_above_4 d_q_above_5 (by decide) (fun c1 => ?_) (fun c1 => ?_)
  · rw [if_pos c1] at h
    refine lv_lload_n hx hb d_q_above_14 rfl (lv_at hl 0 rfl) ?_
    refine lv_ldc2 (own := Rc_q) (v := (-10 : Int64)) hx hb hown (hts (.constantLong "AlarmForgeModel" 415 (-10 : Int64)) (gt_of (i := 1695) (by decide +kernel) (by decide +kernel))) d_q_above_15 ?_
    refine lc_gt (tgt := 28) hx hb d_q_above_18 d_q_above_19 (by decide) (fun c2 => ?_) (fun c2 => ?_)
    · rw [if_pos c2] at h
      refine lv_lload_n hx hb d_q_above_28 rfl (lv_at hl 0 rfl) ?_
      refine lv_ldc2 (own := Rc_q) (v := (-1 : Int64)) hx hb hown (hts (.constantLong "AlarmForgeModel" 385 (-1 : Int64)) (gt_of (i := 1581) (by decide +kernel) (by decide +kernel))) d_q_above_29 ?_
      refine lc_gt (tgt := 42) hx hb d_q_above_32 d_q_above_33 (by decide) (fun c3 => ?_) (fun c3 => ?_)
      · rw [if_pos c3] at h
        refine lv_lload_n hx hb d_q_above_42 rfl (lv_at hl 0 rfl) ?_
        refine lv_lconst (v := (0 : Int64)) hx hb d_q_above_43 (by decide) ?_
        refine lc_gt (tgt := 52) hx hb d_q_above_44 d_q_above_45 (by decide) (fun c4 => ?_) (fun c4 => ?_)
        · rw [if_pos c4] at h
          refine lv_lload_n hx hb d_q_above_52 rfl (lv_at hl 0 rfl) ?_
          refine lv_lconst (v := (1 : Int64)) hx hb d_q_above_53 (by decide) ?_
          refine lc_gt (tgt := 62) hx hb d_q_above_54 d_q_above_55 (by decide) (fun c5 => ?_) (fun c5 => ?_)
          · rw [if_pos c5] at h
            refine lv_lload_n hx hb d_q_above_62 rfl (lv_at hl 0 rfl) ?_
            refine lv_ldc2 (own := Rc_q) (v := (10 : Int64)) hx hb hown (hts (.constantLong "AlarmForgeModel" 373 (10 : Int64)) (gt_of (i := 1567) (by decide +kernel) (by decide +kernel))) d_q_above_63 ?_
            refine lc_gt (tgt := 76) hx hb d_q_above_66 d_q_above_67 (by decide) (fun c6 => ?_) (fun c6 => ?_)
            · rw [if_pos c6] at h
              refine lv_lload_n hx hb d_q_above_76 rfl (lv_at hl 0 rfl) ?_
              refine lv_ldc2 (own := Rc_q) (v := (100 : Int64)) hx hb hown (hts (.constantLong "AlarmForgeModel" 413 (100 : Int64)) (gt_of (i := 1694) (by decide +kernel) (by decide +kernel))) d_q_above_77 ?_
              refine lc_gt (tgt := 90) hx hb d_q_above_80 d_q_above_81 (by decide) (fun c7 => ?_) (fun c7 => ?_)
              · rw [if_pos c7] at h
                refine lv_ldc2 (own := Rc_q) (v := (2147483647 : Int64)) hx hb hown (hts (.constantLong "AlarmForgeModel" 342 (2147483647 : Int64)) (gt_of (i := 1554) (by decide +kernel) (by decide +kernel))) d_q_above_90 ?_
                exact j_q_above_93 C (2147483647 : Int64) w h _ _ _ hW (lv_sub hl [] rfl)
              · rw [if_neg c7] at h
                refine lv_ldc2 (own := Rc_q) (v := (100 : Int64)) hx hb hown (hts (.constantLong "AlarmForgeModel" 413 (100 : Int64)) (gt_of (i := 1694) (by decide +kernel) (by decide +kernel))) d_q_above_84 ?_
                refine lv_goto (tgt := 93) hx hb d_q_above_87 (by decide) ?_
                exact j_q_above_93 C (100 : Int64) w h _ _ _ hW (lv_sub hl [] rfl)
            · rw [if_neg c6] at h
              refine lv_ldc2 (own := Rc_q) (v := (10 : Int64)) hx hb hown (hts (.constantLong "AlarmForgeModel" 373 (10 : Int64)) (gt_of (i := 1567) (by decide +kernel) (by decide +kernel))) d_q_above_70 ?_
              refine lv_goto (tgt := 93) hx hb d_q_above_73 (by decide) ?_
              exact j_q_above_93 C (10 : Int64) w h _ _ _ hW (lv_sub hl [] rfl)
          · rw [if_neg c5] at h
            refine lv_lconst (v := (1 : Int64)) hx hb d_q_above_58 (by decide) ?_
            refine lv_goto (tgt := 93) hx hb d_q_above_59 (by decide) ?_
            exact j_q_above_93 C (1 : Int64) w h _ _ _ hW (lv_sub hl [] rfl)
        · rw [if_neg c4] at h
          refine lv_lconst (v := (0 : Int64)) hx hb d_q_above_48 (by decide) ?_
          refine lv_goto (tgt := 93) hx hb d_q_above_49 (by decide) ?_
          exact j_q_above_93 C (0 : Int64) w h _ _ _ hW (lv_sub hl [] rfl)
      · rw [if_neg c3] at h
        refine lv_ldc2 (own := Rc_q) (v := (-1 : Int64)) hx hb hown (hts (.constantLong "AlarmForgeModel" 385 (-1 : Int64)) (gt_of (i := 1581) (by decide +kernel) (by decide +kernel))) d_q_above_36 ?_
        refine lv_goto (tgt := 93) hx hb d_q_above_39 (by decide) ?_
        exact j_q_above_93 C (-1 : Int64) w h _ _ _ hW (lv_sub hl [] rfl)
    · rw [if_neg c2] at h
      refine lv_ldc2 (own := Rc_q) (v := (-10 : Int64)) hx hb hown (hts (.constantLong "AlarmForgeModel" 415 (-10 : Int64)) (gt_of (i := 1695) (by decide +kernel) (by decide +kernel))) d_q_above_22 ?_
      refine lv_goto (tgt := 93) hx hb d_q_above_25 (by decide) ?_
      exact j_q_above_93 C (-10 : Int64) w h _ _ _ hW (lv_sub hl [] rfl)
  · rw [if_neg c1] at h
    refine lv_ldc2 (own := Rc_q) (v := (-100 : Int64)) hx hb hown (hts (.constantLong "AlarmForgeModel" 417 (-100 : Int64)) (gt_of (i := 1696) (by decide +kernel) (by decide +kernel))) d_q_above_8 ?_
    refine lv_goto (tgt := 93) hx hb d_q_above_11 (by decide) ?_
    exact j_q_above_93 C (-100 : Int64) w h _ _ _ hW (lv_sub hl [] rfl)
theorem cs_q_422 {p : Program} {l : Launch} {e : Env} {R : Room} {s : State} {m : MethodId} {args : Array Value} {below : List Frame} {meth : Method} {c : Code} {H : Heap} {locs : List Loc} {cells slots : Nat} {Q : State → Prop} {D : va_G} {cA : Nat → ClassId} {base : Nat} {w w' : WW} {cc : ByteArray} {pc nL : Nat} {ls : Array Slot} {rest st0 As : List Value} {ov : Option Value} (hx : p.tables.exec = Jvm.exec) (hb : c.code = cc) (hml : c.maxLocals = nL) (hown : s.vm.findClass Rc_q = some m.cls) (hts : ∀ w ∈ gt, w.before args s = true) (hK : va_K D cls (wo_tys cA) s) (hG : wo_G cA base s) (hW : wo_S D cls cA base s w H locs) (hM : mt l D cls (wo_tys cA) cA base y_q_below (Cond.code y_q_below b_q_below 2 (some .long) :: gt) rm_q_below (As) w ov w' rm_q_below.cells rm_q_below.slots) (hR : rm_q_below.frames + 1 ≤ R.frames ∧ 8 + (2 + 11) + rm_q_below.locals ≤ R.locals) (hf : cells + rm_q_below.cells ≤ R.cells ∧ slots + rm_q_below.slots ≤ R.slots) (hn : As.length = 1) (hsz : ls.size = nL) (hst : st0 = As.reverse ++ rest) (hcat : (rest.map fun v => v.category).sum ≤ 8) (hdg : decode cc pc = .ok (.invokestatic 422, 3)) (kk : ∀ (H1 : Heap) (locs1 : List Loc), wo_S D cls cA base s w' H1 locs1 → W p l e R s m args below meth c H1 locs1 (cells + rm_q_below.cells) (slots + rm_q_below.slots) Q (F0 m (pc + 3) ls (ov.toList ++ rest))) : W p l e R s m args below meth c H locs cells slots Q (F0 m pc ls st0) :=
  wo_callS hx hb hml hown hts hK hG hW hM (gt_of (i := 1691) (by decide +kernel) (by decide +kernel)) (gt_of (i := 1692) (by decide +kernel) (by decide +kernel)) (gt_of (i := 10) (by decide +kernel) (by decide +kernel)) (gt_of (i := 1693) (by decide +kernel) (by decide +kernel)) (by decide +kernel) hR hf hn hsz hst hcat hdg kk
theorem cs_q_426 {p : Program} {l : Launch} {e : Env} {R : Room} {s : State} {m : MethodId} {args : Array Value} {below : List Frame} {meth : Method} {c : Code} {H : Heap} {locs : List Loc} {cells slots : Nat} {Q : State → Prop} {D : va_G} {cA : Nat → ClassId} {base : Nat} {w w' : WW} {cc : ByteArray} {pc nL : Nat} {ls : Array Slot} {rest st0 As : List Value} {ov : Option Value} (hx : p.tables.exec = Jvm.exec) (hb : c.code = cc) (hml : c.maxLocals = nL) (hown : s.vm.findClass Rc_q = some m.cls) (hts : ∀ w ∈ gt, w.before args s = true) (hK : va_K D cls (wo_tys cA) s) (hG : wo_G cA base s) (hW : wo_S D cls cA base s w H locs) (hM : mt l D cls (wo_tys cA) cA base y_q_above (Cond.code y_q_above b_q_above 2 (some .long) :: gt) rm_q_above (As) w ov w' rm_q_above.cells rm_q_above.slots) (hR : rm_q_above.frames + 1 ≤ R.frames ∧ 8 + (2 + 11) + rm_q_above.locals ≤ R.locals) (hf : cells + rm_q_above.cells ≤ R.cells ∧ slots + rm_q_above.slots ≤ R.slots) (hn : As.length = 1) (hsz : ls.size = nL) (hst : st0 = As.reverse ++ rest) (hcat : (rest.map fun v => v.category).sum ≤ 8) (hdg : decode cc pc = .ok (.invokestatic 426, 3)) (kk : ∀ (H1 : Heap) (locs1 : List Loc), wo_S D cls cA base s w' H1 locs1 → W p l e R s m args below meth c H1 locs1 (cells + rm_q_above.cells) (slots + rm_q_above.slots) Q (F0 m (pc + 3) ls (ov.toList ++ rest))) : W p l e R s m args below meth c H locs cells slots Q (F0 m pc ls st0) :=
  wo_callS hx hb hml hown hts hK hG hW hM (gt_of (i := 1697) (by decide +kernel) (by decide +kernel)) (gt_of (i := 1698) (by decide +kernel) (by decide +kernel)) (gt_of (i := 10) (by decide +kernel) (by decide +kernel)) (gt_of (i := 1699) (by decide +kernel) (by decide +kernel)) (by decide +kernel) hR hf hn hsz hst hcat hdg kk
abbrev b_q_widen : ByteArray := prog_11_method_62_code
def y_q_widen : MethodName := ⟨"AlarmForgeModel", "widen", "(III)V"⟩
def rm_q_widen : Room := { frames := 3, cells := 0, slots := 0, locals := 89 }
theorem d_q_widen_0 : decode b_q_widen 0 = .ok (.aload_n 0, 1) := by decide +kernel
theorem d_q_widen_1 : decode b_q_widen 1 = .ok (.getfield 117, 3) := by decide +kernel
theorem d_q_widen_4 : decode b_q_widen 4 = .ok (.iload_n 2, 1) := by decide +kernel
theorem d_q_widen_5 : decode b_q_widen 5 = .ok (.laload, 1) := by decide +kernel
theorem d_q_widen_6 : decode b_q_widen 6 = .ok (.lstore 4, 2) := by decide +kernel
theorem d_q_widen_8 : decode b_q_widen 8 = .ok (.aload_n 0, 1) := by decide +kernel
theorem d_q_widen_9 : decode b_q_widen 9 = .ok (.getfield 121, 3) := by decide +kernel
theorem d_q_widen_12 : decode b_q_widen 12 = .ok (.iload_n 2, 1) := by decide +kernel
theorem d_q_widen_13 : decode b_q_widen 13 = .ok (.laload, 1) := by decide +kernel
theorem d_q_widen_14 : decode b_q_widen 14 = .ok (.lstore 6, 2) := by decide +kernel
theorem d_q_widen_16 : decode b_q_widen 16 = .ok (.aload_n 0, 1) := by decide +kernel
theorem d_q_widen_17 : decode b_q_widen 17 = .ok (.getfield 124, 3) := by decide +kernel
theorem d_q_widen_20 : decode b_q_widen 20 = .ok (.iload_n 2, 1) := by decide +kernel
theorem d_q_widen_21 : decode b_q_widen 21 = .ok (.laload, 1) := by decide +kernel
theorem d_q_widen_22 : decode b_q_widen 22 = .ok (.lconst 0, 1) := by decide +kernel
theorem d_q_widen_23 : decode b_q_widen 23 = .ok (.lcmp, 1) := by decide +kernel
theorem d_q_widen_24 : decode b_q_widen 24 = .ok (.ifCond .lt (7), 3) := by decide +kernel
theorem d_q_widen_27 : decode b_q_widen 27 = .ok (.iconst 1, 1) := by decide +kernel
theorem d_q_widen_28 : decode b_q_widen 28 = .ok (.goto (4), 3) := by decide +kernel
theorem d_q_widen_31 : decode b_q_widen 31 = .ok (.iconst 0, 1) := by decide +kernel
theorem d_q_widen_32 : decode b_q_widen 32 = .ok (.istore 8, 2) := by decide +kernel
theorem d_q_widen_34 : decode b_q_widen 34 = .ok (.aload_n 0, 1) := by decide +kernel
theorem d_q_widen_35 : decode b_q_widen 35 = .ok (.iload_n 1, 1) := by decide +kernel
theorem d_q_widen_36 : decode b_q_widen 36 = .ok (.iload_n 2, 1) := by decide +kernel
theorem d_q_widen_37 : decode b_q_widen 37 = .ok (.iload_n 3, 1) := by decide +kernel
theorem d_q_widen_38 : decode b_q_widen 38 = .ok (.invokevirtual 419, 3) := by decide +kernel
theorem d_q_widen_41 : decode b_q_widen 41 = .ok (.iload 8, 2) := by decide +kernel
theorem d_q_widen_43 : decode b_q_widen 43 = .ok (.ifCond .eq (14), 3) := by decide +kernel
theorem d_q_widen_46 : decode b_q_widen 46 = .ok (.aload_n 0, 1) := by decide +kernel
theorem d_q_widen_47 : decode b_q_widen 47 = .ok (.getfield 124, 3) := by decide +kernel
theorem d_q_widen_50 : decode b_q_widen 50 = .ok (.iload_n 1, 1) := by decide +kernel
theorem d_q_widen_51 : decode b_q_widen 51 = .ok (.laload, 1) := by decide +kernel
theorem d_q_widen_52 : decode b_q_widen 52 = .ok (.lconst 0, 1) := by decide +kernel
theorem d_q_widen_53 : decode b_q_widen 53 = .ok (.lcmp, 1) := by decide +kernel
theorem d_q_widen_54 : decode b_q_widen 54 = .ok (.ifCond .ge (4), 3) := by decide +kernel
theorem d_q_widen_57 : decode b_q_widen 57 = .ok (.return_, 1) := by decide +kernel
theorem d_q_widen_58 : decode b_q_widen 58 = .ok (.aload_n 0, 1) := by decide +kernel
theorem d_q_widen_59 : decode b_q_widen 59 = .ok (.iload_n 1, 1) := by decide +kernel
theorem d_q_widen_60 : decode b_q_widen 60 = .ok (.aload_n 0, 1) := by decide +kernel
theorem d_q_widen_61 : decode b_q_widen 61 = .ok (.getfield 117, 3) := by decide +kernel
theorem d_q_widen_64 : decode b_q_widen 64 = .ok (.iload_n 1, 1) := by decide +kernel
theorem d_q_widen_65 : decode b_q_widen 65 = .ok (.laload, 1) := by decide +kernel
theorem d_q_widen_66 : decode b_q_widen 66 = .ok (.lload 4, 2) := by decide +kernel
theorem d_q_widen_68 : decode b_q_widen 68 = .ok (.lcmp, 1) := by decide +kernel
theorem d_q_widen_69 : decode b_q_widen 69 = .ok (.ifCond .ge (15), 3) := by decide +kernel
theorem d_q_widen_72 : decode b_q_widen 72 = .ok (.aload_n 0, 1) := by decide +kernel
theorem d_q_widen_73 : decode b_q_widen 73 = .ok (.getfield 117, 3) := by decide +kernel
theorem d_q_widen_76 : decode b_q_widen 76 = .ok (.iload_n 1, 1) := by decide +kernel
theorem d_q_widen_77 : decode b_q_widen 77 = .ok (.laload, 1) := by decide +kernel
theorem d_q_widen_78 : decode b_q_widen 78 = .ok (.invokestatic 422, 3) := by decide +kernel
theorem d_q_widen_81 : decode b_q_widen 81 = .ok (.goto (9), 3) := by decide +kernel
theorem d_q_widen_84 : decode b_q_widen 84 = .ok (.aload_n 0, 1) := by decide +kernel
theorem d_q_widen_85 : decode b_q_widen 85 = .ok (.getfield 117, 3) := by decide +kernel
theorem d_q_widen_88 : decode b_q_widen 88 = .ok (.iload_n 1, 1) := by decide +kernel
theorem d_q_widen_89 : decode b_q_widen 89 = .ok (.laload, 1) := by decide +kernel
theorem d_q_widen_90 : decode b_q_widen 90 = .ok (.aload_n 0, 1) := by decide +kernel
theorem d_q_widen_91 : decode b_q_widen 91 = .ok (.getfield 121, 3) := by decide +kernel
theorem d_q_widen_94 : decode b_q_widen 94 = .ok (.iload_n 1, 1) := by decide +kernel
theorem d_q_widen_95 : decode b_q_widen 95 = .ok (.laload, 1) := by decide +kernel
theorem d_q_widen_96 : decode b_q_widen 96 = .ok (.lload 6, 2) := by decide +kernel
theorem d_q_widen_98 : decode b_q_widen 98 = .ok (.lcmp, 1) := by decide +kernel
theorem d_q_widen_99 : decode b_q_widen 99 = .ok (.ifCond .le (15), 3) := by decide +kernel
theorem d_q_widen_102 : decode b_q_widen 102 = .ok (.aload_n 0, 1) := by decide +kernel
theorem d_q_widen_103 : decode b_q_widen 103 = .ok (.getfield 121, 3) := by decide +kernel
theorem d_q_widen_106 : decode b_q_widen 106 = .ok (.iload_n 1, 1) := by decide +kernel
theorem d_q_widen_107 : decode b_q_widen 107 = .ok (.laload, 1) := by decide +kernel
theorem d_q_widen_108 : decode b_q_widen 108 = .ok (.invokestatic 426, 3) := by decide +kernel
theorem d_q_widen_111 : decode b_q_widen 111 = .ok (.goto (9), 3) := by decide +kernel
theorem d_q_widen_114 : decode b_q_widen 114 = .ok (.aload_n 0, 1) := by decide +kernel
theorem d_q_widen_115 : decode b_q_widen 115 = .ok (.getfield 121, 3) := by decide +kernel
theorem d_q_widen_118 : decode b_q_widen 118 = .ok (.iload_n 1, 1) := by decide +kernel
theorem d_q_widen_119 : decode b_q_widen 119 = .ok (.laload, 1) := by decide +kernel
theorem d_q_widen_120 : decode b_q_widen 120 = .ok (.aload_n 0, 1) := by decide +kernel
theorem d_q_widen_121 : decode b_q_widen 121 = .ok (.getfield 124, 3) := by decide +kernel
theorem d_q_widen_124 : decode b_q_widen 124 = .ok (.iload_n 1, 1) := by decide +kernel
theorem d_q_widen_125 : decode b_q_widen 125 = .ok (.laload, 1) := by decide +kernel
theorem d_q_widen_126 : decode b_q_widen 126 = .ok (.aload_n 0, 1) := by decide +kernel
theorem d_q_widen_127 : decode b_q_widen 127 = .ok (.getfield 127, 3) := by decide +kernel
theorem d_q_widen_130 : decode b_q_widen 130 = .ok (.iload_n 1, 1) := by decide +kernel
theorem d_q_widen_131 : decode b_q_widen 131 = .ok (.laload, 1) := by decide +kernel
theorem d_q_widen_132 : decode b_q_widen 132 = .ok (.invokevirtual 406, 3) := by decide +kernel
theorem d_q_widen_135 : decode b_q_widen 135 = .ok (.return_, 1) := by decide +kernel
theorem kb_q_widen {a0 : Nat} {a1 : Int32} {a2 : Int32} {a3 : Int32} {w : WW} {r : WW} (h : f_q_widen a0 a1 a2 a3 w = some r) : kb w a0 9 = true := (its h).1
set_option maxHeartbeats 4000000 in
set_option maxRecDepth 100000 in
theorem j_q_widen_57 {p : Program} {l : Launch} {e : Env} {s : State} {m : MethodId} {args : Array Value} {below : List Frame} {meth : Method} {c : Code} {D : va_G} {cA : Nat → ClassId} {base : Nat} {w' : WW} (C : cx b_q_widen (none) 9 y_q_widen.cls "widen" p s m args meth c D cA base)   : ∀  (w : WW), f_q_widen_57  w = some w' → ∀ (H : Heap) (locs : List Loc) (ls : Array Slot), wo_S D cls cA base s w H locs → lv_has ls 9 [] → W p l e rm_q_widen s m args below meth c H locs 0 0 (MQ below (wo_Q D cls cA base none w') args s rm_q_widen.cells rm_q_widen.slots (wo_B base)) (F0 m 57 ls []) := by
  obtain ⟨hx, hb, hr, hml, hown, hts, hlk, hnm, hK, hG⟩ := id C
  intro  w h H locs ls hW hl
  unfold f_q_widen_57 at h
  cases h
  exact wo_vret hx hb hr hlk hW d_q_widen_57
set_option maxHeartbeats 4000000 in
set_option maxRecDepth 100000 in
theorem j_q_widen_120 {p : Program} {l : Launch} {e : Env} {s : State} {m : MethodId} {args : Array Value} {below : List Frame} {meth : Method} {c : Code} {D : va_G} {cA : Nat → ClassId} {base : Nat} {w' : WW} (C : cx b_q_widen (none) 9 y_q_widen.cls "widen" p s m args meth c D cA base)   : ∀ (y0 : Nat) (y1 : Int32) (z0 : Nat) (z1 : Int32) (z2 : Int64) (z3 : Int64) (w : WW), f_q_widen_120 y0 y1 z0 z1 z2 z3 w = some w' → ∀ (H : Heap) (locs : List Loc) (ls : Array Slot), wo_S D cls cA base s w H locs → lv_has ls 9 [(0, .ref (base + y0)), (1, .int y1)] → W p l e rm_q_widen s m args below meth c H locs 0 0 (MQ below (wo_Q D cls cA base none w') args s rm_q_widen.cells rm_q_widen.slots (wo_B base)) (F0 m 120 ls [.long z3, .long z2, .int z1, .ref (base + z0)]) := by
  obtain ⟨hx, hb, hr, hml, hown, hts, hlk, hnm, hK, hG⟩ := id C
  intro y0 y1 z0 z1 z2 z3 w h H locs ls hW hl
  unfold f_q_widen_120 at h
  refine lv_aload_n hx hb d_q_widen_120 rfl (lv_at hl 0 rfl) ?_
  replace h := bs h
  obtain ⟨x23, hx23, h⟩ := h
  refine gf_q_124 hx hb hts hown hK hG hW (gN_s hx23) d_q_widen_121 ?_
  refine lv_iload_n hx hb d_q_widen_124 rfl (lv_at hl 1 rfl) ?_
  replace h := bs h
  obtain ⟨x24, hx24, h⟩ := h
  refine wo_lald hx hb hK hW (t := 1) rfl hx24 d_q_widen_125 ?_
  refine lv_aload_n hx hb d_q_widen_126 rfl (lv_at hl 0 rfl) ?_
  replace h := bs h
  obtain ⟨x25, hx25, h⟩ := h
  refine gf_q_127 hx hb hts hown hK hG hW (gN_s hx25) d_q_widen_127 ?_
  refine lv_iload_n hx hb d_q_widen_130 rfl (lv_at hl 1 rfl) ?_
  replace h := bs h
  obtain ⟨x26, hx26, h⟩ := h
  refine wo_lald hx hb hK hW (t := 1) rfl hx26 d_q_widen_131 ?_
  replace h := bs h
  obtain ⟨w27, hw27, h⟩ := h
  refine cv_q_406 (As := [.int z1, .long z2, .long z3, .long x24, .long x26]) (rest := []) hx hb hml hown hts hK hG hW (c_q_put l D cA base hw27) (kb_q_put hw27) ⟨Nat.le_of_ble_eq_true rfl, Nat.le_of_ble_eq_true rfl⟩ ⟨Nat.le_of_ble_eq_true rfl, Nat.le_of_ble_eq_true rfl⟩ rfl hl.1 rfl (Nat.le_of_ble_eq_true rfl) d_q_widen_132 (fun H locs hW => ?_)
  cases h
  exact wo_vret hx hb hr hlk hW d_q_widen_135
set_option maxHeartbeats 4000000 in
set_option maxRecDepth 100000 in
theorem j_q_widen_90 {p : Program} {l : Launch} {e : Env} {s : State} {m : MethodId} {args : Array Value} {below : List Frame} {meth : Method} {c : Code} {D : va_G} {cA : Nat → ClassId} {base : Nat} {w' : WW} (C : cx b_q_widen (none) 9 y_q_widen.cls "widen" p s m args meth c D cA base)   : ∀ (y0 : Nat) (y1 : Int32) (y6 : Int64) (z0 : Nat) (z1 : Int32) (z2 : Int64) (w : WW), f_q_widen_90 y0 y1 y6 z0 z1 z2 w = some w' → ∀ (H : Heap) (locs : List Loc) (ls : Array Slot), wo_S D cls cA base s w H locs → lv_has ls 9 [(0, .ref (base + y0)), (1, .int y1), (6, .long y6)] → W p l e rm_q_widen s m args below meth c H locs 0 0 (MQ below (wo_Q D cls cA base none w') args s rm_q_widen.cells rm_q_widen.slots (wo_B base)) (F0 m 90 ls [.long z2, .int z1, .ref (base + z0)]) := by
  obtain ⟨hx, hb, hr, hml, hown, hts, hlk, hnm, hK, hG⟩ := id C
  intro y0 y1 y6 z0 z1 z2 w h H locs ls hW hl
  unfold f_q_widen_90 at h
  refine lv_aload_n hx hb d_q_widen_90 rfl (lv_at hl 0 rfl) ?_
  replace h := bs h
  obtain ⟨x18, hx18, h⟩ := h
  refine gf_q_121 hx hb hts hown hK hG hW (gN_s hx18) d_q_widen_91 ?_
  refine lv_iload_n hx hb d_q_widen_94 rfl (lv_at hl 1 rfl) ?_
  replace h := bs h
  obtain ⟨x19, hx19, h⟩ := h
  refine wo_lald hx hb hK hW (t := 1) rfl hx19 d_q_widen_95 ?_
  refine lv_lload hx hb d_q_widen_96 (lv_at hl 2 rfl) ?_
  refine lc_le (tgt := 114) hx hb d_q_widen_98 d_q_widen_99 (by decide) (fun c20 => ?_) (fun c20 => ?_)
  · rw [if_pos c20] at h
    refine lv_aload_n hx hb d_q_widen_114 rfl (lv_at hl 0 rfl) ?_
    replace h := bs h
    obtain ⟨x21, hx21, h⟩ := h
    refine gf_q_121 hx hb hts hown hK hG hW (gN_s hx21) d_q_widen_115 ?_
    refine lv_iload_n hx hb d_q_widen_118 rfl (lv_at hl 1 rfl) ?_
    replace h := bs h
    obtain ⟨x22, hx22, h⟩ := h
    refine wo_lald hx hb hK hW (t := 1) rfl hx22 d_q_widen_119 ?_
    exact j_q_widen_120 C y0 y1 z0 z1 z2 x22 w h _ _ _ hW (lv_sub hl [0, 1] rfl)
  · rw [if_neg c20] at h
    refine lv_aload_n hx hb d_q_widen_102 rfl (lv_at hl 0 rfl) ?_
    replace h := bs h
    obtain ⟨x28, hx28, h⟩ := h
    refine gf_q_121 hx hb hts hown hK hG hW (gN_s hx28) d_q_widen_103 ?_
    refine lv_iload_n hx hb d_q_widen_106 rfl (lv_at hl 1 rfl) ?_
    replace h := bs h
    obtain ⟨x29, hx29, h⟩ := h
    refine wo_lald hx hb hK hW (t := 1) rfl hx29 d_q_widen_107 ?_
    replace h := bs2 h
    obtain ⟨x31, w30, hw30, h⟩ := h
    refine cs_q_426 (As := [.long x29]) (rest := [.long z2, .int z1, .ref (base + z0)]) hx hb hml hown hts hK hG hW (c_q_above l D cA base hw30) ⟨Nat.le_of_ble_eq_true rfl, Nat.le_of_ble_eq_true rfl⟩ ⟨Nat.le_of_ble_eq_true rfl, Nat.le_of_ble_eq_true rfl⟩ rfl hl.1 rfl (Nat.le_of_ble_eq_true rfl) d_q_widen_108 (fun H locs hW => ?_)
    refine lv_goto (tgt := 120) hx hb d_q_widen_111 (by decide) ?_
    exact j_q_widen_120 C y0 y1 z0 z1 z2 x31 w30 h _ _ _ hW (lv_sub hl [0, 1] rfl)
set_option maxHeartbeats 4000000 in
set_option maxRecDepth 100000 in
theorem j_q_widen_32 {p : Program} {l : Launch} {e : Env} {s : State} {m : MethodId} {args : Array Value} {below : List Frame} {meth : Method} {c : Code} {D : va_G} {cA : Nat → ClassId} {base : Nat} {w' : WW} (C : cx b_q_widen (none) 9 y_q_widen.cls "widen" p s m args meth c D cA base)   : ∀ (y0 : Nat) (y1 : Int32) (y2 : Int32) (y3 : Int32) (y4 : Int64) (y6 : Int64) (z0 : Int32) (w : WW), f_q_widen_32 y0 y1 y2 y3 y4 y6 z0 w = some w' → ∀ (H : Heap) (locs : List Loc) (ls : Array Slot), wo_S D cls cA base s w H locs → lv_has ls 9 [(0, .ref (base + y0)), (1, .int y1), (2, .int y2), (3, .int y3), (4, .long y4), (6, .long y6)] → W p l e rm_q_widen s m args below meth c H locs 0 0 (MQ below (wo_Q D cls cA base none w') args s rm_q_widen.cells rm_q_widen.slots (wo_B base)) (F0 m 32 ls [.int z0]) := by
  obtain ⟨hx, hb, hr, hml, hown, hts, hlk, hnm, hK, hG⟩ := id C
  intro y0 y1 y2 y3 y4 y6 z0 w h H locs ls hW hl
  unfold f_q_widen_32 at h
  refine lv_istore (lv' := [(8, .int z0), (0, .ref (base + y0)), (1, .int y1), (2, .int y2), (3, .int y3), (4, .long y4), (6, .long y6)]) hx hb d_q_widen_32 hl (by decide) rfl (fun ls hl => ?_)
  refine lv_aload_n hx hb d_q_widen_34 rfl (lv_at hl 1 rfl) ?_
  refine lv_iload_n hx hb d_q_widen_35 rfl (lv_at hl 2 rfl) ?_
  refine lv_iload_n hx hb d_q_widen_36 rfl (lv_at hl 3 rfl) ?_
  refine lv_iload_n hx hb d_q_widen_37 rfl (lv_at hl 4 rfl) ?_
  replace h := bs h
  obtain ⟨w8, hw8, h⟩ := h
  refine cv_q_419 (As := [.int y1, .int y2, .int y3]) (rest := []) hx hb hml hown hts hK hG hW (c_q_join l D cA base hw8) (kb_q_join hw8) ⟨Nat.le_of_ble_eq_true rfl, Nat.le_of_ble_eq_true rfl⟩ ⟨Nat.le_of_ble_eq_true rfl, Nat.le_of_ble_eq_true rfl⟩ rfl hl.1 rfl (Nat.le_of_ble_eq_true rfl) d_q_widen_38 (fun H locs hW => ?_)
  refine lv_iload hx hb d_q_widen_41 (lv_at hl 0 rfl) ?_
  refine lv_if_eq (tgt := 57) hx hb d_q_widen_43 (by decide) (fun c9 => ?_) (fun c9 => ?_)
  · rw [if_pos c9] at h
    exact j_q_widen_57 C w8 h _ _ _ hW (lv_sub hl [] rfl)
  · rw [if_neg c9] at h
    refine lv_aload_n hx hb d_q_widen_46 rfl (lv_at hl 1 rfl) ?_
    replace h := bs h
    obtain ⟨x10, hx10, h⟩ := h
    refine gf_q_124 hx hb hts hown hK hG hW (gN_s hx10) d_q_widen_47 ?_
    refine lv_iload_n hx hb d_q_widen_50 rfl (lv_at hl 2 rfl) ?_
    replace h := bs h
    obtain ⟨x11, hx11, h⟩ := h
    refine wo_lald hx hb hK hW (t := 1) rfl hx11 d_q_widen_51 ?_
    refine lv_lconst (v := (0 : Int64)) hx hb d_q_widen_52 (by decide) ?_
    refine lc_ge (tgt := 58) hx hb d_q_widen_53 d_q_widen_54 (by decide) (fun c12 => ?_) (fun c12 => ?_)
    · rw [if_pos c12] at h
      refine lv_aload_n hx hb d_q_widen_58 rfl (lv_at hl 1 rfl) ?_
      refine lv_iload_n hx hb d_q_widen_59 rfl (lv_at hl 2 rfl) ?_
      refine lv_aload_n hx hb d_q_widen_60 rfl (lv_at hl 1 rfl) ?_
      replace h := bs h
      obtain ⟨x13, hx13, h⟩ := h
      refine gf_q_117 hx hb hts hown hK hG hW (gN_s hx13) d_q_widen_61 ?_
      refine lv_iload_n hx hb d_q_widen_64 rfl (lv_at hl 2 rfl) ?_
      replace h := bs h
      obtain ⟨x14, hx14, h⟩ := h
      refine wo_lald hx hb hK hW (t := 1) rfl hx14 d_q_widen_65 ?_
      refine lv_lload hx hb d_q_widen_66 (lv_at hl 5 rfl) ?_
      refine lc_ge (tgt := 84) hx hb d_q_widen_68 d_q_widen_69 (by decide) (fun c15 => ?_) (fun c15 => ?_)
      · rw [if_pos c15] at h
        refine lv_aload_n hx hb d_q_widen_84 rfl (lv_at hl 1 rfl) ?_
        replace h := bs h
        obtain ⟨x16, hx16, h⟩ := h
        refine gf_q_117 hx hb hts hown hK hG hW (gN_s hx16) d_q_widen_85 ?_
        refine lv_iload_n hx hb d_q_widen_88 rfl (lv_at hl 2 rfl) ?_
        replace h := bs h
        obtain ⟨x17, hx17, h⟩ := h
        refine wo_lald hx hb hK hW (t := 1) rfl hx17 d_q_widen_89 ?_
        exact j_q_widen_90 C y0 y1 y6 y0 y1 x17 w8 h _ _ _ hW (lv_sub hl [1, 2, 6] rfl)
      · rw [if_neg c15] at h
        refine lv_aload_n hx hb d_q_widen_72 rfl (lv_at hl 1 rfl) ?_
        replace h := bs h
        obtain ⟨x32, hx32, h⟩ := h
        refine gf_q_117 hx hb hts hown hK hG hW (gN_s hx32) d_q_widen_73 ?_
        refine lv_iload_n hx hb d_q_widen_76 rfl (lv_at hl 2 rfl) ?_
        replace h := bs h
        obtain ⟨x33, hx33, h⟩ := h
        refine wo_lald hx hb hK hW (t := 1) rfl hx33 d_q_widen_77 ?_
        replace h := bs2 h
        obtain ⟨x35, w34, hw34, h⟩ := h
        refine cs_q_422 (As := [.long x33]) (rest := [.int y1, .ref (base + y0)]) hx hb hml hown hts hK hG hW (c_q_below l D cA base hw34) ⟨Nat.le_of_ble_eq_true rfl, Nat.le_of_ble_eq_true rfl⟩ ⟨Nat.le_of_ble_eq_true rfl, Nat.le_of_ble_eq_true rfl⟩ rfl hl.1 rfl (Nat.le_of_ble_eq_true rfl) d_q_widen_78 (fun H locs hW => ?_)
        refine lv_goto (tgt := 90) hx hb d_q_widen_81 (by decide) ?_
        exact j_q_widen_90 C y0 y1 y6 y0 y1 x35 w34 h _ _ _ hW (lv_sub hl [1, 2, 6] rfl)
    · rw [if_neg c12] at h
      exact j_q_widen_57 C w8 h _ _ _ hW (lv_sub hl [] rfl)
set_option maxHeartbeats 4000000 in
set_option maxRecDepth 100000 in
theorem c_q_widen (l : Launch) (D : va_G) (cA : Nat → ClassId) (base : Nat) {a0 : Nat} {a1 : Int32} {a2 : Int32} {a3 : Int32} {w w' : WW} (h : f_q_widen a0 a1 a2 a3 w = some w') : mt l D cls (wo_tys cA) cA base y_q_widen (Cond.code y_q_widen b_q_widen 9 (none) :: gt) rm_q_widen [.ref (base + a0), .int a1, .int a2, .int a3] w none w' rm_q_widen.cells rm_q_widen.slots := by
  refine mt_start (by decide) (Nat.le_of_ble_eq_true rfl) ?_
  intro p e s m below meth c ls hx hb hr hml hown hts hlk hnm hK hG hW hl
  have C : cx b_q_widen (none) 9 y_q_widen.cls "widen" p s m [.ref (base + a0), .int a1, .int a2, .int a3].toArray meth c D cA base := ⟨hx, hb, hr, hml, hown, hts, hlk, hnm, hK, hG⟩
  have hl : lv_has ls 9 [(0, .ref (base + a0)), (1, .int a1), (2, .int a2), (3, .int a3)] := hl
  unfold f_q_widen at h
  replace h := its h
  obtain ⟨-, h⟩ := h
  refine lv_aload_n hx hb d_q_widen_0 rfl (lv_at hl 0 rfl) ?_
  replace h := bs h
  obtain ⟨x1, hx1, h⟩ := h
  refine gf_q_117 hx hb hts hown hK hG hW (gN_s hx1) d_q_widen_1 ?_
  refine lv_iload_n hx hb d_q_widen_4 rfl (lv_at hl 2 rfl) ?_
  replace h := bs h
  obtain ⟨x2, hx2, h⟩ := h
  refine wo_lald hx hb hK hW (t := 1) rfl hx2 d_q_widen_5 ?_
  refine lv_lstore (lv' := [(4, .long x2), (0, .ref (base + a0)), (1, .int a1), (2, .int a2), (3, .int a3)]) hx hb d_q_widen_6 hl (by decide) rfl (fun ls hl => ?_)
  refine lv_aload_n hx hb d_q_widen_8 rfl (lv_at hl 1 rfl) ?_
  replace h := bs h
  obtain ⟨x3, hx3, h⟩ := h
  refine gf_q_121 hx hb hts hown hK hG hW (gN_s hx3) d_q_widen_9 ?_
  refine lv_iload_n hx hb d_q_widen_12 rfl (lv_at hl 3 rfl) ?_
  replace h := bs h
  obtain ⟨x4, hx4, h⟩ := h
  refine wo_lald hx hb hK hW (t := 1) rfl hx4 d_q_widen_13 ?_
  refine lv_lstore (lv' := [(6, .long x4), (4, .long x2), (0, .ref (base + a0)), (1, .int a1), (2, .int a2), (3, .int a3)]) hx hb d_q_widen_14 hl (by decide) rfl (fun ls hl => ?_)
  refine lv_aload_n hx hb d_q_widen_16 rfl (lv_at hl 2 rfl) ?_
  replace h := bs h
  obtain ⟨x5, hx5, h⟩ := h
  refine gf_q_124 hx hb hts hown hK hG hW (gN_s hx5) d_q_widen_17 ?_
  refine lv_iload_n hx hb d_q_widen_20 rfl (lv_at hl 4 rfl) ?_
  replace h := bs h
  obtain ⟨x6, hx6, h⟩ := h
  refine wo_lald hx hb hK hW (t := 1) rfl hx6 d_q_widen_21 ?_
  refine lv_lconst (v := (0 : Int64)) hx hb d_q_widen_22 (by decide) ?_
  refine lc_lt (tgt := 31) hx hb d_q_widen_23 d_q_widen_24 (by decide) (fun c7 => ?_) (fun c7 => ?_)
  · rw [if_pos c7] at h
    refine lv_iconst (v := (0 : Int32)) hx hb d_q_widen_31 (by decide) ?_
    exact j_q_widen_32 C a0 a1 a2 a3 x2 x4 (0 : Int32) w h _ _ _ hW (lv_sub hl [2, 3, 4, 5, 1, 0] rfl)
  · rw [if_neg c7] at h
    refine lv_iconst (v := (1 : Int32)) hx hb d_q_widen_27 (by decide) ?_
    refine lv_goto (tgt := 32) hx hb d_q_widen_28 (by decide) ?_
    exact j_q_widen_32 C a0 a1 a2 a3 x2 x4 (1 : Int32) w h _ _ _ hW (lv_sub hl [2, 3, 4, 5, 1, 0] rfl)
theorem cv_q_448 {p : Program} {l : Launch} {e : Env} {R : Room} {s : State} {m : MethodId} {args : Array Value} {below : List Frame} {meth : Method} {c : Code} {H : Heap} {locs : List Loc} {cells slots : Nat} {Q : State → Prop} {D : va_G} {cA : Nat → ClassId} {base : Nat} {w w' : WW} {cc : ByteArray} {pc nL : Nat} {ls : Array Slot} {rest st0 As : List Value} {ov : Option Value} {b : Nat} (hx : p.tables.exec = Jvm.exec) (hb : c.code = cc) (hml : c.maxLocals = nL) (hown : s.vm.findClass Rc_q = some m.cls) (hts : ∀ w ∈ gt, w.before args s = true) (hK : va_K D cls (wo_tys cA) s) (hG : wo_G cA base s) (hW : wo_S D cls cA base s w H locs) (hM : mt l D cls (wo_tys cA) cA base y_q_widen (Cond.code y_q_widen b_q_widen 9 (none) :: gt) rm_q_widen (.ref (base + b) :: As) w ov w' rm_q_widen.cells rm_q_widen.slots) (hkb : kb w b 9 = true) (hR : rm_q_widen.frames + 1 ≤ R.frames ∧ 8 + (9 + 11) + rm_q_widen.locals ≤ R.locals) (hf : cells + rm_q_widen.cells ≤ R.cells ∧ slots + rm_q_widen.slots ≤ R.slots) (hn : As.length = 3) (hsz : ls.size = nL) (hst : st0 = As.reverse ++ .ref (base + b) :: rest) (hcat : (rest.map fun v => v.category).sum ≤ 8) (hdg : decode cc pc = .ok (.invokevirtual 448, 3)) (kk : ∀ (H1 : Heap) (locs1 : List Loc), wo_S D cls cA base s w' H1 locs1 → W p l e R s m args below meth c H1 locs1 (cells + rm_q_widen.cells) (slots + rm_q_widen.slots) Q (F0 m (pc + 3) ls (ov.toList ++ rest))) : W p l e R s m args below meth c H locs cells slots Q (F0 m pc ls st0) :=
  wo_callV (C := Rc_q) hx hb hml hown hts hK hG hW hM hkb rfl (gt_of (i := 1687) (by decide +kernel) (by decide +kernel)) (gt_of (i := 1689) (by decide +kernel) (by decide +kernel)) (gt_sel (i := 111) (by decide +kernel) (by decide +kernel)) (gt_of (i := 10) (by decide +kernel) (by decide +kernel)) (gt_of (i := 1690) (by decide +kernel) (by decide +kernel)) (by decide +kernel) hR hf hn hsz hst hcat hdg kk
abbrev b_q_joinState : ByteArray := prog_11_method_70_code
def y_q_joinState : MethodName := ⟨"AlarmForgeModel", "joinState", "(IIIZ)V"⟩
def rm_q_joinState : Room := { frames := 4, cells := 0, slots := 0, locals := 117 }
theorem d_q_joinState_0 : decode b_q_joinState 0 = .ok (.aload_n 0, 1) := by decide +kernel
theorem d_q_joinState_1 : decode b_q_joinState 1 = .ok (.getfield 133, 3) := by decide +kernel
theorem d_q_joinState_4 : decode b_q_joinState 4 = .ok (.iload_n 2, 1) := by decide +kernel
theorem d_q_joinState_5 : decode b_q_joinState 5 = .ok (.baload, 1) := by decide +kernel
theorem d_q_joinState_6 : decode b_q_joinState 6 = .ok (.ifCond .ne (12), 3) := by decide +kernel
theorem d_q_joinState_9 : decode b_q_joinState 9 = .ok (.aload_n 0, 1) := by decide +kernel
theorem d_q_joinState_10 : decode b_q_joinState 10 = .ok (.getfield 133, 3) := by decide +kernel
theorem d_q_joinState_13 : decode b_q_joinState 13 = .ok (.iload_n 3, 1) := by decide +kernel
theorem d_q_joinState_14 : decode b_q_joinState 14 = .ok (.baload, 1) := by decide +kernel
theorem d_q_joinState_15 : decode b_q_joinState 15 = .ok (.ifCond .eq (23), 3) := by decide +kernel
theorem d_q_joinState_18 : decode b_q_joinState 18 = .ok (.aload_n 0, 1) := by decide +kernel
theorem d_q_joinState_19 : decode b_q_joinState 19 = .ok (.iload_n 1, 1) := by decide +kernel
theorem d_q_joinState_20 : decode b_q_joinState 20 = .ok (.aload_n 0, 1) := by decide +kernel
theorem d_q_joinState_21 : decode b_q_joinState 21 = .ok (.getfield 133, 3) := by decide +kernel
theorem d_q_joinState_24 : decode b_q_joinState 24 = .ok (.iload_n 2, 1) := by decide +kernel
theorem d_q_joinState_25 : decode b_q_joinState 25 = .ok (.baload, 1) := by decide +kernel
theorem d_q_joinState_26 : decode b_q_joinState 26 = .ok (.ifCond .eq (7), 3) := by decide +kernel
theorem d_q_joinState_29 : decode b_q_joinState 29 = .ok (.iload_n 3, 1) := by decide +kernel
theorem d_q_joinState_30 : decode b_q_joinState 30 = .ok (.goto (4), 3) := by decide +kernel
theorem d_q_joinState_33 : decode b_q_joinState 33 = .ok (.iload_n 2, 1) := by decide +kernel
theorem d_q_joinState_34 : decode b_q_joinState 34 = .ok (.invokevirtual 445, 3) := by decide +kernel
theorem d_q_joinState_37 : decode b_q_joinState 37 = .ok (.return_, 1) := by decide +kernel
theorem d_q_joinState_38 : decode b_q_joinState 38 = .ok (.aload_n 0, 1) := by decide +kernel
theorem d_q_joinState_39 : decode b_q_joinState 39 = .ok (.getfield 133, 3) := by decide +kernel
theorem d_q_joinState_42 : decode b_q_joinState 42 = .ok (.iload_n 1, 1) := by decide +kernel
theorem d_q_joinState_43 : decode b_q_joinState 43 = .ok (.iconst 0, 1) := by decide +kernel
theorem d_q_joinState_44 : decode b_q_joinState 44 = .ok (.bastore, 1) := by decide +kernel
theorem d_q_joinState_45 : decode b_q_joinState 45 = .ok (.iconst 0, 1) := by decide +kernel
theorem d_q_joinState_46 : decode b_q_joinState 46 = .ok (.istore 5, 2) := by decide +kernel
theorem d_q_joinState_48 : decode b_q_joinState 48 = .ok (.iload 5, 2) := by decide +kernel
theorem d_q_joinState_50 : decode b_q_joinState 50 = .ok (.bipush (14), 2) := by decide +kernel
theorem d_q_joinState_52 : decode b_q_joinState 52 = .ok (.if_icmp .ge (67), 3) := by decide +kernel
theorem d_q_joinState_55 : decode b_q_joinState 55 = .ok (.iload 4, 2) := by decide +kernel
theorem d_q_joinState_57 : decode b_q_joinState 57 = .ok (.ifCond .eq (31), 3) := by decide +kernel
theorem d_q_joinState_60 : decode b_q_joinState 60 = .ok (.aload_n 0, 1) := by decide +kernel
theorem d_q_joinState_61 : decode b_q_joinState 61 = .ok (.bipush (14), 2) := by decide +kernel
theorem d_q_joinState_63 : decode b_q_joinState 63 = .ok (.iload_n 1, 1) := by decide +kernel
theorem d_q_joinState_64 : decode b_q_joinState 64 = .ok (.imul, 1) := by decide +kernel
theorem d_q_joinState_65 : decode b_q_joinState 65 = .ok (.iload 5, 2) := by decide +kernel
theorem d_q_joinState_67 : decode b_q_joinState 67 = .ok (.iadd, 1) := by decide +kernel
theorem d_q_joinState_68 : decode b_q_joinState 68 = .ok (.bipush (14), 2) := by decide +kernel
theorem d_q_joinState_70 : decode b_q_joinState 70 = .ok (.iload_n 2, 1) := by decide +kernel
theorem d_q_joinState_71 : decode b_q_joinState 71 = .ok (.imul, 1) := by decide +kernel
theorem d_q_joinState_72 : decode b_q_joinState 72 = .ok (.iload 5, 2) := by decide +kernel
theorem d_q_joinState_74 : decode b_q_joinState 74 = .ok (.iadd, 1) := by decide +kernel
theorem d_q_joinState_75 : decode b_q_joinState 75 = .ok (.bipush (14), 2) := by decide +kernel
theorem d_q_joinState_77 : decode b_q_joinState 77 = .ok (.iload_n 3, 1) := by decide +kernel
theorem d_q_joinState_78 : decode b_q_joinState 78 = .ok (.imul, 1) := by decide +kernel
theorem d_q_joinState_79 : decode b_q_joinState 79 = .ok (.iload 5, 2) := by decide +kernel
theorem d_q_joinState_81 : decode b_q_joinState 81 = .ok (.iadd, 1) := by decide +kernel
theorem d_q_joinState_82 : decode b_q_joinState 82 = .ok (.invokevirtual 448, 3) := by decide +kernel
theorem d_q_joinState_85 : decode b_q_joinState 85 = .ok (.goto (28), 3) := by decide +kernel
theorem d_q_joinState_88 : decode b_q_joinState 88 = .ok (.aload_n 0, 1) := by decide +kernel
theorem d_q_joinState_89 : decode b_q_joinState 89 = .ok (.bipush (14), 2) := by decide +kernel
theorem d_q_joinState_91 : decode b_q_joinState 91 = .ok (.iload_n 1, 1) := by decide +kernel
theorem d_q_joinState_92 : decode b_q_joinState 92 = .ok (.imul, 1) := by decide +kernel
theorem d_q_joinState_93 : decode b_q_joinState 93 = .ok (.iload 5, 2) := by decide +kernel
theorem d_q_joinState_95 : decode b_q_joinState 95 = .ok (.iadd, 1) := by decide +kernel
theorem d_q_joinState_96 : decode b_q_joinState 96 = .ok (.bipush (14), 2) := by decide +kernel
theorem d_q_joinState_98 : decode b_q_joinState 98 = .ok (.iload_n 2, 1) := by decide +kernel
theorem d_q_joinState_99 : decode b_q_joinState 99 = .ok (.imul, 1) := by decide +kernel
theorem d_q_joinState_100 : decode b_q_joinState 100 = .ok (.iload 5, 2) := by decide +kernel
theorem d_q_joinState_102 : decode b_q_joinState 102 = .ok (.iadd, 1) := by decide +kernel
theorem d_q_joinState_103 : decode b_q_joinState 103 = .ok (.bipush (14), 2) := by decide +kernel
theorem d_q_joinState_105 : decode b_q_joinState 105 = .ok (.iload_n 3, 1) := by decide +kernel
theorem d_q_joinState_106 : decode b_q_joinState 106 = .ok (.imul, 1) := by decide +kernel
theorem d_q_joinState_107 : decode b_q_joinState 107 = .ok (.iload 5, 2) := by decide +kernel
theorem d_q_joinState_109 : decode b_q_joinState 109 = .ok (.iadd, 1) := by decide +kernel
theorem d_q_joinState_110 : decode b_q_joinState 110 = .ok (.invokevirtual 419, 3) := by decide +kernel
theorem d_q_joinState_113 : decode b_q_joinState 113 = .ok (.iinc 5 (1), 3) := by decide +kernel
theorem d_q_joinState_116 : decode b_q_joinState 116 = .ok (.goto (-68), 3) := by decide +kernel
theorem d_q_joinState_119 : decode b_q_joinState 119 = .ok (.iconst 0, 1) := by decide +kernel
theorem d_q_joinState_120 : decode b_q_joinState 120 = .ok (.istore 5, 2) := by decide +kernel
theorem d_q_joinState_122 : decode b_q_joinState 122 = .ok (.iload 5, 2) := by decide +kernel
theorem d_q_joinState_124 : decode b_q_joinState 124 = .ok (.bipush (6), 2) := by decide +kernel
theorem d_q_joinState_126 : decode b_q_joinState 126 = .ok (.if_icmp .ge (56), 3) := by decide +kernel
theorem d_q_joinState_129 : decode b_q_joinState 129 = .ok (.aload_n 0, 1) := by decide +kernel
theorem d_q_joinState_130 : decode b_q_joinState 130 = .ok (.getfield 130, 3) := by decide +kernel
theorem d_q_joinState_133 : decode b_q_joinState 133 = .ok (.bipush (6), 2) := by decide +kernel
theorem d_q_joinState_135 : decode b_q_joinState 135 = .ok (.iload_n 1, 1) := by decide +kernel
theorem d_q_joinState_136 : decode b_q_joinState 136 = .ok (.imul, 1) := by decide +kernel
theorem d_q_joinState_137 : decode b_q_joinState 137 = .ok (.iload 5, 2) := by decide +kernel
theorem d_q_joinState_139 : decode b_q_joinState 139 = .ok (.iadd, 1) := by decide +kernel
theorem d_q_joinState_140 : decode b_q_joinState 140 = .ok (.aload_n 0, 1) := by decide +kernel
theorem d_q_joinState_141 : decode b_q_joinState 141 = .ok (.getfield 130, 3) := by decide +kernel
theorem d_q_joinState_144 : decode b_q_joinState 144 = .ok (.bipush (6), 2) := by decide +kernel
theorem d_q_joinState_146 : decode b_q_joinState 146 = .ok (.iload_n 2, 1) := by decide +kernel
theorem d_q_joinState_147 : decode b_q_joinState 147 = .ok (.imul, 1) := by decide +kernel
theorem d_q_joinState_148 : decode b_q_joinState 148 = .ok (.iload 5, 2) := by decide +kernel
theorem d_q_joinState_150 : decode b_q_joinState 150 = .ok (.iadd, 1) := by decide +kernel
theorem d_q_joinState_151 : decode b_q_joinState 151 = .ok (.baload, 1) := by decide +kernel
theorem d_q_joinState_152 : decode b_q_joinState 152 = .ok (.ifCond .ne (18), 3) := by decide +kernel
theorem d_q_joinState_155 : decode b_q_joinState 155 = .ok (.aload_n 0, 1) := by decide +kernel
theorem d_q_joinState_156 : decode b_q_joinState 156 = .ok (.getfield 130, 3) := by decide +kernel
theorem d_q_joinState_159 : decode b_q_joinState 159 = .ok (.bipush (6), 2) := by decide +kernel
theorem d_q_joinState_161 : decode b_q_joinState 161 = .ok (.iload_n 3, 1) := by decide +kernel
theorem d_q_joinState_162 : decode b_q_joinState 162 = .ok (.imul, 1) := by decide +kernel
theorem d_q_joinState_163 : decode b_q_joinState 163 = .ok (.iload 5, 2) := by decide +kernel
theorem d_q_joinState_165 : decode b_q_joinState 165 = .ok (.iadd, 1) := by decide +kernel
theorem d_q_joinState_166 : decode b_q_joinState 166 = .ok (.baload, 1) := by decide +kernel
theorem d_q_joinState_167 : decode b_q_joinState 167 = .ok (.ifCond .eq (7), 3) := by decide +kernel
theorem d_q_joinState_170 : decode b_q_joinState 170 = .ok (.iconst 1, 1) := by decide +kernel
theorem d_q_joinState_171 : decode b_q_joinState 171 = .ok (.goto (4), 3) := by decide +kernel
theorem d_q_joinState_174 : decode b_q_joinState 174 = .ok (.iconst 0, 1) := by decide +kernel
theorem d_q_joinState_175 : decode b_q_joinState 175 = .ok (.bastore, 1) := by decide +kernel
theorem d_q_joinState_176 : decode b_q_joinState 176 = .ok (.iinc 5 (1), 3) := by decide +kernel
theorem d_q_joinState_179 : decode b_q_joinState 179 = .ok (.goto (-57), 3) := by decide +kernel
theorem d_q_joinState_182 : decode b_q_joinState 182 = .ok (.return_, 1) := by decide +kernel
theorem kb_q_joinState {a0 : Nat} {a1 : Int32} {a2 : Int32} {a3 : Int32} {a4 : Int32} {w : WW} {r : WW} (h : f_q_joinState a0 a1 a2 a3 a4 w = some r) : kb w a0 9 = true := (its h).1
set_option maxHeartbeats 4000000 in
set_option maxRecDepth 100000 in
theorem j_q_joinState_34 {p : Program} {l : Launch} {e : Env} {s : State} {m : MethodId} {args : Array Value} {below : List Frame} {meth : Method} {c : Code} {D : va_G} {cA : Nat → ClassId} {base : Nat} {w' : WW} (C : cx b_q_joinState (none) 6 y_q_joinState.cls "joinState" p s m args meth c D cA base)   : ∀ (z0 : Nat) (z1 : Int32) (z2 : Int32) (w : WW), f_q_joinState_34 z0 z1 z2 w = some w' → ∀ (H : Heap) (locs : List Loc) (ls : Array Slot), wo_S D cls cA base s w H locs → lv_has ls 6 [] → W p l e rm_q_joinState s m args below meth c H locs 0 0 (MQ below (wo_Q D cls cA base none w') args s rm_q_joinState.cells rm_q_joinState.slots (wo_B base)) (F0 m 34 ls [.int z2, .int z1, .ref (base + z0)]) := by
  obtain ⟨hx, hb, hr, hml, hown, hts, hlk, hnm, hK, hG⟩ := id C
  intro z0 z1 z2 w h H locs ls hW hl
  unfold f_q_joinState_34 at h
  replace h := bs h
  obtain ⟨w7, hw7, h⟩ := h
  refine cv_q_445 (As := [.int z1, .int z2]) (rest := []) hx hb hml hown hts hK hG hW (c_q_copyState l D cA base hw7) (kb_q_copyState hw7) ⟨Nat.le_of_ble_eq_true rfl, Nat.le_of_ble_eq_true rfl⟩ ⟨Nat.le_of_ble_eq_true rfl, Nat.le_of_ble_eq_true rfl⟩ rfl hl.1 rfl (Nat.le_of_ble_eq_true rfl) d_q_joinState_34 (fun H locs hW => ?_)
  cases h
  exact wo_vret hx hb hr hlk hW d_q_joinState_37
set_option maxHeartbeats 4000000 in
set_option maxRecDepth 100000 in
theorem j_q_joinState_18 {p : Program} {l : Launch} {e : Env} {s : State} {m : MethodId} {args : Array Value} {below : List Frame} {meth : Method} {c : Code} {D : va_G} {cA : Nat → ClassId} {base : Nat} {w' : WW} (C : cx b_q_joinState (none) 6 y_q_joinState.cls "joinState" p s m args meth c D cA base)   : ∀ (y0 : Nat) (y1 : Int32) (y2 : Int32) (y3 : Int32) (w : WW), f_q_joinState_18 y0 y1 y2 y3 w = some w' → ∀ (H : Heap) (locs : List Loc) (ls : Array Slot), wo_S D cls cA base s w H locs → lv_has ls 6 [(0, .ref (base + y0)), (1, .int y1), (2, .int y2), (3, .int y3)] → W p l e rm_q_joinState s m args below meth c H locs 0 0 (MQ below (wo_Q D cls cA base none w') args s rm_q_joinState.cells rm_q_joinState.slots (wo_B base)) (F0 m 18 ls []) := by
  obtain ⟨hx, hb, hr, hml, hown, hts, hlk, hnm, hK, hG⟩ := id C
  intro y0 y1 y2 y3 w h H locs ls hW hl
  unfold f_q_joinState_18 at h
  refine lv_aload_n hx hb d_q_joinState_18 rfl (lv_at hl 0 rfl) ?_
  refine lv_iload_n hx hb d_q_joinState_19 rfl (lv_at hl 1 rfl) ?_
  refine lv_aload_n hx hb d_q_joinState_20 rfl (lv_at hl 0 rfl) ?_
  replace h := bs h
  obtain ⟨x4, hx4, h⟩ := h
  refine gf_q_133 hx hb hts hown hK hG hW (gN_s hx4) d_q_joinState_21 ?_
  refine lv_iload_n hx hb d_q_joinState_24 rfl (lv_at hl 2 rfl) ?_
  replace h := bs h
  obtain ⟨x5, hx5, h⟩ := h
  refine wo_zald hx hb hK hW (t := 2) rfl hx5 d_q_joinState_25 ?_
  refine lv_if_eq (tgt := 33) hx hb d_q_joinState_26 (by decide) (fun c6 => ?_) (fun c6 => ?_)
  · rw [if_pos c6] at h
    refine lv_iload_n hx hb d_q_joinState_33 rfl (lv_at hl 2 rfl) ?_
    exact j_q_joinState_34 C y0 y1 y2 w h _ _ _ hW (lv_sub hl [] rfl)
  · rw [if_neg c6] at h
    refine lv_iload_n hx hb d_q_joinState_29 rfl (lv_at hl 3 rfl) ?_
    refine lv_goto (tgt := 34) hx hb d_q_joinState_30 (by decide) ?_
    exact j_q_joinState_34 C y0 y1 y3 w h _ _ _ hW (lv_sub hl [] rfl)
set_option maxHeartbeats 4000000 in
set_option maxRecDepth 100000 in
theorem j_q_joinState_175 {p : Program} {l : Launch} {e : Env} {s : State} {m : MethodId} {args : Array Value} {below : List Frame} {meth : Method} {c : Code} {D : va_G} {cA : Nat → ClassId} {base : Nat} {w' : WW} (C : cx b_q_joinState (none) 6 y_q_joinState.cls "joinState" p s m args meth c D cA base) {k_122 : Nat → Int32 → Int32 → Int32 → Int32 → WW → Option WW} (hk_122 : ∀ (y0 : Nat) (y1 : Int32) (y2 : Int32) (y3 : Int32) (y5 : Int32) (w : WW), k_122 y0 y1 y2 y3 y5 w = some w' → ∀ (H : Heap) (locs : List Loc) (ls : Array Slot), wo_S D cls cA base s w H locs → lv_has ls 6 [(0, .ref (base + y0)), (1, .int y1), (2, .int y2), (3, .int y3), (5, .int y5)] → W p l e rm_q_joinState s m args below meth c H locs 0 0 (MQ below (wo_Q D cls cA base none w') args s rm_q_joinState.cells rm_q_joinState.slots (wo_B base)) (F0 m 122 ls [])) : ∀ (y0 : Nat) (y1 : Int32) (y2 : Int32) (y3 : Int32) (y5 : Int32) (z0 : Nat) (z1 : Int32) (z2 : Int32) (w : WW), f_q_joinState_175 k_122 y0 y1 y2 y3 y5 z0 z1 z2 w = some w' → ∀ (H : Heap) (locs : List Loc) (ls : Array Slot), wo_S D cls cA base s w H locs → lv_has ls 6 [(0, .ref (base + y0)), (1, .int y1), (2, .int y2), (3, .int y3), (5, .int y5)] → W p l e rm_q_joinState s m args below meth c H locs 0 0 (MQ below (wo_Q D cls cA base none w') args s rm_q_joinState.cells rm_q_joinState.slots (wo_B base)) (F0 m 175 ls [.int z2, .int z1, .ref (base + z0)]) := by
  obtain ⟨hx, hb, hr, hml, hown, hts, hlk, hnm, hK, hG⟩ := id C
  intro y0 y1 y2 y3 y5 z0 z1 z2 w h H locs ls hW hl
  unfold f_q_joinState_175 at h
  replace h := bs h
  obtain ⟨w19, hw19, h⟩ := h
  refine wo_zast hx hb hK hW (t := 2) rfl hw19 d_q_joinState_175 (fun H locs hW => ?_)
  refine lv_iinc (v := (y5 + (1 : Int32))) (lv' := [(5, .int (y5 + (1 : Int32))), (0, .ref (base + y0)), (1, .int y1), (2, .int y2), (3, .int y3)]) hx hb d_q_joinState_176 hl (k := 4) rfl rfl (by decide) rfl (fun ls hl => ?_)
  refine lv_goto (tgt := 122) hx hb d_q_joinState_179 (by decide) ?_
  exact hk_122 y0 y1 y2 y3 (y5 + (1 : Int32)) w19 h _ _ _ hW (lv_sub hl [1, 2, 3, 4, 0] rfl)
set_option maxHeartbeats 4000000 in
set_option maxRecDepth 100000 in
theorem j_q_joinState_170 {p : Program} {l : Launch} {e : Env} {s : State} {m : MethodId} {args : Array Value} {below : List Frame} {meth : Method} {c : Code} {D : va_G} {cA : Nat → ClassId} {base : Nat} {w' : WW} (C : cx b_q_joinState (none) 6 y_q_joinState.cls "joinState" p s m args meth c D cA base) {k_122 : Nat → Int32 → Int32 → Int32 → Int32 → WW → Option WW} (hk_122 : ∀ (y0 : Nat) (y1 : Int32) (y2 : Int32) (y3 : Int32) (y5 : Int32) (w : WW), k_122 y0 y1 y2 y3 y5 w = some w' → ∀ (H : Heap) (locs : List Loc) (ls : Array Slot), wo_S D cls cA base s w H locs → lv_has ls 6 [(0, .ref (base + y0)), (1, .int y1), (2, .int y2), (3, .int y3), (5, .int y5)] → W p l e rm_q_joinState s m args below meth c H locs 0 0 (MQ below (wo_Q D cls cA base none w') args s rm_q_joinState.cells rm_q_joinState.slots (wo_B base)) (F0 m 122 ls [])) : ∀ (y0 : Nat) (y1 : Int32) (y2 : Int32) (y3 : Int32) (y5 : Int32) (z0 : Nat) (z1 : Int32) (w : WW), f_q_joinState_170 k_122 y0 y1 y2 y3 y5 z0 z1 w = some w' → ∀ (H : Heap) (locs : List Loc) (ls : Array Slot), wo_S D cls cA base s w H locs → lv_has ls 6 [(0, .ref (base + y0)), (1, .int y1), (2, .int y2), (3, .int y3), (5, .int y5)] → W p l e rm_q_joinState s m args below meth c H locs 0 0 (MQ below (wo_Q D cls cA base none w') args s rm_q_joinState.cells rm_q_joinState.slots (wo_B base)) (F0 m 170 ls [.int z1, .ref (base + z0)]) := by
  obtain ⟨hx, hb, hr, hml, hown, hts, hlk, hnm, hK, hG⟩ := id C
  intro y0 y1 y2 y3 y5 z0 z1 w h H locs ls hW hl
  unfold f_q_joinState_170 at h
  refine lv_iconst (v := (1 : Int32)) hx hb d_q_joinState_170 (by decide) ?_
  refine lv_goto (tgt := 175) hx hb d_q_joinState_171 (by decide) ?_
  exact j_q_joinState_175 C hk_122 y0 y1 y2 y3 y5 z0 z1 (1 : Int32) w h _ _ _ hW (lv_sub hl [0, 1, 2, 3, 4] rfl)
set_option maxHeartbeats 4000000 in
set_option maxRecDepth 100000 in
theorem j_q_joinState_122 {p : Program} {l : Launch} {e : Env} {s : State} {m : MethodId} {args : Array Value} {below : List Frame} {meth : Method} {c : Code} {D : va_G} {cA : Nat → ClassId} {base : Nat} {w' : WW} (C : cx b_q_joinState (none) 6 y_q_joinState.cls "joinState" p s m args meth c D cA base)   : ∀ n : Nat, ∀ (y0 : Nat) (y1 : Int32) (y2 : Int32) (y3 : Int32) (y5 : Int32) (w : WW), f_q_joinState_122 n y0 y1 y2 y3 y5 w = some w' → ∀ (H : Heap) (locs : List Loc) (ls : Array Slot), wo_S D cls cA base s w H locs → lv_has ls 6 [(0, .ref (base + y0)), (1, .int y1), (2, .int y2), (3, .int y3), (5, .int y5)] → W p l e rm_q_joinState s m args below meth c H locs 0 0 (MQ below (wo_Q D cls cA base none w') args s rm_q_joinState.cells rm_q_joinState.slots (wo_B base)) (F0 m 122 ls []) := by
  obtain ⟨hx, hb, hr, hml, hown, hts, hlk, hnm, hK, hG⟩ := id C
  intro n
  induction n with
  | zero => intro y0 y1 y2 y3 y5 w h; cases h
  | succ n ih =>
    intro y0 y1 y2 y3 y5 w h H locs ls hW hl
    rw [f_q_joinState_122] at h
    refine lv_iload hx hb d_q_joinState_122 (lv_at hl 4 rfl) ?_
    refine lv_bipush (v := (6 : Int32)) hx hb d_q_joinState_124 (by decide) ?_
    refine lv_icmp_ge (tgt := 182) hx hb d_q_joinState_126 (by decide) (fun c14 => ?_) (fun c14 => ?_)
    · rw [if_pos c14] at h
      cases h
      exact wo_vret hx hb hr hlk hW d_q_joinState_182
    · rw [if_neg c14] at h
      refine lv_aload_n hx hb d_q_joinState_129 rfl (lv_at hl 0 rfl) ?_
      replace h := bs h
      obtain ⟨x15, hx15, h⟩ := h
      refine gf_q_130 hx hb hts hown hK hG hW (gN_s hx15) d_q_joinState_130 ?_
      refine lv_bipush (v := (6 : Int32)) hx hb d_q_joinState_133 (by decide) ?_
      refine lv_iload_n hx hb d_q_joinState_135 rfl (lv_at hl 1 rfl) ?_
      refine lv_imul hx hb d_q_joinState_136 ?_
      refine lv_iload hx hb d_q_joinState_137 (lv_at hl 4 rfl) ?_
      refine lv_iadd hx hb d_q_joinState_139 ?_
      refine lv_aload_n hx hb d_q_joinState_140 rfl (lv_at hl 0 rfl) ?_
      replace h := bs h
      obtain ⟨x16, hx16, h⟩ := h
      refine gf_q_130 hx hb hts hown hK hG hW (gN_s hx16) d_q_joinState_141 ?_
      refine lv_bipush (v := (6 : Int32)) hx hb d_q_joinState_144 (by decide) ?_
      refine lv_iload_n hx hb d_q_joinState_146 rfl (lv_at hl 2 rfl) ?_
      refine lv_imul hx hb d_q_joinState_147 ?_
      refine lv_iload hx hb d_q_joinState_148 (lv_at hl 4 rfl) ?_
      refine lv_iadd hx hb d_q_joinState_150 ?_
      replace h := bs h
      obtain ⟨x17, hx17, h⟩ := h
      refine wo_zald hx hb hK hW (t := 2) rfl hx17 d_q_joinState_151 ?_
      refine lv_if_ne (tgt := 170) hx hb d_q_joinState_152 (by decide) (fun c18 => ?_) (fun c18 => ?_)
      · rw [if_neg c18] at h
        exact j_q_joinState_170 C ih y0 y1 y2 y3 y5 x15 (((6 : Int32) * y1) + y5) w h _ _ _ hW (lv_sub hl [0, 1, 2, 3, 4] rfl)
      · rw [if_pos c18] at h
        refine lv_aload_n hx hb d_q_joinState_155 rfl (lv_at hl 0 rfl) ?_
        replace h := bs h
        obtain ⟨x20, hx20, h⟩ := h
        refine gf_q_130 hx hb hts hown hK hG hW (gN_s hx20) d_q_joinState_156 ?_
        refine lv_bipush (v := (6 : Int32)) hx hb d_q_joinState_159 (by decide) ?_
        refine lv_iload_n hx hb d_q_joinState_161 rfl (lv_at hl 3 rfl) ?_
        refine lv_imul hx hb d_q_joinState_162 ?_
        refine lv_iload hx hb d_q_joinState_163 (lv_at hl 4 rfl) ?_
        refine lv_iadd hx hb d_q_joinState_165 ?_
        replace h := bs h
        obtain ⟨x21, hx21, h⟩ := h
        refine wo_zald hx hb hK hW (t := 2) rfl hx21 d_q_joinState_166 ?_
        refine lv_if_eq (tgt := 174) hx hb d_q_joinState_167 (by decide) (fun c22 => ?_) (fun c22 => ?_)
        · rw [if_pos c22] at h
          refine lv_iconst (v := (0 : Int32)) hx hb d_q_joinState_174 (by decide) ?_
          exact j_q_joinState_175 C ih y0 y1 y2 y3 y5 x15 (((6 : Int32) * y1) + y5) (0 : Int32) w h _ _ _ hW (lv_sub hl [0, 1, 2, 3, 4] rfl)
        · rw [if_neg c22] at h
          exact j_q_joinState_170 C ih y0 y1 y2 y3 y5 x15 (((6 : Int32) * y1) + y5) w h _ _ _ hW (lv_sub hl [0, 1, 2, 3, 4] rfl)
set_option maxHeartbeats 4000000 in
set_option maxRecDepth 100000 in
theorem j_q_joinState_113 {p : Program} {l : Launch} {e : Env} {s : State} {m : MethodId} {args : Array Value} {below : List Frame} {meth : Method} {c : Code} {D : va_G} {cA : Nat → ClassId} {base : Nat} {w' : WW} (C : cx b_q_joinState (none) 6 y_q_joinState.cls "joinState" p s m args meth c D cA base) {k_48 : Nat → Int32 → Int32 → Int32 → Int32 → Int32 → WW → Option WW} (hk_48 : ∀ (y0 : Nat) (y1 : Int32) (y2 : Int32) (y3 : Int32) (y4 : Int32) (y5 : Int32) (w : WW), k_48 y0 y1 y2 y3 y4 y5 w = some w' → ∀ (H : Heap) (locs : List Loc) (ls : Array Slot), wo_S D cls cA base s w H locs → lv_has ls 6 [(0, .ref (base + y0)), (1, .int y1), (2, .int y2), (3, .int y3), (4, .int y4), (5, .int y5)] → W p l e rm_q_joinState s m args below meth c H locs 0 0 (MQ below (wo_Q D cls cA base none w') args s rm_q_joinState.cells rm_q_joinState.slots (wo_B base)) (F0 m 48 ls [])) : ∀ (y0 : Nat) (y1 : Int32) (y2 : Int32) (y3 : Int32) (y4 : Int32) (y5 : Int32) (w : WW), f_q_joinState_113 k_48 y0 y1 y2 y3 y4 y5 w = some w' → ∀ (H : Heap) (locs : List Loc) (ls : Array Slot), wo_S D cls cA base s w H locs → lv_has ls 6 [(0, .ref (base + y0)), (1, .int y1), (2, .int y2), (3, .int y3), (4, .int y4), (5, .int y5)] → W p l e rm_q_joinState s m args below meth c H locs 0 0 (MQ below (wo_Q D cls cA base none w') args s rm_q_joinState.cells rm_q_joinState.slots (wo_B base)) (F0 m 113 ls []) := by
  obtain ⟨hx, hb, hr, hml, hown, hts, hlk, hnm, hK, hG⟩ := id C
  intro y0 y1 y2 y3 y4 y5 w h H locs ls hW hl
  unfold f_q_joinState_113 at h
  refine lv_iinc (v := (y5 + (1 : Int32))) (lv' := [(5, .int (y5 + (1 : Int32))), (0, .ref (base + y0)), (1, .int y1), (2, .int y2), (3, .int y3), (4, .int y4)]) hx hb d_q_joinState_113 hl (k := 5) rfl rfl (by decide) rfl (fun ls hl => ?_)
  refine lv_goto (tgt := 48) hx hb d_q_joinState_116 (by decide) ?_
  exact hk_48 y0 y1 y2 y3 y4 (y5 + (1 : Int32)) w h _ _ _ hW (lv_sub hl [1, 2, 3, 4, 5, 0] rfl)
set_option maxHeartbeats 4000000 in
set_option maxRecDepth 100000 in
theorem j_q_joinState_48 {p : Program} {l : Launch} {e : Env} {s : State} {m : MethodId} {args : Array Value} {below : List Frame} {meth : Method} {c : Code} {D : va_G} {cA : Nat → ClassId} {base : Nat} {w' : WW} (C : cx b_q_joinState (none) 6 y_q_joinState.cls "joinState" p s m args meth c D cA base)   : ∀ n : Nat, ∀ (y0 : Nat) (y1 : Int32) (y2 : Int32) (y3 : Int32) (y4 : Int32) (y5 : Int32) (w : WW), f_q_joinState_48 n y0 y1 y2 y3 y4 y5 w = some w' → ∀ (H : Heap) (locs : List Loc) (ls : Array Slot), wo_S D cls cA base s w H locs → lv_has ls 6 [(0, .ref (base + y0)), (1, .int y1), (2, .int y2), (3, .int y3), (4, .int y4), (5, .int y5)] → W p l e rm_q_joinState s m args below meth c H locs 0 0 (MQ below (wo_Q D cls cA base none w') args s rm_q_joinState.cells rm_q_joinState.slots (wo_B base)) (F0 m 48 ls []) := by
  obtain ⟨hx, hb, hr, hml, hown, hts, hlk, hnm, hK, hG⟩ := id C
  intro n
  induction n with
  | zero => intro y0 y1 y2 y3 y4 y5 w h; cases h
  | succ n ih =>
    intro y0 y1 y2 y3 y4 y5 w h H locs ls hW hl
    rw [f_q_joinState_48] at h
    refine lv_iload hx hb d_q_joinState_48 (lv_at hl 5 rfl) ?_
    refine lv_bipush (v := (14 : Int32)) hx hb d_q_joinState_50 (by decide) ?_
    refine lv_icmp_ge (tgt := 119) hx hb d_q_joinState_52 (by decide) (fun c13 => ?_) (fun c13 => ?_)
    · rw [if_pos c13] at h
      refine lv_iconst (v := (0 : Int32)) hx hb d_q_joinState_119 (by decide) ?_
      refine lv_istore (lv' := [(5, .int (0 : Int32)), (0, .ref (base + y0)), (1, .int y1), (2, .int y2), (3, .int y3), (4, .int y4)]) hx hb d_q_joinState_120 hl (by decide) rfl (fun ls hl => ?_)
      exact j_q_joinState_122 C KK y0 y1 y2 y3 (0 : Int32) w h _ _ _ hW (lv_sub hl [1, 2, 3, 4, 0] rfl)
    · rw [if_neg c13] at h
      refine lv_iload hx hb d_q_joinState_55 (lv_at hl 4 rfl) ?_
      refine lv_if_eq (tgt := 88) hx hb d_q_joinState_57 (by decide) (fun c23 => ?_) (fun c23 => ?_)
      · rw [if_pos c23] at h
        refine lv_aload_n hx hb d_q_joinState_88 rfl (lv_at hl 0 rfl) ?_
        refine lv_bipush (v := (14 : Int32)) hx hb d_q_joinState_89 (by decide) ?_
        refine lv_iload_n hx hb d_q_joinState_91 rfl (lv_at hl 1 rfl) ?_
        refine lv_imul hx hb d_q_joinState_92 ?_
        refine lv_iload hx hb d_q_joinState_93 (lv_at hl 5 rfl) ?_
        refine lv_iadd hx hb d_q_joinState_95 ?_
        refine lv_bipush (v := (14 : Int32)) hx hb d_q_joinState_96 (by decide) ?_
        refine lv_iload_n hx hb d_q_joinState_98 rfl (lv_at hl 2 rfl) ?_
        refine lv_imul hx hb d_q_joinState_99 ?_
        refine lv_iload hx hb d_q_joinState_100 (lv_at hl 5 rfl) ?_
        refine lv_iadd hx hb d_q_joinState_102 ?_
        refine lv_bipush (v := (14 : Int32)) hx hb d_q_joinState_103 (by decide) ?_
        refine lv_iload_n hx hb d_q_joinState_105 rfl (lv_at hl 3 rfl) ?_
        refine lv_imul hx hb d_q_joinState_106 ?_
        refine lv_iload hx hb d_q_joinState_107 (lv_at hl 5 rfl) ?_
        refine lv_iadd hx hb d_q_joinState_109 ?_
        replace h := bs h
        obtain ⟨w24, hw24, h⟩ := h
        refine cv_q_419 (As := [.int (((14 : Int32) * y1) + y5), .int (((14 : Int32) * y2) + y5), .int (((14 : Int32) * y3) + y5)]) (rest := []) hx hb hml hown hts hK hG hW (c_q_join l D cA base hw24) (kb_q_join hw24) ⟨Nat.le_of_ble_eq_true rfl, Nat.le_of_ble_eq_true rfl⟩ ⟨Nat.le_of_ble_eq_true rfl, Nat.le_of_ble_eq_true rfl⟩ rfl hl.1 rfl (Nat.le_of_ble_eq_true rfl) d_q_joinState_110 (fun H locs hW => ?_)
        exact j_q_joinState_113 C ih y0 y1 y2 y3 y4 y5 w24 h _ _ _ hW (lv_sub hl [0, 1, 2, 3, 4, 5] rfl)
      · rw [if_neg c23] at h
        refine lv_aload_n hx hb d_q_joinState_60 rfl (lv_at hl 0 rfl) ?_
        refine lv_bipush (v := (14 : Int32)) hx hb d_q_joinState_61 (by decide) ?_
        refine lv_iload_n hx hb d_q_joinState_63 rfl (lv_at hl 1 rfl) ?_
        refine lv_imul hx hb d_q_joinState_64 ?_
        refine lv_iload hx hb d_q_joinState_65 (lv_at hl 5 rfl) ?_
        refine lv_iadd hx hb d_q_joinState_67 ?_
        refine lv_bipush (v := (14 : Int32)) hx hb d_q_joinState_68 (by decide) ?_
        refine lv_iload_n hx hb d_q_joinState_70 rfl (lv_at hl 2 rfl) ?_
        refine lv_imul hx hb d_q_joinState_71 ?_
        refine lv_iload hx hb d_q_joinState_72 (lv_at hl 5 rfl) ?_
        refine lv_iadd hx hb d_q_joinState_74 ?_
        refine lv_bipush (v := (14 : Int32)) hx hb d_q_joinState_75 (by decide) ?_
        refine lv_iload_n hx hb d_q_joinState_77 rfl (lv_at hl 3 rfl) ?_
        refine lv_imul hx hb d_q_joinState_78 ?_
        refine lv_iload hx hb d_q_joinState_79 (lv_at hl 5 rfl) ?_
        refine lv_iadd hx hb d_q_joinState_81 ?_
        replace h := bs h
        obtain ⟨w25, hw25, h⟩ := h
        refine cv_q_448 (As := [.int (((14 : Int32) * y1) + y5), .int (((14 : Int32) * y2) + y5), .int (((14 : Int32) * y3) + y5)]) (rest := []) hx hb hml hown hts hK hG hW (c_q_widen l D cA base hw25) (kb_q_widen hw25) ⟨Nat.le_of_ble_eq_true rfl, Nat.le_of_ble_eq_true rfl⟩ ⟨Nat.le_of_ble_eq_true rfl, Nat.le_of_ble_eq_true rfl⟩ rfl hl.1 rfl (Nat.le_of_ble_eq_true rfl) d_q_joinState_82 (fun H locs hW => ?_)
        refine lv_goto (tgt := 113) hx hb d_q_joinState_85 (by decide) ?_
        exact j_q_joinState_113 C ih y0 y1 y2 y3 y4 y5 w25 h _ _ _ hW (lv_sub hl [0, 1, 2, 3, 4, 5] rfl)
set_option maxHeartbeats 4000000 in
set_option maxRecDepth 100000 in
theorem c_q_joinState (l : Launch) (D : va_G) (cA : Nat → ClassId) (base : Nat) {a0 : Nat} {a1 : Int32} {a2 : Int32} {a3 : Int32} {a4 : Int32} {w w' : WW} (h : f_q_joinState a0 a1 a2 a3 a4 w = some w') : mt l D cls (wo_tys cA) cA base y_q_joinState (Cond.code y_q_joinState b_q_joinState 6 (none) :: gt) rm_q_joinState [.ref (base + a0), .int a1, .int a2, .int a3, .int a4] w none w' rm_q_joinState.cells rm_q_joinState.slots := by
  refine mt_start (by decide) (Nat.le_of_ble_eq_true rfl) ?_
  intro p e s m below meth c ls hx hb hr hml hown hts hlk hnm hK hG hW hl
  have C : cx b_q_joinState (none) 6 y_q_joinState.cls "joinState" p s m [.ref (base + a0), .int a1, .int a2, .int a3, .int a4].toArray meth c D cA base := ⟨hx, hb, hr, hml, hown, hts, hlk, hnm, hK, hG⟩
  have hl : lv_has ls 6 [(0, .ref (base + a0)), (1, .int a1), (2, .int a2), (3, .int a3), (4, .int a4)] := hl
  unfold f_q_joinState at h
  replace h := its h
  obtain ⟨-, h⟩ := h
  refine lv_aload_n hx hb d_q_joinState_0 rfl (lv_at hl 0 rfl) ?_
  replace h := bs h
  obtain ⟨x1, hx1, h⟩ := h
  refine gf_q_133 hx hb hts hown hK hG hW (gN_s hx1) d_q_joinState_1 ?_
  refine lv_iload_n hx hb d_q_joinState_4 rfl (lv_at hl 2 rfl) ?_
  replace h := bs h
  obtain ⟨x2, hx2, h⟩ := h
  refine wo_zald hx hb hK hW (t := 2) rfl hx2 d_q_joinState_5 ?_
  refine lv_if_ne (tgt := 18) hx hb d_q_joinState_6 (by decide) (fun c3 => ?_) (fun c3 => ?_)
  · rw [if_neg c3] at h
    exact j_q_joinState_18 C a0 a1 a2 a3 w h _ _ _ hW (lv_sub hl [0, 1, 2, 3] rfl)
  · rw [if_pos c3] at h
    refine lv_aload_n hx hb d_q_joinState_9 rfl (lv_at hl 0 rfl) ?_
    replace h := bs h
    obtain ⟨x8, hx8, h⟩ := h
    refine gf_q_133 hx hb hts hown hK hG hW (gN_s hx8) d_q_joinState_10 ?_
    refine lv_iload_n hx hb d_q_joinState_13 rfl (lv_at hl 3 rfl) ?_
    replace h := bs h
    obtain ⟨x9, hx9, h⟩ := h
    refine wo_zald hx hb hK hW (t := 2) rfl hx9 d_q_joinState_14 ?_
    refine lv_if_eq (tgt := 38) hx hb d_q_joinState_15 (by decide) (fun c10 => ?_) (fun c10 => ?_)
    · rw [if_pos c10] at h
      refine lv_aload_n hx hb d_q_joinState_38 rfl (lv_at hl 0 rfl) ?_
      replace h := bs h
      obtain ⟨x11, hx11, h⟩ := h
      refine gf_q_133 hx hb hts hown hK hG hW (gN_s hx11) d_q_joinState_39 ?_
      refine lv_iload_n hx hb d_q_joinState_42 rfl (lv_at hl 1 rfl) ?_
      refine lv_iconst (v := (0 : Int32)) hx hb d_q_joinState_43 (by decide) ?_
      replace h := bs h
      obtain ⟨w12, hw12, h⟩ := h
      refine wo_zast hx hb hK hW (t := 2) rfl hw12 d_q_joinState_44 (fun H locs hW => ?_)
      refine lv_iconst (v := (0 : Int32)) hx hb d_q_joinState_45 (by decide) ?_
      refine lv_istore (lv' := [(5, .int (0 : Int32)), (0, .ref (base + a0)), (1, .int a1), (2, .int a2), (3, .int a3), (4, .int a4)]) hx hb d_q_joinState_46 hl (by decide) rfl (fun ls hl => ?_)
      exact j_q_joinState_48 C KK a0 a1 a2 a3 a4 (0 : Int32) w12 h _ _ _ hW (lv_sub hl [1, 2, 3, 4, 5, 0] rfl)
    · rw [if_neg c10] at h
      exact j_q_joinState_18 C a0 a1 a2 a3 w h _ _ _ hW (lv_sub hl [0, 1, 2, 3] rfl)
