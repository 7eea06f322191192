/-! Methods as functions, and their contracts (by wip/gen/run.py). -/
theorem cs_q_403 {p : Program} {l : Launch} {e : Env} {R : Room} {s : State} {m : MethodId} {args : Array Value} {below : List Frame} {meth : Method} {c : Code} {H : Heap} {locs : List Loc} {cells slots : Nat} {Q : State → Prop} {D : va_G} {cA : Nat → ClassId} {base : Nat} {w w' : WW} {cc : ByteArray} {pc nL : Nat} {ls : Array Slot} {rest st0 As : List Value} {ov : Option Value} (hx : p.tables.exec = Jvm.exec) (hb : c.code = cc) (hml : c.maxLocals = nL) (hown : s.vm.findClass Rc_q = some m.cls) (hts : ∀ w ∈ gt, w.before args s = true) (hK : va_K D cls (wo_tys cA) s) (hG : wo_G cA base s) (hW : wo_S D cls cA base s w H locs) (hM : mt l D cls (wo_tys cA) cA base y_q_gcd (Cond.code y_q_gcd b_q_gcd 10 (some .long) :: gt) rm_q_gcd (As) w ov w' rm_q_gcd.cells rm_q_gcd.slots) (hR : rm_q_gcd.frames + 1 ≤ R.frames ∧ 8 + (10 + 11) + rm_q_gcd.locals ≤ R.locals) (hf : cells + rm_q_gcd.cells ≤ R.cells ∧ slots + rm_q_gcd.slots ≤ R.slots) (hn : As.length = 2) (hsz : ls.size = nL) (hst : st0 = As.reverse ++ rest) (hcat : (rest.map fun v => v.category).sum ≤ 8) (hdg : decode cc pc = .ok (.invokestatic 403, 3)) (kk : ∀ (H1 : Heap) (locs1 : List Loc), wo_S D cls cA base s w' H1 locs1 → W p l e R s m args below meth c H1 locs1 (cells + rm_q_gcd.cells) (slots + rm_q_gcd.slots) Q (F0 m (pc + 3) ls (ov.toList ++ rest))) : W p l e R s m args below meth c H locs cells slots Q (F0 m pc ls st0) :=
  wo_callS hx hb hml hown hts hK hG hW hM (gt_of (i := 1629) (by decide +kernel) (by decide +kernel)) (gt_of (i := 1630) (by decide +kernel) (by decide +kernel)) (gt_of (i := 10) (by decide +kernel) (by decide +kernel)) (gt_of (i := 1631) (by decide +kernel) (by decide +kernel)) (by decide +kernel) hR hf hn hsz hst hcat hdg kk
theorem cv_q_406 {p : Program} {l : Launch} {e : Env} {R : Room} {s : State} {m : MethodId} {args : Array Value} {below : List Frame} {meth : Method} {c : Code} {H : Heap} {locs : List Loc} {cells slots : Nat} {Q : State → Prop} {D : va_G} {cA : Nat → ClassId} {base : Nat} {w w' : WW} {cc : ByteArray} {pc nL : Nat} {ls : Array Slot} {rest st0 As : List Value} {ov : Option Value} {b : Nat} (hx : p.tables.exec = Jvm.exec) (hb : c.code = cc) (hml : c.maxLocals = nL) (hown : s.vm.findClass Rc_q = some m.cls) (hts : ∀ w ∈ gt, w.before args s = true) (hK : va_K D cls (wo_tys cA) s) (hG : wo_G cA base s) (hW : wo_S D cls cA base s w H locs) (hM : mt l D cls (wo_tys cA) cA base y_q_put (Cond.code y_q_put b_q_put 18 (none) :: gt) rm_q_put (.ref (base + b) :: As) w ov w' rm_q_put.cells rm_q_put.slots) (hkb : kb w b 9 = true) (hR : rm_q_put.frames + 1 ≤ R.frames ∧ 8 + (18 + 11) + rm_q_put.locals ≤ R.locals) (hf : cells + rm_q_put.cells ≤ R.cells ∧ slots + rm_q_put.slots ≤ R.slots) (hn : As.length = 5) (hsz : ls.size = nL) (hst : st0 = As.reverse ++ .ref (base + b) :: rest) (hcat : (rest.map fun v => v.category).sum ≤ 8) (hdg : decode cc pc = .ok (.invokevirtual 406, 3)) (kk : ∀ (H1 : Heap) (locs1 : List Loc), wo_S D cls cA base s w' H1 locs1 → W p l e R s m args below meth c H1 locs1 (cells + rm_q_put.cells) (slots + rm_q_put.slots) Q (F0 m (pc + 3) ls (ov.toList ++ rest))) : W p l e R s m args below meth c H locs cells slots Q (F0 m pc ls st0) :=
  wo_callV (C := Rc_q) hx hb hml hown hts hK hG hW hM hkb rfl (gt_of (i := 1632) (by decide +kernel) (by decide +kernel)) (gt_of (i := 1634) (by decide +kernel) (by decide +kernel)) (gt_sel (i := 99) (by decide +kernel) (by decide +kernel)) (gt_of (i := 10) (by decide +kernel) (by decide +kernel)) (gt_of (i := 1635) (by decide +kernel) (by decide +kernel)) (by decide +kernel) hR hf hn hsz hst hcat hdg kk
abbrev b_q_join : ByteArray := prog_11_method_58_code
def y_q_join : MethodName := ⟨"AlarmForgeModel", "join", "(III)V"⟩
def rm_q_join : Room := { frames := 2, cells := 0, slots := 0, locals := 66 }
theorem d_q_join_0 : decode b_q_join 0 = .ok (.aload_n 0, 1) := by decide +kernel
theorem d_q_join_1 : decode b_q_join 1 = .ok (.getfield 124, 3) := by decide +kernel
theorem d_q_join_4 : decode b_q_join 4 = .ok (.iload_n 2, 1) := by decide +kernel
theorem d_q_join_5 : decode b_q_join 5 = .ok (.laload, 1) := by decide +kernel
theorem d_q_join_6 : decode b_q_join 6 = .ok (.lconst 0, 1) := by decide +kernel
theorem d_q_join_7 : decode b_q_join 7 = .ok (.lcmp, 1) := by decide +kernel
theorem d_q_join_8 : decode b_q_join 8 = .ok (.ifCond .ge (12), 3) := by decide +kernel
theorem d_q_join_11 : decode b_q_join 11 = .ok (.aload_n 0, 1) := by decide +kernel
theorem d_q_join_12 : decode b_q_join 12 = .ok (.iload_n 1, 1) := by decide +kernel
theorem d_q_join_13 : decode b_q_join 13 = .ok (.iload_n 3, 1) := by decide +kernel
theorem d_q_join_14 : decode b_q_join 14 = .ok (.invokevirtual 400, 3) := by decide +kernel
theorem d_q_join_17 : decode b_q_join 17 = .ok (.goto (127), 3) := by decide +kernel
theorem d_q_join_20 : decode b_q_join 20 = .ok (.aload_n 0, 1) := by decide +kernel
theorem d_q_join_21 : decode b_q_join 21 = .ok (.getfield 124, 3) := by decide +kernel
theorem d_q_join_24 : decode b_q_join 24 = .ok (.iload_n 3, 1) := by decide +kernel
theorem d_q_join_25 : decode b_q_join 25 = .ok (.laload, 1) := by decide +kernel
theorem d_q_join_26 : decode b_q_join 26 = .ok (.lconst 0, 1) := by decide +kernel
theorem d_q_join_27 : decode b_q_join 27 = .ok (.lcmp, 1) := by decide +kernel
theorem d_q_join_28 : decode b_q_join 28 = .ok (.ifCond .ge (12), 3) := by decide +kernel
theorem d_q_join_31 : decode b_q_join 31 = .ok (.aload_n 0, 1) := by decide +kernel
theorem d_q_join_32 : decode b_q_join 32 = .ok (.iload_n 1, 1) := by decide +kernel
theorem d_q_join_33 : decode b_q_join 33 = .ok (.iload_n 2, 1) := by decide +kernel
theorem d_q_join_34 : decode b_q_join 34 = .ok (.invokevirtual 400, 3) := by decide +kernel
theorem d_q_join_37 : decode b_q_join 37 = .ok (.goto (107), 3) := by decide +kernel
theorem d_q_join_40 : decode b_q_join 40 = .ok (.aload_n 0, 1) := by decide +kernel
theorem d_q_join_41 : decode b_q_join 41 = .ok (.iload_n 1, 1) := by decide +kernel
theorem d_q_join_42 : decode b_q_join 42 = .ok (.aload_n 0, 1) := by decide +kernel
theorem d_q_join_43 : decode b_q_join 43 = .ok (.getfield 117, 3) := by decide +kernel
theorem d_q_join_46 : decode b_q_join 46 = .ok (.iload_n 2, 1) := by decide +kernel
theorem d_q_join_47 : decode b_q_join 47 = .ok (.laload, 1) := by decide +kernel
theorem d_q_join_48 : decode b_q_join 48 = .ok (.aload_n 0, 1) := by decide +kernel
theorem d_q_join_49 : decode b_q_join 49 = .ok (.getfield 117, 3) := by decide +kernel
theorem d_q_join_52 : decode b_q_join 52 = .ok (.iload_n 3, 1) := by decide +kernel
theorem d_q_join_53 : decode b_q_join 53 = .ok (.laload, 1) := by decide +kernel
theorem d_q_join_54 : decode b_q_join 54 = .ok (.lcmp, 1) := by decide +kernel
theorem d_q_join_55 : decode b_q_join 55 = .ok (.ifCond .ge (12), 3) := by decide +kernel
theorem d_q_join_58 : decode b_q_join 58 = .ok (.aload_n 0, 1) := by decide +kernel
theorem d_q_join_59 : decode b_q_join 59 = .ok (.getfield 117, 3) := by decide +kernel
theorem d_q_join_62 : decode b_q_join 62 = .ok (.iload_n 2, 1) := by decide +kernel
theorem d_q_join_63 : decode b_q_join 63 = .ok (.laload, 1) := by decide +kernel
theorem d_q_join_64 : decode b_q_join 64 = .ok (.goto (9), 3) := by decide +kernel
theorem d_q_join_67 : decode b_q_join 67 = .ok (.aload_n 0, 1) := by decide +kernel
theorem d_q_join_68 : decode b_q_join 68 = .ok (.getfield 117, 3) := by decide +kernel
theorem d_q_join_71 : decode b_q_join 71 = .ok (.iload_n 3, 1) := by decide +kernel
theorem d_q_join_72 : decode b_q_join 72 = .ok (.laload, 1) := by decide +kernel
theorem d_q_join_73 : decode b_q_join 73 = .ok (.aload_n 0, 1) := by decide +kernel
theorem d_q_join_74 : decode b_q_join 74 = .ok (.getfield 121, 3) := by decide +kernel
theorem d_q_join_77 : decode b_q_join 77 = .ok (.iload_n 2, 1) := by decide +kernel
theorem d_q_join_78 : decode b_q_join 78 = .ok (.laload, 1) := by decide +kernel
theorem d_q_join_79 : decode b_q_join 79 = .ok (.aload_n 0, 1) := by decide +kernel
theorem d_q_join_80 : decode b_q_join 80 = .ok (.getfield 121, 3) := by decide +kernel
theorem d_q_join_83 : decode b_q_join 83 = .ok (.iload_n 3, 1) := by decide +kernel
theorem d_q_join_84 : decode b_q_join 84 = .ok (.laload, 1) := by decide +kernel
theorem d_q_join_85 : decode b_q_join 85 = .ok (.lcmp, 1) := by decide +kernel
theorem d_q_join_86 : decode b_q_join 86 = .ok (.ifCond .le (12), 3) := by decide +kernel
theorem d_q_join_89 : decode b_q_join 89 = .ok (.aload_n 0, 1) := by decide +kernel
theorem d_q_join_90 : decode b_q_join 90 = .ok (.getfield 121, 3) := by decide +kernel
theorem d_q_join_93 : decode b_q_join 93 = .ok (.iload_n 2, 1) := by decide +kernel
theorem d_q_join_94 : decode b_q_join 94 = .ok (.laload, 1) := by decide +kernel
theorem d_q_join_95 : decode b_q_join 95 = .ok (.goto (9), 3) := by decide +kernel
theorem d_q_join_98 : decode b_q_join 98 = .ok (.aload_n 0, 1) := by decide +kernel
theorem d_q_join_99 : decode b_q_join 99 = .ok (.getfield 121, 3) := by decide +kernel
theorem d_q_join_102 : decode b_q_join 102 = .ok (.iload_n 3, 1) := by decide +kernel
theorem d_q_join_103 : decode b_q_join 103 = .ok (.laload, 1) := by decide +kernel
theorem d_q_join_104 : decode b_q_join 104 = .ok (.aload_n 0, 1) := by decide +kernel
theorem d_q_join_105 : decode b_q_join 105 = .ok (.getfield 124, 3) := by decide +kernel
theorem d_q_join_108 : decode b_q_join 108 = .ok (.iload_n 2, 1) := by decide +kernel
theorem d_q_join_109 : decode b_q_join 109 = .ok (.laload, 1) := by decide +kernel
theorem d_q_join_110 : decode b_q_join 110 = .ok (.aload_n 0, 1) := by decide +kernel
theorem d_q_join_111 : decode b_q_join 111 = .ok (.getfield 124, 3) := by decide +kernel
theorem d_q_join_114 : decode b_q_join 114 = .ok (.iload_n 3, 1) := by decide +kernel
theorem d_q_join_115 : decode b_q_join 115 = .ok (.laload, 1) := by decide +kernel
theorem d_q_join_116 : decode b_q_join 116 = .ok (.invokestatic 403, 3) := by decide +kernel
theorem d_q_join_119 : decode b_q_join 119 = .ok (.aload_n 0, 1) := by decide +kernel
theorem d_q_join_120 : decode b_q_join 120 = .ok (.getfield 127, 3) := by decide +kernel
theorem d_q_join_123 : decode b_q_join 123 = .ok (.iload_n 2, 1) := by decide +kernel
theorem d_q_join_124 : decode b_q_join 124 = .ok (.laload, 1) := by decide +kernel
theorem d_q_join_125 : decode b_q_join 125 = .ok (.aload_n 0, 1) := by decide +kernel
theorem d_q_join_126 : decode b_q_join 126 = .ok (.getfield 127, 3) := by decide +kernel
theorem d_q_join_129 : decode b_q_join 129 = .ok (.iload_n 3, 1) := by decide +kernel
theorem d_q_join_130 : decode b_q_join 130 = .ok (.laload, 1) := by decide +kernel
theorem d_q_join_131 : decode b_q_join 131 = .ok (.lsub, 1) := by decide +kernel
theorem d_q_join_132 : decode b_q_join 132 = .ok (.invokestatic 403, 3) := by decide +kernel
theorem d_q_join_135 : decode b_q_join 135 = .ok (.aload_n 0, 1) := by decide +kernel
theorem d_q_join_136 : decode b_q_join 136 = .ok (.getfield 127, 3) := by decide +kernel
theorem d_q_join_139 : decode b_q_join 139 = .ok (.iload_n 2, 1) := by decide +kernel
theorem d_q_join_140 : decode b_q_join 140 = .ok (.laload, 1) := by decide +kernel
theorem d_q_join_141 : decode b_q_join 141 = .ok (.invokevirtual 406, 3) := by decide +kernel
theorem d_q_join_144 : decode b_q_join 144 = .ok (.return_, 1) := by decide +kernel
theorem kb_q_join {a0 : Nat} {a1 : Int32} {a2 : Int32} {a3 : Int32} {w : WW} {r : WW} (h : f_q_join a0 a1 a2 a3 w = some r) : kb w a0 9 = true := (its h).1
set_option maxHeartbeats 4000000 in
set_option maxRecDepth 100000 in
theorem j_q_join_144 {p : Program} {l : Launch} {e : Env} {s : State} {m : MethodId} {args : Array Value} {below : List Frame} {meth : Method} {c : Code} {D : va_G} {cA : Nat → ClassId} {base : Nat} {w' : WW} (C : cx b_q_join (none) 4 y_q_join.cls "join" p s m args meth c D cA base)   : ∀  (w : WW), f_q_join_144  w = some w' → ∀ (H : Heap) (locs : List Loc) (ls : Array Slot), wo_S D cls cA base s w H locs → lv_has ls 4 [] → W p l e rm_q_join s m args below meth c H locs 0 0 (MQ below (wo_Q D cls cA base none w') args s rm_q_join.cells rm_q_join.slots (wo_B base)) (F0 m 144 ls []) := by
  obtain ⟨hx, hb, hr, hml, hown, hts, hlk, hnm, hK, hG⟩ := id C
  intro  w h H locs ls hW hl
  unfold f_q_join_144 at h
  cases h
  exact wo_vret hx hb hr hlk hW d_q_join_144
set_option maxHeartbeats 4000000 in
set_option maxRecDepth 100000 in
theorem j_q_join_104 {p : Program} {l : Launch} {e : Env} {s : State} {m : MethodId} {args : Array Value} {below : List Frame} {meth : Method} {c : Code} {D : va_G} {cA : Nat → ClassId} {base : Nat} {w' : WW} (C : cx b_q_join (none) 4 y_q_join.cls "join" p s m args meth c D cA base)   : ∀ (y0 : Nat) (y2 : Int32) (y3 : Int32) (z0 : Nat) (z1 : Int32) (z2 : Int64) (z3 : Int64) (w : WW), f_q_join_104 y0 y2 y3 z0 z1 z2 z3 w = some w' → ∀ (H : Heap) (locs : List Loc) (ls : Array Slot), wo_S D cls cA base s w H locs → lv_has ls 4 [(0, .ref (base + y0)), (2, .int y2), (3, .int y3)] → W p l e rm_q_join s m args below meth c H locs 0 0 (MQ below (wo_Q D cls cA base none w') args s rm_q_join.cells rm_q_join.slots (wo_B base)) (F0 m 104 ls [.long z3, .long z2, .int z1, .ref (base + z0)]) := by
  obtain ⟨hx, hb, hr, hml, hown, hts, hlk, hnm, hK, hG⟩ := id C
  intro y0 y2 y3 z0 z1 z2 z3 w h H locs ls hW hl
  unfold f_q_join_104 at h
  refine lv_aload_n hx hb d_q_join_104 rfl (lv_at hl 0 rfl) ?_
  replace h := bs h
  obtain ⟨x21, hx21, h⟩ := h
  refine gf_q_124 hx hb hts hown hK hG hW (gN_s hx21) d_q_join_105 ?_
  refine lv_iload_n hx hb d_q_join_108 rfl (lv_at hl 1 rfl) ?_
  replace h := bs h
  obtain ⟨x22, hx22, h⟩ := h
  refine wo_lald hx hb hK hW (t := 1) rfl hx22 d_q_join_109 ?_
  refine lv_aload_n hx hb d_q_join_110 rfl (lv_at hl 0 rfl) ?_
  replace h := bs h
  obtain ⟨x23, hx23, h⟩ := h
  refine gf_q_124 hx hb hts hown hK hG hW (gN_s hx23) d_q_join_111 ?_
  refine lv_iload_n hx hb d_q_join_114 rfl (lv_at hl 2 rfl) ?_
  replace h := bs h
  obtain ⟨x24, hx24, h⟩ := h
  refine wo_lald hx hb hK hW (t := 1) rfl hx24 d_q_join_115 ?_
  replace h := bs2 h
  obtain ⟨x26, w25, hw25, h⟩ := h
  refine cs_q_403 (As := [.long x22, .long x24]) (rest := [.long z3, .long z2, .int z1, .ref (base + z0)]) hx hb hml hown hts hK hG hW (c_q_gcd l D cA base hw25) ⟨Nat.le_of_ble_eq_true rfl, Nat.le_of_ble_eq_true rfl⟩ ⟨Nat.le_of_ble_eq_true rfl, Nat.le_of_ble_eq_true rfl⟩ rfl hl.1 rfl (Nat.le_of_ble_eq_true rfl) d_q_join_116 (fun H locs hW => ?_)
  refine lv_aload_n hx hb d_q_join_119 rfl (lv_at hl 0 rfl) ?_
  replace h := bs h
  obtain ⟨x27, hx27, h⟩ := h
  refine gf_q_127 hx hb hts hown hK hG hW (gN_s hx27) d_q_join_120 ?_
  refine lv_iload_n hx hb d_q_join_123 rfl (lv_at hl 1 rfl) ?_
  replace h := bs h
  obtain ⟨x28, hx28, h⟩ := h
  refine wo_lald hx hb hK hW (t := 1) rfl hx28 d_q_join_124 ?_
  refine lv_aload_n hx hb d_q_join_125 rfl (lv_at hl 0 rfl) ?_
  replace h := bs h
  obtain ⟨x29, hx29, h⟩ := h
  refine gf_q_127 hx hb hts hown hK hG hW (gN_s hx29) d_q_join_126 ?_
  refine lv_iload_n hx hb d_q_join_129 rfl (lv_at hl 2 rfl) ?_
  replace h := bs h
  obtain ⟨x30, hx30, h⟩ := h
  refine wo_lald hx hb hK hW (t := 1) rfl hx30 d_q_join_130 ?_
  refine lv_lsub hx hb d_q_join_131 ?_
  replace h := bs2 h
  obtain ⟨x32, w31, hw31, h⟩ := h
  refine cs_q_403 (As := [.long x26, .long (x28 - x30)]) (rest := [.long z3, .long z2, .int z1, .ref (base + z0)]) hx hb hml hown hts hK hG hW (c_q_gcd l D cA base hw31) ⟨Nat.le_of_ble_eq_true rfl, Nat.le_of_ble_eq_true rfl⟩ ⟨Nat.le_of_ble_eq_true rfl, Nat.le_of_ble_eq_true rfl⟩ rfl hl.1 rfl (Nat.le_of_ble_eq_true rfl) d_q_join_132 (fun H locs hW => ?_)
  refine lv_aload_n hx hb d_q_join_135 rfl (lv_at hl 0 rfl) ?_
  replace h := bs h
  obtain ⟨x33, hx33, h⟩ := h
  refine gf_q_127 hx hb hts hown hK hG hW (gN_s hx33) d_q_join_136 ?_
  refine lv_iload_n hx hb d_q_join_139 rfl (lv_at hl 1 rfl) ?_
  replace h := bs h
  obtain ⟨x34, hx34, h⟩ := h
  refine wo_lald hx hb hK hW (t := 1) rfl hx34 d_q_join_140 ?_
  replace h := bs h
  obtain ⟨w35, hw35, h⟩ := h
  refine cv_q_406 (As := [.int z1, .long z2, .long z3, .long x32, .long x34]) (rest := []) hx hb hml hown hts hK hG hW (c_q_put l D cA base hw35) (kb_q_put hw35) ⟨Nat.le_of_ble_eq_true rfl, Nat.le_of_ble_eq_true rfl⟩ ⟨Nat.le_of_ble_eq_true rfl, Nat.le_of_ble_eq_true rfl⟩ rfl hl.1 rfl (Nat.le_of_ble_eq_true rfl) d_q_join_141 (fun H locs hW => ?_)
  exact j_q_join_144 C w35 h _ _ _ hW (lv_sub hl [] rfl)
set_option maxHeartbeats 4000000 in
set_option maxRecDepth 100000 in
theorem j_q_join_73 {p : Program} {l : Launch} {e : Env} {s : State} {m : MethodId} {args : Array Value} {below : List Frame} {meth : Method} {c : Code} {D : va_G} {cA : Nat → ClassId} {base : Nat} {w' : WW} (C : cx b_q_join (none) 4 y_q_join.cls "join" p s m args meth c D cA base)   : ∀ (y0 : Nat) (y2 : Int32) (y3 : Int32) (z0 : Nat) (z1 : Int32) (z2 : Int64) (w : WW), f_q_join_73 y0 y2 y3 z0 z1 z2 w = some w' → ∀ (H : Heap) (locs : List Loc) (ls : Array Slot), wo_S D cls cA base s w H locs → lv_has ls 4 [(0, .ref (base + y0)), (2, .int y2), (3, .int y3)] → W p l e rm_q_join s m args below meth c H locs 0 0 (MQ below (wo_Q D cls cA base none w') args s rm_q_join.cells rm_q_join.slots (wo_B base)) (F0 m 73 ls [.long z2, .int z1, .ref (base + z0)]) := by
  obtain ⟨hx, hb, hr, hml, hown, hts, hlk, hnm, hK, hG⟩ := id C
  intro y0 y2 y3 z0 z1 z2 w h H locs ls hW hl
  unfold f_q_join_73 at h
  refine lv_aload_n hx hb d_q_join_73 rfl (lv_at hl 0 rfl) ?_
  replace h := bs h
  obtain ⟨x14, hx14, h⟩ := h
  refine gf_q_121 hx hb hts hown hK hG hW (gN_s hx14) d_q_join_74 ?_
  refine lv_iload_n hx hb d_q_join_77 rfl (lv_at hl 1 rfl) ?_
  replace h := bs h
  obtain ⟨x15, hx15, h⟩ := h
  refine wo_lald hx hb hK hW (t := 1) rfl hx15 d_q_join_78 ?_
  refine lv_aload_n hx hb d_q_join_79 rfl (lv_at hl 0 rfl) ?_
  replace h := bs h
  obtain ⟨x16, hx16, h⟩ := h
  refine gf_q_121 hx hb hts hown hK hG hW (gN_s hx16) d_q_join_80 ?_
  refine lv_iload_n hx hb d_q_join_83 rfl (lv_at hl 2 rfl) ?_
  replace h := bs h
  obtain ⟨x17, hx17, h⟩ := h
  refine wo_lald hx hb hK hW (t := 1) rfl hx17 d_q_join_84 ?_
  refine lc_le (tgt := 98) hx hb d_q_join_85 d_q_join_86 (by decide) (fun c18 => ?_) (fun c18 => ?_)
  · rw [if_pos c18] at h
    refine lv_aload_n hx hb d_q_join_98 rfl (lv_at hl 0 rfl) ?_
    replace h := bs h
    obtain ⟨x19, hx19, h⟩ := h
    refine gf_q_121 hx hb hts hown hK hG hW (gN_s hx19) d_q_join_99 ?_
    refine lv_iload_n hx hb d_q_join_102 rfl (lv_at hl 2 rfl) ?_
    replace h := bs h
    obtain ⟨x20, hx20, h⟩ := h
    refine wo_lald hx hb hK hW (t := 1) rfl hx20 d_q_join_103 ?_
    exact j_q_join_104 C y0 y2 y3 z0 z1 z2 x20 w h _ _ _ hW (lv_sub hl [0, 1, 2] rfl)
  · rw [if_neg c18] at h
    refine lv_aload_n hx hb d_q_join_89 rfl (lv_at hl 0 rfl) ?_
    replace h := bs h
    obtain ⟨x36, hx36, h⟩ := h
    refine gf_q_121 hx hb hts hown hK hG hW (gN_s hx36) d_q_join_90 ?_
    refine lv_iload_n hx hb d_q_join_93 rfl (lv_at hl 1 rfl) ?_
    replace h := bs h
    obtain ⟨x37, hx37, h⟩ := h
    refine wo_lald hx hb hK hW (t := 1) rfl hx37 d_q_join_94 ?_
    refine lv_goto (tgt := 104) hx hb d_q_join_95 (by decide) ?_
    exact j_q_join_104 C y0 y2 y3 z0 z1 z2 x37 w h _ _ _ hW (lv_sub hl [0, 1, 2] rfl)
set_option maxHeartbeats 4000000 in
set_option maxRecDepth 100000 in
theorem c_q_join (l : Launch) (D : va_G) (cA : Nat → ClassId) (base : Nat) {a0 : Nat} {a1 : Int32} {a2 : Int32} {a3 : Int32} {w w' : WW} (h : f_q_join a0 a1 a2 a3 w = some w') : mt l D cls (wo_tys cA) cA base y_q_join (Cond.code y_q_join b_q_join 4 (none) :: gt) rm_q_join [.ref (base + a0), .int a1, .int a2, .int a3] w none w' rm_q_join.cells rm_q_join.slots := by
  refine mt_start (by decide) (Nat.le_of_ble_eq_true rfl) ?_
  intro p e s m below meth c ls hx hb hr hml hown hts hlk hnm hK hG hW hl
  have C : cx b_q_join (none) 4 y_q_join.cls "join" p s m [.ref (base + a0), .int a1, .int a2, .int a3].toArray meth c D cA base := ⟨hx, hb, hr, hml, hown, hts, hlk, hnm, hK, hG⟩
  have hl : lv_has ls 4 [(0, .ref (base + a0)), (1, .int a1), (2, .int a2), (3, .int a3)] := hl
  unfold f_q_join at h
  replace h := its h
  obtain ⟨-, h⟩ := h
  refine lv_aload_n hx hb d_q_join_0 rfl (lv_at hl 0 rfl) ?_
  replace h := bs h
  obtain ⟨x1, hx1, h⟩ := h
  refine gf_q_124 hx hb hts hown hK hG hW (gN_s hx1) d_q_join_1 ?_
  refine lv_iload_n hx hb d_q_join_4 rfl (lv_at hl 2 rfl) ?_
  replace h := bs h
  obtain ⟨x2, hx2, h⟩ := h
  refine wo_lald hx hb hK hW (t := 1) rfl hx2 d_q_join_5 ?_
  refine lv_lconst (v := (0 : Int64)) hx hb d_q_join_6 (by decide) ?_
  refine lc_ge (tgt := 20) hx hb d_q_join_7 d_q_join_8 (by decide) (fun c3 => ?_) (fun c3 => ?_)
  · rw [if_pos c3] at h
    refine lv_aload_n hx hb d_q_join_20 rfl (lv_at hl 0 rfl) ?_
    replace h := bs h
    obtain ⟨x4, hx4, h⟩ := h
    refine gf_q_124 hx hb hts hown hK hG hW (gN_s hx4) d_q_join_21 ?_
    refine lv_iload_n hx hb d_q_join_24 rfl (lv_at hl 3 rfl) ?_
    replace h := bs h
    obtain ⟨x5, hx5, h⟩ := h
    refine wo_lald hx hb hK hW (t := 1) rfl hx5 d_q_join_25 ?_
    refine lv_lconst (v := (0 : Int64)) hx hb d_q_join_26 (by decide) ?_
    refine lc_ge (tgt := 40) hx hb d_q_join_27 d_q_join_28 (by decide) (fun c6 => ?_) (fun c6 => ?_)
    · rw [if_pos c6] at h
      refine lv_aload_n hx hb d_q_join_40 rfl (lv_at hl 0 rfl) ?_
      refine lv_iload_n hx hb d_q_join_41 rfl (lv_at hl 1 rfl) ?_
      refine lv_aload_n hx hb d_q_join_42 rfl (lv_at hl 0 rfl) ?_
      replace h := bs h
      obtain ⟨x7, hx7, h⟩ := h
      refine gf_q_117 hx hb hts hown hK hG hW (gN_s hx7) d_q_join_43 ?_
      refine lv_iload_n hx hb d_q_join_46 rfl (lv_at hl 2 rfl) ?_
      replace h := bs h
      obtain ⟨x8, hx8, h⟩ := h
      refine wo_lald hx hb hK hW (t := 1) rfl hx8 d_q_join_47 ?_
      refine lv_aload_n hx hb d_q_join_48 rfl (lv_at hl 0 rfl) ?_
      replace h := bs h
      obtain ⟨x9, hx9, h⟩ := h
      refine gf_q_117 hx hb hts hown hK hG hW (gN_s hx9) d_q_join_49 ?_
      refine lv_iload_n hx hb d_q_join_52 rfl (lv_at hl 3 rfl) ?_
      replace h := bs h
      obtain ⟨x10, hx10, h⟩ := h
      refine wo_lald hx hb hK hW (t := 1) rfl hx10 d_q_join_53 ?_
      refine lc_ge (tgt := 67) hx hb d_q_join_54 d_q_join_55 (by decide) (fun c11 => ?_) (fun c11 => ?_)
      · rw [if_pos c11] at h
        refine lv_aload_n hx hb d_q_join_67 rfl (lv_at hl 0 rfl) ?_
        replace h := bs h
        obtain ⟨x12, hx12, h⟩ := h
        refine gf_q_117 hx hb hts hown hK hG hW (gN_s hx12) d_q_join_68 ?_
        refine lv_iload_n hx hb d_q_join_71 rfl (lv_at hl 3 rfl) ?_
        replace h := bs h
        obtain ⟨x13, hx13, h⟩ := h
        refine wo_lald hx hb hK hW (t := 1) rfl hx13 d_q_join_72 ?_
        exact j_q_join_73 C a0 a2 a3 a0 a1 x13 w h _ _ _ hW (lv_sub hl [0, 2, 3] rfl)
      · rw [if_neg c11] at h
        refine lv_aload_n hx hb d_q_join_58 rfl (lv_at hl 0 rfl) ?_
        replace h := bs h
        obtain ⟨x38, hx38, h⟩ := h
        refine gf_q_117 hx hb hts hown hK hG hW (gN_s hx38) d_q_join_59 ?_
        refine lv_iload_n hx hb d_q_join_62 rfl (lv_at hl 2 rfl) ?_
        replace h := bs h
        obtain ⟨x39, hx39, h⟩ := h
        refine wo_lald hx hb hK hW (t := 1) rfl hx39 d_q_join_63 ?_
        refine lv_goto (tgt := 73) hx hb d_q_join_64 (by decide) ?_
        exact j_q_join_73 C a0 a2 a3 a0 a1 x39 w h _ _ _ hW (lv_sub hl [0, 2, 3] rfl)
    · rw [if_neg c6] at h
      refine lv_aload_n hx hb d_q_join_31 rfl (lv_at hl 0 rfl) ?_
      refine lv_iload_n hx hb d_q_join_32 rfl (lv_at hl 1 rfl) ?_
      refine lv_iload_n hx hb d_q_join_33 rfl (lv_at hl 2 rfl) ?_
      replace h := bs h
      obtain ⟨w40, hw40, h⟩ := h
      refine cv_q_400 (As := [.int a1, .int a2]) (rest := []) hx hb hml hown hts hK hG hW (c_q_copy l D cA base hw40) (kb_q_copy hw40) ⟨Nat.le_of_ble_eq_true rfl, Nat.le_of_ble_eq_true rfl⟩ ⟨Nat.le_of_ble_eq_true rfl, Nat.le_of_ble_eq_true rfl⟩ rfl hl.1 rfl (Nat.le_of_ble_eq_true rfl) d_q_join_34 (fun H locs hW => ?_)
      refine lv_goto (tgt := 144) hx hb d_q_join_37 (by decide) ?_
      exact j_q_join_144 C w40 h _ _ _ hW (lv_sub hl [] rfl)
  · rw [if_neg c3] at h
    refine lv_aload_n hx hb d_q_join_11 rfl (lv_at hl 0 rfl) ?_
    refine lv_iload_n hx hb d_q_join_12 rfl (lv_at hl 1 rfl) ?_
    refine lv_iload_n hx hb d_q_join_13 rfl (lv_at hl 3 rfl) ?_
    replace h := bs h
    obtain ⟨w41, hw41, h⟩ := h
    refine cv_q_400 (As := [.int a1, .int a3]) (rest := []) hx hb hml hown hts hK hG hW (c_q_copy l D cA base hw41) (kb_q_copy hw41) ⟨Nat.le_of_ble_eq_true rfl, Nat.le_of_ble_eq_true rfl⟩ ⟨Nat.le_of_ble_eq_true rfl, Nat.le_of_ble_eq_true rfl⟩ rfl hl.1 rfl (Nat.le_of_ble_eq_true rfl) d_q_join_14 (fun H locs hW => ?_)
    refine lv_goto (tgt := 144) hx hb d_q_join_17 (by decide) ?_
    exact j_q_join_144 C w41 h _ _ _ hW (lv_sub hl [] rfl)
theorem cv_q_409 {p : Program} {l : Launch} {e : Env} {R : Room} {s : State} {m : MethodId} {args : Array Value} {below : List Frame} {meth : Method} {c : Code} {H : Heap} {locs : List Loc} {cells slots : Nat} {Q : State → Prop} {D : va_G} {cA : Nat → ClassId} {base : Nat} {w w' : WW} {cc : ByteArray} {pc nL : Nat} {ls : Array Slot} {rest st0 As : List Value} {ov : Option Value} {b : Nat} (hx : p.tables.exec = Jvm.exec) (hb : c.code = cc) (hml : c.maxLocals = nL) (hown : s.vm.findClass Rc_q = some m.cls) (hts : ∀ w ∈ gt, w.before args s = true) (hK : va_K D cls (wo_tys cA) s) (hG : wo_G cA base s) (hW : wo_S D cls cA base s w H locs) (hM : mt l D cls (wo_tys cA) cA base y_q_isOf (Cond.code y_q_isOf b_q_isOf 4 (some .boolean) :: gt) rm_q_isOf (.ref (base + b) :: As) w ov w' rm_q_isOf.cells rm_q_isOf.slots) (hkb : kb w b 9 = true) (hR : rm_q_isOf.frames + 1 ≤ R.frames ∧ 8 + (4 + 11) + rm_q_isOf.locals ≤ R.locals) (hf : cells + rm_q_isOf.cells ≤ R.cells ∧ slots + rm_q_isOf.slots ≤ R.slots) (hn : As.length = 2) (hsz : ls.size = nL) (hst : st0 = As.reverse ++ .ref (base + b) :: rest) (hcat : (rest.map fun v => v.category).sum ≤ 8) (hdg : decode cc pc = .ok (.invokevirtual 409, 3)) (kk : ∀ (H1 : Heap) (locs1 : List Loc), wo_S D cls cA base s w' H1 locs1 → W p l e R s m args below meth c H1 locs1 (cells + rm_q_isOf.cells) (slots + rm_q_isOf.slots) Q (F0 m (pc + 3) ls (ov.toList ++ rest))) : W p l e R s m args below meth c H locs cells slots Q (F0 m pc ls st0) :=
  wo_callV (C := Rc_q) hx hb hml hown hts hK hG hW hM hkb rfl (gt_of (i := 1618) (by decide +kernel) (by decide +kernel)) (gt_of (i := 1620) (by decide +kernel) (by decide +kernel)) (gt_sel (i := 97) (by decide +kernel) (by decide +kernel)) (gt_of (i := 10) (by decide +kernel) (by decide +kernel)) (gt_of (i := 1621) (by decide +kernel) (by decide +kernel)) (by decide +kernel) hR hf hn hsz hst hcat hdg kk
theorem cv_q_419 {p : Program} {l : Launch} {e : Env} {R : Room} {s : State} {m : MethodId} {args : Array Value} {below : List Frame} {meth : Method} {c : Code} {H : Heap} {locs : List Loc} {cells slots : Nat} {Q : State → Prop} {D : va_G} {cA : Nat → ClassId} {base : Nat} {w w' : WW} {cc : ByteArray} {pc nL : Nat} {ls : Array Slot} {rest st0 As : List Value} {ov : Option Value} {b : Nat} (hx : p.tables.exec = Jvm.exec) (hb : c.code = cc) (hml : c.maxLocals = nL) (hown : s.vm.findClass Rc_q = some m.cls) (hts : ∀ w ∈ gt, w.before args s = true) (hK : va_K D cls (wo_tys cA) s) (hG : wo_G cA base s) (hW : wo_S D cls cA base s w H locs) (hM : mt l D cls (wo_tys cA) cA base y_q_join (Cond.code y_q_join b_q_join 4 (none) :: gt) rm_q_join (.ref (base + b) :: As) w ov w' rm_q_join.cells rm_q_join.slots) (hkb : kb w b 9 = true) (hR : rm_q_join.frames + 1 ≤ R.frames ∧ 8 + (4 + 11) + rm_q_join.locals ≤ R.locals) (hf : cells + rm_q_join.cells ≤ R.cells ∧ slots + rm_q_join.slots ≤ R.slots) (hn : As.length = 3) (hsz : ls.size = nL) (hst : st0 = As.reverse ++ .ref (base + b) :: rest) (hcat : (rest.map fun v => v.category).sum ≤ 8) (hdg : decode cc pc = .ok (.invokevirtual 419, 3)) (kk : ∀ (H1 : Heap) (locs1 : List Loc), wo_S D cls cA base s w' H1 locs1 → W p l e R s m args below meth c H1 locs1 (cells + rm_q_join.cells) (slots + rm_q_join.slots) Q (F0 m (pc + 3) ls (ov.toList ++ rest))) : W p l e R s m args below meth c H locs cells slots Q (F0 m pc ls st0) :=
  wo_callV (C := Rc_q) hx hb hml hown hts hK hG hW hM hkb rfl (gt_of (i := 1625) (by decide +kernel) (by decide +kernel)) (gt_of (i := 1627) (by decide +kernel) (by decide +kernel)) (gt_sel (i := 98) (by decide +kernel) (by decide +kernel)) (gt_of (i := 10) (by decide +kernel) (by decide +kernel)) (gt_of (i := 1628) (by decide +kernel) (by decide +kernel)) (by decide +kernel) hR hf hn hsz hst hcat hdg kk
abbrev b_q_readCells : ByteArray := prog_11_method_72_code
def y_q_readCells : MethodName := ⟨"AlarmForgeModel", "readCells", "(III)V"⟩
def rm_q_readCells : Room := { frames := 3, cells := 0, slots := 0, locals := 89 }
theorem d_q_readCells_0 : decode b_q_readCells 0 = .ok (.sipush (359), 3) := by decide +kernel
theorem d_q_readCells_3 : decode b_q_readCells 3 = .ok (.istore 4, 2) := by decide +kernel
theorem d_q_readCells_5 : decode b_q_readCells 5 = .ok (.aload_n 0, 1) := by decide +kernel
theorem d_q_readCells_6 : decode b_q_readCells 6 = .ok (.iload 4, 2) := by decide +kernel
theorem d_q_readCells_8 : decode b_q_readCells 8 = .ok (.invokevirtual 393, 3) := by decide +kernel
theorem d_q_readCells_11 : decode b_q_readCells 11 = .ok (.iconst 0, 1) := by decide +kernel
theorem d_q_readCells_12 : decode b_q_readCells 12 = .ok (.istore 5, 2) := by decide +kernel
theorem d_q_readCells_14 : decode b_q_readCells 14 = .ok (.iload 5, 2) := by decide +kernel
theorem d_q_readCells_16 : decode b_q_readCells 16 = .ok (.iconst 4, 1) := by decide +kernel
theorem d_q_readCells_17 : decode b_q_readCells 17 = .ok (.if_icmp .ge (41), 3) := by decide +kernel
theorem d_q_readCells_20 : decode b_q_readCells 20 = .ok (.aload_n 0, 1) := by decide +kernel
theorem d_q_readCells_21 : decode b_q_readCells 21 = .ok (.iload 5, 2) := by decide +kernel
theorem d_q_readCells_23 : decode b_q_readCells 23 = .ok (.i2l, 1) := by decide +kernel
theorem d_q_readCells_24 : decode b_q_readCells 24 = .ok (.iload_n 3, 1) := by decide +kernel
theorem d_q_readCells_25 : decode b_q_readCells 25 = .ok (.invokevirtual 409, 3) := by decide +kernel
theorem d_q_readCells_28 : decode b_q_readCells 28 = .ok (.istore 6, 2) := by decide +kernel
theorem d_q_readCells_30 : decode b_q_readCells 30 = .ok (.iload 6, 2) := by decide +kernel
theorem d_q_readCells_32 : decode b_q_readCells 32 = .ok (.ifCond .eq (20), 3) := by decide +kernel
theorem d_q_readCells_35 : decode b_q_readCells 35 = .ok (.aload_n 0, 1) := by decide +kernel
theorem d_q_readCells_36 : decode b_q_readCells 36 = .ok (.iload 4, 2) := by decide +kernel
theorem d_q_readCells_38 : decode b_q_readCells 38 = .ok (.iload 4, 2) := by decide +kernel
theorem d_q_readCells_40 : decode b_q_readCells 40 = .ok (.bipush (6), 2) := by decide +kernel
theorem d_q_readCells_42 : decode b_q_readCells 42 = .ok (.iconst 4, 1) := by decide +kernel
theorem d_q_readCells_43 : decode b_q_readCells 43 = .ok (.iload_n 2, 1) := by decide +kernel
theorem d_q_readCells_44 : decode b_q_readCells 44 = .ok (.imul, 1) := by decide +kernel
theorem d_q_readCells_45 : decode b_q_readCells 45 = .ok (.iadd, 1) := by decide +kernel
theorem d_q_readCells_46 : decode b_q_readCells 46 = .ok (.iload 5, 2) := by decide +kernel
theorem d_q_readCells_48 : decode b_q_readCells 48 = .ok (.iadd, 1) := by decide +kernel
theorem d_q_readCells_49 : decode b_q_readCells 49 = .ok (.invokevirtual 419, 3) := by decide +kernel
theorem d_q_readCells_52 : decode b_q_readCells 52 = .ok (.iinc 5 (1), 3) := by decide +kernel
theorem d_q_readCells_55 : decode b_q_readCells 55 = .ok (.goto (-41), 3) := by decide +kernel
theorem d_q_readCells_58 : decode b_q_readCells 58 = .ok (.aload_n 0, 1) := by decide +kernel
theorem d_q_readCells_59 : decode b_q_readCells 59 = .ok (.iload_n 1, 1) := by decide +kernel
theorem d_q_readCells_60 : decode b_q_readCells 60 = .ok (.iload 4, 2) := by decide +kernel
theorem d_q_readCells_62 : decode b_q_readCells 62 = .ok (.invokevirtual 400, 3) := by decide +kernel
theorem d_q_readCells_65 : decode b_q_readCells 65 = .ok (.return_, 1) := by decide +kernel
theorem kb_q_readCells {a0 : Nat} {a1 : Int32} {a2 : Int32} {a3 : Int32} {w : WW} {r : WW} (h : f_q_readCells a0 a1 a2 a3 w = some r) : kb w a0 9 = true := (its h).1
set_option maxHeartbeats 4000000 in
set_option maxRecDepth 100000 in
theorem j_q_readCells_52 {p : Program} {l : Launch} {e : Env} {s : State} {m : MethodId} {args : Array Value} {below : List Frame} {meth : Method} {c : Code} {D : va_G} {cA : Nat → ClassId} {base : Nat} {w' : WW} (C : cx b_q_readCells (none) 7 y_q_readCells.cls "readCells" p s m args meth c D cA base) {k_14 : Nat → Int32 → Int32 → Int32 → Int32 → Int32 → WW → Option WW} (hk_14 : ∀ (y0 : Nat) (y1 : Int32) (y2 : Int32) (y3 : Int32) (y4 : Int32) (y5 : Int32) (w : WW), k_14 y0 y1 y2 y3 y4 y5 w = some w' → ∀ (H : Heap) (locs : List Loc) (ls : Array Slot), wo_S D cls cA base s w H locs → lv_has ls 7 [(0, .ref (base + y0)), (1, .int y1), (2, .int y2), (3, .int y3), (4, .int y4), (5, .int y5)] → W p l e rm_q_readCells s m args below meth c H locs 0 0 (MQ below (wo_Q D cls cA base none w') args s rm_q_readCells.cells rm_q_readCells.slots (wo_B base)) (F0 m 14 ls [])) : ∀ (y0 : Nat) (y1 : Int32) (y2 : Int32) (y3 : Int32) (y4 : Int32) (y5 : Int32) (w : WW), f_q_readCells_52 k_14 y0 y1 y2 y3 y4 y5 w = some w' → ∀ (H : Heap) (locs : List Loc) (ls : Array Slot), wo_S D cls cA base s w H locs → lv_has ls 7 [(0, .ref (base + y0)), (1, .int y1), (2, .int y2), (3, .int y3), (4, .int y4), (5, .int y5)] → W p l e rm_q_readCells s m args below meth c H locs 0 0 (MQ below (wo_Q D cls cA base none w') args s rm_q_readCells.cells rm_q_readCells.slots (wo_B base)) (F0 m 52 ls []) := by
  obtain ⟨hx, hb, hr, hml, hown, hts, hlk, hnm, hK, hG⟩ := id C
  intro y0 y1 y2 y3 y4 y5 w h H locs ls hW hl
  unfold f_q_readCells_52 at h
  refine lv_iinc (v := (y5 + (1 : Int32))) (lv' := [(5, .int (y5 + (1 : Int32))), (0, .ref (base + y0)), (1, .int y1), (2, .int y2), (3, .int y3), (4, .int y4)]) hx hb d_q_readCells_52 hl (k := 5) rfl rfl (by decide) rfl (fun ls hl => ?_)
  refine lv_goto (tgt := 14) hx hb d_q_readCells_55 (by decide) ?_
  exact hk_14 y0 y1 y2 y3 y4 (y5 + (1 : Int32)) w h _ _ _ hW (lv_sub hl [1, 2, 3, 4, 5, 0] rfl)
set_option maxHeartbeats 4000000 in
set_option maxRecDepth 100000 in
theorem j_q_readCells_14 {p : Program} {l : Launch} {e : Env} {s : State} {m : MethodId} {args : Array Value} {below : List Frame} {meth : Method} {c : Code} {D : va_G} {cA : Nat → ClassId} {base : Nat} {w' : WW} (C : cx b_q_readCells (none) 7 y_q_readCells.cls "readCells" p s m args meth c D cA base)   : ∀ n : Nat, ∀ (y0 : Nat) (y1 : Int32) (y2 : Int32) (y3 : Int32) (y4 : Int32) (y5 : Int32) (w : WW), f_q_readCells_14 n y0 y1 y2 y3 y4 y5 w = some w' → ∀ (H : Heap) (locs : List Loc) (ls : Array Slot), wo_S D cls cA base s w H locs → lv_has ls 7 [(0, .ref (base + y0)), (1, .int y1), (2, .int y2), (3, .int y3), (4, .int y4), (5, .int y5)] → W p l e rm_q_readCells s m args below meth c H locs 0 0 (MQ below (wo_Q D cls cA base none w') args s rm_q_readCells.cells rm_q_readCells.slots (wo_B base)) (F0 m 14 ls []) := by
  obtain ⟨hx, hb, hr, hml, hown, hts, hlk, hnm, hK, hG⟩ := id C
  intro n
  induction n with
  | zero => intro y0 y1 y2 y3 y4 y5 w h; cases h
  | succ n ih =>
    intro y0 y1 y2 y3 y4 y5 w h H locs ls hW hl
    rw [f_q_readCells_14] at h
    refine lv_iload hx hb d_q_readCells_14 (lv_at hl 5 rfl) ?_
    refine lv_iconst (v := (4 : Int32)) hx hb d_q_readCells_16 (by decide) ?_
    refine lv_icmp_ge (tgt := 58) hx hb d_q_readCells_17 (by decide) (fun c2 => ?_) (fun c2 => ?_)
    · rw [if_pos c2] at h
      refine lv_aload_n hx hb d_q_readCells_58 rfl (lv_at hl 0 rfl) ?_
      refine lv_iload_n hx hb d_q_readCells_59 rfl (lv_at hl 1 rfl) ?_
      refine lv_iload hx hb d_q_readCells_60 (lv_at hl 4 rfl) ?_
      replace h := bs h
      obtain ⟨w3, hw3, h⟩ := h
      refine cv_q_400 (As := [.int y1, .int y4]) (rest := []) hx hb hml hown hts hK hG hW (c_q_copy l D cA base hw3) (kb_q_copy hw3) ⟨Nat.le_of_ble_eq_true rfl, Nat.le_of_ble_eq_true rfl⟩ ⟨Nat.le_of_ble_eq_true rfl, Nat.le_of_ble_eq_true rfl⟩ rfl hl.1 rfl (Nat.le_of_ble_eq_true rfl) d_q_readCells_62 (fun H locs hW => ?_)
      cases h
      exact wo_vret hx hb hr hlk hW d_q_readCells_65
    · rw [if_neg c2] at h
      refine lv_aload_n hx hb d_q_readCells_20 rfl (lv_at hl 0 rfl) ?_
      refine lv_iload hx hb d_q_readCells_21 (lv_at hl 5 rfl) ?_
      refine lv_i2l hx hb d_q_readCells_23 rfl ?_
      refine lv_iload_n hx hb d_q_readCells_24 rfl (lv_at hl 3 rfl) ?_
      replace h := bs2 h
      obtain ⟨x5, w4, hw4, h⟩ := h
      refine cv_q_409 (As := [.long (Int32.toInt64 y5), .int y3]) (rest := []) hx hb hml hown hts hK hG hW (c_q_isOf l D cA base hw4) (kb_q_isOf hw4) ⟨Nat.le_of_ble_eq_true rfl, Nat.le_of_ble_eq_true rfl⟩ ⟨Nat.le_of_ble_eq_true rfl, Nat.le_of_ble_eq_true rfl⟩ rfl hl.1 rfl (Nat.le_of_ble_eq_true rfl) d_q_readCells_25 (fun H locs hW => ?_)
      refine lv_istore (lv' := [(6, .int x5), (0, .ref (base + y0)), (1, .int y1), (2, .int y2), (3, .int y3), (4, .int y4), (5, .int y5)]) hx hb d_q_readCells_28 hl (by decide) rfl (fun ls hl => ?_)
      refine lv_iload hx hb d_q_readCells_30 (lv_at hl 0 rfl) ?_
      refine lv_if_eq (tgt := 52) hx hb d_q_readCells_32 (by decide) (fun c6 => ?_) (fun c6 => ?_)
      · rw [if_pos c6] at h
        exact j_q_readCells_52 C ih y0 y1 y2 y3 y4 y5 w4 h _ _ _ hW (lv_sub hl [1, 2, 3, 4, 5, 6] rfl)
      · rw [if_neg c6] at h
        refine lv_aload_n hx hb d_q_readCells_35 rfl (lv_at hl 1 rfl) ?_
        refine lv_iload hx hb d_q_readCells_36 (lv_at hl 5 rfl) ?_
        refine lv_iload hx hb d_q_readCells_38 (lv_at hl 5 rfl) ?_
        refine lv_bipush (v := (6 : Int32)) hx hb d_q_readCells_40 (by decide) ?_
        refine lv_iconst (v := (4 : Int32)) hx hb d_q_readCells_42 (by decide) ?_
        refine lv_iload_n hx hb d_q_readCells_43 rfl (lv_at hl 3 rfl) ?_
        refine lv_imul hx hb d_q_readCells_44 ?_
        refine lv_iadd hx hb d_q_readCells_45 ?_
        refine lv_iload hx hb d_q_readCells_46 (lv_at hl 6 rfl) ?_
        refine lv_iadd hx hb d_q_readCells_48 ?_
        replace h := bs h
        obtain ⟨w7, hw7, h⟩ := h
        refine cv_q_419 (As := [.int y4, .int y4, .int (((6 : Int32) + ((4 : Int32) * y2)) + y5)]) (rest := []) hx hb hml hown hts hK hG hW (c_q_join l D cA base hw7) (kb_q_join hw7) ⟨Nat.le_of_ble_eq_true rfl, Nat.le_of_ble_eq_true rfl⟩ ⟨Nat.le_of_ble_eq_true rfl, Nat.le_of_ble_eq_true rfl⟩ rfl hl.1 rfl (Nat.le_of_ble_eq_true rfl) d_q_readCells_49 (fun H locs hW => ?_)
        exact j_q_readCells_52 C ih y0 y1 y2 y3 y4 y5 w7 h _ _ _ hW (lv_sub hl [1, 2, 3, 4, 5, 6] rfl)
set_option maxHeartbeats 4000000 in
set_option maxRecDepth 100000 in
theorem c_q_readCells (l : Launch) (D : va_G) (cA : Nat → ClassId) (base : Nat) {a0 : Nat} {a1 : Int32} {a2 : Int32} {a3 : Int32} {w w' : WW} (h : f_q_readCells a0 a1 a2 a3 w = some w') : mt l D cls (wo_tys cA) cA base y_q_readCells (Cond.code y_q_readCells b_q_readCells 7 (none) :: gt) rm_q_readCells [.ref (base + a0), .int a1, .int a2, .int a3] w none w' rm_q_readCells.cells rm_q_readCells.slots := by
  refine mt_start (by decide) (Nat.le_of_ble_eq_true rfl) ?_
  intro p e s m below meth c ls hx hb hr hml hown hts hlk hnm hK hG hW hl
  have C : cx b_q_readCells (none) 7 y_q_readCells.cls "readCells" p s m [.ref (base + a0), .int a1, .int a2, .int a3].toArray meth c D cA base := ⟨hx, hb, hr, hml, hown, hts, hlk, hnm, hK, hG⟩
  have hl : lv_has ls 7 [(0, .ref (base + a0)), (1, .int a1), (2, .int a2), (3, .int a3)] := hl
  unfold f_q_readCells at h
  replace h := its h
  obtain ⟨-, h⟩ := h
  refine lv_sipush (v := (359 : Int32)) hx hb d_q_readCells_0 (by decide) ?_
  refine lv_istore (lv' := [(4, .int (359 : Int32)), (0, .ref (base + a0)), (1, .int a1), (2, .int a2), (3, .int a3)]) hx hb d_q_readCells_3 hl (by decide) rfl (fun ls hl => ?_)
  refine lv_aload_n hx hb d_q_readCells_5 rfl (lv_at hl 1 rfl) ?_
  refine lv_iload hx hb d_q_readCells_6 (lv_at hl 0 rfl) ?_
  replace h := bs h
  obtain ⟨w1, hw1, h⟩ := h
  refine cv_q_393 (As := [.int (359 : Int32)]) (rest := []) hx hb hml hown hts hK hG hW (c_q_none l D cA base hw1) (kb_q_none hw1) ⟨Nat.le_of_ble_eq_true rfl, Nat.le_of_ble_eq_true rfl⟩ ⟨Nat.le_of_ble_eq_true rfl, Nat.le_of_ble_eq_true rfl⟩ rfl hl.1 rfl (Nat.le_of_ble_eq_true rfl) d_q_readCells_8 (fun H locs hW => ?_)
  refine lv_iconst (v := (0 : Int32)) hx hb d_q_readCells_11 (by decide) ?_
  refine lv_istore (lv' := [(5, .int (0 : Int32)), (4, .int (359 : Int32)), (0, .ref (base + a0)), (1, .int a1), (2, .int a2), (3, .int a3)]) hx hb d_q_readCells_12 hl (by decide) rfl (fun ls hl => ?_)
  exact j_q_readCells_14 C KK a0 a1 a2 a3 (359 : Int32) (0 : Int32) w1 h _ _ _ hW (lv_sub hl [2, 3, 4, 5, 1, 0] rfl)
abbrev b_q_min : ByteArray := prog_11_method_63_code
def y_q_min : MethodName := ⟨"AlarmForgeModel", "min", "(JJ)J"⟩
def rm_q_min : Room := { frames := 0, cells := 0, slots := 0, locals := 0 }
theorem d_q_min_0 : decode b_q_min 0 = .ok (.lload_n 0, 1) := by decide +kernel
theorem d_q_min_1 : decode b_q_min 1 = .ok (.lload_n 2, 1) := by decide +kernel
theorem d_q_min_2 : decode b_q_min 2 = .ok (.lcmp, 1) := by decide +kernel
theorem d_q_min_3 : decode b_q_min 3 = .ok (.ifCond .ge (7), 3) := by decide +kernel
theorem d_q_min_6 : decode b_q_min 6 = .ok (.lload_n 0, 1) := by decide +kernel
theorem d_q_min_7 : decode b_q_min 7 = .ok (.goto (4), 3) := by decide +kernel
theorem d_q_min_10 : decode b_q_min 10 = .ok (.lload_n 2, 1) := by decide +kernel
theorem d_q_min_11 : decode b_q_min 11 = .ok (.lreturn, 1) := by decide +kernel
set_option maxHeartbeats 4000000 in
set_option maxRecDepth 100000 in
theorem j_q_min_11 {p : Program} {l : Launch} {e : Env} {s : State} {m : MethodId} {args : Array Value} {below : List Frame} {meth : Method} {c : Code} {D : va_G} {cA : Nat → ClassId} {base : Nat} {r : Int64} {w' : WW} (C : cx b_q_min (some .long) 4 y_q_min.cls "min" p s m args meth c D cA base)   : ∀ (z0 : Int64) (w : WW), f_q_min_11 z0 w = some (r, w') → ∀ (H : Heap) (locs : List Loc) (ls : Array Slot), wo_S D cls cA base s w H locs → lv_has ls 4 [] → W p l e rm_q_min s m args below meth c H locs 0 0 (MQ below (wo_Q D cls cA base (some (.long r)) w') args s rm_q_min.cells rm_q_min.slots (wo_B base)) (F0 m 11 ls [.long z0]) := by
  obtain ⟨hx, hb, hr, hml, hown, hts, hlk, hnm, hK, hG⟩ := id C
  intro z0 w h H locs ls hW hl
  unfold f_q_min_11 at h
  cases h
  exact wo_lret hx hb hr hlk hW d_q_min_11
set_option maxHeartbeats 4000000 in
set_option maxRecDepth 100000 in
theorem c_q_min (l : Launch) (D : va_G) (cA : Nat → ClassId) (base : Nat) {a0 : Int64} {a2 : Int64} {w w' : WW} {r : Int64} (h : f_q_min a0 a2 w = some (r, w')) : mt l D cls (wo_tys cA) cA base y_q_min (Cond.code y_q_min b_q_min 4 (some .long) :: gt) rm_q_min [.long a0, .long a2] w (some (.long r)) w' rm_q_min.cells rm_q_min.slots := by
  refine mt_start (by decide) (Nat.le_of_ble_eq_true rfl) ?_
  intro p e s m below meth c ls hx hb hr hml hown hts hlk hnm hK hG hW hl
  have C : cx b_q_min (some .long) 4 y_q_min.cls "min" p s m [.long a0, .long a2].toArray meth c D cA base := ⟨hx, hb, hr, hml, hown, hts, hlk, hnm, hK, hG⟩
  have hl : lv_has ls 4 [(0, .long a0), (2, .long a2)] := hl
  unfold f_q_min at h
  refine lv_lload_n hx hb d_q_min_0 rfl (lv_at hl 0 rfl) ?_
  refine lv_lload_n hx hb d_q_min_1 rfl (lv_at hl 1 rfl) ?_
  refine lc_ge (tgt := 10) hx hb d_q_min_2 d_q_min_3 (by decide) (fun c1 => ?_) (fun c1 => ?_)
  · rw [if_pos c1] at h
    refine lv_lload_n hx hb d_q_min_10 rfl (lv_at hl 1 rfl) ?_
    exact j_q_min_11 C a2 w h _ _ _ hW (lv_sub hl [] rfl)
  · rw [if_neg c1] at h
    refine lv_lload_n hx hb d_q_min_6 rfl (lv_at hl 0 rfl) ?_
    refine lv_goto (tgt := 11) hx hb d_q_min_7 (by decide) ?_
    exact j_q_min_11 C a0 w h _ _ _ hW (lv_sub hl [] rfl)
abbrev b_q_max : ByteArray := prog_11_method_64_code
def y_q_max : MethodName := ⟨"AlarmForgeModel", "max", "(JJ)J"⟩
def rm_q_max : Room := { frames := 0, cells := 0, slots := 0, locals := 0 }
theorem d_q_max_0 : decode b_q_max 0 = .ok (.lload_n 0, 1) := by decide +kernel
theorem d_q_max_1 : decode b_q_max 1 = .ok (.lload_n 2, 1) := by decide +kernel
theorem d_q_max_2 : decode b_q_max 2 = .ok (.lcmp, 1) := by decide +kernel
theorem d_q_max_3 : decode b_q_max 3 = .ok (.ifCond .le (7), 3) := by decide +kernel
theorem d_q_max_6 : decode b_q_max 6 = .ok (.lload_n 0, 1) := by decide +kernel
theorem d_q_max_7 : decode b_q_max 7 = .ok (.goto (4), 3) := by decide +kernel
theorem d_q_max_10 : decode b_q_max 10 = .ok (.lload_n 2, 1) := by decide +kernel
theorem d_q_max_11 : decode b_q_max 11 = .ok (.lreturn, 1) := by decide +kernel
set_option maxHeartbeats 4000000 in
set_option maxRecDepth 100000 in
theorem j_q_max_11 {p : Program} {l : Launch} {e : Env} {s : State} {m : MethodId} {args : Array Value} {below : List Frame} {meth : Method} {c : Code} {D : va_G} {cA : Nat → ClassId} {base : Nat} {r : Int64} {w' : WW} (C : cx b_q_max (some .long) 4 y_q_max.cls "max" p s m args meth c D cA base)   : ∀ (z0 : Int64) (w : WW), f_q_max_11 z0 w = some (r, w') → ∀ (H : Heap) (locs : List Loc) (ls : Array Slot), wo_S D cls cA base s w H locs → lv_has ls 4 [] → W p l e rm_q_max s m args below meth c H locs 0 0 (MQ below (wo_Q D cls cA base (some (.long r)) w') args s rm_q_max.cells rm_q_max.slots (wo_B base)) (F0 m 11 ls [.long z0]) := by
  obtain ⟨hx, hb, hr, hml, hown, hts, hlk, hnm, hK, hG⟩ := id C
  intro z0 w h H locs ls hW hl
  unfold f_q_max_11 at h
  cases h
  exact wo_lret hx hb hr hlk hW d_q_max_11
set_option maxHeartbeats 4000000 in
set_option maxRecDepth 100000 in
theorem c_q_max (l : Launch) (D : va_G) (cA : Nat → ClassId) (base : Nat) {a0 : Int64} {a2 : Int64} {w w' : WW} {r : Int64} (h : f_q_max a0 a2 w = some (r, w')) : mt l D cls (wo_tys cA) cA base y_q_max (Cond.code y_q_max b_q_max 4 (some .long) :: gt) rm_q_max [.long a0, .long a2] w (some (.long r)) w' rm_q_max.cells rm_q_max.slots := by
  refine mt_start (by decide) (Nat.le_of_ble_eq_true rfl) ?_
  intro p e s m below meth c ls hx hb hr hml hown hts hlk hnm hK hG hW hl
  have C : cx b_q_max (some .long) 4 y_q_max.cls "max" p s m [.long a0, .long a2].toArray meth c D cA base := ⟨hx, hb, hr, hml, hown, hts, hlk, hnm, hK, hG⟩
  have hl : lv_has ls 4 [(0, .long a0), (2, .long a2)] := hl
  unfold f_q_max at h
  refine lv_lload_n hx hb d_q_max_0 rfl (lv_at hl 0 rfl) ?_
  refine lv_lload_n hx hb d_q_max_1 rfl (lv_at hl 1 rfl) ?_
  refine lc_le (tgt := 10) hx hb d_q_max_2 d_q_max_3 (by decide) (fun c1 => ?_) (fun c1 => ?_)
  · rw [if_pos c1] at h
    refine lv_lload_n hx hb d_q_max_10 rfl (lv_at hl 1 rfl) ?_
    exact j_q_max_11 C a2 w h _ _ _ hW (lv_sub hl [] rfl)
  · rw [if_neg c1] at h
    refine lv_lload_n hx hb d_q_max_6 rfl (lv_at hl 0 rfl) ?_
    refine lv_goto (tgt := 11) hx hb d_q_max_7 (by decide) ?_
    exact j_q_max_11 C a0 w h _ _ _ hW (lv_sub hl [] rfl)
abbrev b_q_isWide : ByteArray := prog_11_method_66_code
def y_q_isWide : MethodName := ⟨"AlarmForgeModel", "isWide", "(JJ)Z"⟩
def rm_q_isWide : Room := { frames := 0, cells := 0, slots := 0, locals := 0 }
theorem d_q_isWide_0 : decode b_q_isWide 0 = .ok (.lload_n 1, 1) := by decide +kernel
theorem d_q_isWide_1 : decode b_q_isWide 1 = .ok (.ldc2_w 340, 3) := by decide +kernel
theorem d_q_isWide_4 : decode b_q_isWide 4 = .ok (.lcmp, 1) := by decide +kernel
theorem d_q_isWide_5 : decode b_q_isWide 5 = .ok (.ifCond .lt (11), 3) := by decide +kernel
theorem d_q_isWide_8 : decode b_q_isWide 8 = .ok (.lload_n 3, 1) := by decide +kernel
theorem d_q_isWide_9 : decode b_q_isWide 9 = .ok (.ldc2_w 342, 3) := by decide +kernel
theorem d_q_isWide_12 : decode b_q_isWide 12 = .ok (.lcmp, 1) := by decide +kernel
theorem d_q_isWide_13 : decode b_q_isWide 13 = .ok (.ifCond .le (7), 3) := by decide +kernel
theorem d_q_isWide_16 : decode b_q_isWide 16 = .ok (.iconst 1, 1) := by decide +kernel
theorem d_q_isWide_17 : decode b_q_isWide 17 = .ok (.goto (4), 3) := by decide +kernel
theorem d_q_isWide_20 : decode b_q_isWide 20 = .ok (.iconst 0, 1) := by decide +kernel
theorem d_q_isWide_21 : decode b_q_isWide 21 = .ok (.ireturn, 1) := by decide +kernel
theorem kb_q_isWide {a0 : Nat} {a1 : Int64} {a3 : Int64} {w : WW} {r : (Int32 × WW)} (h : f_q_isWide a0 a1 a3 w = some r) : kb w a0 9 = true := (its h).1
set_option maxHeartbeats 4000000 in
set_option maxRecDepth 100000 in
theorem j_q_isWide_21 {p : Program} {l : Launch} {e : Env} {s : State} {m : MethodId} {args : Array Value} {below : List Frame} {meth : Method} {c : Code} {D : va_G} {cA : Nat → ClassId} {base : Nat} {r : Int32} {w' : WW} (C : cx b_q_isWide (some .boolean) 5 y_q_isWide.cls "isWide" p s m args meth c D cA base)   : ∀ (z0 : Int32) (w : WW), f_q_isWide_21 z0 w = some (r, w') → ∀ (H : Heap) (locs : List Loc) (ls : Array Slot), wo_S D cls cA base s w H locs → lv_has ls 5 [] → W p l e rm_q_isWide s m args below meth c H locs 0 0 (MQ below (wo_Q D cls cA base (some (.int r)) w') args s rm_q_isWide.cells rm_q_isWide.slots (wo_B base)) (F0 m 21 ls [.int z0]) := by
  obtain ⟨hx, hb, hr, hml, hown, hts, hlk, hnm, hK, hG⟩ := id C
  intro z0 w h H locs ls hW hl
  unfold f_q_isWide_21 at h
  replace h := its h
  obtain ⟨c2, h⟩ := h
  cases h
  exact wo_zret hx hb hr hlk hW c2 d_q_isWide_21
set_option maxHeartbeats 4000000 in
set_option maxRecDepth 100000 in
theorem j_q_isWide_16 {p : Program} {l : Launch} {e : Env} {s : State} {m : MethodId} {args : Array Value} {below : List Frame} {meth : Method} {c : Code} {D : va_G} {cA : Nat → ClassId} {base : Nat} {r : Int32} {w' : WW} (C : cx b_q_isWide (some .boolean) 5 y_q_isWide.cls "isWide" p s m args meth c D cA base)   : ∀  (w : WW), f_q_isWide_16  w = some (r, w') → ∀ (H : Heap) (locs : List Loc) (ls : Array Slot), wo_S D cls cA base s w H locs → lv_has ls 5 [] → W p l e rm_q_isWide s m args below meth c H locs 0 0 (MQ below (wo_Q D cls cA base (some (.int r)) w') args s rm_q_isWide.cells rm_q_isWide.slots (wo_B base)) (F0 m 16 ls []) := by
  obtain ⟨hx, hb, hr, hml, hown, hts, hlk, hnm, hK, hG⟩ := id C
  intro  w h H locs ls hW hl
  unfold f_q_isWide_16 at h
  refine lv_iconst (v := (1 : Int32)) hx hb d_q_isWide_16 (by decide) ?_
  refine lv_goto (tgt := 21) hx hb d_q_isWide_17 (by decide) ?_
  exact j_q_isWide_21 C (1 : Int32) w h _ _ _ hW (lv_sub hl [] rfl)
set_option maxHeartbeats 4000000 in
set_option maxRecDepth 100000 in
theorem c_q_isWide (l : Launch) (D : va_G) (cA : Nat → ClassId) (base : Nat) {a0 : Nat} {a1 : Int64} {a3 : Int64} {w w' : WW} {r : Int32} (h : f_q_isWide a0 a1 a3 w = some (r, w')) : mt l D cls (wo_tys cA) cA base y_q_isWide (Cond.code y_q_isWide b_q_isWide 5 (some .boolean) :: gt) rm_q_isWide [.ref (base + a0), .long a1, .long a3] w (some (.int r)) w' rm_q_isWide.cells rm_q_isWide.slots := by
  refine mt_start (by decide) (Nat.le_of_ble_eq_true rfl) ?_
  intro p e s m below meth c ls hx hb hr hml hown hts hlk hnm hK hG hW hl
  have C : cx b_q_isWide (some .boolean) 5 y_q_isWide.cls "isWide" p s m [.ref (base + a0), .long a1, .long a3].toArray meth c D cA base := ⟨hx, hb, hr, hml, hown, hts, hlk, hnm, hK, hG⟩
  have hl : lv_has ls 5 [(0, .ref (base + a0)), (1, .long a1), (3, .long a3)] := hl
  unfold f_q_isWide at h
  replace h := its h
  obtain ⟨-, h⟩ := h
  refine lv_lload_n hx hb d_q_isWide_0 rfl (lv_at hl 1 rfl) ?_
  refine lv_ldc2 (own := Rc_q) (v := (-2147483648 : Int64)) hx hb hown (hts (.constantLong "AlarmForgeModel" 340 (-2147483648 : Int64)) (gt_of (i := 1553) (by decide +kernel) (by decide +kernel))) d_q_isWide_1 ?_
  refine lc_lt (tgt := 16) hx hb d_q_isWide_4 d_q_isWide_5 (by decide) (fun c1 => ?_) (fun c1 => ?_)
  · rw [if_pos c1] at h
    exact j_q_isWide_16 C w h _ _ _ hW (lv_sub hl [] rfl)
  · rw [if_neg c1] at h
    refine lv_lload_n hx hb d_q_isWide_8 rfl (lv_at hl 2 rfl) ?_
    refine lv_ldc2 (own := Rc_q) (v := (2147483647 : Int64)) hx hb hown (hts (.constantLong "AlarmForgeModel" 342 (2147483647 : Int64)) (gt_of (i := 1554) (by decide +kernel) (by decide +kernel))) d_q_isWide_9 ?_
    refine lc_le (tgt := 20) hx hb d_q_isWide_12 d_q_isWide_13 (by decide) (fun c3 => ?_) (fun c3 => ?_)
    · rw [if_pos c3] at h
      refine lv_iconst (v := (0 : Int32)) hx hb d_q_isWide_20 (by decide) ?_
      exact j_q_isWide_21 C (0 : Int32) w h _ _ _ hW (lv_sub hl [] rfl)
    · rw [if_neg c3] at h
      exact j_q_isWide_16 C w h _ _ _ hW (lv_sub hl [] rfl)
theorem cs_q_432 {p : Program} {l : Launch} {e : Env} {R : Room} {s : State} {m : MethodId} {args : Array Value} {below : List Frame} {meth : Method} {c : Code} {H : Heap} {locs : List Loc} {cells slots : Nat} {Q : State → Prop} {D : va_G} {cA : Nat → ClassId} {base : Nat} {w w' : WW} {cc : ByteArray} {pc nL : Nat} {ls : Array Slot} {rest st0 As : List Value} {ov : Option Value} (hx : p.tables.exec = Jvm.exec) (hb : c.code = cc) (hml : c.maxLocals = nL) (hown : s.vm.findClass Rc_q = some m.cls) (hts : ∀ w ∈ gt, w.before args s = true) (hK : va_K D cls (wo_tys cA) s) (hG : wo_G cA base s) (hW : wo_S D cls cA base s w H locs) (hM : mt l D cls (wo_tys cA) cA base y_q_min (Cond.code y_q_min b_q_min 4 (some .long) :: gt) rm_q_min (As) w ov w' rm_q_min.cells rm_q_min.slots) (hR : rm_q_min.frames + 1 ≤ R.frames ∧ 8 + (4 + 11) + rm_q_min.locals ≤ R.locals) (hf : cells + rm_q_min.cells ≤ R.cells ∧ slots + rm_q_min.slots ≤ R.slots) (hn : As.length = 2) (hsz : ls.size = nL) (hst : st0 = As.reverse ++ rest) (hcat : (rest.map fun v => v.category).sum ≤ 8) (hdg : decode cc pc = .ok (.invokestatic 432, 3)) (kk : ∀ (H1 : Heap) (locs1 : List Loc), wo_S D cls cA base s w' H1 locs1 → W p l e R s m args below meth c H1 locs1 (cells + rm_q_min.cells) (slots + rm_q_min.slots) Q (F0 m (pc + 3) ls (ov.toList ++ rest))) : W p l e R s m args below meth c H locs cells slots Q (F0 m pc ls st0) :=
  wo_callS hx hb hml hown hts hK hG hW hM (gt_of (i := 1641) (by decide +kernel) (by decide +kernel)) (gt_of (i := 1642) (by decide +kernel) (by decide +kernel)) (gt_of (i := 10) (by decide +kernel) (by decide +kernel)) (gt_of (i := 1643) (by decide +kernel) (by decide +kernel)) (by decide +kernel) hR hf hn hsz hst hcat hdg kk
theorem cs_q_435 {p : Program} {l : Launch} {e : Env} {R : Room} {s : State} {m : MethodId} {args : Array Value} {below : List Frame} {meth : Method} {c : Code} {H : Heap} {locs : List Loc} {cells slots : Nat} {Q : State → Prop} {D : va_G} {cA : Nat → ClassId} {base : Nat} {w w' : WW} {cc : ByteArray} {pc nL : Nat} {ls : Array Slot} {rest st0 As : List Value} {ov : Option Value} (hx : p.tables.exec = Jvm.exec) (hb : c.code = cc) (hml : c.maxLocals = nL) (hown : s.vm.findClass Rc_q = some m.cls) (hts : ∀ w ∈ gt, w.before args s = true) (hK : va_K D cls (wo_tys cA) s) (hG : wo_G cA base s) (hW : wo_S D cls cA base s w H locs) (hM : mt l D cls (wo_tys cA) cA base y_q_max (Cond.code y_q_max b_q_max 4 (some .long) :: gt) rm_q_max (As) w ov w' rm_q_max.cells rm_q_max.slots) (hR : rm_q_max.frames + 1 ≤ R.frames ∧ 8 + (4 + 11) + rm_q_max.locals ≤ R.locals) (hf : cells + rm_q_max.cells ≤ R.cells ∧ slots + rm_q_max.slots ≤ R.slots) (hn : As.length = 2) (hsz : ls.size = nL) (hst : st0 = As.reverse ++ rest) (hcat : (rest.map fun v => v.category).sum ≤ 8) (hdg : decode cc pc = .ok (.invokestatic 435, 3)) (kk : ∀ (H1 : Heap) (locs1 : List Loc), wo_S D cls cA base s w' H1 locs1 → W p l e R s m args below meth c H1 locs1 (cells + rm_q_max.cells) (slots + rm_q_max.slots) Q (F0 m (pc + 3) ls (ov.toList ++ rest))) : W p l e R s m args below meth c H locs cells slots Q (F0 m pc ls st0) :=
  wo_callS hx hb hml hown hts hK hG hW hM (gt_of (i := 1644) (by decide +kernel) (by decide +kernel)) (gt_of (i := 1645) (by decide +kernel) (by decide +kernel)) (gt_of (i := 10) (by decide +kernel) (by decide +kernel)) (gt_of (i := 1646) (by decide +kernel) (by decide +kernel)) (by decide +kernel) hR hf hn hsz hst hcat hdg kk
theorem cv_q_438 {p : Program} {l : Launch} {e : Env} {R : Room} {s : State} {m : MethodId} {args : Array Value} {below : List Frame} {meth : Method} {c : Code} {H : Heap} {locs : List Loc} {cells slots : Nat} {Q : State → Prop} {D : va_G} {cA : Nat → ClassId} {base : Nat} {w w' : WW} {cc : ByteArray} {pc nL : Nat} {ls : Array Slot} {rest st0 As : List Value} {ov : Option Value} {b : Nat} (hx : p.tables.exec = Jvm.exec) (hb : c.code = cc) (hml : c.maxLocals = nL) (hown : s.vm.findClass Rc_q = some m.cls) (hts : ∀ w ∈ gt, w.before args s = true) (hK : va_K D cls (wo_tys cA) s) (hG : wo_G cA base s) (hW : wo_S D cls cA base s w H locs) (hM : mt l D cls (wo_tys cA) cA base y_q_isWide (Cond.code y_q_isWide b_q_isWide 5 (some .boolean) :: gt) rm_q_isWide (.ref (base + b) :: As) w ov w' rm_q_isWide.cells rm_q_isWide.slots) (hkb : kb w b 9 = true) (hR : rm_q_isWide.frames + 1 ≤ R.frames ∧ 8 + (5 + 11) + rm_q_isWide.locals ≤ R.locals) (hf : cells + rm_q_isWide.cells ≤ R.cells ∧ slots + rm_q_isWide.slots ≤ R.slots) (hn : As.length = 2) (hsz : ls.size = nL) (hst : st0 = As.reverse ++ .ref (base + b) :: rest) (hcat : (rest.map fun v => v.category).sum ≤ 8) (hdg : decode cc pc = .ok (.invokevirtual 438, 3)) (kk : ∀ (H1 : Heap) (locs1 : List Loc), wo_S D cls cA base s w' H1 locs1 → W p l e R s m args below meth c H1 locs1 (cells + rm_q_isWide.cells) (slots + rm_q_isWide.slots) Q (F0 m (pc + 3) ls (ov.toList ++ rest))) : W p l e R s m args below meth c H locs cells slots Q (F0 m pc ls st0) :=
  wo_callV (C := Rc_q) hx hb hml hown hts hK hG hW hM hkb rfl (gt_of (i := 1647) (by decide +kernel) (by decide +kernel)) (gt_of (i := 1649) (by decide +kernel) (by decide +kernel)) (gt_sel (i := 101) (by decide +kernel) (by decide +kernel)) (gt_of (i := 10) (by decide +kernel) (by decide +kernel)) (gt_of (i := 1650) (by decide +kernel) (by decide +kernel)) (by decide +kernel) hR hf hn hsz hst hcat hdg kk
theorem cv_q_442 {p : Program} {l : Launch} {e : Env} {R : Room} {s : State} {m : MethodId} {args : Array Value} {below : List Frame} {meth : Method} {c : Code} {H : Heap} {locs : List Loc} {cells slots : Nat} {Q : State → Prop} {D : va_G} {cA : Nat → ClassId} {base : Nat} {w w' : WW} {cc : ByteArray} {pc nL : Nat} {ls : Array Slot} {rest st0 As : List Value} {ov : Option Value} {b : Nat} (hx : p.tables.exec = Jvm.exec) (hb : c.code = cc) (hml : c.maxLocals = nL) (hown : s.vm.findClass Rc_q = some m.cls) (hts : ∀ w ∈ gt, w.before args s = true) (hK : va_K D cls (wo_tys cA) s) (hG : wo_G cA base s) (hW : wo_S D cls cA base s w H locs) (hM : mt l D cls (wo_tys cA) cA base y_q_warn (Cond.code y_q_warn b_q_warn 3 (none) :: gt) rm_q_warn (.ref (base + b) :: As) w ov w' rm_q_warn.cells rm_q_warn.slots) (hkb : kb w b 9 = true) (hR : rm_q_warn.frames + 1 ≤ R.frames ∧ 8 + (3 + 11) + rm_q_warn.locals ≤ R.locals) (hf : cells + rm_q_warn.cells ≤ R.cells ∧ slots + rm_q_warn.slots ≤ R.slots) (hn : As.length = 2) (hsz : ls.size = nL) (hst : st0 = As.reverse ++ .ref (base + b) :: rest) (hcat : (rest.map fun v => v.category).sum ≤ 8) (hdg : decode cc pc = .ok (.invokevirtual 442, 3)) (kk : ∀ (H1 : Heap) (locs1 : List Loc), wo_S D cls cA base s w' H1 locs1 → W p l e R s m args below meth c H1 locs1 (cells + rm_q_warn.cells) (slots + rm_q_warn.slots) Q (F0 m (pc + 3) ls (ov.toList ++ rest))) : W p l e R s m args below meth c H locs cells slots Q (F0 m pc ls st0) :=
  wo_callV (C := Rc_q) hx hb hml hown hts hK hG hW hM hkb rfl (gt_of (i := 1606) (by decide +kernel) (by decide +kernel)) (gt_of (i := 1608) (by decide +kernel) (by decide +kernel)) (gt_sel (i := 94) (by decide +kernel) (by decide +kernel)) (gt_of (i := 10) (by decide +kernel) (by decide +kernel)) (gt_of (i := 1609) (by decide +kernel) (by decide +kernel)) (by decide +kernel) hR hf hn hsz hst hcat hdg kk
abbrev b_q_sum : ByteArray := prog_11_method_67_code
def y_q_sum : MethodName := ⟨"AlarmForgeModel", "sum", "(IIII)V"⟩
def rm_q_sum : Room := { frames := 2, cells := 0, slots := 0, locals := 66 }
theorem d_q_sum_0 : decode b_q_sum 0 = .ok (.iload_n 1, 1) := by decide +kernel
theorem d_q_sum_1 : decode b_q_sum 1 = .ok (.bipush (7), 2) := by decide +kernel
theorem d_q_sum_3 : decode b_q_sum 3 = .ok (.if_icmp .ne (166), 3) := by decide +kernel
theorem d_q_sum_6 : decode b_q_sum 6 = .ok (.aload_n 0, 1) := by decide +kernel
theorem d_q_sum_7 : decode b_q_sum 7 = .ok (.getfield 117, 3) := by decide +kernel
theorem d_q_sum_10 : decode b_q_sum 10 = .ok (.iload_n 2, 1) := by decide +kernel
theorem d_q_sum_11 : decode b_q_sum 11 = .ok (.laload, 1) := by decide +kernel
theorem d_q_sum_12 : decode b_q_sum 12 = .ok (.aload_n 0, 1) := by decide +kernel
theorem d_q_sum_13 : decode b_q_sum 13 = .ok (.getfield 117, 3) := by decide +kernel
theorem d_q_sum_16 : decode b_q_sum 16 = .ok (.iload_n 3, 1) := by decide +kernel
theorem d_q_sum_17 : decode b_q_sum 17 = .ok (.laload, 1) := by decide +kernel
theorem d_q_sum_18 : decode b_q_sum 18 = .ok (.lmul, 1) := by decide +kernel
theorem d_q_sum_19 : decode b_q_sum 19 = .ok (.lstore 13, 2) := by decide +kernel
theorem d_q_sum_21 : decode b_q_sum 21 = .ok (.aload_n 0, 1) := by decide +kernel
theorem d_q_sum_22 : decode b_q_sum 22 = .ok (.getfield 117, 3) := by decide +kernel
theorem d_q_sum_25 : decode b_q_sum 25 = .ok (.iload_n 2, 1) := by decide +kernel
theorem d_q_sum_26 : decode b_q_sum 26 = .ok (.laload, 1) := by decide +kernel
theorem d_q_sum_27 : decode b_q_sum 27 = .ok (.aload_n 0, 1) := by decide +kernel
theorem d_q_sum_28 : decode b_q_sum 28 = .ok (.getfield 121, 3) := by decide +kernel
theorem d_q_sum_31 : decode b_q_sum 31 = .ok (.iload_n 3, 1) := by decide +kernel
theorem d_q_sum_32 : decode b_q_sum 32 = .ok (.laload, 1) := by decide +kernel
theorem d_q_sum_33 : decode b_q_sum 33 = .ok (.lmul, 1) := by decide +kernel
theorem d_q_sum_34 : decode b_q_sum 34 = .ok (.lstore 15, 2) := by decide +kernel
theorem d_q_sum_36 : decode b_q_sum 36 = .ok (.aload_n 0, 1) := by decide +kernel
theorem d_q_sum_37 : decode b_q_sum 37 = .ok (.getfield 121, 3) := by decide +kernel
theorem d_q_sum_40 : decode b_q_sum 40 = .ok (.iload_n 2, 1) := by decide +kernel
theorem d_q_sum_41 : decode b_q_sum 41 = .ok (.laload, 1) := by decide +kernel
theorem d_q_sum_42 : decode b_q_sum 42 = .ok (.aload_n 0, 1) := by decide +kernel
theorem d_q_sum_43 : decode b_q_sum 43 = .ok (.getfield 117, 3) := by decide +kernel
theorem d_q_sum_46 : decode b_q_sum 46 = .ok (.iload_n 3, 1) := by decide +kernel
theorem d_q_sum_47 : decode b_q_sum 47 = .ok (.laload, 1) := by decide +kernel
theorem d_q_sum_48 : decode b_q_sum 48 = .ok (.lmul, 1) := by decide +kernel
theorem d_q_sum_49 : decode b_q_sum 49 = .ok (.lstore 17, 2) := by decide +kernel
theorem d_q_sum_51 : decode b_q_sum 51 = .ok (.aload_n 0, 1) := by decide +kernel
theorem d_q_sum_52 : decode b_q_sum 52 = .ok (.getfield 121, 3) := by decide +kernel
theorem d_q_sum_55 : decode b_q_sum 55 = .ok (.iload_n 2, 1) := by decide +kernel
theorem d_q_sum_56 : decode b_q_sum 56 = .ok (.laload, 1) := by decide +kernel
theorem d_q_sum_57 : decode b_q_sum 57 = .ok (.aload_n 0, 1) := by decide +kernel
theorem d_q_sum_58 : decode b_q_sum 58 = .ok (.getfield 121, 3) := by decide +kernel
theorem d_q_sum_61 : decode b_q_sum 61 = .ok (.iload_n 3, 1) := by decide +kernel
theorem d_q_sum_62 : decode b_q_sum 62 = .ok (.laload, 1) := by decide +kernel
theorem d_q_sum_63 : decode b_q_sum 63 = .ok (.lmul, 1) := by decide +kernel
theorem d_q_sum_64 : decode b_q_sum 64 = .ok (.lstore 19, 2) := by decide +kernel
theorem d_q_sum_66 : decode b_q_sum 66 = .ok (.lload 13, 2) := by decide +kernel
theorem d_q_sum_68 : decode b_q_sum 68 = .ok (.lload 15, 2) := by decide +kernel
theorem d_q_sum_70 : decode b_q_sum 70 = .ok (.invokestatic 432, 3) := by decide +kernel
theorem d_q_sum_73 : decode b_q_sum 73 = .ok (.lload 17, 2) := by decide +kernel
theorem d_q_sum_75 : decode b_q_sum 75 = .ok (.lload 19, 2) := by decide +kernel
theorem d_q_sum_77 : decode b_q_sum 77 = .ok (.invokestatic 432, 3) := by decide +kernel
theorem d_q_sum_80 : decode b_q_sum 80 = .ok (.invokestatic 432, 3) := by decide +kernel
theorem d_q_sum_83 : decode b_q_sum 83 = .ok (.lstore 5, 2) := by decide +kernel
theorem d_q_sum_85 : decode b_q_sum 85 = .ok (.lload 13, 2) := by decide +kernel
theorem d_q_sum_87 : decode b_q_sum 87 = .ok (.lload 15, 2) := by decide +kernel
theorem d_q_sum_89 : decode b_q_sum 89 = .ok (.invokestatic 435, 3) := by decide +kernel
theorem d_q_sum_92 : decode b_q_sum 92 = .ok (.lload 17, 2) := by decide +kernel
theorem d_q_sum_94 : decode b_q_sum 94 = .ok (.lload 19, 2) := by decide +kernel
theorem d_q_sum_96 : decode b_q_sum 96 = .ok (.invokestatic 435, 3) := by decide +kernel
theorem d_q_sum_99 : decode b_q_sum 99 = .ok (.invokestatic 435, 3) := by decide +kernel
theorem d_q_sum_102 : decode b_q_sum 102 = .ok (.lstore 7, 2) := by decide +kernel
theorem d_q_sum_104 : decode b_q_sum 104 = .ok (.aload_n 0, 1) := by decide +kernel
theorem d_q_sum_105 : decode b_q_sum 105 = .ok (.getfield 124, 3) := by decide +kernel
theorem d_q_sum_108 : decode b_q_sum 108 = .ok (.iload_n 2, 1) := by decide +kernel
theorem d_q_sum_109 : decode b_q_sum 109 = .ok (.laload, 1) := by decide +kernel
theorem d_q_sum_110 : decode b_q_sum 110 = .ok (.aload_n 0, 1) := by decide +kernel
theorem d_q_sum_111 : decode b_q_sum 111 = .ok (.getfield 124, 3) := by decide +kernel
theorem d_q_sum_114 : decode b_q_sum 114 = .ok (.iload_n 3, 1) := by decide +kernel
theorem d_q_sum_115 : decode b_q_sum 115 = .ok (.laload, 1) := by decide +kernel
theorem d_q_sum_116 : decode b_q_sum 116 = .ok (.lmul, 1) := by decide +kernel
theorem d_q_sum_117 : decode b_q_sum 117 = .ok (.aload_n 0, 1) := by decide +kernel
theorem d_q_sum_118 : decode b_q_sum 118 = .ok (.getfield 124, 3) := by decide +kernel
theorem d_q_sum_121 : decode b_q_sum 121 = .ok (.iload_n 2, 1) := by decide +kernel
theorem d_q_sum_122 : decode b_q_sum 122 = .ok (.laload, 1) := by decide +kernel
theorem d_q_sum_123 : decode b_q_sum 123 = .ok (.aload_n 0, 1) := by decide +kernel
theorem d_q_sum_124 : decode b_q_sum 124 = .ok (.getfield 127, 3) := by decide +kernel
theorem d_q_sum_127 : decode b_q_sum 127 = .ok (.iload_n 3, 1) := by decide +kernel
theorem d_q_sum_128 : decode b_q_sum 128 = .ok (.laload, 1) := by decide +kernel
theorem d_q_sum_129 : decode b_q_sum 129 = .ok (.lmul, 1) := by decide +kernel
theorem d_q_sum_130 : decode b_q_sum 130 = .ok (.invokestatic 403, 3) := by decide +kernel
theorem d_q_sum_133 : decode b_q_sum 133 = .ok (.aload_n 0, 1) := by decide +kernel
theorem d_q_sum_134 : decode b_q_sum 134 = .ok (.getfield 124, 3) := by decide +kernel
theorem d_q_sum_137 : decode b_q_sum 137 = .ok (.iload_n 3, 1) := by decide +kernel
theorem d_q_sum_138 : decode b_q_sum 138 = .ok (.laload, 1) := by decide +kernel
theorem d_q_sum_139 : decode b_q_sum 139 = .ok (.aload_n 0, 1) := by decide +kernel
theorem d_q_sum_140 : decode b_q_sum 140 = .ok (.getfield 127, 3) := by decide +kernel
theorem d_q_sum_143 : decode b_q_sum 143 = .ok (.iload_n 2, 1) := by decide +kernel
theorem d_q_sum_144 : decode b_q_sum 144 = .ok (.laload, 1) := by decide +kernel
theorem d_q_sum_145 : decode b_q_sum 145 = .ok (.lmul, 1) := by decide +kernel
theorem d_q_sum_146 : decode b_q_sum 146 = .ok (.invokestatic 403, 3) := by decide +kernel
theorem d_q_sum_149 : decode b_q_sum 149 = .ok (.lstore 9, 2) := by decide +kernel
theorem d_q_sum_151 : decode b_q_sum 151 = .ok (.aload_n 0, 1) := by decide +kernel
theorem d_q_sum_152 : decode b_q_sum 152 = .ok (.getfield 127, 3) := by decide +kernel
theorem d_q_sum_155 : decode b_q_sum 155 = .ok (.iload_n 2, 1) := by decide +kernel
theorem d_q_sum_156 : decode b_q_sum 156 = .ok (.laload, 1) := by decide +kernel
theorem d_q_sum_157 : decode b_q_sum 157 = .ok (.aload_n 0, 1) := by decide +kernel
theorem d_q_sum_158 : decode b_q_sum 158 = .ok (.getfield 127, 3) := by decide +kernel
theorem d_q_sum_161 : decode b_q_sum 161 = .ok (.iload_n 3, 1) := by decide +kernel
theorem d_q_sum_162 : decode b_q_sum 162 = .ok (.laload, 1) := by decide +kernel
theorem d_q_sum_163 : decode b_q_sum 163 = .ok (.lmul, 1) := by decide +kernel
theorem d_q_sum_164 : decode b_q_sum 164 = .ok (.lstore 11, 2) := by decide +kernel
theorem d_q_sum_166 : decode b_q_sum 166 = .ok (.goto (140), 3) := by decide +kernel
theorem d_q_sum_169 : decode b_q_sum 169 = .ok (.iload_n 1, 1) := by decide +kernel
theorem d_q_sum_170 : decode b_q_sum 170 = .ok (.iconst 5, 1) := by decide +kernel
theorem d_q_sum_171 : decode b_q_sum 171 = .ok (.if_icmp .ne (7), 3) := by decide +kernel
theorem d_q_sum_174 : decode b_q_sum 174 = .ok (.iconst 1, 1) := by decide +kernel
theorem d_q_sum_175 : decode b_q_sum 175 = .ok (.goto (4), 3) := by decide +kernel
theorem d_q_sum_178 : decode b_q_sum 178 = .ok (.iconst 0, 1) := by decide +kernel
theorem d_q_sum_179 : decode b_q_sum 179 = .ok (.istore 13, 2) := by decide +kernel
theorem d_q_sum_181 : decode b_q_sum 181 = .ok (.iload 13, 2) := by decide +kernel
theorem d_q_sum_183 : decode b_q_sum 183 = .ok (.ifCond .eq (19), 3) := by decide +kernel
theorem d_q_sum_186 : decode b_q_sum 186 = .ok (.aload_n 0, 1) := by decide +kernel
theorem d_q_sum_187 : decode b_q_sum 187 = .ok (.getfield 117, 3) := by decide +kernel
theorem d_q_sum_190 : decode b_q_sum 190 = .ok (.iload_n 2, 1) := by decide +kernel
theorem d_q_sum_191 : decode b_q_sum 191 = .ok (.laload, 1) := by decide +kernel
theorem d_q_sum_192 : decode b_q_sum 192 = .ok (.aload_n 0, 1) := by decide +kernel
theorem d_q_sum_193 : decode b_q_sum 193 = .ok (.getfield 117, 3) := by decide +kernel
theorem d_q_sum_196 : decode b_q_sum 196 = .ok (.iload_n 3, 1) := by decide +kernel
theorem d_q_sum_197 : decode b_q_sum 197 = .ok (.laload, 1) := by decide +kernel
theorem d_q_sum_198 : decode b_q_sum 198 = .ok (.ladd, 1) := by decide +kernel
theorem d_q_sum_199 : decode b_q_sum 199 = .ok (.goto (16), 3) := by decide +kernel
theorem d_q_sum_202 : decode b_q_sum 202 = .ok (.aload_n 0, 1) := by decide +kernel
theorem d_q_sum_203 : decode b_q_sum 203 = .ok (.getfield 117, 3) := by decide +kernel
theorem d_q_sum_206 : decode b_q_sum 206 = .ok (.iload_n 2, 1) := by decide +kernel
theorem d_q_sum_207 : decode b_q_sum 207 = .ok (.laload, 1) := by decide +kernel
theorem d_q_sum_208 : decode b_q_sum 208 = .ok (.aload_n 0, 1) := by decide +kernel
theorem d_q_sum_209 : decode b_q_sum 209 = .ok (.getfield 121, 3) := by decide +kernel
theorem d_q_sum_212 : decode b_q_sum 212 = .ok (.iload_n 3, 1) := by decide +kernel
theorem d_q_sum_213 : decode b_q_sum 213 = .ok (.laload, 1) := by decide +kernel
theorem d_q_sum_214 : decode b_q_sum 214 = .ok (.lsub, 1) := by decide +kernel
theorem d_q_sum_215 : decode b_q_sum 215 = .ok (.lstore 5, 2) := by decide +kernel
theorem d_q_sum_217 : decode b_q_sum 217 = .ok (.iload 13, 2) := by decide +kernel
theorem d_q_sum_219 : decode b_q_sum 219 = .ok (.ifCond .eq (19), 3) := by decide +kernel
theorem d_q_sum_222 : decode b_q_sum 222 = .ok (.aload_n 0, 1) := by decide +kernel
theorem d_q_sum_223 : decode b_q_sum 223 = .ok (.getfield 121, 3) := by decide +kernel
theorem d_q_sum_226 : decode b_q_sum 226 = .ok (.iload_n 2, 1) := by decide +kernel
theorem d_q_sum_227 : decode b_q_sum 227 = .ok (.laload, 1) := by decide +kernel
theorem d_q_sum_228 : decode b_q_sum 228 = .ok (.aload_n 0, 1) := by decide +kernel
theorem d_q_sum_229 : decode b_q_sum 229 = .ok (.getfield 121, 3) := by decide +kernel
theorem d_q_sum_232 : decode b_q_sum 232 = .ok (.iload_n 3, 1) := by decide +kernel
theorem d_q_sum_233 : decode b_q_sum 233 = .ok (.laload, 1) := by decide +kernel
theorem d_q_sum_234 : decode b_q_sum 234 = .ok (.ladd, 1) := by decide +kernel
theorem d_q_sum_235 : decode b_q_sum 235 = .ok (.goto (16), 3) := by decide +kernel
theorem d_q_sum_238 : decode b_q_sum 238 = .ok (.aload_n 0, 1) := by decide +kernel
theorem d_q_sum_239 : decode b_q_sum 239 = .ok (.getfield 121, 3) := by decide +kernel
theorem d_q_sum_242 : decode b_q_sum 242 = .ok (.iload_n 2, 1) := by decide +kernel
theorem d_q_sum_243 : decode b_q_sum 243 = .ok (.laload, 1) := by decide +kernel
theorem d_q_sum_244 : decode b_q_sum 244 = .ok (.aload_n 0, 1) := by decide +kernel
theorem d_q_sum_245 : decode b_q_sum 245 = .ok (.getfield 117, 3) := by decide +kernel
theorem d_q_sum_248 : decode b_q_sum 248 = .ok (.iload_n 3, 1) := by decide +kernel
theorem d_q_sum_249 : decode b_q_sum 249 = .ok (.laload, 1) := by decide +kernel
theorem d_q_sum_250 : decode b_q_sum 250 = .ok (.lsub, 1) := by decide +kernel
theorem d_q_sum_251 : decode b_q_sum 251 = .ok (.lstore 7, 2) := by decide +kernel
theorem d_q_sum_253 : decode b_q_sum 253 = .ok (.aload_n 0, 1) := by decide +kernel
theorem d_q_sum_254 : decode b_q_sum 254 = .ok (.getfield 124, 3) := by decide +kernel
theorem d_q_sum_257 : decode b_q_sum 257 = .ok (.iload_n 2, 1) := by decide +kernel
theorem d_q_sum_258 : decode b_q_sum 258 = .ok (.laload, 1) := by decide +kernel
theorem d_q_sum_259 : decode b_q_sum 259 = .ok (.aload_n 0, 1) := by decide +kernel
theorem d_q_sum_260 : decode b_q_sum 260 = .ok (.getfield 124, 3) := by decide +kernel
theorem d_q_sum_263 : decode b_q_sum 263 = .ok (.iload_n 3, 1) := by decide +kernel
theorem d_q_sum_264 : decode b_q_sum 264 = .ok (.laload, 1) := by decide +kernel
theorem d_q_sum_265 : decode b_q_sum 265 = .ok (.invokestatic 403, 3) := by decide +kernel
theorem d_q_sum_268 : decode b_q_sum 268 = .ok (.lstore 9, 2) := by decide +kernel
theorem d_q_sum_270 : decode b_q_sum 270 = .ok (.iload 13, 2) := by decide +kernel
theorem d_q_sum_272 : decode b_q_sum 272 = .ok (.ifCond .eq (19), 3) := by decide +kernel
theorem d_q_sum_275 : decode b_q_sum 275 = .ok (.aload_n 0, 1) := by decide +kernel
theorem d_q_sum_276 : decode b_q_sum 276 = .ok (.getfield 127, 3) := by decide +kernel
theorem d_q_sum_279 : decode b_q_sum 279 = .ok (.iload_n 2, 1) := by decide +kernel
theorem d_q_sum_280 : decode b_q_sum 280 = .ok (.laload, 1) := by decide +kernel
theorem d_q_sum_281 : decode b_q_sum 281 = .ok (.aload_n 0, 1) := by decide +kernel
theorem d_q_sum_282 : decode b_q_sum 282 = .ok (.getfield 127, 3) := by decide +kernel
theorem d_q_sum_285 : decode b_q_sum 285 = .ok (.iload_n 3, 1) := by decide +kernel
theorem d_q_sum_286 : decode b_q_sum 286 = .ok (.laload, 1) := by decide +kernel
theorem d_q_sum_287 : decode b_q_sum 287 = .ok (.ladd, 1) := by decide +kernel
theorem d_q_sum_288 : decode b_q_sum 288 = .ok (.goto (16), 3) := by decide +kernel
theorem d_q_sum_291 : decode b_q_sum 291 = .ok (.aload_n 0, 1) := by decide +kernel
theorem d_q_sum_292 : decode b_q_sum 292 = .ok (.getfield 127, 3) := by decide +kernel
theorem d_q_sum_295 : decode b_q_sum 295 = .ok (.iload_n 2, 1) := by decide +kernel
theorem d_q_sum_296 : decode b_q_sum 296 = .ok (.laload, 1) := by decide +kernel
theorem d_q_sum_297 : decode b_q_sum 297 = .ok (.aload_n 0, 1) := by decide +kernel
theorem d_q_sum_298 : decode b_q_sum 298 = .ok (.getfield 127, 3) := by decide +kernel
theorem d_q_sum_301 : decode b_q_sum 301 = .ok (.iload_n 3, 1) := by decide +kernel
theorem d_q_sum_302 : decode b_q_sum 302 = .ok (.laload, 1) := by decide +kernel
theorem d_q_sum_303 : decode b_q_sum 303 = .ok (.lsub, 1) := by decide +kernel
theorem d_q_sum_304 : decode b_q_sum 304 = .ok (.lstore 11, 2) := by decide +kernel
theorem d_q_sum_306 : decode b_q_sum 306 = .ok (.aload_n 0, 1) := by decide +kernel
theorem d_q_sum_307 : decode b_q_sum 307 = .ok (.lload 5, 2) := by decide +kernel
theorem d_q_sum_309 : decode b_q_sum 309 = .ok (.lload 7, 2) := by decide +kernel
theorem d_q_sum_311 : decode b_q_sum 311 = .ok (.invokevirtual 438, 3) := by decide +kernel
theorem d_q_sum_314 : decode b_q_sum 314 = .ok (.ifCond .eq (10), 3) := by decide +kernel
theorem d_q_sum_317 : decode b_q_sum 317 = .ok (.aload_n 0, 1) := by decide +kernel
theorem d_q_sum_318 : decode b_q_sum 318 = .ok (.iconst 3, 1) := by decide +kernel
theorem d_q_sum_319 : decode b_q_sum 319 = .ok (.iload 4, 2) := by decide +kernel
theorem d_q_sum_321 : decode b_q_sum 321 = .ok (.invokevirtual 442, 3) := by decide +kernel
theorem d_q_sum_324 : decode b_q_sum 324 = .ok (.aload_n 0, 1) := by decide +kernel
theorem d_q_sum_325 : decode b_q_sum 325 = .ok (.iload_n 2, 1) := by decide +kernel
theorem d_q_sum_326 : decode b_q_sum 326 = .ok (.lload 5, 2) := by decide +kernel
theorem d_q_sum_328 : decode b_q_sum 328 = .ok (.lload 7, 2) := by decide +kernel
theorem d_q_sum_330 : decode b_q_sum 330 = .ok (.lload 9, 2) := by decide +kernel
theorem d_q_sum_332 : decode b_q_sum 332 = .ok (.lload 11, 2) := by decide +kernel
theorem d_q_sum_334 : decode b_q_sum 334 = .ok (.invokevirtual 406, 3) := by decide +kernel
theorem d_q_sum_337 : decode b_q_sum 337 = .ok (.return_, 1) := by decide +kernel
theorem kb_q_sum {a0 : Nat} {a1 : Int32} {a2 : Int32} {a3 : Int32} {a4 : Int32} {w : WW} {r : WW} (h : f_q_sum a0 a1 a2 a3 a4 w = some r) : kb w a0 9 = true := (its h).1
set_option maxHeartbeats 4000000 in
set_option maxRecDepth 100000 in
theorem j_q_sum_324 {p : Program} {l : Launch} {e : Env} {s : State} {m : MethodId} {args : Array Value} {below : List Frame} {meth : Method} {c : Code} {D : va_G} {cA : Nat → ClassId} {base : Nat} {w' : WW} (C : cx b_q_sum (none) 21 y_q_sum.cls "sum" p s m args meth c D cA base)   : ∀ (y0 : Nat) (y2 : Int32) (y5 : Int64) (y7 : Int64) (y9 : Int64) (y11 : Int64) (w : WW), f_q_sum_324 y0 y2 y5 y7 y9 y11 w = some w' → ∀ (H : Heap) (locs : List Loc) (ls : Array Slot), wo_S D cls cA base s w H locs → lv_has ls 21 [(0, .ref (base + y0)), (2, .int y2), (5, .long y5), (7, .long y7), (9, .long y9), (11, .long y11)] → W p l e rm_q_sum s m args below meth c H locs 0 0 (MQ below (wo_Q D cls cA base none w') args s rm_q_sum.cells rm_q_sum.slots (wo_B base)) (F0 m 324 ls []) := by
  obtain ⟨hx, hb, hr, hml, hown, hts, hlk, hnm, hK, hG⟩ := id C
  intro y0 y2 y5 y7 y9 y11 w h H locs ls hW hl
  unfold f_q_sum_324 at h
  refine lv_aload_n hx hb d_q_sum_324 rfl (lv_at hl 0 rfl) ?_
  refine lv_iload_n hx hb d_q_sum_325 rfl (lv_at hl 1 rfl) ?_
  refine lv_lload hx hb d_q_sum_326 (lv_at hl 2 rfl) ?_
  refine lv_lload hx hb d_q_sum_328 (lv_at hl 3 rfl) ?_
  refine lv_lload hx hb d_q_sum_330 (lv_at hl 4 rfl) ?_
  refine lv_lload hx hb d_q_sum_332 (lv_at hl 5 rfl) ?_
  replace h := bs h
  obtain ⟨w27, hw27, h⟩ := h
  refine cv_q_406 (As := [.int y2, .long y5, .long y7, .long y9, .long y11]) (rest := []) hx hb hml hown hts hK hG hW (c_q_put l D cA base hw27) (kb_q_put hw27) ⟨Nat.le_of_ble_eq_true rfl, Nat.le_of_ble_eq_true rfl⟩ ⟨Nat.le_of_ble_eq_true rfl, Nat.le_of_ble_eq_true rfl⟩ rfl hl.1 rfl (Nat.le_of_ble_eq_true rfl) d_q_sum_334 (fun H locs hW => ?_)
  cases h
  exact wo_vret hx hb hr hlk hW d_q_sum_337
set_option maxHeartbeats 4000000 in
set_option maxRecDepth 100000 in
theorem j_q_sum_306 {p : Program} {l : Launch} {e : Env} {s : State} {m : MethodId} {args : Array Value} {below : List Frame} {meth : Method} {c : Code} {D : va_G} {cA : Nat → ClassId} {base : Nat} {w' : WW} (C : cx b_q_sum (none) 21 y_q_sum.cls "sum" p s m args meth c D cA base)   : ∀ (y0 : Nat) (y2 : Int32) (y4 : Int32) (y5 : Int64) (y7 : Int64) (y9 : Int64) (y11 : Int64) (w : WW), f_q_sum_306 y0 y2 y4 y5 y7 y9 y11 w = some w' → ∀ (H : Heap) (locs : List Loc) (ls : Array Slot), wo_S D cls cA base s w H locs → lv_has ls 21 [(0, .ref (base + y0)), (2, .int y2), (4, .int y4), (5, .long y5), (7, .long y7), (9, .long y9), (11, .long y11)] → W p l e rm_q_sum s m args below meth c H locs 0 0 (MQ below (wo_Q D cls cA base none w') args s rm_q_sum.cells rm_q_sum.slots (wo_B base)) (F0 m 306 ls []) := by
  obtain ⟨hx, hb, hr, hml, hown, hts, hlk, hnm, hK, hG⟩ := id C
  intro y0 y2 y4 y5 y7 y9 y11 w h H locs ls hW hl
  unfold f_q_sum_306 at h
  refine lv_aload_n hx hb d_q_sum_306 rfl (lv_at hl 0 rfl) ?_
  refine lv_lload hx hb d_q_sum_307 (lv_at hl 3 rfl) ?_
  refine lv_lload hx hb d_q_sum_309 (lv_at hl 4 rfl) ?_
  replace h := bs2 h
  obtain ⟨x25, w24, hw24, h⟩ := h
  refine cv_q_438 (As := [.long y5, .long y7]) (rest := []) hx hb hml hown hts hK hG hW (c_q_isWide l D cA base hw24) (kb_q_isWide hw24) ⟨Nat.le_of_ble_eq_true rfl, Nat.le_of_ble_eq_true rfl⟩ ⟨Nat.le_of_ble_eq_true rfl, Nat.le_of_ble_eq_true rfl⟩ rfl hl.1 rfl (Nat.le_of_ble_eq_true rfl) d_q_sum_311 (fun H locs hW => ?_)
  refine lv_if_eq (tgt := 324) hx hb d_q_sum_314 (by decide) (fun c26 => ?_) (fun c26 => ?_)
  · rw [if_pos c26] at h
    exact j_q_sum_324 C y0 y2 y5 y7 y9 y11 w24 h _ _ _ hW (lv_sub hl [0, 1, 3, 4, 5, 6] rfl)
  · rw [if_neg c26] at h
    refine lv_aload_n hx hb d_q_sum_317 rfl (lv_at hl 0 rfl) ?_
    refine lv_iconst (v := (3 : Int32)) hx hb d_q_sum_318 (by decide) ?_
    refine lv_iload hx hb d_q_sum_319 (lv_at hl 2 rfl) ?_
    replace h := bs h
    obtain ⟨w28, hw28, h⟩ := h
    refine cv_q_442 (As := [.int (3 : Int32), .int y4]) (rest := []) hx hb hml hown hts hK hG hW (c_q_warn l D cA base hw28) (kb_q_warn hw28) ⟨Nat.le_of_ble_eq_true rfl, Nat.le_of_ble_eq_true rfl⟩ ⟨Nat.le_of_ble_eq_true rfl, Nat.le_of_ble_eq_true rfl⟩ rfl hl.1 rfl (Nat.le_of_ble_eq_true rfl) d_q_sum_321 (fun H locs hW => ?_)
    exact j_q_sum_324 C y0 y2 y5 y7 y9 y11 w28 h _ _ _ hW (lv_sub hl [0, 1, 3, 4, 5, 6] rfl)
set_option maxHeartbeats 4000000 in
set_option maxRecDepth 100000 in
theorem j_q_sum_304 {p : Program} {l : Launch} {e : Env} {s : State} {m : MethodId} {args : Array Value} {below : List Frame} {meth : Method} {c : Code} {D : va_G} {cA : Nat → ClassId} {base : Nat} {w' : WW} (C : cx b_q_sum (none) 21 y_q_sum.cls "sum" p s m args meth c D cA base)   : ∀ (y0 : Nat) (y2 : Int32) (y4 : Int32) (y5 : Int64) (y7 : Int64) (y9 : Int64) (z0 : Int64) (w : WW), f_q_sum_304 y0 y2 y4 y5 y7 y9 z0 w = some w' → ∀ (H : Heap) (locs : List Loc) (ls : Array Slot), wo_S D cls cA base s w H locs → lv_has ls 21 [(0, .ref (base + y0)), (2, .int y2), (4, .int y4), (5, .long y5), (7, .long y7), (9, .long y9)] → W p l e rm_q_sum s m args below meth c H locs 0 0 (MQ below (wo_Q D cls cA base none w') args s rm_q_sum.cells rm_q_sum.slots (wo_B base)) (F0 m 304 ls [.long z0]) := by
  obtain ⟨hx, hb, hr, hml, hown, hts, hlk, hnm, hK, hG⟩ := id C
  intro y0 y2 y4 y5 y7 y9 z0 w h H locs ls hW hl
  unfold f_q_sum_304 at h
  refine lv_lstore (lv' := [(11, .long z0), (0, .ref (base + y0)), (2, .int y2), (4, .int y4), (5, .long y5), (7, .long y7), (9, .long y9)]) hx hb d_q_sum_304 hl (by decide) rfl (fun ls hl => ?_)
  exact j_q_sum_306 C y0 y2 y4 y5 y7 y9 z0 w h _ _ _ hW (lv_sub hl [1, 2, 3, 4, 5, 6, 0] rfl)
set_option maxHeartbeats 4000000 in
set_option maxRecDepth 100000 in
theorem j_q_sum_251 {p : Program} {l : Launch} {e : Env} {s : State} {m : MethodId} {args : Array Value} {below : List Frame} {meth : Method} {c : Code} {D : va_G} {cA : Nat → ClassId} {base : Nat} {w' : WW} (C : cx b_q_sum (none) 21 y_q_sum.cls "sum" p s m args meth c D cA base)   : ∀ (y0 : Nat) (y2 : Int32) (y3 : Int32) (y4 : Int32) (y5 : Int64) (y13 : Int32) (z0 : Int64) (w : WW), f_q_sum_251 y0 y2 y3 y4 y5 y13 z0 w = some w' → ∀ (H : Heap) (locs : List Loc) (ls : Array Slot), wo_S D cls cA base s w H locs → lv_has ls 21 [(0, .ref (base + y0)), (2, .int y2), (3, .int y3), (4, .int y4), (5, .long y5), (13, .int y13)] → W p l e rm_q_sum s m args below meth c H locs 0 0 (MQ below (wo_Q D cls cA base none w') args s rm_q_sum.cells rm_q_sum.slots (wo_B base)) (F0 m 251 ls [.long z0]) := by
  obtain ⟨hx, hb, hr, hml, hown, hts, hlk, hnm, hK, hG⟩ := id C
  intro y0 y2 y3 y4 y5 y13 z0 w h H locs ls hW hl
  unfold f_q_sum_251 at h
  refine lv_lstore (lv' := [(7, .long z0), (0, .ref (base + y0)), (2, .int y2), (3, .int y3), (4, .int y4), (5, .long y5), (13, .int y13)]) hx hb d_q_sum_251 hl (by decide) rfl (fun ls hl => ?_)
  refine lv_aload_n hx hb d_q_sum_253 rfl (lv_at hl 1 rfl) ?_
  replace h := bs h
  obtain ⟨x13, hx13, h⟩ := h
  refine gf_q_124 hx hb hts hown hK hG hW (gN_s hx13) d_q_sum_254 ?_
  refine lv_iload_n hx hb d_q_sum_257 rfl (lv_at hl 2 rfl) ?_
  replace h := bs h
  obtain ⟨x14, hx14, h⟩ := h
  refine wo_lald hx hb hK hW (t := 1) rfl hx14 d_q_sum_258 ?_
  refine lv_aload_n hx hb d_q_sum_259 rfl (lv_at hl 1 rfl) ?_
  replace h := bs h
  obtain ⟨x15, hx15, h⟩ := h
  refine gf_q_124 hx hb hts hown hK hG hW (gN_s hx15) d_q_sum_260 ?_
  refine lv_iload_n hx hb d_q_sum_263 rfl (lv_at hl 3 rfl) ?_
  replace h := bs h
  obtain ⟨x16, hx16, h⟩ := h
  refine wo_lald hx hb hK hW (t := 1) rfl hx16 d_q_sum_264 ?_
  replace h := bs2 h
  obtain ⟨x18, w17, hw17, h⟩ := h
  refine cs_q_403 (As := [.long x14, .long x16]) (rest := []) hx hb hml hown hts hK hG hW (c_q_gcd l D cA base hw17) ⟨Nat.le_of_ble_eq_true rfl, Nat.le_of_ble_eq_true rfl⟩ ⟨Nat.le_of_ble_eq_true rfl, Nat.le_of_ble_eq_true rfl⟩ rfl hl.1 rfl (Nat.le_of_ble_eq_true rfl) d_q_sum_265 (fun H locs hW => ?_)
  refine lv_lstore (lv' := [(9, .long x18), (7, .long z0), (0, .ref (base + y0)), (2, .int y2), (3, .int y3), (4, .int y4), (5, .long y5), (13, .int y13)]) hx hb d_q_sum_268 hl (by decide) rfl (fun ls hl => ?_)
  refine lv_iload hx hb d_q_sum_270 (lv_at hl 7 rfl) ?_
  refine lv_if_eq (tgt := 291) hx hb d_q_sum_272 (by decide) (fun c19 => ?_) (fun c19 => ?_)
  · rw [if_pos c19] at h
    refine lv_aload_n hx hb d_q_sum_291 rfl (lv_at hl 2 rfl) ?_
    replace h := bs h
    obtain ⟨x20, hx20, h⟩ := h
    refine gf_q_127 hx hb hts hown hK hG hW (gN_s hx20) d_q_sum_292 ?_
    refine lv_iload_n hx hb d_q_sum_295 rfl (lv_at hl 3 rfl) ?_
    replace h := bs h
    obtain ⟨x21, hx21, h⟩ := h
    refine wo_lald hx hb hK hW (t := 1) rfl hx21 d_q_sum_296 ?_
    refine lv_aload_n hx hb d_q_sum_297 rfl (lv_at hl 2 rfl) ?_
    replace h := bs h
    obtain ⟨x22, hx22, h⟩ := h
    refine gf_q_127 hx hb hts hown hK hG hW (gN_s hx22) d_q_sum_298 ?_
    refine lv_iload_n hx hb d_q_sum_301 rfl (lv_at hl 4 rfl) ?_
    replace h := bs h
    obtain ⟨x23, hx23, h⟩ := h
    refine wo_lald hx hb hK hW (t := 1) rfl hx23 d_q_sum_302 ?_
    refine lv_lsub hx hb d_q_sum_303 ?_
    exact j_q_sum_304 C y0 y2 y4 y5 z0 x18 (x21 - x23) w17 h _ _ _ hW (lv_sub hl [2, 3, 5, 6, 1, 0] rfl)
  · rw [if_neg c19] at h
    refine lv_aload_n hx hb d_q_sum_275 rfl (lv_at hl 2 rfl) ?_
    replace h := bs h
    obtain ⟨x29, hx29, h⟩ := h
    refine gf_q_127 hx hb hts hown hK hG hW (gN_s hx29) d_q_sum_276 ?_
    refine lv_iload_n hx hb d_q_sum_279 rfl (lv_at hl 3 rfl) ?_
    replace h := bs h
    obtain ⟨x30, hx30, h⟩ := h
    refine wo_lald hx hb hK hW (t := 1) rfl hx30 d_q_sum_280 ?_
    refine lv_aload_n hx hb d_q_sum_281 rfl (lv_at hl 2 rfl) ?_
    replace h := bs h
    obtain ⟨x31, hx31, h⟩ := h
    refine gf_q_127 hx hb hts hown hK hG hW (gN_s hx31) d_q_sum_282 ?_
    refine lv_iload_n hx hb d_q_sum_285 rfl (lv_at hl 4 rfl) ?_
    replace h := bs h
    obtain ⟨x32, hx32, h⟩ := h
    refine wo_lald hx hb hK hW (t := 1) rfl hx32 d_q_sum_286 ?_
    refine lv_ladd hx hb d_q_sum_287 ?_
    refine lv_goto (tgt := 304) hx hb d_q_sum_288 (by decide) ?_
    exact j_q_sum_304 C y0 y2 y4 y5 z0 x18 (x30 + x32) w17 h _ _ _ hW (lv_sub hl [2, 3, 5, 6, 1, 0] rfl)
set_option maxHeartbeats 4000000 in
set_option maxRecDepth 100000 in
theorem j_q_sum_215 {p : Program} {l : Launch} {e : Env} {s : State} {m : MethodId} {args : Array Value} {below : List Frame} {meth : Method} {c : Code} {D : va_G} {cA : Nat → ClassId} {base : Nat} {w' : WW} (C : cx b_q_sum (none) 21 y_q_sum.cls "sum" p s m args meth c D cA base)   : ∀ (y0 : Nat) (y2 : Int32) (y3 : Int32) (y4 : Int32) (y13 : Int32) (z0 : Int64) (w : WW), f_q_sum_215 y0 y2 y3 y4 y13 z0 w = some w' → ∀ (H : Heap) (locs : List Loc) (ls : Array Slot), wo_S D cls cA base s w H locs → lv_has ls 21 [(0, .ref (base + y0)), (2, .int y2), (3, .int y3), (4, .int y4), (13, .int y13)] → W p l e rm_q_sum s m args below meth c H locs 0 0 (MQ below (wo_Q D cls cA base none w') args s rm_q_sum.cells rm_q_sum.slots (wo_B base)) (F0 m 215 ls [.long z0]) := by
  obtain ⟨hx, hb, hr, hml, hown, hts, hlk, hnm, hK, hG⟩ := id C
  intro y0 y2 y3 y4 y13 z0 w h H locs ls hW hl
  unfold f_q_sum_215 at h
  refine lv_lstore (lv' := [(5, .long z0), (0, .ref (base + y0)), (2, .int y2), (3, .int y3), (4, .int y4), (13, .int y13)]) hx hb d_q_sum_215 hl (by decide) rfl (fun ls hl => ?_)
  refine lv_iload hx hb d_q_sum_217 (lv_at hl 5 rfl) ?_
  refine lv_if_eq (tgt := 238) hx hb d_q_sum_219 (by decide) (fun c8 => ?_) (fun c8 => ?_)
  · rw [if_pos c8] at h
    refine lv_aload_n hx hb d_q_sum_238 rfl (lv_at hl 1 rfl) ?_
    replace h := bs h
    obtain ⟨x9, hx9, h⟩ := h
    refine gf_q_121 hx hb hts hown hK hG hW (gN_s hx9) d_q_sum_239 ?_
    refine lv_iload_n hx hb d_q_sum_242 rfl (lv_at hl 2 rfl) ?_
    replace h := bs h
    obtain ⟨x10, hx10, h⟩ := h
    refine wo_lald hx hb hK hW (t := 1) rfl hx10 d_q_sum_243 ?_
    refine lv_aload_n hx hb d_q_sum_244 rfl (lv_at hl 1 rfl) ?_
    replace h := bs h
    obtain ⟨x11, hx11, h⟩ := h
    refine gf_q_117 hx hb hts hown hK hG hW (gN_s hx11) d_q_sum_245 ?_
    refine lv_iload_n hx hb d_q_sum_248 rfl (lv_at hl 3 rfl) ?_
    replace h := bs h
    obtain ⟨x12, hx12, h⟩ := h
    refine wo_lald hx hb hK hW (t := 1) rfl hx12 d_q_sum_249 ?_
    refine lv_lsub hx hb d_q_sum_250 ?_
    exact j_q_sum_251 C y0 y2 y3 y4 z0 y13 (x10 - x12) w h _ _ _ hW (lv_sub hl [1, 2, 3, 4, 0, 5] rfl)
  · rw [if_neg c8] at h
    refine lv_aload_n hx hb d_q_sum_222 rfl (lv_at hl 1 rfl) ?_
    replace h := bs h
    obtain ⟨x33, hx33, h⟩ := h
    refine gf_q_121 hx hb hts hown hK hG hW (gN_s hx33) d_q_sum_223 ?_
    refine lv_iload_n hx hb d_q_sum_226 rfl (lv_at hl 2 rfl) ?_
    replace h := bs h
    obtain ⟨x34, hx34, h⟩ := h
    refine wo_lald hx hb hK hW (t := 1) rfl hx34 d_q_sum_227 ?_
    refine lv_aload_n hx hb d_q_sum_228 rfl (lv_at hl 1 rfl) ?_
    replace h := bs h
    obtain ⟨x35, hx35, h⟩ := h
    refine gf_q_121 hx hb hts hown hK hG hW (gN_s hx35) d_q_sum_229 ?_
    refine lv_iload_n hx hb d_q_sum_232 rfl (lv_at hl 3 rfl) ?_
    replace h := bs h
    obtain ⟨x36, hx36, h⟩ := h
    refine wo_lald hx hb hK hW (t := 1) rfl hx36 d_q_sum_233 ?_
    refine lv_ladd hx hb d_q_sum_234 ?_
    refine lv_goto (tgt := 251) hx hb d_q_sum_235 (by decide) ?_
    exact j_q_sum_251 C y0 y2 y3 y4 z0 y13 (x34 + x36) w h _ _ _ hW (lv_sub hl [1, 2, 3, 4, 0, 5] rfl)
set_option maxHeartbeats 4000000 in
set_option maxRecDepth 100000 in
theorem j_q_sum_179 {p : Program} {l : Launch} {e : Env} {s : State} {m : MethodId} {args : Array Value} {below : List Frame} {meth : Method} {c : Code} {D : va_G} {cA : Nat → ClassId} {base : Nat} {w' : WW} (C : cx b_q_sum (none) 21 y_q_sum.cls "sum" p s m args meth c D cA base)   : ∀ (y0 : Nat) (y2 : Int32) (y3 : Int32) (y4 : Int32) (z0 : Int32) (w : WW), f_q_sum_179 y0 y2 y3 y4 z0 w = some w' → ∀ (H : Heap) (locs : List Loc) (ls : Array Slot), wo_S D cls cA base s w H locs → lv_has ls 21 [(0, .ref (base + y0)), (2, .int y2), (3, .int y3), (4, .int y4)] → W p l e rm_q_sum s m args below meth c H locs 0 0 (MQ below (wo_Q D cls cA base none w') args s rm_q_sum.cells rm_q_sum.slots (wo_B base)) (F0 m 179 ls [.int z0]) := by
  obtain ⟨hx, hb, hr, hml, hown, hts, hlk, hnm, hK, hG⟩ := id C
  intro y0 y2 y3 y4 z0 w h H locs ls hW hl
  unfold f_q_sum_179 at h
  refine lv_istore (lv' := [(13, .int z0), (0, .ref (base + y0)), (2, .int y2), (3, .int y3), (4, .int y4)]) hx hb d_q_sum_179 hl (by decide) rfl (fun ls hl => ?_)
  refine lv_iload hx hb d_q_sum_181 (lv_at hl 0 rfl) ?_
  refine lv_if_eq (tgt := 202) hx hb d_q_sum_183 (by decide) (fun c3 => ?_) (fun c3 => ?_)
  · rw [if_pos c3] at h
    refine lv_aload_n hx hb d_q_sum_202 rfl (lv_at hl 1 rfl) ?_
    replace h := bs h
    obtain ⟨x4, hx4, h⟩ := h
    refine gf_q_117 hx hb hts hown hK hG hW (gN_s hx4) d_q_sum_203 ?_
    refine lv_iload_n hx hb d_q_sum_206 rfl (lv_at hl 2 rfl) ?_
    replace h := bs h
    obtain ⟨x5, hx5, h⟩ := h
    refine wo_lald hx hb hK hW (t := 1) rfl hx5 d_q_sum_207 ?_
    refine lv_aload_n hx hb d_q_sum_208 rfl (lv_at hl 1 rfl) ?_
    replace h := bs h
    obtain ⟨x6, hx6, h⟩ := h
    refine gf_q_121 hx hb hts hown hK hG hW (gN_s hx6) d_q_sum_209 ?_
    refine lv_iload_n hx hb d_q_sum_212 rfl (lv_at hl 3 rfl) ?_
    replace h := bs h
    obtain ⟨x7, hx7, h⟩ := h
    refine wo_lald hx hb hK hW (t := 1) rfl hx7 d_q_sum_213 ?_
    refine lv_lsub hx hb d_q_sum_214 ?_
    exact j_q_sum_215 C y0 y2 y3 y4 z0 (x5 - x7) w h _ _ _ hW (lv_sub hl [1, 2, 3, 4, 0] rfl)
  · rw [if_neg c3] at h
    refine lv_aload_n hx hb d_q_sum_186 rfl (lv_at hl 1 rfl) ?_
    replace h := bs h
    obtain ⟨x37, hx37, h⟩ := h
    refine gf_q_117 hx hb hts hown hK hG hW (gN_s hx37) d_q_sum_187 ?_
    refine lv_iload_n hx hb d_q_sum_190 rfl (lv_at hl 2 rfl) ?_
    replace h := bs h
    obtain ⟨x38, hx38, h⟩ := h
    refine wo_lald hx hb hK hW (t := 1) rfl hx38 d_q_sum_191 ?_
    refine lv_aload_n hx hb d_q_sum_192 rfl (lv_at hl 1 rfl) ?_
    replace h := bs h
    obtain ⟨x39, hx39, h⟩ := h
    refine gf_q_117 hx hb hts hown hK hG hW (gN_s hx39) d_q_sum_193 ?_
    refine lv_iload_n hx hb d_q_sum_196 rfl (lv_at hl 3 rfl) ?_
    replace h := bs h
    obtain ⟨x40, hx40, h⟩ := h
    refine wo_lald hx hb hK hW (t := 1) rfl hx40 d_q_sum_197 ?_
    refine lv_ladd hx hb d_q_sum_198 ?_
    refine lv_goto (tgt := 215) hx hb d_q_sum_199 (by decide) ?_
    exact j_q_sum_215 C y0 y2 y3 y4 z0 (x38 + x40) w h _ _ _ hW (lv_sub hl [1, 2, 3, 4, 0] rfl)
set_option maxHeartbeats 4000000 in
set_option maxRecDepth 100000 in
theorem c_q_sum (l : Launch) (D : va_G) (cA : Nat → ClassId) (base : Nat) {a0 : Nat} {a1 : Int32} {a2 : Int32} {a3 : Int32} {a4 : Int32} {w w' : WW} (h : f_q_sum a0 a1 a2 a3 a4 w = some w') : mt l D cls (wo_tys cA) cA base y_q_sum (Cond.code y_q_sum b_q_sum 21 (none) :: gt) rm_q_sum [.ref (base + a0), .int a1, .int a2, .int a3, .int a4] w none w' rm_q_sum.cells rm_q_sum.slots := by
  refine mt_start (by decide) (Nat.le_of_ble_eq_true rfl) ?_
  intro p e s m below meth c ls hx hb hr hml hown hts hlk hnm hK hG hW hl
  have C : cx b_q_sum (none) 21 y_q_sum.cls "sum" p s m [.ref (base + a0), .int a1, .int a2, .int a3, .int a4].toArray meth c D cA base := ⟨hx, hb, hr, hml, hown, hts, hlk, hnm, hK, hG⟩
  have hl : lv_has ls 21 [(0, .ref (base + a0)), (1, .int a1), (2, .int a2), (3, .int a3), (4, .int a4)] := hl
  unfold f_q_sum at h
  replace h := its h
  obtain ⟨-, h⟩ := h
  refine lv_iload_n hx hb d_q_sum_0 rfl (lv_at hl 1 rfl) ?_
  refine lv_bipush (v := (7 : Int32)) hx hb d_q_sum_1 (by decide) ?_
  refine lv_icmp_ne (tgt := 169) hx hb d_q_sum_3 (by decide) (fun c1 => ?_) (fun c1 => ?_)
  · rw [if_neg c1] at h
    refine lv_iload_n hx hb d_q_sum_169 rfl (lv_at hl 1 rfl) ?_
    refine lv_iconst (v := (5 : Int32)) hx hb d_q_sum_170 (by decide) ?_
    refine lv_icmp_ne (tgt := 178) hx hb d_q_sum_171 (by decide) (fun c2 => ?_) (fun c2 => ?_)
    · rw [if_neg c2] at h
      refine lv_iconst (v := (0 : Int32)) hx hb d_q_sum_178 (by decide) ?_
      exact j_q_sum_179 C a0 a2 a3 a4 (0 : Int32) w h _ _ _ hW (lv_sub hl [0, 2, 3, 4] rfl)
    · rw [if_pos c2] at h
      refine lv_iconst (v := (1 : Int32)) hx hb d_q_sum_174 (by decide) ?_
      refine lv_goto (tgt := 179) hx hb d_q_sum_175 (by decide) ?_
      exact j_q_sum_179 C a0 a2 a3 a4 (1 : Int32) w h _ _ _ hW (lv_sub hl [0, 2, 3, 4] rfl)
  · rw [if_pos c1] at h
    refine lv_aload_n hx hb d_q_sum_6 rfl (lv_at hl 0 rfl) ?_
    replace h := bs h
    obtain ⟨x41, hx41, h⟩ := h
    refine gf_q_117 hx hb hts hown hK hG hW (gN_s hx41) d_q_sum_7 ?_
    refine lv_iload_n hx hb d_q_sum_10 rfl (lv_at hl 2 rfl) ?_
    replace h := bs h
    obtain ⟨x42, hx42, h⟩ := h
    refine wo_lald hx hb hK hW (t := 1) rfl hx42 d_q_sum_11 ?_
    refine lv_aload_n hx hb d_q_sum_12 rfl (lv_at hl 0 rfl) ?_
    replace h := bs h
    obtain ⟨x43, hx43, h⟩ := h
    refine gf_q_117 hx hb hts hown hK hG hW (gN_s hx43) d_q_sum_13 ?_
    refine lv_iload_n hx hb d_q_sum_16 rfl (lv_at hl 3 rfl) ?_
    replace h := bs h
    obtain ⟨x44, hx44, h⟩ := h
    refine wo_lald hx hb hK hW (t := 1) rfl hx44 d_q_sum_17 ?_
    refine lv_lmul hx hb d_q_sum_18 ?_
    refine lv_lstore (lv' := [(13, .long (x42 * x44)), (0, .ref (base + a0)), (1, .int a1), (2, .int a2), (3, .int a3), (4, .int a4)]) hx hb d_q_sum_19 hl (by decide) rfl (fun ls hl => ?_)
    refine lv_aload_n hx hb d_q_sum_21 rfl (lv_at hl 1 rfl) ?_
    replace h := bs h
    obtain ⟨x45, hx45, h⟩ := h
    refine gf_q_117 hx hb hts hown hK hG hW (gN_s hx45) d_q_sum_22 ?_
    refine lv_iload_n hx hb d_q_sum_25 rfl (lv_at hl 3 rfl) ?_
    replace h := bs h
    obtain ⟨x46, hx46, h⟩ := h
    refine wo_lald hx hb hK hW (t := 1) rfl hx46 d_q_sum_26 ?_
    refine lv_aload_n hx hb d_q_sum_27 rfl (lv_at hl 1 rfl) ?_
    replace h := bs h
    obtain ⟨x47, hx47, h⟩ := h
    refine gf_q_121 hx hb hts hown hK hG hW (gN_s hx47) d_q_sum_28 ?_
    refine lv_iload_n hx hb d_q_sum_31 rfl (lv_at hl 4 rfl) ?_
    replace h := bs h
    obtain ⟨x48, hx48, h⟩ := h
    refine wo_lald hx hb hK hW (t := 1) rfl hx48 d_q_sum_32 ?_
    refine lv_lmul hx hb d_q_sum_33 ?_
    refine lv_lstore (lv' := [(15, .long (x46 * x48)), (13, .long (x42 * x44)), (0, .ref (base + a0)), (1, .int a1), (2, .int a2), (3, .int a3), (4, .int a4)]) hx hb d_q_sum_34 hl (by decide) rfl (fun ls hl => ?_)
    refine lv_aload_n hx hb d_q_sum_36 rfl (lv_at hl 2 rfl) ?_
    replace h := bs h
    obtain ⟨x49, hx49, h⟩ := h
    refine gf_q_121 hx hb hts hown hK hG hW (gN_s hx49) d_q_sum_37 ?_
    refine lv_iload_n hx hb d_q_sum_40 rfl (lv_at hl 4 rfl) ?_
    replace h := bs h
    obtain ⟨x50, hx50, h⟩ := h
    refine wo_lald hx hb hK hW (t := 1) rfl hx50 d_q_sum_41 ?_
    refine lv_aload_n hx hb d_q_sum_42 rfl (lv_at hl 2 rfl) ?_
    replace h := bs h
    obtain ⟨x51, hx51, h⟩ := h
    refine gf_q_117 hx hb hts hown hK hG hW (gN_s hx51) d_q_sum_43 ?_
    refine lv_iload_n hx hb d_q_sum_46 rfl (lv_at hl 5 rfl) ?_
    replace h := bs h
    obtain ⟨x52, hx52, h⟩ := h
    refine wo_lald hx hb hK hW (t := 1) rfl hx52 d_q_sum_47 ?_
    refine lv_lmul hx hb d_q_sum_48 ?_
    refine lv_lstore (lv' := [(17, .long (x50 * x52)), (15, .long (x46 * x48)), (13, .long (x42 * x44)), (0, .ref (base + a0)), (1, .int a1), (2, .int a2), (3, .int a3), (4, .int a4)]) hx hb d_q_sum_49 hl (by decide) rfl (fun ls hl => ?_)
    refine lv_aload_n hx hb d_q_sum_51 rfl (lv_at hl 3 rfl) ?_
    replace h := bs h
    obtain ⟨x53, hx53, h⟩ := h
    refine gf_q_121 hx hb hts hown hK hG hW (gN_s hx53) d_q_sum_52 ?_
    refine lv_iload_n hx hb d_q_sum_55 rfl (lv_at hl 5 rfl) ?_
    replace h := bs h
    obtain ⟨x54, hx54, h⟩ := h
    refine wo_lald hx hb hK hW (t := 1) rfl hx54 d_q_sum_56 ?_
    refine lv_aload_n hx hb d_q_sum_57 rfl (lv_at hl 3 rfl) ?_
    replace h := bs h
    obtain ⟨x55, hx55, h⟩ := h
    refine gf_q_121 hx hb hts hown hK hG hW (gN_s hx55) d_q_sum_58 ?_
    refine lv_iload_n hx hb d_q_sum_61 rfl (lv_at hl 6 rfl) ?_
    replace h := bs h
    obtain ⟨x56, hx56, h⟩ := h
    refine wo_lald hx hb hK hW (t := 1) rfl hx56 d_q_sum_62 ?_
    refine lv_lmul hx hb d_q_sum_63 ?_
    refine lv_lstore (lv' := [(19, .long (x54 * x56)), (17, .long (x50 * x52)), (15, .long (x46 * x48)), (13, .long (x42 * x44)), (0, .ref (base + a0)), (1, .int a1), (2, .int a2), (3, .int a3), (4, .int a4)]) hx hb d_q_sum_64 hl (by decide) rfl (fun ls hl => ?_)
    refine lv_lload hx hb d_q_sum_66 (lv_at hl 3 rfl) ?_
    refine lv_lload hx hb d_q_sum_68 (lv_at hl 2 rfl) ?_
    replace h := bs2 h
    obtain ⟨x58, w57, hw57, h⟩ := h
    refine cs_q_432 (As := [.long (x42 * x44), .long (x46 * x48)]) (rest := []) hx hb hml hown hts hK hG hW (c_q_min l D cA base hw57) ⟨Nat.le_of_ble_eq_true rfl, Nat.le_of_ble_eq_true rfl⟩ ⟨Nat.le_of_ble_eq_true rfl, Nat.le_of_ble_eq_true rfl⟩ rfl hl.1 rfl (Nat.le_of_ble_eq_true rfl) d_q_sum_70 (fun H locs hW => ?_)
    refine lv_lload hx hb d_q_sum_73 (lv_at hl 1 rfl) ?_
    refine lv_lload hx hb d_q_sum_75 (lv_at hl 0 rfl) ?_
    replace h := bs2 h
    obtain ⟨x60, w59, hw59, h⟩ := h
    refine cs_q_432 (As := [.long (x50 * x52), .long (x54 * x56)]) (rest := [.long x58]) hx hb hml hown hts hK hG hW (c_q_min l D cA base hw59) ⟨Nat.le_of_ble_eq_true rfl, Nat.le_of_ble_eq_true rfl⟩ ⟨Nat.le_of_ble_eq_true rfl, Nat.le_of_ble_eq_true rfl⟩ rfl hl.1 rfl (Nat.le_of_ble_eq_true rfl) d_q_sum_77 (fun H locs hW => ?_)
    replace h := bs2 h
    obtain ⟨x62, w61, hw61, h⟩ := h
    refine cs_q_432 (As := [.long x58, .long x60]) (rest := []) hx hb hml hown hts hK hG hW (c_q_min l D cA base hw61) ⟨Nat.le_of_ble_eq_true rfl, Nat.le_of_ble_eq_true rfl⟩ ⟨Nat.le_of_ble_eq_true rfl, Nat.le_of_ble_eq_true rfl⟩ rfl hl.1 rfl (Nat.le_of_ble_eq_true rfl) d_q_sum_80 (fun H locs hW => ?_)
    refine lv_lstore (lv' := [(5, .long x62), (19, .long (x54 * x56)), (17, .long (x50 * x52)), (15, .long (x46 * x48)), (13, .long (x42 * x44)), (0, .ref (base + a0)), (1, .int a1), (2, .int a2), (3, .int a3), (4, .int a4)]) hx hb d_q_sum_83 hl (by decide) rfl (fun ls hl => ?_)
    refine lv_lload hx hb d_q_sum_85 (lv_at hl 4 rfl) ?_
    refine lv_lload hx hb d_q_sum_87 (lv_at hl 3 rfl) ?_
    replace h := bs2 h
    obtain ⟨x64, w63, hw63, h⟩ := h
    refine cs_q_435 (As := [.long (x42 * x44), .long (x46 * x48)]) (rest := []) hx hb hml hown hts hK hG hW (c_q_max l D cA base hw63) ⟨Nat.le_of_ble_eq_true rfl, Nat.le_of_ble_eq_true rfl⟩ ⟨Nat.le_of_ble_eq_true rfl, Nat.le_of_ble_eq_true rfl⟩ rfl hl.1 rfl (Nat.le_of_ble_eq_true rfl) d_q_sum_89 (fun H locs hW => ?_)
    refine lv_lload hx hb d_q_sum_92 (lv_at hl 2 rfl) ?_
    refine lv_lload hx hb d_q_sum_94 (lv_at hl 1 rfl) ?_
    replace h := bs2 h
    obtain ⟨x66, w65, hw65, h⟩ := h
    refine cs_q_435 (As := [.long (x50 * x52), .long (x54 * x56)]) (rest := [.long x64]) hx hb hml hown hts hK hG hW (c_q_max l D cA base hw65) ⟨Nat.le_of_ble_eq_true rfl, Nat.le_of_ble_eq_true rfl⟩ ⟨Nat.le_of_ble_eq_true rfl, Nat.le_of_ble_eq_true rfl⟩ rfl hl.1 rfl (Nat.le_of_ble_eq_true rfl) d_q_sum_96 (fun H locs hW => ?_)
    replace h := bs2 h
    obtain ⟨x68, w67, hw67, h⟩ := h
    refine cs_q_435 (As := [.long x64, .long x66]) (rest := []) hx hb hml hown hts hK hG hW (c_q_max l D cA base hw67) ⟨Nat.le_of_ble_eq_true rfl, Nat.le_of_ble_eq_true rfl⟩ ⟨Nat.le_of_ble_eq_true rfl, Nat.le_of_ble_eq_true rfl⟩ rfl hl.1 rfl (Nat.le_of_ble_eq_true rfl) d_q_sum_99 (fun H locs hW => ?_)
    refine lv_lstore (lv' := [(7, .long x68), (5, .long x62), (19, .long (x54 * x56)), (17, .long (x50 * x52)), (15, .long (x46 * x48)), (13, .long (x42 * x44)), (0, .ref (base + a0)), (1, .int a1), (2, .int a2), (3, .int a3), (4, .int a4)]) hx hb d_q_sum_102 hl (by decide) rfl (fun ls hl => ?_)
    refine lv_aload_n hx hb d_q_sum_104 rfl (lv_at hl 6 rfl) ?_
    replace h := bs h
    obtain ⟨x69, hx69, h⟩ := h
    refine gf_q_124 hx hb hts hown hK hG hW (gN_s hx69) d_q_sum_105 ?_
    refine lv_iload_n hx hb d_q_sum_108 rfl (lv_at hl 8 rfl) ?_
    replace h := bs h
    obtain ⟨x70, hx70, h⟩ := h
    refine wo_lald hx hb hK hW (t := 1) rfl hx70 d_q_sum_109 ?_
    refine lv_aload_n hx hb d_q_sum_110 rfl (lv_at hl 6 rfl) ?_
    replace h := bs h
    obtain ⟨x71, hx71, h⟩ := h
    refine gf_q_124 hx hb hts hown hK hG hW (gN_s hx71) d_q_sum_111 ?_
    refine lv_iload_n hx hb d_q_sum_114 rfl (lv_at hl 9 rfl) ?_
    replace h := bs h
    obtain ⟨x72, hx72, h⟩ := h
    refine wo_lald hx hb hK hW (t := 1) rfl hx72 d_q_sum_115 ?_
    refine lv_lmul hx hb d_q_sum_116 ?_
    refine lv_aload_n hx hb d_q_sum_117 rfl (lv_at hl 6 rfl) ?_
    replace h := bs h
    obtain ⟨x73, hx73, h⟩ := h
    refine gf_q_124 hx hb hts hown hK hG hW (gN_s hx73) d_q_sum_118 ?_
    refine lv_iload_n hx hb d_q_sum_121 rfl (lv_at hl 8 rfl) ?_
    replace h := bs h
    obtain ⟨x74, hx74, h⟩ := h
    refine wo_lald hx hb hK hW (t := 1) rfl hx74 d_q_sum_122 ?_
    refine lv_aload_n hx hb d_q_sum_123 rfl (lv_at hl 6 rfl) ?_
    replace h := bs h
    obtain ⟨x75, hx75, h⟩ := h
    refine gf_q_127 hx hb hts hown hK hG hW (gN_s hx75) d_q_sum_124 ?_
    refine lv_iload_n hx hb d_q_sum_127 rfl (lv_at hl 9 rfl) ?_
    replace h := bs h
    obtain ⟨x76, hx76, h⟩ := h
    refine wo_lald hx hb hK hW (t := 1) rfl hx76 d_q_sum_128 ?_
    refine lv_lmul hx hb d_q_sum_129 ?_
    replace h := bs2 h
    obtain ⟨x78, w77, hw77, h⟩ := h
    refine cs_q_403 (As := [.long (x70 * x72), .long (x74 * x76)]) (rest := []) hx hb hml hown hts hK hG hW (c_q_gcd l D cA base hw77) ⟨Nat.le_of_ble_eq_true rfl, Nat.le_of_ble_eq_true rfl⟩ ⟨Nat.le_of_ble_eq_true rfl, Nat.le_of_ble_eq_true rfl⟩ rfl hl.1 rfl (Nat.le_of_ble_eq_true rfl) d_q_sum_130 (fun H locs hW => ?_)
    refine lv_aload_n hx hb d_q_sum_133 rfl (lv_at hl 6 rfl) ?_
    replace h := bs h
    obtain ⟨x79, hx79, h⟩ := h
    refine gf_q_124 hx hb hts hown hK hG hW (gN_s hx79) d_q_sum_134 ?_
    refine lv_iload_n hx hb d_q_sum_137 rfl (lv_at hl 9 rfl) ?_
    replace h := bs h
    obtain ⟨x80, hx80, h⟩ := h
    refine wo_lald hx hb hK hW (t := 1) rfl hx80 d_q_sum_138 ?_
    refine lv_aload_n hx hb d_q_sum_139 rfl (lv_at hl 6 rfl) ?_
    replace h := bs h
    obtain ⟨x81, hx81, h⟩ := h
    refine gf_q_127 hx hb hts hown hK hG hW (gN_s hx81) d_q_sum_140 ?_
    refine lv_iload_n hx hb d_q_sum_143 rfl (lv_at hl 8 rfl) ?_
    replace h := bs h
    obtain ⟨x82, hx82, h⟩ := h
    refine wo_lald hx hb hK hW (t := 1) rfl hx82 d_q_sum_144 ?_
    refine lv_lmul hx hb d_q_sum_145 ?_
    replace h := bs2 h
    obtain ⟨x84, w83, hw83, h⟩ := h
    refine cs_q_403 (As := [.long x78, .long (x80 * x82)]) (rest := []) hx hb hml hown hts hK hG hW (c_q_gcd l D cA base hw83) ⟨Nat.le_of_ble_eq_true rfl, Nat.le_of_ble_eq_true rfl⟩ ⟨Nat.le_of_ble_eq_true rfl, Nat.le_of_ble_eq_true rfl⟩ rfl hl.1 rfl (Nat.le_of_ble_eq_true rfl) d_q_sum_146 (fun H locs hW => ?_)
    refine lv_lstore (lv' := [(9, .long x84), (7, .long x68), (5, .long x62), (19, .long (x54 * x56)), (17, .long (x50 * x52)), (15, .long (x46 * x48)), (13, .long (x42 * x44)), (0, .ref (base + a0)), (1, .int a1), (2, .int a2), (3, .int a3), (4, .int a4)]) hx hb d_q_sum_149 hl (by decide) rfl (fun ls hl => ?_)
    refine lv_aload_n hx hb d_q_sum_151 rfl (lv_at hl 7 rfl) ?_
    replace h := bs h
    obtain ⟨x85, hx85, h⟩ := h
    refine gf_q_127 hx hb hts hown hK hG hW (gN_s hx85) d_q_sum_152 ?_
    refine lv_iload_n hx hb d_q_sum_155 rfl (lv_at hl 9 rfl) ?_
    replace h := bs h
    obtain ⟨x86, hx86, h⟩ := h
    refine wo_lald hx hb hK hW (t := 1) rfl hx86 d_q_sum_156 ?_
    refine lv_aload_n hx hb d_q_sum_157 rfl (lv_at hl 7 rfl) ?_
    replace h := bs h
    obtain ⟨x87, hx87, h⟩ := h
    refine gf_q_127 hx hb hts hown hK hG hW (gN_s hx87) d_q_sum_158 ?_
    refine lv_iload_n hx hb d_q_sum_161 rfl (lv_at hl 10 rfl) ?_
    replace h := bs h
    obtain ⟨x88, hx88, h⟩ := h
    refine wo_lald hx hb hK hW (t := 1) rfl hx88 d_q_sum_162 ?_
    refine lv_lmul hx hb d_q_sum_163 ?_
    refine lv_lstore (lv' := [(11, .long (x86 * x88)), (9, .long x84), (7, .long x68), (5, .long x62), (19, .long (x54 * x56)), (17, .long (x50 * x52)), (15, .long (x46 * x48)), (13, .long (x42 * x44)), (0, .ref (base + a0)), (1, .int a1), (2, .int a2), (3, .int a3), (4, .int a4)]) hx hb d_q_sum_164 hl (by decide) rfl (fun ls hl => ?_)
    refine lv_goto (tgt := 306) hx hb d_q_sum_166 (by decide) ?_
    exact j_q_sum_306 C a0 a2 a4 x62 x68 x84 (x86 * x88) w83 h _ _ _ hW (lv_sub hl [8, 10, 12, 3, 2, 1, 0] rfl)
abbrev b_q_quotient : ByteArray := prog_11_method_68_code
def y_q_quotient : MethodName := ⟨"AlarmForgeModel", "quotient", "(IIII)V"⟩
def rm_q_quotient : Room := { frames := 2, cells := 0, slots := 0, locals := 66 }
theorem d_q_quotient_0 : decode b_q_quotient 0 = .ok (.aload_n 0, 1) := by decide +kernel
theorem d_q_quotient_1 : decode b_q_quotient 1 = .ok (.lconst 0, 1) := by decide +kernel
theorem d_q_quotient_2 : decode b_q_quotient 2 = .ok (.iload_n 3, 1) := by decide +kernel
theorem d_q_quotient_3 : decode b_q_quotient 3 = .ok (.invokevirtual 409, 3) := by decide +kernel
theorem d_q_quotient_6 : decode b_q_quotient 6 = .ok (.istore 5, 2) := by decide +kernel
theorem d_q_quotient_8 : decode b_q_quotient 8 = .ok (.aload_n 0, 1) := by decide +kernel
theorem d_q_quotient_9 : decode b_q_quotient 9 = .ok (.ldc2_w 385, 3) := by decide +kernel
theorem d_q_quotient_12 : decode b_q_quotient 12 = .ok (.iload_n 3, 1) := by decide +kernel
theorem d_q_quotient_13 : decode b_q_quotient 13 = .ok (.invokevirtual 409, 3) := by decide +kernel
theorem d_q_quotient_16 : decode b_q_quotient 16 = .ok (.istore 6, 2) := by decide +kernel
theorem d_q_quotient_18 : decode b_q_quotient 18 = .ok (.iload 5, 2) := by decide +kernel
theorem d_q_quotient_20 : decode b_q_quotient 20 = .ok (.ifCond .eq (10), 3) := by decide +kernel
theorem d_q_quotient_23 : decode b_q_quotient 23 = .ok (.aload_n 0, 1) := by decide +kernel
theorem d_q_quotient_24 : decode b_q_quotient 24 = .ok (.iconst 4, 1) := by decide +kernel
theorem d_q_quotient_25 : decode b_q_quotient 25 = .ok (.iload 4, 2) := by decide +kernel
theorem d_q_quotient_27 : decode b_q_quotient 27 = .ok (.invokevirtual 442, 3) := by decide +kernel
theorem d_q_quotient_30 : decode b_q_quotient 30 = .ok (.iload_n 1, 1) := by decide +kernel
theorem d_q_quotient_31 : decode b_q_quotient 31 = .ok (.bipush (8), 2) := by decide +kernel
theorem d_q_quotient_33 : decode b_q_quotient 33 = .ok (.if_icmp .ne (28), 3) := by decide +kernel
theorem d_q_quotient_36 : decode b_q_quotient 36 = .ok (.aload_n 0, 1) := by decide +kernel
theorem d_q_quotient_37 : decode b_q_quotient 37 = .ok (.getfield 117, 3) := by decide +kernel
theorem d_q_quotient_40 : decode b_q_quotient 40 = .ok (.iload_n 2, 1) := by decide +kernel
theorem d_q_quotient_41 : decode b_q_quotient 41 = .ok (.laload, 1) := by decide +kernel
theorem d_q_quotient_42 : decode b_q_quotient 42 = .ok (.ldc2_w 340, 3) := by decide +kernel
theorem d_q_quotient_45 : decode b_q_quotient 45 = .ok (.lcmp, 1) := by decide +kernel
theorem d_q_quotient_46 : decode b_q_quotient 46 = .ok (.ifCond .ne (15), 3) := by decide +kernel
theorem d_q_quotient_49 : decode b_q_quotient 49 = .ok (.iload 6, 2) := by decide +kernel
theorem d_q_quotient_51 : decode b_q_quotient 51 = .ok (.ifCond .eq (10), 3) := by decide +kernel
theorem d_q_quotient_54 : decode b_q_quotient 54 = .ok (.aload_n 0, 1) := by decide +kernel
theorem d_q_quotient_55 : decode b_q_quotient 55 = .ok (.iconst 3, 1) := by decide +kernel
theorem d_q_quotient_56 : decode b_q_quotient 56 = .ok (.iload 4, 2) := by decide +kernel
theorem d_q_quotient_58 : decode b_q_quotient 58 = .ok (.invokevirtual 442, 3) := by decide +kernel
theorem d_q_quotient_61 : decode b_q_quotient 61 = .ok (.aload_n 0, 1) := by decide +kernel
theorem d_q_quotient_62 : decode b_q_quotient 62 = .ok (.getfield 117, 3) := by decide +kernel
theorem d_q_quotient_65 : decode b_q_quotient 65 = .ok (.iload_n 3, 1) := by decide +kernel
theorem d_q_quotient_66 : decode b_q_quotient 66 = .ok (.laload, 1) := by decide +kernel
theorem d_q_quotient_67 : decode b_q_quotient 67 = .ok (.lconst 0, 1) := by decide +kernel
theorem d_q_quotient_68 : decode b_q_quotient 68 = .ok (.lcmp, 1) := by decide +kernel
theorem d_q_quotient_69 : decode b_q_quotient 69 = .ok (.ifCond .ge (7), 3) := by decide +kernel
theorem d_q_quotient_72 : decode b_q_quotient 72 = .ok (.iconst 1, 1) := by decide +kernel
theorem d_q_quotient_73 : decode b_q_quotient 73 = .ok (.goto (4), 3) := by decide +kernel
theorem d_q_quotient_76 : decode b_q_quotient 76 = .ok (.iconst 0, 1) := by decide +kernel
theorem d_q_quotient_77 : decode b_q_quotient 77 = .ok (.istore 7, 2) := by decide +kernel
theorem d_q_quotient_79 : decode b_q_quotient 79 = .ok (.aload_n 0, 1) := by decide +kernel
theorem d_q_quotient_80 : decode b_q_quotient 80 = .ok (.getfield 121, 3) := by decide +kernel
theorem d_q_quotient_83 : decode b_q_quotient 83 = .ok (.iload_n 3, 1) := by decide +kernel
theorem d_q_quotient_84 : decode b_q_quotient 84 = .ok (.laload, 1) := by decide +kernel
theorem d_q_quotient_85 : decode b_q_quotient 85 = .ok (.lconst 0, 1) := by decide +kernel
theorem d_q_quotient_86 : decode b_q_quotient 86 = .ok (.lcmp, 1) := by decide +kernel
theorem d_q_quotient_87 : decode b_q_quotient 87 = .ok (.ifCond .le (7), 3) := by decide +kernel
theorem d_q_quotient_90 : decode b_q_quotient 90 = .ok (.iconst 1, 1) := by decide +kernel
theorem d_q_quotient_91 : decode b_q_quotient 91 = .ok (.goto (4), 3) := by decide +kernel
theorem d_q_quotient_94 : decode b_q_quotient 94 = .ok (.iconst 0, 1) := by decide +kernel
theorem d_q_quotient_95 : decode b_q_quotient 95 = .ok (.istore 8, 2) := by decide +kernel
theorem d_q_quotient_97 : decode b_q_quotient 97 = .ok (.iload 7, 2) := by decide +kernel
theorem d_q_quotient_99 : decode b_q_quotient 99 = .ok (.ifCond .ne (14), 3) := by decide +kernel
theorem d_q_quotient_102 : decode b_q_quotient 102 = .ok (.iload 8, 2) := by decide +kernel
theorem d_q_quotient_104 : decode b_q_quotient 104 = .ok (.ifCond .ne (9), 3) := by decide +kernel
theorem d_q_quotient_107 : decode b_q_quotient 107 = .ok (.aload_n 0, 1) := by decide +kernel
theorem d_q_quotient_108 : decode b_q_quotient 108 = .ok (.iload_n 2, 1) := by decide +kernel
theorem d_q_quotient_109 : decode b_q_quotient 109 = .ok (.invokevirtual 393, 3) := by decide +kernel
theorem d_q_quotient_112 : decode b_q_quotient 112 = .ok (.return_, 1) := by decide +kernel
theorem d_q_quotient_113 : decode b_q_quotient 113 = .ok (.aload_n 0, 1) := by decide +kernel
theorem d_q_quotient_114 : decode b_q_quotient 114 = .ok (.getfield 124, 3) := by decide +kernel
theorem d_q_quotient_117 : decode b_q_quotient 117 = .ok (.iload_n 2, 1) := by decide +kernel
theorem d_q_quotient_118 : decode b_q_quotient 118 = .ok (.laload, 1) := by decide +kernel
theorem d_q_quotient_119 : decode b_q_quotient 119 = .ok (.lconst 0, 1) := by decide +kernel
theorem d_q_quotient_120 : decode b_q_quotient 120 = .ok (.lcmp, 1) := by decide +kernel
theorem d_q_quotient_121 : decode b_q_quotient 121 = .ok (.ifCond .ne (96), 3) := by decide +kernel
theorem d_q_quotient_124 : decode b_q_quotient 124 = .ok (.aload_n 0, 1) := by decide +kernel
theorem d_q_quotient_125 : decode b_q_quotient 125 = .ok (.getfield 124, 3) := by decide +kernel
theorem d_q_quotient_128 : decode b_q_quotient 128 = .ok (.iload_n 3, 1) := by decide +kernel
theorem d_q_quotient_129 : decode b_q_quotient 129 = .ok (.laload, 1) := by decide +kernel
theorem d_q_quotient_130 : decode b_q_quotient 130 = .ok (.lconst 0, 1) := by decide +kernel
theorem d_q_quotient_131 : decode b_q_quotient 131 = .ok (.lcmp, 1) := by decide +kernel
theorem d_q_quotient_132 : decode b_q_quotient 132 = .ok (.ifCond .ne (85), 3) := by decide +kernel
theorem d_q_quotient_135 : decode b_q_quotient 135 = .ok (.iload_n 1, 1) := by decide +kernel
theorem d_q_quotient_136 : decode b_q_quotient 136 = .ok (.bipush (9), 2) := by decide +kernel
theorem d_q_quotient_138 : decode b_q_quotient 138 = .ok (.if_icmp .eq (29), 3) := by decide +kernel
theorem d_q_quotient_141 : decode b_q_quotient 141 = .ok (.aload_n 0, 1) := by decide +kernel
theorem d_q_quotient_142 : decode b_q_quotient 142 = .ok (.getfield 127, 3) := by decide +kernel
theorem d_q_quotient_145 : decode b_q_quotient 145 = .ok (.iload_n 2, 1) := by decide +kernel
theorem d_q_quotient_146 : decode b_q_quotient 146 = .ok (.laload, 1) := by decide +kernel
theorem d_q_quotient_147 : decode b_q_quotient 147 = .ok (.ldc2_w 340, 3) := by decide +kernel
theorem d_q_quotient_150 : decode b_q_quotient 150 = .ok (.lcmp, 1) := by decide +kernel
theorem d_q_quotient_151 : decode b_q_quotient 151 = .ok (.ifCond .ne (16), 3) := by decide +kernel
theorem d_q_quotient_154 : decode b_q_quotient 154 = .ok (.aload_n 0, 1) := by decide +kernel
theorem d_q_quotient_155 : decode b_q_quotient 155 = .ok (.getfield 127, 3) := by decide +kernel
theorem d_q_quotient_158 : decode b_q_quotient 158 = .ok (.iload_n 3, 1) := by decide +kernel
theorem d_q_quotient_159 : decode b_q_quotient 159 = .ok (.laload, 1) := by decide +kernel
theorem d_q_quotient_160 : decode b_q_quotient 160 = .ok (.ldc2_w 385, 3) := by decide +kernel
theorem d_q_quotient_163 : decode b_q_quotient 163 = .ok (.lcmp, 1) := by decide +kernel
theorem d_q_quotient_164 : decode b_q_quotient 164 = .ok (.ifCond .eq (53), 3) := by decide +kernel
theorem d_q_quotient_167 : decode b_q_quotient 167 = .ok (.iload_n 1, 1) := by decide +kernel
theorem d_q_quotient_168 : decode b_q_quotient 168 = .ok (.bipush (8), 2) := by decide +kernel
theorem d_q_quotient_170 : decode b_q_quotient 170 = .ok (.if_icmp .ne (19), 3) := by decide +kernel
theorem d_q_quotient_173 : decode b_q_quotient 173 = .ok (.aload_n 0, 1) := by decide +kernel
theorem d_q_quotient_174 : decode b_q_quotient 174 = .ok (.getfield 127, 3) := by decide +kernel
theorem d_q_quotient_177 : decode b_q_quotient 177 = .ok (.iload_n 2, 1) := by decide +kernel
theorem d_q_quotient_178 : decode b_q_quotient 178 = .ok (.laload, 1) := by decide +kernel
theorem d_q_quotient_179 : decode b_q_quotient 179 = .ok (.aload_n 0, 1) := by decide +kernel
theorem d_q_quotient_180 : decode b_q_quotient 180 = .ok (.getfield 127, 3) := by decide +kernel
theorem d_q_quotient_183 : decode b_q_quotient 183 = .ok (.iload_n 3, 1) := by decide +kernel
theorem d_q_quotient_184 : decode b_q_quotient 184 = .ok (.laload, 1) := by decide +kernel
theorem d_q_quotient_185 : decode b_q_quotient 185 = .ok (.ldiv, 1) := by decide +kernel
theorem d_q_quotient_186 : decode b_q_quotient 186 = .ok (.goto (16), 3) := by decide +kernel
theorem d_q_quotient_189 : decode b_q_quotient 189 = .ok (.aload_n 0, 1) := by decide +kernel
theorem d_q_quotient_190 : decode b_q_quotient 190 = .ok (.getfield 127, 3) := by decide +kernel
theorem d_q_quotient_193 : decode b_q_quotient 193 = .ok (.iload_n 2, 1) := by decide +kernel
theorem d_q_quotient_194 : decode b_q_quotient 194 = .ok (.laload, 1) := by decide +kernel
theorem d_q_quotient_195 : decode b_q_quotient 195 = .ok (.aload_n 0, 1) := by decide +kernel
theorem d_q_quotient_196 : decode b_q_quotient 196 = .ok (.getfield 127, 3) := by decide +kernel
theorem d_q_quotient_199 : decode b_q_quotient 199 = .ok (.iload_n 3, 1) := by decide +kernel
theorem d_q_quotient_200 : decode b_q_quotient 200 = .ok (.laload, 1) := by decide +kernel
theorem d_q_quotient_201 : decode b_q_quotient 201 = .ok (.lrem, 1) := by decide +kernel
theorem d_q_quotient_202 : decode b_q_quotient 202 = .ok (.lstore 9, 2) := by decide +kernel
theorem d_q_quotient_204 : decode b_q_quotient 204 = .ok (.aload_n 0, 1) := by decide +kernel
theorem d_q_quotient_205 : decode b_q_quotient 205 = .ok (.iload_n 2, 1) := by decide +kernel
theorem d_q_quotient_206 : decode b_q_quotient 206 = .ok (.lload 9, 2) := by decide +kernel
theorem d_q_quotient_208 : decode b_q_quotient 208 = .ok (.lload 9, 2) := by decide +kernel
theorem d_q_quotient_210 : decode b_q_quotient 210 = .ok (.lconst 0, 1) := by decide +kernel
theorem d_q_quotient_211 : decode b_q_quotient 211 = .ok (.lload 9, 2) := by decide +kernel
theorem d_q_quotient_213 : decode b_q_quotient 213 = .ok (.invokevirtual 406, 3) := by decide +kernel
theorem d_q_quotient_216 : decode b_q_quotient 216 = .ok (.return_, 1) := by decide +kernel
theorem d_q_quotient_217 : decode b_q_quotient 217 = .ok (.aload_n 0, 1) := by decide +kernel
theorem d_q_quotient_218 : decode b_q_quotient 218 = .ok (.getfield 117, 3) := by decide +kernel
theorem d_q_quotient_221 : decode b_q_quotient 221 = .ok (.iload_n 3, 1) := by decide +kernel
theorem d_q_quotient_222 : decode b_q_quotient 222 = .ok (.laload, 1) := by decide +kernel
theorem d_q_quotient_223 : decode b_q_quotient 223 = .ok (.lstore 9, 2) := by decide +kernel
theorem d_q_quotient_225 : decode b_q_quotient 225 = .ok (.aload_n 0, 1) := by decide +kernel
theorem d_q_quotient_226 : decode b_q_quotient 226 = .ok (.getfield 121, 3) := by decide +kernel
theorem d_q_quotient_229 : decode b_q_quotient 229 = .ok (.iload_n 3, 1) := by decide +kernel
theorem d_q_quotient_230 : decode b_q_quotient 230 = .ok (.laload, 1) := by decide +kernel
theorem d_q_quotient_231 : decode b_q_quotient 231 = .ok (.ldc2_w 385, 3) := by decide +kernel
theorem d_q_quotient_234 : decode b_q_quotient 234 = .ok (.invokestatic 432, 3) := by decide +kernel
theorem d_q_quotient_237 : decode b_q_quotient 237 = .ok (.lstore 11, 2) := by decide +kernel
theorem d_q_quotient_239 : decode b_q_quotient 239 = .ok (.aload_n 0, 1) := by decide +kernel
theorem d_q_quotient_240 : decode b_q_quotient 240 = .ok (.getfield 117, 3) := by decide +kernel
theorem d_q_quotient_243 : decode b_q_quotient 243 = .ok (.iload_n 3, 1) := by decide +kernel
theorem d_q_quotient_244 : decode b_q_quotient 244 = .ok (.laload, 1) := by decide +kernel
theorem d_q_quotient_245 : decode b_q_quotient 245 = .ok (.lconst 1, 1) := by decide +kernel
theorem d_q_quotient_246 : decode b_q_quotient 246 = .ok (.invokestatic 435, 3) := by decide +kernel
theorem d_q_quotient_249 : decode b_q_quotient 249 = .ok (.lstore 13, 2) := by decide +kernel
theorem d_q_quotient_251 : decode b_q_quotient 251 = .ok (.aload_n 0, 1) := by decide +kernel
theorem d_q_quotient_252 : decode b_q_quotient 252 = .ok (.getfield 121, 3) := by decide +kernel
theorem d_q_quotient_255 : decode b_q_quotient 255 = .ok (.iload_n 3, 1) := by decide +kernel
theorem d_q_quotient_256 : decode b_q_quotient 256 = .ok (.laload, 1) := by decide +kernel
theorem d_q_quotient_257 : decode b_q_quotient 257 = .ok (.lstore 15, 2) := by decide +kernel
theorem d_q_quotient_259 : decode b_q_quotient 259 = .ok (.iload_n 1, 1) := by decide +kernel
theorem d_q_quotient_260 : decode b_q_quotient 260 = .ok (.bipush (9), 2) := by decide +kernel
theorem d_q_quotient_262 : decode b_q_quotient 262 = .ok (.if_icmp .ne (72), 3) := by decide +kernel
theorem d_q_quotient_265 : decode b_q_quotient 265 = .ok (.iload 7, 2) := by decide +kernel
theorem d_q_quotient_267 : decode b_q_quotient 267 = .ok (.ifCond .eq (9), 3) := by decide +kernel
theorem d_q_quotient_270 : decode b_q_quotient 270 = .ok (.lload 9, 2) := by decide +kernel
theorem d_q_quotient_272 : decode b_q_quotient 272 = .ok (.lneg, 1) := by decide +kernel
theorem d_q_quotient_273 : decode b_q_quotient 273 = .ok (.goto (4), 3) := by decide +kernel
theorem d_q_quotient_276 : decode b_q_quotient 276 = .ok (.lconst 0, 1) := by decide +kernel
theorem d_q_quotient_277 : decode b_q_quotient 277 = .ok (.iload 8, 2) := by decide +kernel
theorem d_q_quotient_279 : decode b_q_quotient 279 = .ok (.ifCond .eq (8), 3) := by decide +kernel
theorem d_q_quotient_282 : decode b_q_quotient 282 = .ok (.lload 15, 2) := by decide +kernel
theorem d_q_quotient_284 : decode b_q_quotient 284 = .ok (.goto (4), 3) := by decide +kernel
theorem d_q_quotient_287 : decode b_q_quotient 287 = .ok (.lconst 0, 1) := by decide +kernel
theorem d_q_quotient_288 : decode b_q_quotient 288 = .ok (.invokestatic 435, 3) := by decide +kernel
theorem d_q_quotient_291 : decode b_q_quotient 291 = .ok (.lconst 1, 1) := by decide +kernel
theorem d_q_quotient_292 : decode b_q_quotient 292 = .ok (.lsub, 1) := by decide +kernel
theorem d_q_quotient_293 : decode b_q_quotient 293 = .ok (.lstore 17, 2) := by decide +kernel
theorem d_q_quotient_295 : decode b_q_quotient 295 = .ok (.aload_n 0, 1) := by decide +kernel
theorem d_q_quotient_296 : decode b_q_quotient 296 = .ok (.iload_n 2, 1) := by decide +kernel
theorem d_q_quotient_297 : decode b_q_quotient 297 = .ok (.aload_n 0, 1) := by decide +kernel
theorem d_q_quotient_298 : decode b_q_quotient 298 = .ok (.getfield 117, 3) := by decide +kernel
theorem d_q_quotient_301 : decode b_q_quotient 301 = .ok (.iload_n 2, 1) := by decide +kernel
theorem d_q_quotient_302 : decode b_q_quotient 302 = .ok (.laload, 1) := by decide +kernel
theorem d_q_quotient_303 : decode b_q_quotient 303 = .ok (.lconst 0, 1) := by decide +kernel
theorem d_q_quotient_304 : decode b_q_quotient 304 = .ok (.invokestatic 432, 3) := by decide +kernel
theorem d_q_quotient_307 : decode b_q_quotient 307 = .ok (.lload 17, 2) := by decide +kernel
theorem d_q_quotient_309 : decode b_q_quotient 309 = .ok (.lneg, 1) := by decide +kernel
theorem d_q_quotient_310 : decode b_q_quotient 310 = .ok (.invokestatic 435, 3) := by decide +kernel
theorem d_q_quotient_313 : decode b_q_quotient 313 = .ok (.aload_n 0, 1) := by decide +kernel
theorem d_q_quotient_314 : decode b_q_quotient 314 = .ok (.getfield 121, 3) := by decide +kernel
theorem d_q_quotient_317 : decode b_q_quotient 317 = .ok (.iload_n 2, 1) := by decide +kernel
theorem d_q_quotient_318 : decode b_q_quotient 318 = .ok (.laload, 1) := by decide +kernel
theorem d_q_quotient_319 : decode b_q_quotient 319 = .ok (.lconst 0, 1) := by decide +kernel
theorem d_q_quotient_320 : decode b_q_quotient 320 = .ok (.invokestatic 435, 3) := by decide +kernel
theorem d_q_quotient_323 : decode b_q_quotient 323 = .ok (.lload 17, 2) := by decide +kernel
theorem d_q_quotient_325 : decode b_q_quotient 325 = .ok (.invokestatic 432, 3) := by decide +kernel
theorem d_q_quotient_328 : decode b_q_quotient 328 = .ok (.lconst 1, 1) := by decide +kernel
theorem d_q_quotient_329 : decode b_q_quotient 329 = .ok (.lconst 0, 1) := by decide +kernel
theorem d_q_quotient_330 : decode b_q_quotient 330 = .ok (.invokevirtual 406, 3) := by decide +kernel
theorem d_q_quotient_333 : decode b_q_quotient 333 = .ok (.return_, 1) := by decide +kernel
theorem d_q_quotient_334 : decode b_q_quotient 334 = .ok (.lconst 0, 1) := by decide +kernel
theorem d_q_quotient_335 : decode b_q_quotient 335 = .ok (.lstore 17, 2) := by decide +kernel
theorem d_q_quotient_337 : decode b_q_quotient 337 = .ok (.lconst 0, 1) := by decide +kernel
theorem d_q_quotient_338 : decode b_q_quotient 338 = .ok (.lstore 19, 2) := by decide +kernel
theorem d_q_quotient_340 : decode b_q_quotient 340 = .ok (.iconst 0, 1) := by decide +kernel
theorem d_q_quotient_341 : decode b_q_quotient 341 = .ok (.istore 21, 2) := by decide +kernel
theorem d_q_quotient_343 : decode b_q_quotient 343 = .ok (.iconst 0, 1) := by decide +kernel
theorem d_q_quotient_344 : decode b_q_quotient 344 = .ok (.istore 22, 2) := by decide +kernel
theorem d_q_quotient_346 : decode b_q_quotient 346 = .ok (.iload 22, 2) := by decide +kernel
theorem d_q_quotient_348 : decode b_q_quotient 348 = .ok (.bipush (8), 2) := by decide +kernel
theorem d_q_quotient_350 : decode b_q_quotient 350 = .ok (.if_icmp .ge (144), 3) := by decide +kernel
theorem d_q_quotient_353 : decode b_q_quotient 353 = .ok (.iload 22, 2) := by decide +kernel
theorem d_q_quotient_355 : decode b_q_quotient 355 = .ok (.iconst 4, 1) := by decide +kernel
theorem d_q_quotient_356 : decode b_q_quotient 356 = .ok (.iand, 1) := by decide +kernel
theorem d_q_quotient_357 : decode b_q_quotient 357 = .ok (.ifCond .ne (11), 3) := by decide +kernel
theorem d_q_quotient_360 : decode b_q_quotient 360 = .ok (.iload 7, 2) := by decide +kernel
theorem d_q_quotient_362 : decode b_q_quotient 362 = .ok (.ifCond .ne (14), 3) := by decide +kernel
theorem d_q_quotient_365 : decode b_q_quotient 365 = .ok (.goto (123), 3) := by decide +kernel
theorem d_q_quotient_368 : decode b_q_quotient 368 = .ok (.iload 8, 2) := by decide +kernel
theorem d_q_quotient_370 : decode b_q_quotient 370 = .ok (.ifCond .ne (6), 3) := by decide +kernel
theorem d_q_quotient_373 : decode b_q_quotient 373 = .ok (.goto (115), 3) := by decide +kernel
theorem d_q_quotient_376 : decode b_q_quotient 376 = .ok (.iload 22, 2) := by decide +kernel
theorem d_q_quotient_378 : decode b_q_quotient 378 = .ok (.iconst 1, 1) := by decide +kernel
theorem d_q_quotient_379 : decode b_q_quotient 379 = .ok (.iand, 1) := by decide +kernel
theorem d_q_quotient_380 : decode b_q_quotient 380 = .ok (.ifCond .ne (12), 3) := by decide +kernel
theorem d_q_quotient_383 : decode b_q_quotient 383 = .ok (.aload_n 0, 1) := by decide +kernel
theorem d_q_quotient_384 : decode b_q_quotient 384 = .ok (.getfield 117, 3) := by decide +kernel
theorem d_q_quotient_387 : decode b_q_quotient 387 = .ok (.iload_n 2, 1) := by decide +kernel
theorem d_q_quotient_388 : decode b_q_quotient 388 = .ok (.laload, 1) := by decide +kernel
theorem d_q_quotient_389 : decode b_q_quotient 389 = .ok (.goto (9), 3) := by decide +kernel
theorem d_q_quotient_392 : decode b_q_quotient 392 = .ok (.aload_n 0, 1) := by decide +kernel
theorem d_q_quotient_393 : decode b_q_quotient 393 = .ok (.getfield 121, 3) := by decide +kernel
theorem d_q_quotient_396 : decode b_q_quotient 396 = .ok (.iload_n 2, 1) := by decide +kernel
theorem d_q_quotient_397 : decode b_q_quotient 397 = .ok (.laload, 1) := by decide +kernel
theorem d_q_quotient_398 : decode b_q_quotient 398 = .ok (.lstore 23, 2) := by decide +kernel
theorem d_q_quotient_400 : decode b_q_quotient 400 = .ok (.iload 22, 2) := by decide +kernel
theorem d_q_quotient_402 : decode b_q_quotient 402 = .ok (.iconst 4, 1) := by decide +kernel
theorem d_q_quotient_403 : decode b_q_quotient 403 = .ok (.iand, 1) := by decide +kernel
theorem d_q_quotient_404 : decode b_q_quotient 404 = .ok (.ifCond .ne (20), 3) := by decide +kernel
theorem d_q_quotient_407 : decode b_q_quotient 407 = .ok (.iload 22, 2) := by decide +kernel
theorem d_q_quotient_409 : decode b_q_quotient 409 = .ok (.iconst 2, 1) := by decide +kernel
theorem d_q_quotient_410 : decode b_q_quotient 410 = .ok (.iand, 1) := by decide +kernel
theorem d_q_quotient_411 : decode b_q_quotient 411 = .ok (.ifCond .ne (8), 3) := by decide +kernel
theorem d_q_quotient_414 : decode b_q_quotient 414 = .ok (.lload 9, 2) := by decide +kernel
theorem d_q_quotient_416 : decode b_q_quotient 416 = .ok (.goto (22), 3) := by decide +kernel
theorem d_q_quotient_419 : decode b_q_quotient 419 = .ok (.lload 11, 2) := by decide +kernel
theorem d_q_quotient_421 : decode b_q_quotient 421 = .ok (.goto (17), 3) := by decide +kernel
theorem d_q_quotient_424 : decode b_q_quotient 424 = .ok (.iload 22, 2) := by decide +kernel
theorem d_q_quotient_426 : decode b_q_quotient 426 = .ok (.iconst 2, 1) := by decide +kernel
theorem d_q_quotient_427 : decode b_q_quotient 427 = .ok (.iand, 1) := by decide +kernel
theorem d_q_quotient_428 : decode b_q_quotient 428 = .ok (.ifCond .ne (8), 3) := by decide +kernel
theorem d_q_quotient_431 : decode b_q_quotient 431 = .ok (.lload 13, 2) := by decide +kernel
theorem d_q_quotient_433 : decode b_q_quotient 433 = .ok (.goto (5), 3) := by decide +kernel
theorem d_q_quotient_436 : decode b_q_quotient 436 = .ok (.lload 15, 2) := by decide +kernel
theorem d_q_quotient_438 : decode b_q_quotient 438 = .ok (.lstore 25, 2) := by decide +kernel
theorem d_q_quotient_440 : decode b_q_quotient 440 = .ok (.lload 23, 2) := by decide +kernel
theorem d_q_quotient_442 : decode b_q_quotient 442 = .ok (.lload 25, 2) := by decide +kernel
theorem d_q_quotient_444 : decode b_q_quotient 444 = .ok (.ldiv, 1) := by decide +kernel
theorem d_q_quotient_445 : decode b_q_quotient 445 = .ok (.lstore 27, 2) := by decide +kernel
theorem d_q_quotient_447 : decode b_q_quotient 447 = .ok (.iload 21, 2) := by decide +kernel
theorem d_q_quotient_449 : decode b_q_quotient 449 = .ok (.ifCond .eq (13), 3) := by decide +kernel
theorem d_q_quotient_452 : decode b_q_quotient 452 = .ok (.lload 17, 2) := by decide +kernel
theorem d_q_quotient_454 : decode b_q_quotient 454 = .ok (.lload 27, 2) := by decide +kernel
theorem d_q_quotient_456 : decode b_q_quotient 456 = .ok (.invokestatic 432, 3) := by decide +kernel
theorem d_q_quotient_459 : decode b_q_quotient 459 = .ok (.goto (5), 3) := by decide +kernel
theorem d_q_quotient_462 : decode b_q_quotient 462 = .ok (.lload 27, 2) := by decide +kernel
theorem d_q_quotient_464 : decode b_q_quotient 464 = .ok (.lstore 17, 2) := by decide +kernel
theorem d_q_quotient_466 : decode b_q_quotient 466 = .ok (.iload 21, 2) := by decide +kernel
theorem d_q_quotient_468 : decode b_q_quotient 468 = .ok (.ifCond .eq (13), 3) := by decide +kernel
theorem d_q_quotient_471 : decode b_q_quotient 471 = .ok (.lload 19, 2) := by decide +kernel
theorem d_q_quotient_473 : decode b_q_quotient 473 = .ok (.lload 27, 2) := by decide +kernel
theorem d_q_quotient_475 : decode b_q_quotient 475 = .ok (.invokestatic 435, 3) := by decide +kernel
theorem d_q_quotient_478 : decode b_q_quotient 478 = .ok (.goto (5), 3) := by decide +kernel
theorem d_q_quotient_481 : decode b_q_quotient 481 = .ok (.lload 27, 2) := by decide +kernel
theorem d_q_quotient_483 : decode b_q_quotient 483 = .ok (.lstore 19, 2) := by decide +kernel
theorem d_q_quotient_485 : decode b_q_quotient 485 = .ok (.iconst 1, 1) := by decide +kernel
theorem d_q_quotient_486 : decode b_q_quotient 486 = .ok (.istore 21, 2) := by decide +kernel
theorem d_q_quotient_488 : decode b_q_quotient 488 = .ok (.iinc 22 (1), 3) := by decide +kernel
theorem d_q_quotient_491 : decode b_q_quotient 491 = .ok (.goto (-145), 3) := by decide +kernel
theorem d_q_quotient_494 : decode b_q_quotient 494 = .ok (.aload_n 0, 1) := by decide +kernel
theorem d_q_quotient_495 : decode b_q_quotient 495 = .ok (.iload_n 2, 1) := by decide +kernel
theorem d_q_quotient_496 : decode b_q_quotient 496 = .ok (.lload 17, 2) := by decide +kernel
theorem d_q_quotient_498 : decode b_q_quotient 498 = .ok (.lload 19, 2) := by decide +kernel
theorem d_q_quotient_500 : decode b_q_quotient 500 = .ok (.lconst 1, 1) := by decide +kernel
theorem d_q_quotient_501 : decode b_q_quotient 501 = .ok (.lconst 0, 1) := by decide +kernel
theorem d_q_quotient_502 : decode b_q_quotient 502 = .ok (.invokevirtual 406, 3) := by decide +kernel
theorem d_q_quotient_505 : decode b_q_quotient 505 = .ok (.return_, 1) := by decide +kernel
theorem kb_q_quotient {a0 : Nat} {a1 : Int32} {a2 : Int32} {a3 : Int32} {a4 : Int32} {w : WW} {r : WW} (h : f_q_quotient a0 a1 a2 a3 a4 w = some r) : kb w a0 9 = true := (its h).1
set_option maxHeartbeats 4000000 in
set_option maxRecDepth 100000 in
theorem j_q_quotient_488 {p : Program} {l : Launch} {e : Env} {s : State} {m : MethodId} {args : Array Value} {below : List Frame} {meth : Method} {c : Code} {D : va_G} {cA : Nat → ClassId} {base : Nat} {w' : WW} (C : cx b_q_quotient (none) 29 y_q_quotient.cls "quotient" p s m args meth c D cA base) {k_346 : Nat → Int32 → Int32 → Int32 → Int64 → Int64 → Int64 → Int64 → Int64 → Int64 → Int32 → Int32 → WW → Option WW} (hk_346 : ∀ (y0 : Nat) (y2 : Int32) (y7 : Int32) (y8 : Int32) (y9 : Int64) (y11 : Int64) (y13 : Int64) (y15 : Int64) (y17 : Int64) (y19 : Int64) (y21 : Int32) (y22 : Int32) (w : WW), k_346 y0 y2 y7 y8 y9 y11 y13 y15 y17 y19 y21 y22 w = some w' → ∀ (H : Heap) (locs : List Loc) (ls : Array Slot), wo_S D cls cA base s w H locs → lv_has ls 29 [(0, .ref (base + y0)), (2, .int y2), (7, .int y7), (8, .int y8), (9, .long y9), (11, .long y11), (13, .long y13), (15, .long y15), (17, .long y17), (19, .long y19), (21, .int y21), (22, .int y22)] → W p l e rm_q_quotient s m args below meth c H locs 0 0 (MQ below (wo_Q D cls cA base none w') args s rm_q_quotient.cells rm_q_quotient.slots (wo_B base)) (F0 m 346 ls [])) : ∀ (y0 : Nat) (y2 : Int32) (y7 : Int32) (y8 : Int32) (y9 : Int64) (y11 : Int64) (y13 : Int64) (y15 : Int64) (y17 : Int64) (y19 : Int64) (y21 : Int32) (y22 : Int32) (w : WW), f_q_quotient_488 k_346 y0 y2 y7 y8 y9 y11 y13 y15 y17 y19 y21 y22 w = some w' → ∀ (H : Heap) (locs : List Loc) (ls : Array Slot), wo_S D cls cA base s w H locs → lv_has ls 29 [(0, .ref (base + y0)), (2, .int y2), (7, .int y7), (8, .int y8), (9, .long y9), (11, .long y11), (13, .long y13), (15, .long y15), (17, .long y17), (19, .long y19), (21, .int y21), (22, .int y22)] → W p l e rm_q_quotient s m args below meth c H locs 0 0 (MQ below (wo_Q D cls cA base none w') args s rm_q_quotient.cells rm_q_quotient.slots (wo_B base)) (F0 m 488 ls []) := by
  obtain ⟨hx, hb, hr, hml, hown, hts, hlk, hnm, hK, hG⟩ := id C
  intro y0 y2 y7 y8 y9 y11 y13 y15 y17 y19 y21 y22 w h H locs ls hW hl
  unfold f_q_quotient_488 at h
  refine lv_iinc (v := (y22 + (1 : Int32))) (lv' := [(22, .int (y22 + (1 : Int32))), (0, .ref (base + y0)), (2, .int y2), (7, .int y7), (8, .int y8), (9, .long y9), (11, .long y11), (13, .long y13), (15, .long y15), (17, .long y17), (19, .long y19), (21, .int y21)]) hx hb d_q_quotient_488 hl (k := 11) rfl rfl (by decide) rfl (fun ls hl => ?_)
  refine lv_goto (tgt := 346) hx hb d_q_quotient_491 (by decide) ?_
  exact hk_346 y0 y2 y7 y8 y9 y11 y13 y15 y17 y19 y21 (y22 + (1 : Int32)) w h _ _ _ hW (lv_sub hl [1, 2, 3, 4, 5, 6, 7, 8, 9, 10, 11, 0] rfl)
set_option maxHeartbeats 4000000 in
set_option maxRecDepth 100000 in
theorem j_q_quotient_483 {p : Program} {l : Launch} {e : Env} {s : State} {m : MethodId} {args : Array Value} {below : List Frame} {meth : Method} {c : Code} {D : va_G} {cA : Nat → ClassId} {base : Nat} {w' : WW} (C : cx b_q_quotient (none) 29 y_q_quotient.cls "quotient" p s m args meth c D cA base) {k_346 : Nat → Int32 → Int32 → Int32 → Int64 → Int64 → Int64 → Int64 → Int64 → Int64 → Int32 → Int32 → WW → Option WW} (hk_346 : ∀ (y0 : Nat) (y2 : Int32) (y7 : Int32) (y8 : Int32) (y9 : Int64) (y11 : Int64) (y13 : Int64) (y15 : Int64) (y17 : Int64) (y19 : Int64) (y21 : Int32) (y22 : Int32) (w : WW), k_346 y0 y2 y7 y8 y9 y11 y13 y15 y17 y19 y21 y22 w = some w' → ∀ (H : Heap) (locs : List Loc) (ls : Array Slot), wo_S D cls cA base s w H locs → lv_has ls 29 [(0, .ref (base + y0)), (2, .int y2), (7, .int y7), (8, .int y8), (9, .long y9), (11, .long y11), (13, .long y13), (15, .long y15), (17, .long y17), (19, .long y19), (21, .int y21), (22, .int y22)] → W p l e rm_q_quotient s m args below meth c H locs 0 0 (MQ below (wo_Q D cls cA base none w') args s rm_q_quotient.cells rm_q_quotient.slots (wo_B base)) (F0 m 346 ls [])) : ∀ (y0 : Nat) (y2 : Int32) (y7 : Int32) (y8 : Int32) (y9 : Int64) (y11 : Int64) (y13 : Int64) (y15 : Int64) (y17 : Int64) (y22 : Int32) (z0 : Int64) (w : WW), f_q_quotient_483 k_346 y0 y2 y7 y8 y9 y11 y13 y15 y17 y22 z0 w = some w' → ∀ (H : Heap) (locs : List Loc) (ls : Array Slot), wo_S D cls cA base s w H locs → lv_has ls 29 [(0, .ref (base + y0)), (2, .int y2), (7, .int y7), (8, .int y8), (9, .long y9), (11, .long y11), (13, .long y13), (15, .long y15), (17, .long y17), (22, .int y22)] → W p l e rm_q_quotient s m args below meth c H locs 0 0 (MQ below (wo_Q D cls cA base none w') args s rm_q_quotient.cells rm_q_quotient.slots (wo_B base)) (F0 m 483 ls [.long z0]) := by
  obtain ⟨hx, hb, hr, hml, hown, hts, hlk, hnm, hK, hG⟩ := id C
  intro y0 y2 y7 y8 y9 y11 y13 y15 y17 y22 z0 w h H locs ls hW hl
  unfold f_q_quotient_483 at h
  refine lv_lstore (lv' := [(19, .long z0), (0, .ref (base + y0)), (2, .int y2), (7, .int y7), (8, .int y8), (9, .long y9), (11, .long y11), (13, .long y13), (15, .long y15), (17, .long y17), (22, .int y22)]) hx hb d_q_quotient_483 hl (by decide) rfl (fun ls hl => ?_)
  refine lv_iconst (v := (1 : Int32)) hx hb d_q_quotient_485 (by decide) ?_
  refine lv_istore (lv' := [(21, .int (1 : Int32)), (19, .long z0), (0, .ref (base + y0)), (2, .int y2), (7, .int y7), (8, .int y8), (9, .long y9), (11, .long y11), (13, .long y13), (15, .long y15), (17, .long y17), (22, .int y22)]) hx hb d_q_quotient_486 hl (by decide) rfl (fun ls hl => ?_)
  exact j_q_quotient_488 C hk_346 y0 y2 y7 y8 y9 y11 y13 y15 y17 z0 (1 : Int32) y22 w h _ _ _ hW (lv_sub hl [2, 3, 4, 5, 6, 7, 8, 9, 10, 1, 0, 11] rfl)
set_option maxHeartbeats 4000000 in
set_option maxRecDepth 100000 in
theorem j_q_quotient_464 {p : Program} {l : Launch} {e : Env} {s : State} {m : MethodId} {args : Array Value} {below : List Frame} {meth : Method} {c : Code} {D : va_G} {cA : Nat → ClassId} {base : Nat} {w' : WW} (C : cx b_q_quotient (none) 29 y_q_quotient.cls "quotient" p s m args meth c D cA base) {k_346 : Nat → Int32 → Int32 → Int32 → Int64 → Int64 → Int64 → Int64 → Int64 → Int64 → Int32 → Int32 → WW → Option WW} (hk_346 : ∀ (y0 : Nat) (y2 : Int32) (y7 : Int32) (y8 : Int32) (y9 : Int64) (y11 : Int64) (y13 : Int64) (y15 : Int64) (y17 : Int64) (y19 : Int64) (y21 : Int32) (y22 : Int32) (w : WW), k_346 y0 y2 y7 y8 y9 y11 y13 y15 y17 y19 y21 y22 w = some w' → ∀ (H : Heap) (locs : List Loc) (ls : Array Slot), wo_S D cls cA base s w H locs → lv_has ls 29 [(0, .ref (base + y0)), (2, .int y2), (7, .int y7), (8, .int y8), (9, .long y9), (11, .long y11), (13, .long y13), (15, .long y15), (17, .long y17), (19, .long y19), (21, .int y21), (22, .int y22)] → W p l e rm_q_quotient s m args below meth c H locs 0 0 (MQ below (wo_Q D cls cA base none w') args s rm_q_quotient.cells rm_q_quotient.slots (wo_B base)) (F0 m 346 ls [])) : ∀ (y0 : Nat) (y2 : Int32) (y7 : Int32) (y8 : Int32) (y9 : Int64) (y11 : Int64) (y13 : Int64) (y15 : Int64) (y19 : Int64) (y21 : Int32) (y22 : Int32) (y27 : Int64) (z0 : Int64) (w : WW), f_q_quotient_464 k_346 y0 y2 y7 y8 y9 y11 y13 y15 y19 y21 y22 y27 z0 w = some w' → ∀ (H : Heap) (locs : List Loc) (ls : Array Slot), wo_S D cls cA base s w H locs → lv_has ls 29 [(0, .ref (base + y0)), (2, .int y2), (7, .int y7), (8, .int y8), (9, .long y9), (11, .long y11), (13, .long y13), (15, .long y15), (19, .long y19), (21, .int y21), (22, .int y22), (27, .long y27)] → W p l e rm_q_quotient s m args below meth c H locs 0 0 (MQ below (wo_Q D cls cA base none w') args s rm_q_quotient.cells rm_q_quotient.slots (wo_B base)) (F0 m 464 ls [.long z0]) := by
  obtain ⟨hx, hb, hr, hml, hown, hts, hlk, hnm, hK, hG⟩ := id C
  intro y0 y2 y7 y8 y9 y11 y13 y15 y19 y21 y22 y27 z0 w h H locs ls hW hl
  unfold f_q_quotient_464 at h
  refine lv_lstore (lv' := [(17, .long z0), (0, .ref (base + y0)), (2, .int y2), (7, .int y7), (8, .int y8), (9, .long y9), (11, .long y11), (13, .long y13), (15, .long y15), (19, .long y19), (21, .int y21), (22, .int y22), (27, .long y27)]) hx hb d_q_quotient_464 hl (by decide) rfl (fun ls hl => ?_)
  refine lv_iload hx hb d_q_quotient_466 (lv_at hl 10 rfl) ?_
  refine lv_if_eq (tgt := 481) hx hb d_q_quotient_468 (by decide) (fun c41 => ?_) (fun c41 => ?_)
  · rw [if_pos c41] at h
    refine lv_lload hx hb d_q_quotient_481 (lv_at hl 12 rfl) ?_
    exact j_q_quotient_483 C hk_346 y0 y2 y7 y8 y9 y11 y13 y15 z0 y22 y27 w h _ _ _ hW (lv_sub hl [1, 2, 3, 4, 5, 6, 7, 8, 0, 11] rfl)
  · rw [if_neg c41] at h
    refine lv_lload hx hb d_q_quotient_471 (lv_at hl 9 rfl) ?_
    refine lv_lload hx hb d_q_quotient_473 (lv_at hl 12 rfl) ?_
    replace h := bs2 h
    obtain ⟨x43, w42, hw42, h⟩ := h
    refine cs_q_435 (As := [.long y19, .long y27]) (rest := []) hx hb hml hown hts hK hG hW (c_q_max l D cA base hw42) ⟨Nat.le_of_ble_eq_true rfl, Nat.le_of_ble_eq_true rfl⟩ ⟨Nat.le_of_ble_eq_true rfl, Nat.le_of_ble_eq_true rfl⟩ rfl hl.1 rfl (Nat.le_of_ble_eq_true rfl) d_q_quotient_475 (fun H locs hW => ?_)
    refine lv_goto (tgt := 483) hx hb d_q_quotient_478 (by decide) ?_
    exact j_q_quotient_483 C hk_346 y0 y2 y7 y8 y9 y11 y13 y15 z0 y22 x43 w42 h _ _ _ hW (lv_sub hl [1, 2, 3, 4, 5, 6, 7, 8, 0, 11] rfl)
set_option maxHeartbeats 4000000 in
set_option maxRecDepth 100000 in
theorem j_q_quotient_438 {p : Program} {l : Launch} {e : Env} {s : State} {m : MethodId} {args : Array Value} {below : List Frame} {meth : Method} {c : Code} {D : va_G} {cA : Nat → ClassId} {base : Nat} {w' : WW} (C : cx b_q_quotient (none) 29 y_q_quotient.cls "quotient" p s m args meth c D cA base) {k_346 : Nat → Int32 → Int32 → Int32 → Int64 → Int64 → Int64 → Int64 → Int64 → Int64 → Int32 → Int32 → WW → Option WW} (hk_346 : ∀ (y0 : Nat) (y2 : Int32) (y7 : Int32) (y8 : Int32) (y9 : Int64) (y11 : Int64) (y13 : Int64) (y15 : Int64) (y17 : Int64) (y19 : Int64) (y21 : Int32) (y22 : Int32) (w : WW), k_346 y0 y2 y7 y8 y9 y11 y13 y15 y17 y19 y21 y22 w = some w' → ∀ (H : Heap) (locs : List Loc) (ls : Array Slot), wo_S D cls cA base s w H locs → lv_has ls 29 [(0, .ref (base + y0)), (2, .int y2), (7, .int y7), (8, .int y8), (9, .long y9), (11, .long y11), (13, .long y13), (15, .long y15), (17, .long y17), (19, .long y19), (21, .int y21), (22, .int y22)] → W p l e rm_q_quotient s m args below meth c H locs 0 0 (MQ below (wo_Q D cls cA base none w') args s rm_q_quotient.cells rm_q_quotient.slots (wo_B base)) (F0 m 346 ls [])) : ∀ (y0 : Nat) (y2 : Int32) (y7 : Int32) (y8 : Int32) (y9 : Int64) (y11 : Int64) (y13 : Int64) (y15 : Int64) (y17 : Int64) (y19 : Int64) (y21 : Int32) (y22 : Int32) (y23 : Int64) (z0 : Int64) (w : WW), f_q_quotient_438 k_346 y0 y2 y7 y8 y9 y11 y13 y15 y17 y19 y21 y22 y23 z0 w = some w' → ∀ (H : Heap) (locs : List Loc) (ls : Array Slot), wo_S D cls cA base s w H locs → lv_has ls 29 [(0, .ref (base + y0)), (2, .int y2), (7, .int y7), (8, .int y8), (9, .long y9), (11, .long y11), (13, .long y13), (15, .long y15), (17, .long y17), (19, .long y19), (21, .int y21), (22, .int y22), (23, .long y23)] → W p l e rm_q_quotient s m args below meth c H locs 0 0 (MQ below (wo_Q D cls cA base none w') args s rm_q_quotient.cells rm_q_quotient.slots (wo_B base)) (F0 m 438 ls [.long z0]) := by
  obtain ⟨hx, hb, hr, hml, hown, hts, hlk, hnm, hK, hG⟩ := id C
  intro y0 y2 y7 y8 y9 y11 y13 y15 y17 y19 y21 y22 y23 z0 w h H locs ls hW hl
  unfold f_q_quotient_438 at h
  refine lv_lstore (lv' := [(25, .long z0), (0, .ref (base + y0)), (2, .int y2), (7, .int y7), (8, .int y8), (9, .long y9), (11, .long y11), (13, .long y13), (15, .long y15), (17, .long y17), (19, .long y19), (21, .int y21), (22, .int y22), (23, .long y23)]) hx hb d_q_quotient_438 hl (by decide) rfl (fun ls hl => ?_)
  refine lv_lload hx hb d_q_quotient_440 (lv_at hl 13 rfl) ?_
  refine lv_lload hx hb d_q_quotient_442 (lv_at hl 0 rfl) ?_
  replace h := its h
  obtain ⟨c39, h⟩ := h
  refine lv_ldiv hx hb d_q_quotient_444 c39 ?_
  refine lv_lstore (lv' := [(27, .long (y23 / z0)), (25, .long z0), (0, .ref (base + y0)), (2, .int y2), (7, .int y7), (8, .int y8), (9, .long y9), (11, .long y11), (13, .long y13), (15, .long y15), (17, .long y17), (19, .long y19), (21, .int y21), (22, .int y22), (23, .long y23)]) hx hb d_q_quotient_445 hl (by decide) rfl (fun ls hl => ?_)
  refine lv_iload hx hb d_q_quotient_447 (lv_at hl 12 rfl) ?_
  refine lv_if_eq (tgt := 462) hx hb d_q_quotient_449 (by decide) (fun c40 => ?_) (fun c40 => ?_)
  · rw [if_pos c40] at h
    refine lv_lload hx hb d_q_quotient_462 (lv_at hl 0 rfl) ?_
    exact j_q_quotient_464 C hk_346 y0 y2 y7 y8 y9 y11 y13 y15 y19 y21 y22 (y23 / z0) (y23 / z0) w h _ _ _ hW (lv_sub hl [2, 3, 4, 5, 6, 7, 8, 9, 11, 12, 13, 0] rfl)
  · rw [if_neg c40] at h
    refine lv_lload hx hb d_q_quotient_452 (lv_at hl 10 rfl) ?_
    refine lv_lload hx hb d_q_quotient_454 (lv_at hl 0 rfl) ?_
    replace h := bs2 h
    obtain ⟨x45, w44, hw44, h⟩ := h
    refine cs_q_432 (As := [.long y17, .long (y23 / z0)]) (rest := []) hx hb hml hown hts hK hG hW (c_q_min l D cA base hw44) ⟨Nat.le_of_ble_eq_true rfl, Nat.le_of_ble_eq_true rfl⟩ ⟨Nat.le_of_ble_eq_true rfl, Nat.le_of_ble_eq_true rfl⟩ rfl hl.1 rfl (Nat.le_of_ble_eq_true rfl) d_q_quotient_456 (fun H locs hW => ?_)
    refine lv_goto (tgt := 464) hx hb d_q_quotient_459 (by decide) ?_
    exact j_q_quotient_464 C hk_346 y0 y2 y7 y8 y9 y11 y13 y15 y19 y21 y22 (y23 / z0) x45 w44 h _ _ _ hW (lv_sub hl [2, 3, 4, 5, 6, 7, 8, 9, 11, 12, 13, 0] rfl)
set_option maxHeartbeats 4000000 in
set_option maxRecDepth 100000 in
theorem j_q_quotient_398 {p : Program} {l : Launch} {e : Env} {s : State} {m : MethodId} {args : Array Value} {below : List Frame} {meth : Method} {c : Code} {D : va_G} {cA : Nat → ClassId} {base : Nat} {w' : WW} (C : cx b_q_quotient (none) 29 y_q_quotient.cls "quotient" p s m args meth c D cA base) {k_346 : Nat → Int32 → Int32 → Int32 → Int64 → Int64 → Int64 → Int64 → Int64 → Int64 → Int32 → Int32 → WW → Option WW} (hk_346 : ∀ (y0 : Nat) (y2 : Int32) (y7 : Int32) (y8 : Int32) (y9 : Int64) (y11 : Int64) (y13 : Int64) (y15 : Int64) (y17 : Int64) (y19 : Int64) (y21 : Int32) (y22 : Int32) (w : WW), k_346 y0 y2 y7 y8 y9 y11 y13 y15 y17 y19 y21 y22 w = some w' → ∀ (H : Heap) (locs : List Loc) (ls : Array Slot), wo_S D cls cA base s w H locs → lv_has ls 29 [(0, .ref (base + y0)), (2, .int y2), (7, .int y7), (8, .int y8), (9, .long y9), (11, .long y11), (13, .long y13), (15, .long y15), (17, .long y17), (19, .long y19), (21, .int y21), (22, .int y22)] → W p l e rm_q_quotient s m args below meth c H locs 0 0 (MQ below (wo_Q D cls cA base none w') args s rm_q_quotient.cells rm_q_quotient.slots (wo_B base)) (F0 m 346 ls [])) : ∀ (y0 : Nat) (y2 : Int32) (y7 : Int32) (y8 : Int32) (y9 : Int64) (y11 : Int64) (y13 : Int64) (y15 : Int64) (y17 : Int64) (y19 : Int64) (y21 : Int32) (y22 : Int32) (z0 : Int64) (w : WW), f_q_quotient_398 k_346 y0 y2 y7 y8 y9 y11 y13 y15 y17 y19 y21 y22 z0 w = some w' → ∀ (H : Heap) (locs : List Loc) (ls : Array Slot), wo_S D cls cA base s w H locs → lv_has ls 29 [(0, .ref (base + y0)), (2, .int y2), (7, .int y7), (8, .int y8), (9, .long y9), (11, .long y11), (13, .long y13), (15, .long y15), (17, .long y17), (19, .long y19), (21, .int y21), (22, .int y22)] → W p l e rm_q_quotient s m args below meth c H locs 0 0 (MQ below (wo_Q D cls cA base none w') args s rm_q_quotient.cells rm_q_quotient.slots (wo_B base)) (F0 m 398 ls [.long z0]) := by
  obtain ⟨hx, hb, hr, hml, hown, hts, hlk, hnm, hK, hG⟩ := id C
  intro y0 y2 y7 y8 y9 y11 y13 y15 y17 y19 y21 y22 z0 w h H locs ls hW hl
  unfold f_q_quotient_398 at h
  refine lv_lstore (lv' := [(23, .long z0), (0, .ref (base + y0)), (2, .int y2), (7, .int y7), (8, .int y8), (9, .long y9), (11, .long y11), (13, .long y13), (15, .long y15), (17, .long y17), (19, .long y19), (21, .int y21), (22, .int y22)]) hx hb d_q_quotient_398 hl (by decide) rfl (fun ls hl => ?_)
  refine lv_iload hx hb d_q_quotient_400 (lv_at hl 12 rfl) ?_
  refine lv_iconst (v := (4 : Int32)) hx hb d_q_quotient_402 (by decide) ?_
  refine lv_iand hx hb d_q_quotient_403 ?_
  refine lv_if_ne (tgt := 424) hx hb d_q_quotient_404 (by decide) (fun c37 => ?_) (fun c37 => ?_)
  · rw [if_neg c37] at h
    refine lv_iload hx hb d_q_quotient_424 (lv_at hl 12 rfl) ?_
    refine lv_iconst (v := (2 : Int32)) hx hb d_q_quotient_426 (by decide) ?_
    refine lv_iand hx hb d_q_quotient_427 ?_
    refine lv_if_ne (tgt := 436) hx hb d_q_quotient_428 (by decide) (fun c38 => ?_) (fun c38 => ?_)
    · rw [if_neg c38] at h
      refine lv_lload hx hb d_q_quotient_436 (lv_at hl 8 rfl) ?_
      exact j_q_quotient_438 C hk_346 y0 y2 y7 y8 y9 y11 y13 y15 y17 y19 y21 y22 z0 y15 w h _ _ _ hW (lv_sub hl [1, 2, 3, 4, 5, 6, 7, 8, 9, 10, 11, 12, 0] rfl)
    · rw [if_pos c38] at h
      refine lv_lload hx hb d_q_quotient_431 (lv_at hl 7 rfl) ?_
      refine lv_goto (tgt := 438) hx hb d_q_quotient_433 (by decide) ?_
      exact j_q_quotient_438 C hk_346 y0 y2 y7 y8 y9 y11 y13 y15 y17 y19 y21 y22 z0 y13 w h _ _ _ hW (lv_sub hl [1, 2, 3, 4, 5, 6, 7, 8, 9, 10, 11, 12, 0] rfl)
  · rw [if_pos c37] at h
    refine lv_iload hx hb d_q_quotient_407 (lv_at hl 12 rfl) ?_
    refine lv_iconst (v := (2 : Int32)) hx hb d_q_quotient_409 (by decide) ?_
    refine lv_iand hx hb d_q_quotient_410 ?_
    refine lv_if_ne (tgt := 419) hx hb d_q_quotient_411 (by decide) (fun c46 => ?_) (fun c46 => ?_)
    · rw [if_neg c46] at h
      refine lv_lload hx hb d_q_quotient_419 (lv_at hl 6 rfl) ?_
      refine lv_goto (tgt := 438) hx hb d_q_quotient_421 (by decide) ?_
      exact j_q_quotient_438 C hk_346 y0 y2 y7 y8 y9 y11 y13 y15 y17 y19 y21 y22 z0 y11 w h _ _ _ hW (lv_sub hl [1, 2, 3, 4, 5, 6, 7, 8, 9, 10, 11, 12, 0] rfl)
    · rw [if_pos c46] at h
      refine lv_lload hx hb d_q_quotient_414 (lv_at hl 5 rfl) ?_
      refine lv_goto (tgt := 438) hx hb d_q_quotient_416 (by decide) ?_
      exact j_q_quotient_438 C hk_346 y0 y2 y7 y8 y9 y11 y13 y15 y17 y19 y21 y22 z0 y9 w h _ _ _ hW (lv_sub hl [1, 2, 3, 4, 5, 6, 7, 8, 9, 10, 11, 12, 0] rfl)
set_option maxHeartbeats 4000000 in
set_option maxRecDepth 100000 in
theorem j_q_quotient_376 {p : Program} {l : Launch} {e : Env} {s : State} {m : MethodId} {args : Array Value} {below : List Frame} {meth : Method} {c : Code} {D : va_G} {cA : Nat → ClassId} {base : Nat} {w' : WW} (C : cx b_q_quotient (none) 29 y_q_quotient.cls "quotient" p s m args meth c D cA base) {k_346 : Nat → Int32 → Int32 → Int32 → Int64 → Int64 → Int64 → Int64 → Int64 → Int64 → Int32 → Int32 → WW → Option WW} (hk_346 : ∀ (y0 : Nat) (y2 : Int32) (y7 : Int32) (y8 : Int32) (y9 : Int64) (y11 : Int64) (y13 : Int64) (y15 : Int64) (y17 : Int64) (y19 : Int64) (y21 : Int32) (y22 : Int32) (w : WW), k_346 y0 y2 y7 y8 y9 y11 y13 y15 y17 y19 y21 y22 w = some w' → ∀ (H : Heap) (locs : List Loc) (ls : Array Slot), wo_S D cls cA base s w H locs → lv_has ls 29 [(0, .ref (base + y0)), (2, .int y2), (7, .int y7), (8, .int y8), (9, .long y9), (11, .long y11), (13, .long y13), (15, .long y15), (17, .long y17), (19, .long y19), (21, .int y21), (22, .int y22)] → W p l e rm_q_quotient s m args below meth c H locs 0 0 (MQ below (wo_Q D cls cA base none w') args s rm_q_quotient.cells rm_q_quotient.slots (wo_B base)) (F0 m 346 ls [])) : ∀ (y0 : Nat) (y2 : Int32) (y7 : Int32) (y8 : Int32) (y9 : Int64) (y11 : Int64) (y13 : Int64) (y15 : Int64) (y17 : Int64) (y19 : Int64) (y21 : Int32) (y22 : Int32) (w : WW), f_q_quotient_376 k_346 y0 y2 y7 y8 y9 y11 y13 y15 y17 y19 y21 y22 w = some w' → ∀ (H : Heap) (locs : List Loc) (ls : Array Slot), wo_S D cls cA base s w H locs → lv_has ls 29 [(0, .ref (base + y0)), (2, .int y2), (7, .int y7), (8, .int y8), (9, .long y9), (11, .long y11), (13, .long y13), (15, .long y15), (17, .long y17), (19, .long y19), (21, .int y21), (22, .int y22)] → W p l e rm_q_quotient s m args below meth c H locs 0 0 (MQ below (wo_Q D cls cA base none w') args s rm_q_quotient.cells rm_q_quotient.slots (wo_B base)) (F0 m 376 ls []) := by
  obtain ⟨hx, hb, hr, hml, hown, hts, hlk, hnm, hK, hG⟩ := id C
  intro y0 y2 y7 y8 y9 y11 y13 y15 y17 y19 y21 y22 w h H locs ls hW hl
  unfold f_q_quotient_376 at h
  refine lv_iload hx hb d_q_quotient_376 (lv_at hl 11 rfl) ?_
  refine lv_iconst (v := (1 : Int32)) hx hb d_q_quotient_378 (by decide) ?_
  refine lv_iand hx hb d_q_quotient_379 ?_
  refine lv_if_ne (tgt := 392) hx hb d_q_quotient_380 (by decide) (fun c34 => ?_) (fun c34 => ?_)
  · rw [if_neg c34] at h
    refine lv_aload_n hx hb d_q_quotient_392 rfl (lv_at hl 0 rfl) ?_
    replace h := bs h
    obtain ⟨x35, hx35, h⟩ := h
    refine gf_q_121 hx hb hts hown hK hG hW (gN_s hx35) d_q_quotient_393 ?_
    refine lv_iload_n hx hb d_q_quotient_396 rfl (lv_at hl 1 rfl) ?_
    replace h := bs h
    obtain ⟨x36, hx36, h⟩ := h
    refine wo_lald hx hb hK hW (t := 1) rfl hx36 d_q_quotient_397 ?_
    exact j_q_quotient_398 C hk_346 y0 y2 y7 y8 y9 y11 y13 y15 y17 y19 y21 y22 x36 w h _ _ _ hW (lv_sub hl [0, 1, 2, 3, 4, 5, 6, 7, 8, 9, 10, 11] rfl)
  · rw [if_pos c34] at h
    refine lv_aload_n hx hb d_q_quotient_383 rfl (lv_at hl 0 rfl) ?_
    replace h := bs h
    obtain ⟨x47, hx47, h⟩ := h
    refine gf_q_117 hx hb hts hown hK hG hW (gN_s hx47) d_q_quotient_384 ?_
    refine lv_iload_n hx hb d_q_quotient_387 rfl (lv_at hl 1 rfl) ?_
    replace h := bs h
    obtain ⟨x48, hx48, h⟩ := h
    refine wo_lald hx hb hK hW (t := 1) rfl hx48 d_q_quotient_388 ?_
    refine lv_goto (tgt := 398) hx hb d_q_quotient_389 (by decide) ?_
    exact j_q_quotient_398 C hk_346 y0 y2 y7 y8 y9 y11 y13 y15 y17 y19 y21 y22 x48 w h _ _ _ hW (lv_sub hl [0, 1, 2, 3, 4, 5, 6, 7, 8, 9, 10, 11] rfl)
set_option maxHeartbeats 4000000 in
set_option maxRecDepth 100000 in
theorem j_q_quotient_346 {p : Program} {l : Launch} {e : Env} {s : State} {m : MethodId} {args : Array Value} {below : List Frame} {meth : Method} {c : Code} {D : va_G} {cA : Nat → ClassId} {base : Nat} {w' : WW} (C : cx b_q_quotient (none) 29 y_q_quotient.cls "quotient" p s m args meth c D cA base)   : ∀ n : Nat, ∀ (y0 : Nat) (y2 : Int32) (y7 : Int32) (y8 : Int32) (y9 : Int64) (y11 : Int64) (y13 : Int64) (y15 : Int64) (y17 : Int64) (y19 : Int64) (y21 : Int32) (y22 : Int32) (w : WW), f_q_quotient_346 n y0 y2 y7 y8 y9 y11 y13 y15 y17 y19 y21 y22 w = some w' → ∀ (H : Heap) (locs : List Loc) (ls : Array Slot), wo_S D cls cA base s w H locs → lv_has ls 29 [(0, .ref (base + y0)), (2, .int y2), (7, .int y7), (8, .int y8), (9, .long y9), (11, .long y11), (13, .long y13), (15, .long y15), (17, .long y17), (19, .long y19), (21, .int y21), (22, .int y22)] → W p l e rm_q_quotient s m args below meth c H locs 0 0 (MQ below (wo_Q D cls cA base none w') args s rm_q_quotient.cells rm_q_quotient.slots (wo_B base)) (F0 m 346 ls []) := by
  obtain ⟨hx, hb, hr, hml, hown, hts, hlk, hnm, hK, hG⟩ := id C
  intro n
  induction n with
  | zero => intro y0 y2 y7 y8 y9 y11 y13 y15 y17 y19 y21 y22 w h; cases h
  | succ n ih =>
    intro y0 y2 y7 y8 y9 y11 y13 y15 y17 y19 y21 y22 w h H locs ls hW hl
    rw [f_q_quotient_346] at h
    refine lv_iload hx hb d_q_quotient_346 (lv_at hl 11 rfl) ?_
    refine lv_bipush (v := (8 : Int32)) hx hb d_q_quotient_348 (by decide) ?_
    refine lv_icmp_ge (tgt := 494) hx hb d_q_quotient_350 (by decide) (fun c30 => ?_) (fun c30 => ?_)
    · rw [if_pos c30] at h
      refine lv_aload_n hx hb d_q_quotient_494 rfl (lv_at hl 0 rfl) ?_
      refine lv_iload_n hx hb d_q_quotient_495 rfl (lv_at hl 1 rfl) ?_
      refine lv_lload hx hb d_q_quotient_496 (lv_at hl 8 rfl) ?_
      refine lv_lload hx hb d_q_quotient_498 (lv_at hl 9 rfl) ?_
      refine lv_lconst (v := (1 : Int64)) hx hb d_q_quotient_500 (by decide) ?_
      refine lv_lconst (v := (0 : Int64)) hx hb d_q_quotient_501 (by decide) ?_
      replace h := bs h
      obtain ⟨w31, hw31, h⟩ := h
      refine cv_q_406 (As := [.int y2, .long y17, .long y19, .long (1 : Int64), .long (0 : Int64)]) (rest := []) hx hb hml hown hts hK hG hW (c_q_put l D cA base hw31) (kb_q_put hw31) ⟨Nat.le_of_ble_eq_true rfl, Nat.le_of_ble_eq_true rfl⟩ ⟨Nat.le_of_ble_eq_true rfl, Nat.le_of_ble_eq_true rfl⟩ rfl hl.1 rfl (Nat.le_of_ble_eq_true rfl) d_q_quotient_502 (fun H locs hW => ?_)
      cases h
      exact wo_vret hx hb hr hlk hW d_q_quotient_505
    · rw [if_neg c30] at h
      refine lv_iload hx hb d_q_quotient_353 (lv_at hl 11 rfl) ?_
      refine lv_iconst (v := (4 : Int32)) hx hb d_q_quotient_355 (by decide) ?_
      refine lv_iand hx hb d_q_quotient_356 ?_
      refine lv_if_ne (tgt := 368) hx hb d_q_quotient_357 (by decide) (fun c32 => ?_) (fun c32 => ?_)
      · rw [if_neg c32] at h
        refine lv_iload hx hb d_q_quotient_368 (lv_at hl 3 rfl) ?_
        refine lv_if_ne (tgt := 376) hx hb d_q_quotient_370 (by decide) (fun c33 => ?_) (fun c33 => ?_)
        · rw [if_neg c33] at h
          exact j_q_quotient_376 C ih y0 y2 y7 y8 y9 y11 y13 y15 y17 y19 y21 y22 w h _ _ _ hW (lv_sub hl [0, 1, 2, 3, 4, 5, 6, 7, 8, 9, 10, 11] rfl)
        · rw [if_pos c33] at h
          refine lv_goto (tgt := 488) hx hb d_q_quotient_373 (by decide) ?_
          exact j_q_quotient_488 C ih y0 y2 y7 y8 y9 y11 y13 y15 y17 y19 y21 y22 w h _ _ _ hW (lv_sub hl [0, 1, 2, 3, 4, 5, 6, 7, 8, 9, 10, 11] rfl)
      · rw [if_pos c32] at h
        refine lv_iload hx hb d_q_quotient_360 (lv_at hl 2 rfl) ?_
        refine lv_if_ne (tgt := 376) hx hb d_q_quotient_362 (by decide) (fun c49 => ?_) (fun c49 => ?_)
        · rw [if_neg c49] at h
          exact j_q_quotient_376 C ih y0 y2 y7 y8 y9 y11 y13 y15 y17 y19 y21 y22 w h _ _ _ hW (lv_sub hl [0, 1, 2, 3, 4, 5, 6, 7, 8, 9, 10, 11] rfl)
        · rw [if_pos c49] at h
          refine lv_goto (tgt := 488) hx hb d_q_quotient_365 (by decide) ?_
          exact j_q_quotient_488 C ih y0 y2 y7 y8 y9 y11 y13 y15 y17 y19 y21 y22 w h _ _ _ hW (lv_sub hl [0, 1, 2, 3, 4, 5, 6, 7, 8, 9, 10, 11] rfl)
set_option maxHeartbeats 4000000 in
set_option maxRecDepth 100000 in
theorem j_q_quotient_288 {p : Program} {l : Launch} {e : Env} {s : State} {m : MethodId} {args : Array Value} {below : List Frame} {meth : Method} {c : Code} {D : va_G} {cA : Nat → ClassId} {base : Nat} {w' : WW} (C : cx b_q_quotient (none) 29 y_q_quotient.cls "quotient" p s m args meth c D cA base)   : ∀ (y0 : Nat) (y2 : Int32) (z0 : Int64) (z1 : Int64) (w : WW), f_q_quotient_288 y0 y2 z0 z1 w = some w' → ∀ (H : Heap) (locs : List Loc) (ls : Array Slot), wo_S D cls cA base s w H locs → lv_has ls 29 [(0, .ref (base + y0)), (2, .int y2)] → W p l e rm_q_quotient s m args below meth c H locs 0 0 (MQ below (wo_Q D cls cA base none w') args s rm_q_quotient.cells rm_q_quotient.slots (wo_B base)) (F0 m 288 ls [.long z1, .long z0]) := by
  obtain ⟨hx, hb, hr, hml, hown, hts, hlk, hnm, hK, hG⟩ := id C
  intro y0 y2 z0 z1 w h H locs ls hW hl
  unfold f_q_quotient_288 at h
  replace h := bs2 h
  obtain ⟨x53, w52, hw52, h⟩ := h
  refine cs_q_435 (As := [.long z0, .long z1]) (rest := []) hx hb hml hown hts hK hG hW (c_q_max l D cA base hw52) ⟨Nat.le_of_ble_eq_true rfl, Nat.le_of_ble_eq_true rfl⟩ ⟨Nat.le_of_ble_eq_true rfl, Nat.le_of_ble_eq_true rfl⟩ rfl hl.1 rfl (Nat.le_of_ble_eq_true rfl) d_q_quotient_288 (fun H locs hW => ?_)
  refine lv_lconst (v := (1 : Int64)) hx hb d_q_quotient_291 (by decide) ?_
  refine lv_lsub hx hb d_q_quotient_292 ?_
  refine lv_lstore (lv' := [(17, .long (x53 - (1 : Int64))), (0, .ref (base + y0)), (2, .int y2)]) hx hb d_q_quotient_293 hl (by decide) rfl (fun ls hl => ?_)
  refine lv_aload_n hx hb d_q_quotient_295 rfl (lv_at hl 1 rfl) ?_
  refine lv_iload_n hx hb d_q_quotient_296 rfl (lv_at hl 2 rfl) ?_
  refine lv_aload_n hx hb d_q_quotient_297 rfl (lv_at hl 1 rfl) ?_
  replace h := bs h
  obtain ⟨x54, hx54, h⟩ := h
  refine gf_q_117 hx hb hts hown hK hG hW (gN_s hx54) d_q_quotient_298 ?_
  refine lv_iload_n hx hb d_q_quotient_301 rfl (lv_at hl 2 rfl) ?_
  replace h := bs h
  obtain ⟨x55, hx55, h⟩ := h
  refine wo_lald hx hb hK hW (t := 1) rfl hx55 d_q_quotient_302 ?_
  refine lv_lconst (v := (0 : Int64)) hx hb d_q_quotient_303 (by decide) ?_
  replace h := bs2 h
  obtain ⟨x57, w56, hw56, h⟩ := h
  refine cs_q_432 (As := [.long x55, .long (0 : Int64)]) (rest := [.int y2, .ref (base + y0)]) hx hb hml hown hts hK hG hW (c_q_min l D cA base hw56) ⟨Nat.le_of_ble_eq_true rfl, Nat.le_of_ble_eq_true rfl⟩ ⟨Nat.le_of_ble_eq_true rfl, Nat.le_of_ble_eq_true rfl⟩ rfl hl.1 rfl (Nat.le_of_ble_eq_true rfl) d_q_quotient_304 (fun H locs hW => ?_)
  refine lv_lload hx hb d_q_quotient_307 (lv_at hl 0 rfl) ?_
  refine lv_lneg hx hb d_q_quotient_309 ?_
  replace h := bs2 h
  obtain ⟨x59, w58, hw58, h⟩ := h
  refine cs_q_435 (As := [.long x57, .long (-(x53 - (1 : Int64)))]) (rest := [.int y2, .ref (base + y0)]) hx hb hml hown hts hK hG hW (c_q_max l D cA base hw58) ⟨Nat.le_of_ble_eq_true rfl, Nat.le_of_ble_eq_true rfl⟩ ⟨Nat.le_of_ble_eq_true rfl, Nat.le_of_ble_eq_true rfl⟩ rfl hl.1 rfl (Nat.le_of_ble_eq_true rfl) d_q_quotient_310 (fun H locs hW => ?_)
  refine lv_aload_n hx hb d_q_quotient_313 rfl (lv_at hl 1 rfl) ?_
  replace h := bs h
  obtain ⟨x60, hx60, h⟩ := h
  refine gf_q_121 hx hb hts hown hK hG hW (gN_s hx60) d_q_quotient_314 ?_
  refine lv_iload_n hx hb d_q_quotient_317 rfl (lv_at hl 2 rfl) ?_
  replace h := bs h
  obtain ⟨x61, hx61, h⟩ := h
  refine wo_lald hx hb hK hW (t := 1) rfl hx61 d_q_quotient_318 ?_
  refine lv_lconst (v := (0 : Int64)) hx hb d_q_quotient_319 (by decide) ?_
  replace h := bs2 h
  obtain ⟨x63, w62, hw62, h⟩ := h
  refine cs_q_435 (As := [.long x61, .long (0 : Int64)]) (rest := [.long x59, .int y2, .ref (base + y0)]) hx hb hml hown hts hK hG hW (c_q_max l D cA base hw62) ⟨Nat.le_of_ble_eq_true rfl, Nat.le_of_ble_eq_true rfl⟩ ⟨Nat.le_of_ble_eq_true rfl, Nat.le_of_ble_eq_true rfl⟩ rfl hl.1 rfl (Nat.le_of_ble_eq_true rfl) d_q_quotient_320 (fun H locs hW => ?_)
  refine lv_lload hx hb d_q_quotient_323 (lv_at hl 0 rfl) ?_
  replace h := bs2 h
  obtain ⟨x65, w64, hw64, h⟩ := h
  refine cs_q_432 (As := [.long x63, .long (x53 - (1 : Int64))]) (rest := [.long x59, .int y2, .ref (base + y0)]) hx hb hml hown hts hK hG hW (c_q_min l D cA base hw64) ⟨Nat.le_of_ble_eq_true rfl, Nat.le_of_ble_eq_true rfl⟩ ⟨Nat.le_of_ble_eq_true rfl, Nat.le_of_ble_eq_true rfl⟩ rfl hl.1 rfl (Nat.le_of_ble_eq_true rfl) d_q_quotient_325 (fun H locs hW => ?_)
  refine lv_lconst (v := (1 : Int64)) hx hb d_q_quotient_328 (by decide) ?_
  refine lv_lconst (v := (0 : Int64)) hx hb d_q_quotient_329 (by decide) ?_
  replace h := bs h
  obtain ⟨w66, hw66, h⟩ := h
  refine cv_q_406 (As := [.int y2, .long x59, .long x65, .long (1 : Int64), .long (0 : Int64)]) (rest := []) hx hb hml hown hts hK hG hW (c_q_put l D cA base hw66) (kb_q_put hw66) ⟨Nat.le_of_ble_eq_true rfl, Nat.le_of_ble_eq_true rfl⟩ ⟨Nat.le_of_ble_eq_true rfl, Nat.le_of_ble_eq_true rfl⟩ rfl hl.1 rfl (Nat.le_of_ble_eq_true rfl) d_q_quotient_330 (fun H locs hW => ?_)
  cases h
  exact wo_vret hx hb hr hlk hW d_q_quotient_333
set_option maxHeartbeats 4000000 in
set_option maxRecDepth 100000 in
theorem j_q_quotient_277 {p : Program} {l : Launch} {e : Env} {s : State} {m : MethodId} {args : Array Value} {below : List Frame} {meth : Method} {c : Code} {D : va_G} {cA : Nat → ClassId} {base : Nat} {w' : WW} (C : cx b_q_quotient (none) 29 y_q_quotient.cls "quotient" p s m args meth c D cA base)   : ∀ (y0 : Nat) (y2 : Int32) (y8 : Int32) (y15 : Int64) (z0 : Int64) (w : WW), f_q_quotient_277 y0 y2 y8 y15 z0 w = some w' → ∀ (H : Heap) (locs : List Loc) (ls : Array Slot), wo_S D cls cA base s w H locs → lv_has ls 29 [(0, .ref (base + y0)), (2, .int y2), (8, .int y8), (15, .long y15)] → W p l e rm_q_quotient s m args below meth c H locs 0 0 (MQ below (wo_Q D cls cA base none w') args s rm_q_quotient.cells rm_q_quotient.slots (wo_B base)) (F0 m 277 ls [.long z0]) := by
  obtain ⟨hx, hb, hr, hml, hown, hts, hlk, hnm, hK, hG⟩ := id C
  intro y0 y2 y8 y15 z0 w h H locs ls hW hl
  unfold f_q_quotient_277 at h
  refine lv_iload hx hb d_q_quotient_277 (lv_at hl 2 rfl) ?_
  refine lv_if_eq (tgt := 287) hx hb d_q_quotient_279 (by decide) (fun c51 => ?_) (fun c51 => ?_)
  · rw [if_pos c51] at h
    refine lv_lconst (v := (0 : Int64)) hx hb d_q_quotient_287 (by decide) ?_
    exact j_q_quotient_288 C y0 y2 z0 (0 : Int64) w h _ _ _ hW (lv_sub hl [0, 1] rfl)
  · rw [if_neg c51] at h
    refine lv_lload hx hb d_q_quotient_282 (lv_at hl 3 rfl) ?_
    refine lv_goto (tgt := 288) hx hb d_q_quotient_284 (by decide) ?_
    exact j_q_quotient_288 C y0 y2 z0 y15 w h _ _ _ hW (lv_sub hl [0, 1] rfl)
set_option maxHeartbeats 4000000 in
set_option maxRecDepth 100000 in
theorem j_q_quotient_217 {p : Program} {l : Launch} {e : Env} {s : State} {m : MethodId} {args : Array Value} {below : List Frame} {meth : Method} {c : Code} {D : va_G} {cA : Nat → ClassId} {base : Nat} {w' : WW} (C : cx b_q_quotient (none) 29 y_q_quotient.cls "quotient" p s m args meth c D cA base)   : ∀ (y0 : Nat) (y1 : Int32) (y2 : Int32) (y3 : Int32) (y7 : Int32) (y8 : Int32) (w : WW), f_q_quotient_217 y0 y1 y2 y3 y7 y8 w = some w' → ∀ (H : Heap) (locs : List Loc) (ls : Array Slot), wo_S D cls cA base s w H locs → lv_has ls 29 [(0, .ref (base + y0)), (1, .int y1), (2, .int y2), (3, .int y3), (7, .int y7), (8, .int y8)] → W p l e rm_q_quotient s m args below meth c H locs 0 0 (MQ below (wo_Q D cls cA base none w') args s rm_q_quotient.cells rm_q_quotient.slots (wo_B base)) (F0 m 217 ls []) := by
  obtain ⟨hx, hb, hr, hml, hown, hts, hlk, hnm, hK, hG⟩ := id C
  intro y0 y1 y2 y3 y7 y8 w h H locs ls hW hl
  unfold f_q_quotient_217 at h
  refine lv_aload_n hx hb d_q_quotient_217 rfl (lv_at hl 0 rfl) ?_
  replace h := bs h
  obtain ⟨x17, hx17, h⟩ := h
  refine gf_q_117 hx hb hts hown hK hG hW (gN_s hx17) d_q_quotient_218 ?_
  refine lv_iload_n hx hb d_q_quotient_221 rfl (lv_at hl 3 rfl) ?_
  replace h := bs h
  obtain ⟨x18, hx18, h⟩ := h
  refine wo_lald hx hb hK hW (t := 1) rfl hx18 d_q_quotient_222 ?_
  refine lv_lstore (lv' := [(9, .long x18), (0, .ref (base + y0)), (1, .int y1), (2, .int y2), (3, .int y3), (7, .int y7), (8, .int y8)]) hx hb d_q_quotient_223 hl (by decide) rfl (fun ls hl => ?_)
  refine lv_aload_n hx hb d_q_quotient_225 rfl (lv_at hl 1 rfl) ?_
  replace h := bs h
  obtain ⟨x19, hx19, h⟩ := h
  refine gf_q_121 hx hb hts hown hK hG hW (gN_s hx19) d_q_quotient_226 ?_
  refine lv_iload_n hx hb d_q_quotient_229 rfl (lv_at hl 4 rfl) ?_
  replace h := bs h
  obtain ⟨x20, hx20, h⟩ := h
  refine wo_lald hx hb hK hW (t := 1) rfl hx20 d_q_quotient_230 ?_
  refine lv_ldc2 (own := Rc_q) (v := (-1 : Int64)) hx hb hown (hts (.constantLong "AlarmForgeModel" 385 (-1 : Int64)) (gt_of (i := 1581) (by decide +kernel) (by decide +kernel))) d_q_quotient_231 ?_
  replace h := bs2 h
  obtain ⟨x22, w21, hw21, h⟩ := h
  refine cs_q_432 (As := [.long x20, .long (-1 : Int64)]) (rest := []) hx hb hml hown hts hK hG hW (c_q_min l D cA base hw21) ⟨Nat.le_of_ble_eq_true rfl, Nat.le_of_ble_eq_true rfl⟩ ⟨Nat.le_of_ble_eq_true rfl, Nat.le_of_ble_eq_true rfl⟩ rfl hl.1 rfl (Nat.le_of_ble_eq_true rfl) d_q_quotient_234 (fun H locs hW => ?_)
  refine lv_lstore (lv' := [(11, .long x22), (9, .long x18), (0, .ref (base + y0)), (1, .int y1), (2, .int y2), (3, .int y3), (7, .int y7), (8, .int y8)]) hx hb d_q_quotient_237 hl (by decide) rfl (fun ls hl => ?_)
  refine lv_aload_n hx hb d_q_quotient_239 rfl (lv_at hl 2 rfl) ?_
  replace h := bs h
  obtain ⟨x23, hx23, h⟩ := h
  refine gf_q_117 hx hb hts hown hK hG hW (gN_s hx23) d_q_quotient_240 ?_
  refine lv_iload_n hx hb d_q_quotient_243 rfl (lv_at hl 5 rfl) ?_
  replace h := bs h
  obtain ⟨x24, hx24, h⟩ := h
  refine wo_lald hx hb hK hW (t := 1) rfl hx24 d_q_quotient_244 ?_
  refine lv_lconst (v := (1 : Int64)) hx hb d_q_quotient_245 (by decide) ?_
  replace h := bs2 h
  obtain ⟨x26, w25, hw25, h⟩ := h
  refine cs_q_435 (As := [.long x24, .long (1 : Int64)]) (rest := []) hx hb hml hown hts hK hG hW (c_q_max l D cA base hw25) ⟨Nat.le_of_ble_eq_true rfl, Nat.le_of_ble_eq_true rfl⟩ ⟨Nat.le_of_ble_eq_true rfl, Nat.le_of_ble_eq_true rfl⟩ rfl hl.1 rfl (Nat.le_of_ble_eq_true rfl) d_q_quotient_246 (fun H locs hW => ?_)
  refine lv_lstore (lv' := [(13, .long x26), (11, .long x22), (9, .long x18), (0, .ref (base + y0)), (1, .int y1), (2, .int y2), (3, .int y3), (7, .int y7), (8, .int y8)]) hx hb d_q_quotient_249 hl (by decide) rfl (fun ls hl => ?_)
  refine lv_aload_n hx hb d_q_quotient_251 rfl (lv_at hl 3 rfl) ?_
  replace h := bs h
  obtain ⟨x27, hx27, h⟩ := h
  refine gf_q_121 hx hb hts hown hK hG hW (gN_s hx27) d_q_quotient_252 ?_
  refine lv_iload_n hx hb d_q_quotient_255 rfl (lv_at hl 6 rfl) ?_
  replace h := bs h
  obtain ⟨x28, hx28, h⟩ := h
  refine wo_lald hx hb hK hW (t := 1) rfl hx28 d_q_quotient_256 ?_
  refine lv_lstore (lv' := [(15, .long x28), (13, .long x26), (11, .long x22), (9, .long x18), (0, .ref (base + y0)), (1, .int y1), (2, .int y2), (3, .int y3), (7, .int y7), (8, .int y8)]) hx hb d_q_quotient_257 hl (by decide) rfl (fun ls hl => ?_)
  refine lv_iload_n hx hb d_q_quotient_259 rfl (lv_at hl 5 rfl) ?_
  refine lv_bipush (v := (9 : Int32)) hx hb d_q_quotient_260 (by decide) ?_
  refine lv_icmp_ne (tgt := 334) hx hb d_q_quotient_262 (by decide) (fun c29 => ?_) (fun c29 => ?_)
  · rw [if_neg c29] at h
    refine lv_lconst (v := (0 : Int64)) hx hb d_q_quotient_334 (by decide) ?_
    refine lv_lstore (lv' := [(17, .long (0 : Int64)), (15, .long x28), (13, .long x26), (11, .long x22), (9, .long x18), (0, .ref (base + y0)), (1, .int y1), (2, .int y2), (3, .int y3), (7, .int y7), (8, .int y8)]) hx hb d_q_quotient_335 hl (by decide) rfl (fun ls hl => ?_)
    refine lv_lconst (v := (0 : Int64)) hx hb d_q_quotient_337 (by decide) ?_
    refine lv_lstore (lv' := [(19, .long (0 : Int64)), (17, .long (0 : Int64)), (15, .long x28), (13, .long x26), (11, .long x22), (9, .long x18), (0, .ref (base + y0)), (1, .int y1), (2, .int y2), (3, .int y3), (7, .int y7), (8, .int y8)]) hx hb d_q_quotient_338 hl (by decide) rfl (fun ls hl => ?_)
    refine lv_iconst (v := (0 : Int32)) hx hb d_q_quotient_340 (by decide) ?_
    refine lv_istore (lv' := [(21, .int (0 : Int32)), (19, .long (0 : Int64)), (17, .long (0 : Int64)), (15, .long x28), (13, .long x26), (11, .long x22), (9, .long x18), (0, .ref (base + y0)), (1, .int y1), (2, .int y2), (3, .int y3), (7, .int y7), (8, .int y8)]) hx hb d_q_quotient_341 hl (by decide) rfl (fun ls hl => ?_)
    refine lv_iconst (v := (0 : Int32)) hx hb d_q_quotient_343 (by decide) ?_
    refine lv_istore (lv' := [(22, .int (0 : Int32)), (21, .int (0 : Int32)), (19, .long (0 : Int64)), (17, .long (0 : Int64)), (15, .long x28), (13, .long x26), (11, .long x22), (9, .long x18), (0, .ref (base + y0)), (1, .int y1), (2, .int y2), (3, .int y3), (7, .int y7), (8, .int y8)]) hx hb d_q_quotient_344 hl (by decide) rfl (fun ls hl => ?_)
    exact j_q_quotient_346 C KK y0 y2 y7 y8 x18 x22 x26 x28 (0 : Int64) (0 : Int64) (0 : Int32) (0 : Int32) w25 h _ _ _ hW (lv_sub hl [8, 10, 12, 13, 7, 6, 5, 4, 3, 2, 1, 0] rfl)
  · rw [if_pos c29] at h
    refine lv_iload hx hb d_q_quotient_265 (lv_at hl 8 rfl) ?_
    refine lv_if_eq (tgt := 276) hx hb d_q_quotient_267 (by decide) (fun c50 => ?_) (fun c50 => ?_)
    · rw [if_pos c50] at h
      refine lv_lconst (v := (0 : Int64)) hx hb d_q_quotient_276 (by decide) ?_
      exact j_q_quotient_277 C y0 y2 y8 x28 (0 : Int64) w25 h _ _ _ hW (lv_sub hl [4, 6, 9, 0] rfl)
    · rw [if_neg c50] at h
      refine lv_lload hx hb d_q_quotient_270 (lv_at hl 3 rfl) ?_
      refine lv_lneg hx hb d_q_quotient_272 ?_
      refine lv_goto (tgt := 277) hx hb d_q_quotient_273 (by decide) ?_
      exact j_q_quotient_277 C y0 y2 y8 x28 (-x18) w25 h _ _ _ hW (lv_sub hl [4, 6, 9, 0] rfl)
set_option maxHeartbeats 4000000 in
set_option maxRecDepth 100000 in
theorem j_q_quotient_202 {p : Program} {l : Launch} {e : Env} {s : State} {m : MethodId} {args : Array Value} {below : List Frame} {meth : Method} {c : Code} {D : va_G} {cA : Nat → ClassId} {base : Nat} {w' : WW} (C : cx b_q_quotient (none) 29 y_q_quotient.cls "quotient" p s m args meth c D cA base)   : ∀ (y0 : Nat) (y2 : Int32) (z0 : Int64) (w : WW), f_q_quotient_202 y0 y2 z0 w = some w' → ∀ (H : Heap) (locs : List Loc) (ls : Array Slot), wo_S D cls cA base s w H locs → lv_has ls 29 [(0, .ref (base + y0)), (2, .int y2)] → W p l e rm_q_quotient s m args below meth c H locs 0 0 (MQ below (wo_Q D cls cA base none w') args s rm_q_quotient.cells rm_q_quotient.slots (wo_B base)) (F0 m 202 ls [.long z0]) := by
  obtain ⟨hx, hb, hr, hml, hown, hts, hlk, hnm, hK, hG⟩ := id C
  intro y0 y2 z0 w h H locs ls hW hl
  unfold f_q_quotient_202 at h
  refine lv_lstore (lv' := [(9, .long z0), (0, .ref (base + y0)), (2, .int y2)]) hx hb d_q_quotient_202 hl (by decide) rfl (fun ls hl => ?_)
  refine lv_aload_n hx hb d_q_quotient_204 rfl (lv_at hl 1 rfl) ?_
  refine lv_iload_n hx hb d_q_quotient_205 rfl (lv_at hl 2 rfl) ?_
  refine lv_lload hx hb d_q_quotient_206 (lv_at hl 0 rfl) ?_
  refine lv_lload hx hb d_q_quotient_208 (lv_at hl 0 rfl) ?_
  refine lv_lconst (v := (0 : Int64)) hx hb d_q_quotient_210 (by decide) ?_
  refine lv_lload hx hb d_q_quotient_211 (lv_at hl 0 rfl) ?_
  replace h := bs h
  obtain ⟨w77, hw77, h⟩ := h
  refine cv_q_406 (As := [.int y2, .long z0, .long z0, .long (0 : Int64), .long z0]) (rest := []) hx hb hml hown hts hK hG hW (c_q_put l D cA base hw77) (kb_q_put hw77) ⟨Nat.le_of_ble_eq_true rfl, Nat.le_of_ble_eq_true rfl⟩ ⟨Nat.le_of_ble_eq_true rfl, Nat.le_of_ble_eq_true rfl⟩ rfl hl.1 rfl (Nat.le_of_ble_eq_true rfl) d_q_quotient_213 (fun H locs hW => ?_)
  cases h
  exact wo_vret hx hb hr hlk hW d_q_quotient_216
set_option maxHeartbeats 4000000 in
set_option maxRecDepth 100000 in
theorem j_q_quotient_167 {p : Program} {l : Launch} {e : Env} {s : State} {m : MethodId} {args : Array Value} {below : List Frame} {meth : Method} {c : Code} {D : va_G} {cA : Nat → ClassId} {base : Nat} {w' : WW} (C : cx b_q_quotient (none) 29 y_q_quotient.cls "quotient" p s m args meth c D cA base)   : ∀ (y0 : Nat) (y1 : Int32) (y2 : Int32) (y3 : Int32) (w : WW), f_q_quotient_167 y0 y1 y2 y3 w = some w' → ∀ (H : Heap) (locs : List Loc) (ls : Array Slot), wo_S D cls cA base s w H locs → lv_has ls 29 [(0, .ref (base + y0)), (1, .int y1), (2, .int y2), (3, .int y3)] → W p l e rm_q_quotient s m args below meth c H locs 0 0 (MQ below (wo_Q D cls cA base none w') args s rm_q_quotient.cells rm_q_quotient.slots (wo_B base)) (F0 m 167 ls []) := by
  obtain ⟨hx, hb, hr, hml, hown, hts, hlk, hnm, hK, hG⟩ := id C
  intro y0 y1 y2 y3 w h H locs ls hW hl
  unfold f_q_quotient_167 at h
  refine lv_iload_n hx hb d_q_quotient_167 rfl (lv_at hl 1 rfl) ?_
  refine lv_bipush (v := (8 : Int32)) hx hb d_q_quotient_168 (by decide) ?_
  refine lv_icmp_ne (tgt := 189) hx hb d_q_quotient_170 (by decide) (fun c71 => ?_) (fun c71 => ?_)
  · rw [if_neg c71] at h
    refine lv_aload_n hx hb d_q_quotient_189 rfl (lv_at hl 0 rfl) ?_
    replace h := bs h
    obtain ⟨x72, hx72, h⟩ := h
    refine gf_q_127 hx hb hts hown hK hG hW (gN_s hx72) d_q_quotient_190 ?_
    refine lv_iload_n hx hb d_q_quotient_193 rfl (lv_at hl 2 rfl) ?_
    replace h := bs h
    obtain ⟨x73, hx73, h⟩ := h
    refine wo_lald hx hb hK hW (t := 1) rfl hx73 d_q_quotient_194 ?_
    refine lv_aload_n hx hb d_q_quotient_195 rfl (lv_at hl 0 rfl) ?_
    replace h := bs h
    obtain ⟨x74, hx74, h⟩ := h
    refine gf_q_127 hx hb hts hown hK hG hW (gN_s hx74) d_q_quotient_196 ?_
    refine lv_iload_n hx hb d_q_quotient_199 rfl (lv_at hl 3 rfl) ?_
    replace h := bs h
    obtain ⟨x75, hx75, h⟩ := h
    refine wo_lald hx hb hK hW (t := 1) rfl hx75 d_q_quotient_200 ?_
    replace h := its h
    obtain ⟨c76, h⟩ := h
    refine lv_lrem hx hb d_q_quotient_201 c76 ?_
    exact j_q_quotient_202 C y0 y2 (x73 - x73 / x75 * x75) w h _ _ _ hW (lv_sub hl [0, 2] rfl)
  · rw [if_pos c71] at h
    refine lv_aload_n hx hb d_q_quotient_173 rfl (lv_at hl 0 rfl) ?_
    replace h := bs h
    obtain ⟨x78, hx78, h⟩ := h
    refine gf_q_127 hx hb hts hown hK hG hW (gN_s hx78) d_q_quotient_174 ?_
    refine lv_iload_n hx hb d_q_quotient_177 rfl (lv_at hl 2 rfl) ?_
    replace h := bs h
    obtain ⟨x79, hx79, h⟩ := h
    refine wo_lald hx hb hK hW (t := 1) rfl hx79 d_q_quotient_178 ?_
    refine lv_aload_n hx hb d_q_quotient_179 rfl (lv_at hl 0 rfl) ?_
    replace h := bs h
    obtain ⟨x80, hx80, h⟩ := h
    refine gf_q_127 hx hb hts hown hK hG hW (gN_s hx80) d_q_quotient_180 ?_
    refine lv_iload_n hx hb d_q_quotient_183 rfl (lv_at hl 3 rfl) ?_
    replace h := bs h
    obtain ⟨x81, hx81, h⟩ := h
    refine wo_lald hx hb hK hW (t := 1) rfl hx81 d_q_quotient_184 ?_
    replace h := its h
    obtain ⟨c82, h⟩ := h
    refine lv_ldiv hx hb d_q_quotient_185 c82 ?_
    refine lv_goto (tgt := 202) hx hb d_q_quotient_186 (by decide) ?_
    exact j_q_quotient_202 C y0 y2 (x79 / x81) w h _ _ _ hW (lv_sub hl [0, 2] rfl)
set_option maxHeartbeats 4000000 in
set_option maxRecDepth 100000 in
theorem j_q_quotient_113 {p : Program} {l : Launch} {e : Env} {s : State} {m : MethodId} {args : Array Value} {below : List Frame} {meth : Method} {c : Code} {D : va_G} {cA : Nat → ClassId} {base : Nat} {w' : WW} (C : cx b_q_quotient (none) 29 y_q_quotient.cls "quotient" p s m args meth c D cA base)   : ∀ (y0 : Nat) (y1 : Int32) (y2 : Int32) (y3 : Int32) (y7 : Int32) (y8 : Int32) (w : WW), f_q_quotient_113 y0 y1 y2 y3 y7 y8 w = some w' → ∀ (H : Heap) (locs : List Loc) (ls : Array Slot), wo_S D cls cA base s w H locs → lv_has ls 29 [(0, .ref (base + y0)), (1, .int y1), (2, .int y2), (3, .int y3), (7, .int y7), (8, .int y8)] → W p l e rm_q_quotient s m args below meth c H locs 0 0 (MQ below (wo_Q D cls cA base none w') args s rm_q_quotient.cells rm_q_quotient.slots (wo_B base)) (F0 m 113 ls []) := by
  obtain ⟨hx, hb, hr, hml, hown, hts, hlk, hnm, hK, hG⟩ := id C
  intro y0 y1 y2 y3 y7 y8 w h H locs ls hW hl
  unfold f_q_quotient_113 at h
  refine lv_aload_n hx hb d_q_quotient_113 rfl (lv_at hl 0 rfl) ?_
  replace h := bs h
  obtain ⟨x14, hx14, h⟩ := h
  refine gf_q_124 hx hb hts hown hK hG hW (gN_s hx14) d_q_quotient_114 ?_
  refine lv_iload_n hx hb d_q_quotient_117 rfl (lv_at hl 2 rfl) ?_
  replace h := bs h
  obtain ⟨x15, hx15, h⟩ := h
  refine wo_lald hx hb hK hW (t := 1) rfl hx15 d_q_quotient_118 ?_
  refine lv_lconst (v := (0 : Int64)) hx hb d_q_quotient_119 (by decide) ?_
  refine lc_ne (tgt := 217) hx hb d_q_quotient_120 d_q_quotient_121 (by decide) (fun c16 => ?_) (fun c16 => ?_)
  · rw [if_neg c16] at h
    exact j_q_quotient_217 C y0 y1 y2 y3 y7 y8 w h _ _ _ hW (lv_sub hl [0, 1, 2, 3, 4, 5] rfl)
  · rw [if_pos c16] at h
    refine lv_aload_n hx hb d_q_quotient_124 rfl (lv_at hl 0 rfl) ?_
    replace h := bs h
    obtain ⟨x67, hx67, h⟩ := h
    refine gf_q_124 hx hb hts hown hK hG hW (gN_s hx67) d_q_quotient_125 ?_
    refine lv_iload_n hx hb d_q_quotient_128 rfl (lv_at hl 3 rfl) ?_
    replace h := bs h
    obtain ⟨x68, hx68, h⟩ := h
    refine wo_lald hx hb hK hW (t := 1) rfl hx68 d_q_quotient_129 ?_
    refine lv_lconst (v := (0 : Int64)) hx hb d_q_quotient_130 (by decide) ?_
    refine lc_ne (tgt := 217) hx hb d_q_quotient_131 d_q_quotient_132 (by decide) (fun c69 => ?_) (fun c69 => ?_)
    · rw [if_neg c69] at h
      exact j_q_quotient_217 C y0 y1 y2 y3 y7 y8 w h _ _ _ hW (lv_sub hl [0, 1, 2, 3, 4, 5] rfl)
    · rw [if_pos c69] at h
      refine lv_iload_n hx hb d_q_quotient_135 rfl (lv_at hl 1 rfl) ?_
      refine lv_bipush (v := (9 : Int32)) hx hb d_q_quotient_136 (by decide) ?_
      refine lv_icmp_eq (tgt := 167) hx hb d_q_quotient_138 (by decide) (fun c70 => ?_) (fun c70 => ?_)
      · rw [if_pos c70] at h
        exact j_q_quotient_167 C y0 y1 y2 y3 w h _ _ _ hW (lv_sub hl [0, 1, 2, 3] rfl)
      · rw [if_neg c70] at h
        refine lv_aload_n hx hb d_q_quotient_141 rfl (lv_at hl 0 rfl) ?_
        replace h := bs h
        obtain ⟨x83, hx83, h⟩ := h
        refine gf_q_127 hx hb hts hown hK hG hW (gN_s hx83) d_q_quotient_142 ?_
        refine lv_iload_n hx hb d_q_quotient_145 rfl (lv_at hl 2 rfl) ?_
        replace h := bs h
        obtain ⟨x84, hx84, h⟩ := h
        refine wo_lald hx hb hK hW (t := 1) rfl hx84 d_q_quotient_146 ?_
        refine lv_ldc2 (own := Rc_q) (v := (-2147483648 : Int64)) hx hb hown (hts (.constantLong "AlarmForgeModel" 340 (-2147483648 : Int64)) (gt_of (i := 1553) (by decide +kernel) (by decide +kernel))) d_q_quotient_147 ?_
        refine lc_ne (tgt := 167) hx hb d_q_quotient_150 d_q_quotient_151 (by decide) (fun c85 => ?_) (fun c85 => ?_)
        · rw [if_neg c85] at h
          exact j_q_quotient_167 C y0 y1 y2 y3 w h _ _ _ hW (lv_sub hl [0, 1, 2, 3] rfl)
        · rw [if_pos c85] at h
          refine lv_aload_n hx hb d_q_quotient_154 rfl (lv_at hl 0 rfl) ?_
          replace h := bs h
          obtain ⟨x86, hx86, h⟩ := h
          refine gf_q_127 hx hb hts hown hK hG hW (gN_s hx86) d_q_quotient_155 ?_
          refine lv_iload_n hx hb d_q_quotient_158 rfl (lv_at hl 3 rfl) ?_
          replace h := bs h
          obtain ⟨x87, hx87, h⟩ := h
          refine wo_lald hx hb hK hW (t := 1) rfl hx87 d_q_quotient_159 ?_
          refine lv_ldc2 (own := Rc_q) (v := (-1 : Int64)) hx hb hown (hts (.constantLong "AlarmForgeModel" 385 (-1 : Int64)) (gt_of (i := 1581) (by decide +kernel) (by decide +kernel))) d_q_quotient_160 ?_
          refine lc_eq (tgt := 217) hx hb d_q_quotient_163 d_q_quotient_164 (by decide) (fun c88 => ?_) (fun c88 => ?_)
          · rw [if_pos c88] at h
            exact j_q_quotient_217 C y0 y1 y2 y3 y7 y8 w h _ _ _ hW (lv_sub hl [0, 1, 2, 3, 4, 5] rfl)
          · rw [if_neg c88] at h
            exact j_q_quotient_167 C y0 y1 y2 y3 w h _ _ _ hW (lv_sub hl [0, 1, 2, 3] rfl)
set_option maxHeartbeats 4000000 in
set_option maxRecDepth 100000 in
theorem j_q_quotient_95 {p : Program} {l : Launch} {e : Env} {s : State} {m : MethodId} {args : Array Value} {below : List Frame} {meth : Method} {c : Code} {D : va_G} {cA : Nat → ClassId} {base : Nat} {w' : WW} (C : cx b_q_quotient (none) 29 y_q_quotient.cls "quotient" p s m args meth c D cA base)   : ∀ (y0 : Nat) (y1 : Int32) (y2 : Int32) (y3 : Int32) (y7 : Int32) (z0 : Int32) (w : WW), f_q_quotient_95 y0 y1 y2 y3 y7 z0 w = some w' → ∀ (H : Heap) (locs : List Loc) (ls : Array Slot), wo_S D cls cA base s w H locs → lv_has ls 29 [(0, .ref (base + y0)), (1, .int y1), (2, .int y2), (3, .int y3), (7, .int y7)] → W p l e rm_q_quotient s m args below meth c H locs 0 0 (MQ below (wo_Q D cls cA base none w') args s rm_q_quotient.cells rm_q_quotient.slots (wo_B base)) (F0 m 95 ls [.int z0]) := by
  obtain ⟨hx, hb, hr, hml, hown, hts, hlk, hnm, hK, hG⟩ := id C
  intro y0 y1 y2 y3 y7 z0 w h H locs ls hW hl
  unfold f_q_quotient_95 at h
  refine lv_istore (lv' := [(8, .int z0), (0, .ref (base + y0)), (1, .int y1), (2, .int y2), (3, .int y3), (7, .int y7)]) hx hb d_q_quotient_95 hl (by decide) rfl (fun ls hl => ?_)
  refine lv_iload hx hb d_q_quotient_97 (lv_at hl 5 rfl) ?_
  refine lv_if_ne (tgt := 113) hx hb d_q_quotient_99 (by decide) (fun c13 => ?_) (fun c13 => ?_)
  · rw [if_neg c13] at h
    exact j_q_quotient_113 C y0 y1 y2 y3 y7 z0 w h _ _ _ hW (lv_sub hl [1, 2, 3, 4, 5, 0] rfl)
  · rw [if_pos c13] at h
    refine lv_iload hx hb d_q_quotient_102 (lv_at hl 0 rfl) ?_
    refine lv_if_ne (tgt := 113) hx hb d_q_quotient_104 (by decide) (fun c89 => ?_) (fun c89 => ?_)
    · rw [if_neg c89] at h
      exact j_q_quotient_113 C y0 y1 y2 y3 y7 z0 w h _ _ _ hW (lv_sub hl [1, 2, 3, 4, 5, 0] rfl)
    · rw [if_pos c89] at h
      refine lv_aload_n hx hb d_q_quotient_107 rfl (lv_at hl 1 rfl) ?_
      refine lv_iload_n hx hb d_q_quotient_108 rfl (lv_at hl 3 rfl) ?_
      replace h := bs h
      obtain ⟨w90, hw90, h⟩ := h
      refine cv_q_393 (As := [.int y2]) (rest := []) hx hb hml hown hts hK hG hW (c_q_none l D cA base hw90) (kb_q_none hw90) ⟨Nat.le_of_ble_eq_true rfl, Nat.le_of_ble_eq_true rfl⟩ ⟨Nat.le_of_ble_eq_true rfl, Nat.le_of_ble_eq_true rfl⟩ rfl hl.1 rfl (Nat.le_of_ble_eq_true rfl) d_q_quotient_109 (fun H locs hW => ?_)
      cases h
      exact wo_vret hx hb hr hlk hW d_q_quotient_112
set_option maxHeartbeats 4000000 in
set_option maxRecDepth 100000 in
theorem j_q_quotient_77 {p : Program} {l : Launch} {e : Env} {s : State} {m : MethodId} {args : Array Value} {below : List Frame} {meth : Method} {c : Code} {D : va_G} {cA : Nat → ClassId} {base : Nat} {w' : WW} (C : cx b_q_quotient (none) 29 y_q_quotient.cls "quotient" p s m args meth c D cA base)   : ∀ (y0 : Nat) (y1 : Int32) (y2 : Int32) (y3 : Int32) (z0 : Int32) (w : WW), f_q_quotient_77 y0 y1 y2 y3 z0 w = some w' → ∀ (H : Heap) (locs : List Loc) (ls : Array Slot), wo_S D cls cA base s w H locs → lv_has ls 29 [(0, .ref (base + y0)), (1, .int y1), (2, .int y2), (3, .int y3)] → W p l e rm_q_quotient s m args below meth c H locs 0 0 (MQ below (wo_Q D cls cA base none w') args s rm_q_quotient.cells rm_q_quotient.slots (wo_B base)) (F0 m 77 ls [.int z0]) := by
  obtain ⟨hx, hb, hr, hml, hown, hts, hlk, hnm, hK, hG⟩ := id C
  intro y0 y1 y2 y3 z0 w h H locs ls hW hl
  unfold f_q_quotient_77 at h
  refine lv_istore (lv' := [(7, .int z0), (0, .ref (base + y0)), (1, .int y1), (2, .int y2), (3, .int y3)]) hx hb d_q_quotient_77 hl (by decide) rfl (fun ls hl => ?_)
  refine lv_aload_n hx hb d_q_quotient_79 rfl (lv_at hl 1 rfl) ?_
  replace h := bs h
  obtain ⟨x10, hx10, h⟩ := h
  refine gf_q_121 hx hb hts hown hK hG hW (gN_s hx10) d_q_quotient_80 ?_
  refine lv_iload_n hx hb d_q_quotient_83 rfl (lv_at hl 4 rfl) ?_
  replace h := bs h
  obtain ⟨x11, hx11, h⟩ := h
  refine wo_lald hx hb hK hW (t := 1) rfl hx11 d_q_quotient_84 ?_
  refine lv_lconst (v := (0 : Int64)) hx hb d_q_quotient_85 (by decide) ?_
  refine lc_le (tgt := 94) hx hb d_q_quotient_86 d_q_quotient_87 (by decide) (fun c12 => ?_) (fun c12 => ?_)
  · rw [if_pos c12] at h
    refine lv_iconst (v := (0 : Int32)) hx hb d_q_quotient_94 (by decide) ?_
    exact j_q_quotient_95 C y0 y1 y2 y3 z0 (0 : Int32) w h _ _ _ hW (lv_sub hl [1, 2, 3, 4, 0] rfl)
  · rw [if_neg c12] at h
    refine lv_iconst (v := (1 : Int32)) hx hb d_q_quotient_90 (by decide) ?_
    refine lv_goto (tgt := 95) hx hb d_q_quotient_91 (by decide) ?_
    exact j_q_quotient_95 C y0 y1 y2 y3 z0 (1 : Int32) w h _ _ _ hW (lv_sub hl [1, 2, 3, 4, 0] rfl)
set_option maxHeartbeats 4000000 in
set_option maxRecDepth 100000 in
theorem j_q_quotient_61 {p : Program} {l : Launch} {e : Env} {s : State} {m : MethodId} {args : Array Value} {below : List Frame} {meth : Method} {c : Code} {D : va_G} {cA : Nat → ClassId} {base : Nat} {w' : WW} (C : cx b_q_quotient (none) 29 y_q_quotient.cls "quotient" p s m args meth c D cA base)   : ∀ (y0 : Nat) (y1 : Int32) (y2 : Int32) (y3 : Int32) (w : WW), f_q_quotient_61 y0 y1 y2 y3 w = some w' → ∀ (H : Heap) (locs : List Loc) (ls : Array Slot), wo_S D cls cA base s w H locs → lv_has ls 29 [(0, .ref (base + y0)), (1, .int y1), (2, .int y2), (3, .int y3)] → W p l e rm_q_quotient s m args below meth c H locs 0 0 (MQ below (wo_Q D cls cA base none w') args s rm_q_quotient.cells rm_q_quotient.slots (wo_B base)) (F0 m 61 ls []) := by
  obtain ⟨hx, hb, hr, hml, hown, hts, hlk, hnm, hK, hG⟩ := id C
  intro y0 y1 y2 y3 w h H locs ls hW hl
  unfold f_q_quotient_61 at h
  refine lv_aload_n hx hb d_q_quotient_61 rfl (lv_at hl 0 rfl) ?_
  replace h := bs h
  obtain ⟨x7, hx7, h⟩ := h
  refine gf_q_117 hx hb hts hown hK hG hW (gN_s hx7) d_q_quotient_62 ?_
  refine lv_iload_n hx hb d_q_quotient_65 rfl (lv_at hl 3 rfl) ?_
  replace h := bs h
  obtain ⟨x8, hx8, h⟩ := h
  refine wo_lald hx hb hK hW (t := 1) rfl hx8 d_q_quotient_66 ?_
  refine lv_lconst (v := (0 : Int64)) hx hb d_q_quotient_67 (by decide) ?_
  refine lc_ge (tgt := 76) hx hb d_q_quotient_68 d_q_quotient_69 (by decide) (fun c9 => ?_) (fun c9 => ?_)
  · rw [if_pos c9] at h
    refine lv_iconst (v := (0 : Int32)) hx hb d_q_quotient_76 (by decide) ?_
    exact j_q_quotient_77 C y0 y1 y2 y3 (0 : Int32) w h _ _ _ hW (lv_sub hl [0, 1, 2, 3] rfl)
  · rw [if_neg c9] at h
    refine lv_iconst (v := (1 : Int32)) hx hb d_q_quotient_72 (by decide) ?_
    refine lv_goto (tgt := 77) hx hb d_q_quotient_73 (by decide) ?_
    exact j_q_quotient_77 C y0 y1 y2 y3 (1 : Int32) w h _ _ _ hW (lv_sub hl [0, 1, 2, 3] rfl)
set_option maxHeartbeats 4000000 in
set_option maxRecDepth 100000 in
theorem j_q_quotient_30 {p : Program} {l : Launch} {e : Env} {s : State} {m : MethodId} {args : Array Value} {below : List Frame} {meth : Method} {c : Code} {D : va_G} {cA : Nat → ClassId} {base : Nat} {w' : WW} (C : cx b_q_quotient (none) 29 y_q_quotient.cls "quotient" p s m args meth c D cA base)   : ∀ (y0 : Nat) (y1 : Int32) (y2 : Int32) (y3 : Int32) (y4 : Int32) (y6 : Int32) (w : WW), f_q_quotient_30 y0 y1 y2 y3 y4 y6 w = some w' → ∀ (H : Heap) (locs : List Loc) (ls : Array Slot), wo_S D cls cA base s w H locs → lv_has ls 29 [(0, .ref (base + y0)), (1, .int y1), (2, .int y2), (3, .int y3), (4, .int y4), (6, .int y6)] → W p l e rm_q_quotient s m args below meth c H locs 0 0 (MQ below (wo_Q D cls cA base none w') args s rm_q_quotient.cells rm_q_quotient.slots (wo_B base)) (F0 m 30 ls []) := by
  obtain ⟨hx, hb, hr, hml, hown, hts, hlk, hnm, hK, hG⟩ := id C
  intro y0 y1 y2 y3 y4 y6 w h H locs ls hW hl
  unfold f_q_quotient_30 at h
  refine lv_iload_n hx hb d_q_quotient_30 rfl (lv_at hl 1 rfl) ?_
  refine lv_bipush (v := (8 : Int32)) hx hb d_q_quotient_31 (by decide) ?_
  refine lv_icmp_ne (tgt := 61) hx hb d_q_quotient_33 (by decide) (fun c6 => ?_) (fun c6 => ?_)
  · rw [if_neg c6] at h
    exact j_q_quotient_61 C y0 y1 y2 y3 w h _ _ _ hW (lv_sub hl [0, 1, 2, 3] rfl)
  · rw [if_pos c6] at h
    refine lv_aload_n hx hb d_q_quotient_36 rfl (lv_at hl 0 rfl) ?_
    replace h := bs h
    obtain ⟨x91, hx91, h⟩ := h
    refine gf_q_117 hx hb hts hown hK hG hW (gN_s hx91) d_q_quotient_37 ?_
    refine lv_iload_n hx hb d_q_quotient_40 rfl (lv_at hl 2 rfl) ?_
    replace h := bs h
    obtain ⟨x92, hx92, h⟩ := h
    refine wo_lald hx hb hK hW (t := 1) rfl hx92 d_q_quotient_41 ?_
    refine lv_ldc2 (own := Rc_q) (v := (-2147483648 : Int64)) hx hb hown (hts (.constantLong "AlarmForgeModel" 340 (-2147483648 : Int64)) (gt_of (i := 1553) (by decide +kernel) (by decide +kernel))) d_q_quotient_42 ?_
    refine lc_ne (tgt := 61) hx hb d_q_quotient_45 d_q_quotient_46 (by decide) (fun c93 => ?_) (fun c93 => ?_)
    · rw [if_neg c93] at h
      exact j_q_quotient_61 C y0 y1 y2 y3 w h _ _ _ hW (lv_sub hl [0, 1, 2, 3] rfl)
    · rw [if_pos c93] at h
      refine lv_iload hx hb d_q_quotient_49 (lv_at hl 5 rfl) ?_
      refine lv_if_eq (tgt := 61) hx hb d_q_quotient_51 (by decide) (fun c94 => ?_) (fun c94 => ?_)
      · rw [if_pos c94] at h
        exact j_q_quotient_61 C y0 y1 y2 y3 w h _ _ _ hW (lv_sub hl [0, 1, 2, 3] rfl)
      · rw [if_neg c94] at h
        refine lv_aload_n hx hb d_q_quotient_54 rfl (lv_at hl 0 rfl) ?_
        refine lv_iconst (v := (3 : Int32)) hx hb d_q_quotient_55 (by decide) ?_
        refine lv_iload hx hb d_q_quotient_56 (lv_at hl 4 rfl) ?_
        replace h := bs h
        obtain ⟨w95, hw95, h⟩ := h
        refine cv_q_442 (As := [.int (3 : Int32), .int y4]) (rest := []) hx hb hml hown hts hK hG hW (c_q_warn l D cA base hw95) (kb_q_warn hw95) ⟨Nat.le_of_ble_eq_true rfl, Nat.le_of_ble_eq_true rfl⟩ ⟨Nat.le_of_ble_eq_true rfl, Nat.le_of_ble_eq_true rfl⟩ rfl hl.1 rfl (Nat.le_of_ble_eq_true rfl) d_q_quotient_58 (fun H locs hW => ?_)
        exact j_q_quotient_61 C y0 y1 y2 y3 w95 h _ _ _ hW (lv_sub hl [0, 1, 2, 3] rfl)
set_option maxHeartbeats 4000000 in
set_option maxRecDepth 100000 in
theorem c_q_quotient (l : Launch) (D : va_G) (cA : Nat → ClassId) (base : Nat) {a0 : Nat} {a1 : Int32} {a2 : Int32} {a3 : Int32} {a4 : Int32} {w w' : WW} (h : f_q_quotient a0 a1 a2 a3 a4 w = some w') : mt l D cls (wo_tys cA) cA base y_q_quotient (Cond.code y_q_quotient b_q_quotient 29 (none) :: gt) rm_q_quotient [.ref (base + a0), .int a1, .int a2, .int a3, .int a4] w none w' rm_q_quotient.cells rm_q_quotient.slots := by
  refine mt_start (by decide) (Nat.le_of_ble_eq_true rfl) ?_
  intro p e s m below meth c ls hx hb hr hml hown hts hlk hnm hK hG hW hl
  have C : cx b_q_quotient (none) 29 y_q_quotient.cls "quotient" p s m [.ref (base + a0), .int a1, .int a2, .int a3, .int a4].toArray meth c D cA base := ⟨hx, hb, hr, hml, hown, hts, hlk, hnm, hK, hG⟩
  have hl : lv_has ls 29 [(0, .ref (base + a0)), (1, .int a1), (2, .int a2), (3, .int a3), (4, .int a4)] := hl
  unfold f_q_quotient at h
  replace h := its h
  obtain ⟨-, h⟩ := h
  refine lv_aload_n hx hb d_q_quotient_0 rfl (lv_at hl 0 rfl) ?_
  refine lv_lconst (v := (0 : Int64)) hx hb d_q_quotient_1 (by decide) ?_
  refine lv_iload_n hx hb d_q_quotient_2 rfl (lv_at hl 3 rfl) ?_
  replace h := bs2 h
  obtain ⟨x2, w1, hw1, h⟩ := h
  refine cv_q_409 (As := [.long (0 : Int64), .int a3]) (rest := []) hx hb hml hown hts hK hG hW (c_q_isOf l D cA base hw1) (kb_q_isOf hw1) ⟨Nat.le_of_ble_eq_true rfl, Nat.le_of_ble_eq_true rfl⟩ ⟨Nat.le_of_ble_eq_true rfl, Nat.le_of_ble_eq_true rfl⟩ rfl hl.1 rfl (Nat.le_of_ble_eq_true rfl) d_q_quotient_3 (fun H locs hW => ?_)
  refine lv_istore (lv' := [(5, .int x2), (0, .ref (base + a0)), (1, .int a1), (2, .int a2), (3, .int a3), (4, .int a4)]) hx hb d_q_quotient_6 hl (by decide) rfl (fun ls hl => ?_)
  refine lv_aload_n hx hb d_q_quotient_8 rfl (lv_at hl 1 rfl) ?_
  refine lv_ldc2 (own := Rc_q) (v := (-1 : Int64)) hx hb hown (hts (.constantLong "AlarmForgeModel" 385 (-1 : Int64)) (gt_of (i := 1581) (by decide +kernel) (by decide +kernel))) d_q_quotient_9 ?_
  refine lv_iload_n hx hb d_q_quotient_12 rfl (lv_at hl 4 rfl) ?_
  replace h := bs2 h
  obtain ⟨x4, w3, hw3, h⟩ := h
  refine cv_q_409 (As := [.long (-1 : Int64), .int a3]) (rest := []) hx hb hml hown hts hK hG hW (c_q_isOf l D cA base hw3) (kb_q_isOf hw3) ⟨Nat.le_of_ble_eq_true rfl, Nat.le_of_ble_eq_true rfl⟩ ⟨Nat.le_of_ble_eq_true rfl, Nat.le_of_ble_eq_true rfl⟩ rfl hl.1 rfl (Nat.le_of_ble_eq_true rfl) d_q_quotient_13 (fun H locs hW => ?_)
  refine lv_istore (lv' := [(6, .int x4), (5, .int x2), (0, .ref (base + a0)), (1, .int a1), (2, .int a2), (3, .int a3), (4, .int a4)]) hx hb d_q_quotient_16 hl (by decide) rfl (fun ls hl => ?_)
  refine lv_iload hx hb d_q_quotient_18 (lv_at hl 1 rfl) ?_
  refine lv_if_eq (tgt := 30) hx hb d_q_quotient_20 (by decide) (fun c5 => ?_) (fun c5 => ?_)
  · rw [if_pos c5] at h
    exact j_q_quotient_30 C a0 a1 a2 a3 a4 x4 w3 h _ _ _ hW (lv_sub hl [2, 3, 4, 5, 6, 0] rfl)
  · rw [if_neg c5] at h
    refine lv_aload_n hx hb d_q_quotient_23 rfl (lv_at hl 2 rfl) ?_
    refine lv_iconst (v := (4 : Int32)) hx hb d_q_quotient_24 (by decide) ?_
    refine lv_iload hx hb d_q_quotient_25 (lv_at hl 6 rfl) ?_
    replace h := bs h
    obtain ⟨w96, hw96, h⟩ := h
    refine cv_q_442 (As := [.int (4 : Int32), .int a4]) (rest := []) hx hb hml hown hts hK hG hW (c_q_warn l D cA base hw96) (kb_q_warn hw96) ⟨Nat.le_of_ble_eq_true rfl, Nat.le_of_ble_eq_true rfl⟩ ⟨Nat.le_of_ble_eq_true rfl, Nat.le_of_ble_eq_true rfl⟩ rfl hl.1 rfl (Nat.le_of_ble_eq_true rfl) d_q_quotient_27 (fun H locs hW => ?_)
    exact j_q_quotient_30 C a0 a1 a2 a3 a4 x4 w96 h _ _ _ hW (lv_sub hl [2, 3, 4, 5, 6, 0] rfl)
