/-! Methods as functions, and their contracts (by wip/gen/run.py). -/
theorem cv_q_368 {p : Program} {l : Launch} {e : Env} {R : Room} {s : State} {m : MethodId} {args : Array Value} {below : List Frame} {meth : Method} {c : Code} {H : Heap} {locs : List Loc} {cells slots : Nat} {Q : State → Prop} {D : va_G} {cA : Nat → ClassId} {base : Nat} {w w' : WW} {cc : ByteArray} {pc nL : Nat} {ls : Array Slot} {rest st0 As : List Value} {ov : Option Value} {b : Nat} (hx : p.tables.exec = Jvm.exec) (hb : c.code = cc) (hml : c.maxLocals = nL) (hown : s.vm.findClass Rc_q = some m.cls) (hts : ∀ w ∈ gt, w.before args s = true) (hK : va_K D cls (wo_tys cA) s) (hG : wo_G cA base s) (hW : wo_S D cls cA base s w H locs) (hM : mt l D cls (wo_tys cA) cA base y_q_go (Cond.code y_q_go b_q_go 6 (some .int) :: gt) rm_q_go (.ref (base + b) :: As) w ov w' rm_q_go.cells rm_q_go.slots) (hkb : kb w b 9 = true) (hR : rm_q_go.frames + 1 ≤ R.frames ∧ 8 + (6 + 11) + rm_q_go.locals ≤ R.locals) (hf : cells + rm_q_go.cells ≤ R.cells ∧ slots + rm_q_go.slots ≤ R.slots) (hn : As.length = 1) (hsz : ls.size = nL) (hst : st0 = As.reverse ++ .ref (base + b) :: rest) (hcat : (rest.map fun v => v.category).sum ≤ 8) (hdg : decode cc pc = .ok (.invokevirtual 368, 3)) (kk : ∀ (H1 : Heap) (locs1 : List Loc), wo_S D cls cA base s w' H1 locs1 → W p l e R s m args below meth c H1 locs1 (cells + rm_q_go.cells) (slots + rm_q_go.slots) Q (F0 m (pc + 3) ls (ov.toList ++ rest))) : W p l e R s m args below meth c H locs cells slots Q (F0 m pc ls st0) :=
  wo_callV (C := Rc_q) hx hb hml hown hts hK hG hW hM hkb rfl (gt_of (i := 1536) (by decide +kernel) (by decide +kernel)) (gt_of (i := 1538) (by decide +kernel) (by decide +kernel)) (gt_sel (i := 82) (by decide +kernel) (by decide +kernel)) (gt_of (i := 10) (by decide +kernel) (by decide +kernel)) (gt_of (i := 1539) (by decide +kernel) (by decide +kernel)) (by decide +kernel) hR hf hn hsz hst hcat hdg kk
abbrev b_q_run : ByteArray := prog_11_method_47_code
def y_q_run : MethodName := ⟨"AlarmForgeModel", "run", "(I)I"⟩
def rm_q_run : Room := { frames := 5, cells := 0, slots := 0, locals := 128 }
theorem d_q_run_0 : decode b_q_run 0 = .ok (.iload_n 1, 1) := by decide +kernel
theorem d_q_run_1 : decode b_q_run 1 = .ok (.i2l, 1) := by decide +kernel
theorem d_q_run_2 : decode b_q_run 2 = .ok (.lconst 0, 1) := by decide +kernel
theorem d_q_run_3 : decode b_q_run 3 = .ok (.ldc2_w 366, 3) := by decide +kernel
theorem d_q_run_6 : decode b_q_run 6 = .ok (.invokestatic 155, 3) := by decide +kernel
theorem d_q_run_9 : decode b_q_run 9 = .ok (.ifCond .ne (9), 3) := by decide +kernel
theorem d_q_run_12 : decode b_q_run 12 = .ok (.aload_n 0, 1) := by decide +kernel
theorem d_q_run_13 : decode b_q_run 13 = .ok (.iconst 1, 1) := by decide +kernel
theorem d_q_run_14 : decode b_q_run 14 = .ok (.invokevirtual 159, 3) := by decide +kernel
theorem d_q_run_17 : decode b_q_run 17 = .ok (.ireturn, 1) := by decide +kernel
theorem d_q_run_18 : decode b_q_run 18 = .ok (.aload_n 0, 1) := by decide +kernel
theorem d_q_run_19 : decode b_q_run 19 = .ok (.getfield 323, 3) := by decide +kernel
theorem d_q_run_22 : decode b_q_run 22 = .ok (.ifCond .ne (9), 3) := by decide +kernel
theorem d_q_run_25 : decode b_q_run 25 = .ok (.aload_n 0, 1) := by decide +kernel
theorem d_q_run_26 : decode b_q_run 26 = .ok (.iconst 2, 1) := by decide +kernel
theorem d_q_run_27 : decode b_q_run 27 = .ok (.invokevirtual 159, 3) := by decide +kernel
theorem d_q_run_30 : decode b_q_run 30 = .ok (.ireturn, 1) := by decide +kernel
theorem d_q_run_31 : decode b_q_run 31 = .ok (.aload_n 0, 1) := by decide +kernel
theorem d_q_run_32 : decode b_q_run 32 = .ok (.iconst 0, 1) := by decide +kernel
theorem d_q_run_33 : decode b_q_run 33 = .ok (.putfield 148, 3) := by decide +kernel
theorem d_q_run_36 : decode b_q_run 36 = .ok (.aload_n 0, 1) := by decide +kernel
theorem d_q_run_37 : decode b_q_run 37 = .ok (.iload_n 1, 1) := by decide +kernel
theorem d_q_run_38 : decode b_q_run 38 = .ok (.invokevirtual 368, 3) := by decide +kernel
theorem d_q_run_41 : decode b_q_run 41 = .ok (.ireturn, 1) := by decide +kernel
theorem kb_q_run {a0 : Nat} {a1 : Int32} {w : WW} {r : (Int32 × WW)} (h : f_q_run a0 a1 w = some r) : kb w a0 9 = true := (its h).1
set_option maxHeartbeats 4000000 in
set_option maxRecDepth 100000 in
theorem c_q_run (l : Launch) (D : va_G) (cA : Nat → ClassId) (base : Nat) {a0 : Nat} {a1 : Int32} {w w' : WW} {r : Int32} (h : f_q_run a0 a1 w = some (r, w')) : mt l D cls (wo_tys cA) cA base y_q_run (Cond.code y_q_run b_q_run 2 (some .int) :: gt) rm_q_run [.ref (base + a0), .int a1] w (some (.int r)) w' rm_q_run.cells rm_q_run.slots := by
  refine mt_start (by decide) (Nat.le_of_ble_eq_true rfl) ?_
  intro p e s m below meth c ls hx hb hr hml hown hts hlk hnm hK hG hW hl
  have C : cx b_q_run (some .int) 2 y_q_run.cls "run" p s m [.ref (base + a0), .int a1].toArray meth c D cA base := ⟨hx, hb, hr, hml, hown, hts, hlk, hnm, hK, hG⟩
  have hl : lv_has ls 2 [(0, .ref (base + a0)), (1, .int a1)] := hl
  unfold f_q_run at h
  replace h := its h
  obtain ⟨-, h⟩ := h
  refine lv_iload_n hx hb d_q_run_0 rfl (lv_at hl 1 rfl) ?_
  refine lv_i2l hx hb d_q_run_1 rfl ?_
  refine lv_lconst (v := (0 : Int64)) hx hb d_q_run_2 (by decide) ?_
  refine lv_ldc2 (own := Rc_q) (v := (500 : Int64)) hx hb hown (hts (.constantLong "AlarmForgeModel" 366 (500 : Int64)) (gt_of (i := 1535) (by decide +kernel) (by decide +kernel))) d_q_run_3 ?_
  replace h := bs2 h
  obtain ⟨x2, w1, hw1, h⟩ := h
  refine cs_q_155 (As := [.long (Int32.toInt64 a1), .long (0 : Int64), .long (500 : Int64)]) (rest := []) hx hb hml hown hts hK hG hW (c_q_in l D cA base hw1) ⟨Nat.le_of_ble_eq_true rfl, Nat.le_of_ble_eq_true rfl⟩ ⟨Nat.le_of_ble_eq_true rfl, Nat.le_of_ble_eq_true rfl⟩ rfl hl.1 rfl (Nat.le_of_ble_eq_true rfl) d_q_run_6 (fun H locs hW => ?_)
  refine lv_if_ne (tgt := 18) hx hb d_q_run_9 (by decide) (fun c3 => ?_) (fun c3 => ?_)
  · rw [if_neg c3] at h
    refine lv_aload_n hx hb d_q_run_18 rfl (lv_at hl 0 rfl) ?_
    replace h := bs h
    obtain ⟨x4, hx4, h⟩ := h
    refine gf_q_323 hx hb hts hown hK hG hW (gI_s hx4) d_q_run_19 ?_
    refine lv_if_ne (tgt := 31) hx hb d_q_run_22 (by decide) (fun c5 => ?_) (fun c5 => ?_)
    · rw [if_neg c5] at h
      refine lv_aload_n hx hb d_q_run_31 rfl (lv_at hl 0 rfl) ?_
      refine lv_iconst (v := (0 : Int32)) hx hb d_q_run_32 (by decide) ?_
      replace h := bs h
      obtain ⟨w6, hw6, h⟩ := h
      refine pf_q_148 hx hb hts hown hK hG hW rfl rfl (pbi hw6 rfl) d_q_run_33 (fun H locs hW => ?_)
      refine lv_aload_n hx hb d_q_run_36 rfl (lv_at hl 0 rfl) ?_
      refine lv_iload_n hx hb d_q_run_37 rfl (lv_at hl 1 rfl) ?_
      replace h := bs2 h
      obtain ⟨x8, w7, hw7, h⟩ := h
      refine cv_q_368 (As := [.int a1]) (rest := []) hx hb hml hown hts hK hG hW (c_q_go l D cA base hw7) (kb_q_go hw7) ⟨Nat.le_of_ble_eq_true rfl, Nat.le_of_ble_eq_true rfl⟩ ⟨Nat.le_of_ble_eq_true rfl, Nat.le_of_ble_eq_true rfl⟩ rfl hl.1 rfl (Nat.le_of_ble_eq_true rfl) d_q_run_38 (fun H locs hW => ?_)
      cases h
      exact wo_iret hx hb hr hlk hW d_q_run_41
    · rw [if_pos c5] at h
      refine lv_aload_n hx hb d_q_run_25 rfl (lv_at hl 0 rfl) ?_
      refine lv_iconst (v := (2 : Int32)) hx hb d_q_run_26 (by decide) ?_
      replace h := bs2 h
      obtain ⟨x10, w9, hw9, h⟩ := h
      refine cv_q_159 (As := [.int (2 : Int32)]) (rest := []) hx hb hml hown hts hK hG hW (c_q_fail l D cA base hw9) (kb_q_fail hw9) ⟨Nat.le_of_ble_eq_true rfl, Nat.le_of_ble_eq_true rfl⟩ ⟨Nat.le_of_ble_eq_true rfl, Nat.le_of_ble_eq_true rfl⟩ rfl hl.1 rfl (Nat.le_of_ble_eq_true rfl) d_q_run_27 (fun H locs hW => ?_)
      cases h
      exact wo_iret hx hb hr hlk hW d_q_run_30
  · rw [if_pos c3] at h
    refine lv_aload_n hx hb d_q_run_12 rfl (lv_at hl 0 rfl) ?_
    refine lv_iconst (v := (1 : Int32)) hx hb d_q_run_13 (by decide) ?_
    replace h := bs2 h
    obtain ⟨x12, w11, hw11, h⟩ := h
    refine cv_q_159 (As := [.int (1 : Int32)]) (rest := []) hx hb hml hown hts hK hG hW (c_q_fail l D cA base hw11) (kb_q_fail hw11) ⟨Nat.le_of_ble_eq_true rfl, Nat.le_of_ble_eq_true rfl⟩ ⟨Nat.le_of_ble_eq_true rfl, Nat.le_of_ble_eq_true rfl⟩ rfl hl.1 rfl (Nat.le_of_ble_eq_true rfl) d_q_run_14 (fun H locs hW => ?_)
    cases h
    exact wo_iret hx hb hr hlk hW d_q_run_17
abbrev b_q_ran : ByteArray := prog_11_method_48_code
def y_q_ran : MethodName := ⟨"AlarmForgeModel", "ran", "(I)I"⟩
def rm_q_ran : Room := { frames := 1, cells := 0, slots := 0, locals := 25 }
theorem d_q_ran_0 : decode b_q_ran 0 = .ok (.iload_n 1, 1) := by decide +kernel
theorem d_q_ran_1 : decode b_q_ran 1 = .ok (.i2l, 1) := by decide +kernel
theorem d_q_ran_2 : decode b_q_ran 2 = .ok (.lconst 0, 1) := by decide +kernel
theorem d_q_ran_3 : decode b_q_ran 3 = .ok (.ldc2_w 371, 3) := by decide +kernel
theorem d_q_ran_6 : decode b_q_ran 6 = .ok (.invokestatic 155, 3) := by decide +kernel
theorem d_q_ran_9 : decode b_q_ran 9 = .ok (.ifCond .ne (51), 3) := by decide +kernel
theorem d_q_ran_12 : decode b_q_ran 12 = .ok (.iload_n 1, 1) := by decide +kernel
theorem d_q_ran_13 : decode b_q_ran 13 = .ok (.i2l, 1) := by decide +kernel
theorem d_q_ran_14 : decode b_q_ran 14 = .ok (.ldc2_w 373, 3) := by decide +kernel
theorem d_q_ran_17 : decode b_q_ran 17 = .ok (.ldc2_w 375, 3) := by decide +kernel
theorem d_q_ran_20 : decode b_q_ran 20 = .ok (.invokestatic 155, 3) := by decide +kernel
theorem d_q_ran_23 : decode b_q_ran 23 = .ok (.ifCond .ne (37), 3) := by decide +kernel
theorem d_q_ran_26 : decode b_q_ran 26 = .ok (.iload_n 1, 1) := by decide +kernel
theorem d_q_ran_27 : decode b_q_ran 27 = .ok (.i2l, 1) := by decide +kernel
theorem d_q_ran_28 : decode b_q_ran 28 = .ok (.ldc2_w 377, 3) := by decide +kernel
theorem d_q_ran_31 : decode b_q_ran 31 = .ok (.ldc2_w 379, 3) := by decide +kernel
theorem d_q_ran_34 : decode b_q_ran 34 = .ok (.invokestatic 155, 3) := by decide +kernel
theorem d_q_ran_37 : decode b_q_ran 37 = .ok (.ifCond .ne (23), 3) := by decide +kernel
theorem d_q_ran_40 : decode b_q_ran 40 = .ok (.iload_n 1, 1) := by decide +kernel
theorem d_q_ran_41 : decode b_q_ran 41 = .ok (.i2l, 1) := by decide +kernel
theorem d_q_ran_42 : decode b_q_ran 42 = .ok (.ldc2_w 381, 3) := by decide +kernel
theorem d_q_ran_45 : decode b_q_ran 45 = .ok (.ldc2_w 383, 3) := by decide +kernel
theorem d_q_ran_48 : decode b_q_ran 48 = .ok (.invokestatic 155, 3) := by decide +kernel
theorem d_q_ran_51 : decode b_q_ran 51 = .ok (.ifCond .ne (9), 3) := by decide +kernel
theorem d_q_ran_54 : decode b_q_ran 54 = .ok (.aload_n 0, 1) := by decide +kernel
theorem d_q_ran_55 : decode b_q_ran 55 = .ok (.iconst 1, 1) := by decide +kernel
theorem d_q_ran_56 : decode b_q_ran 56 = .ok (.invokevirtual 159, 3) := by decide +kernel
theorem d_q_ran_59 : decode b_q_ran 59 = .ok (.ireturn, 1) := by decide +kernel
theorem d_q_ran_60 : decode b_q_ran 60 = .ok (.aload_n 0, 1) := by decide +kernel
theorem d_q_ran_61 : decode b_q_ran 61 = .ok (.iconst 0, 1) := by decide +kernel
theorem d_q_ran_62 : decode b_q_ran 62 = .ok (.putfield 148, 3) := by decide +kernel
theorem d_q_ran_65 : decode b_q_ran 65 = .ok (.iload_n 1, 1) := by decide +kernel
theorem d_q_ran_66 : decode b_q_ran 66 = .ok (.iconst 3, 1) := by decide +kernel
theorem d_q_ran_67 : decode b_q_ran 67 = .ok (.if_icmp .ge (31), 3) := by decide +kernel
theorem d_q_ran_70 : decode b_q_ran 70 = .ok (.iload_n 1, 1) := by decide +kernel
theorem d_q_ran_71 : decode b_q_ran 71 = .ok (.ifCond .ne (10), 3) := by decide +kernel
theorem d_q_ran_74 : decode b_q_ran 74 = .ok (.aload_n 0, 1) := by decide +kernel
theorem d_q_ran_75 : decode b_q_ran 75 = .ok (.getfield 331, 3) := by decide +kernel
theorem d_q_ran_78 : decode b_q_ran 78 = .ok (.goto (19), 3) := by decide +kernel
theorem d_q_ran_81 : decode b_q_ran 81 = .ok (.iload_n 1, 1) := by decide +kernel
theorem d_q_ran_82 : decode b_q_ran 82 = .ok (.iconst 1, 1) := by decide +kernel
theorem d_q_ran_83 : decode b_q_ran 83 = .ok (.if_icmp .ne (10), 3) := by decide +kernel
theorem d_q_ran_86 : decode b_q_ran 86 = .ok (.aload_n 0, 1) := by decide +kernel
theorem d_q_ran_87 : decode b_q_ran 87 = .ok (.getfield 360, 3) := by decide +kernel
theorem d_q_ran_90 : decode b_q_ran 90 = .ok (.goto (7), 3) := by decide +kernel
theorem d_q_ran_93 : decode b_q_ran 93 = .ok (.aload_n 0, 1) := by decide +kernel
theorem d_q_ran_94 : decode b_q_ran 94 = .ok (.getfield 354, 3) := by decide +kernel
theorem d_q_ran_97 : decode b_q_ran 97 = .ok (.ireturn, 1) := by decide +kernel
theorem d_q_ran_98 : decode b_q_ran 98 = .ok (.iload_n 1, 1) := by decide +kernel
theorem d_q_ran_99 : decode b_q_ran 99 = .ok (.bipush (16), 2) := by decide +kernel
theorem d_q_ran_101 : decode b_q_ran 101 = .ok (.if_icmp .ge (15), 3) := by decide +kernel
theorem d_q_ran_104 : decode b_q_ran 104 = .ok (.aload_n 0, 1) := by decide +kernel
theorem d_q_ran_105 : decode b_q_ran 105 = .ok (.getfield 102, 3) := by decide +kernel
theorem d_q_ran_108 : decode b_q_ran 108 = .ok (.iload_n 1, 1) := by decide +kernel
theorem d_q_ran_109 : decode b_q_ran 109 = .ok (.bipush (10), 2) := by decide +kernel
theorem d_q_ran_111 : decode b_q_ran 111 = .ok (.isub, 1) := by decide +kernel
theorem d_q_ran_112 : decode b_q_ran 112 = .ok (.iaload, 1) := by decide +kernel
theorem d_q_ran_113 : decode b_q_ran 113 = .ok (.goto (38), 3) := by decide +kernel
theorem d_q_ran_116 : decode b_q_ran 116 = .ok (.iload_n 1, 1) := by decide +kernel
theorem d_q_ran_117 : decode b_q_ran 117 = .ok (.bipush (28), 2) := by decide +kernel
theorem d_q_ran_119 : decode b_q_ran 119 = .ok (.if_icmp .ge (15), 3) := by decide +kernel
theorem d_q_ran_122 : decode b_q_ran 122 = .ok (.aload_n 0, 1) := by decide +kernel
theorem d_q_ran_123 : decode b_q_ran 123 = .ok (.getfield 105, 3) := by decide +kernel
theorem d_q_ran_126 : decode b_q_ran 126 = .ok (.iload_n 1, 1) := by decide +kernel
theorem d_q_ran_127 : decode b_q_ran 127 = .ok (.bipush (20), 2) := by decide +kernel
theorem d_q_ran_129 : decode b_q_ran 129 = .ok (.isub, 1) := by decide +kernel
theorem d_q_ran_130 : decode b_q_ran 130 = .ok (.iaload, 1) := by decide +kernel
theorem d_q_ran_131 : decode b_q_ran 131 = .ok (.goto (20), 3) := by decide +kernel
theorem d_q_ran_134 : decode b_q_ran 134 = .ok (.aload_n 0, 1) := by decide +kernel
theorem d_q_ran_135 : decode b_q_ran 135 = .ok (.getfield 114, 3) := by decide +kernel
theorem d_q_ran_138 : decode b_q_ran 138 = .ok (.iload_n 1, 1) := by decide +kernel
theorem d_q_ran_139 : decode b_q_ran 139 = .ok (.bipush (30), 2) := by decide +kernel
theorem d_q_ran_141 : decode b_q_ran 141 = .ok (.isub, 1) := by decide +kernel
theorem d_q_ran_142 : decode b_q_ran 142 = .ok (.baload, 1) := by decide +kernel
theorem d_q_ran_143 : decode b_q_ran 143 = .ok (.ifCond .eq (7), 3) := by decide +kernel
theorem d_q_ran_146 : decode b_q_ran 146 = .ok (.iconst 0, 1) := by decide +kernel
theorem d_q_ran_147 : decode b_q_ran 147 = .ok (.goto (4), 3) := by decide +kernel
theorem d_q_ran_150 : decode b_q_ran 150 = .ok (.iconst 1, 1) := by decide +kernel
theorem d_q_ran_151 : decode b_q_ran 151 = .ok (.ireturn, 1) := by decide +kernel
theorem kb_q_ran {a0 : Nat} {a1 : Int32} {w : WW} {r : (Int32 × WW)} (h : f_q_ran a0 a1 w = some r) : kb w a0 9 = true := (its h).1
set_option maxHeartbeats 4000000 in
set_option maxRecDepth 100000 in
theorem j_q_ran_151 {p : Program} {l : Launch} {e : Env} {s : State} {m : MethodId} {args : Array Value} {below : List Frame} {meth : Method} {c : Code} {D : va_G} {cA : Nat → ClassId} {base : Nat} {r : Int32} {w' : WW} (C : cx b_q_ran (some .int) 2 y_q_ran.cls "ran" p s m args meth c D cA base)   : ∀ (z0 : Int32) (w : WW), f_q_ran_151 z0 w = some (r, w') → ∀ (H : Heap) (locs : List Loc) (ls : Array Slot), wo_S D cls cA base s w H locs → lv_has ls 2 [] → W p l e rm_q_ran s m args below meth c H locs 0 0 (MQ below (wo_Q D cls cA base (some (.int r)) w') args s rm_q_ran.cells rm_q_ran.slots (wo_B base)) (F0 m 151 ls [.int z0]) := by
  obtain ⟨hx, hb, hr, hml, hown, hts, hlk, hnm, hK, hG⟩ := id C
  intro z0 w h H locs ls hW hl
  unfold f_q_ran_151 at h
  cases h
  exact wo_iret hx hb hr hlk hW d_q_ran_151
set_option maxHeartbeats 4000000 in
set_option maxRecDepth 100000 in
theorem j_q_ran_97 {p : Program} {l : Launch} {e : Env} {s : State} {m : MethodId} {args : Array Value} {below : List Frame} {meth : Method} {c : Code} {D : va_G} {cA : Nat → ClassId} {base : Nat} {r : Int32} {w' : WW} (C : cx b_q_ran (some .int) 2 y_q_ran.cls "ran" p s m args meth c D cA base)   : ∀ (z0 : Int32) (w : WW), f_q_ran_97 z0 w = some (r, w') → ∀ (H : Heap) (locs : List Loc) (ls : Array Slot), wo_S D cls cA base s w H locs → lv_has ls 2 [] → W p l e rm_q_ran s m args below meth c H locs 0 0 (MQ below (wo_Q D cls cA base (some (.int r)) w') args s rm_q_ran.cells rm_q_ran.slots (wo_B base)) (F0 m 97 ls [.int z0]) := by
  obtain ⟨hx, hb, hr, hml, hown, hts, hlk, hnm, hK, hG⟩ := id C
  intro z0 w h H locs ls hW hl
  unfold f_q_ran_97 at h
  cases h
  exact wo_iret hx hb hr hlk hW d_q_ran_97
set_option maxHeartbeats 4000000 in
set_option maxRecDepth 100000 in
theorem j_q_ran_60 {p : Program} {l : Launch} {e : Env} {s : State} {m : MethodId} {args : Array Value} {below : List Frame} {meth : Method} {c : Code} {D : va_G} {cA : Nat → ClassId} {base : Nat} {r : Int32} {w' : WW} (C : cx b_q_ran (some .int) 2 y_q_ran.cls "ran" p s m args meth c D cA base)   : ∀ (y0 : Nat) (y1 : Int32) (w : WW), f_q_ran_60 y0 y1 w = some (r, w') → ∀ (H : Heap) (locs : List Loc) (ls : Array Slot), wo_S D cls cA base s w H locs → lv_has ls 2 [(0, .ref (base + y0)), (1, .int y1)] → W p l e rm_q_ran s m args below meth c H locs 0 0 (MQ below (wo_Q D cls cA base (some (.int r)) w') args s rm_q_ran.cells rm_q_ran.slots (wo_B base)) (F0 m 60 ls []) := by
  obtain ⟨hx, hb, hr, hml, hown, hts, hlk, hnm, hK, hG⟩ := id C
  intro y0 y1 w h H locs ls hW hl
  unfold f_q_ran_60 at h
  refine lv_aload_n hx hb d_q_ran_60 rfl (lv_at hl 0 rfl) ?_
  refine lv_iconst (v := (0 : Int32)) hx hb d_q_ran_61 (by decide) ?_
  replace h := bs h
  obtain ⟨w4, hw4, h⟩ := h
  refine pf_q_148 hx hb hts hown hK hG hW rfl rfl (pbi hw4 rfl) d_q_ran_62 (fun H locs hW => ?_)
  refine lv_iload_n hx hb d_q_ran_65 rfl (lv_at hl 1 rfl) ?_
  refine lv_iconst (v := (3 : Int32)) hx hb d_q_ran_66 (by decide) ?_
  refine lv_icmp_ge (tgt := 98) hx hb d_q_ran_67 (by decide) (fun c5 => ?_) (fun c5 => ?_)
  · rw [if_pos c5] at h
    refine lv_iload_n hx hb d_q_ran_98 rfl (lv_at hl 1 rfl) ?_
    refine lv_bipush (v := (16 : Int32)) hx hb d_q_ran_99 (by decide) ?_
    refine lv_icmp_ge (tgt := 116) hx hb d_q_ran_101 (by decide) (fun c6 => ?_) (fun c6 => ?_)
    · rw [if_pos c6] at h
      refine lv_iload_n hx hb d_q_ran_116 rfl (lv_at hl 1 rfl) ?_
      refine lv_bipush (v := (28 : Int32)) hx hb d_q_ran_117 (by decide) ?_
      refine lv_icmp_ge (tgt := 134) hx hb d_q_ran_119 (by decide) (fun c7 => ?_) (fun c7 => ?_)
      · rw [if_pos c7] at h
        refine lv_aload_n hx hb d_q_ran_134 rfl (lv_at hl 0 rfl) ?_
        replace h := bs h
        obtain ⟨x8, hx8, h⟩ := h
        refine gf_q_114 hx hb hts hown hK hG hW (gN_s hx8) d_q_ran_135 ?_
        refine lv_iload_n hx hb d_q_ran_138 rfl (lv_at hl 1 rfl) ?_
        refine lv_bipush (v := (30 : Int32)) hx hb d_q_ran_139 (by decide) ?_
        refine lv_isub hx hb d_q_ran_141 ?_
        replace h := bs h
        obtain ⟨x9, hx9, h⟩ := h
        refine wo_zald hx hb hK hW (t := 2) rfl hx9 d_q_ran_142 ?_
        refine lv_if_eq (tgt := 150) hx hb d_q_ran_143 (by decide) (fun c10 => ?_) (fun c10 => ?_)
        · rw [if_pos c10] at h
          refine lv_iconst (v := (1 : Int32)) hx hb d_q_ran_150 (by decide) ?_
          exact j_q_ran_151 C (1 : Int32) w4 h _ _ _ hW (lv_sub hl [] rfl)
        · rw [if_neg c10] at h
          refine lv_iconst (v := (0 : Int32)) hx hb d_q_ran_146 (by decide) ?_
          refine lv_goto (tgt := 151) hx hb d_q_ran_147 (by decide) ?_
          exact j_q_ran_151 C (0 : Int32) w4 h _ _ _ hW (lv_sub hl [] rfl)
      · rw [if_neg c7] at h
        refine lv_aload_n hx hb d_q_ran_122 rfl (lv_at hl 0 rfl) ?_
        replace h := bs h
        obtain ⟨x11, hx11, h⟩ := h
        refine gf_q_105 hx hb hts hown hK hG hW (gN_s hx11) d_q_ran_123 ?_
        refine lv_iload_n hx hb d_q_ran_126 rfl (lv_at hl 1 rfl) ?_
        refine lv_bipush (v := (20 : Int32)) hx hb d_q_ran_127 (by decide) ?_
        refine lv_isub hx hb d_q_ran_129 ?_
        replace h := bs h
        obtain ⟨x12, hx12, h⟩ := h
        refine wo_iald hx hb hK hW (t := 0) rfl hx12 d_q_ran_130 ?_
        refine lv_goto (tgt := 151) hx hb d_q_ran_131 (by decide) ?_
        exact j_q_ran_151 C x12 w4 h _ _ _ hW (lv_sub hl [] rfl)
    · rw [if_neg c6] at h
      refine lv_aload_n hx hb d_q_ran_104 rfl (lv_at hl 0 rfl) ?_
      replace h := bs h
      obtain ⟨x13, hx13, h⟩ := h
      refine gf_q_102 hx hb hts hown hK hG hW (gN_s hx13) d_q_ran_105 ?_
      refine lv_iload_n hx hb d_q_ran_108 rfl (lv_at hl 1 rfl) ?_
      refine lv_bipush (v := (10 : Int32)) hx hb d_q_ran_109 (by decide) ?_
      refine lv_isub hx hb d_q_ran_111 ?_
      replace h := bs h
      obtain ⟨x14, hx14, h⟩ := h
      refine wo_iald hx hb hK hW (t := 0) rfl hx14 d_q_ran_112 ?_
      refine lv_goto (tgt := 151) hx hb d_q_ran_113 (by decide) ?_
      exact j_q_ran_151 C x14 w4 h _ _ _ hW (lv_sub hl [] rfl)
  · rw [if_neg c5] at h
    refine lv_iload_n hx hb d_q_ran_70 rfl (lv_at hl 1 rfl) ?_
    refine lv_if_ne (tgt := 81) hx hb d_q_ran_71 (by decide) (fun c15 => ?_) (fun c15 => ?_)
    · rw [if_neg c15] at h
      refine lv_iload_n hx hb d_q_ran_81 rfl (lv_at hl 1 rfl) ?_
      refine lv_iconst (v := (1 : Int32)) hx hb d_q_ran_82 (by decide) ?_
      refine lv_icmp_ne (tgt := 93) hx hb d_q_ran_83 (by decide) (fun c16 => ?_) (fun c16 => ?_)
      · rw [if_neg c16] at h
        refine lv_aload_n hx hb d_q_ran_93 rfl (lv_at hl 0 rfl) ?_
        replace h := bs h
        obtain ⟨x17, hx17, h⟩ := h
        refine gf_q_354 hx hb hts hown hK hG hW (gI_s hx17) d_q_ran_94 ?_
        exact j_q_ran_97 C x17 w4 h _ _ _ hW (lv_sub hl [] rfl)
      · rw [if_pos c16] at h
        refine lv_aload_n hx hb d_q_ran_86 rfl (lv_at hl 0 rfl) ?_
        replace h := bs h
        obtain ⟨x18, hx18, h⟩ := h
        refine gf_q_360 hx hb hts hown hK hG hW (gI_s hx18) d_q_ran_87 ?_
        refine lv_goto (tgt := 97) hx hb d_q_ran_90 (by decide) ?_
        exact j_q_ran_97 C x18 w4 h _ _ _ hW (lv_sub hl [] rfl)
    · rw [if_pos c15] at h
      refine lv_aload_n hx hb d_q_ran_74 rfl (lv_at hl 0 rfl) ?_
      replace h := bs h
      obtain ⟨x19, hx19, h⟩ := h
      refine gf_q_331 hx hb hts hown hK hG hW (gI_s hx19) d_q_ran_75 ?_
      refine lv_goto (tgt := 97) hx hb d_q_ran_78 (by decide) ?_
      exact j_q_ran_97 C x19 w4 h _ _ _ hW (lv_sub hl [] rfl)
set_option maxHeartbeats 4000000 in
set_option maxRecDepth 100000 in
theorem c_q_ran (l : Launch) (D : va_G) (cA : Nat → ClassId) (base : Nat) {a0 : Nat} {a1 : Int32} {w w' : WW} {r : Int32} (h : f_q_ran a0 a1 w = some (r, w')) : mt l D cls (wo_tys cA) cA base y_q_ran (Cond.code y_q_ran b_q_ran 2 (some .int) :: gt) rm_q_ran [.ref (base + a0), .int a1] w (some (.int r)) w' rm_q_ran.cells rm_q_ran.slots := by
  refine mt_start (by decide) (Nat.le_of_ble_eq_true rfl) ?_
  intro p e s m below meth c ls hx hb hr hml hown hts hlk hnm hK hG hW hl
  have C : cx b_q_ran (some .int) 2 y_q_ran.cls "ran" p s m [.ref (base + a0), .int a1].toArray meth c D cA base := ⟨hx, hb, hr, hml, hown, hts, hlk, hnm, hK, hG⟩
  have hl : lv_has ls 2 [(0, .ref (base + a0)), (1, .int a1)] := hl
  unfold f_q_ran at h
  replace h := its h
  obtain ⟨-, h⟩ := h
  refine lv_iload_n hx hb d_q_ran_0 rfl (lv_at hl 1 rfl) ?_
  refine lv_i2l hx hb d_q_ran_1 rfl ?_
  refine lv_lconst (v := (0 : Int64)) hx hb d_q_ran_2 (by decide) ?_
  refine lv_ldc2 (own := Rc_q) (v := (2 : Int64)) hx hb hown (hts (.constantLong "AlarmForgeModel" 371 (2 : Int64)) (gt_of (i := 1566) (by decide +kernel) (by decide +kernel))) d_q_ran_3 ?_
  replace h := bs2 h
  obtain ⟨x2, w1, hw1, h⟩ := h
  refine cs_q_155 (As := [.long (Int32.toInt64 a1), .long (0 : Int64), .long (2 : Int64)]) (rest := []) hx hb hml hown hts hK hG hW (c_q_in l D cA base hw1) ⟨Nat.le_of_ble_eq_true rfl, Nat.le_of_ble_eq_true rfl⟩ ⟨Nat.le_of_ble_eq_true rfl, Nat.le_of_ble_eq_true rfl⟩ rfl hl.1 rfl (Nat.le_of_ble_eq_true rfl) d_q_ran_6 (fun H locs hW => ?_)
  refine lv_if_ne (tgt := 60) hx hb d_q_ran_9 (by decide) (fun c3 => ?_) (fun c3 => ?_)
  · rw [if_neg c3] at h
    exact j_q_ran_60 C a0 a1 w1 h _ _ _ hW (lv_sub hl [0, 1] rfl)
  · rw [if_pos c3] at h
    refine lv_iload_n hx hb d_q_ran_12 rfl (lv_at hl 1 rfl) ?_
    refine lv_i2l hx hb d_q_ran_13 rfl ?_
    refine lv_ldc2 (own := Rc_q) (v := (10 : Int64)) hx hb hown (hts (.constantLong "AlarmForgeModel" 373 (10 : Int64)) (gt_of (i := 1567) (by decide +kernel) (by decide +kernel))) d_q_ran_14 ?_
    refine lv_ldc2 (own := Rc_q) (v := (15 : Int64)) hx hb hown (hts (.constantLong "AlarmForgeModel" 375 (15 : Int64)) (gt_of (i := 1568) (by decide +kernel) (by decide +kernel))) d_q_ran_17 ?_
    replace h := bs2 h
    obtain ⟨x21, w20, hw20, h⟩ := h
    refine cs_q_155 (As := [.long (Int32.toInt64 a1), .long (10 : Int64), .long (15 : Int64)]) (rest := []) hx hb hml hown hts hK hG hW (c_q_in l D cA base hw20) ⟨Nat.le_of_ble_eq_true rfl, Nat.le_of_ble_eq_true rfl⟩ ⟨Nat.le_of_ble_eq_true rfl, Nat.le_of_ble_eq_true rfl⟩ rfl hl.1 rfl (Nat.le_of_ble_eq_true rfl) d_q_ran_20 (fun H locs hW => ?_)
    refine lv_if_ne (tgt := 60) hx hb d_q_ran_23 (by decide) (fun c22 => ?_) (fun c22 => ?_)
    · rw [if_neg c22] at h
      exact j_q_ran_60 C a0 a1 w20 h _ _ _ hW (lv_sub hl [0, 1] rfl)
    · rw [if_pos c22] at h
      refine lv_iload_n hx hb d_q_ran_26 rfl (lv_at hl 1 rfl) ?_
      refine lv_i2l hx hb d_q_ran_27 rfl ?_
      refine lv_ldc2 (own := Rc_q) (v := (20 : Int64)) hx hb hown (hts (.constantLong "AlarmForgeModel" 377 (20 : Int64)) (gt_of (i := 1569) (by decide +kernel) (by decide +kernel))) d_q_ran_28 ?_
      refine lv_ldc2 (own := Rc_q) (v := (27 : Int64)) hx hb hown (hts (.constantLong "AlarmForgeModel" 379 (27 : Int64)) (gt_of (i := 1570) (by decide +kernel) (by decide +kernel))) d_q_ran_31 ?_
      replace h := bs2 h
      obtain ⟨x24, w23, hw23, h⟩ := h
      refine cs_q_155 (As := [.long (Int32.toInt64 a1), .long (20 : Int64), .long (27 : Int64)]) (rest := []) hx hb hml hown hts hK hG hW (c_q_in l D cA base hw23) ⟨Nat.le_of_ble_eq_true rfl, Nat.le_of_ble_eq_true rfl⟩ ⟨Nat.le_of_ble_eq_true rfl, Nat.le_of_ble_eq_true rfl⟩ rfl hl.1 rfl (Nat.le_of_ble_eq_true rfl) d_q_ran_34 (fun H locs hW => ?_)
      refine lv_if_ne (tgt := 60) hx hb d_q_ran_37 (by decide) (fun c25 => ?_) (fun c25 => ?_)
      · rw [if_neg c25] at h
        exact j_q_ran_60 C a0 a1 w23 h _ _ _ hW (lv_sub hl [0, 1] rfl)
      · rw [if_pos c25] at h
        refine lv_iload_n hx hb d_q_ran_40 rfl (lv_at hl 1 rfl) ?_
        refine lv_i2l hx hb d_q_ran_41 rfl ?_
        refine lv_ldc2 (own := Rc_q) (v := (30 : Int64)) hx hb hown (hts (.constantLong "AlarmForgeModel" 381 (30 : Int64)) (gt_of (i := 1571) (by decide +kernel) (by decide +kernel))) d_q_ran_42 ?_
        refine lv_ldc2 (own := Rc_q) (v := (35 : Int64)) hx hb hown (hts (.constantLong "AlarmForgeModel" 383 (35 : Int64)) (gt_of (i := 1572) (by decide +kernel) (by decide +kernel))) d_q_ran_45 ?_
        replace h := bs2 h
        obtain ⟨x27, w26, hw26, h⟩ := h
        refine cs_q_155 (As := [.long (Int32.toInt64 a1), .long (30 : Int64), .long (35 : Int64)]) (rest := []) hx hb hml hown hts hK hG hW (c_q_in l D cA base hw26) ⟨Nat.le_of_ble_eq_true rfl, Nat.le_of_ble_eq_true rfl⟩ ⟨Nat.le_of_ble_eq_true rfl, Nat.le_of_ble_eq_true rfl⟩ rfl hl.1 rfl (Nat.le_of_ble_eq_true rfl) d_q_ran_48 (fun H locs hW => ?_)
        refine lv_if_ne (tgt := 60) hx hb d_q_ran_51 (by decide) (fun c28 => ?_) (fun c28 => ?_)
        · rw [if_neg c28] at h
          exact j_q_ran_60 C a0 a1 w26 h _ _ _ hW (lv_sub hl [0, 1] rfl)
        · rw [if_pos c28] at h
          refine lv_aload_n hx hb d_q_ran_54 rfl (lv_at hl 0 rfl) ?_
          refine lv_iconst (v := (1 : Int32)) hx hb d_q_ran_55 (by decide) ?_
          replace h := bs2 h
          obtain ⟨x30, w29, hw29, h⟩ := h
          refine cv_q_159 (As := [.int (1 : Int32)]) (rest := []) hx hb hml hown hts hK hG hW (c_q_fail l D cA base hw29) (kb_q_fail hw29) ⟨Nat.le_of_ble_eq_true rfl, Nat.le_of_ble_eq_true rfl⟩ ⟨Nat.le_of_ble_eq_true rfl, Nat.le_of_ble_eq_true rfl⟩ rfl hl.1 rfl (Nat.le_of_ble_eq_true rfl) d_q_ran_56 (fun H locs hW => ?_)
          cases h
          exact wo_iret hx hb hr hlk hW d_q_ran_59
abbrev b_q_none : ByteArray := prog_11_method_52_code
def y_q_none : MethodName := ⟨"AlarmForgeModel", "none", "(I)V"⟩
def rm_q_none : Room := { frames := 0, cells := 0, slots := 0, locals := 0 }
theorem d_q_none_0 : decode b_q_none 0 = .ok (.aload_n 0, 1) := by decide +kernel
theorem d_q_none_1 : decode b_q_none 1 = .ok (.getfield 117, 3) := by decide +kernel
theorem d_q_none_4 : decode b_q_none 4 = .ok (.iload_n 1, 1) := by decide +kernel
theorem d_q_none_5 : decode b_q_none 5 = .ok (.lconst 0, 1) := by decide +kernel
theorem d_q_none_6 : decode b_q_none 6 = .ok (.lastore, 1) := by decide +kernel
theorem d_q_none_7 : decode b_q_none 7 = .ok (.aload_n 0, 1) := by decide +kernel
theorem d_q_none_8 : decode b_q_none 8 = .ok (.getfield 121, 3) := by decide +kernel
theorem d_q_none_11 : decode b_q_none 11 = .ok (.iload_n 1, 1) := by decide +kernel
theorem d_q_none_12 : decode b_q_none 12 = .ok (.lconst 0, 1) := by decide +kernel
theorem d_q_none_13 : decode b_q_none 13 = .ok (.lastore, 1) := by decide +kernel
theorem d_q_none_14 : decode b_q_none 14 = .ok (.aload_n 0, 1) := by decide +kernel
theorem d_q_none_15 : decode b_q_none 15 = .ok (.getfield 124, 3) := by decide +kernel
theorem d_q_none_18 : decode b_q_none 18 = .ok (.iload_n 1, 1) := by decide +kernel
theorem d_q_none_19 : decode b_q_none 19 = .ok (.ldc2_w 385, 3) := by decide +kernel
theorem d_q_none_22 : decode b_q_none 22 = .ok (.lastore, 1) := by decide +kernel
theorem d_q_none_23 : decode b_q_none 23 = .ok (.aload_n 0, 1) := by decide +kernel
theorem d_q_none_24 : decode b_q_none 24 = .ok (.getfield 127, 3) := by decide +kernel
theorem d_q_none_27 : decode b_q_none 27 = .ok (.iload_n 1, 1) := by decide +kernel
theorem d_q_none_28 : decode b_q_none 28 = .ok (.lconst 0, 1) := by decide +kernel
theorem d_q_none_29 : decode b_q_none 29 = .ok (.lastore, 1) := by decide +kernel
theorem d_q_none_30 : decode b_q_none 30 = .ok (.return_, 1) := by decide +kernel
theorem kb_q_none {a0 : Nat} {a1 : Int32} {w : WW} {r : WW} (h : f_q_none a0 a1 w = some r) : kb w a0 9 = true := (its h).1
set_option maxHeartbeats 4000000 in
set_option maxRecDepth 100000 in
theorem c_q_none (l : Launch) (D : va_G) (cA : Nat → ClassId) (base : Nat) {a0 : Nat} {a1 : Int32} {w w' : WW} (h : f_q_none a0 a1 w = some w') : mt l D cls (wo_tys cA) cA base y_q_none (Cond.code y_q_none b_q_none 2 (none) :: gt) rm_q_none [.ref (base + a0), .int a1] w none w' rm_q_none.cells rm_q_none.slots := by
  refine mt_start (by decide) (Nat.le_of_ble_eq_true rfl) ?_
  intro p e s m below meth c ls hx hb hr hml hown hts hlk hnm hK hG hW hl
  have C : cx b_q_none (none) 2 y_q_none.cls "none" p s m [.ref (base + a0), .int a1].toArray meth c D cA base := ⟨hx, hb, hr, hml, hown, hts, hlk, hnm, hK, hG⟩
  have hl : lv_has ls 2 [(0, .ref (base + a0)), (1, .int a1)] := hl
  unfold f_q_none at h
  replace h := its h
  obtain ⟨-, h⟩ := h
  refine lv_aload_n hx hb d_q_none_0 rfl (lv_at hl 0 rfl) ?_
  replace h := bs h
  obtain ⟨x1, hx1, h⟩ := h
  refine gf_q_117 hx hb hts hown hK hG hW (gN_s hx1) d_q_none_1 ?_
  refine lv_iload_n hx hb d_q_none_4 rfl (lv_at hl 1 rfl) ?_
  refine lv_lconst (v := (0 : Int64)) hx hb d_q_none_5 (by decide) ?_
  replace h := bs h
  obtain ⟨w2, hw2, h⟩ := h
  refine wo_last hx hb hK hW (t := 1) rfl hw2 d_q_none_6 (fun H locs hW => ?_)
  refine lv_aload_n hx hb d_q_none_7 rfl (lv_at hl 0 rfl) ?_
  replace h := bs h
  obtain ⟨x3, hx3, h⟩ := h
  refine gf_q_121 hx hb hts hown hK hG hW (gN_s hx3) d_q_none_8 ?_
  refine lv_iload_n hx hb d_q_none_11 rfl (lv_at hl 1 rfl) ?_
  refine lv_lconst (v := (0 : Int64)) hx hb d_q_none_12 (by decide) ?_
  replace h := bs h
  obtain ⟨w4, hw4, h⟩ := h
  refine wo_last hx hb hK hW (t := 1) rfl hw4 d_q_none_13 (fun H locs hW => ?_)
  refine lv_aload_n hx hb d_q_none_14 rfl (lv_at hl 0 rfl) ?_
  replace h := bs h
  obtain ⟨x5, hx5, h⟩ := h
  refine gf_q_124 hx hb hts hown hK hG hW (gN_s hx5) d_q_none_15 ?_
  refine lv_iload_n hx hb d_q_none_18 rfl (lv_at hl 1 rfl) ?_
  refine lv_ldc2 (own := Rc_q) (v := (-1 : Int64)) hx hb hown (hts (.constantLong "AlarmForgeModel" 385 (-1 : Int64)) (gt_of (i := 1581) (by decide +kernel) (by decide +kernel))) d_q_none_19 ?_
  replace h := bs h
  obtain ⟨w6, hw6, h⟩ := h
  refine wo_last hx hb hK hW (t := 1) rfl hw6 d_q_none_22 (fun H locs hW => ?_)
  refine lv_aload_n hx hb d_q_none_23 rfl (lv_at hl 0 rfl) ?_
  replace h := bs h
  obtain ⟨x7, hx7, h⟩ := h
  refine gf_q_127 hx hb hts hown hK hG hW (gN_s hx7) d_q_none_24 ?_
  refine lv_iload_n hx hb d_q_none_27 rfl (lv_at hl 1 rfl) ?_
  refine lv_lconst (v := (0 : Int64)) hx hb d_q_none_28 (by decide) ?_
  replace h := bs h
  obtain ⟨w8, hw8, h⟩ := h
  refine wo_last hx hb hK hW (t := 1) rfl hw8 d_q_none_29 (fun H locs hW => ?_)
  cases h
  exact wo_vret hx hb hr hlk hW d_q_none_30
abbrev b_q_put4 : ByteArray := prog_11_method_54_code
def y_q_put4 : MethodName := ⟨"AlarmForgeModel", "put4", "(IJJJJ)V"⟩
def rm_q_put4 : Room := { frames := 0, cells := 0, slots := 0, locals := 0 }
theorem d_q_put4_0 : decode b_q_put4 0 = .ok (.aload_n 0, 1) := by decide +kernel
theorem d_q_put4_1 : decode b_q_put4 1 = .ok (.getfield 117, 3) := by decide +kernel
theorem d_q_put4_4 : decode b_q_put4 4 = .ok (.iload_n 1, 1) := by decide +kernel
theorem d_q_put4_5 : decode b_q_put4 5 = .ok (.lload_n 2, 1) := by decide +kernel
theorem d_q_put4_6 : decode b_q_put4 6 = .ok (.lastore, 1) := by decide +kernel
theorem d_q_put4_7 : decode b_q_put4 7 = .ok (.aload_n 0, 1) := by decide +kernel
theorem d_q_put4_8 : decode b_q_put4 8 = .ok (.getfield 121, 3) := by decide +kernel
theorem d_q_put4_11 : decode b_q_put4 11 = .ok (.iload_n 1, 1) := by decide +kernel
theorem d_q_put4_12 : decode b_q_put4 12 = .ok (.lload 4, 2) := by decide +kernel
theorem d_q_put4_14 : decode b_q_put4 14 = .ok (.lastore, 1) := by decide +kernel
theorem d_q_put4_15 : decode b_q_put4 15 = .ok (.aload_n 0, 1) := by decide +kernel
theorem d_q_put4_16 : decode b_q_put4 16 = .ok (.getfield 124, 3) := by decide +kernel
theorem d_q_put4_19 : decode b_q_put4 19 = .ok (.iload_n 1, 1) := by decide +kernel
theorem d_q_put4_20 : decode b_q_put4 20 = .ok (.lload 6, 2) := by decide +kernel
theorem d_q_put4_22 : decode b_q_put4 22 = .ok (.lastore, 1) := by decide +kernel
theorem d_q_put4_23 : decode b_q_put4 23 = .ok (.aload_n 0, 1) := by decide +kernel
theorem d_q_put4_24 : decode b_q_put4 24 = .ok (.getfield 127, 3) := by decide +kernel
theorem d_q_put4_27 : decode b_q_put4 27 = .ok (.iload_n 1, 1) := by decide +kernel
theorem d_q_put4_28 : decode b_q_put4 28 = .ok (.lload 8, 2) := by decide +kernel
theorem d_q_put4_30 : decode b_q_put4 30 = .ok (.lastore, 1) := by decide +kernel
theorem d_q_put4_31 : decode b_q_put4 31 = .ok (.return_, 1) := by decide +kernel
theorem kb_q_put4 {a0 : Nat} {a1 : Int32} {a2 : Int64} {a4 : Int64} {a6 : Int64} {a8 : Int64} {w : WW} {r : WW} (h : f_q_put4 a0 a1 a2 a4 a6 a8 w = some r) : kb w a0 9 = true := (its h).1
set_option maxHeartbeats 4000000 in
set_option maxRecDepth 100000 in
theorem c_q_put4 (l : Launch) (D : va_G) (cA : Nat → ClassId) (base : Nat) {a0 : Nat} {a1 : Int32} {a2 : Int64} {a4 : Int64} {a6 : Int64} {a8 : Int64} {w w' : WW} (h : f_q_put4 a0 a1 a2 a4 a6 a8 w = some w') : mt l D cls (wo_tys cA) cA base y_q_put4 (Cond.code y_q_put4 b_q_put4 10 (none) :: gt) rm_q_put4 [.ref (base + a0), .int a1, .long a2, .long a4, .long a6, .long a8] w none w' rm_q_put4.cells rm_q_put4.slots := by
  refine mt_start (by decide) (Nat.le_of_ble_eq_true rfl) ?_
  intro p e s m below meth c ls hx hb hr hml hown hts hlk hnm hK hG hW hl
  have C : cx b_q_put4 (none) 10 y_q_put4.cls "put4" p s m [.ref (base + a0), .int a1, .long a2, .long a4, .long a6, .long a8].toArray meth c D cA base := ⟨hx, hb, hr, hml, hown, hts, hlk, hnm, hK, hG⟩
  have hl : lv_has ls 10 [(0, .ref (base + a0)), (1, .int a1), (2, .long a2), (4, .long a4), (6, .long a6), (8, .long a8)] := hl
  unfold f_q_put4 at h
  replace h := its h
  obtain ⟨-, h⟩ := h
  refine lv_aload_n hx hb d_q_put4_0 rfl (lv_at hl 0 rfl) ?_
  replace h := bs h
  obtain ⟨x1, hx1, h⟩ := h
  refine gf_q_117 hx hb hts hown hK hG hW (gN_s hx1) d_q_put4_1 ?_
  refine lv_iload_n hx hb d_q_put4_4 rfl (lv_at hl 1 rfl) ?_
  refine lv_lload_n hx hb d_q_put4_5 rfl (lv_at hl 2 rfl) ?_
  replace h := bs h
  obtain ⟨w2, hw2, h⟩ := h
  refine wo_last hx hb hK hW (t := 1) rfl hw2 d_q_put4_6 (fun H locs hW => ?_)
  refine lv_aload_n hx hb d_q_put4_7 rfl (lv_at hl 0 rfl) ?_
  replace h := bs h
  obtain ⟨x3, hx3, h⟩ := h
  refine gf_q_121 hx hb hts hown hK hG hW (gN_s hx3) d_q_put4_8 ?_
  refine lv_iload_n hx hb d_q_put4_11 rfl (lv_at hl 1 rfl) ?_
  refine lv_lload hx hb d_q_put4_12 (lv_at hl 3 rfl) ?_
  replace h := bs h
  obtain ⟨w4, hw4, h⟩ := h
  refine wo_last hx hb hK hW (t := 1) rfl hw4 d_q_put4_14 (fun H locs hW => ?_)
  refine lv_aload_n hx hb d_q_put4_15 rfl (lv_at hl 0 rfl) ?_
  replace h := bs h
  obtain ⟨x5, hx5, h⟩ := h
  refine gf_q_124 hx hb hts hown hK hG hW (gN_s hx5) d_q_put4_16 ?_
  refine lv_iload_n hx hb d_q_put4_19 rfl (lv_at hl 1 rfl) ?_
  refine lv_lload hx hb d_q_put4_20 (lv_at hl 4 rfl) ?_
  replace h := bs h
  obtain ⟨w6, hw6, h⟩ := h
  refine wo_last hx hb hK hW (t := 1) rfl hw6 d_q_put4_22 (fun H locs hW => ?_)
  refine lv_aload_n hx hb d_q_put4_23 rfl (lv_at hl 0 rfl) ?_
  replace h := bs h
  obtain ⟨x7, hx7, h⟩ := h
  refine gf_q_127 hx hb hts hown hK hG hW (gN_s hx7) d_q_put4_24 ?_
  refine lv_iload_n hx hb d_q_put4_27 rfl (lv_at hl 1 rfl) ?_
  refine lv_lload hx hb d_q_put4_28 (lv_at hl 5 rfl) ?_
  replace h := bs h
  obtain ⟨w8, hw8, h⟩ := h
  refine wo_last hx hb hK hW (t := 1) rfl hw8 d_q_put4_30 (fun H locs hW => ?_)
  cases h
  exact wo_vret hx hb hr hlk hW d_q_put4_31
abbrev b_q_copy : ByteArray := prog_11_method_51_code
def y_q_copy : MethodName := ⟨"AlarmForgeModel", "copy", "(II)V"⟩
def rm_q_copy : Room := { frames := 0, cells := 0, slots := 0, locals := 0 }
theorem d_q_copy_0 : decode b_q_copy 0 = .ok (.aload_n 0, 1) := by decide +kernel
theorem d_q_copy_1 : decode b_q_copy 1 = .ok (.getfield 117, 3) := by decide +kernel
theorem d_q_copy_4 : decode b_q_copy 4 = .ok (.iload_n 1, 1) := by decide +kernel
theorem d_q_copy_5 : decode b_q_copy 5 = .ok (.aload_n 0, 1) := by decide +kernel
theorem d_q_copy_6 : decode b_q_copy 6 = .ok (.getfield 117, 3) := by decide +kernel
theorem d_q_copy_9 : decode b_q_copy 9 = .ok (.iload_n 2, 1) := by decide +kernel
theorem d_q_copy_10 : decode b_q_copy 10 = .ok (.laload, 1) := by decide +kernel
theorem d_q_copy_11 : decode b_q_copy 11 = .ok (.lastore, 1) := by decide +kernel
theorem d_q_copy_12 : decode b_q_copy 12 = .ok (.aload_n 0, 1) := by decide +kernel
theorem d_q_copy_13 : decode b_q_copy 13 = .ok (.getfield 121, 3) := by decide +kernel
theorem d_q_copy_16 : decode b_q_copy 16 = .ok (.iload_n 1, 1) := by decide +kernel
theorem d_q_copy_17 : decode b_q_copy 17 = .ok (.aload_n 0, 1) := by decide +kernel
theorem d_q_copy_18 : decode b_q_copy 18 = .ok (.getfield 121, 3) := by decide +kernel
theorem d_q_copy_21 : decode b_q_copy 21 = .ok (.iload_n 2, 1) := by decide +kernel
theorem d_q_copy_22 : decode b_q_copy 22 = .ok (.laload, 1) := by decide +kernel
theorem d_q_copy_23 : decode b_q_copy 23 = .ok (.lastore, 1) := by decide +kernel
theorem d_q_copy_24 : decode b_q_copy 24 = .ok (.aload_n 0, 1) := by decide +kernel
theorem d_q_copy_25 : decode b_q_copy 25 = .ok (.getfield 124, 3) := by decide +kernel
theorem d_q_copy_28 : decode b_q_copy 28 = .ok (.iload_n 1, 1) := by decide +kernel
theorem d_q_copy_29 : decode b_q_copy 29 = .ok (.aload_n 0, 1) := by decide +kernel
theorem d_q_copy_30 : decode b_q_copy 30 = .ok (.getfield 124, 3) := by decide +kernel
theorem d_q_copy_33 : decode b_q_copy 33 = .ok (.iload_n 2, 1) := by decide +kernel
theorem d_q_copy_34 : decode b_q_copy 34 = .ok (.laload, 1) := by decide +kernel
theorem d_q_copy_35 : decode b_q_copy 35 = .ok (.lastore, 1) := by decide +kernel
theorem d_q_copy_36 : decode b_q_copy 36 = .ok (.aload_n 0, 1) := by decide +kernel
theorem d_q_copy_37 : decode b_q_copy 37 = .ok (.getfield 127, 3) := by decide +kernel
theorem d_q_copy_40 : decode b_q_copy 40 = .ok (.iload_n 1, 1) := by decide +kernel
theorem d_q_copy_41 : decode b_q_copy 41 = .ok (.aload_n 0, 1) := by decide +kernel
theorem d_q_copy_42 : decode b_q_copy 42 = .ok (.getfield 127, 3) := by decide +kernel
theorem d_q_copy_45 : decode b_q_copy 45 = .ok (.iload_n 2, 1) := by decide +kernel
theorem d_q_copy_46 : decode b_q_copy 46 = .ok (.laload, 1) := by decide +kernel
theorem d_q_copy_47 : decode b_q_copy 47 = .ok (.lastore, 1) := by decide +kernel
theorem d_q_copy_48 : decode b_q_copy 48 = .ok (.return_, 1) := by decide +kernel
theorem kb_q_copy {a0 : Nat} {a1 : Int32} {a2 : Int32} {w : WW} {r : WW} (h : f_q_copy a0 a1 a2 w = some r) : kb w a0 9 = true := (its h).1
set_option maxHeartbeats 4000000 in
set_option maxRecDepth 100000 in
theorem c_q_copy (l : Launch) (D : va_G) (cA : Nat → ClassId) (base : Nat) {a0 : Nat} {a1 : Int32} {a2 : Int32} {w w' : WW} (h : f_q_copy a0 a1 a2 w = some w') : mt l D cls (wo_tys cA) cA base y_q_copy (Cond.code y_q_copy b_q_copy 3 (none) :: gt) rm_q_copy [.ref (base + a0), .int a1, .int a2] w none w' rm_q_copy.cells rm_q_copy.slots := by
  refine mt_start (by decide) (Nat.le_of_ble_eq_true rfl) ?_
  intro p e s m below meth c ls hx hb hr hml hown hts hlk hnm hK hG hW hl
  have C : cx b_q_copy (none) 3 y_q_copy.cls "copy" p s m [.ref (base + a0), .int a1, .int a2].toArray meth c D cA base := ⟨hx, hb, hr, hml, hown, hts, hlk, hnm, hK, hG⟩
  have hl : lv_has ls 3 [(0, .ref (base + a0)), (1, .int a1), (2, .int a2)] := hl
  unfold f_q_copy at h
  replace h := its h
  obtain ⟨-, h⟩ := h
  refine lv_aload_n hx hb d_q_copy_0 rfl (lv_at hl 0 rfl) ?_
  replace h := bs h
  obtain ⟨x1, hx1, h⟩ := h
  refine gf_q_117 hx hb hts hown hK hG hW (gN_s hx1) d_q_copy_1 ?_
  refine lv_iload_n hx hb d_q_copy_4 rfl (lv_at hl 1 rfl) ?_
  refine lv_aload_n hx hb d_q_copy_5 rfl (lv_at hl 0 rfl) ?_
  replace h := bs h
  obtain ⟨x2, hx2, h⟩ := h
  refine gf_q_117 hx hb hts hown hK hG hW (gN_s hx2) d_q_copy_6 ?_
  refine lv_iload_n hx hb d_q_copy_9 rfl (lv_at hl 2 rfl) ?_
  replace h := bs h
  obtain ⟨x3, hx3, h⟩ := h
  refine wo_lald hx hb hK hW (t := 1) rfl hx3 d_q_copy_10 ?_
  replace h := bs h
  obtain ⟨w4, hw4, h⟩ := h
  refine wo_last hx hb hK hW (t := 1) rfl hw4 d_q_copy_11 (fun H locs hW => ?_)
  refine lv_aload_n hx hb d_q_copy_12 rfl (lv_at hl 0 rfl) ?_
  replace h := bs h
  obtain ⟨x5, hx5, h⟩ := h
  refine gf_q_121 hx hb hts hown hK hG hW (gN_s hx5) d_q_copy_13 ?_
  refine lv_iload_n hx hb d_q_copy_16 rfl (lv_at hl 1 rfl) ?_
  refine lv_aload_n hx hb d_q_copy_17 rfl (lv_at hl 0 rfl) ?_
  replace h := bs h
  obtain ⟨x6, hx6, h⟩ := h
  refine gf_q_121 hx hb hts hown hK hG hW (gN_s hx6) d_q_copy_18 ?_
  refine lv_iload_n hx hb d_q_copy_21 rfl (lv_at hl 2 rfl) ?_
  replace h := bs h
  obtain ⟨x7, hx7, h⟩ := h
  refine wo_lald hx hb hK hW (t := 1) rfl hx7 d_q_copy_22 ?_
  replace h := bs h
  obtain ⟨w8, hw8, h⟩ := h
  refine wo_last hx hb hK hW (t := 1) rfl hw8 d_q_copy_23 (fun H locs hW => ?_)
  refine lv_aload_n hx hb d_q_copy_24 rfl (lv_at hl 0 rfl) ?_
  replace h := bs h
  obtain ⟨x9, hx9, h⟩ := h
  refine gf_q_124 hx hb hts hown hK hG hW (gN_s hx9) d_q_copy_25 ?_
  refine lv_iload_n hx hb d_q_copy_28 rfl (lv_at hl 1 rfl) ?_
  refine lv_aload_n hx hb d_q_copy_29 rfl (lv_at hl 0 rfl) ?_
  replace h := bs h
  obtain ⟨x10, hx10, h⟩ := h
  refine gf_q_124 hx hb hts hown hK hG hW (gN_s hx10) d_q_copy_30 ?_
  refine lv_iload_n hx hb d_q_copy_33 rfl (lv_at hl 2 rfl) ?_
  replace h := bs h
  obtain ⟨x11, hx11, h⟩ := h
  refine wo_lald hx hb hK hW (t := 1) rfl hx11 d_q_copy_34 ?_
  replace h := bs h
  obtain ⟨w12, hw12, h⟩ := h
  refine wo_last hx hb hK hW (t := 1) rfl hw12 d_q_copy_35 (fun H locs hW => ?_)
  refine lv_aload_n hx hb d_q_copy_36 rfl (lv_at hl 0 rfl) ?_
  replace h := bs h
  obtain ⟨x13, hx13, h⟩ := h
  refine gf_q_127 hx hb hts hown hK hG hW (gN_s hx13) d_q_copy_37 ?_
  refine lv_iload_n hx hb d_q_copy_40 rfl (lv_at hl 1 rfl) ?_
  refine lv_aload_n hx hb d_q_copy_41 rfl (lv_at hl 0 rfl) ?_
  replace h := bs h
  obtain ⟨x14, hx14, h⟩ := h
  refine gf_q_127 hx hb hts hown hK hG hW (gN_s hx14) d_q_copy_42 ?_
  refine lv_iload_n hx hb d_q_copy_45 rfl (lv_at hl 2 rfl) ?_
  replace h := bs h
  obtain ⟨x15, hx15, h⟩ := h
  refine wo_lald hx hb hK hW (t := 1) rfl hx15 d_q_copy_46 ?_
  replace h := bs h
  obtain ⟨w16, hw16, h⟩ := h
  refine wo_last hx hb hK hW (t := 1) rfl hw16 d_q_copy_47 (fun H locs hW => ?_)
  cases h
  exact wo_vret hx hb hr hlk hW d_q_copy_48
theorem cv_q_400 {p : Program} {l : Launch} {e : Env} {R : Room} {s : State} {m : MethodId} {args : Array Value} {below : List Frame} {meth : Method} {c : Code} {H : Heap} {locs : List Loc} {cells slots : Nat} {Q : State → Prop} {D : va_G} {cA : Nat → ClassId} {base : Nat} {w w' : WW} {cc : ByteArray} {pc nL : Nat} {ls : Array Slot} {rest st0 As : List Value} {ov : Option Value} {b : Nat} (hx : p.tables.exec = Jvm.exec) (hb : c.code = cc) (hml : c.maxLocals = nL) (hown : s.vm.findClass Rc_q = some m.cls) (hts : ∀ w ∈ gt, w.before args s = true) (hK : va_K D cls (wo_tys cA) s) (hG : wo_G cA base s) (hW : wo_S D cls cA base s w H locs) (hM : mt l D cls (wo_tys cA) cA base y_q_copy (Cond.code y_q_copy b_q_copy 3 (none) :: gt) rm_q_copy (.ref (base + b) :: As) w ov w' rm_q_copy.cells rm_q_copy.slots) (hkb : kb w b 9 = true) (hR : rm_q_copy.frames + 1 ≤ R.frames ∧ 8 + (3 + 11) + rm_q_copy.locals ≤ R.locals) (hf : cells + rm_q_copy.cells ≤ R.cells ∧ slots + rm_q_copy.slots ≤ R.slots) (hn : As.length = 2) (hsz : ls.size = nL) (hst : st0 = As.reverse ++ .ref (base + b) :: rest) (hcat : (rest.map fun v => v.category).sum ≤ 8) (hdg : decode cc pc = .ok (.invokevirtual 400, 3)) (kk : ∀ (H1 : Heap) (locs1 : List Loc), wo_S D cls cA base s w' H1 locs1 → W p l e R s m args below meth c H1 locs1 (cells + rm_q_copy.cells) (slots + rm_q_copy.slots) Q (F0 m (pc + 3) ls (ov.toList ++ rest))) : W p l e R s m args below meth c H locs cells slots Q (F0 m pc ls st0) :=
  wo_callV (C := Rc_q) hx hb hml hown hts hK hG hW hM hkb rfl (gt_of (i := 1594) (by decide +kernel) (by decide +kernel)) (gt_of (i := 1596) (by decide +kernel) (by decide +kernel)) (gt_sel (i := 91) (by decide +kernel) (by decide +kernel)) (gt_of (i := 10) (by decide +kernel) (by decide +kernel)) (gt_of (i := 1597) (by decide +kernel) (by decide +kernel)) (by decide +kernel) hR hf hn hsz hst hcat hdg kk
abbrev b_q_copyState : ByteArray := prog_11_method_69_code
def y_q_copyState : MethodName := ⟨"AlarmForgeModel", "copyState", "(II)V"⟩
def rm_q_copyState : Room := { frames := 1, cells := 0, slots := 0, locals := 22 }
theorem d_q_copyState_0 : decode b_q_copyState 0 = .ok (.aload_n 0, 1) := by decide +kernel
theorem d_q_copyState_1 : decode b_q_copyState 1 = .ok (.getfield 133, 3) := by decide +kernel
theorem d_q_copyState_4 : decode b_q_copyState 4 = .ok (.iload_n 1, 1) := by decide +kernel
theorem d_q_copyState_5 : decode b_q_copyState 5 = .ok (.aload_n 0, 1) := by decide +kernel
theorem d_q_copyState_6 : decode b_q_copyState 6 = .ok (.getfield 133, 3) := by decide +kernel
theorem d_q_copyState_9 : decode b_q_copyState 9 = .ok (.iload_n 2, 1) := by decide +kernel
theorem d_q_copyState_10 : decode b_q_copyState 10 = .ok (.baload, 1) := by decide +kernel
theorem d_q_copyState_11 : decode b_q_copyState 11 = .ok (.bastore, 1) := by decide +kernel
theorem d_q_copyState_12 : decode b_q_copyState 12 = .ok (.iconst 0, 1) := by decide +kernel
theorem d_q_copyState_13 : decode b_q_copyState 13 = .ok (.istore_n 3, 1) := by decide +kernel
theorem d_q_copyState_14 : decode b_q_copyState 14 = .ok (.iload_n 3, 1) := by decide +kernel
theorem d_q_copyState_15 : decode b_q_copyState 15 = .ok (.bipush (14), 2) := by decide +kernel
theorem d_q_copyState_17 : decode b_q_copyState 17 = .ok (.if_icmp .ge (25), 3) := by decide +kernel
theorem d_q_copyState_20 : decode b_q_copyState 20 = .ok (.aload_n 0, 1) := by decide +kernel
theorem d_q_copyState_21 : decode b_q_copyState 21 = .ok (.bipush (14), 2) := by decide +kernel
theorem d_q_copyState_23 : decode b_q_copyState 23 = .ok (.iload_n 1, 1) := by decide +kernel
theorem d_q_copyState_24 : decode b_q_copyState 24 = .ok (.imul, 1) := by decide +kernel
theorem d_q_copyState_25 : decode b_q_copyState 25 = .ok (.iload_n 3, 1) := by decide +kernel
theorem d_q_copyState_26 : decode b_q_copyState 26 = .ok (.iadd, 1) := by decide +kernel
theorem d_q_copyState_27 : decode b_q_copyState 27 = .ok (.bipush (14), 2) := by decide +kernel
theorem d_q_copyState_29 : decode b_q_copyState 29 = .ok (.iload_n 2, 1) := by decide +kernel
theorem d_q_copyState_30 : decode b_q_copyState 30 = .ok (.imul, 1) := by decide +kernel
theorem d_q_copyState_31 : decode b_q_copyState 31 = .ok (.iload_n 3, 1) := by decide +kernel
theorem d_q_copyState_32 : decode b_q_copyState 32 = .ok (.iadd, 1) := by decide +kernel
theorem d_q_copyState_33 : decode b_q_copyState 33 = .ok (.invokevirtual 400, 3) := by decide +kernel
theorem d_q_copyState_36 : decode b_q_copyState 36 = .ok (.iinc 3 (1), 3) := by decide +kernel
theorem d_q_copyState_39 : decode b_q_copyState 39 = .ok (.goto (-25), 3) := by decide +kernel
theorem d_q_copyState_42 : decode b_q_copyState 42 = .ok (.iconst 0, 1) := by decide +kernel
theorem d_q_copyState_43 : decode b_q_copyState 43 = .ok (.istore_n 3, 1) := by decide +kernel
theorem d_q_copyState_44 : decode b_q_copyState 44 = .ok (.iload_n 3, 1) := by decide +kernel
theorem d_q_copyState_45 : decode b_q_copyState 45 = .ok (.bipush (6), 2) := by decide +kernel
theorem d_q_copyState_47 : decode b_q_copyState 47 = .ok (.if_icmp .ge (31), 3) := by decide +kernel
theorem d_q_copyState_50 : decode b_q_copyState 50 = .ok (.aload_n 0, 1) := by decide +kernel
theorem d_q_copyState_51 : decode b_q_copyState 51 = .ok (.getfield 130, 3) := by decide +kernel
theorem d_q_copyState_54 : decode b_q_copyState 54 = .ok (.bipush (6), 2) := by decide +kernel
theorem d_q_copyState_56 : decode b_q_copyState 56 = .ok (.iload_n 1, 1) := by decide +kernel
theorem d_q_copyState_57 : decode b_q_copyState 57 = .ok (.imul, 1) := by decide +kernel
theorem d_q_copyState_58 : decode b_q_copyState 58 = .ok (.iload_n 3, 1) := by decide +kernel
theorem d_q_copyState_59 : decode b_q_copyState 59 = .ok (.iadd, 1) := by decide +kernel
theorem d_q_copyState_60 : decode b_q_copyState 60 = .ok (.aload_n 0, 1) := by decide +kernel
theorem d_q_copyState_61 : decode b_q_copyState 61 = .ok (.getfield 130, 3) := by decide +kernel
theorem d_q_copyState_64 : decode b_q_copyState 64 = .ok (.bipush (6), 2) := by decide +kernel
theorem d_q_copyState_66 : decode b_q_copyState 66 = .ok (.iload_n 2, 1) := by decide +kernel
theorem d_q_copyState_67 : decode b_q_copyState 67 = .ok (.imul, 1) := by decide +kernel
theorem d_q_copyState_68 : decode b_q_copyState 68 = .ok (.iload_n 3, 1) := by decide +kernel
theorem d_q_copyState_69 : decode b_q_copyState 69 = .ok (.iadd, 1) := by decide +kernel
theorem d_q_copyState_70 : decode b_q_copyState 70 = .ok (.baload, 1) := by decide +kernel
theorem d_q_copyState_71 : decode b_q_copyState 71 = .ok (.bastore, 1) := by decide +kernel
theorem d_q_copyState_72 : decode b_q_copyState 72 = .ok (.iinc 3 (1), 3) := by decide +kernel
theorem d_q_copyState_75 : decode b_q_copyState 75 = .ok (.goto (-31), 3) := by decide +kernel
theorem d_q_copyState_78 : decode b_q_copyState 78 = .ok (.return_, 1) := by decide +kernel
theorem kb_q_copyState {a0 : Nat} {a1 : Int32} {a2 : Int32} {w : WW} {r : WW} (h : f_q_copyState a0 a1 a2 w = some r) : kb w a0 9 = true := (its h).1
set_option maxHeartbeats 4000000 in
set_option maxRecDepth 100000 in
theorem j_q_copyState_44 {p : Program} {l : Launch} {e : Env} {s : State} {m : MethodId} {args : Array Value} {below : List Frame} {meth : Method} {c : Code} {D : va_G} {cA : Nat → ClassId} {base : Nat} {w' : WW} (C : cx b_q_copyState (none) 4 y_q_copyState.cls "copyState" p s m args meth c D cA base)   : ∀ n : Nat, ∀ (y0 : Nat) (y1 : Int32) (y2 : Int32) (y3 : Int32) (w : WW), f_q_copyState_44 n y0 y1 y2 y3 w = some w' → ∀ (H : Heap) (locs : List Loc) (ls : Array Slot), wo_S D cls cA base s w H locs → lv_has ls 4 [(0, .ref (base + y0)), (1, .int y1), (2, .int y2), (3, .int y3)] → W p l e rm_q_copyState s m args below meth c H locs 0 0 (MQ below (wo_Q D cls cA base none w') args s rm_q_copyState.cells rm_q_copyState.slots (wo_B base)) (F0 m 44 ls []) := by
  obtain ⟨hx, hb, hr, hml, hown, hts, hlk, hnm, hK, hG⟩ := id C
  intro n
  induction n with
  | zero => intro y0 y1 y2 y3 w h; cases h
  | succ n ih =>
    intro y0 y1 y2 y3 w h H locs ls hW hl
    rw [f_q_copyState_44] at h
    refine lv_iload_n hx hb d_q_copyState_44 rfl (lv_at hl 3 rfl) ?_
    refine lv_bipush (v := (6 : Int32)) hx hb d_q_copyState_45 (by decide) ?_
    refine lv_icmp_ge (tgt := 78) hx hb d_q_copyState_47 (by decide) (fun c6 => ?_) (fun c6 => ?_)
    · rw [if_pos c6] at h
      cases h
      exact wo_vret hx hb hr hlk hW d_q_copyState_78
    · rw [if_neg c6] at h
      refine lv_aload_n hx hb d_q_copyState_50 rfl (lv_at hl 0 rfl) ?_
      replace h := bs h
      obtain ⟨x7, hx7, h⟩ := h
      refine gf_q_130 hx hb hts hown hK hG hW (gN_s hx7) d_q_copyState_51 ?_
      refine lv_bipush (v := (6 : Int32)) hx hb d_q_copyState_54 (by decide) ?_
      refine lv_iload_n hx hb d_q_copyState_56 rfl (lv_at hl 1 rfl) ?_
      refine lv_imul hx hb d_q_copyState_57 ?_
      refine lv_iload_n hx hb d_q_copyState_58 rfl (lv_at hl 3 rfl) ?_
      refine lv_iadd hx hb d_q_copyState_59 ?_
      refine lv_aload_n hx hb d_q_copyState_60 rfl (lv_at hl 0 rfl) ?_
      replace h := bs h
      obtain ⟨x8, hx8, h⟩ := h
      refine gf_q_130 hx hb hts hown hK hG hW (gN_s hx8) d_q_copyState_61 ?_
      refine lv_bipush (v := (6 : Int32)) hx hb d_q_copyState_64 (by decide) ?_
      refine lv_iload_n hx hb d_q_copyState_66 rfl (lv_at hl 2 rfl) ?_
      refine lv_imul hx hb d_q_copyState_67 ?_
      refine lv_iload_n hx hb d_q_copyState_68 rfl (lv_at hl 3 rfl) ?_
      refine lv_iadd hx hb d_q_copyState_69 ?_
      replace h := bs h
      obtain ⟨x9, hx9, h⟩ := h
      refine wo_zald hx hb hK hW (t := 2) rfl hx9 d_q_copyState_70 ?_
      replace h := bs h
      obtain ⟨w10, hw10, h⟩ := h
      refine wo_zast hx hb hK hW (t := 2) rfl hw10 d_q_copyState_71 (fun H locs hW => ?_)
      refine lv_iinc (v := (y3 + (1 : Int32))) (lv' := [(3, .int (y3 + (1 : Int32))), (0, .ref (base + y0)), (1, .int y1), (2, .int y2)]) hx hb d_q_copyState_72 hl (k := 3) rfl rfl (by decide) rfl (fun ls hl => ?_)
      refine lv_goto (tgt := 44) hx hb d_q_copyState_75 (by decide) ?_
      exact ih y0 y1 y2 (y3 + (1 : Int32)) w10 h _ _ _ hW (lv_sub hl [1, 2, 3, 0] rfl)
set_option maxHeartbeats 4000000 in
set_option maxRecDepth 100000 in
theorem j_q_copyState_14 {p : Program} {l : Launch} {e : Env} {s : State} {m : MethodId} {args : Array Value} {below : List Frame} {meth : Method} {c : Code} {D : va_G} {cA : Nat → ClassId} {base : Nat} {w' : WW} (C : cx b_q_copyState (none) 4 y_q_copyState.cls "copyState" p s m args meth c D cA base)   : ∀ n : Nat, ∀ (y0 : Nat) (y1 : Int32) (y2 : Int32) (y3 : Int32) (w : WW), f_q_copyState_14 n y0 y1 y2 y3 w = some w' → ∀ (H : Heap) (locs : List Loc) (ls : Array Slot), wo_S D cls cA base s w H locs → lv_has ls 4 [(0, .ref (base + y0)), (1, .int y1), (2, .int y2), (3, .int y3)] → W p l e rm_q_copyState s m args below meth c H locs 0 0 (MQ below (wo_Q D cls cA base none w') args s rm_q_copyState.cells rm_q_copyState.slots (wo_B base)) (F0 m 14 ls []) := by
  obtain ⟨hx, hb, hr, hml, hown, hts, hlk, hnm, hK, hG⟩ := id C
  intro n
  induction n with
  | zero => intro y0 y1 y2 y3 w h; cases h
  | succ n ih =>
    intro y0 y1 y2 y3 w h H locs ls hW hl
    rw [f_q_copyState_14] at h
    refine lv_iload_n hx hb d_q_copyState_14 rfl (lv_at hl 3 rfl) ?_
    refine lv_bipush (v := (14 : Int32)) hx hb d_q_copyState_15 (by decide) ?_
    refine lv_icmp_ge (tgt := 42) hx hb d_q_copyState_17 (by decide) (fun c5 => ?_) (fun c5 => ?_)
    · rw [if_pos c5] at h
      refine lv_iconst (v := (0 : Int32)) hx hb d_q_copyState_42 (by decide) ?_
      refine lv_istore_n (lv' := [(3, .int (0 : Int32)), (0, .ref (base + y0)), (1, .int y1), (2, .int y2)]) hx hb d_q_copyState_43 rfl hl (by decide) rfl (fun ls hl => ?_)
      exact j_q_copyState_44 C KK y0 y1 y2 (0 : Int32) w h _ _ _ hW (lv_sub hl [1, 2, 3, 0] rfl)
    · rw [if_neg c5] at h
      refine lv_aload_n hx hb d_q_copyState_20 rfl (lv_at hl 0 rfl) ?_
      refine lv_bipush (v := (14 : Int32)) hx hb d_q_copyState_21 (by decide) ?_
      refine lv_iload_n hx hb d_q_copyState_23 rfl (lv_at hl 1 rfl) ?_
      refine lv_imul hx hb d_q_copyState_24 ?_
      refine lv_iload_n hx hb d_q_copyState_25 rfl (lv_at hl 3 rfl) ?_
      refine lv_iadd hx hb d_q_copyState_26 ?_
      refine lv_bipush (v := (14 : Int32)) hx hb d_q_copyState_27 (by decide) ?_
      refine lv_iload_n hx hb d_q_copyState_29 rfl (lv_at hl 2 rfl) ?_
      refine lv_imul hx hb d_q_copyState_30 ?_
      refine lv_iload_n hx hb d_q_copyState_31 rfl (lv_at hl 3 rfl) ?_
      refine lv_iadd hx hb d_q_copyState_32 ?_
      replace h := bs h
      obtain ⟨w11, hw11, h⟩ := h
      refine cv_q_400 (As := [.int (((14 : Int32) * y1) + y3), .int (((14 : Int32) * y2) + y3)]) (rest := []) hx hb hml hown hts hK hG hW (c_q_copy l D cA base hw11) (kb_q_copy hw11) ⟨Nat.le_of_ble_eq_true rfl, Nat.le_of_ble_eq_true rfl⟩ ⟨Nat.le_of_ble_eq_true rfl, Nat.le_of_ble_eq_true rfl⟩ rfl hl.1 rfl (Nat.le_of_ble_eq_true rfl) d_q_copyState_33 (fun H locs hW => ?_)
      refine lv_iinc (v := (y3 + (1 : Int32))) (lv' := [(3, .int (y3 + (1 : Int32))), (0, .ref (base + y0)), (1, .int y1), (2, .int y2)]) hx hb d_q_copyState_36 hl (k := 3) rfl rfl (by decide) rfl (fun ls hl => ?_)
      refine lv_goto (tgt := 14) hx hb d_q_copyState_39 (by decide) ?_
      exact ih y0 y1 y2 (y3 + (1 : Int32)) w11 h _ _ _ hW (lv_sub hl [1, 2, 3, 0] rfl)
set_option maxHeartbeats 4000000 in
set_option maxRecDepth 100000 in
theorem c_q_copyState (l : Launch) (D : va_G) (cA : Nat → ClassId) (base : Nat) {a0 : Nat} {a1 : Int32} {a2 : Int32} {w w' : WW} (h : f_q_copyState a0 a1 a2 w = some w') : mt l D cls (wo_tys cA) cA base y_q_copyState (Cond.code y_q_copyState b_q_copyState 4 (none) :: gt) rm_q_copyState [.ref (base + a0), .int a1, .int a2] w none w' rm_q_copyState.cells rm_q_copyState.slots := by
  refine mt_start (by decide) (Nat.le_of_ble_eq_true rfl) ?_
  intro p e s m below meth c ls hx hb hr hml hown hts hlk hnm hK hG hW hl
  have C : cx b_q_copyState (none) 4 y_q_copyState.cls "copyState" p s m [.ref (base + a0), .int a1, .int a2].toArray meth c D cA base := ⟨hx, hb, hr, hml, hown, hts, hlk, hnm, hK, hG⟩
  have hl : lv_has ls 4 [(0, .ref (base + a0)), (1, .int a1), (2, .int a2)] := hl
  unfold f_q_copyState at h
  replace h := its h
  obtain ⟨-, h⟩ := h
  refine lv_aload_n hx hb d_q_copyState_0 rfl (lv_at hl 0 rfl) ?_
  replace h := bs h
  obtain ⟨x1, hx1, h⟩ := h
  refine gf_q_133 hx hb hts hown hK hG hW (gN_s hx1) d_q_copyState_1 ?_
  refine lv_iload_n hx hb d_q_copyState_4 rfl (lv_at hl 1 rfl) ?_
  refine lv_aload_n hx hb d_q_copyState_5 rfl (lv_at hl 0 rfl) ?_
  replace h := bs h
  obtain ⟨x2, hx2, h⟩ := h
  refine gf_q_133 hx hb hts hown hK hG hW (gN_s hx2) d_q_copyState_6 ?_
  refine lv_iload_n hx hb d_q_copyState_9 rfl (lv_at hl 2 rfl) ?_
  replace h := bs h
  obtain ⟨x3, hx3, h⟩ := h
  refine wo_zald hx hb hK hW (t := 2) rfl hx3 d_q_copyState_10 ?_
  replace h := bs h
  obtain ⟨w4, hw4, h⟩ := h
  refine wo_zast hx hb hK hW (t := 2) rfl hw4 d_q_copyState_11 (fun H locs hW => ?_)
  refine lv_iconst (v := (0 : Int32)) hx hb d_q_copyState_12 (by decide) ?_
  refine lv_istore_n (lv' := [(3, .int (0 : Int32)), (0, .ref (base + a0)), (1, .int a1), (2, .int a2)]) hx hb d_q_copyState_13 rfl hl (by decide) rfl (fun ls hl => ?_)
  exact j_q_copyState_14 C KK a0 a1 a2 (0 : Int32) w4 h _ _ _ hW (lv_sub hl [1, 2, 3, 0] rfl)
abbrev b_q_warn : ByteArray := prog_11_method_65_code
def y_q_warn : MethodName := ⟨"AlarmForgeModel", "warn", "(II)V"⟩
def rm_q_warn : Room := { frames := 0, cells := 0, slots := 0, locals := 0 }
theorem d_q_warn_0 : decode b_q_warn 0 = .ok (.aload_n 0, 1) := by decide +kernel
theorem d_q_warn_1 : decode b_q_warn 1 = .ok (.getfield 429, 3) := by decide +kernel
theorem d_q_warn_4 : decode b_q_warn 4 = .ok (.ifCond .ne (16), 3) := by decide +kernel
theorem d_q_warn_7 : decode b_q_warn 7 = .ok (.aload_n 0, 1) := by decide +kernel
theorem d_q_warn_8 : decode b_q_warn 8 = .ok (.getfield 136, 3) := by decide +kernel
theorem d_q_warn_11 : decode b_q_warn 11 = .ok (.sipush (200), 3) := by decide +kernel
theorem d_q_warn_14 : decode b_q_warn 14 = .ok (.iload_n 1, 1) := by decide +kernel
theorem d_q_warn_15 : decode b_q_warn 15 = .ok (.imul, 1) := by decide +kernel
theorem d_q_warn_16 : decode b_q_warn 16 = .ok (.iload_n 2, 1) := by decide +kernel
theorem d_q_warn_17 : decode b_q_warn 17 = .ok (.iadd, 1) := by decide +kernel
theorem d_q_warn_18 : decode b_q_warn 18 = .ok (.iconst 1, 1) := by decide +kernel
theorem d_q_warn_19 : decode b_q_warn 19 = .ok (.bastore, 1) := by decide +kernel
theorem d_q_warn_20 : decode b_q_warn 20 = .ok (.return_, 1) := by decide +kernel
theorem kb_q_warn {a0 : Nat} {a1 : Int32} {a2 : Int32} {w : WW} {r : WW} (h : f_q_warn a0 a1 a2 w = some r) : kb w a0 9 = true := (its h).1
set_option maxHeartbeats 4000000 in
set_option maxRecDepth 100000 in
theorem j_q_warn_20 {p : Program} {l : Launch} {e : Env} {s : State} {m : MethodId} {args : Array Value} {below : List Frame} {meth : Method} {c : Code} {D : va_G} {cA : Nat → ClassId} {base : Nat} {w' : WW} (C : cx b_q_warn (none) 3 y_q_warn.cls "warn" p s m args meth c D cA base)   : ∀  (w : WW), f_q_warn_20  w = some w' → ∀ (H : Heap) (locs : List Loc) (ls : Array Slot), wo_S D cls cA base s w H locs → lv_has ls 3 [] → W p l e rm_q_warn s m args below meth c H locs 0 0 (MQ below (wo_Q D cls cA base none w') args s rm_q_warn.cells rm_q_warn.slots (wo_B base)) (F0 m 20 ls []) := by
  obtain ⟨hx, hb, hr, hml, hown, hts, hlk, hnm, hK, hG⟩ := id C
  intro  w h H locs ls hW hl
  unfold f_q_warn_20 at h
  cases h
  exact wo_vret hx hb hr hlk hW d_q_warn_20
set_option maxHeartbeats 4000000 in
set_option maxRecDepth 100000 in
theorem c_q_warn (l : Launch) (D : va_G) (cA : Nat → ClassId) (base : Nat) {a0 : Nat} {a1 : Int32} {a2 : Int32} {w w' : WW} (h : f_q_warn a0 a1 a2 w = some w') : mt l D cls (wo_tys cA) cA base y_q_warn (Cond.code y_q_warn b_q_warn 3 (none) :: gt) rm_q_warn [.ref (base + a0), .int a1, .int a2] w none w' rm_q_warn.cells rm_q_warn.slots := by
  refine mt_start (by decide) (Nat.le_of_ble_eq_true rfl) ?_
  intro p e s m below meth c ls hx hb hr hml hown hts hlk hnm hK hG hW hl
  have C : cx b_q_warn (none) 3 y_q_warn.cls "warn" p s m [.ref (base + a0), .int a1, .int a2].toArray meth c D cA base := ⟨hx, hb, hr, hml, hown, hts, hlk, hnm, hK, hG⟩
  have hl : lv_has ls 3 [(0, .ref (base + a0)), (1, .int a1), (2, .int a2)] := hl
  unfold f_q_warn at h
  replace h := its h
  obtain ⟨-, h⟩ := h
  refine lv_aload_n hx hb d_q_warn_0 rfl (lv_at hl 0 rfl) ?_
  replace h := bs h
  obtain ⟨x1, hx1, h⟩ := h
  refine gf_q_429 hx hb hts hown hK hG hW (gI_s hx1) d_q_warn_1 ?_
  refine lv_if_ne (tgt := 20) hx hb d_q_warn_4 (by decide) (fun c2 => ?_) (fun c2 => ?_)
  · rw [if_neg c2] at h
    exact j_q_warn_20 C w h _ _ _ hW (lv_sub hl [] rfl)
  · rw [if_pos c2] at h
    refine lv_aload_n hx hb d_q_warn_7 rfl (lv_at hl 0 rfl) ?_
    replace h := bs h
    obtain ⟨x3, hx3, h⟩ := h
    refine gf_q_136 hx hb hts hown hK hG hW (gN_s hx3) d_q_warn_8 ?_
    refine lv_sipush (v := (200 : Int32)) hx hb d_q_warn_11 (by decide) ?_
    refine lv_iload_n hx hb d_q_warn_14 rfl (lv_at hl 1 rfl) ?_
    refine lv_imul hx hb d_q_warn_15 ?_
    refine lv_iload_n hx hb d_q_warn_16 rfl (lv_at hl 2 rfl) ?_
    refine lv_iadd hx hb d_q_warn_17 ?_
    refine lv_iconst (v := (1 : Int32)) hx hb d_q_warn_18 (by decide) ?_
    replace h := bs h
    obtain ⟨w4, hw4, h⟩ := h
    refine wo_zast hx hb hK hW (t := 2) rfl hw4 d_q_warn_19 (fun H locs hW => ?_)
    exact j_q_warn_20 C w4 h _ _ _ hW (lv_sub hl [] rfl)
abbrev b_q_isBeyond : ByteArray := prog_11_method_73_code
def y_q_isBeyond : MethodName := ⟨"AlarmForgeModel", "isBeyond", "(I)Z"⟩
def rm_q_isBeyond : Room := { frames := 0, cells := 0, slots := 0, locals := 0 }
theorem d_q_isBeyond_0 : decode b_q_isBeyond 0 = .ok (.aload_n 0, 1) := by decide +kernel
theorem d_q_isBeyond_1 : decode b_q_isBeyond 1 = .ok (.getfield 117, 3) := by decide +kernel
theorem d_q_isBeyond_4 : decode b_q_isBeyond 4 = .ok (.iload_n 1, 1) := by decide +kernel
theorem d_q_isBeyond_5 : decode b_q_isBeyond 5 = .ok (.laload, 1) := by decide +kernel
theorem d_q_isBeyond_6 : decode b_q_isBeyond 6 = .ok (.lconst 0, 1) := by decide +kernel
theorem d_q_isBeyond_7 : decode b_q_isBeyond 7 = .ok (.lcmp, 1) := by decide +kernel
theorem d_q_isBeyond_8 : decode b_q_isBeyond 8 = .ok (.ifCond .lt (16), 3) := by decide +kernel
theorem d_q_isBeyond_11 : decode b_q_isBeyond 11 = .ok (.aload_n 0, 1) := by decide +kernel
theorem d_q_isBeyond_12 : decode b_q_isBeyond 12 = .ok (.getfield 121, 3) := by decide +kernel
theorem d_q_isBeyond_15 : decode b_q_isBeyond 15 = .ok (.iload_n 1, 1) := by decide +kernel
theorem d_q_isBeyond_16 : decode b_q_isBeyond 16 = .ok (.laload, 1) := by decide +kernel
theorem d_q_isBeyond_17 : decode b_q_isBeyond 17 = .ok (.ldc2_w 338, 3) := by decide +kernel
theorem d_q_isBeyond_20 : decode b_q_isBeyond 20 = .ok (.lcmp, 1) := by decide +kernel
theorem d_q_isBeyond_21 : decode b_q_isBeyond 21 = .ok (.ifCond .le (7), 3) := by decide +kernel
theorem d_q_isBeyond_24 : decode b_q_isBeyond 24 = .ok (.iconst 1, 1) := by decide +kernel
theorem d_q_isBeyond_25 : decode b_q_isBeyond 25 = .ok (.goto (4), 3) := by decide +kernel
theorem d_q_isBeyond_28 : decode b_q_isBeyond 28 = .ok (.iconst 0, 1) := by decide +kernel
theorem d_q_isBeyond_29 : decode b_q_isBeyond 29 = .ok (.ireturn, 1) := by decide +kernel
theorem kb_q_isBeyond {a0 : Nat} {a1 : Int32} {w : WW} {r : (Int32 × WW)} (h : f_q_isBeyond a0 a1 w = some r) : kb w a0 9 = true := (its h).1
set_option maxHeartbeats 4000000 in
set_option maxRecDepth 100000 in
theorem j_q_isBeyond_29 {p : Program} {l : Launch} {e : Env} {s : State} {m : MethodId} {args : Array Value} {below : List Frame} {meth : Method} {c : Code} {D : va_G} {cA : Nat → ClassId} {base : Nat} {r : Int32} {w' : WW} (C : cx b_q_isBeyond (some .boolean) 2 y_q_isBeyond.cls "isBeyond" p s m args meth c D cA base)   : ∀ (z0 : Int32) (w : WW), f_q_isBeyond_29 z0 w = some (r, w') → ∀ (H : Heap) (locs : List Loc) (ls : Array Slot), wo_S D cls cA base s w H locs → lv_has ls 2 [] → W p l e rm_q_isBeyond s m args below meth c H locs 0 0 (MQ below (wo_Q D cls cA base (some (.int r)) w') args s rm_q_isBeyond.cells rm_q_isBeyond.slots (wo_B base)) (F0 m 29 ls [.int z0]) := by
  obtain ⟨hx, hb, hr, hml, hown, hts, hlk, hnm, hK, hG⟩ := id C
  intro z0 w h H locs ls hW hl
  unfold f_q_isBeyond_29 at h
  replace h := its h
  obtain ⟨c4, h⟩ := h
  cases h
  exact wo_zret hx hb hr hlk hW c4 d_q_isBeyond_29
set_option maxHeartbeats 4000000 in
set_option maxRecDepth 100000 in
theorem j_q_isBeyond_24 {p : Program} {l : Launch} {e : Env} {s : State} {m : MethodId} {args : Array Value} {below : List Frame} {meth : Method} {c : Code} {D : va_G} {cA : Nat → ClassId} {base : Nat} {r : Int32} {w' : WW} (C : cx b_q_isBeyond (some .boolean) 2 y_q_isBeyond.cls "isBeyond" p s m args meth c D cA base)   : ∀  (w : WW), f_q_isBeyond_24  w = some (r, w') → ∀ (H : Heap) (locs : List Loc) (ls : Array Slot), wo_S D cls cA base s w H locs → lv_has ls 2 [] → W p l e rm_q_isBeyond s m args below meth c H locs 0 0 (MQ below (wo_Q D cls cA base (some (.int r)) w') args s rm_q_isBeyond.cells rm_q_isBeyond.slots (wo_B base)) (F0 m 24 ls []) := by
  obtain ⟨hx, hb, hr, hml, hown, hts, hlk, hnm, hK, hG⟩ := id C
  intro  w h H locs ls hW hl
  unfold f_q_isBeyond_24 at h
  refine lv_iconst (v := (1 : Int32)) hx hb d_q_isBeyond_24 (by decide) ?_
  refine lv_goto (tgt := 29) hx hb d_q_isBeyond_25 (by decide) ?_
  exact j_q_isBeyond_29 C (1 : Int32) w h _ _ _ hW (lv_sub hl [] rfl)
set_option maxHeartbeats 4000000 in
set_option maxRecDepth 100000 in
theorem c_q_isBeyond (l : Launch) (D : va_G) (cA : Nat → ClassId) (base : Nat) {a0 : Nat} {a1 : Int32} {w w' : WW} {r : Int32} (h : f_q_isBeyond a0 a1 w = some (r, w')) : mt l D cls (wo_tys cA) cA base y_q_isBeyond (Cond.code y_q_isBeyond b_q_isBeyond 2 (some .boolean) :: gt) rm_q_isBeyond [.ref (base + a0), .int a1] w (some (.int r)) w' rm_q_isBeyond.cells rm_q_isBeyond.slots := by
  refine mt_start (by decide) (Nat.le_of_ble_eq_true rfl) ?_
  intro p e s m below meth c ls hx hb hr hml hown hts hlk hnm hK hG hW hl
  have C : cx b_q_isBeyond (some .boolean) 2 y_q_isBeyond.cls "isBeyond" p s m [.ref (base + a0), .int a1].toArray meth c D cA base := ⟨hx, hb, hr, hml, hown, hts, hlk, hnm, hK, hG⟩
  have hl : lv_has ls 2 [(0, .ref (base + a0)), (1, .int a1)] := hl
  unfold f_q_isBeyond at h
  replace h := its h
  obtain ⟨-, h⟩ := h
  refine lv_aload_n hx hb d_q_isBeyond_0 rfl (lv_at hl 0 rfl) ?_
  replace h := bs h
  obtain ⟨x1, hx1, h⟩ := h
  refine gf_q_117 hx hb hts hown hK hG hW (gN_s hx1) d_q_isBeyond_1 ?_
  refine lv_iload_n hx hb d_q_isBeyond_4 rfl (lv_at hl 1 rfl) ?_
  replace h := bs h
  obtain ⟨x2, hx2, h⟩ := h
  refine wo_lald hx hb hK hW (t := 1) rfl hx2 d_q_isBeyond_5 ?_
  refine lv_lconst (v := (0 : Int64)) hx hb d_q_isBeyond_6 (by decide) ?_
  refine lc_lt (tgt := 24) hx hb d_q_isBeyond_7 d_q_isBeyond_8 (by decide) (fun c3 => ?_) (fun c3 => ?_)
  · rw [if_pos c3] at h
    exact j_q_isBeyond_24 C w h _ _ _ hW (lv_sub hl [] rfl)
  · rw [if_neg c3] at h
    refine lv_aload_n hx hb d_q_isBeyond_11 rfl (lv_at hl 0 rfl) ?_
    replace h := bs h
    obtain ⟨x5, hx5, h⟩ := h
    refine gf_q_121 hx hb hts hown hK hG hW (gN_s hx5) d_q_isBeyond_12 ?_
    refine lv_iload_n hx hb d_q_isBeyond_15 rfl (lv_at hl 1 rfl) ?_
    replace h := bs h
    obtain ⟨x6, hx6, h⟩ := h
    refine wo_lald hx hb hK hW (t := 1) rfl hx6 d_q_isBeyond_16 ?_
    refine lv_ldc2 (own := Rc_q) (v := (3 : Int64)) hx hb hown (hts (.constantLong "AlarmForgeModel" 338 (3 : Int64)) (gt_of (i := 1552) (by decide +kernel) (by decide +kernel))) d_q_isBeyond_17 ?_
    refine lc_le (tgt := 28) hx hb d_q_isBeyond_20 d_q_isBeyond_21 (by decide) (fun c7 => ?_) (fun c7 => ?_)
    · rw [if_pos c7] at h
      refine lv_iconst (v := (0 : Int32)) hx hb d_q_isBeyond_28 (by decide) ?_
      exact j_q_isBeyond_29 C (0 : Int32) w h _ _ _ hW (lv_sub hl [] rfl)
    · rw [if_neg c7] at h
      exact j_q_isBeyond_24 C w h _ _ _ hW (lv_sub hl [] rfl)
abbrev b_q_left_JJ : ByteArray := prog_11_method_50_code
def y_q_left_JJ : MethodName := ⟨"AlarmForgeModel", "left", "(JJ)J"⟩
def rm_q_left_JJ : Room := { frames := 0, cells := 0, slots := 0, locals := 0 }
theorem d_q_left_JJ_0 : decode b_q_left_JJ 0 = .ok (.lload_n 2, 1) := by decide +kernel
theorem d_q_left_JJ_1 : decode b_q_left_JJ 1 = .ok (.lconst 0, 1) := by decide +kernel
theorem d_q_left_JJ_2 : decode b_q_left_JJ 2 = .ok (.lcmp, 1) := by decide +kernel
theorem d_q_left_JJ_3 : decode b_q_left_JJ 3 = .ok (.ifCond .ne (5), 3) := by decide +kernel
theorem d_q_left_JJ_6 : decode b_q_left_JJ 6 = .ok (.lload_n 0, 1) := by decide +kernel
theorem d_q_left_JJ_7 : decode b_q_left_JJ 7 = .ok (.lreturn, 1) := by decide +kernel
theorem d_q_left_JJ_8 : decode b_q_left_JJ 8 = .ok (.lload_n 0, 1) := by decide +kernel
theorem d_q_left_JJ_9 : decode b_q_left_JJ 9 = .ok (.lload_n 2, 1) := by decide +kernel
theorem d_q_left_JJ_10 : decode b_q_left_JJ 10 = .ok (.lrem, 1) := by decide +kernel
theorem d_q_left_JJ_11 : decode b_q_left_JJ 11 = .ok (.lstore 4, 2) := by decide +kernel
theorem d_q_left_JJ_13 : decode b_q_left_JJ 13 = .ok (.lload 4, 2) := by decide +kernel
theorem d_q_left_JJ_15 : decode b_q_left_JJ 15 = .ok (.lconst 0, 1) := by decide +kernel
theorem d_q_left_JJ_16 : decode b_q_left_JJ 16 = .ok (.lcmp, 1) := by decide +kernel
theorem d_q_left_JJ_17 : decode b_q_left_JJ 17 = .ok (.ifCond .ge (10), 3) := by decide +kernel
theorem d_q_left_JJ_20 : decode b_q_left_JJ 20 = .ok (.lload 4, 2) := by decide +kernel
theorem d_q_left_JJ_22 : decode b_q_left_JJ 22 = .ok (.lload_n 2, 1) := by decide +kernel
theorem d_q_left_JJ_23 : decode b_q_left_JJ 23 = .ok (.ladd, 1) := by decide +kernel
theorem d_q_left_JJ_24 : decode b_q_left_JJ 24 = .ok (.goto (5), 3) := by decide +kernel
theorem d_q_left_JJ_27 : decode b_q_left_JJ 27 = .ok (.lload 4, 2) := by decide +kernel
theorem d_q_left_JJ_29 : decode b_q_left_JJ 29 = .ok (.lreturn, 1) := by decide +kernel
set_option maxHeartbeats 4000000 in
set_option maxRecDepth 100000 in
theorem j_q_left_JJ_29 {p : Program} {l : Launch} {e : Env} {s : State} {m : MethodId} {args : Array Value} {below : List Frame} {meth : Method} {c : Code} {D : va_G} {cA : Nat → ClassId} {base : Nat} {r : Int64} {w' : WW} (C : cx b_q_left_JJ (some .long) 6 y_q_left_JJ.cls "left" p s m args meth c D cA base)   : ∀ (z0 : Int64) (w : WW), f_q_left_JJ_29 z0 w = some (r, w') → ∀ (H : Heap) (locs : List Loc) (ls : Array Slot), wo_S D cls cA base s w H locs → lv_has ls 6 [] → W p l e rm_q_left_JJ s m args below meth c H locs 0 0 (MQ below (wo_Q D cls cA base (some (.long r)) w') args s rm_q_left_JJ.cells rm_q_left_JJ.slots (wo_B base)) (F0 m 29 ls [.long z0]) := by
  obtain ⟨hx, hb, hr, hml, hown, hts, hlk, hnm, hK, hG⟩ := id C
  intro z0 w h H locs ls hW hl
  unfold f_q_left_JJ_29 at h
  cases h
  exact wo_lret hx hb hr hlk hW d_q_left_JJ_29
set_option maxHeartbeats 4000000 in
set_option maxRecDepth 100000 in
theorem c_q_left_JJ (l : Launch) (D : va_G) (cA : Nat → ClassId) (base : Nat) {a0 : Int64} {a2 : Int64} {w w' : WW} {r : Int64} (h : f_q_left_JJ a0 a2 w = some (r, w')) : mt l D cls (wo_tys cA) cA base y_q_left_JJ (Cond.code y_q_left_JJ b_q_left_JJ 6 (some .long) :: gt) rm_q_left_JJ [.long a0, .long a2] w (some (.long r)) w' rm_q_left_JJ.cells rm_q_left_JJ.slots := by
  refine mt_start (by decide) (Nat.le_of_ble_eq_true rfl) ?_
  intro p e s m below meth c ls hx hb hr hml hown hts hlk hnm hK hG hW hl
  have C : cx b_q_left_JJ (some .long) 6 y_q_left_JJ.cls "left" p s m [.long a0, .long a2].toArray meth c D cA base := ⟨hx, hb, hr, hml, hown, hts, hlk, hnm, hK, hG⟩
  have hl : lv_has ls 6 [(0, .long a0), (2, .long a2)] := hl
  unfold f_q_left_JJ at h
  refine lv_lload_n hx hb d_q_left_JJ_0 rfl (lv_at hl 1 rfl) ?_
  refine lv_lconst (v := (0 : Int64)) hx hb d_q_left_JJ_1 (by decide) ?_
  refine lc_ne (tgt := 8) hx hb d_q_left_JJ_2 d_q_left_JJ_3 (by decide) (fun c1 => ?_) (fun c1 => ?_)
  · rw [if_neg c1] at h
    refine lv_lload_n hx hb d_q_left_JJ_8 rfl (lv_at hl 0 rfl) ?_
    refine lv_lload_n hx hb d_q_left_JJ_9 rfl (lv_at hl 1 rfl) ?_
    replace h := its h
    obtain ⟨c2, h⟩ := h
    refine lv_lrem hx hb d_q_left_JJ_10 c2 ?_
    refine lv_lstore (lv' := [(4, .long (a0 - a0 / a2 * a2)), (0, .long a0), (2, .long a2)]) hx hb d_q_left_JJ_11 hl (by decide) rfl (fun ls hl => ?_)
    refine lv_lload hx hb d_q_left_JJ_13 (lv_at hl 0 rfl) ?_
    refine lv_lconst (v := (0 : Int64)) hx hb d_q_left_JJ_15 (by decide) ?_
    refine lc_ge (tgt := 27) hx hb d_q_left_JJ_16 d_q_left_JJ_17 (by decide) (fun c3 => ?_) (fun c3 => ?_)
    · rw [if_pos c3] at h
      refine lv_lload hx hb d_q_left_JJ_27 (lv_at hl 0 rfl) ?_
      exact j_q_left_JJ_29 C (a0 - a0 / a2 * a2) w h _ _ _ hW (lv_sub hl [] rfl)
    · rw [if_neg c3] at h
      refine lv_lload hx hb d_q_left_JJ_20 (lv_at hl 0 rfl) ?_
      refine lv_lload_n hx hb d_q_left_JJ_22 rfl (lv_at hl 2 rfl) ?_
      refine lv_ladd hx hb d_q_left_JJ_23 ?_
      refine lv_goto (tgt := 29) hx hb d_q_left_JJ_24 (by decide) ?_
      exact j_q_left_JJ_29 C ((a0 - a0 / a2 * a2) + a2) w h _ _ _ hW (lv_sub hl [] rfl)
  · rw [if_pos c1] at h
    refine lv_lload_n hx hb d_q_left_JJ_6 rfl (lv_at hl 0 rfl) ?_
    cases h
    exact wo_lret hx hb hr hlk hW d_q_left_JJ_7
theorem cs_q_389 {p : Program} {l : Launch} {e : Env} {R : Room} {s : State} {m : MethodId} {args : Array Value} {below : List Frame} {meth : Method} {c : Code} {H : Heap} {locs : List Loc} {cells slots : Nat} {Q : State → Prop} {D : va_G} {cA : Nat → ClassId} {base : Nat} {w w' : WW} {cc : ByteArray} {pc nL : Nat} {ls : Array Slot} {rest st0 As : List Value} {ov : Option Value} (hx : p.tables.exec = Jvm.exec) (hb : c.code = cc) (hml : c.maxLocals = nL) (hown : s.vm.findClass Rc_q = some m.cls) (hts : ∀ w ∈ gt, w.before args s = true) (hK : va_K D cls (wo_tys cA) s) (hG : wo_G cA base s) (hW : wo_S D cls cA base s w H locs) (hM : mt l D cls (wo_tys cA) cA base y_q_left_JJ (Cond.code y_q_left_JJ b_q_left_JJ 6 (some .long) :: gt) rm_q_left_JJ (As) w ov w' rm_q_left_JJ.cells rm_q_left_JJ.slots) (hR : rm_q_left_JJ.frames + 1 ≤ R.frames ∧ 8 + (6 + 11) + rm_q_left_JJ.locals ≤ R.locals) (hf : cells + rm_q_left_JJ.cells ≤ R.cells ∧ slots + rm_q_left_JJ.slots ≤ R.slots) (hn : As.length = 2) (hsz : ls.size = nL) (hst : st0 = As.reverse ++ rest) (hcat : (rest.map fun v => v.category).sum ≤ 8) (hdg : decode cc pc = .ok (.invokestatic 389, 3)) (kk : ∀ (H1 : Heap) (locs1 : List Loc), wo_S D cls cA base s w' H1 locs1 → W p l e R s m args below meth c H1 locs1 (cells + rm_q_left_JJ.cells) (slots + rm_q_left_JJ.slots) Q (F0 m (pc + 3) ls (ov.toList ++ rest))) : W p l e R s m args below meth c H locs cells slots Q (F0 m pc ls st0) :=
  wo_callS hx hb hml hown hts hK hG hW hM (gt_of (i := 1622) (by decide +kernel) (by decide +kernel)) (gt_of (i := 1623) (by decide +kernel) (by decide +kernel)) (gt_of (i := 10) (by decide +kernel) (by decide +kernel)) (gt_of (i := 1624) (by decide +kernel) (by decide +kernel)) (by decide +kernel) hR hf hn hsz hst hcat hdg kk
abbrev b_q_isOf : ByteArray := prog_11_method_56_code
def y_q_isOf : MethodName := ⟨"AlarmForgeModel", "isOf", "(JI)Z"⟩
def rm_q_isOf : Room := { frames := 1, cells := 0, slots := 0, locals := 25 }
theorem d_q_isOf_0 : decode b_q_isOf 0 = .ok (.aload_n 0, 1) := by decide +kernel
theorem d_q_isOf_1 : decode b_q_isOf 1 = .ok (.getfield 124, 3) := by decide +kernel
theorem d_q_isOf_4 : decode b_q_isOf 4 = .ok (.iload_n 3, 1) := by decide +kernel
theorem d_q_isOf_5 : decode b_q_isOf 5 = .ok (.laload, 1) := by decide +kernel
theorem d_q_isOf_6 : decode b_q_isOf 6 = .ok (.lconst 0, 1) := by decide +kernel
theorem d_q_isOf_7 : decode b_q_isOf 7 = .ok (.lcmp, 1) := by decide +kernel
theorem d_q_isOf_8 : decode b_q_isOf 8 = .ok (.ifCond .lt (46), 3) := by decide +kernel
theorem d_q_isOf_11 : decode b_q_isOf 11 = .ok (.lload_n 1, 1) := by decide +kernel
theorem d_q_isOf_12 : decode b_q_isOf 12 = .ok (.aload_n 0, 1) := by decide +kernel
theorem d_q_isOf_13 : decode b_q_isOf 13 = .ok (.getfield 117, 3) := by decide +kernel
theorem d_q_isOf_16 : decode b_q_isOf 16 = .ok (.iload_n 3, 1) := by decide +kernel
theorem d_q_isOf_17 : decode b_q_isOf 17 = .ok (.laload, 1) := by decide +kernel
theorem d_q_isOf_18 : decode b_q_isOf 18 = .ok (.aload_n 0, 1) := by decide +kernel
theorem d_q_isOf_19 : decode b_q_isOf 19 = .ok (.getfield 121, 3) := by decide +kernel
theorem d_q_isOf_22 : decode b_q_isOf 22 = .ok (.iload_n 3, 1) := by decide +kernel
theorem d_q_isOf_23 : decode b_q_isOf 23 = .ok (.laload, 1) := by decide +kernel
theorem d_q_isOf_24 : decode b_q_isOf 24 = .ok (.invokestatic 155, 3) := by decide +kernel
theorem d_q_isOf_27 : decode b_q_isOf 27 = .ok (.ifCond .eq (27), 3) := by decide +kernel
theorem d_q_isOf_30 : decode b_q_isOf 30 = .ok (.lload_n 1, 1) := by decide +kernel
theorem d_q_isOf_31 : decode b_q_isOf 31 = .ok (.aload_n 0, 1) := by decide +kernel
theorem d_q_isOf_32 : decode b_q_isOf 32 = .ok (.getfield 124, 3) := by decide +kernel
theorem d_q_isOf_35 : decode b_q_isOf 35 = .ok (.iload_n 3, 1) := by decide +kernel
theorem d_q_isOf_36 : decode b_q_isOf 36 = .ok (.laload, 1) := by decide +kernel
theorem d_q_isOf_37 : decode b_q_isOf 37 = .ok (.invokestatic 389, 3) := by decide +kernel
theorem d_q_isOf_40 : decode b_q_isOf 40 = .ok (.aload_n 0, 1) := by decide +kernel
theorem d_q_isOf_41 : decode b_q_isOf 41 = .ok (.getfield 127, 3) := by decide +kernel
theorem d_q_isOf_44 : decode b_q_isOf 44 = .ok (.iload_n 3, 1) := by decide +kernel
theorem d_q_isOf_45 : decode b_q_isOf 45 = .ok (.laload, 1) := by decide +kernel
theorem d_q_isOf_46 : decode b_q_isOf 46 = .ok (.lcmp, 1) := by decide +kernel
theorem d_q_isOf_47 : decode b_q_isOf 47 = .ok (.ifCond .ne (7), 3) := by decide +kernel
theorem d_q_isOf_50 : decode b_q_isOf 50 = .ok (.iconst 1, 1) := by decide +kernel
theorem d_q_isOf_51 : decode b_q_isOf 51 = .ok (.goto (4), 3) := by decide +kernel
theorem d_q_isOf_54 : decode b_q_isOf 54 = .ok (.iconst 0, 1) := by decide +kernel
theorem d_q_isOf_55 : decode b_q_isOf 55 = .ok (.ireturn, 1) := by decide +kernel
theorem kb_q_isOf {a0 : Nat} {a1 : Int64} {a3 : Int32} {w : WW} {r : (Int32 × WW)} (h : f_q_isOf a0 a1 a3 w = some r) : kb w a0 9 = true := (its h).1
set_option maxHeartbeats 4000000 in
set_option maxRecDepth 100000 in
theorem j_q_isOf_55 {p : Program} {l : Launch} {e : Env} {s : State} {m : MethodId} {args : Array Value} {below : List Frame} {meth : Method} {c : Code} {D : va_G} {cA : Nat → ClassId} {base : Nat} {r : Int32} {w' : WW} (C : cx b_q_isOf (some .boolean) 4 y_q_isOf.cls "isOf" p s m args meth c D cA base)   : ∀ (z0 : Int32) (w : WW), f_q_isOf_55 z0 w = some (r, w') → ∀ (H : Heap) (locs : List Loc) (ls : Array Slot), wo_S D cls cA base s w H locs → lv_has ls 4 [] → W p l e rm_q_isOf s m args below meth c H locs 0 0 (MQ below (wo_Q D cls cA base (some (.int r)) w') args s rm_q_isOf.cells rm_q_isOf.slots (wo_B base)) (F0 m 55 ls [.int z0]) := by
  obtain ⟨hx, hb, hr, hml, hown, hts, hlk, hnm, hK, hG⟩ := id C
  intro z0 w h H locs ls hW hl
  unfold f_q_isOf_55 at h
  replace h := its h
  obtain ⟨c4, h⟩ := h
  cases h
  exact wo_zret hx hb hr hlk hW c4 d_q_isOf_55
set_option maxHeartbeats 4000000 in
set_option maxRecDepth 100000 in
theorem j_q_isOf_54 {p : Program} {l : Launch} {e : Env} {s : State} {m : MethodId} {args : Array Value} {below : List Frame} {meth : Method} {c : Code} {D : va_G} {cA : Nat → ClassId} {base : Nat} {r : Int32} {w' : WW} (C : cx b_q_isOf (some .boolean) 4 y_q_isOf.cls "isOf" p s m args meth c D cA base)   : ∀  (w : WW), f_q_isOf_54  w = some (r, w') → ∀ (H : Heap) (locs : List Loc) (ls : Array Slot), wo_S D cls cA base s w H locs → lv_has ls 4 [] → W p l e rm_q_isOf s m args below meth c H locs 0 0 (MQ below (wo_Q D cls cA base (some (.int r)) w') args s rm_q_isOf.cells rm_q_isOf.slots (wo_B base)) (F0 m 54 ls []) := by
  obtain ⟨hx, hb, hr, hml, hown, hts, hlk, hnm, hK, hG⟩ := id C
  intro  w h H locs ls hW hl
  unfold f_q_isOf_54 at h
  refine lv_iconst (v := (0 : Int32)) hx hb d_q_isOf_54 (by decide) ?_
  exact j_q_isOf_55 C (0 : Int32) w h _ _ _ hW (lv_sub hl [] rfl)
set_option maxHeartbeats 4000000 in
set_option maxRecDepth 100000 in
theorem c_q_isOf (l : Launch) (D : va_G) (cA : Nat → ClassId) (base : Nat) {a0 : Nat} {a1 : Int64} {a3 : Int32} {w w' : WW} {r : Int32} (h : f_q_isOf a0 a1 a3 w = some (r, w')) : mt l D cls (wo_tys cA) cA base y_q_isOf (Cond.code y_q_isOf b_q_isOf 4 (some .boolean) :: gt) rm_q_isOf [.ref (base + a0), .long a1, .int a3] w (some (.int r)) w' rm_q_isOf.cells rm_q_isOf.slots := by
  refine mt_start (by decide) (Nat.le_of_ble_eq_true rfl) ?_
  intro p e s m below meth c ls hx hb hr hml hown hts hlk hnm hK hG hW hl
  have C : cx b_q_isOf (some .boolean) 4 y_q_isOf.cls "isOf" p s m [.ref (base + a0), .long a1, .int a3].toArray meth c D cA base := ⟨hx, hb, hr, hml, hown, hts, hlk, hnm, hK, hG⟩
  have hl : lv_has ls 4 [(0, .ref (base + a0)), (1, .long a1), (3, .int a3)] := hl
  unfold f_q_isOf at h
  replace h := its h
  obtain ⟨-, h⟩ := h
  refine lv_aload_n hx hb d_q_isOf_0 rfl (lv_at hl 0 rfl) ?_
  replace h := bs h
  obtain ⟨x1, hx1, h⟩ := h
  refine gf_q_124 hx hb hts hown hK hG hW (gN_s hx1) d_q_isOf_1 ?_
  refine lv_iload_n hx hb d_q_isOf_4 rfl (lv_at hl 2 rfl) ?_
  replace h := bs h
  obtain ⟨x2, hx2, h⟩ := h
  refine wo_lald hx hb hK hW (t := 1) rfl hx2 d_q_isOf_5 ?_
  refine lv_lconst (v := (0 : Int64)) hx hb d_q_isOf_6 (by decide) ?_
  refine lc_lt (tgt := 54) hx hb d_q_isOf_7 d_q_isOf_8 (by decide) (fun c3 => ?_) (fun c3 => ?_)
  · rw [if_pos c3] at h
    exact j_q_isOf_54 C w h _ _ _ hW (lv_sub hl [] rfl)
  · rw [if_neg c3] at h
    refine lv_lload_n hx hb d_q_isOf_11 rfl (lv_at hl 1 rfl) ?_
    refine lv_aload_n hx hb d_q_isOf_12 rfl (lv_at hl 0 rfl) ?_
    replace h := bs h
    obtain ⟨x5, hx5, h⟩ := h
    refine gf_q_117 hx hb hts hown hK hG hW (gN_s hx5) d_q_isOf_13 ?_
    refine lv_iload_n hx hb d_q_isOf_16 rfl (lv_at hl 2 rfl) ?_
    replace h := bs h
    obtain ⟨x6, hx6, h⟩ := h
    refine wo_lald hx hb hK hW (t := 1) rfl hx6 d_q_isOf_17 ?_
    refine lv_aload_n hx hb d_q_isOf_18 rfl (lv_at hl 0 rfl) ?_
    replace h := bs h
    obtain ⟨x7, hx7, h⟩ := h
    refine gf_q_121 hx hb hts hown hK hG hW (gN_s hx7) d_q_isOf_19 ?_
    refine lv_iload_n hx hb d_q_isOf_22 rfl (lv_at hl 2 rfl) ?_
    replace h := bs h
    obtain ⟨x8, hx8, h⟩ := h
    refine wo_lald hx hb hK hW (t := 1) rfl hx8 d_q_isOf_23 ?_
    replace h := bs2 h
    obtain ⟨x10, w9, hw9, h⟩ := h
    refine cs_q_155 (As := [.long a1, .long x6, .long x8]) (rest := []) hx hb hml hown hts hK hG hW (c_q_in l D cA base hw9) ⟨Nat.le_of_ble_eq_true rfl, Nat.le_of_ble_eq_true rfl⟩ ⟨Nat.le_of_ble_eq_true rfl, Nat.le_of_ble_eq_true rfl⟩ rfl hl.1 rfl (Nat.le_of_ble_eq_true rfl) d_q_isOf_24 (fun H locs hW => ?_)
    refine lv_if_eq (tgt := 54) hx hb d_q_isOf_27 (by decide) (fun c11 => ?_) (fun c11 => ?_)
    · rw [if_pos c11] at h
      exact j_q_isOf_54 C w9 h _ _ _ hW (lv_sub hl [] rfl)
    · rw [if_neg c11] at h
      refine lv_lload_n hx hb d_q_isOf_30 rfl (lv_at hl 1 rfl) ?_
      refine lv_aload_n hx hb d_q_isOf_31 rfl (lv_at hl 0 rfl) ?_
      replace h := bs h
      obtain ⟨x12, hx12, h⟩ := h
      refine gf_q_124 hx hb hts hown hK hG hW (gN_s hx12) d_q_isOf_32 ?_
      refine lv_iload_n hx hb d_q_isOf_35 rfl (lv_at hl 2 rfl) ?_
      replace h := bs h
      obtain ⟨x13, hx13, h⟩ := h
      refine wo_lald hx hb hK hW (t := 1) rfl hx13 d_q_isOf_36 ?_
      replace h := bs2 h
      obtain ⟨x15, w14, hw14, h⟩ := h
      refine cs_q_389 (As := [.long a1, .long x13]) (rest := []) hx hb hml hown hts hK hG hW (c_q_left_JJ l D cA base hw14) ⟨Nat.le_of_ble_eq_true rfl, Nat.le_of_ble_eq_true rfl⟩ ⟨Nat.le_of_ble_eq_true rfl, Nat.le_of_ble_eq_true rfl⟩ rfl hl.1 rfl (Nat.le_of_ble_eq_true rfl) d_q_isOf_37 (fun H locs hW => ?_)
      refine lv_aload_n hx hb d_q_isOf_40 rfl (lv_at hl 0 rfl) ?_
      replace h := bs h
      obtain ⟨x16, hx16, h⟩ := h
      refine gf_q_127 hx hb hts hown hK hG hW (gN_s hx16) d_q_isOf_41 ?_
      refine lv_iload_n hx hb d_q_isOf_44 rfl (lv_at hl 2 rfl) ?_
      replace h := bs h
      obtain ⟨x17, hx17, h⟩ := h
      refine wo_lald hx hb hK hW (t := 1) rfl hx17 d_q_isOf_45 ?_
      refine lc_ne (tgt := 54) hx hb d_q_isOf_46 d_q_isOf_47 (by decide) (fun c18 => ?_) (fun c18 => ?_)
      · rw [if_neg c18] at h
        exact j_q_isOf_54 C w14 h _ _ _ hW (lv_sub hl [] rfl)
      · rw [if_pos c18] at h
        refine lv_iconst (v := (1 : Int32)) hx hb d_q_isOf_50 (by decide) ?_
        refine lv_goto (tgt := 55) hx hb d_q_isOf_51 (by decide) ?_
        exact j_q_isOf_55 C (1 : Int32) w14 h _ _ _ hW (lv_sub hl [] rfl)
abbrev b_q_gcd : ByteArray := prog_11_method_49_code
def y_q_gcd : MethodName := ⟨"AlarmForgeModel", "gcd", "(JJ)J"⟩
def rm_q_gcd : Room := { frames := 0, cells := 0, slots := 0, locals := 0 }
theorem d_q_gcd_0 : decode b_q_gcd 0 = .ok (.lload_n 0, 1) := by decide +kernel
theorem d_q_gcd_1 : decode b_q_gcd 1 = .ok (.lconst 0, 1) := by decide +kernel
theorem d_q_gcd_2 : decode b_q_gcd 2 = .ok (.lcmp, 1) := by decide +kernel
theorem d_q_gcd_3 : decode b_q_gcd 3 = .ok (.ifCond .ge (8), 3) := by decide +kernel
theorem d_q_gcd_6 : decode b_q_gcd 6 = .ok (.lload_n 0, 1) := by decide +kernel
theorem d_q_gcd_7 : decode b_q_gcd 7 = .ok (.lneg, 1) := by decide +kernel
theorem d_q_gcd_8 : decode b_q_gcd 8 = .ok (.goto (4), 3) := by decide +kernel
theorem d_q_gcd_11 : decode b_q_gcd 11 = .ok (.lload_n 0, 1) := by decide +kernel
theorem d_q_gcd_12 : decode b_q_gcd 12 = .ok (.lstore 4, 2) := by decide +kernel
theorem d_q_gcd_14 : decode b_q_gcd 14 = .ok (.lload_n 2, 1) := by decide +kernel
theorem d_q_gcd_15 : decode b_q_gcd 15 = .ok (.lconst 0, 1) := by decide +kernel
theorem d_q_gcd_16 : decode b_q_gcd 16 = .ok (.lcmp, 1) := by decide +kernel
theorem d_q_gcd_17 : decode b_q_gcd 17 = .ok (.ifCond .ge (8), 3) := by decide +kernel
theorem d_q_gcd_20 : decode b_q_gcd 20 = .ok (.lload_n 2, 1) := by decide +kernel
theorem d_q_gcd_21 : decode b_q_gcd 21 = .ok (.lneg, 1) := by decide +kernel
theorem d_q_gcd_22 : decode b_q_gcd 22 = .ok (.goto (4), 3) := by decide +kernel
theorem d_q_gcd_25 : decode b_q_gcd 25 = .ok (.lload_n 2, 1) := by decide +kernel
theorem d_q_gcd_26 : decode b_q_gcd 26 = .ok (.lstore 6, 2) := by decide +kernel
theorem d_q_gcd_28 : decode b_q_gcd 28 = .ok (.lload 6, 2) := by decide +kernel
theorem d_q_gcd_30 : decode b_q_gcd 30 = .ok (.lconst 0, 1) := by decide +kernel
theorem d_q_gcd_31 : decode b_q_gcd 31 = .ok (.lcmp, 1) := by decide +kernel
theorem d_q_gcd_32 : decode b_q_gcd 32 = .ok (.ifCond .eq (21), 3) := by decide +kernel
theorem d_q_gcd_35 : decode b_q_gcd 35 = .ok (.lload 4, 2) := by decide +kernel
theorem d_q_gcd_37 : decode b_q_gcd 37 = .ok (.lload 6, 2) := by decide +kernel
theorem d_q_gcd_39 : decode b_q_gcd 39 = .ok (.lrem, 1) := by decide +kernel
theorem d_q_gcd_40 : decode b_q_gcd 40 = .ok (.lstore 8, 2) := by decide +kernel
theorem d_q_gcd_42 : decode b_q_gcd 42 = .ok (.lload 6, 2) := by decide +kernel
theorem d_q_gcd_44 : decode b_q_gcd 44 = .ok (.lstore 4, 2) := by decide +kernel
theorem d_q_gcd_46 : decode b_q_gcd 46 = .ok (.lload 8, 2) := by decide +kernel
theorem d_q_gcd_48 : decode b_q_gcd 48 = .ok (.lstore 6, 2) := by decide +kernel
theorem d_q_gcd_50 : decode b_q_gcd 50 = .ok (.goto (-22), 3) := by decide +kernel
theorem d_q_gcd_53 : decode b_q_gcd 53 = .ok (.lload 4, 2) := by decide +kernel
theorem d_q_gcd_55 : decode b_q_gcd 55 = .ok (.lreturn, 1) := by decide +kernel
set_option maxHeartbeats 4000000 in
set_option maxRecDepth 100000 in
theorem j_q_gcd_28 {p : Program} {l : Launch} {e : Env} {s : State} {m : MethodId} {args : Array Value} {below : List Frame} {meth : Method} {c : Code} {D : va_G} {cA : Nat → ClassId} {base : Nat} {r : Int64} {w' : WW} (C : cx b_q_gcd (some .long) 10 y_q_gcd.cls "gcd" p s m args meth c D cA base)   : ∀ n : Nat, ∀ (y4 : Int64) (y6 : Int64) (w : WW), f_q_gcd_28 n y4 y6 w = some (r, w') → ∀ (H : Heap) (locs : List Loc) (ls : Array Slot), wo_S D cls cA base s w H locs → lv_has ls 10 [(4, .long y4), (6, .long y6)] → W p l e rm_q_gcd s m args below meth c H locs 0 0 (MQ below (wo_Q D cls cA base (some (.long r)) w') args s rm_q_gcd.cells rm_q_gcd.slots (wo_B base)) (F0 m 28 ls []) := by
  obtain ⟨hx, hb, hr, hml, hown, hts, hlk, hnm, hK, hG⟩ := id C
  intro n
  induction n with
  | zero => intro y4 y6 w h; cases h
  | succ n ih =>
    intro y4 y6 w h H locs ls hW hl
    rw [f_q_gcd_28] at h
    refine lv_lload hx hb d_q_gcd_28 (lv_at hl 1 rfl) ?_
    refine lv_lconst (v := (0 : Int64)) hx hb d_q_gcd_30 (by decide) ?_
    refine lc_eq (tgt := 53) hx hb d_q_gcd_31 d_q_gcd_32 (by decide) (fun c3 => ?_) (fun c3 => ?_)
    · rw [if_pos c3] at h
      refine lv_lload hx hb d_q_gcd_53 (lv_at hl 0 rfl) ?_
      cases h
      exact wo_lret hx hb hr hlk hW d_q_gcd_55
    · rw [if_neg c3] at h
      refine lv_lload hx hb d_q_gcd_35 (lv_at hl 0 rfl) ?_
      refine lv_lload hx hb d_q_gcd_37 (lv_at hl 1 rfl) ?_
      replace h := its h
      obtain ⟨c4, h⟩ := h
      refine lv_lrem hx hb d_q_gcd_39 c4 ?_
      refine lv_lstore (lv' := [(8, .long (y4 - y4 / y6 * y6)), (4, .long y4), (6, .long y6)]) hx hb d_q_gcd_40 hl (by decide) rfl (fun ls hl => ?_)
      refine lv_lload hx hb d_q_gcd_42 (lv_at hl 2 rfl) ?_
      refine lv_lstore (lv' := [(4, .long y6), (8, .long (y4 - y4 / y6 * y6)), (6, .long y6)]) hx hb d_q_gcd_44 hl (by decide) rfl (fun ls hl => ?_)
      refine lv_lload hx hb d_q_gcd_46 (lv_at hl 1 rfl) ?_
      refine lv_lstore (lv' := [(6, .long (y4 - y4 / y6 * y6)), (4, .long y6), (8, .long (y4 - y4 / y6 * y6))]) hx hb d_q_gcd_48 hl (by decide) rfl (fun ls hl => ?_)
      refine lv_goto (tgt := 28) hx hb d_q_gcd_50 (by decide) ?_
      exact ih y6 (y4 - y4 / y6 * y6) w h _ _ _ hW (lv_sub hl [1, 0] rfl)
set_option maxHeartbeats 4000000 in
set_option maxRecDepth 100000 in
theorem j_q_gcd_26 {p : Program} {l : Launch} {e : Env} {s : State} {m : MethodId} {args : Array Value} {below : List Frame} {meth : Method} {c : Code} {D : va_G} {cA : Nat → ClassId} {base : Nat} {r : Int64} {w' : WW} (C : cx b_q_gcd (some .long) 10 y_q_gcd.cls "gcd" p s m args meth c D cA base)   : ∀ (y4 : Int64) (z0 : Int64) (w : WW), f_q_gcd_26 y4 z0 w = some (r, w') → ∀ (H : Heap) (locs : List Loc) (ls : Array Slot), wo_S D cls cA base s w H locs → lv_has ls 10 [(4, .long y4)] → W p l e rm_q_gcd s m args below meth c H locs 0 0 (MQ below (wo_Q D cls cA base (some (.long r)) w') args s rm_q_gcd.cells rm_q_gcd.slots (wo_B base)) (F0 m 26 ls [.long z0]) := by
  obtain ⟨hx, hb, hr, hml, hown, hts, hlk, hnm, hK, hG⟩ := id C
  intro y4 z0 w h H locs ls hW hl
  unfold f_q_gcd_26 at h
  refine lv_lstore (lv' := [(6, .long z0), (4, .long y4)]) hx hb d_q_gcd_26 hl (by decide) rfl (fun ls hl => ?_)
  exact j_q_gcd_28 C KK y4 z0 w h _ _ _ hW (lv_sub hl [1, 0] rfl)
set_option maxHeartbeats 4000000 in
set_option maxRecDepth 100000 in
theorem j_q_gcd_12 {p : Program} {l : Launch} {e : Env} {s : State} {m : MethodId} {args : Array Value} {below : List Frame} {meth : Method} {c : Code} {D : va_G} {cA : Nat → ClassId} {base : Nat} {r : Int64} {w' : WW} (C : cx b_q_gcd (some .long) 10 y_q_gcd.cls "gcd" p s m args meth c D cA base)   : ∀ (y2 : Int64) (z0 : Int64) (w : WW), f_q_gcd_12 y2 z0 w = some (r, w') → ∀ (H : Heap) (locs : List Loc) (ls : Array Slot), wo_S D cls cA base s w H locs → lv_has ls 10 [(2, .long y2)] → W p l e rm_q_gcd s m args below meth c H locs 0 0 (MQ below (wo_Q D cls cA base (some (.long r)) w') args s rm_q_gcd.cells rm_q_gcd.slots (wo_B base)) (F0 m 12 ls [.long z0]) := by
  obtain ⟨hx, hb, hr, hml, hown, hts, hlk, hnm, hK, hG⟩ := id C
  intro y2 z0 w h H locs ls hW hl
  unfold f_q_gcd_12 at h
  refine lv_lstore (lv' := [(4, .long z0), (2, .long y2)]) hx hb d_q_gcd_12 hl (by decide) rfl (fun ls hl => ?_)
  refine lv_lload_n hx hb d_q_gcd_14 rfl (lv_at hl 1 rfl) ?_
  refine lv_lconst (v := (0 : Int64)) hx hb d_q_gcd_15 (by decide) ?_
  refine lc_ge (tgt := 25) hx hb d_q_gcd_16 d_q_gcd_17 (by decide) (fun c2 => ?_) (fun c2 => ?_)
  · rw [if_pos c2] at h
    refine lv_lload_n hx hb d_q_gcd_25 rfl (lv_at hl 1 rfl) ?_
    exact j_q_gcd_26 C z0 y2 w h _ _ _ hW (lv_sub hl [0] rfl)
  · rw [if_neg c2] at h
    refine lv_lload_n hx hb d_q_gcd_20 rfl (lv_at hl 1 rfl) ?_
    refine lv_lneg hx hb d_q_gcd_21 ?_
    refine lv_goto (tgt := 26) hx hb d_q_gcd_22 (by decide) ?_
    exact j_q_gcd_26 C z0 (-y2) w h _ _ _ hW (lv_sub hl [0] rfl)
set_option maxHeartbeats 4000000 in
set_option maxRecDepth 100000 in
theorem c_q_gcd (l : Launch) (D : va_G) (cA : Nat → ClassId) (base : Nat) {a0 : Int64} {a2 : Int64} {w w' : WW} {r : Int64} (h : f_q_gcd a0 a2 w = some (r, w')) : mt l D cls (wo_tys cA) cA base y_q_gcd (Cond.code y_q_gcd b_q_gcd 10 (some .long) :: gt) rm_q_gcd [.long a0, .long a2] w (some (.long r)) w' rm_q_gcd.cells rm_q_gcd.slots := by
  refine mt_start (by decide) (Nat.le_of_ble_eq_true rfl) ?_
  intro p e s m below meth c ls hx hb hr hml hown hts hlk hnm hK hG hW hl
  have C : cx b_q_gcd (some .long) 10 y_q_gcd.cls "gcd" p s m [.long a0, .long a2].toArray meth c D cA base := ⟨hx, hb, hr, hml, hown, hts, hlk, hnm, hK, hG⟩
  have hl : lv_has ls 10 [(0, .long a0), (2, .long a2)] := hl
  unfold f_q_gcd at h
  refine lv_lload_n hx hb d_q_gcd_0 rfl (lv_at hl 0 rfl) ?_
  refine lv_lconst (v := (0 : Int64)) hx hb d_q_gcd_1 (by decide) ?_
  refine lc_ge (tgt := 11) hx hb d_q_gcd_2 d_q_gcd_3 (by decide) (fun c1 => ?_) (fun c1 => ?_)
  · rw [if_pos c1] at h
    refine lv_lload_n hx hb d_q_gcd_11 rfl (lv_at hl 0 rfl) ?_
    exact j_q_gcd_12 C a2 a0 w h _ _ _ hW (lv_sub hl [1] rfl)
  · rw [if_neg c1] at h
    refine lv_lload_n hx hb d_q_gcd_6 rfl (lv_at hl 0 rfl) ?_
    refine lv_lneg hx hb d_q_gcd_7 ?_
    refine lv_goto (tgt := 12) hx hb d_q_gcd_8 (by decide) ?_
    exact j_q_gcd_12 C a2 (-a0) w h _ _ _ hW (lv_sub hl [1] rfl)
theorem cv_q_393 {p : Program} {l : Launch} {e : Env} {R : Room} {s : State} {m : MethodId} {args : Array Value} {below : List Frame} {meth : Method} {c : Code} {H : Heap} {locs : List Loc} {cells slots : Nat} {Q : State → Prop} {D : va_G} {cA : Nat → ClassId} {base : Nat} {w w' : WW} {cc : ByteArray} {pc nL : Nat} {ls : Array Slot} {rest st0 As : List Value} {ov : Option Value} {b : Nat} (hx : p.tables.exec = Jvm.exec) (hb : c.code = cc) (hml : c.maxLocals = nL) (hown : s.vm.findClass Rc_q = some m.cls) (hts : ∀ w ∈ gt, w.before args s = true) (hK : va_K D cls (wo_tys cA) s) (hG : wo_G cA base s) (hW : wo_S D cls cA base s w H locs) (hM : mt l D cls (wo_tys cA) cA base y_q_none (Cond.code y_q_none b_q_none 2 (none) :: gt) rm_q_none (.ref (base + b) :: As) w ov w' rm_q_none.cells rm_q_none.slots) (hkb : kb w b 9 = true) (hR : rm_q_none.frames + 1 ≤ R.frames ∧ 8 + (2 + 11) + rm_q_none.locals ≤ R.locals) (hf : cells + rm_q_none.cells ≤ R.cells ∧ slots + rm_q_none.slots ≤ R.slots) (hn : As.length = 1) (hsz : ls.size = nL) (hst : st0 = As.reverse ++ .ref (base + b) :: rest) (hcat : (rest.map fun v => v.category).sum ≤ 8) (hdg : decode cc pc = .ok (.invokevirtual 393, 3)) (kk : ∀ (H1 : Heap) (locs1 : List Loc), wo_S D cls cA base s w' H1 locs1 → W p l e R s m args below meth c H1 locs1 (cells + rm_q_none.cells) (slots + rm_q_none.slots) Q (F0 m (pc + 3) ls (ov.toList ++ rest))) : W p l e R s m args below meth c H locs cells slots Q (F0 m pc ls st0) :=
  wo_callV (C := Rc_q) hx hb hml hown hts hK hG hW hM hkb rfl (gt_of (i := 1577) (by decide +kernel) (by decide +kernel)) (gt_of (i := 1579) (by decide +kernel) (by decide +kernel)) (gt_sel (i := 87) (by decide +kernel) (by decide +kernel)) (gt_of (i := 10) (by decide +kernel) (by decide +kernel)) (gt_of (i := 1580) (by decide +kernel) (by decide +kernel)) (by decide +kernel) hR hf hn hsz hst hcat hdg kk
theorem cv_q_396 {p : Program} {l : Launch} {e : Env} {R : Room} {s : State} {m : MethodId} {args : Array Value} {below : List Frame} {meth : Method} {c : Code} {H : Heap} {locs : List Loc} {cells slots : Nat} {Q : State → Prop} {D : va_G} {cA : Nat → ClassId} {base : Nat} {w w' : WW} {cc : ByteArray} {pc nL : Nat} {ls : Array Slot} {rest st0 As : List Value} {ov : Option Value} {b : Nat} (hx : p.tables.exec = Jvm.exec) (hb : c.code = cc) (hml : c.maxLocals = nL) (hown : s.vm.findClass Rc_q = some m.cls) (hts : ∀ w ∈ gt, w.before args s = true) (hK : va_K D cls (wo_tys cA) s) (hG : wo_G cA base s) (hW : wo_S D cls cA base s w H locs) (hM : mt l D cls (wo_tys cA) cA base y_q_put4 (Cond.code y_q_put4 b_q_put4 10 (none) :: gt) rm_q_put4 (.ref (base + b) :: As) w ov w' rm_q_put4.cells rm_q_put4.slots) (hkb : kb w b 9 = true) (hR : rm_q_put4.frames + 1 ≤ R.frames ∧ 8 + (10 + 11) + rm_q_put4.locals ≤ R.locals) (hf : cells + rm_q_put4.cells ≤ R.cells ∧ slots + rm_q_put4.slots ≤ R.slots) (hn : As.length = 5) (hsz : ls.size = nL) (hst : st0 = As.reverse ++ .ref (base + b) :: rest) (hcat : (rest.map fun v => v.category).sum ≤ 8) (hdg : decode cc pc = .ok (.invokevirtual 396, 3)) (kk : ∀ (H1 : Heap) (locs1 : List Loc), wo_S D cls cA base s w' H1 locs1 → W p l e R s m args below meth c H1 locs1 (cells + rm_q_put4.cells) (slots + rm_q_put4.slots) Q (F0 m (pc + 3) ls (ov.toList ++ rest))) : W p l e R s m args below meth c H locs cells slots Q (F0 m pc ls st0) :=
  wo_callV (C := Rc_q) hx hb hml hown hts hK hG hW hM hkb rfl (gt_of (i := 1582) (by decide +kernel) (by decide +kernel)) (gt_of (i := 1584) (by decide +kernel) (by decide +kernel)) (gt_sel (i := 88) (by decide +kernel) (by decide +kernel)) (gt_of (i := 10) (by decide +kernel) (by decide +kernel)) (gt_of (i := 1585) (by decide +kernel) (by decide +kernel)) (by decide +kernel) hR hf hn hsz hst hcat hdg kk
abbrev b_q_put : ByteArray := prog_11_method_53_code
def y_q_put : MethodName := ⟨"AlarmForgeModel", "put", "(IJJJJ)V"⟩
def rm_q_put : Room := { frames := 1, cells := 0, slots := 0, locals := 29 }
theorem d_q_put_0 : decode b_q_put 0 = .ok (.lload_n 2, 1) := by decide +kernel
theorem d_q_put_1 : decode b_q_put 1 = .ok (.ldc2_w 340, 3) := by decide +kernel
theorem d_q_put_4 : decode b_q_put 4 = .ok (.lcmp, 1) := by decide +kernel
theorem d_q_put_5 : decode b_q_put 5 = .ok (.ifCond .ge (9), 3) := by decide +kernel
theorem d_q_put_8 : decode b_q_put 8 = .ok (.ldc2_w 340, 3) := by decide +kernel
theorem d_q_put_11 : decode b_q_put 11 = .ok (.goto (4), 3) := by decide +kernel
theorem d_q_put_14 : decode b_q_put 14 = .ok (.lload_n 2, 1) := by decide +kernel
theorem d_q_put_15 : decode b_q_put 15 = .ok (.lstore 10, 2) := by decide +kernel
theorem d_q_put_17 : decode b_q_put 17 = .ok (.lload 4, 2) := by decide +kernel
theorem d_q_put_19 : decode b_q_put 19 = .ok (.ldc2_w 342, 3) := by decide +kernel
theorem d_q_put_22 : decode b_q_put 22 = .ok (.lcmp, 1) := by decide +kernel
theorem d_q_put_23 : decode b_q_put 23 = .ok (.ifCond .le (9), 3) := by decide +kernel
theorem d_q_put_26 : decode b_q_put 26 = .ok (.ldc2_w 342, 3) := by decide +kernel
theorem d_q_put_29 : decode b_q_put 29 = .ok (.goto (5), 3) := by decide +kernel
theorem d_q_put_32 : decode b_q_put 32 = .ok (.lload 4, 2) := by decide +kernel
theorem d_q_put_34 : decode b_q_put 34 = .ok (.lstore 12, 2) := by decide +kernel
theorem d_q_put_36 : decode b_q_put 36 = .ok (.lload 6, 2) := by decide +kernel
theorem d_q_put_38 : decode b_q_put 38 = .ok (.ldc2_w 387, 3) := by decide +kernel
theorem d_q_put_41 : decode b_q_put 41 = .ok (.lcmp, 1) := by decide +kernel
theorem d_q_put_42 : decode b_q_put 42 = .ok (.ifCond .le (7), 3) := by decide +kernel
theorem d_q_put_45 : decode b_q_put 45 = .ok (.lconst 1, 1) := by decide +kernel
theorem d_q_put_46 : decode b_q_put 46 = .ok (.goto (5), 3) := by decide +kernel
theorem d_q_put_49 : decode b_q_put 49 = .ok (.lload 6, 2) := by decide +kernel
theorem d_q_put_51 : decode b_q_put 51 = .ok (.lstore 14, 2) := by decide +kernel
theorem d_q_put_53 : decode b_q_put 53 = .ok (.lload 8, 2) := by decide +kernel
theorem d_q_put_55 : decode b_q_put 55 = .ok (.lload 14, 2) := by decide +kernel
theorem d_q_put_57 : decode b_q_put 57 = .ok (.invokestatic 389, 3) := by decide +kernel
theorem d_q_put_60 : decode b_q_put 60 = .ok (.lstore 16, 2) := by decide +kernel
theorem d_q_put_62 : decode b_q_put 62 = .ok (.lload 14, 2) := by decide +kernel
theorem d_q_put_64 : decode b_q_put 64 = .ok (.lconst 0, 1) := by decide +kernel
theorem d_q_put_65 : decode b_q_put 65 = .ok (.lcmp, 1) := by decide +kernel
theorem d_q_put_66 : decode b_q_put 66 = .ok (.ifCond .ne (36), 3) := by decide +kernel
theorem d_q_put_69 : decode b_q_put 69 = .ok (.lload 16, 2) := by decide +kernel
theorem d_q_put_71 : decode b_q_put 71 = .ok (.lload 10, 2) := by decide +kernel
theorem d_q_put_73 : decode b_q_put 73 = .ok (.lload 12, 2) := by decide +kernel
theorem d_q_put_75 : decode b_q_put 75 = .ok (.invokestatic 155, 3) := by decide +kernel
theorem d_q_put_78 : decode b_q_put 78 = .ok (.ifCond .ne (11), 3) := by decide +kernel
theorem d_q_put_81 : decode b_q_put 81 = .ok (.aload_n 0, 1) := by decide +kernel
theorem d_q_put_82 : decode b_q_put 82 = .ok (.iload_n 1, 1) := by decide +kernel
theorem d_q_put_83 : decode b_q_put 83 = .ok (.invokevirtual 393, 3) := by decide +kernel
theorem d_q_put_86 : decode b_q_put 86 = .ok (.goto (15), 3) := by decide +kernel
theorem d_q_put_89 : decode b_q_put 89 = .ok (.aload_n 0, 1) := by decide +kernel
theorem d_q_put_90 : decode b_q_put 90 = .ok (.iload_n 1, 1) := by decide +kernel
theorem d_q_put_91 : decode b_q_put 91 = .ok (.lload 16, 2) := by decide +kernel
theorem d_q_put_93 : decode b_q_put 93 = .ok (.lload 16, 2) := by decide +kernel
theorem d_q_put_95 : decode b_q_put 95 = .ok (.lconst 0, 1) := by decide +kernel
theorem d_q_put_96 : decode b_q_put 96 = .ok (.lload 16, 2) := by decide +kernel
theorem d_q_put_98 : decode b_q_put 98 = .ok (.invokevirtual 396, 3) := by decide +kernel
theorem d_q_put_101 : decode b_q_put 101 = .ok (.return_, 1) := by decide +kernel
theorem d_q_put_102 : decode b_q_put 102 = .ok (.lload 10, 2) := by decide +kernel
theorem d_q_put_104 : decode b_q_put 104 = .ok (.lload 16, 2) := by decide +kernel
theorem d_q_put_106 : decode b_q_put 106 = .ok (.lload 10, 2) := by decide +kernel
theorem d_q_put_108 : decode b_q_put 108 = .ok (.lsub, 1) := by decide +kernel
theorem d_q_put_109 : decode b_q_put 109 = .ok (.lload 14, 2) := by decide +kernel
theorem d_q_put_111 : decode b_q_put 111 = .ok (.invokestatic 389, 3) := by decide +kernel
theorem d_q_put_114 : decode b_q_put 114 = .ok (.ladd, 1) := by decide +kernel
theorem d_q_put_115 : decode b_q_put 115 = .ok (.lstore 10, 2) := by decide +kernel
theorem d_q_put_117 : decode b_q_put 117 = .ok (.lload 12, 2) := by decide +kernel
theorem d_q_put_119 : decode b_q_put 119 = .ok (.lload 12, 2) := by decide +kernel
theorem d_q_put_121 : decode b_q_put 121 = .ok (.lload 16, 2) := by decide +kernel
theorem d_q_put_123 : decode b_q_put 123 = .ok (.lsub, 1) := by decide +kernel
theorem d_q_put_124 : decode b_q_put 124 = .ok (.lload 14, 2) := by decide +kernel
theorem d_q_put_126 : decode b_q_put 126 = .ok (.invokestatic 389, 3) := by decide +kernel
theorem d_q_put_129 : decode b_q_put 129 = .ok (.lsub, 1) := by decide +kernel
theorem d_q_put_130 : decode b_q_put 130 = .ok (.lstore 12, 2) := by decide +kernel
theorem d_q_put_132 : decode b_q_put 132 = .ok (.lload 10, 2) := by decide +kernel
theorem d_q_put_134 : decode b_q_put 134 = .ok (.lload 12, 2) := by decide +kernel
theorem d_q_put_136 : decode b_q_put 136 = .ok (.lcmp, 1) := by decide +kernel
theorem d_q_put_137 : decode b_q_put 137 = .ok (.ifCond .le (11), 3) := by decide +kernel
theorem d_q_put_140 : decode b_q_put 140 = .ok (.aload_n 0, 1) := by decide +kernel
theorem d_q_put_141 : decode b_q_put 141 = .ok (.iload_n 1, 1) := by decide +kernel
theorem d_q_put_142 : decode b_q_put 142 = .ok (.invokevirtual 393, 3) := by decide +kernel
theorem d_q_put_145 : decode b_q_put 145 = .ok (.goto (39), 3) := by decide +kernel
theorem d_q_put_148 : decode b_q_put 148 = .ok (.lload 10, 2) := by decide +kernel
theorem d_q_put_150 : decode b_q_put 150 = .ok (.lload 12, 2) := by decide +kernel
theorem d_q_put_152 : decode b_q_put 152 = .ok (.lcmp, 1) := by decide +kernel
theorem d_q_put_153 : decode b_q_put 153 = .ok (.ifCond .ne (18), 3) := by decide +kernel
theorem d_q_put_156 : decode b_q_put 156 = .ok (.aload_n 0, 1) := by decide +kernel
theorem d_q_put_157 : decode b_q_put 157 = .ok (.iload_n 1, 1) := by decide +kernel
theorem d_q_put_158 : decode b_q_put 158 = .ok (.lload 10, 2) := by decide +kernel
theorem d_q_put_160 : decode b_q_put 160 = .ok (.lload 10, 2) := by decide +kernel
theorem d_q_put_162 : decode b_q_put 162 = .ok (.lconst 0, 1) := by decide +kernel
theorem d_q_put_163 : decode b_q_put 163 = .ok (.lload 10, 2) := by decide +kernel
theorem d_q_put_165 : decode b_q_put 165 = .ok (.invokevirtual 396, 3) := by decide +kernel
theorem d_q_put_168 : decode b_q_put 168 = .ok (.goto (16), 3) := by decide +kernel
theorem d_q_put_171 : decode b_q_put 171 = .ok (.aload_n 0, 1) := by decide +kernel
theorem d_q_put_172 : decode b_q_put 172 = .ok (.iload_n 1, 1) := by decide +kernel
theorem d_q_put_173 : decode b_q_put 173 = .ok (.lload 10, 2) := by decide +kernel
theorem d_q_put_175 : decode b_q_put 175 = .ok (.lload 12, 2) := by decide +kernel
theorem d_q_put_177 : decode b_q_put 177 = .ok (.lload 14, 2) := by decide +kernel
theorem d_q_put_179 : decode b_q_put 179 = .ok (.lload 16, 2) := by decide +kernel
theorem d_q_put_181 : decode b_q_put 181 = .ok (.invokevirtual 396, 3) := by decide +kernel
theorem d_q_put_184 : decode b_q_put 184 = .ok (.return_, 1) := by decide +kernel
theorem kb_q_put {a0 : Nat} {a1 : Int32} {a2 : Int64} {a4 : Int64} {a6 : Int64} {a8 : Int64} {w : WW} {r : WW} (h : f_q_put a0 a1 a2 a4 a6 a8 w = some r) : kb w a0 9 = true := (its h).1
set_option maxHeartbeats 4000000 in
set_option maxRecDepth 100000 in
theorem j_q_put_184 {p : Program} {l : Launch} {e : Env} {s : State} {m : MethodId} {args : Array Value} {below : List Frame} {meth : Method} {c : Code} {D : va_G} {cA : Nat → ClassId} {base : Nat} {w' : WW} (C : cx b_q_put (none) 18 y_q_put.cls "put" p s m args meth c D cA base)   : ∀  (w : WW), f_q_put_184  w = some w' → ∀ (H : Heap) (locs : List Loc) (ls : Array Slot), wo_S D cls cA base s w H locs → lv_has ls 18 [] → W p l e rm_q_put s m args below meth c H locs 0 0 (MQ below (wo_Q D cls cA base none w') args s rm_q_put.cells rm_q_put.slots (wo_B base)) (F0 m 184 ls []) := by
  obtain ⟨hx, hb, hr, hml, hown, hts, hlk, hnm, hK, hG⟩ := id C
  intro  w h H locs ls hW hl
  unfold f_q_put_184 at h
  cases h
  exact wo_vret hx hb hr hlk hW d_q_put_184
set_option maxHeartbeats 4000000 in
set_option maxRecDepth 100000 in
theorem j_q_put_101 {p : Program} {l : Launch} {e : Env} {s : State} {m : MethodId} {args : Array Value} {below : List Frame} {meth : Method} {c : Code} {D : va_G} {cA : Nat → ClassId} {base : Nat} {w' : WW} (C : cx b_q_put (none) 18 y_q_put.cls "put" p s m args meth c D cA base)   : ∀  (w : WW), f_q_put_101  w = some w' → ∀ (H : Heap) (locs : List Loc) (ls : Array Slot), wo_S D cls cA base s w H locs → lv_has ls 18 [] → W p l e rm_q_put s m args below meth c H locs 0 0 (MQ below (wo_Q D cls cA base none w') args s rm_q_put.cells rm_q_put.slots (wo_B base)) (F0 m 101 ls []) := by
  obtain ⟨hx, hb, hr, hml, hown, hts, hlk, hnm, hK, hG⟩ := id C
  intro  w h H locs ls hW hl
  unfold f_q_put_101 at h
  cases h
  exact wo_vret hx hb hr hlk hW d_q_put_101
set_option maxHeartbeats 4000000 in
set_option maxRecDepth 100000 in
theorem j_q_put_51 {p : Program} {l : Launch} {e : Env} {s : State} {m : MethodId} {args : Array Value} {below : List Frame} {meth : Method} {c : Code} {D : va_G} {cA : Nat → ClassId} {base : Nat} {w' : WW} (C : cx b_q_put (none) 18 y_q_put.cls "put" p s m args meth c D cA base)   : ∀ (y0 : Nat) (y1 : Int32) (y8 : Int64) (y10 : Int64) (y12 : Int64) (z0 : Int64) (w : WW), f_q_put_51 y0 y1 y8 y10 y12 z0 w = some w' → ∀ (H : Heap) (locs : List Loc) (ls : Array Slot), wo_S D cls cA base s w H locs → lv_has ls 18 [(0, .ref (base + y0)), (1, .int y1), (8, .long y8), (10, .long y10), (12, .long y12)] → W p l e rm_q_put s m args below meth c H locs 0 0 (MQ below (wo_Q D cls cA base none w') args s rm_q_put.cells rm_q_put.slots (wo_B base)) (F0 m 51 ls [.long z0]) := by
  obtain ⟨hx, hb, hr, hml, hown, hts, hlk, hnm, hK, hG⟩ := id C
  intro y0 y1 y8 y10 y12 z0 w h H locs ls hW hl
  unfold f_q_put_51 at h
  refine lv_lstore (lv' := [(14, .long z0), (0, .ref (base + y0)), (1, .int y1), (8, .long y8), (10, .long y10), (12, .long y12)]) hx hb d_q_put_51 hl (by decide) rfl (fun ls hl => ?_)
  refine lv_lload hx hb d_q_put_53 (lv_at hl 3 rfl) ?_
  refine lv_lload hx hb d_q_put_55 (lv_at hl 0 rfl) ?_
  replace h := bs2 h
  obtain ⟨x5, w4, hw4, h⟩ := h
  refine cs_q_389 (As := [.long y8, .long z0]) (rest := []) hx hb hml hown hts hK hG hW (c_q_left_JJ l D cA base hw4) ⟨Nat.le_of_ble_eq_true rfl, Nat.le_of_ble_eq_true rfl⟩ ⟨Nat.le_of_ble_eq_true rfl, Nat.le_of_ble_eq_true rfl⟩ rfl hl.1 rfl (Nat.le_of_ble_eq_true rfl) d_q_put_57 (fun H locs hW => ?_)
  refine lv_lstore (lv' := [(16, .long x5), (14, .long z0), (0, .ref (base + y0)), (1, .int y1), (8, .long y8), (10, .long y10), (12, .long y12)]) hx hb d_q_put_60 hl (by decide) rfl (fun ls hl => ?_)
  refine lv_lload hx hb d_q_put_62 (lv_at hl 1 rfl) ?_
  refine lv_lconst (v := (0 : Int64)) hx hb d_q_put_64 (by decide) ?_
  refine lc_ne (tgt := 102) hx hb d_q_put_65 d_q_put_66 (by decide) (fun c6 => ?_) (fun c6 => ?_)
  · rw [if_neg c6] at h
    refine lv_lload hx hb d_q_put_102 (lv_at hl 5 rfl) ?_
    refine lv_lload hx hb d_q_put_104 (lv_at hl 0 rfl) ?_
    refine lv_lload hx hb d_q_put_106 (lv_at hl 5 rfl) ?_
    refine lv_lsub hx hb d_q_put_108 ?_
    refine lv_lload hx hb d_q_put_109 (lv_at hl 1 rfl) ?_
    replace h := bs2 h
    obtain ⟨x8, w7, hw7, h⟩ := h
    refine cs_q_389 (As := [.long (x5 - y10), .long z0]) (rest := [.long y10]) hx hb hml hown hts hK hG hW (c_q_left_JJ l D cA base hw7) ⟨Nat.le_of_ble_eq_true rfl, Nat.le_of_ble_eq_true rfl⟩ ⟨Nat.le_of_ble_eq_true rfl, Nat.le_of_ble_eq_true rfl⟩ rfl hl.1 rfl (Nat.le_of_ble_eq_true rfl) d_q_put_111 (fun H locs hW => ?_)
    refine lv_ladd hx hb d_q_put_114 ?_
    refine lv_lstore (lv' := [(10, .long (y10 + x8)), (16, .long x5), (14, .long z0), (0, .ref (base + y0)), (1, .int y1), (8, .long y8), (12, .long y12)]) hx hb d_q_put_115 hl (by decide) rfl (fun ls hl => ?_)
    refine lv_lload hx hb d_q_put_117 (lv_at hl 6 rfl) ?_
    refine lv_lload hx hb d_q_put_119 (lv_at hl 6 rfl) ?_
    refine lv_lload hx hb d_q_put_121 (lv_at hl 1 rfl) ?_
    refine lv_lsub hx hb d_q_put_123 ?_
    refine lv_lload hx hb d_q_put_124 (lv_at hl 2 rfl) ?_
    replace h := bs2 h
    obtain ⟨x10, w9, hw9, h⟩ := h
    refine cs_q_389 (As := [.long (y12 - x5), .long z0]) (rest := [.long y12]) hx hb hml hown hts hK hG hW (c_q_left_JJ l D cA base hw9) ⟨Nat.le_of_ble_eq_true rfl, Nat.le_of_ble_eq_true rfl⟩ ⟨Nat.le_of_ble_eq_true rfl, Nat.le_of_ble_eq_true rfl⟩ rfl hl.1 rfl (Nat.le_of_ble_eq_true rfl) d_q_put_126 (fun H locs hW => ?_)
    refine lv_lsub hx hb d_q_put_129 ?_
    refine lv_lstore (lv' := [(12, .long (y12 - x10)), (10, .long (y10 + x8)), (16, .long x5), (14, .long z0), (0, .ref (base + y0)), (1, .int y1), (8, .long y8)]) hx hb d_q_put_130 hl (by decide) rfl (fun ls hl => ?_)
    refine lv_lload hx hb d_q_put_132 (lv_at hl 1 rfl) ?_
    refine lv_lload hx hb d_q_put_134 (lv_at hl 0 rfl) ?_
    refine lc_le (tgt := 148) hx hb d_q_put_136 d_q_put_137 (by decide) (fun c11 => ?_) (fun c11 => ?_)
    · rw [if_pos c11] at h
      refine lv_lload hx hb d_q_put_148 (lv_at hl 1 rfl) ?_
      refine lv_lload hx hb d_q_put_150 (lv_at hl 0 rfl) ?_
      refine lc_ne (tgt := 171) hx hb d_q_put_152 d_q_put_153 (by decide) (fun c12 => ?_) (fun c12 => ?_)
      · rw [if_neg c12] at h
        refine lv_aload_n hx hb d_q_put_171 rfl (lv_at hl 4 rfl) ?_
        refine lv_iload_n hx hb d_q_put_172 rfl (lv_at hl 5 rfl) ?_
        refine lv_lload hx hb d_q_put_173 (lv_at hl 1 rfl) ?_
        refine lv_lload hx hb d_q_put_175 (lv_at hl 0 rfl) ?_
        refine lv_lload hx hb d_q_put_177 (lv_at hl 3 rfl) ?_
        refine lv_lload hx hb d_q_put_179 (lv_at hl 2 rfl) ?_
        replace h := bs h
        obtain ⟨w13, hw13, h⟩ := h
        refine cv_q_396 (As := [.int y1, .long (y10 + x8), .long (y12 - x10), .long z0, .long x5]) (rest := []) hx hb hml hown hts hK hG hW (c_q_put4 l D cA base hw13) (kb_q_put4 hw13) ⟨Nat.le_of_ble_eq_true rfl, Nat.le_of_ble_eq_true rfl⟩ ⟨Nat.le_of_ble_eq_true rfl, Nat.le_of_ble_eq_true rfl⟩ rfl hl.1 rfl (Nat.le_of_ble_eq_true rfl) d_q_put_181 (fun H locs hW => ?_)
        exact j_q_put_184 C w13 h _ _ _ hW (lv_sub hl [] rfl)
      · rw [if_pos c12] at h
        refine lv_aload_n hx hb d_q_put_156 rfl (lv_at hl 4 rfl) ?_
        refine lv_iload_n hx hb d_q_put_157 rfl (lv_at hl 5 rfl) ?_
        refine lv_lload hx hb d_q_put_158 (lv_at hl 1 rfl) ?_
        refine lv_lload hx hb d_q_put_160 (lv_at hl 1 rfl) ?_
        refine lv_lconst (v := (0 : Int64)) hx hb d_q_put_162 (by decide) ?_
        refine lv_lload hx hb d_q_put_163 (lv_at hl 1 rfl) ?_
        replace h := bs h
        obtain ⟨w14, hw14, h⟩ := h
        refine cv_q_396 (As := [.int y1, .long (y10 + x8), .long (y10 + x8), .long (0 : Int64), .long (y10 + x8)]) (rest := []) hx hb hml hown hts hK hG hW (c_q_put4 l D cA base hw14) (kb_q_put4 hw14) ⟨Nat.le_of_ble_eq_true rfl, Nat.le_of_ble_eq_true rfl⟩ ⟨Nat.le_of_ble_eq_true rfl, Nat.le_of_ble_eq_true rfl⟩ rfl hl.1 rfl (Nat.le_of_ble_eq_true rfl) d_q_put_165 (fun H locs hW => ?_)
        refine lv_goto (tgt := 184) hx hb d_q_put_168 (by decide) ?_
        exact j_q_put_184 C w14 h _ _ _ hW (lv_sub hl [] rfl)
    · rw [if_neg c11] at h
      refine lv_aload_n hx hb d_q_put_140 rfl (lv_at hl 4 rfl) ?_
      refine lv_iload_n hx hb d_q_put_141 rfl (lv_at hl 5 rfl) ?_
      replace h := bs h
      obtain ⟨w15, hw15, h⟩ := h
      refine cv_q_393 (As := [.int y1]) (rest := []) hx hb hml hown hts hK hG hW (c_q_none l D cA base hw15) (kb_q_none hw15) ⟨Nat.le_of_ble_eq_true rfl, Nat.le_of_ble_eq_true rfl⟩ ⟨Nat.le_of_ble_eq_true rfl, Nat.le_of_ble_eq_true rfl⟩ rfl hl.1 rfl (Nat.le_of_ble_eq_true rfl) d_q_put_142 (fun H locs hW => ?_)
      refine lv_goto (tgt := 184) hx hb d_q_put_145 (by decide) ?_
      exact j_q_put_184 C w15 h _ _ _ hW (lv_sub hl [] rfl)
  · rw [if_pos c6] at h
    refine lv_lload hx hb d_q_put_69 (lv_at hl 0 rfl) ?_
    refine lv_lload hx hb d_q_put_71 (lv_at hl 5 rfl) ?_
    refine lv_lload hx hb d_q_put_73 (lv_at hl 6 rfl) ?_
    replace h := bs2 h
    obtain ⟨x17, w16, hw16, h⟩ := h
    refine cs_q_155 (As := [.long x5, .long y10, .long y12]) (rest := []) hx hb hml hown hts hK hG hW (c_q_in l D cA base hw16) ⟨Nat.le_of_ble_eq_true rfl, Nat.le_of_ble_eq_true rfl⟩ ⟨Nat.le_of_ble_eq_true rfl, Nat.le_of_ble_eq_true rfl⟩ rfl hl.1 rfl (Nat.le_of_ble_eq_true rfl) d_q_put_75 (fun H locs hW => ?_)
    refine lv_if_ne (tgt := 89) hx hb d_q_put_78 (by decide) (fun c18 => ?_) (fun c18 => ?_)
    · rw [if_neg c18] at h
      refine lv_aload_n hx hb d_q_put_89 rfl (lv_at hl 2 rfl) ?_
      refine lv_iload_n hx hb d_q_put_90 rfl (lv_at hl 3 rfl) ?_
      refine lv_lload hx hb d_q_put_91 (lv_at hl 0 rfl) ?_
      refine lv_lload hx hb d_q_put_93 (lv_at hl 0 rfl) ?_
      refine lv_lconst (v := (0 : Int64)) hx hb d_q_put_95 (by decide) ?_
      refine lv_lload hx hb d_q_put_96 (lv_at hl 0 rfl) ?_
      replace h := bs h
      obtain ⟨w19, hw19, h⟩ := h
      refine cv_q_396 (As := [.int y1, .long x5, .long x5, .long (0 : Int64), .long x5]) (rest := []) hx hb hml hown hts hK hG hW (c_q_put4 l D cA base hw19) (kb_q_put4 hw19) ⟨Nat.le_of_ble_eq_true rfl, Nat.le_of_ble_eq_true rfl⟩ ⟨Nat.le_of_ble_eq_true rfl, Nat.le_of_ble_eq_true rfl⟩ rfl hl.1 rfl (Nat.le_of_ble_eq_true rfl) d_q_put_98 (fun H locs hW => ?_)
      exact j_q_put_101 C w19 h _ _ _ hW (lv_sub hl [] rfl)
    · rw [if_pos c18] at h
      refine lv_aload_n hx hb d_q_put_81 rfl (lv_at hl 2 rfl) ?_
      refine lv_iload_n hx hb d_q_put_82 rfl (lv_at hl 3 rfl) ?_
      replace h := bs h
      obtain ⟨w20, hw20, h⟩ := h
      refine cv_q_393 (As := [.int y1]) (rest := []) hx hb hml hown hts hK hG hW (c_q_none l D cA base hw20) (kb_q_none hw20) ⟨Nat.le_of_ble_eq_true rfl, Nat.le_of_ble_eq_true rfl⟩ ⟨Nat.le_of_ble_eq_true rfl, Nat.le_of_ble_eq_true rfl⟩ rfl hl.1 rfl (Nat.le_of_ble_eq_true rfl) d_q_put_83 (fun H locs hW => ?_)
      refine lv_goto (tgt := 101) hx hb d_q_put_86 (by decide) ?_
      exact j_q_put_101 C w20 h _ _ _ hW (lv_sub hl [] rfl)
set_option maxHeartbeats 4000000 in
set_option maxRecDepth 100000 in
theorem j_q_put_34 {p : Program} {l : Launch} {e : Env} {s : State} {m : MethodId} {args : Array Value} {below : List Frame} {meth : Method} {c : Code} {D : va_G} {cA : Nat → ClassId} {base : Nat} {w' : WW} (C : cx b_q_put (none) 18 y_q_put.cls "put" p s m args meth c D cA base)   : ∀ (y0 : Nat) (y1 : Int32) (y6 : Int64) (y8 : Int64) (y10 : Int64) (z0 : Int64) (w : WW), f_q_put_34 y0 y1 y6 y8 y10 z0 w = some w' → ∀ (H : Heap) (locs : List Loc) (ls : Array Slot), wo_S D cls cA base s w H locs → lv_has ls 18 [(0, .ref (base + y0)), (1, .int y1), (6, .long y6), (8, .long y8), (10, .long y10)] → W p l e rm_q_put s m args below meth c H locs 0 0 (MQ below (wo_Q D cls cA base none w') args s rm_q_put.cells rm_q_put.slots (wo_B base)) (F0 m 34 ls [.long z0]) := by
  obtain ⟨hx, hb, hr, hml, hown, hts, hlk, hnm, hK, hG⟩ := id C
  intro y0 y1 y6 y8 y10 z0 w h H locs ls hW hl
  unfold f_q_put_34 at h
  refine lv_lstore (lv' := [(12, .long z0), (0, .ref (base + y0)), (1, .int y1), (6, .long y6), (8, .long y8), (10, .long y10)]) hx hb d_q_put_34 hl (by decide) rfl (fun ls hl => ?_)
  refine lv_lload hx hb d_q_put_36 (lv_at hl 3 rfl) ?_
  refine lv_ldc2 (own := Rc_q) (v := (65536 : Int64)) hx hb hown (hts (.constantLong "AlarmForgeModel" 387 (65536 : Int64)) (gt_of (i := 1636) (by decide +kernel) (by decide +kernel))) d_q_put_38 ?_
  refine lc_le (tgt := 49) hx hb d_q_put_41 d_q_put_42 (by decide) (fun c3 => ?_) (fun c3 => ?_)
  · rw [if_pos c3] at h
    refine lv_lload hx hb d_q_put_49 (lv_at hl 3 rfl) ?_
    exact j_q_put_51 C y0 y1 y8 y10 z0 y6 w h _ _ _ hW (lv_sub hl [1, 2, 4, 5, 0] rfl)
  · rw [if_neg c3] at h
    refine lv_lconst (v := (1 : Int64)) hx hb d_q_put_45 (by decide) ?_
    refine lv_goto (tgt := 51) hx hb d_q_put_46 (by decide) ?_
    exact j_q_put_51 C y0 y1 y8 y10 z0 (1 : Int64) w h _ _ _ hW (lv_sub hl [1, 2, 4, 5, 0] rfl)
set_option maxHeartbeats 4000000 in
set_option maxRecDepth 100000 in
theorem j_q_put_15 {p : Program} {l : Launch} {e : Env} {s : State} {m : MethodId} {args : Array Value} {below : List Frame} {meth : Method} {c : Code} {D : va_G} {cA : Nat → ClassId} {base : Nat} {w' : WW} (C : cx b_q_put (none) 18 y_q_put.cls "put" p s m args meth c D cA base)   : ∀ (y0 : Nat) (y1 : Int32) (y4 : Int64) (y6 : Int64) (y8 : Int64) (z0 : Int64) (w : WW), f_q_put_15 y0 y1 y4 y6 y8 z0 w = some w' → ∀ (H : Heap) (locs : List Loc) (ls : Array Slot), wo_S D cls cA base s w H locs → lv_has ls 18 [(0, .ref (base + y0)), (1, .int y1), (4, .long y4), (6, .long y6), (8, .long y8)] → W p l e rm_q_put s m args below meth c H locs 0 0 (MQ below (wo_Q D cls cA base none w') args s rm_q_put.cells rm_q_put.slots (wo_B base)) (F0 m 15 ls [.long z0]) := by
  obtain ⟨hx, hb, hr, hml, hown, hts, hlk, hnm, hK, hG⟩ := id C
  intro y0 y1 y4 y6 y8 z0 w h H locs ls hW hl
  unfold f_q_put_15 at h
  refine lv_lstore (lv' := [(10, .long z0), (0, .ref (base + y0)), (1, .int y1), (4, .long y4), (6, .long y6), (8, .long y8)]) hx hb d_q_put_15 hl (by decide) rfl (fun ls hl => ?_)
  refine lv_lload hx hb d_q_put_17 (lv_at hl 3 rfl) ?_
  refine lv_ldc2 (own := Rc_q) (v := (2147483647 : Int64)) hx hb hown (hts (.constantLong "AlarmForgeModel" 342 (2147483647 : Int64)) (gt_of (i := 1554) (by decide +kernel) (by decide +kernel))) d_q_put_19 ?_
  refine lc_le (tgt := 32) hx hb d_q_put_22 d_q_put_23 (by decide) (fun c2 => ?_) (fun c2 => ?_)
  · rw [if_pos c2] at h
    refine lv_lload hx hb d_q_put_32 (lv_at hl 3 rfl) ?_
    exact j_q_put_34 C y0 y1 y6 y8 z0 y4 w h _ _ _ hW (lv_sub hl [1, 2, 4, 5, 0] rfl)
  · rw [if_neg c2] at h
    refine lv_ldc2 (own := Rc_q) (v := (2147483647 : Int64)) hx hb hown (hts (.constantLong "AlarmForgeModel" 342 (2147483647 : Int64)) (gt_of (i := 1554) (by decide +kernel) (by decide +kernel))) d_q_put_26 ?_
    refine lv_goto (tgt := 34) hx hb d_q_put_29 (by decide) ?_
    exact j_q_put_34 C y0 y1 y6 y8 z0 (2147483647 : Int64) w h _ _ _ hW (lv_sub hl [1, 2, 4, 5, 0] rfl)
set_option maxHeartbeats 4000000 in
set_option maxRecDepth 100000 in
theorem c_q_put (l : Launch) (D : va_G) (cA : Nat → ClassId) (base : Nat) {a0 : Nat} {a1 : Int32} {a2 : Int64} {a4 : Int64} {a6 : Int64} {a8 : Int64} {w w' : WW} (h : f_q_put a0 a1 a2 a4 a6 a8 w = some w') : mt l D cls (wo_tys cA) cA base y_q_put (Cond.code y_q_put b_q_put 18 (none) :: gt) rm_q_put [.ref (base + a0), .int a1, .long a2, .long a4, .long a6, .long a8] w none w' rm_q_put.cells rm_q_put.slots := by
  refine mt_start (by decide) (Nat.le_of_ble_eq_true rfl) ?_
  intro p e s m below meth c ls hx hb hr hml hown hts hlk hnm hK hG hW hl
  have C : cx b_q_put (none) 18 y_q_put.cls "put" p s m [.ref (base + a0), .int a1, .long a2, .long a4, .long a6, .long a8].toArray meth c D cA base := ⟨hx, hb, hr, hml, hown, hts, hlk, hnm, hK, hG⟩
  have hl : lv_has ls 18 [(0, .ref (base + a0)), (1, .int a1), (2, .long a2), (4, .long a4), (6, .long a6), (8, .long a8)] := hl
  unfold f_q_put at h
  replace h := its h
  obtain ⟨-, h⟩ := h
  refine lv_lload_n hx hb d_q_put_0 rfl (lv_at hl 2 rfl) ?_
  refine lv_ldc2 (own := Rc_q) (v := (-2147483648 : Int64)) hx hb hown (hts (.constantLong "AlarmForgeModel" 340 (-2147483648 : Int64)) (gt_of (i := 1553) (by decide +kernel) (by decide +kernel))) d_q_put_1 ?_
  refine lc_ge (tgt := 14) hx hb d_q_put_4 d_q_put_5 (by decide) (fun c1 => ?_) (fun c1 => ?_)
  · rw [if_pos c1] at h
    refine lv_lload_n hx hb d_q_put_14 rfl (lv_at hl 2 rfl) ?_
    exact j_q_put_15 C a0 a1 a4 a6 a8 a2 w h _ _ _ hW (lv_sub hl [0, 1, 3, 4, 5] rfl)
  · rw [if_neg c1] at h
    refine lv_ldc2 (own := Rc_q) (v := (-2147483648 : Int64)) hx hb hown (hts (.constantLong "AlarmForgeModel" 340 (-2147483648 : Int64)) (gt_of (i := 1553) (by decide +kernel) (by decide +kernel))) d_q_put_8 ?_
    refine lv_goto (tgt := 15) hx hb d_q_put_11 (by decide) ?_
    exact j_q_put_15 C a0 a1 a4 a6 a8 (-2147483648 : Int64) w h _ _ _ hW (lv_sub hl [0, 1, 3, 4, 5] rfl)
