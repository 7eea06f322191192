/-! Methods as functions, and their contracts (by wip/gen/run.py). -/
abbrev b_q_thrown : ByteArray := prog_11_method_2_code
def y_q_thrown : MethodName := ⟨"AlarmForgeModel", "thrown", "()I"⟩
def rm_q_thrown : Room := { frames := 0, cells := 0, slots := 0, locals := 0 }
theorem d_q_thrown_0 : decode b_q_thrown 0 = .ok (.aload_n 0, 1) := by decide +kernel
theorem d_q_thrown_1 : decode b_q_thrown 1 = .ok (.getfield 148, 3) := by decide +kernel
theorem d_q_thrown_4 : decode b_q_thrown 4 = .ok (.ireturn, 1) := by decide +kernel
theorem kb_q_thrown {a0 : Nat}  {w : WW} {r : (Int32 × WW)} (h : f_q_thrown a0 w = some r) : kb w a0 9 = true := (its h).1
set_option maxHeartbeats 4000000 in
set_option maxRecDepth 100000 in
theorem c_q_thrown (l : Launch) (D : va_G) (cA : Nat → ClassId) (base : Nat) {a0 : Nat} {w w' : WW} {r : Int32} (h : f_q_thrown a0 w = some (r, w')) : mt l D cls (wo_tys cA) cA base y_q_thrown (Cond.code y_q_thrown b_q_thrown 1 (some .int) :: gt) rm_q_thrown [.ref (base + a0)] w (some (.int r)) w' rm_q_thrown.cells rm_q_thrown.slots := by
  refine mt_start (by decide) (Nat.le_of_ble_eq_true rfl) ?_
  intro p e s m below meth c ls hx hb hr hml hown hts hlk hnm hK hG hW hl
  have C : cx b_q_thrown (some .int) 1 y_q_thrown.cls "thrown" p s m [.ref (base + a0)].toArray meth c D cA base := ⟨hx, hb, hr, hml, hown, hts, hlk, hnm, hK, hG⟩
  have hl : lv_has ls 1 [(0, .ref (base + a0))] := hl
  unfold f_q_thrown at h
  replace h := its h
  obtain ⟨-, h⟩ := h
  refine lv_aload_n hx hb d_q_thrown_0 rfl (lv_at hl 0 rfl) ?_
  replace h := bs h
  obtain ⟨x1, hx1, h⟩ := h
  refine gf_q_148 hx hb hts hown hK hG hW (gI_s hx1) d_q_thrown_1 ?_
  cases h
  exact wo_iret hx hb hr hlk hW d_q_thrown_4
abbrev b_q_in : ByteArray := prog_11_method_3_code
def y_q_in : MethodName := ⟨"AlarmForgeModel", "in", "(JJJ)Z"⟩
def rm_q_in : Room := { frames := 0, cells := 0, slots := 0, locals := 0 }
theorem d_q_in_0 : decode b_q_in 0 = .ok (.lload_n 0, 1) := by decide +kernel
theorem d_q_in_1 : decode b_q_in 1 = .ok (.lload_n 2, 1) := by decide +kernel
theorem d_q_in_2 : decode b_q_in 2 = .ok (.lcmp, 1) := by decide +kernel
theorem d_q_in_3 : decode b_q_in 3 = .ok (.ifCond .lt (14), 3) := by decide +kernel
theorem d_q_in_6 : decode b_q_in 6 = .ok (.lload_n 0, 1) := by decide +kernel
theorem d_q_in_7 : decode b_q_in 7 = .ok (.lload 4, 2) := by decide +kernel
theorem d_q_in_9 : decode b_q_in 9 = .ok (.lcmp, 1) := by decide +kernel
theorem d_q_in_10 : decode b_q_in 10 = .ok (.ifCond .gt (7), 3) := by decide +kernel
theorem d_q_in_13 : decode b_q_in 13 = .ok (.iconst 1, 1) := by decide +kernel
theorem d_q_in_14 : decode b_q_in 14 = .ok (.goto (4), 3) := by decide +kernel
theorem d_q_in_17 : decode b_q_in 17 = .ok (.iconst 0, 1) := by decide +kernel
theorem d_q_in_18 : decode b_q_in 18 = .ok (.ireturn, 1) := by decide +kernel
set_option maxHeartbeats 4000000 in
set_option maxRecDepth 100000 in
theorem j_q_in_18 {p : Program} {l : Launch} {e : Env} {s : State} {m : MethodId} {args : Array Value} {below : List Frame} {meth : Method} {c : Code} {D : va_G} {cA : Nat → ClassId} {base : Nat} {r : Int32} {w' : WW} (C : cx b_q_in (some .boolean) 6 y_q_in.cls "in" p s m args meth c D cA base)   : ∀ (z0 : Int32) (w : WW), f_q_in_18 z0 w = some (r, w') → ∀ (H : Heap) (locs : List Loc) (ls : Array Slot), wo_S D cls cA base s w H locs → lv_has ls 6 [] → W p l e rm_q_in s m args below meth c H locs 0 0 (MQ below (wo_Q D cls cA base (some (.int r)) w') args s rm_q_in.cells rm_q_in.slots (wo_B base)) (F0 m 18 ls [.int z0]) := by
  obtain ⟨hx, hb, hr, hml, hown, hts, hlk, hnm, hK, hG⟩ := id C
  intro z0 w h H locs ls hW hl
  unfold f_q_in_18 at h
  replace h := its h
  obtain ⟨c2, h⟩ := h
  cases h
  exact wo_zret hx hb hr hlk hW c2 d_q_in_18
set_option maxHeartbeats 4000000 in
set_option maxRecDepth 100000 in
theorem j_q_in_17 {p : Program} {l : Launch} {e : Env} {s : State} {m : MethodId} {args : Array Value} {below : List Frame} {meth : Method} {c : Code} {D : va_G} {cA : Nat → ClassId} {base : Nat} {r : Int32} {w' : WW} (C : cx b_q_in (some .boolean) 6 y_q_in.cls "in" p s m args meth c D cA base)   : ∀  (w : WW), f_q_in_17  w = some (r, w') → ∀ (H : Heap) (locs : List Loc) (ls : Array Slot), wo_S D cls cA base s w H locs → lv_has ls 6 [] → W p l e rm_q_in s m args below meth c H locs 0 0 (MQ below (wo_Q D cls cA base (some (.int r)) w') args s rm_q_in.cells rm_q_in.slots (wo_B base)) (F0 m 17 ls []) := by
  obtain ⟨hx, hb, hr, hml, hown, hts, hlk, hnm, hK, hG⟩ := id C
  intro  w h H locs ls hW hl
  unfold f_q_in_17 at h
  refine lv_iconst (v := (0 : Int32)) hx hb d_q_in_17 (by decide) ?_
  exact j_q_in_18 C (0 : Int32) w h _ _ _ hW (lv_sub hl [] rfl)
set_option maxHeartbeats 4000000 in
set_option maxRecDepth 100000 in
theorem c_q_in (l : Launch) (D : va_G) (cA : Nat → ClassId) (base : Nat) {a0 : Int64} {a2 : Int64} {a4 : Int64} {w w' : WW} {r : Int32} (h : f_q_in a0 a2 a4 w = some (r, w')) : mt l D cls (wo_tys cA) cA base y_q_in (Cond.code y_q_in b_q_in 6 (some .boolean) :: gt) rm_q_in [.long a0, .long a2, .long a4] w (some (.int r)) w' rm_q_in.cells rm_q_in.slots := by
  refine mt_start (by decide) (Nat.le_of_ble_eq_true rfl) ?_
  intro p e s m below meth c ls hx hb hr hml hown hts hlk hnm hK hG hW hl
  have C : cx b_q_in (some .boolean) 6 y_q_in.cls "in" p s m [.long a0, .long a2, .long a4].toArray meth c D cA base := ⟨hx, hb, hr, hml, hown, hts, hlk, hnm, hK, hG⟩
  have hl : lv_has ls 6 [(0, .long a0), (2, .long a2), (4, .long a4)] := hl
  unfold f_q_in at h
  refine lv_lload_n hx hb d_q_in_0 rfl (lv_at hl 0 rfl) ?_
  refine lv_lload_n hx hb d_q_in_1 rfl (lv_at hl 1 rfl) ?_
  refine lc_lt (tgt := 17) hx hb d_q_in_2 d_q_in_3 (by decide) (fun c1 => ?_) (fun c1 => ?_)
  · rw [if_pos c1] at h
    exact j_q_in_17 C w h _ _ _ hW (lv_sub hl [] rfl)
  · rw [if_neg c1] at h
    refine lv_lload_n hx hb d_q_in_6 rfl (lv_at hl 0 rfl) ?_
    refine lv_lload hx hb d_q_in_7 (lv_at hl 2 rfl) ?_
    refine lc_gt (tgt := 17) hx hb d_q_in_9 d_q_in_10 (by decide) (fun c3 => ?_) (fun c3 => ?_)
    · rw [if_pos c3] at h
      exact j_q_in_17 C w h _ _ _ hW (lv_sub hl [] rfl)
    · rw [if_neg c3] at h
      refine lv_iconst (v := (1 : Int32)) hx hb d_q_in_13 (by decide) ?_
      refine lv_goto (tgt := 18) hx hb d_q_in_14 (by decide) ?_
      exact j_q_in_18 C (1 : Int32) w h _ _ _ hW (lv_sub hl [] rfl)
abbrev b_q_fail : ByteArray := prog_11_method_4_code
def y_q_fail : MethodName := ⟨"AlarmForgeModel", "fail", "(I)I"⟩
def rm_q_fail : Room := { frames := 0, cells := 0, slots := 0, locals := 0 }
theorem d_q_fail_0 : decode b_q_fail 0 = .ok (.aload_n 0, 1) := by decide +kernel
theorem d_q_fail_1 : decode b_q_fail 1 = .ok (.iload_n 1, 1) := by decide +kernel
theorem d_q_fail_2 : decode b_q_fail 2 = .ok (.putfield 148, 3) := by decide +kernel
theorem d_q_fail_5 : decode b_q_fail 5 = .ok (.iconst 0, 1) := by decide +kernel
theorem d_q_fail_6 : decode b_q_fail 6 = .ok (.ireturn, 1) := by decide +kernel
theorem kb_q_fail {a0 : Nat} {a1 : Int32} {w : WW} {r : (Int32 × WW)} (h : f_q_fail a0 a1 w = some r) : kb w a0 9 = true := (its h).1
set_option maxHeartbeats 4000000 in
set_option maxRecDepth 100000 in
theorem c_q_fail (l : Launch) (D : va_G) (cA : Nat → ClassId) (base : Nat) {a0 : Nat} {a1 : Int32} {w w' : WW} {r : Int32} (h : f_q_fail a0 a1 w = some (r, w')) : mt l D cls (wo_tys cA) cA base y_q_fail (Cond.code y_q_fail b_q_fail 2 (some .int) :: gt) rm_q_fail [.ref (base + a0), .int a1] w (some (.int r)) w' rm_q_fail.cells rm_q_fail.slots := by
  refine mt_start (by decide) (Nat.le_of_ble_eq_true rfl) ?_
  intro p e s m below meth c ls hx hb hr hml hown hts hlk hnm hK hG hW hl
  have C : cx b_q_fail (some .int) 2 y_q_fail.cls "fail" p s m [.ref (base + a0), .int a1].toArray meth c D cA base := ⟨hx, hb, hr, hml, hown, hts, hlk, hnm, hK, hG⟩
  have hl : lv_has ls 2 [(0, .ref (base + a0)), (1, .int a1)] := hl
  unfold f_q_fail at h
  replace h := its h
  obtain ⟨-, h⟩ := h
  refine lv_aload_n hx hb d_q_fail_0 rfl (lv_at hl 0 rfl) ?_
  refine lv_iload_n hx hb d_q_fail_1 rfl (lv_at hl 1 rfl) ?_
  replace h := bs h
  obtain ⟨w1, hw1, h⟩ := h
  refine pf_q_148 hx hb hts hown hK hG hW rfl rfl (pbi hw1 rfl) d_q_fail_2 (fun H locs hW => ?_)
  refine lv_iconst (v := (0 : Int32)) hx hb d_q_fail_5 (by decide) ?_
  cases h
  exact wo_iret hx hb hr hlk hW d_q_fail_6
theorem cs_q_155 {p : Program} {l : Launch} {e : Env} {R : Room} {s : State} {m : MethodId} {args : Array Value} {below : List Frame} {meth : Method} {c : Code} {H : Heap} {locs : List Loc} {cells slots : Nat} {Q : State → Prop} {D : va_G} {cA : Nat → ClassId} {base : Nat} {w w' : WW} {cc : ByteArray} {pc nL : Nat} {ls : Array Slot} {rest st0 As : List Value} {ov : Option Value} (hx : p.tables.exec = Jvm.exec) (hb : c.code = cc) (hml : c.maxLocals = nL) (hown : s.vm.findClass Rc_q = some m.cls) (hts : ∀ w ∈ gt, w.before args s = true) (hK : va_K D cls (wo_tys cA) s) (hG : wo_G cA base s) (hW : wo_S D cls cA base s w H locs) (hM : mt l D cls (wo_tys cA) cA base y_q_in (Cond.code y_q_in b_q_in 6 (some .boolean) :: gt) rm_q_in (As) w ov w' rm_q_in.cells rm_q_in.slots) (hR : rm_q_in.frames + 1 ≤ R.frames ∧ 8 + (6 + 11) + rm_q_in.locals ≤ R.locals) (hf : cells + rm_q_in.cells ≤ R.cells ∧ slots + rm_q_in.slots ≤ R.slots) (hn : As.length = 3) (hsz : ls.size = nL) (hst : st0 = As.reverse ++ rest) (hcat : (rest.map fun v => v.category).sum ≤ 8) (hdg : decode cc pc = .ok (.invokestatic 155, 3)) (kk : ∀ (H1 : Heap) (locs1 : List Loc), wo_S D cls cA base s w' H1 locs1 → W p l e R s m args below meth c H1 locs1 (cells + rm_q_in.cells) (slots + rm_q_in.slots) Q (F0 m (pc + 3) ls (ov.toList ++ rest))) : W p l e R s m args below meth c H locs cells slots Q (F0 m pc ls st0) :=
  wo_callS hx hb hml hown hts hK hG hW hM (gt_of (i := 1375) (by decide +kernel) (by decide +kernel)) (gt_of (i := 1376) (by decide +kernel) (by decide +kernel)) (gt_of (i := 10) (by decide +kernel) (by decide +kernel)) (gt_of (i := 1377) (by decide +kernel) (by decide +kernel)) (by decide +kernel) hR hf hn hsz hst hcat hdg kk
theorem cv_q_159 {p : Program} {l : Launch} {e : Env} {R : Room} {s : State} {m : MethodId} {args : Array Value} {below : List Frame} {meth : Method} {c : Code} {H : Heap} {locs : List Loc} {cells slots : Nat} {Q : State → Prop} {D : va_G} {cA : Nat → ClassId} {base : Nat} {w w' : WW} {cc : ByteArray} {pc nL : Nat} {ls : Array Slot} {rest st0 As : List Value} {ov : Option Value} {b : Nat} (hx : p.tables.exec = Jvm.exec) (hb : c.code = cc) (hml : c.maxLocals = nL) (hown : s.vm.findClass Rc_q = some m.cls) (hts : ∀ w ∈ gt, w.before args s = true) (hK : va_K D cls (wo_tys cA) s) (hG : wo_G cA base s) (hW : wo_S D cls cA base s w H locs) (hM : mt l D cls (wo_tys cA) cA base y_q_fail (Cond.code y_q_fail b_q_fail 2 (some .int) :: gt) rm_q_fail (.ref (base + b) :: As) w ov w' rm_q_fail.cells rm_q_fail.slots) (hkb : kb w b 9 = true) (hR : rm_q_fail.frames + 1 ≤ R.frames ∧ 8 + (2 + 11) + rm_q_fail.locals ≤ R.locals) (hf : cells + rm_q_fail.cells ≤ R.cells ∧ slots + rm_q_fail.slots ≤ R.slots) (hn : As.length = 1) (hsz : ls.size = nL) (hst : st0 = As.reverse ++ .ref (base + b) :: rest) (hcat : (rest.map fun v => v.category).sum ≤ 8) (hdg : decode cc pc = .ok (.invokevirtual 159, 3)) (kk : ∀ (H1 : Heap) (locs1 : List Loc), wo_S D cls cA base s w' H1 locs1 → W p l e R s m args below meth c H1 locs1 (cells + rm_q_fail.cells) (slots + rm_q_fail.slots) Q (F0 m (pc + 3) ls (ov.toList ++ rest))) : W p l e R s m args below meth c H locs cells slots Q (F0 m pc ls st0) :=
  wo_callV (C := Rc_q) hx hb hml hown hts hK hG hW hM hkb rfl (gt_of (i := 1378) (by decide +kernel) (by decide +kernel)) (gt_of (i := 1380) (by decide +kernel) (by decide +kernel)) (gt_sel (i := 58) (by decide +kernel) (by decide +kernel)) (gt_of (i := 10) (by decide +kernel) (by decide +kernel)) (gt_of (i := 1381) (by decide +kernel) (by decide +kernel)) (by decide +kernel) hR hf hn hsz hst hcat hdg kk
abbrev b_q_text : ByteArray := prog_11_method_5_code
def y_q_text : MethodName := ⟨"AlarmForgeModel", "text", "(J)I"⟩
def rm_q_text : Room := { frames := 1, cells := 0, slots := 0, locals := 25 }
theorem d_q_text_0 : decode b_q_text 0 = .ok (.iconst 0, 1) := by decide +kernel
theorem d_q_text_1 : decode b_q_text 1 = .ok (.istore_n 3, 1) := by decide +kernel
theorem d_q_text_2 : decode b_q_text 2 = .ok (.iconst 1, 1) := by decide +kernel
theorem d_q_text_3 : decode b_q_text 3 = .ok (.istore 4, 2) := by decide +kernel
theorem d_q_text_5 : decode b_q_text 5 = .ok (.bipush (56), 2) := by decide +kernel
theorem d_q_text_7 : decode b_q_text 7 = .ok (.istore 5, 2) := by decide +kernel
theorem d_q_text_9 : decode b_q_text 9 = .ok (.iload 5, 2) := by decide +kernel
theorem d_q_text_11 : decode b_q_text 11 = .ok (.ifCond .lt (56), 3) := by decide +kernel
theorem d_q_text_14 : decode b_q_text 14 = .ok (.lload_n 1, 1) := by decide +kernel
theorem d_q_text_15 : decode b_q_text 15 = .ok (.iload 5, 2) := by decide +kernel
theorem d_q_text_17 : decode b_q_text 17 = .ok (.lshr, 1) := by decide +kernel
theorem d_q_text_18 : decode b_q_text 18 = .ok (.l2i, 1) := by decide +kernel
theorem d_q_text_19 : decode b_q_text 19 = .ok (.sipush (255), 3) := by decide +kernel
theorem d_q_text_22 : decode b_q_text 22 = .ok (.iand, 1) := by decide +kernel
theorem d_q_text_23 : decode b_q_text 23 = .ok (.istore 6, 2) := by decide +kernel
theorem d_q_text_25 : decode b_q_text 25 = .ok (.iload 6, 2) := by decide +kernel
theorem d_q_text_27 : decode b_q_text 27 = .ok (.ifCond .ne (6), 3) := by decide +kernel
theorem d_q_text_30 : decode b_q_text 30 = .ok (.goto (31), 3) := by decide +kernel
theorem d_q_text_33 : decode b_q_text 33 = .ok (.iload 6, 2) := by decide +kernel
theorem d_q_text_35 : decode b_q_text 35 = .ok (.bipush (10), 2) := by decide +kernel
theorem d_q_text_37 : decode b_q_text 37 = .ok (.if_icmp .eq (21), 3) := by decide +kernel
theorem d_q_text_40 : decode b_q_text 40 = .ok (.iload 6, 2) := by decide +kernel
theorem d_q_text_42 : decode b_q_text 42 = .ok (.i2l, 1) := by decide +kernel
theorem d_q_text_43 : decode b_q_text 43 = .ok (.ldc2_w 151, 3) := by decide +kernel
theorem d_q_text_46 : decode b_q_text 46 = .ok (.ldc2_w 153, 3) := by decide +kernel
theorem d_q_text_49 : decode b_q_text 49 = .ok (.invokestatic 155, 3) := by decide +kernel
theorem d_q_text_52 : decode b_q_text 52 = .ok (.ifCond .ne (6), 3) := by decide +kernel
theorem d_q_text_55 : decode b_q_text 55 = .ok (.iconst 0, 1) := by decide +kernel
theorem d_q_text_56 : decode b_q_text 56 = .ok (.istore 4, 2) := by decide +kernel
theorem d_q_text_58 : decode b_q_text 58 = .ok (.iinc 3 (1), 3) := by decide +kernel
theorem d_q_text_61 : decode b_q_text 61 = .ok (.iinc 5 (-8), 3) := by decide +kernel
theorem d_q_text_64 : decode b_q_text 64 = .ok (.goto (-55), 3) := by decide +kernel
theorem d_q_text_67 : decode b_q_text 67 = .ok (.iload 4, 2) := by decide +kernel
theorem d_q_text_69 : decode b_q_text 69 = .ok (.ifCond .ne (9), 3) := by decide +kernel
theorem d_q_text_72 : decode b_q_text 72 = .ok (.aload_n 0, 1) := by decide +kernel
theorem d_q_text_73 : decode b_q_text 73 = .ok (.iconst 1, 1) := by decide +kernel
theorem d_q_text_74 : decode b_q_text 74 = .ok (.invokevirtual 159, 3) := by decide +kernel
theorem d_q_text_77 : decode b_q_text 77 = .ok (.ireturn, 1) := by decide +kernel
theorem d_q_text_78 : decode b_q_text 78 = .ok (.aload_n 0, 1) := by decide +kernel
theorem d_q_text_79 : decode b_q_text 79 = .ok (.getfield 163, 3) := by decide +kernel
theorem d_q_text_82 : decode b_q_text 82 = .ok (.iload_n 3, 1) := by decide +kernel
theorem d_q_text_83 : decode b_q_text 83 = .ok (.iadd, 1) := by decide +kernel
theorem d_q_text_84 : decode b_q_text 84 = .ok (.sipush (200), 3) := by decide +kernel
theorem d_q_text_87 : decode b_q_text 87 = .ok (.if_icmp .le (9), 3) := by decide +kernel
theorem d_q_text_90 : decode b_q_text 90 = .ok (.aload_n 0, 1) := by decide +kernel
theorem d_q_text_91 : decode b_q_text 91 = .ok (.iconst 2, 1) := by decide +kernel
theorem d_q_text_92 : decode b_q_text 92 = .ok (.invokevirtual 159, 3) := by decide +kernel
theorem d_q_text_95 : decode b_q_text 95 = .ok (.ireturn, 1) := by decide +kernel
theorem d_q_text_96 : decode b_q_text 96 = .ok (.aload_n 0, 1) := by decide +kernel
theorem d_q_text_97 : decode b_q_text 97 = .ok (.iconst 0, 1) := by decide +kernel
theorem d_q_text_98 : decode b_q_text 98 = .ok (.putfield 148, 3) := by decide +kernel
theorem d_q_text_101 : decode b_q_text 101 = .ok (.bipush (56), 2) := by decide +kernel
theorem d_q_text_103 : decode b_q_text 103 = .ok (.istore 5, 2) := by decide +kernel
theorem d_q_text_105 : decode b_q_text 105 = .ok (.iload 5, 2) := by decide +kernel
theorem d_q_text_107 : decode b_q_text 107 = .ok (.ifCond .lt (49), 3) := by decide +kernel
theorem d_q_text_110 : decode b_q_text 110 = .ok (.lload_n 1, 1) := by decide +kernel
theorem d_q_text_111 : decode b_q_text 111 = .ok (.iload 5, 2) := by decide +kernel
theorem d_q_text_113 : decode b_q_text 113 = .ok (.lshr, 1) := by decide +kernel
theorem d_q_text_114 : decode b_q_text 114 = .ok (.l2i, 1) := by decide +kernel
theorem d_q_text_115 : decode b_q_text 115 = .ok (.sipush (255), 3) := by decide +kernel
theorem d_q_text_118 : decode b_q_text 118 = .ok (.iand, 1) := by decide +kernel
theorem d_q_text_119 : decode b_q_text 119 = .ok (.istore 6, 2) := by decide +kernel
theorem d_q_text_121 : decode b_q_text 121 = .ok (.iload 6, 2) := by decide +kernel
theorem d_q_text_123 : decode b_q_text 123 = .ok (.ifCond .ne (6), 3) := by decide +kernel
theorem d_q_text_126 : decode b_q_text 126 = .ok (.goto (24), 3) := by decide +kernel
theorem d_q_text_129 : decode b_q_text 129 = .ok (.aload_n 0, 1) := by decide +kernel
theorem d_q_text_130 : decode b_q_text 130 = .ok (.getfield 7, 3) := by decide +kernel
theorem d_q_text_133 : decode b_q_text 133 = .ok (.aload_n 0, 1) := by decide +kernel
theorem d_q_text_134 : decode b_q_text 134 = .ok (.getfield 163, 3) := by decide +kernel
theorem d_q_text_137 : decode b_q_text 137 = .ok (.iload 6, 2) := by decide +kernel
theorem d_q_text_139 : decode b_q_text 139 = .ok (.iastore, 1) := by decide +kernel
theorem d_q_text_140 : decode b_q_text 140 = .ok (.aload_n 0, 1) := by decide +kernel
theorem d_q_text_141 : decode b_q_text 141 = .ok (.dup, 1) := by decide +kernel
theorem d_q_text_142 : decode b_q_text 142 = .ok (.getfield 163, 3) := by decide +kernel
theorem d_q_text_145 : decode b_q_text 145 = .ok (.iconst 1, 1) := by decide +kernel
theorem d_q_text_146 : decode b_q_text 146 = .ok (.iadd, 1) := by decide +kernel
theorem d_q_text_147 : decode b_q_text 147 = .ok (.putfield 163, 3) := by decide +kernel
theorem d_q_text_150 : decode b_q_text 150 = .ok (.iinc 5 (-8), 3) := by decide +kernel
theorem d_q_text_153 : decode b_q_text 153 = .ok (.goto (-48), 3) := by decide +kernel
theorem d_q_text_156 : decode b_q_text 156 = .ok (.aload_n 0, 1) := by decide +kernel
theorem d_q_text_157 : decode b_q_text 157 = .ok (.getfield 163, 3) := by decide +kernel
theorem d_q_text_160 : decode b_q_text 160 = .ok (.ireturn, 1) := by decide +kernel
theorem kb_q_text {a0 : Nat} {a1 : Int64} {w : WW} {r : (Int32 × WW)} (h : f_q_text a0 a1 w = some r) : kb w a0 9 = true := (its h).1
set_option maxHeartbeats 4000000 in
set_option maxRecDepth 100000 in
theorem j_q_text_150 {p : Program} {l : Launch} {e : Env} {s : State} {m : MethodId} {args : Array Value} {below : List Frame} {meth : Method} {c : Code} {D : va_G} {cA : Nat → ClassId} {base : Nat} {r : Int32} {w' : WW} (C : cx b_q_text (some .int) 7 y_q_text.cls "text" p s m args meth c D cA base) {k_105 : Nat → Int64 → Int32 → WW → Option (Int32 × WW)} (hk_105 : ∀ (y0 : Nat) (y1 : Int64) (y5 : Int32) (w : WW), k_105 y0 y1 y5 w = some (r, w') → ∀ (H : Heap) (locs : List Loc) (ls : Array Slot), wo_S D cls cA base s w H locs → lv_has ls 7 [(0, .ref (base + y0)), (1, .long y1), (5, .int y5)] → W p l e rm_q_text s m args below meth c H locs 0 0 (MQ below (wo_Q D cls cA base (some (.int r)) w') args s rm_q_text.cells rm_q_text.slots (wo_B base)) (F0 m 105 ls [])) : ∀ (y0 : Nat) (y1 : Int64) (y5 : Int32) (w : WW), f_q_text_150 k_105 y0 y1 y5 w = some (r, w') → ∀ (H : Heap) (locs : List Loc) (ls : Array Slot), wo_S D cls cA base s w H locs → lv_has ls 7 [(0, .ref (base + y0)), (1, .long y1), (5, .int y5)] → W p l e rm_q_text s m args below meth c H locs 0 0 (MQ below (wo_Q D cls cA base (some (.int r)) w') args s rm_q_text.cells rm_q_text.slots (wo_B base)) (F0 m 150 ls []) := by
  obtain ⟨hx, hb, hr, hml, hown, hts, hlk, hnm, hK, hG⟩ := id C
  intro y0 y1 y5 w h H locs ls hW hl
  unfold f_q_text_150 at h
  refine lv_iinc (v := (y5 + (-8 : Int32))) (lv' := [(5, .int (y5 + (-8 : Int32))), (0, .ref (base + y0)), (1, .long y1)]) hx hb d_q_text_150 hl (k := 2) rfl rfl (by decide) rfl (fun ls hl => ?_)
  refine lv_goto (tgt := 105) hx hb d_q_text_153 (by decide) ?_
  exact hk_105 y0 y1 (y5 + (-8 : Int32)) w h _ _ _ hW (lv_sub hl [1, 2, 0] rfl)
set_option maxHeartbeats 4000000 in
set_option maxRecDepth 100000 in
theorem j_q_text_105 {p : Program} {l : Launch} {e : Env} {s : State} {m : MethodId} {args : Array Value} {below : List Frame} {meth : Method} {c : Code} {D : va_G} {cA : Nat → ClassId} {base : Nat} {r : Int32} {w' : WW} (C : cx b_q_text (some .int) 7 y_q_text.cls "text" p s m args meth c D cA base)   : ∀ n : Nat, ∀ (y0 : Nat) (y1 : Int64) (y5 : Int32) (w : WW), f_q_text_105 n y0 y1 y5 w = some (r, w') → ∀ (H : Heap) (locs : List Loc) (ls : Array Slot), wo_S D cls cA base s w H locs → lv_has ls 7 [(0, .ref (base + y0)), (1, .long y1), (5, .int y5)] → W p l e rm_q_text s m args below meth c H locs 0 0 (MQ below (wo_Q D cls cA base (some (.int r)) w') args s rm_q_text.cells rm_q_text.slots (wo_B base)) (F0 m 105 ls []) := by
  obtain ⟨hx, hb, hr, hml, hown, hts, hlk, hnm, hK, hG⟩ := id C
  intro n
  induction n with
  | zero => intro y0 y1 y5 w h; cases h
  | succ n ih =>
    intro y0 y1 y5 w h H locs ls hW hl
    rw [f_q_text_105] at h
    refine lv_iload hx hb d_q_text_105 (lv_at hl 2 rfl) ?_
    refine lv_if_lt (tgt := 156) hx hb d_q_text_107 (by decide) (fun c6 => ?_) (fun c6 => ?_)
    · rw [if_pos c6] at h
      refine lv_aload_n hx hb d_q_text_156 rfl (lv_at hl 0 rfl) ?_
      replace h := bs h
      obtain ⟨x7, hx7, h⟩ := h
      refine gf_q_163 hx hb hts hown hK hG hW (gI_s hx7) d_q_text_157 ?_
      cases h
      exact wo_iret hx hb hr hlk hW d_q_text_160
    · rw [if_neg c6] at h
      refine lv_lload_n hx hb d_q_text_110 rfl (lv_at hl 1 rfl) ?_
      refine lv_iload hx hb d_q_text_111 (lv_at hl 2 rfl) ?_
      refine lv_lshr hx hb d_q_text_113 rfl ?_
      refine lv_l2i hx hb d_q_text_114 rfl ?_
      refine lv_sipush (v := (255 : Int32)) hx hb d_q_text_115 (by decide) ?_
      refine lv_iand hx hb d_q_text_118 ?_
      refine lv_istore (lv' := [(6, .int ((Int64.toInt32 (y1 >>> (Int32.toInt64 y5 &&& 63))) &&& (255 : Int32))), (0, .ref (base + y0)), (1, .long y1), (5, .int y5)]) hx hb d_q_text_119 hl (by decide) rfl (fun ls hl => ?_)
      refine lv_iload hx hb d_q_text_121 (lv_at hl 0 rfl) ?_
      refine lv_if_ne (tgt := 129) hx hb d_q_text_123 (by decide) (fun c8 => ?_) (fun c8 => ?_)
      · rw [if_neg c8] at h
        refine lv_aload_n hx hb d_q_text_129 rfl (lv_at hl 1 rfl) ?_
        replace h := bs h
        obtain ⟨x9, hx9, h⟩ := h
        refine gf_q_7 hx hb hts hown hK hG hW (gN_s hx9) d_q_text_130 ?_
        refine lv_aload_n hx hb d_q_text_133 rfl (lv_at hl 1 rfl) ?_
        replace h := bs h
        obtain ⟨x10, hx10, h⟩ := h
        refine gf_q_163 hx hb hts hown hK hG hW (gI_s hx10) d_q_text_134 ?_
        refine lv_iload hx hb d_q_text_137 (lv_at hl 0 rfl) ?_
        replace h := bs h
        obtain ⟨w11, hw11, h⟩ := h
        refine wo_iast hx hb hK hW (t := 0) rfl hw11 d_q_text_139 (fun H locs hW => ?_)
        refine lv_aload_n hx hb d_q_text_140 rfl (lv_at hl 1 rfl) ?_
        refine lv_dup hx hb d_q_text_141 rfl ?_
        replace h := bs h
        obtain ⟨x12, hx12, h⟩ := h
        refine gf_q_163 hx hb hts hown hK hG hW (gI_s hx12) d_q_text_142 ?_
        refine lv_iconst (v := (1 : Int32)) hx hb d_q_text_145 (by decide) ?_
        refine lv_iadd hx hb d_q_text_146 ?_
        replace h := bs h
        obtain ⟨w13, hw13, h⟩ := h
        refine pf_q_163 hx hb hts hown hK hG hW rfl rfl (pbi hw13 rfl) d_q_text_147 (fun H locs hW => ?_)
        exact j_q_text_150 C ih y0 y1 y5 w13 h _ _ _ hW (lv_sub hl [1, 2, 3] rfl)
      · rw [if_pos c8] at h
        refine lv_goto (tgt := 150) hx hb d_q_text_126 (by decide) ?_
        exact j_q_text_150 C ih y0 y1 y5 w h _ _ _ hW (lv_sub hl [1, 2, 3] rfl)
set_option maxHeartbeats 4000000 in
set_option maxRecDepth 100000 in
theorem j_q_text_61 {p : Program} {l : Launch} {e : Env} {s : State} {m : MethodId} {args : Array Value} {below : List Frame} {meth : Method} {c : Code} {D : va_G} {cA : Nat → ClassId} {base : Nat} {r : Int32} {w' : WW} (C : cx b_q_text (some .int) 7 y_q_text.cls "text" p s m args meth c D cA base) {k_9 : Nat → Int64 → Int32 → Int32 → Int32 → WW → Option (Int32 × WW)} (hk_9 : ∀ (y0 : Nat) (y1 : Int64) (y3 : Int32) (y4 : Int32) (y5 : Int32) (w : WW), k_9 y0 y1 y3 y4 y5 w = some (r, w') → ∀ (H : Heap) (locs : List Loc) (ls : Array Slot), wo_S D cls cA base s w H locs → lv_has ls 7 [(0, .ref (base + y0)), (1, .long y1), (3, .int y3), (4, .int y4), (5, .int y5)] → W p l e rm_q_text s m args below meth c H locs 0 0 (MQ below (wo_Q D cls cA base (some (.int r)) w') args s rm_q_text.cells rm_q_text.slots (wo_B base)) (F0 m 9 ls [])) : ∀ (y0 : Nat) (y1 : Int64) (y3 : Int32) (y4 : Int32) (y5 : Int32) (w : WW), f_q_text_61 k_9 y0 y1 y3 y4 y5 w = some (r, w') → ∀ (H : Heap) (locs : List Loc) (ls : Array Slot), wo_S D cls cA base s w H locs → lv_has ls 7 [(0, .ref (base + y0)), (1, .long y1), (3, .int y3), (4, .int y4), (5, .int y5)] → W p l e rm_q_text s m args below meth c H locs 0 0 (MQ below (wo_Q D cls cA base (some (.int r)) w') args s rm_q_text.cells rm_q_text.slots (wo_B base)) (F0 m 61 ls []) := by
  obtain ⟨hx, hb, hr, hml, hown, hts, hlk, hnm, hK, hG⟩ := id C
  intro y0 y1 y3 y4 y5 w h H locs ls hW hl
  unfold f_q_text_61 at h
  refine lv_iinc (v := (y5 + (-8 : Int32))) (lv' := [(5, .int (y5 + (-8 : Int32))), (0, .ref (base + y0)), (1, .long y1), (3, .int y3), (4, .int y4)]) hx hb d_q_text_61 hl (k := 4) rfl rfl (by decide) rfl (fun ls hl => ?_)
  refine lv_goto (tgt := 9) hx hb d_q_text_64 (by decide) ?_
  exact hk_9 y0 y1 y3 y4 (y5 + (-8 : Int32)) w h _ _ _ hW (lv_sub hl [1, 2, 3, 4, 0] rfl)
set_option maxHeartbeats 4000000 in
set_option maxRecDepth 100000 in
theorem j_q_text_58 {p : Program} {l : Launch} {e : Env} {s : State} {m : MethodId} {args : Array Value} {below : List Frame} {meth : Method} {c : Code} {D : va_G} {cA : Nat → ClassId} {base : Nat} {r : Int32} {w' : WW} (C : cx b_q_text (some .int) 7 y_q_text.cls "text" p s m args meth c D cA base) {k_9 : Nat → Int64 → Int32 → Int32 → Int32 → WW → Option (Int32 × WW)} (hk_9 : ∀ (y0 : Nat) (y1 : Int64) (y3 : Int32) (y4 : Int32) (y5 : Int32) (w : WW), k_9 y0 y1 y3 y4 y5 w = some (r, w') → ∀ (H : Heap) (locs : List Loc) (ls : Array Slot), wo_S D cls cA base s w H locs → lv_has ls 7 [(0, .ref (base + y0)), (1, .long y1), (3, .int y3), (4, .int y4), (5, .int y5)] → W p l e rm_q_text s m args below meth c H locs 0 0 (MQ below (wo_Q D cls cA base (some (.int r)) w') args s rm_q_text.cells rm_q_text.slots (wo_B base)) (F0 m 9 ls [])) : ∀ (y0 : Nat) (y1 : Int64) (y3 : Int32) (y4 : Int32) (y5 : Int32) (w : WW), f_q_text_58 k_9 y0 y1 y3 y4 y5 w = some (r, w') → ∀ (H : Heap) (locs : List Loc) (ls : Array Slot), wo_S D cls cA base s w H locs → lv_has ls 7 [(0, .ref (base + y0)), (1, .long y1), (3, .int y3), (4, .int y4), (5, .int y5)] → W p l e rm_q_text s m args below meth c H locs 0 0 (MQ below (wo_Q D cls cA base (some (.int r)) w') args s rm_q_text.cells rm_q_text.slots (wo_B base)) (F0 m 58 ls []) := by
  obtain ⟨hx, hb, hr, hml, hown, hts, hlk, hnm, hK, hG⟩ := id C
  intro y0 y1 y3 y4 y5 w h H locs ls hW hl
  unfold f_q_text_58 at h
  refine lv_iinc (v := (y3 + (1 : Int32))) (lv' := [(3, .int (y3 + (1 : Int32))), (0, .ref (base + y0)), (1, .long y1), (4, .int y4), (5, .int y5)]) hx hb d_q_text_58 hl (k := 2) rfl rfl (by decide) rfl (fun ls hl => ?_)
  exact j_q_text_61 C hk_9 y0 y1 (y3 + (1 : Int32)) y4 y5 w h _ _ _ hW (lv_sub hl [1, 2, 0, 3, 4] rfl)
set_option maxHeartbeats 4000000 in
set_option maxRecDepth 100000 in
theorem j_q_text_9 {p : Program} {l : Launch} {e : Env} {s : State} {m : MethodId} {args : Array Value} {below : List Frame} {meth : Method} {c : Code} {D : va_G} {cA : Nat → ClassId} {base : Nat} {r : Int32} {w' : WW} (C : cx b_q_text (some .int) 7 y_q_text.cls "text" p s m args meth c D cA base)   : ∀ n : Nat, ∀ (y0 : Nat) (y1 : Int64) (y3 : Int32) (y4 : Int32) (y5 : Int32) (w : WW), f_q_text_9 n y0 y1 y3 y4 y5 w = some (r, w') → ∀ (H : Heap) (locs : List Loc) (ls : Array Slot), wo_S D cls cA base s w H locs → lv_has ls 7 [(0, .ref (base + y0)), (1, .long y1), (3, .int y3), (4, .int y4), (5, .int y5)] → W p l e rm_q_text s m args below meth c H locs 0 0 (MQ below (wo_Q D cls cA base (some (.int r)) w') args s rm_q_text.cells rm_q_text.slots (wo_B base)) (F0 m 9 ls []) := by
  obtain ⟨hx, hb, hr, hml, hown, hts, hlk, hnm, hK, hG⟩ := id C
  intro n
  induction n with
  | zero => intro y0 y1 y3 y4 y5 w h; cases h
  | succ n ih =>
    intro y0 y1 y3 y4 y5 w h H locs ls hW hl
    rw [f_q_text_9] at h
    refine lv_iload hx hb d_q_text_9 (lv_at hl 4 rfl) ?_
    refine lv_if_lt (tgt := 67) hx hb d_q_text_11 (by decide) (fun c1 => ?_) (fun c1 => ?_)
    · rw [if_pos c1] at h
      refine lv_iload hx hb d_q_text_67 (lv_at hl 3 rfl) ?_
      refine lv_if_ne (tgt := 78) hx hb d_q_text_69 (by decide) (fun c2 => ?_) (fun c2 => ?_)
      · rw [if_neg c2] at h
        refine lv_aload_n hx hb d_q_text_78 rfl (lv_at hl 0 rfl) ?_
        replace h := bs h
        obtain ⟨x3, hx3, h⟩ := h
        refine gf_q_163 hx hb hts hown hK hG hW (gI_s hx3) d_q_text_79 ?_
        refine lv_iload_n hx hb d_q_text_82 rfl (lv_at hl 2 rfl) ?_
        refine lv_iadd hx hb d_q_text_83 ?_
        refine lv_sipush (v := (200 : Int32)) hx hb d_q_text_84 (by decide) ?_
        refine lv_icmp_le (tgt := 96) hx hb d_q_text_87 (by decide) (fun c4 => ?_) (fun c4 => ?_)
        · rw [if_pos c4] at h
          refine lv_aload_n hx hb d_q_text_96 rfl (lv_at hl 0 rfl) ?_
          refine lv_iconst (v := (0 : Int32)) hx hb d_q_text_97 (by decide) ?_
          replace h := bs h
          obtain ⟨w5, hw5, h⟩ := h
          refine pf_q_148 hx hb hts hown hK hG hW rfl rfl (pbi hw5 rfl) d_q_text_98 (fun H locs hW => ?_)
          refine lv_bipush (v := (56 : Int32)) hx hb d_q_text_101 (by decide) ?_
          refine lv_istore (lv' := [(5, .int (56 : Int32)), (0, .ref (base + y0)), (1, .long y1), (3, .int y3), (4, .int y4)]) hx hb d_q_text_103 hl (by decide) rfl (fun ls hl => ?_)
          exact j_q_text_105 C KK y0 y1 (56 : Int32) w5 h _ _ _ hW (lv_sub hl [1, 2, 0] rfl)
        · rw [if_neg c4] at h
          refine lv_aload_n hx hb d_q_text_90 rfl (lv_at hl 0 rfl) ?_
          refine lv_iconst (v := (2 : Int32)) hx hb d_q_text_91 (by decide) ?_
          replace h := bs2 h
          obtain ⟨x15, w14, hw14, h⟩ := h
          refine cv_q_159 (As := [.int (2 : Int32)]) (rest := []) hx hb hml hown hts hK hG hW (c_q_fail l D cA base hw14) (kb_q_fail hw14) ⟨Nat.le_of_ble_eq_true rfl, Nat.le_of_ble_eq_true rfl⟩ ⟨Nat.le_of_ble_eq_true rfl, Nat.le_of_ble_eq_true rfl⟩ rfl hl.1 rfl (Nat.le_of_ble_eq_true rfl) d_q_text_92 (fun H locs hW => ?_)
          cases h
          exact wo_iret hx hb hr hlk hW d_q_text_95
      · rw [if_pos c2] at h
        refine lv_aload_n hx hb d_q_text_72 rfl (lv_at hl 0 rfl) ?_
        refine lv_iconst (v := (1 : Int32)) hx hb d_q_text_73 (by decide) ?_
        replace h := bs2 h
        obtain ⟨x17, w16, hw16, h⟩ := h
        refine cv_q_159 (As := [.int (1 : Int32)]) (rest := []) hx hb hml hown hts hK hG hW (c_q_fail l D cA base hw16) (kb_q_fail hw16) ⟨Nat.le_of_ble_eq_true rfl, Nat.le_of_ble_eq_true rfl⟩ ⟨Nat.le_of_ble_eq_true rfl, Nat.le_of_ble_eq_true rfl⟩ rfl hl.1 rfl (Nat.le_of_ble_eq_true rfl) d_q_text_74 (fun H locs hW => ?_)
        cases h
        exact wo_iret hx hb hr hlk hW d_q_text_77
    · rw [if_neg c1] at h
      refine lv_lload_n hx hb d_q_text_14 rfl (lv_at hl 1 rfl) ?_
      refine lv_iload hx hb d_q_text_15 (lv_at hl 4 rfl) ?_
      refine lv_lshr hx hb d_q_text_17 rfl ?_
      refine lv_l2i hx hb d_q_text_18 rfl ?_
      refine lv_sipush (v := (255 : Int32)) hx hb d_q_text_19 (by decide) ?_
      refine lv_iand hx hb d_q_text_22 ?_
      refine lv_istore (lv' := [(6, .int ((Int64.toInt32 (y1 >>> (Int32.toInt64 y5 &&& 63))) &&& (255 : Int32))), (0, .ref (base + y0)), (1, .long y1), (3, .int y3), (4, .int y4), (5, .int y5)]) hx hb d_q_text_23 hl (by decide) rfl (fun ls hl => ?_)
      refine lv_iload hx hb d_q_text_25 (lv_at hl 0 rfl) ?_
      refine lv_if_ne (tgt := 33) hx hb d_q_text_27 (by decide) (fun c18 => ?_) (fun c18 => ?_)
      · rw [if_neg c18] at h
        refine lv_iload hx hb d_q_text_33 (lv_at hl 0 rfl) ?_
        refine lv_bipush (v := (10 : Int32)) hx hb d_q_text_35 (by decide) ?_
        refine lv_icmp_eq (tgt := 58) hx hb d_q_text_37 (by decide) (fun c19 => ?_) (fun c19 => ?_)
        · rw [if_pos c19] at h
          exact j_q_text_58 C ih y0 y1 y3 y4 y5 w h _ _ _ hW (lv_sub hl [1, 2, 3, 4, 5] rfl)
        · rw [if_neg c19] at h
          refine lv_iload hx hb d_q_text_40 (lv_at hl 0 rfl) ?_
          refine lv_i2l hx hb d_q_text_42 rfl ?_
          refine lv_ldc2 (own := Rc_q) (v := (32 : Int64)) hx hb hown (hts (.constantLong "AlarmForgeModel" 151 (32 : Int64)) (gt_of (i := 1373) (by decide +kernel) (by decide +kernel))) d_q_text_43 ?_
          refine lv_ldc2 (own := Rc_q) (v := (126 : Int64)) hx hb hown (hts (.constantLong "AlarmForgeModel" 153 (126 : Int64)) (gt_of (i := 1374) (by decide +kernel) (by decide +kernel))) d_q_text_46 ?_
          replace h := bs2 h
          obtain ⟨x21, w20, hw20, h⟩ := h
          refine cs_q_155 (As := [.long (Int32.toInt64 ((Int64.toInt32 (y1 >>> (Int32.toInt64 y5 &&& 63))) &&& (255 : Int32))), .long (32 : Int64), .long (126 : Int64)]) (rest := []) hx hb hml hown hts hK hG hW (c_q_in l D cA base hw20) ⟨Nat.le_of_ble_eq_true rfl, Nat.le_of_ble_eq_true rfl⟩ ⟨Nat.le_of_ble_eq_true rfl, Nat.le_of_ble_eq_true rfl⟩ rfl hl.1 rfl (Nat.le_of_ble_eq_true rfl) d_q_text_49 (fun H locs hW => ?_)
          refine lv_if_ne (tgt := 58) hx hb d_q_text_52 (by decide) (fun c22 => ?_) (fun c22 => ?_)
          · rw [if_neg c22] at h
            exact j_q_text_58 C ih y0 y1 y3 y4 y5 w20 h _ _ _ hW (lv_sub hl [1, 2, 3, 4, 5] rfl)
          · rw [if_pos c22] at h
            refine lv_iconst (v := (0 : Int32)) hx hb d_q_text_55 (by decide) ?_
            refine lv_istore (lv' := [(4, .int (0 : Int32)), (6, .int ((Int64.toInt32 (y1 >>> (Int32.toInt64 y5 &&& 63))) &&& (255 : Int32))), (0, .ref (base + y0)), (1, .long y1), (3, .int y3), (5, .int y5)]) hx hb d_q_text_56 hl (by decide) rfl (fun ls hl => ?_)
            exact j_q_text_58 C ih y0 y1 y3 (0 : Int32) y5 w20 h _ _ _ hW (lv_sub hl [2, 3, 4, 0, 5] rfl)
      · rw [if_pos c18] at h
        refine lv_goto (tgt := 61) hx hb d_q_text_30 (by decide) ?_
        exact j_q_text_61 C ih y0 y1 y3 y4 y5 w h _ _ _ hW (lv_sub hl [1, 2, 3, 4, 5] rfl)
set_option maxHeartbeats 4000000 in
set_option maxRecDepth 100000 in
theorem c_q_text (l : Launch) (D : va_G) (cA : Nat → ClassId) (base : Nat) {a0 : Nat} {a1 : Int64} {w w' : WW} {r : Int32} (h : f_q_text a0 a1 w = some (r, w')) : mt l D cls (wo_tys cA) cA base y_q_text (Cond.code y_q_text b_q_text 7 (some .int) :: gt) rm_q_text [.ref (base + a0), .long a1] w (some (.int r)) w' rm_q_text.cells rm_q_text.slots := by
  refine mt_start (by decide) (Nat.le_of_ble_eq_true rfl) ?_
  intro p e s m below meth c ls hx hb hr hml hown hts hlk hnm hK hG hW hl
  have C : cx b_q_text (some .int) 7 y_q_text.cls "text" p s m [.ref (base + a0), .long a1].toArray meth c D cA base := ⟨hx, hb, hr, hml, hown, hts, hlk, hnm, hK, hG⟩
  have hl : lv_has ls 7 [(0, .ref (base + a0)), (1, .long a1)] := hl
  unfold f_q_text at h
  replace h := its h
  obtain ⟨-, h⟩ := h
  refine lv_iconst (v := (0 : Int32)) hx hb d_q_text_0 (by decide) ?_
  refine lv_istore_n (lv' := [(3, .int (0 : Int32)), (0, .ref (base + a0)), (1, .long a1)]) hx hb d_q_text_1 rfl hl (by decide) rfl (fun ls hl => ?_)
  refine lv_iconst (v := (1 : Int32)) hx hb d_q_text_2 (by decide) ?_
  refine lv_istore (lv' := [(4, .int (1 : Int32)), (3, .int (0 : Int32)), (0, .ref (base + a0)), (1, .long a1)]) hx hb d_q_text_3 hl (by decide) rfl (fun ls hl => ?_)
  refine lv_bipush (v := (56 : Int32)) hx hb d_q_text_5 (by decide) ?_
  refine lv_istore (lv' := [(5, .int (56 : Int32)), (4, .int (1 : Int32)), (3, .int (0 : Int32)), (0, .ref (base + a0)), (1, .long a1)]) hx hb d_q_text_7 hl (by decide) rfl (fun ls hl => ?_)
  exact j_q_text_9 C KK a0 a1 (0 : Int32) (1 : Int32) (56 : Int32) w h _ _ _ hW (lv_sub hl [3, 4, 2, 1, 0] rfl)
abbrev b_q_clear : ByteArray := prog_11_method_6_code
def y_q_clear : MethodName := ⟨"AlarmForgeModel", "clear", "()I"⟩
def rm_q_clear : Room := { frames := 0, cells := 0, slots := 0, locals := 0 }
theorem d_q_clear_0 : decode b_q_clear 0 = .ok (.aload_n 0, 1) := by decide +kernel
theorem d_q_clear_1 : decode b_q_clear 1 = .ok (.iconst 0, 1) := by decide +kernel
theorem d_q_clear_2 : decode b_q_clear 2 = .ok (.putfield 148, 3) := by decide +kernel
theorem d_q_clear_5 : decode b_q_clear 5 = .ok (.aload_n 0, 1) := by decide +kernel
theorem d_q_clear_6 : decode b_q_clear 6 = .ok (.getfield 163, 3) := by decide +kernel
theorem d_q_clear_9 : decode b_q_clear 9 = .ok (.istore_n 1, 1) := by decide +kernel
theorem d_q_clear_10 : decode b_q_clear 10 = .ok (.aload_n 0, 1) := by decide +kernel
theorem d_q_clear_11 : decode b_q_clear 11 = .ok (.iconst 0, 1) := by decide +kernel
theorem d_q_clear_12 : decode b_q_clear 12 = .ok (.putfield 163, 3) := by decide +kernel
theorem d_q_clear_15 : decode b_q_clear 15 = .ok (.iload_n 1, 1) := by decide +kernel
theorem d_q_clear_16 : decode b_q_clear 16 = .ok (.ireturn, 1) := by decide +kernel
theorem kb_q_clear {a0 : Nat}  {w : WW} {r : (Int32 × WW)} (h : f_q_clear a0 w = some r) : kb w a0 9 = true := (its h).1
set_option maxHeartbeats 4000000 in
set_option maxRecDepth 100000 in
theorem c_q_clear (l : Launch) (D : va_G) (cA : Nat → ClassId) (base : Nat) {a0 : Nat} {w w' : WW} {r : Int32} (h : f_q_clear a0 w = some (r, w')) : mt l D cls (wo_tys cA) cA base y_q_clear (Cond.code y_q_clear b_q_clear 2 (some .int) :: gt) rm_q_clear [.ref (base + a0)] w (some (.int r)) w' rm_q_clear.cells rm_q_clear.slots := by
  refine mt_start (by decide) (Nat.le_of_ble_eq_true rfl) ?_
  intro p e s m below meth c ls hx hb hr hml hown hts hlk hnm hK hG hW hl
  have C : cx b_q_clear (some .int) 2 y_q_clear.cls "clear" p s m [.ref (base + a0)].toArray meth c D cA base := ⟨hx, hb, hr, hml, hown, hts, hlk, hnm, hK, hG⟩
  have hl : lv_has ls 2 [(0, .ref (base + a0))] := hl
  unfold f_q_clear at h
  replace h := its h
  obtain ⟨-, h⟩ := h
  refine lv_aload_n hx hb d_q_clear_0 rfl (lv_at hl 0 rfl) ?_
  refine lv_iconst (v := (0 : Int32)) hx hb d_q_clear_1 (by decide) ?_
  replace h := bs h
  obtain ⟨w1, hw1, h⟩ := h
  refine pf_q_148 hx hb hts hown hK hG hW rfl rfl (pbi hw1 rfl) d_q_clear_2 (fun H locs hW => ?_)
  refine lv_aload_n hx hb d_q_clear_5 rfl (lv_at hl 0 rfl) ?_
  replace h := bs h
  obtain ⟨x2, hx2, h⟩ := h
  refine gf_q_163 hx hb hts hown hK hG hW (gI_s hx2) d_q_clear_6 ?_
  refine lv_istore_n (lv' := [(1, .int x2), (0, .ref (base + a0))]) hx hb d_q_clear_9 rfl hl (by decide) rfl (fun ls hl => ?_)
  refine lv_aload_n hx hb d_q_clear_10 rfl (lv_at hl 1 rfl) ?_
  refine lv_iconst (v := (0 : Int32)) hx hb d_q_clear_11 (by decide) ?_
  replace h := bs h
  obtain ⟨w3, hw3, h⟩ := h
  refine pf_q_163 hx hb hts hown hK hG hW rfl rfl (pbi hw3 rfl) d_q_clear_12 (fun H locs hW => ?_)
  refine lv_iload_n hx hb d_q_clear_15 rfl (lv_at hl 0 rfl) ?_
  cases h
  exact wo_iret hx hb hr hlk hW d_q_clear_16
abbrev b_q_isDigit : ByteArray := prog_11_method_8_code
def y_q_isDigit : MethodName := ⟨"AlarmForgeModel", "isDigit", "(I)Z"⟩
def rm_q_isDigit : Room := { frames := 1, cells := 0, slots := 0, locals := 25 }
theorem d_q_isDigit_0 : decode b_q_isDigit 0 = .ok (.iload_n 0, 1) := by decide +kernel
theorem d_q_isDigit_1 : decode b_q_isDigit 1 = .ok (.i2l, 1) := by decide +kernel
theorem d_q_isDigit_2 : decode b_q_isDigit 2 = .ok (.ldc2_w 166, 3) := by decide +kernel
theorem d_q_isDigit_5 : decode b_q_isDigit 5 = .ok (.ldc2_w 168, 3) := by decide +kernel
theorem d_q_isDigit_8 : decode b_q_isDigit 8 = .ok (.invokestatic 155, 3) := by decide +kernel
theorem d_q_isDigit_11 : decode b_q_isDigit 11 = .ok (.ireturn, 1) := by decide +kernel
set_option maxHeartbeats 4000000 in
set_option maxRecDepth 100000 in
theorem c_q_isDigit (l : Launch) (D : va_G) (cA : Nat → ClassId) (base : Nat) {a0 : Int32} {w w' : WW} {r : Int32} (h : f_q_isDigit a0 w = some (r, w')) : mt l D cls (wo_tys cA) cA base y_q_isDigit (Cond.code y_q_isDigit b_q_isDigit 1 (some .boolean) :: gt) rm_q_isDigit [.int a0] w (some (.int r)) w' rm_q_isDigit.cells rm_q_isDigit.slots := by
  refine mt_start (by decide) (Nat.le_of_ble_eq_true rfl) ?_
  intro p e s m below meth c ls hx hb hr hml hown hts hlk hnm hK hG hW hl
  have C : cx b_q_isDigit (some .boolean) 1 y_q_isDigit.cls "isDigit" p s m [.int a0].toArray meth c D cA base := ⟨hx, hb, hr, hml, hown, hts, hlk, hnm, hK, hG⟩
  have hl : lv_has ls 1 [(0, .int a0)] := hl
  unfold f_q_isDigit at h
  refine lv_iload_n hx hb d_q_isDigit_0 rfl (lv_at hl 0 rfl) ?_
  refine lv_i2l hx hb d_q_isDigit_1 rfl ?_
  refine lv_ldc2 (own := Rc_q) (v := (48 : Int64)) hx hb hown (hts (.constantLong "AlarmForgeModel" 166 (48 : Int64)) (gt_of (i := 1397) (by decide +kernel) (by decide +kernel))) d_q_isDigit_2 ?_
  refine lv_ldc2 (own := Rc_q) (v := (57 : Int64)) hx hb hown (hts (.constantLong "AlarmForgeModel" 168 (57 : Int64)) (gt_of (i := 1398) (by decide +kernel) (by decide +kernel))) d_q_isDigit_5 ?_
  replace h := bs2 h
  obtain ⟨x2, w1, hw1, h⟩ := h
  refine cs_q_155 (As := [.long (Int32.toInt64 a0), .long (48 : Int64), .long (57 : Int64)]) (rest := []) hx hb hml hown hts hK hG hW (c_q_in l D cA base hw1) ⟨Nat.le_of_ble_eq_true rfl, Nat.le_of_ble_eq_true rfl⟩ ⟨Nat.le_of_ble_eq_true rfl, Nat.le_of_ble_eq_true rfl⟩ rfl hl.1 rfl (Nat.le_of_ble_eq_true rfl) d_q_isDigit_8 (fun H locs hW => ?_)
  replace h := its h
  obtain ⟨c3, h⟩ := h
  cases h
  exact wo_zret hx hb hr hlk hW c3 d_q_isDigit_11
abbrev b_q_charAt : ByteArray := prog_11_method_7_code
def y_q_charAt : MethodName := ⟨"AlarmForgeModel", "charAt", "(I)I"⟩
def rm_q_charAt : Room := { frames := 0, cells := 0, slots := 0, locals := 0 }
theorem d_q_charAt_0 : decode b_q_charAt 0 = .ok (.iload_n 1, 1) := by decide +kernel
theorem d_q_charAt_1 : decode b_q_charAt 1 = .ok (.aload_n 0, 1) := by decide +kernel
theorem d_q_charAt_2 : decode b_q_charAt 2 = .ok (.getfield 163, 3) := by decide +kernel
theorem d_q_charAt_5 : decode b_q_charAt 5 = .ok (.if_icmp .ge (12), 3) := by decide +kernel
theorem d_q_charAt_8 : decode b_q_charAt 8 = .ok (.aload_n 0, 1) := by decide +kernel
theorem d_q_charAt_9 : decode b_q_charAt 9 = .ok (.getfield 7, 3) := by decide +kernel
theorem d_q_charAt_12 : decode b_q_charAt 12 = .ok (.iload_n 1, 1) := by decide +kernel
theorem d_q_charAt_13 : decode b_q_charAt 13 = .ok (.iaload, 1) := by decide +kernel
theorem d_q_charAt_14 : decode b_q_charAt 14 = .ok (.goto (5), 3) := by decide +kernel
theorem d_q_charAt_17 : decode b_q_charAt 17 = .ok (.bipush (32), 2) := by decide +kernel
theorem d_q_charAt_19 : decode b_q_charAt 19 = .ok (.ireturn, 1) := by decide +kernel
theorem kb_q_charAt {a0 : Nat} {a1 : Int32} {w : WW} {r : (Int32 × WW)} (h : f_q_charAt a0 a1 w = some r) : kb w a0 9 = true := (its h).1
set_option maxHeartbeats 4000000 in
set_option maxRecDepth 100000 in
theorem j_q_charAt_19 {p : Program} {l : Launch} {e : Env} {s : State} {m : MethodId} {args : Array Value} {below : List Frame} {meth : Method} {c : Code} {D : va_G} {cA : Nat → ClassId} {base : Nat} {r : Int32} {w' : WW} (C : cx b_q_charAt (some .int) 2 y_q_charAt.cls "charAt" p s m args meth c D cA base)   : ∀ (z0 : Int32) (w : WW), f_q_charAt_19 z0 w = some (r, w') → ∀ (H : Heap) (locs : List Loc) (ls : Array Slot), wo_S D cls cA base s w H locs → lv_has ls 2 [] → W p l e rm_q_charAt s m args below meth c H locs 0 0 (MQ below (wo_Q D cls cA base (some (.int r)) w') args s rm_q_charAt.cells rm_q_charAt.slots (wo_B base)) (F0 m 19 ls [.int z0]) := by
  obtain ⟨hx, hb, hr, hml, hown, hts, hlk, hnm, hK, hG⟩ := id C
  intro z0 w h H locs ls hW hl
  unfold f_q_charAt_19 at h
  cases h
  exact wo_iret hx hb hr hlk hW d_q_charAt_19
set_option maxHeartbeats 4000000 in
set_option maxRecDepth 100000 in
theorem c_q_charAt (l : Launch) (D : va_G) (cA : Nat → ClassId) (base : Nat) {a0 : Nat} {a1 : Int32} {w w' : WW} {r : Int32} (h : f_q_charAt a0 a1 w = some (r, w')) : mt l D cls (wo_tys cA) cA base y_q_charAt (Cond.code y_q_charAt b_q_charAt 2 (some .int) :: gt) rm_q_charAt [.ref (base + a0), .int a1] w (some (.int r)) w' rm_q_charAt.cells rm_q_charAt.slots := by
  refine mt_start (by decide) (Nat.le_of_ble_eq_true rfl) ?_
  intro p e s m below meth c ls hx hb hr hml hown hts hlk hnm hK hG hW hl
  have C : cx b_q_charAt (some .int) 2 y_q_charAt.cls "charAt" p s m [.ref (base + a0), .int a1].toArray meth c D cA base := ⟨hx, hb, hr, hml, hown, hts, hlk, hnm, hK, hG⟩
  have hl : lv_has ls 2 [(0, .ref (base + a0)), (1, .int a1)] := hl
  unfold f_q_charAt at h
  replace h := its h
  obtain ⟨-, h⟩ := h
  refine lv_iload_n hx hb d_q_charAt_0 rfl (lv_at hl 1 rfl) ?_
  refine lv_aload_n hx hb d_q_charAt_1 rfl (lv_at hl 0 rfl) ?_
  replace h := bs h
  obtain ⟨x1, hx1, h⟩ := h
  refine gf_q_163 hx hb hts hown hK hG hW (gI_s hx1) d_q_charAt_2 ?_
  refine lv_icmp_ge (tgt := 17) hx hb d_q_charAt_5 (by decide) (fun c2 => ?_) (fun c2 => ?_)
  · rw [if_pos c2] at h
    refine lv_bipush (v := (32 : Int32)) hx hb d_q_charAt_17 (by decide) ?_
    exact j_q_charAt_19 C (32 : Int32) w h _ _ _ hW (lv_sub hl [] rfl)
  · rw [if_neg c2] at h
    refine lv_aload_n hx hb d_q_charAt_8 rfl (lv_at hl 0 rfl) ?_
    replace h := bs h
    obtain ⟨x3, hx3, h⟩ := h
    refine gf_q_7 hx hb hts hown hK hG hW (gN_s hx3) d_q_charAt_9 ?_
    refine lv_iload_n hx hb d_q_charAt_12 rfl (lv_at hl 1 rfl) ?_
    replace h := bs h
    obtain ⟨x4, hx4, h⟩ := h
    refine wo_iald hx hb hK hW (t := 0) rfl hx4 d_q_charAt_13 ?_
    refine lv_goto (tgt := 19) hx hb d_q_charAt_14 (by decide) ?_
    exact j_q_charAt_19 C x4 w h _ _ _ hW (lv_sub hl [] rfl)
abbrev b_q_isLetter : ByteArray := prog_11_method_9_code
def y_q_isLetter : MethodName := ⟨"AlarmForgeModel", "isLetter", "(I)Z"⟩
def rm_q_isLetter : Room := { frames := 1, cells := 0, slots := 0, locals := 25 }
theorem d_q_isLetter_0 : decode b_q_isLetter 0 = .ok (.iload_n 0, 1) := by decide +kernel
theorem d_q_isLetter_1 : decode b_q_isLetter 1 = .ok (.i2l, 1) := by decide +kernel
theorem d_q_isLetter_2 : decode b_q_isLetter 2 = .ok (.ldc2_w 170, 3) := by decide +kernel
theorem d_q_isLetter_5 : decode b_q_isLetter 5 = .ok (.ldc2_w 172, 3) := by decide +kernel
theorem d_q_isLetter_8 : decode b_q_isLetter 8 = .ok (.invokestatic 155, 3) := by decide +kernel
theorem d_q_isLetter_11 : decode b_q_isLetter 11 = .ok (.ifCond .ne (17), 3) := by decide +kernel
theorem d_q_isLetter_14 : decode b_q_isLetter 14 = .ok (.iload_n 0, 1) := by decide +kernel
theorem d_q_isLetter_15 : decode b_q_isLetter 15 = .ok (.i2l, 1) := by decide +kernel
theorem d_q_isLetter_16 : decode b_q_isLetter 16 = .ok (.ldc2_w 174, 3) := by decide +kernel
theorem d_q_isLetter_19 : decode b_q_isLetter 19 = .ok (.ldc2_w 176, 3) := by decide +kernel
theorem d_q_isLetter_22 : decode b_q_isLetter 22 = .ok (.invokestatic 155, 3) := by decide +kernel
theorem d_q_isLetter_25 : decode b_q_isLetter 25 = .ok (.ifCond .eq (7), 3) := by decide +kernel
theorem d_q_isLetter_28 : decode b_q_isLetter 28 = .ok (.iconst 1, 1) := by decide +kernel
theorem d_q_isLetter_29 : decode b_q_isLetter 29 = .ok (.goto (4), 3) := by decide +kernel
theorem d_q_isLetter_32 : decode b_q_isLetter 32 = .ok (.iconst 0, 1) := by decide +kernel
theorem d_q_isLetter_33 : decode b_q_isLetter 33 = .ok (.ireturn, 1) := by decide +kernel
set_option maxHeartbeats 4000000 in
set_option maxRecDepth 100000 in
theorem j_q_isLetter_33 {p : Program} {l : Launch} {e : Env} {s : State} {m : MethodId} {args : Array Value} {below : List Frame} {meth : Method} {c : Code} {D : va_G} {cA : Nat → ClassId} {base : Nat} {r : Int32} {w' : WW} (C : cx b_q_isLetter (some .boolean) 1 y_q_isLetter.cls "isLetter" p s m args meth c D cA base)   : ∀ (z0 : Int32) (w : WW), f_q_isLetter_33 z0 w = some (r, w') → ∀ (H : Heap) (locs : List Loc) (ls : Array Slot), wo_S D cls cA base s w H locs → lv_has ls 1 [] → W p l e rm_q_isLetter s m args below meth c H locs 0 0 (MQ below (wo_Q D cls cA base (some (.int r)) w') args s rm_q_isLetter.cells rm_q_isLetter.slots (wo_B base)) (F0 m 33 ls [.int z0]) := by
  obtain ⟨hx, hb, hr, hml, hown, hts, hlk, hnm, hK, hG⟩ := id C
  intro z0 w h H locs ls hW hl
  unfold f_q_isLetter_33 at h
  replace h := its h
  obtain ⟨c4, h⟩ := h
  cases h
  exact wo_zret hx hb hr hlk hW c4 d_q_isLetter_33
set_option maxHeartbeats 4000000 in
set_option maxRecDepth 100000 in
theorem j_q_isLetter_28 {p : Program} {l : Launch} {e : Env} {s : State} {m : MethodId} {args : Array Value} {below : List Frame} {meth : Method} {c : Code} {D : va_G} {cA : Nat → ClassId} {base : Nat} {r : Int32} {w' : WW} (C : cx b_q_isLetter (some .boolean) 1 y_q_isLetter.cls "isLetter" p s m args meth c D cA base)   : ∀  (w : WW), f_q_isLetter_28  w = some (r, w') → ∀ (H : Heap) (locs : List Loc) (ls : Array Slot), wo_S D cls cA base s w H locs → lv_has ls 1 [] → W p l e rm_q_isLetter s m args below meth c H locs 0 0 (MQ below (wo_Q D cls cA base (some (.int r)) w') args s rm_q_isLetter.cells rm_q_isLetter.slots (wo_B base)) (F0 m 28 ls []) := by
  obtain ⟨hx, hb, hr, hml, hown, hts, hlk, hnm, hK, hG⟩ := id C
  intro  w h H locs ls hW hl
  unfold f_q_isLetter_28 at h
  refine lv_iconst (v := (1 : Int32)) hx hb d_q_isLetter_28 (by decide) ?_
  refine lv_goto (tgt := 33) hx hb d_q_isLetter_29 (by decide) ?_
  exact j_q_isLetter_33 C (1 : Int32) w h _ _ _ hW (lv_sub hl [] rfl)
set_option maxHeartbeats 4000000 in
set_option maxRecDepth 100000 in
theorem c_q_isLetter (l : Launch) (D : va_G) (cA : Nat → ClassId) (base : Nat) {a0 : Int32} {w w' : WW} {r : Int32} (h : f_q_isLetter a0 w = some (r, w')) : mt l D cls (wo_tys cA) cA base y_q_isLetter (Cond.code y_q_isLetter b_q_isLetter 1 (some .boolean) :: gt) rm_q_isLetter [.int a0] w (some (.int r)) w' rm_q_isLetter.cells rm_q_isLetter.slots := by
  refine mt_start (by decide) (Nat.le_of_ble_eq_true rfl) ?_
  intro p e s m below meth c ls hx hb hr hml hown hts hlk hnm hK hG hW hl
  have C : cx b_q_isLetter (some .boolean) 1 y_q_isLetter.cls "isLetter" p s m [.int a0].toArray meth c D cA base := ⟨hx, hb, hr, hml, hown, hts, hlk, hnm, hK, hG⟩
  have hl : lv_has ls 1 [(0, .int a0)] := hl
  unfold f_q_isLetter at h
  refine lv_iload_n hx hb d_q_isLetter_0 rfl (lv_at hl 0 rfl) ?_
  refine lv_i2l hx hb d_q_isLetter_1 rfl ?_
  refine lv_ldc2 (own := Rc_q) (v := (65 : Int64)) hx hb hown (hts (.constantLong "AlarmForgeModel" 170 (65 : Int64)) (gt_of (i := 1406) (by decide +kernel) (by decide +kernel))) d_q_isLetter_2 ?_
  refine lv_ldc2 (own := Rc_q) (v := (90 : Int64)) hx hb hown (hts (.constantLong "AlarmForgeModel" 172 (90 : Int64)) (gt_of (i := 1407) (by decide +kernel) (by decide +kernel))) d_q_isLetter_5 ?_
  replace h := bs2 h
  obtain ⟨x2, w1, hw1, h⟩ := h
  refine cs_q_155 (As := [.long (Int32.toInt64 a0), .long (65 : Int64), .long (90 : Int64)]) (rest := []) hx hb hml hown hts hK hG hW (c_q_in l D cA base hw1) ⟨Nat.le_of_ble_eq_true rfl, Nat.le_of_ble_eq_true rfl⟩ ⟨Nat.le_of_ble_eq_true rfl, Nat.le_of_ble_eq_true rfl⟩ rfl hl.1 rfl (Nat.le_of_ble_eq_true rfl) d_q_isLetter_8 (fun H locs hW => ?_)
  refine lv_if_ne (tgt := 28) hx hb d_q_isLetter_11 (by decide) (fun c3 => ?_) (fun c3 => ?_)
  · rw [if_neg c3] at h
    exact j_q_isLetter_28 C w1 h _ _ _ hW (lv_sub hl [] rfl)
  · rw [if_pos c3] at h
    refine lv_iload_n hx hb d_q_isLetter_14 rfl (lv_at hl 0 rfl) ?_
    refine lv_i2l hx hb d_q_isLetter_15 rfl ?_
    refine lv_ldc2 (own := Rc_q) (v := (97 : Int64)) hx hb hown (hts (.constantLong "AlarmForgeModel" 174 (97 : Int64)) (gt_of (i := 1408) (by decide +kernel) (by decide +kernel))) d_q_isLetter_16 ?_
    refine lv_ldc2 (own := Rc_q) (v := (122 : Int64)) hx hb hown (hts (.constantLong "AlarmForgeModel" 176 (122 : Int64)) (gt_of (i := 1409) (by decide +kernel) (by decide +kernel))) d_q_isLetter_19 ?_
    replace h := bs2 h
    obtain ⟨x6, w5, hw5, h⟩ := h
    refine cs_q_155 (As := [.long (Int32.toInt64 a0), .long (97 : Int64), .long (122 : Int64)]) (rest := []) hx hb hml hown hts hK hG hW (c_q_in l D cA base hw5) ⟨Nat.le_of_ble_eq_true rfl, Nat.le_of_ble_eq_true rfl⟩ ⟨Nat.le_of_ble_eq_true rfl, Nat.le_of_ble_eq_true rfl⟩ rfl hl.1 rfl (Nat.le_of_ble_eq_true rfl) d_q_isLetter_22 (fun H locs hW => ?_)
    refine lv_if_eq (tgt := 32) hx hb d_q_isLetter_25 (by decide) (fun c7 => ?_) (fun c7 => ?_)
    · rw [if_pos c7] at h
      refine lv_iconst (v := (0 : Int32)) hx hb d_q_isLetter_32 (by decide) ?_
      exact j_q_isLetter_33 C (0 : Int32) w5 h _ _ _ hW (lv_sub hl [] rfl)
    · rw [if_neg c7] at h
      exact j_q_isLetter_28 C w5 h _ _ _ hW (lv_sub hl [] rfl)
abbrev b_q_five : ByteArray := prog_11_method_11_code
def y_q_five : MethodName := ⟨"AlarmForgeModel", "five", "(IIIII)J"⟩
def rm_q_five : Room := { frames := 0, cells := 0, slots := 0, locals := 0 }
theorem d_q_five_0 : decode b_q_five 0 = .ok (.iload_n 0, 1) := by decide +kernel
theorem d_q_five_1 : decode b_q_five 1 = .ok (.i2l, 1) := by decide +kernel
theorem d_q_five_2 : decode b_q_five 2 = .ok (.ldc2_w 184, 3) := by decide +kernel
theorem d_q_five_5 : decode b_q_five 5 = .ok (.lmul, 1) := by decide +kernel
theorem d_q_five_6 : decode b_q_five 6 = .ok (.iload_n 1, 1) := by decide +kernel
theorem d_q_five_7 : decode b_q_five 7 = .ok (.i2l, 1) := by decide +kernel
theorem d_q_five_8 : decode b_q_five 8 = .ok (.ladd, 1) := by decide +kernel
theorem d_q_five_9 : decode b_q_five 9 = .ok (.ldc2_w 184, 3) := by decide +kernel
theorem d_q_five_12 : decode b_q_five 12 = .ok (.lmul, 1) := by decide +kernel
theorem d_q_five_13 : decode b_q_five 13 = .ok (.iload_n 2, 1) := by decide +kernel
theorem d_q_five_14 : decode b_q_five 14 = .ok (.i2l, 1) := by decide +kernel
theorem d_q_five_15 : decode b_q_five 15 = .ok (.ladd, 1) := by decide +kernel
theorem d_q_five_16 : decode b_q_five 16 = .ok (.ldc2_w 184, 3) := by decide +kernel
theorem d_q_five_19 : decode b_q_five 19 = .ok (.lmul, 1) := by decide +kernel
theorem d_q_five_20 : decode b_q_five 20 = .ok (.iload_n 3, 1) := by decide +kernel
theorem d_q_five_21 : decode b_q_five 21 = .ok (.i2l, 1) := by decide +kernel
theorem d_q_five_22 : decode b_q_five 22 = .ok (.ladd, 1) := by decide +kernel
theorem d_q_five_23 : decode b_q_five 23 = .ok (.ldc2_w 184, 3) := by decide +kernel
theorem d_q_five_26 : decode b_q_five 26 = .ok (.lmul, 1) := by decide +kernel
theorem d_q_five_27 : decode b_q_five 27 = .ok (.iload 4, 2) := by decide +kernel
theorem d_q_five_29 : decode b_q_five 29 = .ok (.i2l, 1) := by decide +kernel
theorem d_q_five_30 : decode b_q_five 30 = .ok (.ladd, 1) := by decide +kernel
theorem d_q_five_31 : decode b_q_five 31 = .ok (.lreturn, 1) := by decide +kernel
set_option maxHeartbeats 4000000 in
set_option maxRecDepth 100000 in
theorem c_q_five (l : Launch) (D : va_G) (cA : Nat → ClassId) (base : Nat) {a0 : Int32} {a1 : Int32} {a2 : Int32} {a3 : Int32} {a4 : Int32} {w w' : WW} {r : Int64} (h : f_q_five a0 a1 a2 a3 a4 w = some (r, w')) : mt l D cls (wo_tys cA) cA base y_q_five (Cond.code y_q_five b_q_five 5 (some .long) :: gt) rm_q_five [.int a0, .int a1, .int a2, .int a3, .int a4] w (some (.long r)) w' rm_q_five.cells rm_q_five.slots := by
  refine mt_start (by decide) (Nat.le_of_ble_eq_true rfl) ?_
  intro p e s m below meth c ls hx hb hr hml hown hts hlk hnm hK hG hW hl
  have C : cx b_q_five (some .long) 5 y_q_five.cls "five" p s m [.int a0, .int a1, .int a2, .int a3, .int a4].toArray meth c D cA base := ⟨hx, hb, hr, hml, hown, hts, hlk, hnm, hK, hG⟩
  have hl : lv_has ls 5 [(0, .int a0), (1, .int a1), (2, .int a2), (3, .int a3), (4, .int a4)] := hl
  unfold f_q_five at h
  refine lv_iload_n hx hb d_q_five_0 rfl (lv_at hl 0 rfl) ?_
  refine lv_i2l hx hb d_q_five_1 rfl ?_
  refine lv_ldc2 (own := Rc_q) (v := (128 : Int64)) hx hb hown (hts (.constantLong "AlarmForgeModel" 184 (128 : Int64)) (gt_of (i := 1419) (by decide +kernel) (by decide +kernel))) d_q_five_2 ?_
  refine lv_lmul hx hb d_q_five_5 ?_
  refine lv_iload_n hx hb d_q_five_6 rfl (lv_at hl 1 rfl) ?_
  refine lv_i2l hx hb d_q_five_7 rfl ?_
  refine lv_ladd hx hb d_q_five_8 ?_
  refine lv_ldc2 (own := Rc_q) (v := (128 : Int64)) hx hb hown (hts (.constantLong "AlarmForgeModel" 184 (128 : Int64)) (gt_of (i := 1419) (by decide +kernel) (by decide +kernel))) d_q_five_9 ?_
  refine lv_lmul hx hb d_q_five_12 ?_
  refine lv_iload_n hx hb d_q_five_13 rfl (lv_at hl 2 rfl) ?_
  refine lv_i2l hx hb d_q_five_14 rfl ?_
  refine lv_ladd hx hb d_q_five_15 ?_
  refine lv_ldc2 (own := Rc_q) (v := (128 : Int64)) hx hb hown (hts (.constantLong "AlarmForgeModel" 184 (128 : Int64)) (gt_of (i := 1419) (by decide +kernel) (by decide +kernel))) d_q_five_16 ?_
  refine lv_lmul hx hb d_q_five_19 ?_
  refine lv_iload_n hx hb d_q_five_20 rfl (lv_at hl 3 rfl) ?_
  refine lv_i2l hx hb d_q_five_21 rfl ?_
  refine lv_ladd hx hb d_q_five_22 ?_
  refine lv_ldc2 (own := Rc_q) (v := (128 : Int64)) hx hb hown (hts (.constantLong "AlarmForgeModel" 184 (128 : Int64)) (gt_of (i := 1419) (by decide +kernel) (by decide +kernel))) d_q_five_23 ?_
  refine lv_lmul hx hb d_q_five_26 ?_
  refine lv_iload hx hb d_q_five_27 (lv_at hl 4 rfl) ?_
  refine lv_i2l hx hb d_q_five_29 rfl ?_
  refine lv_ladd hx hb d_q_five_30 ?_
  cases h
  exact wo_lret hx hb hr hlk hW d_q_five_31
abbrev b_q_isText : ByteArray := prog_11_method_10_code
def y_q_isText : MethodName := ⟨"AlarmForgeModel", "isText", "(IJ)Z"⟩
def rm_q_isText : Room := { frames := 0, cells := 0, slots := 0, locals := 0 }
theorem d_q_isText_0 : decode b_q_isText 0 = .ok (.aload_n 0, 1) := by decide +kernel
theorem d_q_isText_1 : decode b_q_isText 1 = .ok (.getfield 178, 3) := by decide +kernel
theorem d_q_isText_4 : decode b_q_isText 4 = .ok (.aload_n 0, 1) := by decide +kernel
theorem d_q_isText_5 : decode b_q_isText 5 = .ok (.getfield 181, 3) := by decide +kernel
theorem d_q_isText_8 : decode b_q_isText 8 = .ok (.isub, 1) := by decide +kernel
theorem d_q_isText_9 : decode b_q_isText 9 = .ok (.iload_n 1, 1) := by decide +kernel
theorem d_q_isText_10 : decode b_q_isText 10 = .ok (.if_icmp .eq (5), 3) := by decide +kernel
theorem d_q_isText_13 : decode b_q_isText 13 = .ok (.iconst 0, 1) := by decide +kernel
theorem d_q_isText_14 : decode b_q_isText 14 = .ok (.ireturn, 1) := by decide +kernel
theorem d_q_isText_15 : decode b_q_isText 15 = .ok (.lload_n 2, 1) := by decide +kernel
theorem d_q_isText_16 : decode b_q_isText 16 = .ok (.lstore 4, 2) := by decide +kernel
theorem d_q_isText_18 : decode b_q_isText 18 = .ok (.aload_n 0, 1) := by decide +kernel
theorem d_q_isText_19 : decode b_q_isText 19 = .ok (.getfield 178, 3) := by decide +kernel
theorem d_q_isText_22 : decode b_q_isText 22 = .ok (.iconst 1, 1) := by decide +kernel
theorem d_q_isText_23 : decode b_q_isText 23 = .ok (.isub, 1) := by decide +kernel
theorem d_q_isText_24 : decode b_q_isText 24 = .ok (.istore 6, 2) := by decide +kernel
theorem d_q_isText_26 : decode b_q_isText 26 = .ok (.iload 6, 2) := by decide +kernel
theorem d_q_isText_28 : decode b_q_isText 28 = .ok (.aload_n 0, 1) := by decide +kernel
theorem d_q_isText_29 : decode b_q_isText 29 = .ok (.getfield 181, 3) := by decide +kernel
theorem d_q_isText_32 : decode b_q_isText 32 = .ok (.if_icmp .lt (37), 3) := by decide +kernel
theorem d_q_isText_35 : decode b_q_isText 35 = .ok (.aload_n 0, 1) := by decide +kernel
theorem d_q_isText_36 : decode b_q_isText 36 = .ok (.getfield 7, 3) := by decide +kernel
theorem d_q_isText_39 : decode b_q_isText 39 = .ok (.iload 6, 2) := by decide +kernel
theorem d_q_isText_41 : decode b_q_isText 41 = .ok (.iaload, 1) := by decide +kernel
theorem d_q_isText_42 : decode b_q_isText 42 = .ok (.i2l, 1) := by decide +kernel
theorem d_q_isText_43 : decode b_q_isText 43 = .ok (.lload 4, 2) := by decide +kernel
theorem d_q_isText_45 : decode b_q_isText 45 = .ok (.ldc2_w 184, 3) := by decide +kernel
theorem d_q_isText_48 : decode b_q_isText 48 = .ok (.lrem, 1) := by decide +kernel
theorem d_q_isText_49 : decode b_q_isText 49 = .ok (.lcmp, 1) := by decide +kernel
theorem d_q_isText_50 : decode b_q_isText 50 = .ok (.ifCond .eq (5), 3) := by decide +kernel
theorem d_q_isText_53 : decode b_q_isText 53 = .ok (.iconst 0, 1) := by decide +kernel
theorem d_q_isText_54 : decode b_q_isText 54 = .ok (.ireturn, 1) := by decide +kernel
theorem d_q_isText_55 : decode b_q_isText 55 = .ok (.lload 4, 2) := by decide +kernel
theorem d_q_isText_57 : decode b_q_isText 57 = .ok (.ldc2_w 184, 3) := by decide +kernel
theorem d_q_isText_60 : decode b_q_isText 60 = .ok (.ldiv, 1) := by decide +kernel
theorem d_q_isText_61 : decode b_q_isText 61 = .ok (.lstore 4, 2) := by decide +kernel
theorem d_q_isText_63 : decode b_q_isText 63 = .ok (.iinc 6 (-1), 3) := by decide +kernel
theorem d_q_isText_66 : decode b_q_isText 66 = .ok (.goto (-40), 3) := by decide +kernel
theorem d_q_isText_69 : decode b_q_isText 69 = .ok (.iconst 1, 1) := by decide +kernel
theorem d_q_isText_70 : decode b_q_isText 70 = .ok (.ireturn, 1) := by decide +kernel
theorem kb_q_isText {a0 : Nat} {a1 : Int32} {a2 : Int64} {w : WW} {r : (Int32 × WW)} (h : f_q_isText a0 a1 a2 w = some r) : kb w a0 9 = true := (its h).1
set_option maxHeartbeats 4000000 in
set_option maxRecDepth 100000 in
theorem j_q_isText_26 {p : Program} {l : Launch} {e : Env} {s : State} {m : MethodId} {args : Array Value} {below : List Frame} {meth : Method} {c : Code} {D : va_G} {cA : Nat → ClassId} {base : Nat} {r : Int32} {w' : WW} (C : cx b_q_isText (some .boolean) 7 y_q_isText.cls "isText" p s m args meth c D cA base)   : ∀ n : Nat, ∀ (y0 : Nat) (y4 : Int64) (y6 : Int32) (w : WW), f_q_isText_26 n y0 y4 y6 w = some (r, w') → ∀ (H : Heap) (locs : List Loc) (ls : Array Slot), wo_S D cls cA base s w H locs → lv_has ls 7 [(0, .ref (base + y0)), (4, .long y4), (6, .int y6)] → W p l e rm_q_isText s m args below meth c H locs 0 0 (MQ below (wo_Q D cls cA base (some (.int r)) w') args s rm_q_isText.cells rm_q_isText.slots (wo_B base)) (F0 m 26 ls []) := by
  obtain ⟨hx, hb, hr, hml, hown, hts, hlk, hnm, hK, hG⟩ := id C
  intro n
  induction n with
  | zero => intro y0 y4 y6 w h; cases h
  | succ n ih =>
    intro y0 y4 y6 w h H locs ls hW hl
    rw [f_q_isText_26] at h
    refine lv_iload hx hb d_q_isText_26 (lv_at hl 2 rfl) ?_
    refine lv_aload_n hx hb d_q_isText_28 rfl (lv_at hl 0 rfl) ?_
    replace h := bs h
    obtain ⟨x5, hx5, h⟩ := h
    refine gf_q_181 hx hb hts hown hK hG hW (gI_s hx5) d_q_isText_29 ?_
    refine lv_icmp_lt (tgt := 69) hx hb d_q_isText_32 (by decide) (fun c6 => ?_) (fun c6 => ?_)
    · rw [if_pos c6] at h
      refine lv_iconst (v := (1 : Int32)) hx hb d_q_isText_69 (by decide) ?_
      replace h := its h
      obtain ⟨c7, h⟩ := h
      cases h
      exact wo_zret hx hb hr hlk hW c7 d_q_isText_70
    · rw [if_neg c6] at h
      refine lv_aload_n hx hb d_q_isText_35 rfl (lv_at hl 0 rfl) ?_
      replace h := bs h
      obtain ⟨x8, hx8, h⟩ := h
      refine gf_q_7 hx hb hts hown hK hG hW (gN_s hx8) d_q_isText_36 ?_
      refine lv_iload hx hb d_q_isText_39 (lv_at hl 2 rfl) ?_
      replace h := bs h
      obtain ⟨x9, hx9, h⟩ := h
      refine wo_iald hx hb hK hW (t := 0) rfl hx9 d_q_isText_41 ?_
      refine lv_i2l hx hb d_q_isText_42 rfl ?_
      refine lv_lload hx hb d_q_isText_43 (lv_at hl 1 rfl) ?_
      refine lv_ldc2 (own := Rc_q) (v := (128 : Int64)) hx hb hown (hts (.constantLong "AlarmForgeModel" 184 (128 : Int64)) (gt_of (i := 1419) (by decide +kernel) (by decide +kernel))) d_q_isText_45 ?_
      replace h := its h
      obtain ⟨c10, h⟩ := h
      refine lv_lrem hx hb d_q_isText_48 c10 ?_
      refine lc_eq (tgt := 55) hx hb d_q_isText_49 d_q_isText_50 (by decide) (fun c11 => ?_) (fun c11 => ?_)
      · rw [if_pos c11] at h
        refine lv_lload hx hb d_q_isText_55 (lv_at hl 1 rfl) ?_
        refine lv_ldc2 (own := Rc_q) (v := (128 : Int64)) hx hb hown (hts (.constantLong "AlarmForgeModel" 184 (128 : Int64)) (gt_of (i := 1419) (by decide +kernel) (by decide +kernel))) d_q_isText_57 ?_
        replace h := its h
        obtain ⟨c12, h⟩ := h
        refine lv_ldiv hx hb d_q_isText_60 c12 ?_
        refine lv_lstore (lv' := [(4, .long (y4 / (128 : Int64))), (0, .ref (base + y0)), (6, .int y6)]) hx hb d_q_isText_61 hl (by decide) rfl (fun ls hl => ?_)
        refine lv_iinc (v := (y6 + (-1 : Int32))) (lv' := [(6, .int (y6 + (-1 : Int32))), (4, .long (y4 / (128 : Int64))), (0, .ref (base + y0))]) hx hb d_q_isText_63 hl (k := 2) rfl rfl (by decide) rfl (fun ls hl => ?_)
        refine lv_goto (tgt := 26) hx hb d_q_isText_66 (by decide) ?_
        exact ih y0 (y4 / (128 : Int64)) (y6 + (-1 : Int32)) w h _ _ _ hW (lv_sub hl [2, 1, 0] rfl)
      · rw [if_neg c11] at h
        refine lv_iconst (v := (0 : Int32)) hx hb d_q_isText_53 (by decide) ?_
        replace h := its h
        obtain ⟨c13, h⟩ := h
        cases h
        exact wo_zret hx hb hr hlk hW c13 d_q_isText_54
set_option maxHeartbeats 4000000 in
set_option maxRecDepth 100000 in
theorem c_q_isText (l : Launch) (D : va_G) (cA : Nat → ClassId) (base : Nat) {a0 : Nat} {a1 : Int32} {a2 : Int64} {w w' : WW} {r : Int32} (h : f_q_isText a0 a1 a2 w = some (r, w')) : mt l D cls (wo_tys cA) cA base y_q_isText (Cond.code y_q_isText b_q_isText 7 (some .boolean) :: gt) rm_q_isText [.ref (base + a0), .int a1, .long a2] w (some (.int r)) w' rm_q_isText.cells rm_q_isText.slots := by
  refine mt_start (by decide) (Nat.le_of_ble_eq_true rfl) ?_
  intro p e s m below meth c ls hx hb hr hml hown hts hlk hnm hK hG hW hl
  have C : cx b_q_isText (some .boolean) 7 y_q_isText.cls "isText" p s m [.ref (base + a0), .int a1, .long a2].toArray meth c D cA base := ⟨hx, hb, hr, hml, hown, hts, hlk, hnm, hK, hG⟩
  have hl : lv_has ls 7 [(0, .ref (base + a0)), (1, .int a1), (2, .long a2)] := hl
  unfold f_q_isText at h
  replace h := its h
  obtain ⟨-, h⟩ := h
  refine lv_aload_n hx hb d_q_isText_0 rfl (lv_at hl 0 rfl) ?_
  replace h := bs h
  obtain ⟨x1, hx1, h⟩ := h
  refine gf_q_178 hx hb hts hown hK hG hW (gI_s hx1) d_q_isText_1 ?_
  refine lv_aload_n hx hb d_q_isText_4 rfl (lv_at hl 0 rfl) ?_
  replace h := bs h
  obtain ⟨x2, hx2, h⟩ := h
  refine gf_q_181 hx hb hts hown hK hG hW (gI_s hx2) d_q_isText_5 ?_
  refine lv_isub hx hb d_q_isText_8 ?_
  refine lv_iload_n hx hb d_q_isText_9 rfl (lv_at hl 1 rfl) ?_
  refine lv_icmp_eq (tgt := 15) hx hb d_q_isText_10 (by decide) (fun c3 => ?_) (fun c3 => ?_)
  · rw [if_pos c3] at h
    refine lv_lload_n hx hb d_q_isText_15 rfl (lv_at hl 2 rfl) ?_
    refine lv_lstore (lv' := [(4, .long a2), (0, .ref (base + a0)), (1, .int a1), (2, .long a2)]) hx hb d_q_isText_16 hl (by decide) rfl (fun ls hl => ?_)
    refine lv_aload_n hx hb d_q_isText_18 rfl (lv_at hl 1 rfl) ?_
    replace h := bs h
    obtain ⟨x4, hx4, h⟩ := h
    refine gf_q_178 hx hb hts hown hK hG hW (gI_s hx4) d_q_isText_19 ?_
    refine lv_iconst (v := (1 : Int32)) hx hb d_q_isText_22 (by decide) ?_
    refine lv_isub hx hb d_q_isText_23 ?_
    refine lv_istore (lv' := [(6, .int (x4 - (1 : Int32))), (4, .long a2), (0, .ref (base + a0)), (1, .int a1), (2, .long a2)]) hx hb d_q_isText_24 hl (by decide) rfl (fun ls hl => ?_)
    exact j_q_isText_26 C KK a0 a2 (x4 - (1 : Int32)) w h _ _ _ hW (lv_sub hl [2, 1, 0] rfl)
  · rw [if_neg c3] at h
    refine lv_iconst (v := (0 : Int32)) hx hb d_q_isText_13 (by decide) ?_
    replace h := its h
    obtain ⟨c14, h⟩ := h
    cases h
    exact wo_zret hx hb hr hlk hW c14 d_q_isText_14
theorem cv_q_186 {p : Program} {l : Launch} {e : Env} {R : Room} {s : State} {m : MethodId} {args : Array Value} {below : List Frame} {meth : Method} {c : Code} {H : Heap} {locs : List Loc} {cells slots : Nat} {Q : State → Prop} {D : va_G} {cA : Nat → ClassId} {base : Nat} {w w' : WW} {cc : ByteArray} {pc nL : Nat} {ls : Array Slot} {rest st0 As : List Value} {ov : Option Value} {b : Nat} (hx : p.tables.exec = Jvm.exec) (hb : c.code = cc) (hml : c.maxLocals = nL) (hown : s.vm.findClass Rc_q = some m.cls) (hts : ∀ w ∈ gt, w.before args s = true) (hK : va_K D cls (wo_tys cA) s) (hG : wo_G cA base s) (hW : wo_S D cls cA base s w H locs) (hM : mt l D cls (wo_tys cA) cA base y_q_charAt (Cond.code y_q_charAt b_q_charAt 2 (some .int) :: gt) rm_q_charAt (.ref (base + b) :: As) w ov w' rm_q_charAt.cells rm_q_charAt.slots) (hkb : kb w b 9 = true) (hR : rm_q_charAt.frames + 1 ≤ R.frames ∧ 8 + (2 + 11) + rm_q_charAt.locals ≤ R.locals) (hf : cells + rm_q_charAt.cells ≤ R.cells ∧ slots + rm_q_charAt.slots ≤ R.slots) (hn : As.length = 1) (hsz : ls.size = nL) (hst : st0 = As.reverse ++ .ref (base + b) :: rest) (hcat : (rest.map fun v => v.category).sum ≤ 8) (hdg : decode cc pc = .ok (.invokevirtual 186, 3)) (kk : ∀ (H1 : Heap) (locs1 : List Loc), wo_S D cls cA base s w' H1 locs1 → W p l e R s m args below meth c H1 locs1 (cells + rm_q_charAt.cells) (slots + rm_q_charAt.slots) Q (F0 m (pc + 3) ls (ov.toList ++ rest))) : W p l e R s m args below meth c H locs cells slots Q (F0 m pc ls st0) :=
  wo_callV (C := Rc_q) hx hb hml hown hts hK hG hW hM hkb rfl (gt_of (i := 1399) (by decide +kernel) (by decide +kernel)) (gt_of (i := 1401) (by decide +kernel) (by decide +kernel)) (gt_sel (i := 60) (by decide +kernel) (by decide +kernel)) (gt_of (i := 10) (by decide +kernel) (by decide +kernel)) (gt_of (i := 1402) (by decide +kernel) (by decide +kernel)) (by decide +kernel) hR hf hn hsz hst hcat hdg kk
theorem cs_q_189 {p : Program} {l : Launch} {e : Env} {R : Room} {s : State} {m : MethodId} {args : Array Value} {below : List Frame} {meth : Method} {c : Code} {H : Heap} {locs : List Loc} {cells slots : Nat} {Q : State → Prop} {D : va_G} {cA : Nat → ClassId} {base : Nat} {w w' : WW} {cc : ByteArray} {pc nL : Nat} {ls : Array Slot} {rest st0 As : List Value} {ov : Option Value} (hx : p.tables.exec = Jvm.exec) (hb : c.code = cc) (hml : c.maxLocals = nL) (hown : s.vm.findClass Rc_q = some m.cls) (hts : ∀ w ∈ gt, w.before args s = true) (hK : va_K D cls (wo_tys cA) s) (hG : wo_G cA base s) (hW : wo_S D cls cA base s w H locs) (hM : mt l D cls (wo_tys cA) cA base y_q_isLetter (Cond.code y_q_isLetter b_q_isLetter 1 (some .boolean) :: gt) rm_q_isLetter (As) w ov w' rm_q_isLetter.cells rm_q_isLetter.slots) (hR : rm_q_isLetter.frames + 1 ≤ R.frames ∧ 8 + (1 + 11) + rm_q_isLetter.locals ≤ R.locals) (hf : cells + rm_q_isLetter.cells ≤ R.cells ∧ slots + rm_q_isLetter.slots ≤ R.slots) (hn : As.length = 1) (hsz : ls.size = nL) (hst : st0 = As.reverse ++ rest) (hcat : (rest.map fun v => v.category).sum ≤ 8) (hdg : decode cc pc = .ok (.invokestatic 189, 3)) (kk : ∀ (H1 : Heap) (locs1 : List Loc), wo_S D cls cA base s w' H1 locs1 → W p l e R s m args below meth c H1 locs1 (cells + rm_q_isLetter.cells) (slots + rm_q_isLetter.slots) Q (F0 m (pc + 3) ls (ov.toList ++ rest))) : W p l e R s m args below meth c H locs cells slots Q (F0 m pc ls st0) :=
  wo_callS hx hb hml hown hts hK hG hW hM (gt_of (i := 1403) (by decide +kernel) (by decide +kernel)) (gt_of (i := 1404) (by decide +kernel) (by decide +kernel)) (gt_of (i := 10) (by decide +kernel) (by decide +kernel)) (gt_of (i := 1405) (by decide +kernel) (by decide +kernel)) (by decide +kernel) hR hf hn hsz hst hcat hdg kk
theorem cs_q_203 {p : Program} {l : Launch} {e : Env} {R : Room} {s : State} {m : MethodId} {args : Array Value} {below : List Frame} {meth : Method} {c : Code} {H : Heap} {locs : List Loc} {cells slots : Nat} {Q : State → Prop} {D : va_G} {cA : Nat → ClassId} {base : Nat} {w w' : WW} {cc : ByteArray} {pc nL : Nat} {ls : Array Slot} {rest st0 As : List Value} {ov : Option Value} (hx : p.tables.exec = Jvm.exec) (hb : c.code = cc) (hml : c.maxLocals = nL) (hown : s.vm.findClass Rc_q = some m.cls) (hts : ∀ w ∈ gt, w.before args s = true) (hK : va_K D cls (wo_tys cA) s) (hG : wo_G cA base s) (hW : wo_S D cls cA base s w H locs) (hM : mt l D cls (wo_tys cA) cA base y_q_five (Cond.code y_q_five b_q_five 5 (some .long) :: gt) rm_q_five (As) w ov w' rm_q_five.cells rm_q_five.slots) (hR : rm_q_five.frames + 1 ≤ R.frames ∧ 8 + (5 + 11) + rm_q_five.locals ≤ R.locals) (hf : cells + rm_q_five.cells ≤ R.cells ∧ slots + rm_q_five.slots ≤ R.slots) (hn : As.length = 5) (hsz : ls.size = nL) (hst : st0 = As.reverse ++ rest) (hcat : (rest.map fun v => v.category).sum ≤ 8) (hdg : decode cc pc = .ok (.invokestatic 203, 3)) (kk : ∀ (H1 : Heap) (locs1 : List Loc), wo_S D cls cA base s w' H1 locs1 → W p l e R s m args below meth c H1 locs1 (cells + rm_q_five.cells) (slots + rm_q_five.slots) Q (F0 m (pc + 3) ls (ov.toList ++ rest))) : W p l e R s m args below meth c H locs cells slots Q (F0 m pc ls st0) :=
  wo_callS hx hb hml hown hts hK hG hW hM (gt_of (i := 1416) (by decide +kernel) (by decide +kernel)) (gt_of (i := 1417) (by decide +kernel) (by decide +kernel)) (gt_of (i := 10) (by decide +kernel) (by decide +kernel)) (gt_of (i := 1418) (by decide +kernel) (by decide +kernel)) (by decide +kernel) hR hf hn hsz hst hcat hdg kk
theorem cv_q_207 {p : Program} {l : Launch} {e : Env} {R : Room} {s : State} {m : MethodId} {args : Array Value} {below : List Frame} {meth : Method} {c : Code} {H : Heap} {locs : List Loc} {cells slots : Nat} {Q : State → Prop} {D : va_G} {cA : Nat → ClassId} {base : Nat} {w w' : WW} {cc : ByteArray} {pc nL : Nat} {ls : Array Slot} {rest st0 As : List Value} {ov : Option Value} {b : Nat} (hx : p.tables.exec = Jvm.exec) (hb : c.code = cc) (hml : c.maxLocals = nL) (hown : s.vm.findClass Rc_q = some m.cls) (hts : ∀ w ∈ gt, w.before args s = true) (hK : va_K D cls (wo_tys cA) s) (hG : wo_G cA base s) (hW : wo_S D cls cA base s w H locs) (hM : mt l D cls (wo_tys cA) cA base y_q_isText (Cond.code y_q_isText b_q_isText 7 (some .boolean) :: gt) rm_q_isText (.ref (base + b) :: As) w ov w' rm_q_isText.cells rm_q_isText.slots) (hkb : kb w b 9 = true) (hR : rm_q_isText.frames + 1 ≤ R.frames ∧ 8 + (7 + 11) + rm_q_isText.locals ≤ R.locals) (hf : cells + rm_q_isText.cells ≤ R.cells ∧ slots + rm_q_isText.slots ≤ R.slots) (hn : As.length = 2) (hsz : ls.size = nL) (hst : st0 = As.reverse ++ .ref (base + b) :: rest) (hcat : (rest.map fun v => v.category).sum ≤ 8) (hdg : decode cc pc = .ok (.invokevirtual 207, 3)) (kk : ∀ (H1 : Heap) (locs1 : List Loc), wo_S D cls cA base s w' H1 locs1 → W p l e R s m args below meth c H1 locs1 (cells + rm_q_isText.cells) (slots + rm_q_isText.slots) Q (F0 m (pc + 3) ls (ov.toList ++ rest))) : W p l e R s m args below meth c H locs cells slots Q (F0 m pc ls st0) :=
  wo_callV (C := Rc_q) hx hb hml hown hts hK hG hW hM hkb rfl (gt_of (i := 1420) (by decide +kernel) (by decide +kernel)) (gt_of (i := 1422) (by decide +kernel) (by decide +kernel)) (gt_sel (i := 62) (by decide +kernel) (by decide +kernel)) (gt_of (i := 10) (by decide +kernel) (by decide +kernel)) (gt_of (i := 1423) (by decide +kernel) (by decide +kernel)) (by decide +kernel) hR hf hn hsz hst hcat hdg kk
abbrev b_q_word : ByteArray := prog_11_method_12_code
def y_q_word : MethodName := ⟨"AlarmForgeModel", "word", "()V"⟩
def rm_q_word : Room := { frames := 2, cells := 0, slots := 0, locals := 45 }
theorem d_q_word_0 : decode b_q_word 0 = .ok (.aload_n 0, 1) := by decide +kernel
theorem d_q_word_1 : decode b_q_word 1 = .ok (.aload_n 0, 1) := by decide +kernel
theorem d_q_word_2 : decode b_q_word 2 = .ok (.getfield 178, 3) := by decide +kernel
theorem d_q_word_5 : decode b_q_word 5 = .ok (.invokevirtual 186, 3) := by decide +kernel
theorem d_q_word_8 : decode b_q_word 8 = .ok (.invokestatic 189, 3) := by decide +kernel
theorem d_q_word_11 : decode b_q_word 11 = .ok (.ifCond .eq (16), 3) := by decide +kernel
theorem d_q_word_14 : decode b_q_word 14 = .ok (.aload_n 0, 1) := by decide +kernel
theorem d_q_word_15 : decode b_q_word 15 = .ok (.dup, 1) := by decide +kernel
theorem d_q_word_16 : decode b_q_word 16 = .ok (.getfield 178, 3) := by decide +kernel
theorem d_q_word_19 : decode b_q_word 19 = .ok (.iconst 1, 1) := by decide +kernel
theorem d_q_word_20 : decode b_q_word 20 = .ok (.iadd, 1) := by decide +kernel
theorem d_q_word_21 : decode b_q_word 21 = .ok (.putfield 178, 3) := by decide +kernel
theorem d_q_word_24 : decode b_q_word 24 = .ok (.goto (-24), 3) := by decide +kernel
theorem d_q_word_27 : decode b_q_word 27 = .ok (.aload_n 0, 1) := by decide +kernel
theorem d_q_word_28 : decode b_q_word 28 = .ok (.getfield 7, 3) := by decide +kernel
theorem d_q_word_31 : decode b_q_word 31 = .ok (.aload_n 0, 1) := by decide +kernel
theorem d_q_word_32 : decode b_q_word 32 = .ok (.getfield 181, 3) := by decide +kernel
theorem d_q_word_35 : decode b_q_word 35 = .ok (.iaload, 1) := by decide +kernel
theorem d_q_word_36 : decode b_q_word 36 = .ok (.istore_n 1, 1) := by decide +kernel
theorem d_q_word_37 : decode b_q_word 37 = .ok (.aload_n 0, 1) := by decide +kernel
theorem d_q_word_38 : decode b_q_word 38 = .ok (.getfield 178, 3) := by decide +kernel
theorem d_q_word_41 : decode b_q_word 41 = .ok (.aload_n 0, 1) := by decide +kernel
theorem d_q_word_42 : decode b_q_word 42 = .ok (.getfield 181, 3) := by decide +kernel
theorem d_q_word_45 : decode b_q_word 45 = .ok (.iconst 1, 1) := by decide +kernel
theorem d_q_word_46 : decode b_q_word 46 = .ok (.iadd, 1) := by decide +kernel
theorem d_q_word_47 : decode b_q_word 47 = .ok (.if_icmp .ne (7), 3) := by decide +kernel
theorem d_q_word_50 : decode b_q_word 50 = .ok (.iconst 1, 1) := by decide +kernel
theorem d_q_word_51 : decode b_q_word 51 = .ok (.goto (4), 3) := by decide +kernel
theorem d_q_word_54 : decode b_q_word 54 = .ok (.iconst 0, 1) := by decide +kernel
theorem d_q_word_55 : decode b_q_word 55 = .ok (.istore_n 2, 1) := by decide +kernel
theorem d_q_word_56 : decode b_q_word 56 = .ok (.iload_n 2, 1) := by decide +kernel
theorem d_q_word_57 : decode b_q_word 57 = .ok (.ifCond .eq (31), 3) := by decide +kernel
theorem d_q_word_60 : decode b_q_word 60 = .ok (.iload_n 1, 1) := by decide +kernel
theorem d_q_word_61 : decode b_q_word 61 = .ok (.i2l, 1) := by decide +kernel
theorem d_q_word_62 : decode b_q_word 62 = .ok (.ldc2_w 174, 3) := by decide +kernel
theorem d_q_word_65 : decode b_q_word 65 = .ok (.ldc2_w 193, 3) := by decide +kernel
theorem d_q_word_68 : decode b_q_word 68 = .ok (.invokestatic 155, 3) := by decide +kernel
theorem d_q_word_71 : decode b_q_word 71 = .ok (.ifCond .eq (17), 3) := by decide +kernel
theorem d_q_word_74 : decode b_q_word 74 = .ok (.aload_n 0, 1) := by decide +kernel
theorem d_q_word_75 : decode b_q_word 75 = .ok (.iconst 2, 1) := by decide +kernel
theorem d_q_word_76 : decode b_q_word 76 = .ok (.putfield 195, 3) := by decide +kernel
theorem d_q_word_79 : decode b_q_word 79 = .ok (.aload_n 0, 1) := by decide +kernel
theorem d_q_word_80 : decode b_q_word 80 = .ok (.iload_n 1, 1) := by decide +kernel
theorem d_q_word_81 : decode b_q_word 81 = .ok (.bipush (97), 2) := by decide +kernel
theorem d_q_word_83 : decode b_q_word 83 = .ok (.isub, 1) := by decide +kernel
theorem d_q_word_84 : decode b_q_word 84 = .ok (.putfield 198, 3) := by decide +kernel
theorem d_q_word_87 : decode b_q_word 87 = .ok (.return_, 1) := by decide +kernel
theorem d_q_word_88 : decode b_q_word 88 = .ok (.iload_n 2, 1) := by decide +kernel
theorem d_q_word_89 : decode b_q_word 89 = .ok (.ifCond .eq (31), 3) := by decide +kernel
theorem d_q_word_92 : decode b_q_word 92 = .ok (.iload_n 1, 1) := by decide +kernel
theorem d_q_word_93 : decode b_q_word 93 = .ok (.i2l, 1) := by decide +kernel
theorem d_q_word_94 : decode b_q_word 94 = .ok (.ldc2_w 170, 3) := by decide +kernel
theorem d_q_word_97 : decode b_q_word 97 = .ok (.ldc2_w 201, 3) := by decide +kernel
theorem d_q_word_100 : decode b_q_word 100 = .ok (.invokestatic 155, 3) := by decide +kernel
theorem d_q_word_103 : decode b_q_word 103 = .ok (.ifCond .eq (17), 3) := by decide +kernel
theorem d_q_word_106 : decode b_q_word 106 = .ok (.aload_n 0, 1) := by decide +kernel
theorem d_q_word_107 : decode b_q_word 107 = .ok (.iconst 3, 1) := by decide +kernel
theorem d_q_word_108 : decode b_q_word 108 = .ok (.putfield 195, 3) := by decide +kernel
theorem d_q_word_111 : decode b_q_word 111 = .ok (.aload_n 0, 1) := by decide +kernel
theorem d_q_word_112 : decode b_q_word 112 = .ok (.iload_n 1, 1) := by decide +kernel
theorem d_q_word_113 : decode b_q_word 113 = .ok (.bipush (65), 2) := by decide +kernel
theorem d_q_word_115 : decode b_q_word 115 = .ok (.isub, 1) := by decide +kernel
theorem d_q_word_116 : decode b_q_word 116 = .ok (.putfield 198, 3) := by decide +kernel
theorem d_q_word_119 : decode b_q_word 119 = .ok (.return_, 1) := by decide +kernel
theorem d_q_word_120 : decode b_q_word 120 = .ok (.aload_n 0, 1) := by decide +kernel
theorem d_q_word_121 : decode b_q_word 121 = .ok (.iconst 2, 1) := by decide +kernel
theorem d_q_word_122 : decode b_q_word 122 = .ok (.iconst 0, 1) := by decide +kernel
theorem d_q_word_123 : decode b_q_word 123 = .ok (.iconst 0, 1) := by decide +kernel
theorem d_q_word_124 : decode b_q_word 124 = .ok (.iconst 0, 1) := by decide +kernel
theorem d_q_word_125 : decode b_q_word 125 = .ok (.bipush (105), 2) := by decide +kernel
theorem d_q_word_127 : decode b_q_word 127 = .ok (.bipush (102), 2) := by decide +kernel
theorem d_q_word_129 : decode b_q_word 129 = .ok (.invokestatic 203, 3) := by decide +kernel
theorem d_q_word_132 : decode b_q_word 132 = .ok (.invokevirtual 207, 3) := by decide +kernel
theorem d_q_word_135 : decode b_q_word 135 = .ok (.istore_n 3, 1) := by decide +kernel
theorem d_q_word_136 : decode b_q_word 136 = .ok (.aload_n 0, 1) := by decide +kernel
theorem d_q_word_137 : decode b_q_word 137 = .ok (.iconst 2, 1) := by decide +kernel
theorem d_q_word_138 : decode b_q_word 138 = .ok (.iconst 0, 1) := by decide +kernel
theorem d_q_word_139 : decode b_q_word 139 = .ok (.iconst 0, 1) := by decide +kernel
theorem d_q_word_140 : decode b_q_word 140 = .ok (.iconst 0, 1) := by decide +kernel
theorem d_q_word_141 : decode b_q_word 141 = .ok (.bipush (105), 2) := by decide +kernel
theorem d_q_word_143 : decode b_q_word 143 = .ok (.bipush (110), 2) := by decide +kernel
theorem d_q_word_145 : decode b_q_word 145 = .ok (.invokestatic 203, 3) := by decide +kernel
theorem d_q_word_148 : decode b_q_word 148 = .ok (.invokevirtual 207, 3) := by decide +kernel
theorem d_q_word_151 : decode b_q_word 151 = .ok (.istore 4, 2) := by decide +kernel
theorem d_q_word_153 : decode b_q_word 153 = .ok (.aload_n 0, 1) := by decide +kernel
theorem d_q_word_154 : decode b_q_word 154 = .ok (.iconst 4, 1) := by decide +kernel
theorem d_q_word_155 : decode b_q_word 155 = .ok (.iconst 0, 1) := by decide +kernel
theorem d_q_word_156 : decode b_q_word 156 = .ok (.bipush (101), 2) := by decide +kernel
theorem d_q_word_158 : decode b_q_word 158 = .ok (.bipush (108), 2) := by decide +kernel
theorem d_q_word_160 : decode b_q_word 160 = .ok (.bipush (115), 2) := by decide +kernel
theorem d_q_word_162 : decode b_q_word 162 = .ok (.bipush (101), 2) := by decide +kernel
theorem d_q_word_164 : decode b_q_word 164 = .ok (.invokestatic 203, 3) := by decide +kernel
theorem d_q_word_167 : decode b_q_word 167 = .ok (.invokevirtual 207, 3) := by decide +kernel
theorem d_q_word_170 : decode b_q_word 170 = .ok (.istore 5, 2) := by decide +kernel
theorem d_q_word_172 : decode b_q_word 172 = .ok (.aload_n 0, 1) := by decide +kernel
theorem d_q_word_173 : decode b_q_word 173 = .ok (.iconst 5, 1) := by decide +kernel
theorem d_q_word_174 : decode b_q_word 174 = .ok (.bipush (119), 2) := by decide +kernel
theorem d_q_word_176 : decode b_q_word 176 = .ok (.bipush (104), 2) := by decide +kernel
theorem d_q_word_178 : decode b_q_word 178 = .ok (.bipush (105), 2) := by decide +kernel
theorem d_q_word_180 : decode b_q_word 180 = .ok (.bipush (108), 2) := by decide +kernel
theorem d_q_word_182 : decode b_q_word 182 = .ok (.bipush (101), 2) := by decide +kernel
theorem d_q_word_184 : decode b_q_word 184 = .ok (.invokestatic 203, 3) := by decide +kernel
theorem d_q_word_187 : decode b_q_word 187 = .ok (.invokevirtual 207, 3) := by decide +kernel
theorem d_q_word_190 : decode b_q_word 190 = .ok (.istore 6, 2) := by decide +kernel
theorem d_q_word_192 : decode b_q_word 192 = .ok (.aload_n 0, 1) := by decide +kernel
theorem d_q_word_193 : decode b_q_word 193 = .ok (.bipush (6), 2) := by decide +kernel
theorem d_q_word_195 : decode b_q_word 195 = .ok (.iconst 0, 1) := by decide +kernel
theorem d_q_word_196 : decode b_q_word 196 = .ok (.bipush (97), 2) := by decide +kernel
theorem d_q_word_198 : decode b_q_word 198 = .ok (.bipush (115), 2) := by decide +kernel
theorem d_q_word_200 : decode b_q_word 200 = .ok (.bipush (115), 2) := by decide +kernel
theorem d_q_word_202 : decode b_q_word 202 = .ok (.bipush (101), 2) := by decide +kernel
theorem d_q_word_204 : decode b_q_word 204 = .ok (.invokestatic 203, 3) := by decide +kernel
theorem d_q_word_207 : decode b_q_word 207 = .ok (.ldc2_w 211, 3) := by decide +kernel
theorem d_q_word_210 : decode b_q_word 210 = .ok (.lmul, 1) := by decide +kernel
theorem d_q_word_211 : decode b_q_word 211 = .ok (.ldc2_w 213, 3) := by decide +kernel
theorem d_q_word_214 : decode b_q_word 214 = .ok (.ladd, 1) := by decide +kernel
theorem d_q_word_215 : decode b_q_word 215 = .ok (.ldc2_w 215, 3) := by decide +kernel
theorem d_q_word_218 : decode b_q_word 218 = .ok (.ladd, 1) := by decide +kernel
theorem d_q_word_219 : decode b_q_word 219 = .ok (.invokevirtual 207, 3) := by decide +kernel
theorem d_q_word_222 : decode b_q_word 222 = .ok (.istore 7, 2) := by decide +kernel
theorem d_q_word_224 : decode b_q_word 224 = .ok (.aload_n 0, 1) := by decide +kernel
theorem d_q_word_225 : decode b_q_word 225 = .ok (.iload_n 3, 1) := by decide +kernel
theorem d_q_word_226 : decode b_q_word 226 = .ok (.ifCond .ne (23), 3) := by decide +kernel
theorem d_q_word_229 : decode b_q_word 229 = .ok (.iload 4, 2) := by decide +kernel
theorem d_q_word_231 : decode b_q_word 231 = .ok (.ifCond .ne (18), 3) := by decide +kernel
theorem d_q_word_234 : decode b_q_word 234 = .ok (.iload 5, 2) := by decide +kernel
theorem d_q_word_236 : decode b_q_word 236 = .ok (.ifCond .ne (13), 3) := by decide +kernel
theorem d_q_word_239 : decode b_q_word 239 = .ok (.iload 6, 2) := by decide +kernel
theorem d_q_word_241 : decode b_q_word 241 = .ok (.ifCond .ne (8), 3) := by decide +kernel
theorem d_q_word_244 : decode b_q_word 244 = .ok (.iload 7, 2) := by decide +kernel
theorem d_q_word_246 : decode b_q_word 246 = .ok (.ifCond .eq (7), 3) := by decide +kernel
theorem d_q_word_249 : decode b_q_word 249 = .ok (.iconst 4, 1) := by decide +kernel
theorem d_q_word_250 : decode b_q_word 250 = .ok (.goto (5), 3) := by decide +kernel
theorem d_q_word_253 : decode b_q_word 253 = .ok (.bipush (6), 2) := by decide +kernel
theorem d_q_word_255 : decode b_q_word 255 = .ok (.putfield 195, 3) := by decide +kernel
theorem d_q_word_258 : decode b_q_word 258 = .ok (.aload_n 0, 1) := by decide +kernel
theorem d_q_word_259 : decode b_q_word 259 = .ok (.iload_n 3, 1) := by decide +kernel
theorem d_q_word_260 : decode b_q_word 260 = .ok (.ifCond .eq (7), 3) := by decide +kernel
theorem d_q_word_263 : decode b_q_word 263 = .ok (.iconst 0, 1) := by decide +kernel
theorem d_q_word_264 : decode b_q_word 264 = .ok (.goto (31), 3) := by decide +kernel
theorem d_q_word_267 : decode b_q_word 267 = .ok (.iload 5, 2) := by decide +kernel
theorem d_q_word_269 : decode b_q_word 269 = .ok (.ifCond .eq (7), 3) := by decide +kernel
theorem d_q_word_272 : decode b_q_word 272 = .ok (.iconst 1, 1) := by decide +kernel
theorem d_q_word_273 : decode b_q_word 273 = .ok (.goto (22), 3) := by decide +kernel
theorem d_q_word_276 : decode b_q_word 276 = .ok (.iload 6, 2) := by decide +kernel
theorem d_q_word_278 : decode b_q_word 278 = .ok (.ifCond .eq (7), 3) := by decide +kernel
theorem d_q_word_281 : decode b_q_word 281 = .ok (.iconst 2, 1) := by decide +kernel
theorem d_q_word_282 : decode b_q_word 282 = .ok (.goto (13), 3) := by decide +kernel
theorem d_q_word_285 : decode b_q_word 285 = .ok (.iload 7, 2) := by decide +kernel
theorem d_q_word_287 : decode b_q_word 287 = .ok (.ifCond .eq (7), 3) := by decide +kernel
theorem d_q_word_290 : decode b_q_word 290 = .ok (.iconst 3, 1) := by decide +kernel
theorem d_q_word_291 : decode b_q_word 291 = .ok (.goto (4), 3) := by decide +kernel
theorem d_q_word_294 : decode b_q_word 294 = .ok (.iconst 4, 1) := by decide +kernel
theorem d_q_word_295 : decode b_q_word 295 = .ok (.putfield 198, 3) := by decide +kernel
theorem d_q_word_298 : decode b_q_word 298 = .ok (.return_, 1) := by decide +kernel
theorem kb_q_word {a0 : Nat}  {w : WW} {r : WW} (h : f_q_word a0 w = some r) : kb w a0 9 = true := (its h).1
set_option maxHeartbeats 4000000 in
set_option maxRecDepth 100000 in
theorem j_q_word_295 {p : Program} {l : Launch} {e : Env} {s : State} {m : MethodId} {args : Array Value} {below : List Frame} {meth : Method} {c : Code} {D : va_G} {cA : Nat → ClassId} {base : Nat} {w' : WW} (C : cx b_q_word (none) 8 y_q_word.cls "word" p s m args meth c D cA base)   : ∀ (z0 : Nat) (z1 : Int32) (w : WW), f_q_word_295 z0 z1 w = some w' → ∀ (H : Heap) (locs : List Loc) (ls : Array Slot), wo_S D cls cA base s w H locs → lv_has ls 8 [] → W p l e rm_q_word s m args below meth c H locs 0 0 (MQ below (wo_Q D cls cA base none w') args s rm_q_word.cells rm_q_word.slots (wo_B base)) (F0 m 295 ls [.int z1, .ref (base + z0)]) := by
  obtain ⟨hx, hb, hr, hml, hown, hts, hlk, hnm, hK, hG⟩ := id C
  intro z0 z1 w h H locs ls hW hl
  unfold f_q_word_295 at h
  replace h := bs h
  obtain ⟨w41, hw41, h⟩ := h
  refine pf_q_198 hx hb hts hown hK hG hW rfl rfl (pbi hw41 rfl) d_q_word_295 (fun H locs hW => ?_)
  cases h
  exact wo_vret hx hb hr hlk hW d_q_word_298
set_option maxHeartbeats 4000000 in
set_option maxRecDepth 100000 in
theorem j_q_word_255 {p : Program} {l : Launch} {e : Env} {s : State} {m : MethodId} {args : Array Value} {below : List Frame} {meth : Method} {c : Code} {D : va_G} {cA : Nat → ClassId} {base : Nat} {w' : WW} (C : cx b_q_word (none) 8 y_q_word.cls "word" p s m args meth c D cA base)   : ∀ (y0 : Nat) (y3 : Int32) (y5 : Int32) (y6 : Int32) (y7 : Int32) (z0 : Nat) (z1 : Int32) (w : WW), f_q_word_255 y0 y3 y5 y6 y7 z0 z1 w = some w' → ∀ (H : Heap) (locs : List Loc) (ls : Array Slot), wo_S D cls cA base s w H locs → lv_has ls 8 [(0, .ref (base + y0)), (3, .int y3), (5, .int y5), (6, .int y6), (7, .int y7)] → W p l e rm_q_word s m args below meth c H locs 0 0 (MQ below (wo_Q D cls cA base none w') args s rm_q_word.cells rm_q_word.slots (wo_B base)) (F0 m 255 ls [.int z1, .ref (base + z0)]) := by
  obtain ⟨hx, hb, hr, hml, hown, hts, hlk, hnm, hK, hG⟩ := id C
  intro y0 y3 y5 y6 y7 z0 z1 w h H locs ls hW hl
  unfold f_q_word_255 at h
  replace h := bs h
  obtain ⟨w36, hw36, h⟩ := h
  refine pf_q_195 hx hb hts hown hK hG hW rfl rfl (pbi hw36 rfl) d_q_word_255 (fun H locs hW => ?_)
  refine lv_aload_n hx hb d_q_word_258 rfl (lv_at hl 0 rfl) ?_
  refine lv_iload_n hx hb d_q_word_259 rfl (lv_at hl 1 rfl) ?_
  refine lv_if_eq (tgt := 267) hx hb d_q_word_260 (by decide) (fun c37 => ?_) (fun c37 => ?_)
  · rw [if_pos c37] at h
    refine lv_iload hx hb d_q_word_267 (lv_at hl 2 rfl) ?_
    refine lv_if_eq (tgt := 276) hx hb d_q_word_269 (by decide) (fun c38 => ?_) (fun c38 => ?_)
    · rw [if_pos c38] at h
      refine lv_iload hx hb d_q_word_276 (lv_at hl 3 rfl) ?_
      refine lv_if_eq (tgt := 285) hx hb d_q_word_278 (by decide) (fun c39 => ?_) (fun c39 => ?_)
      · rw [if_pos c39] at h
        refine lv_iload hx hb d_q_word_285 (lv_at hl 4 rfl) ?_
        refine lv_if_eq (tgt := 294) hx hb d_q_word_287 (by decide) (fun c40 => ?_) (fun c40 => ?_)
        · rw [if_pos c40] at h
          refine lv_iconst (v := (4 : Int32)) hx hb d_q_word_294 (by decide) ?_
          exact j_q_word_295 C y0 (4 : Int32) w36 h _ _ _ hW (lv_sub hl [] rfl)
        · rw [if_neg c40] at h
          refine lv_iconst (v := (3 : Int32)) hx hb d_q_word_290 (by decide) ?_
          refine lv_goto (tgt := 295) hx hb d_q_word_291 (by decide) ?_
          exact j_q_word_295 C y0 (3 : Int32) w36 h _ _ _ hW (lv_sub hl [] rfl)
      · rw [if_neg c39] at h
        refine lv_iconst (v := (2 : Int32)) hx hb d_q_word_281 (by decide) ?_
        refine lv_goto (tgt := 295) hx hb d_q_word_282 (by decide) ?_
        exact j_q_word_295 C y0 (2 : Int32) w36 h _ _ _ hW (lv_sub hl [] rfl)
    · rw [if_neg c38] at h
      refine lv_iconst (v := (1 : Int32)) hx hb d_q_word_272 (by decide) ?_
      refine lv_goto (tgt := 295) hx hb d_q_word_273 (by decide) ?_
      exact j_q_word_295 C y0 (1 : Int32) w36 h _ _ _ hW (lv_sub hl [] rfl)
  · rw [if_neg c37] at h
    refine lv_iconst (v := (0 : Int32)) hx hb d_q_word_263 (by decide) ?_
    refine lv_goto (tgt := 295) hx hb d_q_word_264 (by decide) ?_
    exact j_q_word_295 C y0 (0 : Int32) w36 h _ _ _ hW (lv_sub hl [] rfl)
set_option maxHeartbeats 4000000 in
set_option maxRecDepth 100000 in
theorem j_q_word_249 {p : Program} {l : Launch} {e : Env} {s : State} {m : MethodId} {args : Array Value} {below : List Frame} {meth : Method} {c : Code} {D : va_G} {cA : Nat → ClassId} {base : Nat} {w' : WW} (C : cx b_q_word (none) 8 y_q_word.cls "word" p s m args meth c D cA base)   : ∀ (y0 : Nat) (y3 : Int32) (y5 : Int32) (y6 : Int32) (y7 : Int32) (z0 : Nat) (w : WW), f_q_word_249 y0 y3 y5 y6 y7 z0 w = some w' → ∀ (H : Heap) (locs : List Loc) (ls : Array Slot), wo_S D cls cA base s w H locs → lv_has ls 8 [(0, .ref (base + y0)), (3, .int y3), (5, .int y5), (6, .int y6), (7, .int y7)] → W p l e rm_q_word s m args below meth c H locs 0 0 (MQ below (wo_Q D cls cA base none w') args s rm_q_word.cells rm_q_word.slots (wo_B base)) (F0 m 249 ls [.ref (base + z0)]) := by
  obtain ⟨hx, hb, hr, hml, hown, hts, hlk, hnm, hK, hG⟩ := id C
  intro y0 y3 y5 y6 y7 z0 w h H locs ls hW hl
  unfold f_q_word_249 at h
  refine lv_iconst (v := (4 : Int32)) hx hb d_q_word_249 (by decide) ?_
  refine lv_goto (tgt := 255) hx hb d_q_word_250 (by decide) ?_
  exact j_q_word_255 C y0 y3 y5 y6 y7 z0 (4 : Int32) w h _ _ _ hW (lv_sub hl [0, 1, 2, 3, 4] rfl)
set_option maxHeartbeats 4000000 in
set_option maxRecDepth 100000 in
theorem j_q_word_120 {p : Program} {l : Launch} {e : Env} {s : State} {m : MethodId} {args : Array Value} {below : List Frame} {meth : Method} {c : Code} {D : va_G} {cA : Nat → ClassId} {base : Nat} {w' : WW} (C : cx b_q_word (none) 8 y_q_word.cls "word" p s m args meth c D cA base)   : ∀ (y0 : Nat) (w : WW), f_q_word_120 y0 w = some w' → ∀ (H : Heap) (locs : List Loc) (ls : Array Slot), wo_S D cls cA base s w H locs → lv_has ls 8 [(0, .ref (base + y0))] → W p l e rm_q_word s m args below meth c H locs 0 0 (MQ below (wo_Q D cls cA base none w') args s rm_q_word.cells rm_q_word.slots (wo_B base)) (F0 m 120 ls []) := by
  obtain ⟨hx, hb, hr, hml, hown, hts, hlk, hnm, hK, hG⟩ := id C
  intro y0 w h H locs ls hW hl
  unfold f_q_word_120 at h
  refine lv_aload_n hx hb d_q_word_120 rfl (lv_at hl 0 rfl) ?_
  refine lv_iconst (v := (2 : Int32)) hx hb d_q_word_121 (by decide) ?_
  refine lv_iconst (v := (0 : Int32)) hx hb d_q_word_122 (by decide) ?_
  refine lv_iconst (v := (0 : Int32)) hx hb d_q_word_123 (by decide) ?_
  refine lv_iconst (v := (0 : Int32)) hx hb d_q_word_124 (by decide) ?_
  refine lv_bipush (v := (105 : Int32)) hx hb d_q_word_125 (by decide) ?_
  refine lv_bipush (v := (102 : Int32)) hx hb d_q_word_127 (by decide) ?_
  replace h := bs2 h
  obtain ⟨x16, w15, hw15, h⟩ := h
  refine cs_q_203 (As := [.int (0 : Int32), .int (0 : Int32), .int (0 : Int32), .int (105 : Int32), .int (102 : Int32)]) (rest := [.int (2 : Int32), .ref (base + y0)]) hx hb hml hown hts hK hG hW (c_q_five l D cA base hw15) ⟨Nat.le_of_ble_eq_true rfl, Nat.le_of_ble_eq_true rfl⟩ ⟨Nat.le_of_ble_eq_true rfl, Nat.le_of_ble_eq_true rfl⟩ rfl hl.1 rfl (Nat.le_of_ble_eq_true rfl) d_q_word_129 (fun H locs hW => ?_)
  replace h := bs2 h
  obtain ⟨x18, w17, hw17, h⟩ := h
  refine cv_q_207 (As := [.int (2 : Int32), .long x16]) (rest := []) hx hb hml hown hts hK hG hW (c_q_isText l D cA base hw17) (kb_q_isText hw17) ⟨Nat.le_of_ble_eq_true rfl, Nat.le_of_ble_eq_true rfl⟩ ⟨Nat.le_of_ble_eq_true rfl, Nat.le_of_ble_eq_true rfl⟩ rfl hl.1 rfl (Nat.le_of_ble_eq_true rfl) d_q_word_132 (fun H locs hW => ?_)
  refine lv_istore_n (lv' := [(3, .int x18), (0, .ref (base + y0))]) hx hb d_q_word_135 rfl hl (by decide) rfl (fun ls hl => ?_)
  refine lv_aload_n hx hb d_q_word_136 rfl (lv_at hl 1 rfl) ?_
  refine lv_iconst (v := (2 : Int32)) hx hb d_q_word_137 (by decide) ?_
  refine lv_iconst (v := (0 : Int32)) hx hb d_q_word_138 (by decide) ?_
  refine lv_iconst (v := (0 : Int32)) hx hb d_q_word_139 (by decide) ?_
  refine lv_iconst (v := (0 : Int32)) hx hb d_q_word_140 (by decide) ?_
  refine lv_bipush (v := (105 : Int32)) hx hb d_q_word_141 (by decide) ?_
  refine lv_bipush (v := (110 : Int32)) hx hb d_q_word_143 (by decide) ?_
  replace h := bs2 h
  obtain ⟨x20, w19, hw19, h⟩ := h
  refine cs_q_203 (As := [.int (0 : Int32), .int (0 : Int32), .int (0 : Int32), .int (105 : Int32), .int (110 : Int32)]) (rest := [.int (2 : Int32), .ref (base + y0)]) hx hb hml hown hts hK hG hW (c_q_five l D cA base hw19) ⟨Nat.le_of_ble_eq_true rfl, Nat.le_of_ble_eq_true rfl⟩ ⟨Nat.le_of_ble_eq_true rfl, Nat.le_of_ble_eq_true rfl⟩ rfl hl.1 rfl (Nat.le_of_ble_eq_true rfl) d_q_word_145 (fun H locs hW => ?_)
  replace h := bs2 h
  obtain ⟨x22, w21, hw21, h⟩ := h
  refine cv_q_207 (As := [.int (2 : Int32), .long x20]) (rest := []) hx hb hml hown hts hK hG hW (c_q_isText l D cA base hw21) (kb_q_isText hw21) ⟨Nat.le_of_ble_eq_true rfl, Nat.le_of_ble_eq_true rfl⟩ ⟨Nat.le_of_ble_eq_true rfl, Nat.le_of_ble_eq_true rfl⟩ rfl hl.1 rfl (Nat.le_of_ble_eq_true rfl) d_q_word_148 (fun H locs hW => ?_)
  refine lv_istore (lv' := [(4, .int x22), (3, .int x18), (0, .ref (base + y0))]) hx hb d_q_word_151 hl (by decide) rfl (fun ls hl => ?_)
  refine lv_aload_n hx hb d_q_word_153 rfl (lv_at hl 2 rfl) ?_
  refine lv_iconst (v := (4 : Int32)) hx hb d_q_word_154 (by decide) ?_
  refine lv_iconst (v := (0 : Int32)) hx hb d_q_word_155 (by decide) ?_
  refine lv_bipush (v := (101 : Int32)) hx hb d_q_word_156 (by decide) ?_
  refine lv_bipush (v := (108 : Int32)) hx hb d_q_word_158 (by decide) ?_
  refine lv_bipush (v := (115 : Int32)) hx hb d_q_word_160 (by decide) ?_
  refine lv_bipush (v := (101 : Int32)) hx hb d_q_word_162 (by decide) ?_
  replace h := bs2 h
  obtain ⟨x24, w23, hw23, h⟩ := h
  refine cs_q_203 (As := [.int (0 : Int32), .int (101 : Int32), .int (108 : Int32), .int (115 : Int32), .int (101 : Int32)]) (rest := [.int (4 : Int32), .ref (base + y0)]) hx hb hml hown hts hK hG hW (c_q_five l D cA base hw23) ⟨Nat.le_of_ble_eq_true rfl, Nat.le_of_ble_eq_true rfl⟩ ⟨Nat.le_of_ble_eq_true rfl, Nat.le_of_ble_eq_true rfl⟩ rfl hl.1 rfl (Nat.le_of_ble_eq_true rfl) d_q_word_164 (fun H locs hW => ?_)
  replace h := bs2 h
  obtain ⟨x26, w25, hw25, h⟩ := h
  refine cv_q_207 (As := [.int (4 : Int32), .long x24]) (rest := []) hx hb hml hown hts hK hG hW (c_q_isText l D cA base hw25) (kb_q_isText hw25) ⟨Nat.le_of_ble_eq_true rfl, Nat.le_of_ble_eq_true rfl⟩ ⟨Nat.le_of_ble_eq_true rfl, Nat.le_of_ble_eq_true rfl⟩ rfl hl.1 rfl (Nat.le_of_ble_eq_true rfl) d_q_word_167 (fun H locs hW => ?_)
  refine lv_istore (lv' := [(5, .int x26), (4, .int x22), (3, .int x18), (0, .ref (base + y0))]) hx hb d_q_word_170 hl (by decide) rfl (fun ls hl => ?_)
  refine lv_aload_n hx hb d_q_word_172 rfl (lv_at hl 3 rfl) ?_
  refine lv_iconst (v := (5 : Int32)) hx hb d_q_word_173 (by decide) ?_
  refine lv_bipush (v := (119 : Int32)) hx hb d_q_word_174 (by decide) ?_
  refine lv_bipush (v := (104 : Int32)) hx hb d_q_word_176 (by decide) ?_
  refine lv_bipush (v := (105 : Int32)) hx hb d_q_word_178 (by decide) ?_
  refine lv_bipush (v := (108 : Int32)) hx hb d_q_word_180 (by decide) ?_
  refine lv_bipush (v := (101 : Int32)) hx hb d_q_word_182 (by decide) ?_
  replace h := bs2 h
  obtain ⟨x28, w27, hw27, h⟩ := h
  refine cs_q_203 (As := [.int (119 : Int32), .int (104 : Int32), .int (105 : Int32), .int (108 : Int32), .int (101 : Int32)]) (rest := [.int (5 : Int32), .ref (base + y0)]) hx hb hml hown hts hK hG hW (c_q_five l D cA base hw27) ⟨Nat.le_of_ble_eq_true rfl, Nat.le_of_ble_eq_true rfl⟩ ⟨Nat.le_of_ble_eq_true rfl, Nat.le_of_ble_eq_true rfl⟩ rfl hl.1 rfl (Nat.le_of_ble_eq_true rfl) d_q_word_184 (fun H locs hW => ?_)
  replace h := bs2 h
  obtain ⟨x30, w29, hw29, h⟩ := h
  refine cv_q_207 (As := [.int (5 : Int32), .long x28]) (rest := []) hx hb hml hown hts hK hG hW (c_q_isText l D cA base hw29) (kb_q_isText hw29) ⟨Nat.le_of_ble_eq_true rfl, Nat.le_of_ble_eq_true rfl⟩ ⟨Nat.le_of_ble_eq_true rfl, Nat.le_of_ble_eq_true rfl⟩ rfl hl.1 rfl (Nat.le_of_ble_eq_true rfl) d_q_word_187 (fun H locs hW => ?_)
  refine lv_istore (lv' := [(6, .int x30), (5, .int x26), (4, .int x22), (3, .int x18), (0, .ref (base + y0))]) hx hb d_q_word_190 hl (by decide) rfl (fun ls hl => ?_)
  refine lv_aload_n hx hb d_q_word_192 rfl (lv_at hl 4 rfl) ?_
  refine lv_bipush (v := (6 : Int32)) hx hb d_q_word_193 (by decide) ?_
  refine lv_iconst (v := (0 : Int32)) hx hb d_q_word_195 (by decide) ?_
  refine lv_bipush (v := (97 : Int32)) hx hb d_q_word_196 (by decide) ?_
  refine lv_bipush (v := (115 : Int32)) hx hb d_q_word_198 (by decide) ?_
  refine lv_bipush (v := (115 : Int32)) hx hb d_q_word_200 (by decide) ?_
  refine lv_bipush (v := (101 : Int32)) hx hb d_q_word_202 (by decide) ?_
  replace h := bs2 h
  obtain ⟨x32, w31, hw31, h⟩ := h
  refine cs_q_203 (As := [.int (0 : Int32), .int (97 : Int32), .int (115 : Int32), .int (115 : Int32), .int (101 : Int32)]) (rest := [.int (6 : Int32), .ref (base + y0)]) hx hb hml hown hts hK hG hW (c_q_five l D cA base hw31) ⟨Nat.le_of_ble_eq_true rfl, Nat.le_of_ble_eq_true rfl⟩ ⟨Nat.le_of_ble_eq_true rfl, Nat.le_of_ble_eq_true rfl⟩ rfl hl.1 rfl (Nat.le_of_ble_eq_true rfl) d_q_word_204 (fun H locs hW => ?_)
  refine lv_ldc2 (own := Rc_q) (v := (16384 : Int64)) hx hb hown (hts (.constantLong "AlarmForgeModel" 211 (16384 : Int64)) (gt_of (i := 1424) (by decide +kernel) (by decide +kernel))) d_q_word_207 ?_
  refine lv_lmul hx hb d_q_word_210 ?_
  refine lv_ldc2 (own := Rc_q) (v := (14592 : Int64)) hx hb hown (hts (.constantLong "AlarmForgeModel" 213 (14592 : Int64)) (gt_of (i := 1425) (by decide +kernel) (by decide +kernel))) d_q_word_211 ?_
  refine lv_ladd hx hb d_q_word_214 ?_
  refine lv_ldc2 (own := Rc_q) (v := (116 : Int64)) hx hb hown (hts (.constantLong "AlarmForgeModel" 215 (116 : Int64)) (gt_of (i := 1426) (by decide +kernel) (by decide +kernel))) d_q_word_215 ?_
  refine lv_ladd hx hb d_q_word_218 ?_
  replace h := bs2 h
  obtain ⟨x34, w33, hw33, h⟩ := h
  refine cv_q_207 (As := [.int (6 : Int32), .long (((x32 * (16384 : Int64)) + (14592 : Int64)) + (116 : Int64))]) (rest := []) hx hb hml hown hts hK hG hW (c_q_isText l D cA base hw33) (kb_q_isText hw33) ⟨Nat.le_of_ble_eq_true rfl, Nat.le_of_ble_eq_true rfl⟩ ⟨Nat.le_of_ble_eq_true rfl, Nat.le_of_ble_eq_true rfl⟩ rfl hl.1 rfl (Nat.le_of_ble_eq_true rfl) d_q_word_219 (fun H locs hW => ?_)
  refine lv_istore (lv' := [(7, .int x34), (6, .int x30), (5, .int x26), (4, .int x22), (3, .int x18), (0, .ref (base + y0))]) hx hb d_q_word_222 hl (by decide) rfl (fun ls hl => ?_)
  refine lv_aload_n hx hb d_q_word_224 rfl (lv_at hl 5 rfl) ?_
  refine lv_iload_n hx hb d_q_word_225 rfl (lv_at hl 4 rfl) ?_
  refine lv_if_ne (tgt := 249) hx hb d_q_word_226 (by decide) (fun c35 => ?_) (fun c35 => ?_)
  · rw [if_neg c35] at h
    exact j_q_word_249 C y0 x18 x26 x30 x34 y0 w33 h _ _ _ hW (lv_sub hl [5, 4, 2, 1, 0] rfl)
  · rw [if_pos c35] at h
    refine lv_iload hx hb d_q_word_229 (lv_at hl 3 rfl) ?_
    refine lv_if_ne (tgt := 249) hx hb d_q_word_231 (by decide) (fun c42 => ?_) (fun c42 => ?_)
    · rw [if_neg c42] at h
      exact j_q_word_249 C y0 x18 x26 x30 x34 y0 w33 h _ _ _ hW (lv_sub hl [5, 4, 2, 1, 0] rfl)
    · rw [if_pos c42] at h
      refine lv_iload hx hb d_q_word_234 (lv_at hl 2 rfl) ?_
      refine lv_if_ne (tgt := 249) hx hb d_q_word_236 (by decide) (fun c43 => ?_) (fun c43 => ?_)
      · rw [if_neg c43] at h
        exact j_q_word_249 C y0 x18 x26 x30 x34 y0 w33 h _ _ _ hW (lv_sub hl [5, 4, 2, 1, 0] rfl)
      · rw [if_pos c43] at h
        refine lv_iload hx hb d_q_word_239 (lv_at hl 1 rfl) ?_
        refine lv_if_ne (tgt := 249) hx hb d_q_word_241 (by decide) (fun c44 => ?_) (fun c44 => ?_)
        · rw [if_neg c44] at h
          exact j_q_word_249 C y0 x18 x26 x30 x34 y0 w33 h _ _ _ hW (lv_sub hl [5, 4, 2, 1, 0] rfl)
        · rw [if_pos c44] at h
          refine lv_iload hx hb d_q_word_244 (lv_at hl 0 rfl) ?_
          refine lv_if_eq (tgt := 253) hx hb d_q_word_246 (by decide) (fun c45 => ?_) (fun c45 => ?_)
          · rw [if_pos c45] at h
            refine lv_bipush (v := (6 : Int32)) hx hb d_q_word_253 (by decide) ?_
            exact j_q_word_255 C y0 x18 x26 x30 x34 y0 (6 : Int32) w33 h _ _ _ hW (lv_sub hl [5, 4, 2, 1, 0] rfl)
          · rw [if_neg c45] at h
            exact j_q_word_249 C y0 x18 x26 x30 x34 y0 w33 h _ _ _ hW (lv_sub hl [5, 4, 2, 1, 0] rfl)
set_option maxHeartbeats 4000000 in
set_option maxRecDepth 100000 in
theorem j_q_word_88 {p : Program} {l : Launch} {e : Env} {s : State} {m : MethodId} {args : Array Value} {below : List Frame} {meth : Method} {c : Code} {D : va_G} {cA : Nat → ClassId} {base : Nat} {w' : WW} (C : cx b_q_word (none) 8 y_q_word.cls "word" p s m args meth c D cA base)   : ∀ (y0 : Nat) (y1 : Int32) (y2 : Int32) (w : WW), f_q_word_88 y0 y1 y2 w = some w' → ∀ (H : Heap) (locs : List Loc) (ls : Array Slot), wo_S D cls cA base s w H locs → lv_has ls 8 [(0, .ref (base + y0)), (1, .int y1), (2, .int y2)] → W p l e rm_q_word s m args below meth c H locs 0 0 (MQ below (wo_Q D cls cA base none w') args s rm_q_word.cells rm_q_word.slots (wo_B base)) (F0 m 88 ls []) := by
  obtain ⟨hx, hb, hr, hml, hown, hts, hlk, hnm, hK, hG⟩ := id C
  intro y0 y1 y2 w h H locs ls hW hl
  unfold f_q_word_88 at h
  refine lv_iload_n hx hb d_q_word_88 rfl (lv_at hl 2 rfl) ?_
  refine lv_if_eq (tgt := 120) hx hb d_q_word_89 (by decide) (fun c14 => ?_) (fun c14 => ?_)
  · rw [if_pos c14] at h
    exact j_q_word_120 C y0 w h _ _ _ hW (lv_sub hl [0] rfl)
  · rw [if_neg c14] at h
    refine lv_iload_n hx hb d_q_word_92 rfl (lv_at hl 1 rfl) ?_
    refine lv_i2l hx hb d_q_word_93 rfl ?_
    refine lv_ldc2 (own := Rc_q) (v := (65 : Int64)) hx hb hown (hts (.constantLong "AlarmForgeModel" 170 (65 : Int64)) (gt_of (i := 1406) (by decide +kernel) (by decide +kernel))) d_q_word_94 ?_
    refine lv_ldc2 (own := Rc_q) (v := (66 : Int64)) hx hb hown (hts (.constantLong "AlarmForgeModel" 201 (66 : Int64)) (gt_of (i := 1415) (by decide +kernel) (by decide +kernel))) d_q_word_97 ?_
    replace h := bs2 h
    obtain ⟨x47, w46, hw46, h⟩ := h
    refine cs_q_155 (As := [.long (Int32.toInt64 y1), .long (65 : Int64), .long (66 : Int64)]) (rest := []) hx hb hml hown hts hK hG hW (c_q_in l D cA base hw46) ⟨Nat.le_of_ble_eq_true rfl, Nat.le_of_ble_eq_true rfl⟩ ⟨Nat.le_of_ble_eq_true rfl, Nat.le_of_ble_eq_true rfl⟩ rfl hl.1 rfl (Nat.le_of_ble_eq_true rfl) d_q_word_100 (fun H locs hW => ?_)
    refine lv_if_eq (tgt := 120) hx hb d_q_word_103 (by decide) (fun c48 => ?_) (fun c48 => ?_)
    · rw [if_pos c48] at h
      exact j_q_word_120 C y0 w46 h _ _ _ hW (lv_sub hl [0] rfl)
    · rw [if_neg c48] at h
      refine lv_aload_n hx hb d_q_word_106 rfl (lv_at hl 0 rfl) ?_
      refine lv_iconst (v := (3 : Int32)) hx hb d_q_word_107 (by decide) ?_
      replace h := bs h
      obtain ⟨w49, hw49, h⟩ := h
      refine pf_q_195 hx hb hts hown hK hG hW rfl rfl (pbi hw49 rfl) d_q_word_108 (fun H locs hW => ?_)
      refine lv_aload_n hx hb d_q_word_111 rfl (lv_at hl 0 rfl) ?_
      refine lv_iload_n hx hb d_q_word_112 rfl (lv_at hl 1 rfl) ?_
      refine lv_bipush (v := (65 : Int32)) hx hb d_q_word_113 (by decide) ?_
      refine lv_isub hx hb d_q_word_115 ?_
      replace h := bs h
      obtain ⟨w50, hw50, h⟩ := h
      refine pf_q_198 hx hb hts hown hK hG hW rfl rfl (pbi hw50 rfl) d_q_word_116 (fun H locs hW => ?_)
      cases h
      exact wo_vret hx hb hr hlk hW d_q_word_119
set_option maxHeartbeats 4000000 in
set_option maxRecDepth 100000 in
theorem j_q_word_55 {p : Program} {l : Launch} {e : Env} {s : State} {m : MethodId} {args : Array Value} {below : List Frame} {meth : Method} {c : Code} {D : va_G} {cA : Nat → ClassId} {base : Nat} {w' : WW} (C : cx b_q_word (none) 8 y_q_word.cls "word" p s m args meth c D cA base)   : ∀ (y0 : Nat) (y1 : Int32) (z0 : Int32) (w : WW), f_q_word_55 y0 y1 z0 w = some w' → ∀ (H : Heap) (locs : List Loc) (ls : Array Slot), wo_S D cls cA base s w H locs → lv_has ls 8 [(0, .ref (base + y0)), (1, .int y1)] → W p l e rm_q_word s m args below meth c H locs 0 0 (MQ below (wo_Q D cls cA base none w') args s rm_q_word.cells rm_q_word.slots (wo_B base)) (F0 m 55 ls [.int z0]) := by
  obtain ⟨hx, hb, hr, hml, hown, hts, hlk, hnm, hK, hG⟩ := id C
  intro y0 y1 z0 w h H locs ls hW hl
  unfold f_q_word_55 at h
  refine lv_istore_n (lv' := [(2, .int z0), (0, .ref (base + y0)), (1, .int y1)]) hx hb d_q_word_55 rfl hl (by decide) rfl (fun ls hl => ?_)
  refine lv_iload_n hx hb d_q_word_56 rfl (lv_at hl 0 rfl) ?_
  refine lv_if_eq (tgt := 88) hx hb d_q_word_57 (by decide) (fun c13 => ?_) (fun c13 => ?_)
  · rw [if_pos c13] at h
    exact j_q_word_88 C y0 y1 z0 w h _ _ _ hW (lv_sub hl [1, 2, 0] rfl)
  · rw [if_neg c13] at h
    refine lv_iload_n hx hb d_q_word_60 rfl (lv_at hl 2 rfl) ?_
    refine lv_i2l hx hb d_q_word_61 rfl ?_
    refine lv_ldc2 (own := Rc_q) (v := (97 : Int64)) hx hb hown (hts (.constantLong "AlarmForgeModel" 174 (97 : Int64)) (gt_of (i := 1408) (by decide +kernel) (by decide +kernel))) d_q_word_62 ?_
    refine lv_ldc2 (own := Rc_q) (v := (102 : Int64)) hx hb hown (hts (.constantLong "AlarmForgeModel" 193 (102 : Int64)) (gt_of (i := 1414) (by decide +kernel) (by decide +kernel))) d_q_word_65 ?_
    replace h := bs2 h
    obtain ⟨x52, w51, hw51, h⟩ := h
    refine cs_q_155 (As := [.long (Int32.toInt64 y1), .long (97 : Int64), .long (102 : Int64)]) (rest := []) hx hb hml hown hts hK hG hW (c_q_in l D cA base hw51) ⟨Nat.le_of_ble_eq_true rfl, Nat.le_of_ble_eq_true rfl⟩ ⟨Nat.le_of_ble_eq_true rfl, Nat.le_of_ble_eq_true rfl⟩ rfl hl.1 rfl (Nat.le_of_ble_eq_true rfl) d_q_word_68 (fun H locs hW => ?_)
    refine lv_if_eq (tgt := 88) hx hb d_q_word_71 (by decide) (fun c53 => ?_) (fun c53 => ?_)
    · rw [if_pos c53] at h
      exact j_q_word_88 C y0 y1 z0 w51 h _ _ _ hW (lv_sub hl [1, 2, 0] rfl)
    · rw [if_neg c53] at h
      refine lv_aload_n hx hb d_q_word_74 rfl (lv_at hl 1 rfl) ?_
      refine lv_iconst (v := (2 : Int32)) hx hb d_q_word_75 (by decide) ?_
      replace h := bs h
      obtain ⟨w54, hw54, h⟩ := h
      refine pf_q_195 hx hb hts hown hK hG hW rfl rfl (pbi hw54 rfl) d_q_word_76 (fun H locs hW => ?_)
      refine lv_aload_n hx hb d_q_word_79 rfl (lv_at hl 1 rfl) ?_
      refine lv_iload_n hx hb d_q_word_80 rfl (lv_at hl 2 rfl) ?_
      refine lv_bipush (v := (97 : Int32)) hx hb d_q_word_81 (by decide) ?_
      refine lv_isub hx hb d_q_word_83 ?_
      replace h := bs h
      obtain ⟨w55, hw55, h⟩ := h
      refine pf_q_198 hx hb hts hown hK hG hW rfl rfl (pbi hw55 rfl) d_q_word_84 (fun H locs hW => ?_)
      cases h
      exact wo_vret hx hb hr hlk hW d_q_word_87
set_option maxHeartbeats 4000000 in
set_option maxRecDepth 100000 in
theorem j_q_word_0 {p : Program} {l : Launch} {e : Env} {s : State} {m : MethodId} {args : Array Value} {below : List Frame} {meth : Method} {c : Code} {D : va_G} {cA : Nat → ClassId} {base : Nat} {w' : WW} (C : cx b_q_word (none) 8 y_q_word.cls "word" p s m args meth c D cA base)   : ∀ n : Nat, ∀ (y0 : Nat) (w : WW), f_q_word_0 n y0 w = some w' → ∀ (H : Heap) (locs : List Loc) (ls : Array Slot), wo_S D cls cA base s w H locs → lv_has ls 8 [(0, .ref (base + y0))] → W p l e rm_q_word s m args below meth c H locs 0 0 (MQ below (wo_Q D cls cA base none w') args s rm_q_word.cells rm_q_word.slots (wo_B base)) (F0 m 0 ls []) := by
  obtain ⟨hx, hb, hr, hml, hown, hts, hlk, hnm, hK, hG⟩ := id C
  intro n
  induction n with
  | zero => intro y0 w h; cases h
  | succ n ih =>
    intro y0 w h H locs ls hW hl
    rw [f_q_word_0] at h
    refine lv_aload_n hx hb d_q_word_0 rfl (lv_at hl 0 rfl) ?_
    refine lv_aload_n hx hb d_q_word_1 rfl (lv_at hl 0 rfl) ?_
    replace h := bs h
    obtain ⟨x1, hx1, h⟩ := h
    refine gf_q_178 hx hb hts hown hK hG hW (gI_s hx1) d_q_word_2 ?_
    replace h := bs2 h
    obtain ⟨x3, w2, hw2, h⟩ := h
    refine cv_q_186 (As := [.int x1]) (rest := []) hx hb hml hown hts hK hG hW (c_q_charAt l D cA base hw2) (kb_q_charAt hw2) ⟨Nat.le_of_ble_eq_true rfl, Nat.le_of_ble_eq_true rfl⟩ ⟨Nat.le_of_ble_eq_true rfl, Nat.le_of_ble_eq_true rfl⟩ rfl hl.1 rfl (Nat.le_of_ble_eq_true rfl) d_q_word_5 (fun H locs hW => ?_)
    replace h := bs2 h
    obtain ⟨x5, w4, hw4, h⟩ := h
    refine cs_q_189 (As := [.int x3]) (rest := []) hx hb hml hown hts hK hG hW (c_q_isLetter l D cA base hw4) ⟨Nat.le_of_ble_eq_true rfl, Nat.le_of_ble_eq_true rfl⟩ ⟨Nat.le_of_ble_eq_true rfl, Nat.le_of_ble_eq_true rfl⟩ rfl hl.1 rfl (Nat.le_of_ble_eq_true rfl) d_q_word_8 (fun H locs hW => ?_)
    refine lv_if_eq (tgt := 27) hx hb d_q_word_11 (by decide) (fun c6 => ?_) (fun c6 => ?_)
    · rw [if_pos c6] at h
      refine lv_aload_n hx hb d_q_word_27 rfl (lv_at hl 0 rfl) ?_
      replace h := bs h
      obtain ⟨x7, hx7, h⟩ := h
      refine gf_q_7 hx hb hts hown hK hG hW (gN_s hx7) d_q_word_28 ?_
      refine lv_aload_n hx hb d_q_word_31 rfl (lv_at hl 0 rfl) ?_
      replace h := bs h
      obtain ⟨x8, hx8, h⟩ := h
      refine gf_q_181 hx hb hts hown hK hG hW (gI_s hx8) d_q_word_32 ?_
      replace h := bs h
      obtain ⟨x9, hx9, h⟩ := h
      refine wo_iald hx hb hK hW (t := 0) rfl hx9 d_q_word_35 ?_
      refine lv_istore_n (lv' := [(1, .int x9), (0, .ref (base + y0))]) hx hb d_q_word_36 rfl hl (by decide) rfl (fun ls hl => ?_)
      refine lv_aload_n hx hb d_q_word_37 rfl (lv_at hl 1 rfl) ?_
      replace h := bs h
      obtain ⟨x10, hx10, h⟩ := h
      refine gf_q_178 hx hb hts hown hK hG hW (gI_s hx10) d_q_word_38 ?_
      refine lv_aload_n hx hb d_q_word_41 rfl (lv_at hl 1 rfl) ?_
      replace h := bs h
      obtain ⟨x11, hx11, h⟩ := h
      refine gf_q_181 hx hb hts hown hK hG hW (gI_s hx11) d_q_word_42 ?_
      refine lv_iconst (v := (1 : Int32)) hx hb d_q_word_45 (by decide) ?_
      refine lv_iadd hx hb d_q_word_46 ?_
      refine lv_icmp_ne (tgt := 54) hx hb d_q_word_47 (by decide) (fun c12 => ?_) (fun c12 => ?_)
      · rw [if_neg c12] at h
        refine lv_iconst (v := (0 : Int32)) hx hb d_q_word_54 (by decide) ?_
        exact j_q_word_55 C y0 x9 (0 : Int32) w4 h _ _ _ hW (lv_sub hl [1, 0] rfl)
      · rw [if_pos c12] at h
        refine lv_iconst (v := (1 : Int32)) hx hb d_q_word_50 (by decide) ?_
        refine lv_goto (tgt := 55) hx hb d_q_word_51 (by decide) ?_
        exact j_q_word_55 C y0 x9 (1 : Int32) w4 h _ _ _ hW (lv_sub hl [1, 0] rfl)
    · rw [if_neg c6] at h
      refine lv_aload_n hx hb d_q_word_14 rfl (lv_at hl 0 rfl) ?_
      refine lv_dup hx hb d_q_word_15 rfl ?_
      replace h := bs h
      obtain ⟨x56, hx56, h⟩ := h
      refine gf_q_178 hx hb hts hown hK hG hW (gI_s hx56) d_q_word_16 ?_
      refine lv_iconst (v := (1 : Int32)) hx hb d_q_word_19 (by decide) ?_
      refine lv_iadd hx hb d_q_word_20 ?_
      replace h := bs h
      obtain ⟨w57, hw57, h⟩ := h
      refine pf_q_178 hx hb hts hown hK hG hW rfl rfl (pbi hw57 rfl) d_q_word_21 (fun H locs hW => ?_)
      refine lv_goto (tgt := 0) hx hb d_q_word_24 (by decide) ?_
      exact ih y0 w57 h _ _ _ hW (lv_sub hl [0] rfl)
set_option maxHeartbeats 4000000 in
set_option maxRecDepth 100000 in
theorem c_q_word (l : Launch) (D : va_G) (cA : Nat → ClassId) (base : Nat) {a0 : Nat} {w w' : WW} (h : f_q_word a0 w = some w') : mt l D cls (wo_tys cA) cA base y_q_word (Cond.code y_q_word b_q_word 8 (none) :: gt) rm_q_word [.ref (base + a0)] w none w' rm_q_word.cells rm_q_word.slots := by
  refine mt_start (by decide) (Nat.le_of_ble_eq_true rfl) ?_
  intro p e s m below meth c ls hx hb hr hml hown hts hlk hnm hK hG hW hl
  have C : cx b_q_word (none) 8 y_q_word.cls "word" p s m [.ref (base + a0)].toArray meth c D cA base := ⟨hx, hb, hr, hml, hown, hts, hlk, hnm, hK, hG⟩
  have hl : lv_has ls 8 [(0, .ref (base + a0))] := hl
  unfold f_q_word at h
  replace h := its h
  obtain ⟨-, h⟩ := h
  exact j_q_word_0 C KK a0 w h _ _ _ hW (lv_sub hl [0] rfl)
