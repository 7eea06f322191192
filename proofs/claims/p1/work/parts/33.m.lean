/-! Methods as functions, and their contracts (by wip/gen/run.py). -/
abbrev b_q_thrown : ByteArray := prog_11_method_2_code
def y_q_thrown : MethodName := ⟨"AlarmForgeModel", "thrown", "()I"⟩
def rm_q_thrown : Room := { frames := 0, cells := 0, slots := 0, locals := 0 }
theorem d_q_thrown_0 : decode b_q_thrown 0 = .ok (.aload_n 0, 1) := by decide +kernel
theorem d_q_thrown_1 : decode b_q_thrown 1 = .ok (.getfield 148, 3) := by decide +kernel
theorem d_q_thrown_4 : decode b_q_thrown 4 = .ok (.ireturn, 1) := by decide +kernel
def f_q_thrown (a0 : Nat) (w : WW) : Option (Int32 × WW) :=
  if kb w a0 9 = true then
    (gI w a0 9 5).bind fun x1 =>
    some (x1, w)
  else none
theorem kb_q_thrown {a0 : Nat}  {w : WW} {r : (Int32 × WW)} (h : f_q_thrown a0 w = some r) : kb w a0 9 = true := (its h).1
set_option maxHeartbeats 4000000 in
set_option maxRecDepth 100000 in
theorem c_q_thrown (l : Launch) (D : va_G) (cA : Nat → ClassId) (base : Nat) {a0 : Nat} {w w' : WW} {r : Int32} (h : f_q_thrown a0 w = some (r, w')) : mt l D cls (wo_tys cA) cA base y_q_thrown (Cond.code y_q_thrown b_q_thrown 1 (some .int) :: gt) rm_q_thrown [.ref (base + a0)] w (some (.int r)) w' rm_q_thrown.cells rm_q_thrown.slots := by
  refine mt_start (by decide) (Nat.le_of_ble_eq_true rfl) ?_
  intro p e s m below meth c ls hx hb hr hml hown hts hlk hnm hK hG hW hl
  have C : cx b_q_thrown (some .int) 1 y_q_thrown.cls "thrown" p s m [.ref (base + a0)].toArray meth c D cA base := ⟨hx, hb, hr, hml, hown, hts, hlk, hnm, hK, hG⟩
  have hl : lv_has ls 1 [(0, .ref (base + a0))] := hl
  unfold f_q_thrown at h
  replace h := its h
  obtain ⟨-, h⟩ := h
  refine lv_aload_n hx hb d_q_thrown_0 rfl (lv_at hl 0 rfl) ?_
  replace h := bs h
  obtain ⟨x1, hx1, h⟩ := h
  refine gf_q_148 hx hb hts hown hK hG hW (gI_s hx1) d_q_thrown_1 ?_
  cases h
  exact wo_iret hx hb hr hlk hW d_q_thrown_4
abbrev b_q_in : ByteArray := prog_11_method_3_code
def y_q_in : MethodName := ⟨"AlarmForgeModel", "in", "(JJJ)Z"⟩
def rm_q_in : Room := { frames := 0, cells := 0, slots := 0, locals := 0 }
theorem d_q_in_0 : decode b_q_in 0 = .ok (.lload_n 0, 1) := by decide +kernel
theorem d_q_in_1 : decode b_q_in 1 = .ok (.lload_n 2, 1) := by decide +kernel
theorem d_q_in_2 : decode b_q_in 2 = .ok (.lcmp, 1) := by decide +kernel
theorem d_q_in_3 : decode b_q_in 3 = .ok (.ifCond .lt (14), 3) := by decide +kernel
theorem d_q_in_6 : decode b_q_in 6 = .ok (.lload_n 0, 1) := by decide +kernel
theorem d_q_in_7 : decode b_q_in 7 = .ok (.lload 4, 2) := by decide +kernel
theorem d_q_in_9 : decode b_q_in 9 = .ok (.lcmp, 1) := by decide +kernel
theorem d_q_in_10 : decode b_q_in 10 = .ok (.ifCond .gt (7), 3) := by decide +kernel
theorem d_q_in_13 : decode b_q_in 13 = .ok (.iconst 1, 1) := by decide +kernel
theorem d_q_in_14 : decode b_q_in 14 = .ok (.goto (4), 3) := by decide +kernel
theorem d_q_in_17 : decode b_q_in 17 = .ok (.iconst 0, 1) := by decide +kernel
theorem d_q_in_18 : decode b_q_in 18 = .ok (.ireturn, 1) := by decide +kernel
def f_q_in_18  (z0 : Int32) (w : WW) : Option (Int32 × WW) :=
  if z0 = 0 ∨ z0 = 1 then some (z0, w) else none
def f_q_in_17   (w : WW) : Option (Int32 × WW) :=
  f_q_in_18 (0 : Int32) w
def f_q_in (a0 : Int64) (a2 : Int64) (a4 : Int64) (w : WW) : Option (Int32 × WW) :=
  if a0 < a2 then
    f_q_in_17 w
  else
    if a4 < a0 then
      f_q_in_17 w
    else
      f_q_in_18 (1 : Int32) w
set_option maxHeartbeats 4000000 in
set_option maxRecDepth 100000 in
theorem j_q_in_18 {p : Program} {l : Launch} {e : Env} {s : State} {m : MethodId} {args : Array Value} {below : List Frame} {meth : Method} {c : Code} {D : va_G} {cA : Nat → ClassId} {base : Nat} {r : Int32} {w' : WW} (C : cx b_q_in (some .boolean) 6 y_q_in.cls "in" p s m args meth c D cA base)   : ∀ (z0 : Int32) (w : WW), f_q_in_18 z0 w = some (r, w') → ∀ (H : Heap) (locs : List Loc) (ls : Array Slot), wo_S D cls cA base s w H locs → lv_has ls 6 [] → W p l e rm_q_in s m args below meth c H locs 0 0 (MQ below (wo_Q D cls cA base (some (.int r)) w') args s rm_q_in.cells rm_q_in.slots (wo_B base)) (F0 m 18 ls [.int z0]) := by
  obtain ⟨hx, hb, hr, hml, hown, hts, hlk, hnm, hK, hG⟩ := id C
  intro z0 w h H locs ls hW hl
  unfold f_q_in_18 at h
  replace h := its h
  obtain ⟨c2, h⟩ := h
  cases h
  exact wo_zret hx hb hr hlk hW c2 d_q_in_18
set_option maxHeartbeats 4000000 in
set_option maxRecDepth 100000 in
theorem j_q_in_17 {p : Program} {l : Launch} {e : Env} {s : State} {m : MethodId} {args : Array Value} {below : List Frame} {meth : Method} {c : Code} {D : va_G} {cA : Nat → ClassId} {base : Nat} {r : Int32} {w' : WW} (C : cx b_q_in (some .boolean) 6 y_q_in.cls "in" p s m args meth c D cA base)   : ∀  (w : WW), f_q_in_17  w = some (r, w') → ∀ (H : Heap) (locs : List Loc) (ls : Array Slot), wo_S D cls cA base s w H locs → lv_has ls 6 [] → W p l e rm_q_in s m args below meth c H locs 0 0 (MQ below (wo_Q D cls cA base (some (.int r)) w') args s rm_q_in.cells rm_q_in.slots (wo_B base)) (F0 m 17 ls []) := by
  obtain ⟨hx, hb, hr, hml, hown, hts, hlk, hnm, hK, hG⟩ := id C
  intro  w h H locs ls hW hl
  unfold f_q_in_17 at h
  refine lv_iconst (v := (0 : Int32)) hx hb d_q_in_17 (by decide) ?_
  exact j_q_in_18 C (0 : Int32) w h _ _ _ hW (lv_sub hl [] rfl)
set_option maxHeartbeats 4000000 in
set_option maxRecDepth 100000 in
theorem c_q_in (l : Launch) (D : va_G) (cA : Nat → ClassId) (base : Nat) {a0 : Int64} {a2 : Int64} {a4 : Int64} {w w' : WW} {r : Int32} (h : f_q_in a0 a2 a4 w = some (r, w')) : mt l D cls (wo_tys cA) cA base y_q_in (Cond.code y_q_in b_q_in 6 (some .boolean) :: gt) rm_q_in [.long a0, .long a2, .long a4] w (some (.int r)) w' rm_q_in.cells rm_q_in.slots := by
  refine mt_start (by decide) (Nat.le_of_ble_eq_true rfl) ?_
  intro p e s m below meth c ls hx hb hr hml hown hts hlk hnm hK hG hW hl
  have C : cx b_q_in (some .boolean) 6 y_q_in.cls "in" p s m [.long a0, .long a2, .long a4].toArray meth c D cA base := ⟨hx, hb, hr, hml, hown, hts, hlk, hnm, hK, hG⟩
  have hl : lv_has ls 6 [(0, .long a0), (2, .long a2), (4, .long a4)] := hl
  unfold f_q_in at h
  refine lv_lload_n hx hb d_q_in_0 rfl (lv_at hl 0 rfl) ?_
  refine lv_lload_n hx hb d_q_in_1 rfl (lv_at hl 1 rfl) ?_
  refine lc_lt (tgt := 17) hx hb d_q_in_2 d_q_in_3 (by decide) (fun c1 => ?_) (fun c1 => ?_)
  · rw [if_pos c1] at h
    exact j_q_in_17 C w h _ _ _ hW (lv_sub hl [] rfl)
  · rw [if_neg c1] at h
    refine lv_lload_n hx hb d_q_in_6 rfl (lv_at hl 0 rfl) ?_
    refine lv_lload hx hb d_q_in_7 (lv_at hl 2 rfl) ?_
    refine lc_gt (tgt := 17) hx hb d_q_in_9 d_q_in_10 (by decide) (fun c3 => ?_) (fun c3 => ?_)
    · rw [if_pos c3] at h
      exact j_q_in_17 C w h _ _ _ hW (lv_sub hl [] rfl)
    · rw [if_neg c3] at h
      refine lv_iconst (v := (1 : Int32)) hx hb d_q_in_13 (by decide) ?_
      refine lv_goto (tgt := 18) hx hb d_q_in_14 (by decide) ?_
      exact j_q_in_18 C (1 : Int32) w h _ _ _ hW (lv_sub hl [] rfl)
abbrev b_q_fail : ByteArray := prog_11_method_4_code
def y_q_fail : MethodName := ⟨"AlarmForgeModel", "fail", "(I)I"⟩
def rm_q_fail : Room := { frames := 0, cells := 0, slots := 0, locals := 0 }
theorem d_q_fail_0 : decode b_q_fail 0 = .ok (.aload_n 0, 1) := by decide +kernel
theorem d_q_fail_1 : decode b_q_fail 1 = .ok (.iload_n 1, 1) := by decide +kernel
theorem d_q_fail_2 : decode b_q_fail 2 = .ok (.putfield 148, 3) := by decide +kernel
theorem d_q_fail_5 : decode b_q_fail 5 = .ok (.iconst 0, 1) := by decide +kernel
theorem d_q_fail_6 : decode b_q_fail 6 = .ok (.ireturn, 1) := by decide +kernel
def f_q_fail (a0 : Nat) (a1 : Int32) (w : WW) : Option (Int32 × WW) :=
  if kb w a0 9 = true then
    (pv w a0 9 5 (.int a1)).bind fun w1 =>
    some ((0 : Int32), w1)
  else none
theorem kb_q_fail {a0 : Nat} {a1 : Int32} {w : WW} {r : (Int32 × WW)} (h : f_q_fail a0 a1 w = some r) : kb w a0 9 = true := (its h).1
set_option maxHeartbeats 4000000 in
set_option maxRecDepth 100000 in
theorem c_q_fail (l : Launch) (D : va_G) (cA : Nat → ClassId) (base : Nat) {a0 : Nat} {a1 : Int32} {w w' : WW} {r : Int32} (h : f_q_fail a0 a1 w = some (r, w')) : mt l D cls (wo_tys cA) cA base y_q_fail (Cond.code y_q_fail b_q_fail 2 (some .int) :: gt) rm_q_fail [.ref (base + a0), .int a1] w (some (.int r)) w' rm_q_fail.cells rm_q_fail.slots := by
  refine mt_start (by decide) (Nat.le_of_ble_eq_true rfl) ?_
  intro p e s m below meth c ls hx hb hr hml hown hts hlk hnm hK hG hW hl
  have C : cx b_q_fail (some .int) 2 y_q_fail.cls "fail" p s m [.ref (base + a0), .int a1].toArray meth c D cA base := ⟨hx, hb, hr, hml, hown, hts, hlk, hnm, hK, hG⟩
  have hl : lv_has ls 2 [(0, .ref (base + a0)), (1, .int a1)] := hl
  unfold f_q_fail at h
  replace h := its h
  obtain ⟨-, h⟩ := h
  refine lv_aload_n hx hb d_q_fail_0 rfl (lv_at hl 0 rfl) ?_
  refine lv_iload_n hx hb d_q_fail_1 rfl (lv_at hl 1 rfl) ?_
  replace h := bs h
  obtain ⟨w1, hw1, h⟩ := h
  refine pf_q_148 hx hb hts hown hK hG hW rfl rfl (pbi hw1 rfl) d_q_fail_2 (fun H locs hW => ?_)
  refine lv_iconst (v := (0 : Int32)) hx hb d_q_fail_5 (by decide) ?_
  cases h
  exact wo_iret hx hb hr hlk hW d_q_fail_6
theorem cs_q_155 {p : Program} {l : Launch} {e : Env} {R : Room} {s : State} {m : MethodId} {args : Array Value} {below : List Frame} {meth : Method} {c : Code} {H : Heap} {locs : List Loc} {cells slots : Nat} {Q : State → Prop} {D : va_G} {cA : Nat → ClassId} {base : Nat} {w w' : WW} {cc : ByteArray} {pc nL : Nat} {ls : Array Slot} {rest st0 As : List Value} {ov : Option Value} (hx : p.tables.exec = Jvm.exec) (hb : c.code = cc) (hml : c.maxLocals = nL) (hown : s.vm.findClass Rc_q = some m.cls) (hts : ∀ w ∈ gt, w.before args s = true) (hK : va_K D cls (wo_tys cA) s) (hG : wo_G base s) (hW : wo_S D cls cA base s w H locs) (hM : mt l D cls (wo_tys cA) cA base y_q_in (Cond.code y_q_in b_q_in 6 (some .boolean) :: gt) rm_q_in (As) w ov w' rm_q_in.cells rm_q_in.slots) (hR : rm_q_in.frames + 1 ≤ R.frames ∧ 8 + (6 + 11) + rm_q_in.locals ≤ R.locals) (hf : cells + rm_q_in.cells ≤ R.cells ∧ slots + rm_q_in.slots ≤ R.slots) (hn : As.length = 3) (hsz : ls.size = nL) (hst : st0 = As.reverse ++ rest) (hcat : (rest.map fun v => v.category).sum ≤ 8) (hdg : decode cc pc = .ok (.invokestatic 155, 3)) (kk : ∀ (H1 : Heap) (locs1 : List Loc), wo_S D cls cA base s w' H1 locs1 → W p l e R s m args below meth c H1 locs1 (cells + rm_q_in.cells) (slots + rm_q_in.slots) Q (F0 m (pc + 3) ls (ov.toList ++ rest))) : W p l e R s m args below meth c H locs cells slots Q (F0 m pc ls st0) :=
  wo_callS hx hb hml hown hts hK hG hW hM (gt_of (i := 1375) (by decide +kernel) (by decide +kernel)) (gt_of (i := 1376) (by decide +kernel) (by decide +kernel)) (gt_of (i := 10) (by decide +kernel) (by decide +kernel)) (gt_of (i := 1377) (by decide +kernel) (by decide +kernel)) (by decide +kernel) hR hf hn hsz hst hcat hdg kk
theorem cv_q_159 {p : Program} {l : Launch} {e : Env} {R : Room} {s : State} {m : MethodId} {args : Array Value} {below : List Frame} {meth : Method} {c : Code} {H : Heap} {locs : List Loc} {cells slots : Nat} {Q : State → Prop} {D : va_G} {cA : Nat → ClassId} {base : Nat} {w w' : WW} {cc : ByteArray} {pc nL : Nat} {ls : Array Slot} {rest st0 As : List Value} {ov : Option Value} {b : Nat} (hx : p.tables.exec = Jvm.exec) (hb : c.code = cc) (hml : c.maxLocals = nL) (hown : s.vm.findClass Rc_q = some m.cls) (hts : ∀ w ∈ gt, w.before args s = true) (hK : va_K D cls (wo_tys cA) s) (hG : wo_G base s) (hW : wo_S D cls cA base s w H locs) (hM : mt l D cls (wo_tys cA) cA base y_q_fail (Cond.code y_q_fail b_q_fail 2 (some .int) :: gt) rm_q_fail (.ref (base + b) :: As) w ov w' rm_q_fail.cells rm_q_fail.slots) (hkb : kb w b 9 = true) (hR : rm_q_fail.frames + 1 ≤ R.frames ∧ 8 + (2 + 11) + rm_q_fail.locals ≤ R.locals) (hf : cells + rm_q_fail.cells ≤ R.cells ∧ slots + rm_q_fail.slots ≤ R.slots) (hn : As.length = 1) (hsz : ls.size = nL) (hst : st0 = As.reverse ++ .ref (base + b) :: rest) (hcat : (rest.map fun v => v.category).sum ≤ 8) (hdg : decode cc pc = .ok (.invokevirtual 159, 3)) (kk : ∀ (H1 : Heap) (locs1 : List Loc), wo_S D cls cA base s w' H1 locs1 → W p l e R s m args below meth c H1 locs1 (cells + rm_q_fail.cells) (slots + rm_q_fail.slots) Q (F0 m (pc + 3) ls (ov.toList ++ rest))) : W p l e R s m args below meth c H locs cells slots Q (F0 m pc ls st0) :=
  wo_callV (C := Rc_q) hx hb hml hown hts hK hG hW hM hkb rfl (gt_of (i := 1378) (by decide +kernel) (by decide +kernel)) (gt_of (i := 1380) (by decide +kernel) (by decide +kernel)) (gt_sel (i := 58) (by decide +kernel) (by decide +kernel)) (gt_of (i := 10) (by decide +kernel) (by decide +kernel)) (gt_of (i := 1381) (by decide +kernel) (by decide +kernel)) (by decide +kernel) hR hf hn hsz hst hcat hdg kk
abbrev b_q_text : ByteArray := prog_11_method_5_code
def y_q_text : MethodName := ⟨"AlarmForgeModel", "text", "(J)I"⟩
def rm_q_text : Room := { frames := 1, cells := 0, slots := 0, locals := 25 }
theorem d_q_text_0 : decode b_q_text 0 = .ok (.iconst 0, 1) := by decide +kernel
theorem d_q_text_1 : decode b_q_text 1 = .ok (.istore_n 3, 1) := by decide +kernel
theorem d_q_text_2 : decode b_q_text 2 = .ok (.iconst 1, 1) := by decide +kernel
theorem d_q_text_3 : decode b_q_text 3 = .ok (.istore 4, 2) := by decide +kernel
theorem d_q_text_5 : decode b_q_text 5 = .ok (.bipush (56), 2) := by decide +kernel
theorem d_q_text_7 : decode b_q_text 7 = .ok (.istore 5, 2) := by decide +kernel
theorem d_q_text_9 : decode b_q_text 9 = .ok (.iload 5, 2) := by decide +kernel
theorem d_q_text_11 : decode b_q_text 11 = .ok (.ifCond .lt (56), 3) := by decide +kernel
theorem d_q_text_14 : decode b_q_text 14 = .ok (.lload_n 1, 1) := by decide +kernel
theorem d_q_text_15 : decode b_q_text 15 = .ok (.iload 5, 2) := by decide +kernel
theorem d_q_text_17 : decode b_q_text 17 = .ok (.lshr, 1) := by decide +kernel
theorem d_q_text_18 : decode b_q_text 18 = .ok (.l2i, 1) := by decide +kernel
theorem d_q_text_19 : decode b_q_text 19 = .ok (.sipush (255), 3) := by decide +kernel
theorem d_q_text_22 : decode b_q_text 22 = .ok (.iand, 1) := by decide +kernel
theorem d_q_text_23 : decode b_q_text 23 = .ok (.istore 6, 2) := by decide +kernel
theorem d_q_text_25 : decode b_q_text 25 = .ok (.iload 6, 2) := by decide +kernel
theorem d_q_text_27 : decode b_q_text 27 = .ok (.ifCond .ne (6), 3) := by decide +kernel
theorem d_q_text_30 : decode b_q_text 30 = .ok (.goto (31), 3) := by decide +kernel
theorem d_q_text_33 : decode b_q_text 33 = .ok (.iload 6, 2) := by decide +kernel
theorem d_q_text_35 : decode b_q_text 35 = .ok (.bipush (10), 2) := by decide +kernel
theorem d_q_text_37 : decode b_q_text 37 = .ok (.if_icmp .eq (21), 3) := by decide +kernel
theorem d_q_text_40 : decode b_q_text 40 = .ok (.iload 6, 2) := by decide +kernel
theorem d_q_text_42 : decode b_q_text 42 = .ok (.i2l, 1) := by decide +kernel
theorem d_q_text_43 : decode b_q_text 43 = .ok (.ldc2_w 151, 3) := by decide +kernel
theorem d_q_text_46 : decode b_q_text 46 = .ok (.ldc2_w 153, 3) := by decide +kernel
theorem d_q_text_49 : decode b_q_text 49 = .ok (.invokestatic 155, 3) := by decide +kernel
theorem d_q_text_52 : decode b_q_text 52 = .ok (.ifCond .ne (6), 3) := by decide +kernel
theorem d_q_text_55 : decode b_q_text 55 = .ok (.iconst 0, 1) := by decide +kernel
theorem d_q_text_56 : decode b_q_text 56 = .ok (.istore 4, 2) := by decide +kernel
theorem d_q_text_58 : decode b_q_text 58 = .ok (.iinc 3 (1), 3) := by decide +kernel
theorem d_q_text_61 : decode b_q_text 61 = .ok (.iinc 5 (-8), 3) := by decide +kernel
theorem d_q_text_64 : decode b_q_text 64 = .ok (.goto (-55), 3) := by decide +kernel
theorem d_q_text_67 : decode b_q_text 67 = .ok (.iload 4, 2) := by decide +kernel
theorem d_q_text_69 : decode b_q_text 69 = .ok (.ifCond .ne (9), 3) := by decide +kernel
theorem d_q_text_72 : decode b_q_text 72 = .ok (.aload_n 0, 1) := by decide +kernel
theorem d_q_text_73 : decode b_q_text 73 = .ok (.iconst 1, 1) := by decide +kernel
theorem d_q_text_74 : decode b_q_text 74 = .ok (.invokevirtual 159, 3) := by decide +kernel
theorem d_q_text_77 : decode b_q_text 77 = .ok (.ireturn, 1) := by decide +kernel
theorem d_q_text_78 : decode b_q_text 78 = .ok (.aload_n 0, 1) := by decide +kernel
theorem d_q_text_79 : decode b_q_text 79 = .ok (.getfield 163, 3) := by decide +kernel
theorem d_q_text_82 : decode b_q_text 82 = .ok (.iload_n 3, 1) := by decide +kernel
theorem d_q_text_83 : decode b_q_text 83 = .ok (.iadd, 1) := by decide +kernel
theorem d_q_text_84 : decode b_q_text 84 = .ok (.sipush (200), 3) := by decide +kernel
theorem d_q_text_87 : decode b_q_text 87 = .ok (.if_icmp .le (9), 3) := by decide +kernel
theorem d_q_text_90 : decode b_q_text 90 = .ok (.aload_n 0, 1) := by decide +kernel
theorem d_q_text_91 : decode b_q_text 91 = .ok (.iconst 2, 1) := by decide +kernel
theorem d_q_text_92 : decode b_q_text 92 = .ok (.invokevirtual 159, 3) := by decide +kernel
theorem d_q_text_95 : decode b_q_text 95 = .ok (.ireturn, 1) := by decide +kernel
theorem d_q_text_96 : decode b_q_text 96 = .ok (.aload_n 0, 1) := by decide +kernel
theorem d_q_text_97 : decode b_q_text 97 = .ok (.iconst 0, 1) := by decide +kernel
theorem d_q_text_98 : decode b_q_text 98 = .ok (.putfield 148, 3) := by decide +kernel
theorem d_q_text_101 : decode b_q_text 101 = .ok (.bipush (56), 2) := by decide +kernel
theorem d_q_text_103 : decode b_q_text 103 = .ok (.istore 5, 2) := by decide +kernel
theorem d_q_text_105 : decode b_q_text 105 = .ok (.iload 5, 2) := by decide +kernel
theorem d_q_text_107 : decode b_q_text 107 = .ok (.ifCond .lt (49), 3) := by decide +kernel
theorem d_q_text_110 : decode b_q_text 110 = .ok (.lload_n 1, 1) := by decide +kernel
theorem d_q_text_111 : decode b_q_text 111 = .ok (.iload 5, 2) := by decide +kernel
theorem d_q_text_113 : decode b_q_text 113 = .ok (.lshr, 1) := by decide +kernel
theorem d_q_text_114 : decode b_q_text 114 = .ok (.l2i, 1) := by decide +kernel
theorem d_q_text_115 : decode b_q_text 115 = .ok (.sipush (255), 3) := by decide +kernel
theorem d_q_text_118 : decode b_q_text 118 = .ok (.iand, 1) := by decide +kernel
theorem d_q_text_119 : decode b_q_text 119 = .ok (.istore 6, 2) := by decide +kernel
theorem d_q_text_121 : decode b_q_text 121 = .ok (.iload 6, 2) := by decide +kernel
theorem d_q_text_123 : decode b_q_text 123 = .ok (.ifCond .ne (6), 3) := by decide +kernel
theorem d_q_text_126 : decode b_q_text 126 = .ok (.goto (24), 3) := by decide +kernel
theorem d_q_text_129 : decode b_q_text 129 = .ok (.aload_n 0, 1) := by decide +kernel
theorem d_q_text_130 : decode b_q_text 130 = .ok (.getfield 7, 3) := by decide +kernel
theorem d_q_text_133 : decode b_q_text 133 = .ok (.aload_n 0, 1) := by decide +kernel
theorem d_q_text_134 : decode b_q_text 134 = .ok (.getfield 163, 3) := by decide +kernel
theorem d_q_text_137 : decode b_q_text 137 = .ok (.iload 6, 2) := by decide +kernel
theorem d_q_text_139 : decode b_q_text 139 = .ok (.iastore, 1) := by decide +kernel
theorem d_q_text_140 : decode b_q_text 140 = .ok (.aload_n 0, 1) := by decide +kernel
theorem d_q_text_141 : decode b_q_text 141 = .ok (.dup, 1) := by decide +kernel
theorem d_q_text_142 : decode b_q_text 142 = .ok (.getfield 163, 3) := by decide +kernel
theorem d_q_text_145 : decode b_q_text 145 = .ok (.iconst 1, 1) := by decide +kernel
theorem d_q_text_146 : decode b_q_text 146 = .ok (.iadd, 1) := by decide +kernel
theorem d_q_text_147 : decode b_q_text 147 = .ok (.putfield 163, 3) := by decide +kernel
theorem d_q_text_150 : decode b_q_text 150 = .ok (.iinc 5 (-8), 3) := by decide +kernel
theorem d_q_text_153 : decode b_q_text 153 = .ok (.goto (-48), 3) := by decide +kernel
theorem d_q_text_156 : decode b_q_text 156 = .ok (.aload_n 0, 1) := by decide +kernel
theorem d_q_text_157 : decode b_q_text 157 = .ok (.getfield 163, 3) := by decide +kernel
theorem d_q_text_160 : decode b_q_text 160 = .ok (.ireturn, 1) := by decide +kernel
def f_q_text_150 (k_105 : Nat → Int64 → Int32 → WW → Option (Int32 × WW)) (y0 : Nat) (y1 : Int64) (y5 : Int32) (w : WW) : Option (Int32 × WW) :=
  k_105 y0 y1 (y5 + (-8 : Int32)) w
def f_q_text_105  : Nat → Nat → Int64 → Int32 → WW → Option (Int32 × WW)
  | 0, _, _, _, _ => none
  | n + 1, y0, y1, y5, w =>
    if y5 < 0 then
      (gI w y0 9 2).bind fun x7 =>
      some (x7, w)
    else
      if ((Int64.toInt32 (y1 >>> (Int32.toInt64 y5 &&& 63))) &&& (255 : Int32)) = 0 then
        f_q_text_150 (f_q_text_105 n) y0 y1 y5 w
      else
        (gN w y0 9 0).bind fun x9 =>
        (gI w y0 9 2).bind fun x10 =>
        (sI w x9 0 x10 ((Int64.toInt32 (y1 >>> (Int32.toInt64 y5 &&& 63))) &&& (255 : Int32))).bind fun w11 =>
        (gI w11 y0 9 2).bind fun x12 =>
        (pv w11 y0 9 2 (.int (x12 + (1 : Int32)))).bind fun w13 =>
        f_q_text_150 (f_q_text_105 n) y0 y1 y5 w13
def f_q_text_61 (k_9 : Nat → Int64 → Int32 → Int32 → Int32 → WW → Option (Int32 × WW)) (y0 : Nat) (y1 : Int64) (y3 : Int32) (y4 : Int32) (y5 : Int32) (w : WW) : Option (Int32 × WW) :=
  k_9 y0 y1 y3 y4 (y5 + (-8 : Int32)) w
def f_q_text_58 (k_9 : Nat → Int64 → Int32 → Int32 → Int32 → WW → Option (Int32 × WW)) (y0 : Nat) (y1 : Int64) (y3 : Int32) (y4 : Int32) (y5 : Int32) (w : WW) : Option (Int32 × WW) :=
  f_q_text_61 k_9 y0 y1 (y3 + (1 : Int32)) y4 y5 w
def f_q_text_9  : Nat → Nat → Int64 → Int32 → Int32 → Int32 → WW → Option (Int32 × WW)
  | 0, _, _, _, _, _, _ => none
  | n + 1, y0, y1, y3, y4, y5, w =>
    if y5 < 0 then
      if y4 = 0 then
        bd2 (f_q_fail y0 (1 : Int32) w) fun x17 w16 =>
        some (x17, w16)
      else
        (gI w y0 9 2).bind fun x3 =>
        if (x3 + y3) ≤ (200 : Int32) then
          (pv w y0 9 5 (.int (0 : Int32))).bind fun w5 =>
          f_q_text_105 KK y0 y1 (56 : Int32) w5
        else
          bd2 (f_q_fail y0 (2 : Int32) w) fun x15 w14 =>
          some (x15, w14)
    else
      if ((Int64.toInt32 (y1 >>> (Int32.toInt64 y5 &&& 63))) &&& (255 : Int32)) = 0 then
        f_q_text_61 (f_q_text_9 n) y0 y1 y3 y4 y5 w
      else
        if ((Int64.toInt32 (y1 >>> (Int32.toInt64 y5 &&& 63))) &&& (255 : Int32)) = (10 : Int32) then
          f_q_text_58 (f_q_text_9 n) y0 y1 y3 y4 y5 w
        else
          bd2 (f_q_in (Int32.toInt64 ((Int64.toInt32 (y1 >>> (Int32.toInt64 y5 &&& 63))) &&& (255 : Int32))) (32 : Int64) (126 : Int64) w) fun x21 w20 =>
          if x21 = 0 then
            f_q_text_58 (f_q_text_9 n) y0 y1 y3 (0 : Int32) y5 w20
          else
            f_q_text_58 (f_q_text_9 n) y0 y1 y3 y4 y5 w20
def f_q_text (a0 : Nat) (a1 : Int64) (w : WW) : Option (Int32 × WW) :=
  if kb w a0 9 = true then
    f_q_text_9 KK a0 a1 (0 : Int32) (1 : Int32) (56 : Int32) w
  else none
theorem kb_q_text {a0 : Nat} {a1 : Int64} {w : WW} {r : (Int32 × WW)} (h : f_q_text a0 a1 w = some r) : kb w a0 9 = true := (its h).1
set_option maxHeartbeats 4000000 in
set_option maxRecDepth 100000 in
theorem j_q_text_150 {p : Program} {l : Launch} {e : Env} {s : State} {m : MethodId} {args : Array Value} {below : List Frame} {meth : Method} {c : Code} {D : va_G} {cA : Nat → ClassId} {base : Nat} {r : Int32} {w' : WW} (C : cx b_q_text (some .int) 7 y_q_text.cls "text" p s m args meth c D cA base) {k_105 : Nat → Int64 → Int32 → WW → Option (Int32 × WW)} (hk_105 : ∀ (y0 : Nat) (y1 : Int64) (y5 : Int32) (w : WW), k_105 y0 y1 y5 w = some (r, w') → ∀ (H : Heap) (locs : List Loc) (ls : Array Slot), wo_S D cls cA base s w H locs → lv_has ls 7 [(0, .ref (base + y0)), (1, .long y1), (5, .int y5)] → W p l e rm_q_text s m args below meth c H locs 0 0 (MQ below (wo_Q D cls cA base (some (.int r)) w') args s rm_q_text.cells rm_q_text.slots (wo_B base)) (F0 m 105 ls [])) : ∀ (y0 : Nat) (y1 : Int64) (y5 : Int32) (w : WW), f_q_text_150 k_105 y0 y1 y5 w = some (r, w') → ∀ (H : Heap) (locs : List Loc) (ls : Array Slot), wo_S D cls cA base s w H locs → lv_has ls 7 [(0, .ref (base + y0)), (1, .long y1), (5, .int y5)] → W p l e rm_q_text s m args below meth c H locs 0 0 (MQ below (wo_Q D cls cA base (some (.int r)) w') args s rm_q_text.cells rm_q_text.slots (wo_B base)) (F0 m 150 ls []) := by
  obtain ⟨hx, hb, hr, hml, hown, hts, hlk, hnm, hK, hG⟩ := id C
  intro y0 y1 y5 w h H locs ls hW hl
  unfold f_q_text_150 at h
  refine lv_iinc (v := (y5 + (-8 : Int32))) (lv' := [(5, .int (y5 + (-8 : Int32))), (0, .ref (base + y0)), (1, .long y1)]) hx hb d_q_text_150 hl (k := 2) rfl rfl (by decide) rfl (fun ls hl => ?_)
  refine lv_goto (tgt := 105) hx hb d_q_text_153 (by decide) ?_
  exact hk_105 y0 y1 (y5 + (-8 : Int32)) w h _ _ _ hW (lv_sub hl [1, 2, 0] rfl)
set_option maxHeartbeats 4000000 in
set_option maxRecDepth 100000 in
theorem j_q_text_105 {p : Program} {l : Launch} {e : Env} {s : State} {m : MethodId} {args : Array Value} {below : List Frame} {meth : Method} {c : Code} {D : va_G} {cA : Nat → ClassId} {base : Nat} {r : Int32} {w' : WW} (C : cx b_q_text (some .int) 7 y_q_text.cls "text" p s m args meth c D cA base)   : ∀ n : Nat, ∀ (y0 : Nat) (y1 : Int64) (y5 : Int32) (w : WW), f_q_text_105 n y0 y1 y5 w = some (r, w') → ∀ (H : Heap) (locs : List Loc) (ls : Array Slot), wo_S D cls cA base s w H locs → lv_has ls 7 [(0, .ref (base + y0)), (1, .long y1), (5, .int y5)] → W p l e rm_q_text s m args below meth c H locs 0 0 (MQ below (wo_Q D cls cA base (some (.int r)) w') args s rm_q_text.cells rm_q_text.slots (wo_B base)) (F0 m 105 ls []) := by
  obtain ⟨hx, hb, hr, hml, hown, hts, hlk, hnm, hK, hG⟩ := id C
  intro n
  induction n with
  | zero => intro y0 y1 y5 w h; cases h
  | succ n ih =>
    intro y0 y1 y5 w h H locs ls hW hl
    rw [f_q_text_105] at h
    refine lv_iload hx hb d_q_text_105 (lv_at hl 2 rfl) ?_
    refine lv_if_lt (tgt := 156) hx hb d_q_text_107 (by decide) (fun c6 => ?_) (fun c6 => ?_)
    · rw [if_pos c6] at h
      refine lv_aload_n hx hb d_q_text_156 rfl (lv_at hl 0 rfl) ?_
      replace h := bs h
      obtain ⟨x7, hx7, h⟩ := h
      refine gf_q_163 hx hb hts hown hK hG hW (gI_s hx7) d_q_text_157 ?_
      cases h
      exact wo_iret hx hb hr hlk hW d_q_text_160
    · rw [if_neg c6] at h
      refine lv_lload_n hx hb d_q_text_110 rfl (lv_at hl 1 rfl) ?_
      refine lv_iload hx hb d_q_text_111 (lv_at hl 2 rfl) ?_
      refine lv_lshr hx hb d_q_text_113 rfl ?_
      refine lv_l2i hx hb d_q_text_114 rfl ?_
      refine lv_sipush (v := (255 : Int32)) hx hb d_q_text_115 (by decide) ?_
      refine lv_iand hx hb d_q_text_118 ?_
      refine lv_istore (lv' := [(6, .int ((Int64.toInt32 (y1 >>> (Int32.toInt64 y5 &&& 63))) &&& (255 : Int32))), (0, .ref (base + y0)), (1, .long y1), (5, .int y5)]) hx hb d_q_text_119 hl (by decide) rfl (fun ls hl => ?_)
      refine lv_iload hx hb d_q_text_121 (lv_at hl 0 rfl) ?_
      refine lv_if_ne (tgt := 129) hx hb d_q_text_123 (by decide) (fun c8 => ?_) (fun c8 => ?_)
      · rw [if_neg c8] at h
        refine lv_aload_n hx hb d_q_text_129 rfl (lv_at hl 1 rfl) ?_
        replace h := bs h
        obtain ⟨x9, hx9, h⟩ := h
        refine gf_q_7 hx hb hts hown hK hG hW (gN_s hx9) d_q_text_130 ?_
        refine lv_aload_n hx hb d_q_text_133 rfl (lv_at hl 1 rfl) ?_
        replace h := bs h
        obtain ⟨x10, hx10, h⟩ := h
        refine gf_q_163 hx hb hts hown hK hG hW (gI_s hx10) d_q_text_134 ?_
        refine lv_iload hx hb d_q_text_137 (lv_at hl 0 rfl) ?_
        replace h := bs h
        obtain ⟨w11, hw11, h⟩ := h
        refine wo_iast hx hb hK hW (t := 0) rfl hw11 d_q_text_139 (fun H locs hW => ?_)
        refine lv_aload_n hx hb d_q_text_140 rfl (lv_at hl 1 rfl) ?_
        refine lv_dup hx hb d_q_text_141 rfl ?_
        replace h := bs h
        obtain ⟨x12, hx12, h⟩ := h
        refine gf_q_163 hx hb hts hown hK hG hW (gI_s hx12) d_q_text_142 ?_
        refine lv_iconst (v := (1 : Int32)) hx hb d_q_text_145 (by decide) ?_
        refine lv_iadd hx hb d_q_text_146 ?_
        replace h := bs h
        obtain ⟨w13, hw13, h⟩ := h
        refine pf_q_163 hx hb hts hown hK hG hW rfl rfl (pbi hw13 rfl) d_q_text_147 (fun H locs hW => ?_)
        exact j_q_text_150 C ih y0 y1 y5 w13 h _ _ _ hW (lv_sub hl [1, 2, 3] rfl)
      · rw [if_pos c8] at h
        refine lv_goto (tgt := 150) hx hb d_q_text_126 (by decide) ?_
        exact j_q_text_150 C ih y0 y1 y5 w h _ _ _ hW (lv_sub hl [1, 2, 3] rfl)
set_option maxHeartbeats 4000000 in
set_option maxRecDepth 100000 in
theorem j_q_text_61 {p : Program} {l : Launch} {e : Env} {s : State} {m : MethodId} {args : Array Value} {below : List Frame} {meth : Method} {c : Code} {D : va_G} {cA : Nat → ClassId} {base : Nat} {r : Int32} {w' : WW} (C : cx b_q_text (some .int) 7 y_q_text.cls "text" p s m args meth c D cA base) {k_9 : Nat → Int64 → Int32 → Int32 → Int32 → WW → Option (Int32 × WW)} (hk_9 : ∀ (y0 : Nat) (y1 : Int64) (y3 : Int32) (y4 : Int32) (y5 : Int32) (w : WW), k_9 y0 y1 y3 y4 y5 w = some (r, w') → ∀ (H : Heap) (locs : List Loc) (ls : Array Slot), wo_S D cls cA base s w H locs → lv_has ls 7 [(0, .ref (base + y0)), (1, .long y1), (3, .int y3), (4, .int y4), (5, .int y5)] → W p l e rm_q_text s m args below meth c H locs 0 0 (MQ below (wo_Q D cls cA base (some (.int r)) w') args s rm_q_text.cells rm_q_text.slots (wo_B base)) (F0 m 9 ls [])) : ∀ (y0 : Nat) (y1 : Int64) (y3 : Int32) (y4 : Int32) (y5 : Int32) (w : WW), f_q_text_61 k_9 y0 y1 y3 y4 y5 w = some (r, w') → ∀ (H : Heap) (locs : List Loc) (ls : Array Slot), wo_S D cls cA base s w H locs → lv_has ls 7 [(0, .ref (base + y0)), (1, .long y1), (3, .int y3), (4, .int y4), (5, .int y5)] → W p l e rm_q_text s m args below meth c H locs 0 0 (MQ below (wo_Q D cls cA base (some (.int r)) w') args s rm_q_text.cells rm_q_text.slots (wo_B base)) (F0 m 61 ls []) := by
  obtain ⟨hx, hb, hr, hml, hown, hts, hlk, hnm, hK, hG⟩ := id C
  intro y0 y1 y3 y4 y5 w h H locs ls hW hl
  unfold f_q_text_61 at h
  refine lv_iinc (v := (y5 + (-8 : Int32))) (lv' := [(5, .int (y5 + (-8 : Int32))), (0, .ref (base + y0)), (1, .long y1), (3, .int y3), (4, .int y4)]) hx hb d_q_text_61 hl (k := 4) rfl rfl (by decide) rfl (fun ls hl => ?_)
  refine lv_goto (tgt := 9) hx hb d_q_text_64 (by decide) ?_
  exact hk_9 y0 y1 y3 y4 (y5 + (-8 : Int32)) w h _ _ _ hW (lv_sub hl [1, 2, 3, 4, 0] rfl)
set_option maxHeartbeats 4000000 in
set_option maxRecDepth 100000 in
theorem j_q_text_58 {p : Program} {l : Launch} {e : Env} {s : State} {m : MethodId} {args : Array Value} {below : List Frame} {meth : Method} {c : Code} {D : va_G} {cA : Nat → ClassId} {base : Nat} {r : Int32} {w' : WW} (C : cx b_q_text (some .int) 7 y_q_text.cls "text" p s m args meth c D cA base) {k_9 : Nat → Int64 → Int32 → Int32 → Int32 → WW → Option (Int32 × WW)} (hk_9 : ∀ (y0 : Nat) (y1 : Int64) (y3 : Int32) (y4 : Int32) (y5 : Int32) (w : WW), k_9 y0 y1 y3 y4 y5 w = some (r, w') → ∀ (H : Heap) (locs : List Loc) (ls : Array Slot), wo_S D cls cA base s w H locs → lv_has ls 7 [(0, .ref (base + y0)), (1, .long y1), (3, .int y3), (4, .int y4), (5, .int y5)] → W p l e rm_q_text s m args below meth c H locs 0 0 (MQ below (wo_Q D cls cA base (some (.int r)) w') args s rm_q_text.cells rm_q_text.slots (wo_B base)) (F0 m 9 ls [])) : ∀ (y0 : Nat) (y1 : Int64) (y3 : Int32) (y4 : Int32) (y5 : Int32) (w : WW), f_q_text_58 k_9 y0 y1 y3 y4 y5 w = some (r, w') → ∀ (H : Heap) (locs : List Loc) (ls : Array Slot), wo_S D cls cA base s w H locs → lv_has ls 7 [(0, .ref (base + y0)), (1, .long y1), (3, .int y3), (4, .int y4), (5, .int y5)] → W p l e rm_q_text s m args below meth c H locs 0 0 (MQ below (wo_Q D cls cA base (some (.int r)) w') args s rm_q_text.cells rm_q_text.slots (wo_B base)) (F0 m 58 ls []) := by
  obtain ⟨hx, hb, hr, hml, hown, hts, hlk, hnm, hK, hG⟩ := id C
  intro y0 y1 y3 y4 y5 w h H locs ls hW hl
  unfold f_q_text_58 at h
  refine lv_iinc (v := (y3 + (1 : Int32))) (lv' := [(3, .int (y3 + (1 : Int32))), (0, .ref (base + y0)), (1, .long y1), (4, .int y4), (5, .int y5)]) hx hb d_q_text_58 hl (k := 2) rfl rfl (by decide) rfl (fun ls hl => ?_)
  exact j_q_text_61 C hk_9 y0 y1 (y3 + (1 : Int32)) y4 y5 w h _ _ _ hW (lv_sub hl [1, 2, 0, 3, 4] rfl)
set_option maxHeartbeats 4000000 in
set_option maxRecDepth 100000 in
theorem j_q_text_9 {p : Program} {l : Launch} {e : Env} {s : State} {m : MethodId} {args : Array Value} {below : List Frame} {meth : Method} {c : Code} {D : va_G} {cA : Nat → ClassId} {base : Nat} {r : Int32} {w' : WW} (C : cx b_q_text (some .int) 7 y_q_text.cls "text" p s m args meth c D cA base)   : ∀ n : Nat, ∀ (y0 : Nat) (y1 : Int64) (y3 : Int32) (y4 : Int32) (y5 : Int32) (w : WW), f_q_text_9 n y0 y1 y3 y4 y5 w = some (r, w') → ∀ (H : Heap) (locs : List Loc) (ls : Array Slot), wo_S D cls cA base s w H locs → lv_has ls 7 [(0, .ref (base + y0)), (1, .long y1), (3, .int y3), (4, .int y4), (5, .int y5)] → W p l e rm_q_text s m args below meth c H locs 0 0 (MQ below (wo_Q D cls cA base (some (.int r)) w') args s rm_q_text.cells rm_q_text.slots (wo_B base)) (F0 m 9 ls []) := by
  obtain ⟨hx, hb, hr, hml, hown, hts, hlk, hnm, hK, hG⟩ := id C
  intro n
  induction n with
  | zero => intro y0 y1 y3 y4 y5 w h; cases h
  | succ n ih =>
    intro y0 y1 y3 y4 y5 w h H locs ls hW hl
    rw [f_q_text_9] at h
    refine lv_iload hx hb d_q_text_9 (lv_at hl 4 rfl) ?_
    refine lv_if_lt (tgt := 67) hx hb d_q_text_11 (by decide) (fun c1 => ?_) (fun c1 => ?_)
    · rw [if_pos c1] at h
      refine lv_iload hx hb d_q_text_67 (lv_at hl 3 rfl) ?_
      refine lv_if_ne (tgt := 78) hx hb d_q_text_69 (by decide) (fun c2 => ?_) (fun c2 => ?_)
      · rw [if_neg c2] at h
        refine lv_aload_n hx hb d_q_text_78 rfl (lv_at hl 0 rfl) ?_
        replace h := bs h
        obtain ⟨x3, hx3, h⟩ := h
        refine gf_q_163 hx hb hts hown hK hG hW (gI_s hx3) d_q_text_79 ?_
        refine lv_iload_n hx hb d_q_text_82 rfl (lv_at hl 2 rfl) ?_
        refine lv_iadd hx hb d_q_text_83 ?_
        refine lv_sipush (v := (200 : Int32)) hx hb d_q_text_84 (by decide) ?_
        refine lv_icmp_le (tgt := 96) hx hb d_q_text_87 (by decide) (fun c4 => ?_) (fun c4 => ?_)
        · rw [if_pos c4] at h
          refine lv_aload_n hx hb d_q_text_96 rfl (lv_at hl 0 rfl) ?_
          refine lv_iconst (v := (0 : Int32)) hx hb d_q_text_97 (by decide) ?_
          replace h := bs h
          obtain ⟨w5, hw5, h⟩ := h
          refine pf_q_148 hx hb hts hown hK hG hW rfl rfl (pbi hw5 rfl) d_q_text_98 (fun H locs hW => ?_)
          refine lv_bipush (v := (56 : Int32)) hx hb d_q_text_101 (by decide) ?_
          refine lv_istore (lv' := [(5, .int (56 : Int32)), (0, .ref (base + y0)), (1, .long y1), (3, .int y3), (4, .int y4)]) hx hb d_q_text_103 hl (by decide) rfl (fun ls hl => ?_)
          exact j_q_text_105 C KK y0 y1 (56 : Int32) w5 h _ _ _ hW (lv_sub hl [1, 2, 0] rfl)
        · rw [if_neg c4] at h
          refine lv_aload_n hx hb d_q_text_90 rfl (lv_at hl 0 rfl) ?_
          refine lv_iconst (v := (2 : Int32)) hx hb d_q_text_91 (by decide) ?_
          replace h := bs2 h
          obtain ⟨x15, w14, hw14, h⟩ := h
          refine cv_q_159 (As := [.int (2 : Int32)]) (rest := []) hx hb hml hown hts hK hG hW (c_q_fail l D cA base hw14) (kb_q_fail hw14) ⟨Nat.le_of_ble_eq_true rfl, Nat.le_of_ble_eq_true rfl⟩ ⟨Nat.le_of_ble_eq_true rfl, Nat.le_of_ble_eq_true rfl⟩ rfl hl.1 rfl (Nat.le_of_ble_eq_true rfl) d_q_text_92 (fun H locs hW => ?_)
          cases h
          exact wo_iret hx hb hr hlk hW d_q_text_95
      · rw [if_pos c2] at h
        refine lv_aload_n hx hb d_q_text_72 rfl (lv_at hl 0 rfl) ?_
        refine lv_iconst (v := (1 : Int32)) hx hb d_q_text_73 (by decide) ?_
        replace h := bs2 h
        obtain ⟨x17, w16, hw16, h⟩ := h
        refine cv_q_159 (As := [.int (1 : Int32)]) (rest := []) hx hb hml hown hts hK hG hW (c_q_fail l D cA base hw16) (kb_q_fail hw16) ⟨Nat.le_of_ble_eq_true rfl, Nat.le_of_ble_eq_true rfl⟩ ⟨Nat.le_of_ble_eq_true rfl, Nat.le_of_ble_eq_true rfl⟩ rfl hl.1 rfl (Nat.le_of_ble_eq_true rfl) d_q_text_74 (fun H locs hW => ?_)
        cases h
        exact wo_iret hx hb hr hlk hW d_q_text_77
    · rw [if_neg c1] at h
      refine lv_lload_n hx hb d_q_text_14 rfl (lv_at hl 1 rfl) ?_
      refine lv_iload hx hb d_q_text_15 (lv_at hl 4 rfl) ?_
      refine lv_lshr hx hb d_q_text_17 rfl ?_
      refine lv_l2i hx hb d_q_text_18 rfl ?_
      refine lv_sipush (v := (255 : Int32)) hx hb d_q_text_19 (by decide) ?_
      refine lv_iand hx hb d_q_text_22 ?_
      refine lv_istore (lv' := [(6, .int ((Int64.toInt32 (y1 >>> (Int32.toInt64 y5 &&& 63))) &&& (255 : Int32))), (0, .ref (base + y0)), (1, .long y1), (3, .int y3), (4, .int y4), (5, .int y5)]) hx hb d_q_text_23 hl (by decide) rfl (fun ls hl => ?_)
      refine lv_iload hx hb d_q_text_25 (lv_at hl 0 rfl) ?_
      refine lv_if_ne (tgt := 33) hx hb d_q_text_27 (by decide) (fun c18 => ?_) (fun c18 => ?_)
      · rw [if_neg c18] at h
        refine lv_iload hx hb d_q_text_33 (lv_at hl 0 rfl) ?_
        refine lv_bipush (v := (10 : Int32)) hx hb d_q_text_35 (by decide) ?_
        refine lv_icmp_eq (tgt := 58) hx hb d_q_text_37 (by decide) (fun c19 => ?_) (fun c19 => ?_)
        · rw [if_pos c19] at h
          exact j_q_text_58 C ih y0 y1 y3 y4 y5 w h _ _ _ hW (lv_sub hl [1, 2, 3, 4, 5] rfl)
        · rw [if_neg c19] at h
          refine lv_iload hx hb d_q_text_40 (lv_at hl 0 rfl) ?_
          refine lv_i2l hx hb d_q_text_42 rfl ?_
          refine lv_ldc2 (own := Rc_q) (v := (32 : Int64)) hx hb hown (hts (.constantLong "AlarmForgeModel" 151 (32 : Int64)) (gt_of (i := 1373) (by decide +kernel) (by decide +kernel))) d_q_text_43 ?_
          refine lv_ldc2 (own := Rc_q) (v := (126 : Int64)) hx hb hown (hts (.constantLong "AlarmForgeModel" 153 (126 : Int64)) (gt_of (i := 1374) (by decide +kernel) (by decide +kernel))) d_q_text_46 ?_
          replace h := bs2 h
          obtain ⟨x21, w20, hw20, h⟩ := h
          refine cs_q_155 (As := [.long (Int32.toInt64 ((Int64.toInt32 (y1 >>> (Int32.toInt64 y5 &&& 63))) &&& (255 : Int32))), .long (32 : Int64), .long (126 : Int64)]) (rest := []) hx hb hml hown hts hK hG hW (c_q_in l D cA base hw20) ⟨Nat.le_of_ble_eq_true rfl, Nat.le_of_ble_eq_true rfl⟩ ⟨Nat.le_of_ble_eq_true rfl, Nat.le_of_ble_eq_true rfl⟩ rfl hl.1 rfl (Nat.le_of_ble_eq_true rfl) d_q_text_49 (fun H locs hW => ?_)
          refine lv_if_ne (tgt := 58) hx hb d_q_text_52 (by decide) (fun c22 => ?_) (fun c22 => ?_)
          · rw [if_neg c22] at h
            exact j_q_text_58 C ih y0 y1 y3 y4 y5 w20 h _ _ _ hW (lv_sub hl [1, 2, 3, 4, 5] rfl)
          · rw [if_pos c22] at h
            refine lv_iconst (v := (0 : Int32)) hx hb d_q_text_55 (by decide) ?_
            refine lv_istore (lv' := [(4, .int (0 : Int32)), (6, .int ((Int64.toInt32 (y1 >>> (Int32.toInt64 y5 &&& 63))) &&& (255 : Int32))), (0, .ref (base + y0)), (1, .long y1), (3, .int y3), (5, .int y5)]) hx hb d_q_text_56 hl (by decide) rfl (fun ls hl => ?_)
            exact j_q_text_58 C ih y0 y1 y3 (0 : Int32) y5 w20 h _ _ _ hW (lv_sub hl [2, 3, 4, 0, 5] rfl)
      · rw [if_pos c18] at h
        refine lv_goto (tgt := 61) hx hb d_q_text_30 (by decide) ?_
        exact j_q_text_61 C ih y0 y1 y3 y4 y5 w h _ _ _ hW (lv_sub hl [1, 2, 3, 4, 5] rfl)
set_option maxHeartbeats 4000000 in
set_option maxRecDepth 100000 in
theorem c_q_text (l : Launch) (D : va_G) (cA : Nat → ClassId) (base : Nat) {a0 : Nat} {a1 : Int64} {w w' : WW} {r : Int32} (h : f_q_text a0 a1 w = some (r, w')) : mt l D cls (wo_tys cA) cA base y_q_text (Cond.code y_q_text b_q_text 7 (some .int) :: gt) rm_q_text [.ref (base + a0), .long a1] w (some (.int r)) w' rm_q_text.cells rm_q_text.slots := by
  refine mt_start (by decide) (Nat.le_of_ble_eq_true rfl) ?_
  intro p e s m below meth c ls hx hb hr hml hown hts hlk hnm hK hG hW hl
  have C : cx b_q_text (some .int) 7 y_q_text.cls "text" p s m [.ref (base + a0), .long a1].toArray meth c D cA base := ⟨hx, hb, hr, hml, hown, hts, hlk, hnm, hK, hG⟩
  have hl : lv_has ls 7 [(0, .ref (base + a0)), (1, .long a1)] := hl
  unfold f_q_text at h
  replace h := its h
  obtain ⟨-, h⟩ := h
  refine lv_iconst (v := (0 : Int32)) hx hb d_q_text_0 (by decide) ?_
  refine lv_istore_n (lv' := [(3, .int (0 : Int32)), (0, .ref (base + a0)), (1, .long a1)]) hx hb d_q_text_1 rfl hl (by decide) rfl (fun ls hl => ?_)
  refine lv_iconst (v := (1 : Int32)) hx hb d_q_text_2 (by decide) ?_
  refine lv_istore (lv' := [(4, .int (1 : Int32)), (3, .int (0 : Int32)), (0, .ref (base + a0)), (1, .long a1)]) hx hb d_q_text_3 hl (by decide) rfl (fun ls hl => ?_)
  refine lv_bipush (v := (56 : Int32)) hx hb d_q_text_5 (by decide) ?_
  refine lv_istore (lv' := [(5, .int (56 : Int32)), (4, .int (1 : Int32)), (3, .int (0 : Int32)), (0, .ref (base + a0)), (1, .long a1)]) hx hb d_q_text_7 hl (by decide) rfl (fun ls hl => ?_)
  exact j_q_text_9 C KK a0 a1 (0 : Int32) (1 : Int32) (56 : Int32) w h _ _ _ hW (lv_sub hl [3, 4, 2, 1, 0] rfl)
abbrev b_q_clear : ByteArray := prog_11_method_6_code
def y_q_clear : MethodName := ⟨"AlarmForgeModel", "clear", "()I"⟩
def rm_q_clear : Room := { frames := 0, cells := 0, slots := 0, locals := 0 }
theorem d_q_clear_0 : decode b_q_clear 0 = .ok (.aload_n 0, 1) := by decide +kernel
theorem d_q_clear_1 : decode b_q_clear 1 = .ok (.iconst 0, 1) := by decide +kernel
theorem d_q_clear_2 : decode b_q_clear 2 = .ok (.putfield 148, 3) := by decide +kernel
theorem d_q_clear_5 : decode b_q_clear 5 = .ok (.aload_n 0, 1) := by decide +kernel
theorem d_q_clear_6 : decode b_q_clear 6 = .ok (.getfield 163, 3) := by decide +kernel
theorem d_q_clear_9 : decode b_q_clear 9 = .ok (.istore_n 1, 1) := by decide +kernel
theorem d_q_clear_10 : decode b_q_clear 10 = .ok (.aload_n 0, 1) := by decide +kernel
theorem d_q_clear_11 : decode b_q_clear 11 = .ok (.iconst 0, 1) := by decide +kernel
theorem d_q_clear_12 : decode b_q_clear 12 = .ok (.putfield 163, 3) := by decide +kernel
theorem d_q_clear_15 : decode b_q_clear 15 = .ok (.iload_n 1, 1) := by decide +kernel
theorem d_q_clear_16 : decode b_q_clear 16 = .ok (.ireturn, 1) := by decide +kernel
def f_q_clear (a0 : Nat) (w : WW) : Option (Int32 × WW) :=
  if kb w a0 9 = true then
    (pv w a0 9 5 (.int (0 : Int32))).bind fun w1 =>
    (gI w1 a0 9 2).bind fun x2 =>
    (pv w1 a0 9 2 (.int (0 : Int32))).bind fun w3 =>
    some (x2, w3)
  else none
theorem kb_q_clear {a0 : Nat}  {w : WW} {r : (Int32 × WW)} (h : f_q_clear a0 w = some r) : kb w a0 9 = true := (its h).1
set_option maxHeartbeats 4000000 in
set_option maxRecDepth 100000 in
theorem c_q_clear (l : Launch) (D : va_G) (cA : Nat → ClassId) (base : Nat) {a0 : Nat} {w w' : WW} {r : Int32} (h : f_q_clear a0 w = some (r, w')) : mt l D cls (wo_tys cA) cA base y_q_clear (Cond.code y_q_clear b_q_clear 2 (some .int) :: gt) rm_q_clear [.ref (base + a0)] w (some (.int r)) w' rm_q_clear.cells rm_q_clear.slots := by
  refine mt_start (by decide) (Nat.le_of_ble_eq_true rfl) ?_
  intro p e s m below meth c ls hx hb hr hml hown hts hlk hnm hK hG hW hl
  have C : cx b_q_clear (some .int) 2 y_q_clear.cls "clear" p s m [.ref (base + a0)].toArray meth c D cA base := ⟨hx, hb, hr, hml, hown, hts, hlk, hnm, hK, hG⟩
  have hl : lv_has ls 2 [(0, .ref (base + a0))] := hl
  unfold f_q_clear at h
  replace h := its h
  obtain ⟨-, h⟩ := h
  refine lv_aload_n hx hb d_q_clear_0 rfl (lv_at hl 0 rfl) ?_
  refine lv_iconst (v := (0 : Int32)) hx hb d_q_clear_1 (by decide) ?_
  replace h := bs h
  obtain ⟨w1, hw1, h⟩ := h
  refine pf_q_148 hx hb hts hown hK hG hW rfl rfl (pbi hw1 rfl) d_q_clear_2 (fun H locs hW => ?_)
  refine lv_aload_n hx hb d_q_clear_5 rfl (lv_at hl 0 rfl) ?_
  replace h := bs h
  obtain ⟨x2, hx2, h⟩ := h
  refine gf_q_163 hx hb hts hown hK hG hW (gI_s hx2) d_q_clear_6 ?_
  refine lv_istore_n (lv' := [(1, .int x2), (0, .ref (base + a0))]) hx hb d_q_clear_9 rfl hl (by decide) rfl (fun ls hl => ?_)
  refine lv_aload_n hx hb d_q_clear_10 rfl (lv_at hl 1 rfl) ?_
  refine lv_iconst (v := (0 : Int32)) hx hb d_q_clear_11 (by decide) ?_
  replace h := bs h
  obtain ⟨w3, hw3, h⟩ := h
  refine pf_q_163 hx hb hts hown hK hG hW rfl rfl (pbi hw3 rfl) d_q_clear_12 (fun H locs hW => ?_)
  refine lv_iload_n hx hb d_q_clear_15 rfl (lv_at hl 0 rfl) ?_
  cases h
  exact wo_iret hx hb hr hlk hW d_q_clear_16
abbrev b_q_isDigit : ByteArray := prog_11_method_8_code
def y_q_isDigit : MethodName := ⟨"AlarmForgeModel", "isDigit", "(I)Z"⟩
def rm_q_isDigit : Room := { frames := 1, cells := 0, slots := 0, locals := 25 }
theorem d_q_isDigit_0 : decode b_q_isDigit 0 = .ok (.iload_n 0, 1) := by decide +kernel
theorem d_q_isDigit_1 : decode b_q_isDigit 1 = .ok (.i2l, 1) := by decide +kernel
theorem d_q_isDigit_2 : decode b_q_isDigit 2 = .ok (.ldc2_w 166, 3) := by decide +kernel
theorem d_q_isDigit_5 : decode b_q_isDigit 5 = .ok (.ldc2_w 168, 3) := by decide +kernel
theorem d_q_isDigit_8 : decode b_q_isDigit 8 = .ok (.invokestatic 155, 3) := by decide +kernel
theorem d_q_isDigit_11 : decode b_q_isDigit 11 = .ok (.ireturn, 1) := by decide +kernel
def f_q_isDigit (a0 : Int32) (w : WW) : Option (Int32 × WW) :=
  bd2 (f_q_in (Int32.toInt64 a0) (48 : Int64) (57 : Int64) w) fun x2 w1 =>
  if x2 = 0 ∨ x2 = 1 then some (x2, w1) else none
set_option maxHeartbeats 4000000 in
set_option maxRecDepth 100000 in
theorem c_q_isDigit (l : Launch) (D : va_G) (cA : Nat → ClassId) (base : Nat) {a0 : Int32} {w w' : WW} {r : Int32} (h : f_q_isDigit a0 w = some (r, w')) : mt l D cls (wo_tys cA) cA base y_q_isDigit (Cond.code y_q_isDigit b_q_isDigit 1 (some .boolean) :: gt) rm_q_isDigit [.int a0] w (some (.int r)) w' rm_q_isDigit.cells rm_q_isDigit.slots := by
  refine mt_start (by decide) (Nat.le_of_ble_eq_true rfl) ?_
  intro p e s m below meth c ls hx hb hr hml hown hts hlk hnm hK hG hW hl
  have C : cx b_q_isDigit (some .boolean) 1 y_q_isDigit.cls "isDigit" p s m [.int a0].toArray meth c D cA base := ⟨hx, hb, hr, hml, hown, hts, hlk, hnm, hK, hG⟩
  have hl : lv_has ls 1 [(0, .int a0)] := hl
  unfold f_q_isDigit at h
  refine lv_iload_n hx hb d_q_isDigit_0 rfl (lv_at hl 0 rfl) ?_
  refine lv_i2l hx hb d_q_isDigit_1 rfl ?_
  refine lv_ldc2 (own := Rc_q) (v := (48 : Int64)) hx hb hown (hts (.constantLong "AlarmForgeModel" 166 (48 : Int64)) (gt_of (i := 1397) (by decide +kernel) (by decide +kernel))) d_q_isDigit_2 ?_
  refine lv_ldc2 (own := Rc_q) (v := (57 : Int64)) hx hb hown (hts (.constantLong "AlarmForgeModel" 168 (57 : Int64)) (gt_of (i := 1398) (by decide +kernel) (by decide +kernel))) d_q_isDigit_5 ?_
  replace h := bs2 h
  obtain ⟨x2, w1, hw1, h⟩ := h
  refine cs_q_155 (As := [.long (Int32.toInt64 a0), .long (48 : Int64), .long (57 : Int64)]) (rest := []) hx hb hml hown hts hK hG hW (c_q_in l D cA base hw1) ⟨Nat.le_of_ble_eq_true rfl, Nat.le_of_ble_eq_true rfl⟩ ⟨Nat.le_of_ble_eq_true rfl, Nat.le_of_ble_eq_true rfl⟩ rfl hl.1 rfl (Nat.le_of_ble_eq_true rfl) d_q_isDigit_8 (fun H locs hW => ?_)
  replace h := its h
  obtain ⟨c3, h⟩ := h
  cases h
  exact wo_zret hx hb hr hlk hW c3 d_q_isDigit_11
abbrev b_q_charAt : ByteArray := prog_11_method_7_code
def y_q_charAt : MethodName := ⟨"AlarmForgeModel", "charAt", "(I)I"⟩
def rm_q_charAt : Room := { frames := 0, cells := 0, slots := 0, locals := 0 }
theorem d_q_charAt_0 : decode b_q_charAt 0 = .ok (.iload_n 1, 1) := by decide +kernel
theorem d_q_charAt_1 : decode b_q_charAt 1 = .ok (.aload_n 0, 1) := by decide +kernel
theorem d_q_charAt_2 : decode b_q_charAt 2 = .ok (.getfield 163, 3) := by decide +kernel
theorem d_q_charAt_5 : decode b_q_charAt 5 = .ok (.if_icmp .ge (12), 3) := by decide +kernel
theorem d_q_charAt_8 : decode b_q_charAt 8 = .ok (.aload_n 0, 1) := by decide +kernel
theorem d_q_charAt_9 : decode b_q_charAt 9 = .ok (.getfield 7, 3) := by decide +kernel
theorem d_q_charAt_12 : decode b_q_charAt 12 = .ok (.iload_n 1, 1) := by decide +kernel
theorem d_q_charAt_13 : decode b_q_charAt 13 = .ok (.iaload, 1) := by decide +kernel
theorem d_q_charAt_14 : decode b_q_charAt 14 = .ok (.goto (5), 3) := by decide +kernel
theorem d_q_charAt_17 : decode b_q_charAt 17 = .ok (.bipush (32), 2) := by decide +kernel
theorem d_q_charAt_19 : decode b_q_charAt 19 = .ok (.ireturn, 1) := by decide +kernel
def f_q_charAt_19  (z0 : Int32) (w : WW) : Option (Int32 × WW) :=
  some (z0, w)
def f_q_charAt (a0 : Nat) (a1 : Int32) (w : WW) : Option (Int32 × WW) :=
  if kb w a0 9 = true then
    (gI w a0 9 2).bind fun x1 =>
    if x1 ≤ a1 then
      f_q_charAt_19 (32 : Int32) w
    else
      (gN w a0 9 0).bind fun x3 =>
      (rI w x3 0 a1).bind fun x4 =>
      f_q_charAt_19 x4 w
  else none
theorem kb_q_charAt {a0 : Nat} {a1 : Int32} {w : WW} {r : (Int32 × WW)} (h : f_q_charAt a0 a1 w = some r) : kb w a0 9 = true := (its h).1
set_option maxHeartbeats 4000000 in
set_option maxRecDepth 100000 in
theorem j_q_charAt_19 {p : Program} {l : Launch} {e : Env} {s : State} {m : MethodId} {args : Array Value} {below : List Frame} {meth : Method} {c : Code} {D : va_G} {cA : Nat → ClassId} {base : Nat} {r : Int32} {w' : WW} (C : cx b_q_charAt (some .int) 2 y_q_charAt.cls "charAt" p s m args meth c D cA base)   : ∀ (z0 : Int32) (w : WW), f_q_charAt_19 z0 w = some (r, w') → ∀ (H : Heap) (locs : List Loc) (ls : Array Slot), wo_S D cls cA base s w H locs → lv_has ls 2 [] → W p l e rm_q_charAt s m args below meth c H locs 0 0 (MQ below (wo_Q D cls cA base (some (.int r)) w') args s rm_q_charAt.cells rm_q_charAt.slots (wo_B base)) (F0 m 19 ls [.int z0]) := by
  obtain ⟨hx, hb, hr, hml, hown, hts, hlk, hnm, hK, hG⟩ := id C
  intro z0 w h H locs ls hW hl
  unfold f_q_charAt_19 at h
  cases h
  exact wo_iret hx hb hr hlk hW d_q_charAt_19
set_option maxHeartbeats 4000000 in
set_option maxRecDepth 100000 in
theorem c_q_charAt (l : Launch) (D : va_G) (cA : Nat → ClassId) (base : Nat) {a0 : Nat} {a1 : Int32} {w w' : WW} {r : Int32} (h : f_q_charAt a0 a1 w = some (r, w')) : mt l D cls (wo_tys cA) cA base y_q_charAt (Cond.code y_q_charAt b_q_charAt 2 (some .int) :: gt) rm_q_charAt [.ref (base + a0), .int a1] w (some (.int r)) w' rm_q_charAt.cells rm_q_charAt.slots := by
  refine mt_start (by decide) (Nat.le_of_ble_eq_true rfl) ?_
  intro p e s m below meth c ls hx hb hr hml hown hts hlk hnm hK hG hW hl
  have C : cx b_q_charAt (some .int) 2 y_q_charAt.cls "charAt" p s m [.ref (base + a0), .int a1].toArray meth c D cA base := ⟨hx, hb, hr, hml, hown, hts, hlk, hnm, hK, hG⟩
  have hl : lv_has ls 2 [(0, .ref (base + a0)), (1, .int a1)] := hl
  unfold f_q_charAt at h
  replace h := its h
  obtain ⟨-, h⟩ := h
  refine lv_iload_n hx hb d_q_charAt_0 rfl (lv_at hl 1 rfl) ?_
  refine lv_aload_n hx hb d_q_charAt_1 rfl (lv_at hl 0 rfl) ?_
  replace h := bs h
  obtain ⟨x1, hx1, h⟩ := h
  refine gf_q_163 hx hb hts hown hK hG hW (gI_s hx1) d_q_charAt_2 ?_
  refine lv_icmp_ge (tgt := 17) hx hb d_q_charAt_5 (by decide) (fun c2 => ?_) (fun c2 => ?_)
  · rw [if_pos c2] at h
    refine lv_bipush (v := (32 : Int32)) hx hb d_q_charAt_17 (by decide) ?_
    exact j_q_charAt_19 C (32 : Int32) w h _ _ _ hW (lv_sub hl [] rfl)
  · rw [if_neg c2] at h
    refine lv_aload_n hx hb d_q_charAt_8 rfl (lv_at hl 0 rfl) ?_
    replace h := bs h
    obtain ⟨x3, hx3, h⟩ := h
    refine gf_q_7 hx hb hts hown hK hG hW (gN_s hx3) d_q_charAt_9 ?_
    refine lv_iload_n hx hb d_q_charAt_12 rfl (lv_at hl 1 rfl) ?_
    replace h := bs h
    obtain ⟨x4, hx4, h⟩ := h
    refine wo_iald hx hb hK hW (t := 0) rfl hx4 d_q_charAt_13 ?_
    refine lv_goto (tgt := 19) hx hb d_q_charAt_14 (by decide) ?_
    exact j_q_charAt_19 C x4 w h _ _ _ hW (lv_sub hl [] rfl)
abbrev b_q_isLetter : ByteArray := prog_11_method_9_code
def y_q_isLetter : MethodName := ⟨"AlarmForgeModel", "isLetter", "(I)Z"⟩
def rm_q_isLetter : Room := { frames := 1, cells := 0, slots := 0, locals := 25 }
theorem d_q_isLetter_0 : decode b_q_isLetter 0 = .ok (.iload_n 0, 1) := by decide +kernel
theorem d_q_isLetter_1 : decode b_q_isLetter 1 = .ok (.i2l, 1) := by decide +kernel
theorem d_q_isLetter_2 : decode b_q_isLetter 2 = .ok (.ldc2_w 170, 3) := by decide +kernel
theorem d_q_isLetter_5 : decode b_q_isLetter 5 = .ok (.ldc2_w 172, 3) := by decide +kernel
theorem d_q_isLetter_8 : decode b_q_isLetter 8 = .ok (.invokestatic 155, 3) := by decide +kernel
theorem d_q_isLetter_11 : decode b_q_isLetter 11 = .ok (.ifCond .ne (17), 3) := by decide +kernel
theorem d_q_isLetter_14 : decode b_q_isLetter 14 = .ok (.iload_n 0, 1) := by decide +kernel
theorem d_q_isLetter_15 : decode b_q_isLetter 15 = .ok (.i2l, 1) := by decide +kernel
theorem d_q_isLetter_16 : decode b_q_isLetter 16 = .ok (.ldc2_w 174, 3) := by decide +kernel
theorem d_q_isLetter_19 : decode b_q_isLetter 19 = .ok (.ldc2_w 176, 3) := by decide +kernel
theorem d_q_isLetter_22 : decode b_q_isLetter 22 = .ok (.invokestatic 155, 3) := by decide +kernel
theorem d_q_isLetter_25 : decode b_q_isLetter 25 = .ok (.ifCond .eq (7), 3) := by decide +kernel
theorem d_q_isLetter_28 : decode b_q_isLetter 28 = .ok (.iconst 1, 1) := by decide +kernel
theorem d_q_isLetter_29 : decode b_q_isLetter 29 = .ok (.goto (4), 3) := by decide +kernel
theorem d_q_isLetter_32 : decode b_q_isLetter 32 = .ok (.iconst 0, 1) := by decide +kernel
theorem d_q_isLetter_33 : decode b_q_isLetter 33 = .ok (.ireturn, 1) := by decide +kernel
def f_q_isLetter_33  (z0 : Int32) (w : WW) : Option (Int32 × WW) :=
  if z0 = 0 ∨ z0 = 1 then some (z0, w) else none
def f_q_isLetter_28   (w : WW) : Option (Int32 × WW) :=
  f_q_isLetter_33 (1 : Int32) w
def f_q_isLetter (a0 : Int32) (w : WW) : Option (Int32 × WW) :=
  bd2 (f_q_in (Int32.toInt64 a0) (65 : Int64) (90 : Int64) w) fun x2 w1 =>
  if x2 = 0 then
    bd2 (f_q_in (Int32.toInt64 a0) (97 : Int64) (122 : Int64) w1) fun x6 w5 =>
    if x6 = 0 then
      f_q_isLetter_33 (0 : Int32) w5
    else
      f_q_isLetter_28 w5
  else
    f_q_isLetter_28 w1
set_option maxHeartbeats 4000000 in
set_option maxRecDepth 100000 in
theorem j_q_isLetter_33 {p : Program} {l : Launch} {e : Env} {s : State} {m : MethodId} {args : Array Value} {below : List Frame} {meth : Method} {c : Code} {D : va_G} {cA : Nat → ClassId} {base : Nat} {r : Int32} {w' : WW} (C : cx b_q_isLetter (some .boolean) 1 y_q_isLetter.cls "isLetter" p s m args meth c D cA base)   : ∀ (z0 : Int32) (w : WW), f_q_isLetter_33 z0 w = some (r, w') → ∀ (H : Heap) (locs : List Loc) (ls : Array Slot), wo_S D cls cA base s w H locs → lv_has ls 1 [] → W p l e rm_q_isLetter s m args below meth c H locs 0 0 (MQ below (wo_Q D cls cA base (some (.int r)) w') args s rm_q_isLetter.cells rm_q_isLetter.slots (wo_B base)) (F0 m 33 ls [.int z0]) := by
  obtain ⟨hx, hb, hr, hml, hown, hts, hlk, hnm, hK, hG⟩ := id C
  intro z0 w h H locs ls hW hl
  unfold f_q_isLetter_33 at h
  replace h := its h
  obtain ⟨c4, h⟩ := h
  cases h
  exact wo_zret hx hb hr hlk hW c4 d_q_isLetter_33
set_option maxHeartbeats 4000000 in
set_option maxRecDepth 100000 in
theorem j_q_isLetter_28 {p : Program} {l : Launch} {e : Env} {s : State} {m : MethodId} {args : Array Value} {below : List Frame} {meth : Method} {c : Code} {D : va_G} {cA : Nat → ClassId} {base : Nat} {r : Int32} {w' : WW} (C : cx b_q_isLetter (some .boolean) 1 y_q_isLetter.cls "isLetter" p s m args meth c D cA base)   : ∀  (w : WW), f_q_isLetter_28  w = some (r, w') → ∀ (H : Heap) (locs : List Loc) (ls : Array Slot), wo_S D cls cA base s w H locs → lv_has ls 1 [] → W p l e rm_q_isLetter s m args below meth c H locs 0 0 (MQ below (wo_Q D cls cA base (some (.int r)) w') args s rm_q_isLetter.cells rm_q_isLetter.slots (wo_B base)) (F0 m 28 ls []) := by
  obtain ⟨hx, hb, hr, hml, hown, hts, hlk, hnm, hK, hG⟩ := id C
  intro  w h H locs ls hW hl
  unfold f_q_isLetter_28 at h
  refine lv_iconst (v := (1 : Int32)) hx hb d_q_isLetter_28 (by decide) ?_
  refine lv_goto (tgt := 33) hx hb d_q_isLetter_29 (by decide) ?_
  exact j_q_isLetter_33 C (1 : Int32) w h _ _ _ hW (lv_sub hl [] rfl)
set_option maxHeartbeats 4000000 in
set_option maxRecDepth 100000 in
theorem c_q_isLetter (l : Launch) (D : va_G) (cA : Nat → ClassId) (base : Nat) {a0 : Int32} {w w' : WW} {r : Int32} (h : f_q_isLetter a0 w = some (r, w')) : mt l D cls (wo_tys cA) cA base y_q_isLetter (Cond.code y_q_isLetter b_q_isLetter 1 (some .boolean) :: gt) rm_q_isLetter [.int a0] w (some (.int r)) w' rm_q_isLetter.cells rm_q_isLetter.slots := by
  refine mt_start (by decide) (Nat.le_of_ble_eq_true rfl) ?_
  intro p e s m below meth c ls hx hb hr hml hown hts hlk hnm hK hG hW hl
  have C : cx b_q_isLetter (some .boolean) 1 y_q_isLetter.cls "isLetter" p s m [.int a0].toArray meth c D cA base := ⟨hx, hb, hr, hml, hown, hts, hlk, hnm, hK, hG⟩
  have hl : lv_has ls 1 [(0, .int a0)] := hl
  unfold f_q_isLetter at h
  refine lv_iload_n hx hb d_q_isLetter_0 rfl (lv_at hl 0 rfl) ?_
  refine lv_i2l hx hb d_q_isLetter_1 rfl ?_
  refine lv_ldc2 (own := Rc_q) (v := (65 : Int64)) hx hb hown (hts (.constantLong "AlarmForgeModel" 170 (65 : Int64)) (gt_of (i := 1406) (by decide +kernel) (by decide +kernel))) d_q_isLetter_2 ?_
  refine lv_ldc2 (own := Rc_q) (v := (90 : Int64)) hx hb hown (hts (.constantLong "AlarmForgeModel" 172 (90 : Int64)) (gt_of (i := 1407) (by decide +kernel) (by decide +kernel))) d_q_isLetter_5 ?_
  replace h := bs2 h
  obtain ⟨x2, w1, hw1, h⟩ := h
  refine cs_q_155 (As := [.long (Int32.toInt64 a0), .long (65 : Int64), .long (90 : Int64)]) (rest := []) hx hb hml hown hts hK hG hW (c_q_in l D cA base hw1) ⟨Nat.le_of_ble_eq_true rfl, Nat.le_of_ble_eq_true rfl⟩ ⟨Nat.le_of_ble_eq_true rfl, Nat.le_of_ble_eq_true rfl⟩ rfl hl.1 rfl (Nat.le_of_ble_eq_true rfl) d_q_isLetter_8 (fun H locs hW => ?_)
  refine lv_if_ne (tgt := 28) hx hb d_q_isLetter_11 (by decide) (fun c3 => ?_) (fun c3 => ?_)
  · rw [if_neg c3] at h
    exact j_q_isLetter_28 C w1 h _ _ _ hW (lv_sub hl [] rfl)
  · rw [if_pos c3] at h
    refine lv_iload_n hx hb d_q_isLetter_14 rfl (lv_at hl 0 rfl) ?_
    refine lv_i2l hx hb d_q_isLetter_15 rfl ?_
    refine lv_ldc2 (own := Rc_q) (v := (97 : Int64)) hx hb hown (hts (.constantLong "AlarmForgeModel" 174 (97 : Int64)) (gt_of (i := 1408) (by decide +kernel) (by decide +kernel))) d_q_isLetter_16 ?_
    refine lv_ldc2 (own := Rc_q) (v := (122 : Int64)) hx hb hown (hts (.constantLong "AlarmForgeModel" 176 (122 : Int64)) (gt_of (i := 1409) (by decide +kernel) (by decide +kernel))) d_q_isLetter_19 ?_
    replace h := bs2 h
    obtain ⟨x6, w5, hw5, h⟩ := h
    refine cs_q_155 (As := [.long (Int32.toInt64 a0), .long (97 : Int64), .long (122 : Int64)]) (rest := []) hx hb hml hown hts hK hG hW (c_q_in l D cA base hw5) ⟨Nat.le_of_ble_eq_true rfl, Nat.le_of_ble_eq_true rfl⟩ ⟨Nat.le_of_ble_eq_true rfl, Nat.le_of_ble_eq_true rfl⟩ rfl hl.1 rfl (Nat.le_of_ble_eq_true rfl) d_q_isLetter_22 (fun H locs hW => ?_)
    refine lv_if_eq (tgt := 32) hx hb d_q_isLetter_25 (by decide) (fun c7 => ?_) (fun c7 => ?_)
    · rw [if_pos c7] at h
      refine lv_iconst (v := (0 : Int32)) hx hb d_q_isLetter_32 (by decide) ?_
      exact j_q_isLetter_33 C (0 : Int32) w5 h _ _ _ hW (lv_sub hl [] rfl)
    · rw [if_neg c7] at h
      exact j_q_isLetter_28 C w5 h _ _ _ hW (lv_sub hl [] rfl)
abbrev b_q_word : ByteArray := prog_11_method_12_code
def y_q_word : MethodName := ⟨"AlarmForgeModel", "word", "()V"⟩
def rm_q_word : Room := { frames := 0, cells := 0, slots := 0, locals := 0 }
def f_q_word (a0 : Nat) (w : WW) : Option WW := none
theorem kb_q_word {a0 : Nat} {w : WW} {r : WW} (h : f_q_word a0 w = some r) : kb w a0 9 = true := by cases h
theorem c_q_word (l : Launch) (D : va_G) (cA : Nat → ClassId) (base : Nat) {a0 : Nat} {w w' : WW} (h : f_q_word a0 w = some w') : mt l D cls (wo_tys cA) cA base y_q_word (Cond.code y_q_word b_q_word 8 (none) :: gt) rm_q_word [.ref (base + a0)] w none w' rm_q_word.cells rm_q_word.slots := by
  cases h
abbrev b_q_isOperator : ByteArray := prog_11_method_14_code
def y_q_isOperator : MethodName := ⟨"AlarmForgeModel", "isOperator", "(I)Z"⟩
def rm_q_isOperator : Room := { frames := 0, cells := 0, slots := 0, locals := 0 }
theorem d_q_isOperator_0 : decode b_q_isOperator 0 = .ok (.iload_n 0, 1) := by decide +kernel
theorem d_q_isOperator_1 : decode b_q_isOperator 1 = .ok (.bipush (43), 2) := by decide +kernel
theorem d_q_isOperator_3 : decode b_q_isOperator 3 = .ok (.if_icmp .eq (27), 3) := by decide +kernel
theorem d_q_isOperator_6 : decode b_q_isOperator 6 = .ok (.iload_n 0, 1) := by decide +kernel
theorem d_q_isOperator_7 : decode b_q_isOperator 7 = .ok (.bipush (45), 2) := by decide +kernel
theorem d_q_isOperator_9 : decode b_q_isOperator 9 = .ok (.if_icmp .eq (21), 3) := by decide +kernel
theorem d_q_isOperator_12 : decode b_q_isOperator 12 = .ok (.iload_n 0, 1) := by decide +kernel
theorem d_q_isOperator_13 : decode b_q_isOperator 13 = .ok (.bipush (42), 2) := by decide +kernel
theorem d_q_isOperator_15 : decode b_q_isOperator 15 = .ok (.if_icmp .eq (15), 3) := by decide +kernel
theorem d_q_isOperator_18 : decode b_q_isOperator 18 = .ok (.iload_n 0, 1) := by decide +kernel
theorem d_q_isOperator_19 : decode b_q_isOperator 19 = .ok (.bipush (47), 2) := by decide +kernel
theorem d_q_isOperator_21 : decode b_q_isOperator 21 = .ok (.if_icmp .eq (9), 3) := by decide +kernel
theorem d_q_isOperator_24 : decode b_q_isOperator 24 = .ok (.iload_n 0, 1) := by decide +kernel
theorem d_q_isOperator_25 : decode b_q_isOperator 25 = .ok (.bipush (37), 2) := by decide +kernel
theorem d_q_isOperator_27 : decode b_q_isOperator 27 = .ok (.if_icmp .ne (7), 3) := by decide +kernel
theorem d_q_isOperator_30 : decode b_q_isOperator 30 = .ok (.iconst 1, 1) := by decide +kernel
theorem d_q_isOperator_31 : decode b_q_isOperator 31 = .ok (.goto (4), 3) := by decide +kernel
theorem d_q_isOperator_34 : decode b_q_isOperator 34 = .ok (.iconst 0, 1) := by decide +kernel
theorem d_q_isOperator_35 : decode b_q_isOperator 35 = .ok (.ireturn, 1) := by decide +kernel
def f_q_isOperator_35  (z0 : Int32) (w : WW) : Option (Int32 × WW) :=
  if z0 = 0 ∨ z0 = 1 then some (z0, w) else none
def f_q_isOperator_30   (w : WW) : Option (Int32 × WW) :=
  f_q_isOperator_35 (1 : Int32) w
def f_q_isOperator (a0 : Int32) (w : WW) : Option (Int32 × WW) :=
  if a0 = (43 : Int32) then
    f_q_isOperator_30 w
  else
    if a0 = (45 : Int32) then
      f_q_isOperator_30 w
    else
      if a0 = (42 : Int32) then
        f_q_isOperator_30 w
      else
        if a0 = (47 : Int32) then
          f_q_isOperator_30 w
        else
          if a0 = (37 : Int32) then
            f_q_isOperator_30 w
          else
            f_q_isOperator_35 (0 : Int32) w
set_option maxHeartbeats 4000000 in
set_option maxRecDepth 100000 in
theorem j_q_isOperator_35 {p : Program} {l : Launch} {e : Env} {s : State} {m : MethodId} {args : Array Value} {below : List Frame} {meth : Method} {c : Code} {D : va_G} {cA : Nat → ClassId} {base : Nat} {r : Int32} {w' : WW} (C : cx b_q_isOperator (some .boolean) 1 y_q_isOperator.cls "isOperator" p s m args meth c D cA base)   : ∀ (z0 : Int32) (w : WW), f_q_isOperator_35 z0 w = some (r, w') → ∀ (H : Heap) (locs : List Loc) (ls : Array Slot), wo_S D cls cA base s w H locs → lv_has ls 1 [] → W p l e rm_q_isOperator s m args below meth c H locs 0 0 (MQ below (wo_Q D cls cA base (some (.int r)) w') args s rm_q_isOperator.cells rm_q_isOperator.slots (wo_B base)) (F0 m 35 ls [.int z0]) := by
  obtain ⟨hx, hb, hr, hml, hown, hts, hlk, hnm, hK, hG⟩ := id C
  intro z0 w h H locs ls hW hl
  unfold f_q_isOperator_35 at h
  replace h := its h
  obtain ⟨c2, h⟩ := h
  cases h
  exact wo_zret hx hb hr hlk hW c2 d_q_isOperator_35
set_option maxHeartbeats 4000000 in
set_option maxRecDepth 100000 in
theorem j_q_isOperator_30 {p : Program} {l : Launch} {e : Env} {s : State} {m : MethodId} {args : Array Value} {below : List Frame} {meth : Method} {c : Code} {D : va_G} {cA : Nat → ClassId} {base : Nat} {r : Int32} {w' : WW} (C : cx b_q_isOperator (some .boolean) 1 y_q_isOperator.cls "isOperator" p s m args meth c D cA base)   : ∀  (w : WW), f_q_isOperator_30  w = some (r, w') → ∀ (H : Heap) (locs : List Loc) (ls : Array Slot), wo_S D cls cA base s w H locs → lv_has ls 1 [] → W p l e rm_q_isOperator s m args below meth c H locs 0 0 (MQ below (wo_Q D cls cA base (some (.int r)) w') args s rm_q_isOperator.cells rm_q_isOperator.slots (wo_B base)) (F0 m 30 ls []) := by
  obtain ⟨hx, hb, hr, hml, hown, hts, hlk, hnm, hK, hG⟩ := id C
  intro  w h H locs ls hW hl
  unfold f_q_isOperator_30 at h
  refine lv_iconst (v := (1 : Int32)) hx hb d_q_isOperator_30 (by decide) ?_
  refine lv_goto (tgt := 35) hx hb d_q_isOperator_31 (by decide) ?_
  exact j_q_isOperator_35 C (1 : Int32) w h _ _ _ hW (lv_sub hl [] rfl)
set_option maxHeartbeats 4000000 in
set_option maxRecDepth 100000 in
theorem c_q_isOperator (l : Launch) (D : va_G) (cA : Nat → ClassId) (base : Nat) {a0 : Int32} {w w' : WW} {r : Int32} (h : f_q_isOperator a0 w = some (r, w')) : mt l D cls (wo_tys cA) cA base y_q_isOperator (Cond.code y_q_isOperator b_q_isOperator 1 (some .boolean) :: gt) rm_q_isOperator [.int a0] w (some (.int r)) w' rm_q_isOperator.cells rm_q_isOperator.slots := by
  refine mt_start (by decide) (Nat.le_of_ble_eq_true rfl) ?_
  intro p e s m below meth c ls hx hb hr hml hown hts hlk hnm hK hG hW hl
  have C : cx b_q_isOperator (some .boolean) 1 y_q_isOperator.cls "isOperator" p s m [.int a0].toArray meth c D cA base := ⟨hx, hb, hr, hml, hown, hts, hlk, hnm, hK, hG⟩
  have hl : lv_has ls 1 [(0, .int a0)] := hl
  unfold f_q_isOperator at h
  refine lv_iload_n hx hb d_q_isOperator_0 rfl (lv_at hl 0 rfl) ?_
  refine lv_bipush (v := (43 : Int32)) hx hb d_q_isOperator_1 (by decide) ?_
  refine lv_icmp_eq (tgt := 30) hx hb d_q_isOperator_3 (by decide) (fun c1 => ?_) (fun c1 => ?_)
  · rw [if_pos c1] at h
    exact j_q_isOperator_30 C w h _ _ _ hW (lv_sub hl [] rfl)
  · rw [if_neg c1] at h
    refine lv_iload_n hx hb d_q_isOperator_6 rfl (lv_at hl 0 rfl) ?_
    refine lv_bipush (v := (45 : Int32)) hx hb d_q_isOperator_7 (by decide) ?_
    refine lv_icmp_eq (tgt := 30) hx hb d_q_isOperator_9 (by decide) (fun c3 => ?_) (fun c3 => ?_)
    · rw [if_pos c3] at h
      exact j_q_isOperator_30 C w h _ _ _ hW (lv_sub hl [] rfl)
    · rw [if_neg c3] at h
      refine lv_iload_n hx hb d_q_isOperator_12 rfl (lv_at hl 0 rfl) ?_
      refine lv_bipush (v := (42 : Int32)) hx hb d_q_isOperator_13 (by decide) ?_
      refine lv_icmp_eq (tgt := 30) hx hb d_q_isOperator_15 (by decide) (fun c4 => ?_) (fun c4 => ?_)
      · rw [if_pos c4] at h
        exact j_q_isOperator_30 C w h _ _ _ hW (lv_sub hl [] rfl)
      · rw [if_neg c4] at h
        refine lv_iload_n hx hb d_q_isOperator_18 rfl (lv_at hl 0 rfl) ?_
        refine lv_bipush (v := (47 : Int32)) hx hb d_q_isOperator_19 (by decide) ?_
        refine lv_icmp_eq (tgt := 30) hx hb d_q_isOperator_21 (by decide) (fun c5 => ?_) (fun c5 => ?_)
        · rw [if_pos c5] at h
          exact j_q_isOperator_30 C w h _ _ _ hW (lv_sub hl [] rfl)
        · rw [if_neg c5] at h
          refine lv_iload_n hx hb d_q_isOperator_24 rfl (lv_at hl 0 rfl) ?_
          refine lv_bipush (v := (37 : Int32)) hx hb d_q_isOperator_25 (by decide) ?_
          refine lv_icmp_ne (tgt := 34) hx hb d_q_isOperator_27 (by decide) (fun c6 => ?_) (fun c6 => ?_)
          · rw [if_neg c6] at h
            refine lv_iconst (v := (0 : Int32)) hx hb d_q_isOperator_34 (by decide) ?_
            exact j_q_isOperator_35 C (0 : Int32) w h _ _ _ hW (lv_sub hl [] rfl)
          · rw [if_pos c6] at h
            exact j_q_isOperator_30 C w h _ _ _ hW (lv_sub hl [] rfl)
theorem cs_q_217 {p : Program} {l : Launch} {e : Env} {R : Room} {s : State} {m : MethodId} {args : Array Value} {below : List Frame} {meth : Method} {c : Code} {H : Heap} {locs : List Loc} {cells slots : Nat} {Q : State → Prop} {D : va_G} {cA : Nat → ClassId} {base : Nat} {w w' : WW} {cc : ByteArray} {pc nL : Nat} {ls : Array Slot} {rest st0 As : List Value} {ov : Option Value} (hx : p.tables.exec = Jvm.exec) (hb : c.code = cc) (hml : c.maxLocals = nL) (hown : s.vm.findClass Rc_q = some m.cls) (hts : ∀ w ∈ gt, w.before args s = true) (hK : va_K D cls (wo_tys cA) s) (hG : wo_G base s) (hW : wo_S D cls cA base s w H locs) (hM : mt l D cls (wo_tys cA) cA base y_q_isDigit (Cond.code y_q_isDigit b_q_isDigit 1 (some .boolean) :: gt) rm_q_isDigit (As) w ov w' rm_q_isDigit.cells rm_q_isDigit.slots) (hR : rm_q_isDigit.frames + 1 ≤ R.frames ∧ 8 + (1 + 11) + rm_q_isDigit.locals ≤ R.locals) (hf : cells + rm_q_isDigit.cells ≤ R.cells ∧ slots + rm_q_isDigit.slots ≤ R.slots) (hn : As.length = 1) (hsz : ls.size = nL) (hst : st0 = As.reverse ++ rest) (hcat : (rest.map fun v => v.category).sum ≤ 8) (hdg : decode cc pc = .ok (.invokestatic 217, 3)) (kk : ∀ (H1 : Heap) (locs1 : List Loc), wo_S D cls cA base s w' H1 locs1 → W p l e R s m args below meth c H1 locs1 (cells + rm_q_isDigit.cells) (slots + rm_q_isDigit.slots) Q (F0 m (pc + 3) ls (ov.toList ++ rest))) : W p l e R s m args below meth c H locs cells slots Q (F0 m pc ls st0) :=
  wo_callS hx hb hml hown hts hK hG hW hM (gt_of (i := 1394) (by decide +kernel) (by decide +kernel)) (gt_of (i := 1395) (by decide +kernel) (by decide +kernel)) (gt_of (i := 10) (by decide +kernel) (by decide +kernel)) (gt_of (i := 1396) (by decide +kernel) (by decide +kernel)) (by decide +kernel) hR hf hn hsz hst hcat hdg kk
theorem cv_q_186 {p : Program} {l : Launch} {e : Env} {R : Room} {s : State} {m : MethodId} {args : Array Value} {below : List Frame} {meth : Method} {c : Code} {H : Heap} {locs : List Loc} {cells slots : Nat} {Q : State → Prop} {D : va_G} {cA : Nat → ClassId} {base : Nat} {w w' : WW} {cc : ByteArray} {pc nL : Nat} {ls : Array Slot} {rest st0 As : List Value} {ov : Option Value} {b : Nat} (hx : p.tables.exec = Jvm.exec) (hb : c.code = cc) (hml : c.maxLocals = nL) (hown : s.vm.findClass Rc_q = some m.cls) (hts : ∀ w ∈ gt, w.before args s = true) (hK : va_K D cls (wo_tys cA) s) (hG : wo_G base s) (hW : wo_S D cls cA base s w H locs) (hM : mt l D cls (wo_tys cA) cA base y_q_charAt (Cond.code y_q_charAt b_q_charAt 2 (some .int) :: gt) rm_q_charAt (.ref (base + b) :: As) w ov w' rm_q_charAt.cells rm_q_charAt.slots) (hkb : kb w b 9 = true) (hR : rm_q_charAt.frames + 1 ≤ R.frames ∧ 8 + (2 + 11) + rm_q_charAt.locals ≤ R.locals) (hf : cells + rm_q_charAt.cells ≤ R.cells ∧ slots + rm_q_charAt.slots ≤ R.slots) (hn : As.length = 1) (hsz : ls.size = nL) (hst : st0 = As.reverse ++ .ref (base + b) :: rest) (hcat : (rest.map fun v => v.category).sum ≤ 8) (hdg : decode cc pc = .ok (.invokevirtual 186, 3)) (kk : ∀ (H1 : Heap) (locs1 : List Loc), wo_S D cls cA base s w' H1 locs1 → W p l e R s m args below meth c H1 locs1 (cells + rm_q_charAt.cells) (slots + rm_q_charAt.slots) Q (F0 m (pc + 3) ls (ov.toList ++ rest))) : W p l e R s m args below meth c H locs cells slots Q (F0 m pc ls st0) :=
  wo_callV (C := Rc_q) hx hb hml hown hts hK hG hW hM hkb rfl (gt_of (i := 1399) (by decide +kernel) (by decide +kernel)) (gt_of (i := 1401) (by decide +kernel) (by decide +kernel)) (gt_sel (i := 60) (by decide +kernel) (by decide +kernel)) (gt_of (i := 10) (by decide +kernel) (by decide +kernel)) (gt_of (i := 1402) (by decide +kernel) (by decide +kernel)) (by decide +kernel) hR hf hn hsz hst hcat hdg kk
theorem cs_q_189 {p : Program} {l : Launch} {e : Env} {R : Room} {s : State} {m : MethodId} {args : Array Value} {below : List Frame} {meth : Method} {c : Code} {H : Heap} {locs : List Loc} {cells slots : Nat} {Q : State → Prop} {D : va_G} {cA : Nat → ClassId} {base : Nat} {w w' : WW} {cc : ByteArray} {pc nL : Nat} {ls : Array Slot} {rest st0 As : List Value} {ov : Option Value} (hx : p.tables.exec = Jvm.exec) (hb : c.code = cc) (hml : c.maxLocals = nL) (hown : s.vm.findClass Rc_q = some m.cls) (hts : ∀ w ∈ gt, w.before args s = true) (hK : va_K D cls (wo_tys cA) s) (hG : wo_G base s) (hW : wo_S D cls cA base s w H locs) (hM : mt l D cls (wo_tys cA) cA base y_q_isLetter (Cond.code y_q_isLetter b_q_isLetter 1 (some .boolean) :: gt) rm_q_isLetter (As) w ov w' rm_q_isLetter.cells rm_q_isLetter.slots) (hR : rm_q_isLetter.frames + 1 ≤ R.frames ∧ 8 + (1 + 11) + rm_q_isLetter.locals ≤ R.locals) (hf : cells + rm_q_isLetter.cells ≤ R.cells ∧ slots + rm_q_isLetter.slots ≤ R.slots) (hn : As.length = 1) (hsz : ls.size = nL) (hst : st0 = As.reverse ++ rest) (hcat : (rest.map fun v => v.category).sum ≤ 8) (hdg : decode cc pc = .ok (.invokestatic 189, 3)) (kk : ∀ (H1 : Heap) (locs1 : List Loc), wo_S D cls cA base s w' H1 locs1 → W p l e R s m args below meth c H1 locs1 (cells + rm_q_isLetter.cells) (slots + rm_q_isLetter.slots) Q (F0 m (pc + 3) ls (ov.toList ++ rest))) : W p l e R s m args below meth c H locs cells slots Q (F0 m pc ls st0) :=
  wo_callS hx hb hml hown hts hK hG hW hM (gt_of (i := 1403) (by decide +kernel) (by decide +kernel)) (gt_of (i := 1404) (by decide +kernel) (by decide +kernel)) (gt_of (i := 10) (by decide +kernel) (by decide +kernel)) (gt_of (i := 1405) (by decide +kernel) (by decide +kernel)) (by decide +kernel) hR hf hn hsz hst hcat hdg kk
theorem cv_q_220 {p : Program} {l : Launch} {e : Env} {R : Room} {s : State} {m : MethodId} {args : Array Value} {below : List Frame} {meth : Method} {c : Code} {H : Heap} {locs : List Loc} {cells slots : Nat} {Q : State → Prop} {D : va_G} {cA : Nat → ClassId} {base : Nat} {w w' : WW} {cc : ByteArray} {pc nL : Nat} {ls : Array Slot} {rest st0 As : List Value} {ov : Option Value} {b : Nat} (hx : p.tables.exec = Jvm.exec) (hb : c.code = cc) (hml : c.maxLocals = nL) (hown : s.vm.findClass Rc_q = some m.cls) (hts : ∀ w ∈ gt, w.before args s = true) (hK : va_K D cls (wo_tys cA) s) (hG : wo_G base s) (hW : wo_S D cls cA base s w H locs) (hM : mt l D cls (wo_tys cA) cA base y_q_word (Cond.code y_q_word b_q_word 8 (none) :: gt) rm_q_word (.ref (base + b) :: As) w ov w' rm_q_word.cells rm_q_word.slots) (hkb : kb w b 9 = true) (hR : rm_q_word.frames + 1 ≤ R.frames ∧ 8 + (8 + 11) + rm_q_word.locals ≤ R.locals) (hf : cells + rm_q_word.cells ≤ R.cells ∧ slots + rm_q_word.slots ≤ R.slots) (hn : As.length = 0) (hsz : ls.size = nL) (hst : st0 = As.reverse ++ .ref (base + b) :: rest) (hcat : (rest.map fun v => v.category).sum ≤ 8) (hdg : decode cc pc = .ok (.invokevirtual 220, 3)) (kk : ∀ (H1 : Heap) (locs1 : List Loc), wo_S D cls cA base s w' H1 locs1 → W p l e R s m args below meth c H1 locs1 (cells + rm_q_word.cells) (slots + rm_q_word.slots) Q (F0 m (pc + 3) ls (ov.toList ++ rest))) : W p l e R s m args below meth c H locs cells slots Q (F0 m pc ls st0) :=
  wo_callV (C := Rc_q) hx hb hml hown hts hK hG hW hM hkb rfl (gt_of (i := 1410) (by decide +kernel) (by decide +kernel)) (gt_of (i := 1412) (by decide +kernel) (by decide +kernel)) (gt_sel (i := 61) (by decide +kernel) (by decide +kernel)) (gt_of (i := 10) (by decide +kernel) (by decide +kernel)) (gt_of (i := 1413) (by decide +kernel) (by decide +kernel)) (by decide +kernel) hR hf hn hsz hst hcat hdg kk
theorem cs_q_223 {p : Program} {l : Launch} {e : Env} {R : Room} {s : State} {m : MethodId} {args : Array Value} {below : List Frame} {meth : Method} {c : Code} {H : Heap} {locs : List Loc} {cells slots : Nat} {Q : State → Prop} {D : va_G} {cA : Nat → ClassId} {base : Nat} {w w' : WW} {cc : ByteArray} {pc nL : Nat} {ls : Array Slot} {rest st0 As : List Value} {ov : Option Value} (hx : p.tables.exec = Jvm.exec) (hb : c.code = cc) (hml : c.maxLocals = nL) (hown : s.vm.findClass Rc_q = some m.cls) (hts : ∀ w ∈ gt, w.before args s = true) (hK : va_K D cls (wo_tys cA) s) (hG : wo_G base s) (hW : wo_S D cls cA base s w H locs) (hM : mt l D cls (wo_tys cA) cA base y_q_isOperator (Cond.code y_q_isOperator b_q_isOperator 1 (some .boolean) :: gt) rm_q_isOperator (As) w ov w' rm_q_isOperator.cells rm_q_isOperator.slots) (hR : rm_q_isOperator.frames + 1 ≤ R.frames ∧ 8 + (1 + 11) + rm_q_isOperator.locals ≤ R.locals) (hf : cells + rm_q_isOperator.cells ≤ R.cells ∧ slots + rm_q_isOperator.slots ≤ R.slots) (hn : As.length = 1) (hsz : ls.size = nL) (hst : st0 = As.reverse ++ rest) (hcat : (rest.map fun v => v.category).sum ≤ 8) (hdg : decode cc pc = .ok (.invokestatic 223, 3)) (kk : ∀ (H1 : Heap) (locs1 : List Loc), wo_S D cls cA base s w' H1 locs1 → W p l e R s m args below meth c H1 locs1 (cells + rm_q_isOperator.cells) (slots + rm_q_isOperator.slots) Q (F0 m (pc + 3) ls (ov.toList ++ rest))) : W p l e R s m args below meth c H locs cells slots Q (F0 m pc ls st0) :=
  wo_callS hx hb hml hown hts hK hG hW hM (gt_of (i := 1427) (by decide +kernel) (by decide +kernel)) (gt_of (i := 1428) (by decide +kernel) (by decide +kernel)) (gt_of (i := 10) (by decide +kernel) (by decide +kernel)) (gt_of (i := 1429) (by decide +kernel) (by decide +kernel)) (by decide +kernel) hR hf hn hsz hst hcat hdg kk
abbrev b_q_read : ByteArray := prog_11_method_13_code
def y_q_read : MethodName := ⟨"AlarmForgeModel", "read", "()V"⟩
def rm_q_read : Room := { frames := 2, cells := 0, slots := 0, locals := 45 }
theorem d_q_read_0 : decode b_q_read 0 = .ok (.aload_n 0, 1) := by decide +kernel
theorem d_q_read_1 : decode b_q_read 1 = .ok (.getfield 178, 3) := by decide +kernel
theorem d_q_read_4 : decode b_q_read 4 = .ok (.aload_n 0, 1) := by decide +kernel
theorem d_q_read_5 : decode b_q_read 5 = .ok (.getfield 163, 3) := by decide +kernel
theorem d_q_read_8 : decode b_q_read 8 = .ok (.if_icmp .ge (44), 3) := by decide +kernel
theorem d_q_read_11 : decode b_q_read 11 = .ok (.aload_n 0, 1) := by decide +kernel
theorem d_q_read_12 : decode b_q_read 12 = .ok (.getfield 7, 3) := by decide +kernel
theorem d_q_read_15 : decode b_q_read 15 = .ok (.aload_n 0, 1) := by decide +kernel
theorem d_q_read_16 : decode b_q_read 16 = .ok (.getfield 178, 3) := by decide +kernel
theorem d_q_read_19 : decode b_q_read 19 = .ok (.iaload, 1) := by decide +kernel
theorem d_q_read_20 : decode b_q_read 20 = .ok (.bipush (32), 2) := by decide +kernel
theorem d_q_read_22 : decode b_q_read 22 = .ok (.if_icmp .eq (17), 3) := by decide +kernel
theorem d_q_read_25 : decode b_q_read 25 = .ok (.aload_n 0, 1) := by decide +kernel
theorem d_q_read_26 : decode b_q_read 26 = .ok (.getfield 7, 3) := by decide +kernel
theorem d_q_read_29 : decode b_q_read 29 = .ok (.aload_n 0, 1) := by decide +kernel
theorem d_q_read_30 : decode b_q_read 30 = .ok (.getfield 178, 3) := by decide +kernel
theorem d_q_read_33 : decode b_q_read 33 = .ok (.iaload, 1) := by decide +kernel
theorem d_q_read_34 : decode b_q_read 34 = .ok (.bipush (10), 2) := by decide +kernel
theorem d_q_read_36 : decode b_q_read 36 = .ok (.if_icmp .ne (16), 3) := by decide +kernel
theorem d_q_read_39 : decode b_q_read 39 = .ok (.aload_n 0, 1) := by decide +kernel
theorem d_q_read_40 : decode b_q_read 40 = .ok (.dup, 1) := by decide +kernel
theorem d_q_read_41 : decode b_q_read 41 = .ok (.getfield 178, 3) := by decide +kernel
theorem d_q_read_44 : decode b_q_read 44 = .ok (.iconst 1, 1) := by decide +kernel
theorem d_q_read_45 : decode b_q_read 45 = .ok (.iadd, 1) := by decide +kernel
theorem d_q_read_46 : decode b_q_read 46 = .ok (.putfield 178, 3) := by decide +kernel
theorem d_q_read_49 : decode b_q_read 49 = .ok (.goto (-49), 3) := by decide +kernel
theorem d_q_read_52 : decode b_q_read 52 = .ok (.aload_n 0, 1) := by decide +kernel
theorem d_q_read_53 : decode b_q_read 53 = .ok (.aload_n 0, 1) := by decide +kernel
theorem d_q_read_54 : decode b_q_read 54 = .ok (.getfield 178, 3) := by decide +kernel
theorem d_q_read_57 : decode b_q_read 57 = .ok (.putfield 181, 3) := by decide +kernel
theorem d_q_read_60 : decode b_q_read 60 = .ok (.aload_n 0, 1) := by decide +kernel
theorem d_q_read_61 : decode b_q_read 61 = .ok (.iconst 0, 1) := by decide +kernel
theorem d_q_read_62 : decode b_q_read 62 = .ok (.putfield 195, 3) := by decide +kernel
theorem d_q_read_65 : decode b_q_read 65 = .ok (.aload_n 0, 1) := by decide +kernel
theorem d_q_read_66 : decode b_q_read 66 = .ok (.iconst 0, 1) := by decide +kernel
theorem d_q_read_67 : decode b_q_read 67 = .ok (.putfield 198, 3) := by decide +kernel
theorem d_q_read_70 : decode b_q_read 70 = .ok (.aload_n 0, 1) := by decide +kernel
theorem d_q_read_71 : decode b_q_read 71 = .ok (.getfield 178, 3) := by decide +kernel
theorem d_q_read_74 : decode b_q_read 74 = .ok (.aload_n 0, 1) := by decide +kernel
theorem d_q_read_75 : decode b_q_read 75 = .ok (.getfield 163, 3) := by decide +kernel
theorem d_q_read_78 : decode b_q_read 78 = .ok (.if_icmp .ne (4), 3) := by decide +kernel
theorem d_q_read_81 : decode b_q_read 81 = .ok (.return_, 1) := by decide +kernel
theorem d_q_read_82 : decode b_q_read 82 = .ok (.aload_n 0, 1) := by decide +kernel
theorem d_q_read_83 : decode b_q_read 83 = .ok (.getfield 7, 3) := by decide +kernel
theorem d_q_read_86 : decode b_q_read 86 = .ok (.aload_n 0, 1) := by decide +kernel
theorem d_q_read_87 : decode b_q_read 87 = .ok (.getfield 178, 3) := by decide +kernel
theorem d_q_read_90 : decode b_q_read 90 = .ok (.iaload, 1) := by decide +kernel
theorem d_q_read_91 : decode b_q_read 91 = .ok (.istore_n 1, 1) := by decide +kernel
theorem d_q_read_92 : decode b_q_read 92 = .ok (.iload_n 1, 1) := by decide +kernel
theorem d_q_read_93 : decode b_q_read 93 = .ok (.invokestatic 217, 3) := by decide +kernel
theorem d_q_read_96 : decode b_q_read 96 = .ok (.ifCond .eq (73), 3) := by decide +kernel
theorem d_q_read_99 : decode b_q_read 99 = .ok (.aload_n 0, 1) := by decide +kernel
theorem d_q_read_100 : decode b_q_read 100 = .ok (.iconst 1, 1) := by decide +kernel
theorem d_q_read_101 : decode b_q_read 101 = .ok (.putfield 195, 3) := by decide +kernel
theorem d_q_read_104 : decode b_q_read 104 = .ok (.aload_n 0, 1) := by decide +kernel
theorem d_q_read_105 : decode b_q_read 105 = .ok (.aload_n 0, 1) := by decide +kernel
theorem d_q_read_106 : decode b_q_read 106 = .ok (.getfield 178, 3) := by decide +kernel
theorem d_q_read_109 : decode b_q_read 109 = .ok (.invokevirtual 186, 3) := by decide +kernel
theorem d_q_read_112 : decode b_q_read 112 = .ok (.invokestatic 217, 3) := by decide +kernel
theorem d_q_read_115 : decode b_q_read 115 = .ok (.ifCond .eq (241), 3) := by decide +kernel
theorem d_q_read_118 : decode b_q_read 118 = .ok (.aload_n 0, 1) := by decide +kernel
theorem d_q_read_119 : decode b_q_read 119 = .ok (.getfield 178, 3) := by decide +kernel
theorem d_q_read_122 : decode b_q_read 122 = .ok (.aload_n 0, 1) := by decide +kernel
theorem d_q_read_123 : decode b_q_read 123 = .ok (.getfield 181, 3) := by decide +kernel
theorem d_q_read_126 : decode b_q_read 126 = .ok (.bipush (9), 2) := by decide +kernel
theorem d_q_read_128 : decode b_q_read 128 = .ok (.iadd, 1) := by decide +kernel
theorem d_q_read_129 : decode b_q_read 129 = .ok (.if_icmp .ge (227), 3) := by decide +kernel
theorem d_q_read_132 : decode b_q_read 132 = .ok (.aload_n 0, 1) := by decide +kernel
theorem d_q_read_133 : decode b_q_read 133 = .ok (.bipush (10), 2) := by decide +kernel
theorem d_q_read_135 : decode b_q_read 135 = .ok (.aload_n 0, 1) := by decide +kernel
theorem d_q_read_136 : decode b_q_read 136 = .ok (.getfield 198, 3) := by decide +kernel
theorem d_q_read_139 : decode b_q_read 139 = .ok (.imul, 1) := by decide +kernel
theorem d_q_read_140 : decode b_q_read 140 = .ok (.aload_n 0, 1) := by decide +kernel
theorem d_q_read_141 : decode b_q_read 141 = .ok (.getfield 7, 3) := by decide +kernel
theorem d_q_read_144 : decode b_q_read 144 = .ok (.aload_n 0, 1) := by decide +kernel
theorem d_q_read_145 : decode b_q_read 145 = .ok (.getfield 178, 3) := by decide +kernel
theorem d_q_read_148 : decode b_q_read 148 = .ok (.iaload, 1) := by decide +kernel
theorem d_q_read_149 : decode b_q_read 149 = .ok (.iadd, 1) := by decide +kernel
theorem d_q_read_150 : decode b_q_read 150 = .ok (.bipush (48), 2) := by decide +kernel
theorem d_q_read_152 : decode b_q_read 152 = .ok (.isub, 1) := by decide +kernel
theorem d_q_read_153 : decode b_q_read 153 = .ok (.putfield 198, 3) := by decide +kernel
theorem d_q_read_156 : decode b_q_read 156 = .ok (.aload_n 0, 1) := by decide +kernel
theorem d_q_read_157 : decode b_q_read 157 = .ok (.dup, 1) := by decide +kernel
theorem d_q_read_158 : decode b_q_read 158 = .ok (.getfield 178, 3) := by decide +kernel
theorem d_q_read_161 : decode b_q_read 161 = .ok (.iconst 1, 1) := by decide +kernel
theorem d_q_read_162 : decode b_q_read 162 = .ok (.iadd, 1) := by decide +kernel
theorem d_q_read_163 : decode b_q_read 163 = .ok (.putfield 178, 3) := by decide +kernel
theorem d_q_read_166 : decode b_q_read 166 = .ok (.goto (-62), 3) := by decide +kernel
theorem d_q_read_169 : decode b_q_read 169 = .ok (.iload_n 1, 1) := by decide +kernel
theorem d_q_read_170 : decode b_q_read 170 = .ok (.invokestatic 189, 3) := by decide +kernel
theorem d_q_read_173 : decode b_q_read 173 = .ok (.ifCond .eq (10), 3) := by decide +kernel
theorem d_q_read_176 : decode b_q_read 176 = .ok (.aload_n 0, 1) := by decide +kernel
theorem d_q_read_177 : decode b_q_read 177 = .ok (.invokevirtual 220, 3) := by decide +kernel
theorem d_q_read_180 : decode b_q_read 180 = .ok (.goto (176), 3) := by decide +kernel
theorem d_q_read_183 : decode b_q_read 183 = .ok (.iload_n 1, 1) := by decide +kernel
theorem d_q_read_184 : decode b_q_read 184 = .ok (.bipush (61), 2) := by decide +kernel
theorem d_q_read_186 : decode b_q_read 186 = .ok (.if_icmp .eq (15), 3) := by decide +kernel
theorem d_q_read_189 : decode b_q_read 189 = .ok (.iload_n 1, 1) := by decide +kernel
theorem d_q_read_190 : decode b_q_read 190 = .ok (.bipush (33), 2) := by decide +kernel
theorem d_q_read_192 : decode b_q_read 192 = .ok (.if_icmp .eq (9), 3) := by decide +kernel
theorem d_q_read_195 : decode b_q_read 195 = .ok (.iload_n 1, 1) := by decide +kernel
theorem d_q_read_196 : decode b_q_read 196 = .ok (.bipush (60), 2) := by decide +kernel
theorem d_q_read_198 : decode b_q_read 198 = .ok (.if_icmp .ne (22), 3) := by decide +kernel
theorem d_q_read_201 : decode b_q_read 201 = .ok (.aload_n 0, 1) := by decide +kernel
theorem d_q_read_202 : decode b_q_read 202 = .ok (.aload_n 0, 1) := by decide +kernel
theorem d_q_read_203 : decode b_q_read 203 = .ok (.getfield 178, 3) := by decide +kernel
theorem d_q_read_206 : decode b_q_read 206 = .ok (.iconst 1, 1) := by decide +kernel
theorem d_q_read_207 : decode b_q_read 207 = .ok (.iadd, 1) := by decide +kernel
theorem d_q_read_208 : decode b_q_read 208 = .ok (.invokevirtual 186, 3) := by decide +kernel
theorem d_q_read_211 : decode b_q_read 211 = .ok (.bipush (61), 2) := by decide +kernel
theorem d_q_read_213 : decode b_q_read 213 = .ok (.if_icmp .ne (7), 3) := by decide +kernel
theorem d_q_read_216 : decode b_q_read 216 = .ok (.iconst 1, 1) := by decide +kernel
theorem d_q_read_217 : decode b_q_read 217 = .ok (.goto (4), 3) := by decide +kernel
theorem d_q_read_220 : decode b_q_read 220 = .ok (.iconst 0, 1) := by decide +kernel
theorem d_q_read_221 : decode b_q_read 221 = .ok (.istore_n 2, 1) := by decide +kernel
theorem d_q_read_222 : decode b_q_read 222 = .ok (.aload_n 0, 1) := by decide +kernel
theorem d_q_read_223 : decode b_q_read 223 = .ok (.iload_n 2, 1) := by decide +kernel
theorem d_q_read_224 : decode b_q_read 224 = .ok (.ifCond .ne (7), 3) := by decide +kernel
theorem d_q_read_227 : decode b_q_read 227 = .ok (.iload_n 1, 1) := by decide +kernel
theorem d_q_read_228 : decode b_q_read 228 = .ok (.goto (30), 3) := by decide +kernel
theorem d_q_read_231 : decode b_q_read 231 = .ok (.iload_n 1, 1) := by decide +kernel
theorem d_q_read_232 : decode b_q_read 232 = .ok (.bipush (61), 2) := by decide +kernel
theorem d_q_read_234 : decode b_q_read 234 = .ok (.if_icmp .ne (9), 3) := by decide +kernel
theorem d_q_read_237 : decode b_q_read 237 = .ok (.sipush (1000), 3) := by decide +kernel
theorem d_q_read_240 : decode b_q_read 240 = .ok (.goto (18), 3) := by decide +kernel
theorem d_q_read_243 : decode b_q_read 243 = .ok (.iload_n 1, 1) := by decide +kernel
theorem d_q_read_244 : decode b_q_read 244 = .ok (.bipush (33), 2) := by decide +kernel
theorem d_q_read_246 : decode b_q_read 246 = .ok (.if_icmp .ne (9), 3) := by decide +kernel
theorem d_q_read_249 : decode b_q_read 249 = .ok (.sipush (1001), 3) := by decide +kernel
theorem d_q_read_252 : decode b_q_read 252 = .ok (.goto (6), 3) := by decide +kernel
theorem d_q_read_255 : decode b_q_read 255 = .ok (.sipush (1002), 3) := by decide +kernel
theorem d_q_read_258 : decode b_q_read 258 = .ok (.putfield 198, 3) := by decide +kernel
theorem d_q_read_261 : decode b_q_read 261 = .ok (.aload_n 0, 1) := by decide +kernel
theorem d_q_read_262 : decode b_q_read 262 = .ok (.iload_n 2, 1) := by decide +kernel
theorem d_q_read_263 : decode b_q_read 263 = .ok (.ifCond .ne (66), 3) := by decide +kernel
theorem d_q_read_266 : decode b_q_read 266 = .ok (.iload_n 1, 1) := by decide +kernel
theorem d_q_read_267 : decode b_q_read 267 = .ok (.invokestatic 223, 3) := by decide +kernel
theorem d_q_read_270 : decode b_q_read 270 = .ok (.ifCond .ne (59), 3) := by decide +kernel
theorem d_q_read_273 : decode b_q_read 273 = .ok (.iload_n 1, 1) := by decide +kernel
theorem d_q_read_274 : decode b_q_read 274 = .ok (.i2l, 1) := by decide +kernel
theorem d_q_read_275 : decode b_q_read 275 = .ok (.ldc2_w 226, 3) := by decide +kernel
theorem d_q_read_278 : decode b_q_read 278 = .ok (.ldc2_w 228, 3) := by decide +kernel
theorem d_q_read_281 : decode b_q_read 281 = .ok (.invokestatic 155, 3) := by decide +kernel
theorem d_q_read_284 : decode b_q_read 284 = .ok (.ifCond .ne (45), 3) := by decide +kernel
theorem d_q_read_287 : decode b_q_read 287 = .ok (.iload_n 1, 1) := by decide +kernel
theorem d_q_read_288 : decode b_q_read 288 = .ok (.bipush (91), 2) := by decide +kernel
theorem d_q_read_290 : decode b_q_read 290 = .ok (.if_icmp .eq (39), 3) := by decide +kernel
theorem d_q_read_293 : decode b_q_read 293 = .ok (.iload_n 1, 1) := by decide +kernel
theorem d_q_read_294 : decode b_q_read 294 = .ok (.bipush (93), 2) := by decide +kernel
theorem d_q_read_296 : decode b_q_read 296 = .ok (.if_icmp .eq (33), 3) := by decide +kernel
theorem d_q_read_299 : decode b_q_read 299 = .ok (.iload_n 1, 1) := by decide +kernel
theorem d_q_read_300 : decode b_q_read 300 = .ok (.bipush (123), 2) := by decide +kernel
theorem d_q_read_302 : decode b_q_read 302 = .ok (.if_icmp .eq (27), 3) := by decide +kernel
theorem d_q_read_305 : decode b_q_read 305 = .ok (.iload_n 1, 1) := by decide +kernel
theorem d_q_read_306 : decode b_q_read 306 = .ok (.bipush (125), 2) := by decide +kernel
theorem d_q_read_308 : decode b_q_read 308 = .ok (.if_icmp .eq (21), 3) := by decide +kernel
theorem d_q_read_311 : decode b_q_read 311 = .ok (.iload_n 1, 1) := by decide +kernel
theorem d_q_read_312 : decode b_q_read 312 = .ok (.bipush (59), 2) := by decide +kernel
theorem d_q_read_314 : decode b_q_read 314 = .ok (.if_icmp .eq (15), 3) := by decide +kernel
theorem d_q_read_317 : decode b_q_read 317 = .ok (.iload_n 1, 1) := by decide +kernel
theorem d_q_read_318 : decode b_q_read 318 = .ok (.bipush (61), 2) := by decide +kernel
theorem d_q_read_320 : decode b_q_read 320 = .ok (.if_icmp .eq (9), 3) := by decide +kernel
theorem d_q_read_323 : decode b_q_read 323 = .ok (.iload_n 1, 1) := by decide +kernel
theorem d_q_read_324 : decode b_q_read 324 = .ok (.bipush (60), 2) := by decide +kernel
theorem d_q_read_326 : decode b_q_read 326 = .ok (.if_icmp .ne (7), 3) := by decide +kernel
theorem d_q_read_329 : decode b_q_read 329 = .ok (.iconst 5, 1) := by decide +kernel
theorem d_q_read_330 : decode b_q_read 330 = .ok (.goto (5), 3) := by decide +kernel
theorem d_q_read_333 : decode b_q_read 333 = .ok (.bipush (6), 2) := by decide +kernel
theorem d_q_read_335 : decode b_q_read 335 = .ok (.putfield 195, 3) := by decide +kernel
theorem d_q_read_338 : decode b_q_read 338 = .ok (.aload_n 0, 1) := by decide +kernel
theorem d_q_read_339 : decode b_q_read 339 = .ok (.dup, 1) := by decide +kernel
theorem d_q_read_340 : decode b_q_read 340 = .ok (.getfield 178, 3) := by decide +kernel
theorem d_q_read_343 : decode b_q_read 343 = .ok (.iload_n 2, 1) := by decide +kernel
theorem d_q_read_344 : decode b_q_read 344 = .ok (.ifCond .eq (7), 3) := by decide +kernel
theorem d_q_read_347 : decode b_q_read 347 = .ok (.iconst 2, 1) := by decide +kernel
theorem d_q_read_348 : decode b_q_read 348 = .ok (.goto (4), 3) := by decide +kernel
theorem d_q_read_351 : decode b_q_read 351 = .ok (.iconst 1, 1) := by decide +kernel
theorem d_q_read_352 : decode b_q_read 352 = .ok (.iadd, 1) := by decide +kernel
theorem d_q_read_353 : decode b_q_read 353 = .ok (.putfield 178, 3) := by decide +kernel
theorem d_q_read_356 : decode b_q_read 356 = .ok (.return_, 1) := by decide +kernel
def f_q_read_356   (w : WW) : Option WW :=
  some w
def f_q_read_352  (z0 : Nat) (z1 : Int32) (z2 : Int32) (w : WW) : Option WW :=
  (pv w z0 9 28 (.int (z1 + z2))).bind fun w33 =>
  f_q_read_356 w33
def f_q_read_335  (y0 : Nat) (y2 : Int32) (z0 : Nat) (z1 : Int32) (w : WW) : Option WW :=
  (pv w z0 9 30 (.int z1)).bind fun w30 =>
  (gI w30 y0 9 28).bind fun x31 =>
  if y2 = 0 then
    f_q_read_352 y0 x31 (1 : Int32) w30
  else
    f_q_read_352 y0 x31 (2 : Int32) w30
def f_q_read_329  (y0 : Nat) (y2 : Int32) (z0 : Nat) (w : WW) : Option WW :=
  f_q_read_335 y0 y2 z0 (5 : Int32) w
def f_q_read_258  (y0 : Nat) (y1 : Int32) (y2 : Int32) (z0 : Nat) (z1 : Int32) (w : WW) : Option WW :=
  (pv w z0 9 31 (.int z1)).bind fun w28 =>
  if y2 = 0 then
    bd2 (f_q_isOperator y1 w28) fun x35 w34 =>
    if x35 = 0 then
      bd2 (f_q_in (Int32.toInt64 y1) (40 : Int64) (41 : Int64) w34) fun x38 w37 =>
      if x38 = 0 then
        if y1 = (91 : Int32) then
          f_q_read_329 y0 y2 y0 w37
        else
          if y1 = (93 : Int32) then
            f_q_read_329 y0 y2 y0 w37
          else
            if y1 = (123 : Int32) then
              f_q_read_329 y0 y2 y0 w37
            else
              if y1 = (125 : Int32) then
                f_q_read_329 y0 y2 y0 w37
              else
                if y1 = (59 : Int32) then
                  f_q_read_329 y0 y2 y0 w37
                else
                  if y1 = (61 : Int32) then
                    f_q_read_329 y0 y2 y0 w37
                  else
                    if y1 = (60 : Int32) then
                      f_q_read_329 y0 y2 y0 w37
                    else
                      f_q_read_335 y0 y2 y0 (6 : Int32) w37
      else
        f_q_read_329 y0 y2 y0 w37
    else
      f_q_read_329 y0 y2 y0 w34
  else
    f_q_read_329 y0 y2 y0 w28
def f_q_read_221  (y0 : Nat) (y1 : Int32) (z0 : Int32) (w : WW) : Option WW :=
  if z0 = 0 then
    f_q_read_258 y0 y1 z0 y0 y1 w
  else
    if y1 = (61 : Int32) then
      f_q_read_258 y0 y1 z0 y0 (1000 : Int32) w
    else
      if y1 = (33 : Int32) then
        f_q_read_258 y0 y1 z0 y0 (1001 : Int32) w
      else
        f_q_read_258 y0 y1 z0 y0 (1002 : Int32) w
def f_q_read_220  (y0 : Nat) (y1 : Int32) (w : WW) : Option WW :=
  f_q_read_221 y0 y1 (0 : Int32) w
def f_q_read_201  (y0 : Nat) (y1 : Int32) (w : WW) : Option WW :=
  (gI w y0 9 28).bind fun x21 =>
  bd2 (f_q_charAt y0 (x21 + (1 : Int32)) w) fun x23 w22 =>
  if x23 = (61 : Int32) then
    f_q_read_221 y0 y1 (1 : Int32) w22
  else
    f_q_read_220 y0 y1 w22
def f_q_read_104  : Nat → Nat → WW → Option WW
  | 0, _, _ => none
  | n + 1, y0, w =>
    (gI w y0 9 28).bind fun x51 =>
    bd2 (f_q_charAt y0 x51 w) fun x53 w52 =>
    bd2 (f_q_isDigit x53 w52) fun x55 w54 =>
    if x55 = 0 then
      f_q_read_356 w54
    else
      (gI w54 y0 9 28).bind fun x57 =>
      (gI w54 y0 9 29).bind fun x58 =>
      if (x58 + (9 : Int32)) ≤ x57 then
        f_q_read_356 w54
      else
        (gI w54 y0 9 31).bind fun x60 =>
        (gN w54 y0 9 0).bind fun x61 =>
        (gI w54 y0 9 28).bind fun x62 =>
        (rI w54 x61 0 x62).bind fun x63 =>
        (pv w54 y0 9 31 (.int ((((10 : Int32) * x60) + x63) - (48 : Int32)))).bind fun w64 =>
        (gI w64 y0 9 28).bind fun x65 =>
        (pv w64 y0 9 28 (.int (x65 + (1 : Int32)))).bind fun w66 =>
        f_q_read_104 n y0 w66
def f_q_read_52  (y0 : Nat) (w : WW) : Option WW :=
  (gI w y0 9 28).bind fun x4 =>
  (pv w y0 9 29 (.int x4)).bind fun w5 =>
  (pv w5 y0 9 30 (.int (0 : Int32))).bind fun w6 =>
  (pv w6 y0 9 31 (.int (0 : Int32))).bind fun w7 =>
  (gI w7 y0 9 28).bind fun x8 =>
  (gI w7 y0 9 2).bind fun x9 =>
  if x8 = x9 then
    some w7
  else
    (gN w7 y0 9 0).bind fun x11 =>
    (gI w7 y0 9 28).bind fun x12 =>
    (rI w7 x11 0 x12).bind fun x13 =>
    bd2 (f_q_isDigit x13 w7) fun x15 w14 =>
    if x15 = 0 then
      bd2 (f_q_isLetter x13 w14) fun x18 w17 =>
      if x18 = 0 then
        if x13 = (61 : Int32) then
          f_q_read_201 y0 x13 w17
        else
          if x13 = (33 : Int32) then
            f_q_read_201 y0 x13 w17
          else
            if x13 = (60 : Int32) then
              f_q_read_201 y0 x13 w17
            else
              f_q_read_220 y0 x13 w17
      else
        (f_q_word y0 w17).bind fun w49 =>
        f_q_read_356 w49
    else
      (pv w14 y0 9 30 (.int (1 : Int32))).bind fun w50 =>
      f_q_read_104 KK y0 w50
def f_q_read_39 (k_0 : Nat → WW → Option WW) (y0 : Nat) (w : WW) : Option WW :=
  (gI w y0 9 28).bind fun x71 =>
  (pv w y0 9 28 (.int (x71 + (1 : Int32)))).bind fun w72 =>
  k_0 y0 w72
def f_q_read_0  : Nat → Nat → WW → Option WW
  | 0, _, _ => none
  | n + 1, y0, w =>
    (gI w y0 9 28).bind fun x1 =>
    (gI w y0 9 2).bind fun x2 =>
    if x2 ≤ x1 then
      f_q_read_52 y0 w
    else
      (gN w y0 9 0).bind fun x67 =>
      (gI w y0 9 28).bind fun x68 =>
      (rI w x67 0 x68).bind fun x69 =>
      if x69 = (32 : Int32) then
        f_q_read_39 (f_q_read_0 n) y0 w
      else
        (gN w y0 9 0).bind fun x73 =>
        (gI w y0 9 28).bind fun x74 =>
        (rI w x73 0 x74).bind fun x75 =>
        if x75 = (10 : Int32) then
          f_q_read_39 (f_q_read_0 n) y0 w
        else
          f_q_read_52 y0 w
def f_q_read (a0 : Nat) (w : WW) : Option WW :=
  if kb w a0 9 = true then
    f_q_read_0 KK a0 w
  else none
theorem kb_q_read {a0 : Nat}  {w : WW} {r : WW} (h : f_q_read a0 w = some r) : kb w a0 9 = true := (its h).1
set_option maxHeartbeats 4000000 in
set_option maxRecDepth 100000 in
theorem j_q_read_356 {p : Program} {l : Launch} {e : Env} {s : State} {m : MethodId} {args : Array Value} {below : List Frame} {meth : Method} {c : Code} {D : va_G} {cA : Nat → ClassId} {base : Nat} {w' : WW} (C : cx b_q_read (none) 3 y_q_read.cls "read" p s m args meth c D cA base)   : ∀  (w : WW), f_q_read_356  w = some w' → ∀ (H : Heap) (locs : List Loc) (ls : Array Slot), wo_S D cls cA base s w H locs → lv_has ls 3 [] → W p l e rm_q_read s m args below meth c H locs 0 0 (MQ below (wo_Q D cls cA base none w') args s rm_q_read.cells rm_q_read.slots (wo_B base)) (F0 m 356 ls []) := by
  obtain ⟨hx, hb, hr, hml, hown, hts, hlk, hnm, hK, hG⟩ := id C
  intro  w h H locs ls hW hl
  unfold f_q_read_356 at h
  cases h
  exact wo_vret hx hb hr hlk hW d_q_read_356
set_option maxHeartbeats 4000000 in
set_option maxRecDepth 100000 in
theorem j_q_read_352 {p : Program} {l : Launch} {e : Env} {s : State} {m : MethodId} {args : Array Value} {below : List Frame} {meth : Method} {c : Code} {D : va_G} {cA : Nat → ClassId} {base : Nat} {w' : WW} (C : cx b_q_read (none) 3 y_q_read.cls "read" p s m args meth c D cA base)   : ∀ (z0 : Nat) (z1 : Int32) (z2 : Int32) (w : WW), f_q_read_352 z0 z1 z2 w = some w' → ∀ (H : Heap) (locs : List Loc) (ls : Array Slot), wo_S D cls cA base s w H locs → lv_has ls 3 [] → W p l e rm_q_read s m args below meth c H locs 0 0 (MQ below (wo_Q D cls cA base none w') args s rm_q_read.cells rm_q_read.slots (wo_B base)) (F0 m 352 ls [.int z2, .int z1, .ref (base + z0)]) := by
  obtain ⟨hx, hb, hr, hml, hown, hts, hlk, hnm, hK, hG⟩ := id C
  intro z0 z1 z2 w h H locs ls hW hl
  unfold f_q_read_352 at h
  refine lv_iadd hx hb d_q_read_352 ?_
  replace h := bs h
  obtain ⟨w33, hw33, h⟩ := h
  refine pf_q_178 hx hb hts hown hK hG hW rfl rfl (pbi hw33 rfl) d_q_read_353 (fun H locs hW => ?_)
  exact j_q_read_356 C w33 h _ _ _ hW (lv_sub hl [] rfl)
set_option maxHeartbeats 4000000 in
set_option maxRecDepth 100000 in
theorem j_q_read_335 {p : Program} {l : Launch} {e : Env} {s : State} {m : MethodId} {args : Array Value} {below : List Frame} {meth : Method} {c : Code} {D : va_G} {cA : Nat → ClassId} {base : Nat} {w' : WW} (C : cx b_q_read (none) 3 y_q_read.cls "read" p s m args meth c D cA base)   : ∀ (y0 : Nat) (y2 : Int32) (z0 : Nat) (z1 : Int32) (w : WW), f_q_read_335 y0 y2 z0 z1 w = some w' → ∀ (H : Heap) (locs : List Loc) (ls : Array Slot), wo_S D cls cA base s w H locs → lv_has ls 3 [(0, .ref (base + y0)), (2, .int y2)] → W p l e rm_q_read s m args below meth c H locs 0 0 (MQ below (wo_Q D cls cA base none w') args s rm_q_read.cells rm_q_read.slots (wo_B base)) (F0 m 335 ls [.int z1, .ref (base + z0)]) := by
  obtain ⟨hx, hb, hr, hml, hown, hts, hlk, hnm, hK, hG⟩ := id C
  intro y0 y2 z0 z1 w h H locs ls hW hl
  unfold f_q_read_335 at h
  replace h := bs h
  obtain ⟨w30, hw30, h⟩ := h
  refine pf_q_195 hx hb hts hown hK hG hW rfl rfl (pbi hw30 rfl) d_q_read_335 (fun H locs hW => ?_)
  refine lv_aload_n hx hb d_q_read_338 rfl (lv_at hl 0 rfl) ?_
  refine lv_dup hx hb d_q_read_339 rfl ?_
  replace h := bs h
  obtain ⟨x31, hx31, h⟩ := h
  refine gf_q_178 hx hb hts hown hK hG hW (gI_s hx31) d_q_read_340 ?_
  refine lv_iload_n hx hb d_q_read_343 rfl (lv_at hl 1 rfl) ?_
  refine lv_if_eq (tgt := 351) hx hb d_q_read_344 (by decide) (fun c32 => ?_) (fun c32 => ?_)
  · rw [if_pos c32] at h
    refine lv_iconst (v := (1 : Int32)) hx hb d_q_read_351 (by decide) ?_
    exact j_q_read_352 C y0 x31 (1 : Int32) w30 h _ _ _ hW (lv_sub hl [] rfl)
  · rw [if_neg c32] at h
    refine lv_iconst (v := (2 : Int32)) hx hb d_q_read_347 (by decide) ?_
    refine lv_goto (tgt := 352) hx hb d_q_read_348 (by decide) ?_
    exact j_q_read_352 C y0 x31 (2 : Int32) w30 h _ _ _ hW (lv_sub hl [] rfl)
set_option maxHeartbeats 4000000 in
set_option maxRecDepth 100000 in
theorem j_q_read_329 {p : Program} {l : Launch} {e : Env} {s : State} {m : MethodId} {args : Array Value} {below : List Frame} {meth : Method} {c : Code} {D : va_G} {cA : Nat → ClassId} {base : Nat} {w' : WW} (C : cx b_q_read (none) 3 y_q_read.cls "read" p s m args meth c D cA base)   : ∀ (y0 : Nat) (y2 : Int32) (z0 : Nat) (w : WW), f_q_read_329 y0 y2 z0 w = some w' → ∀ (H : Heap) (locs : List Loc) (ls : Array Slot), wo_S D cls cA base s w H locs → lv_has ls 3 [(0, .ref (base + y0)), (2, .int y2)] → W p l e rm_q_read s m args below meth c H locs 0 0 (MQ below (wo_Q D cls cA base none w') args s rm_q_read.cells rm_q_read.slots (wo_B base)) (F0 m 329 ls [.ref (base + z0)]) := by
  obtain ⟨hx, hb, hr, hml, hown, hts, hlk, hnm, hK, hG⟩ := id C
  intro y0 y2 z0 w h H locs ls hW hl
  unfold f_q_read_329 at h
  refine lv_iconst (v := (5 : Int32)) hx hb d_q_read_329 (by decide) ?_
  refine lv_goto (tgt := 335) hx hb d_q_read_330 (by decide) ?_
  exact j_q_read_335 C y0 y2 z0 (5 : Int32) w h _ _ _ hW (lv_sub hl [0, 1] rfl)
set_option maxHeartbeats 4000000 in
set_option maxRecDepth 100000 in
theorem j_q_read_258 {p : Program} {l : Launch} {e : Env} {s : State} {m : MethodId} {args : Array Value} {below : List Frame} {meth : Method} {c : Code} {D : va_G} {cA : Nat → ClassId} {base : Nat} {w' : WW} (C : cx b_q_read (none) 3 y_q_read.cls "read" p s m args meth c D cA base)   : ∀ (y0 : Nat) (y1 : Int32) (y2 : Int32) (z0 : Nat) (z1 : Int32) (w : WW), f_q_read_258 y0 y1 y2 z0 z1 w = some w' → ∀ (H : Heap) (locs : List Loc) (ls : Array Slot), wo_S D cls cA base s w H locs → lv_has ls 3 [(0, .ref (base + y0)), (1, .int y1), (2, .int y2)] → W p l e rm_q_read s m args below meth c H locs 0 0 (MQ below (wo_Q D cls cA base none w') args s rm_q_read.cells rm_q_read.slots (wo_B base)) (F0 m 258 ls [.int z1, .ref (base + z0)]) := by
  obtain ⟨hx, hb, hr, hml, hown, hts, hlk, hnm, hK, hG⟩ := id C
  intro y0 y1 y2 z0 z1 w h H locs ls hW hl
  unfold f_q_read_258 at h
  replace h := bs h
  obtain ⟨w28, hw28, h⟩ := h
  refine pf_q_198 hx hb hts hown hK hG hW rfl rfl (pbi hw28 rfl) d_q_read_258 (fun H locs hW => ?_)
  refine lv_aload_n hx hb d_q_read_261 rfl (lv_at hl 0 rfl) ?_
  refine lv_iload_n hx hb d_q_read_262 rfl (lv_at hl 2 rfl) ?_
  refine lv_if_ne (tgt := 329) hx hb d_q_read_263 (by decide) (fun c29 => ?_) (fun c29 => ?_)
  · rw [if_neg c29] at h
    exact j_q_read_329 C y0 y2 y0 w28 h _ _ _ hW (lv_sub hl [0, 2] rfl)
  · rw [if_pos c29] at h
    refine lv_iload_n hx hb d_q_read_266 rfl (lv_at hl 1 rfl) ?_
    replace h := bs2 h
    obtain ⟨x35, w34, hw34, h⟩ := h
    refine cs_q_223 (As := [.int y1]) (rest := [.ref (base + y0)]) hx hb hml hown hts hK hG hW (c_q_isOperator l D cA base hw34) ⟨Nat.le_of_ble_eq_true rfl, Nat.le_of_ble_eq_true rfl⟩ ⟨Nat.le_of_ble_eq_true rfl, Nat.le_of_ble_eq_true rfl⟩ rfl hl.1 rfl (Nat.le_of_ble_eq_true rfl) d_q_read_267 (fun H locs hW => ?_)
    refine lv_if_ne (tgt := 329) hx hb d_q_read_270 (by decide) (fun c36 => ?_) (fun c36 => ?_)
    · rw [if_neg c36] at h
      exact j_q_read_329 C y0 y2 y0 w34 h _ _ _ hW (lv_sub hl [0, 2] rfl)
    · rw [if_pos c36] at h
      refine lv_iload_n hx hb d_q_read_273 rfl (lv_at hl 1 rfl) ?_
      refine lv_i2l hx hb d_q_read_274 rfl ?_
      refine lv_ldc2 (own := Rc_q) (v := (40 : Int64)) hx hb hown (hts (.constantLong "AlarmForgeModel" 226 (40 : Int64)) (gt_of (i := 1430) (by decide +kernel) (by decide +kernel))) d_q_read_275 ?_
      refine lv_ldc2 (own := Rc_q) (v := (41 : Int64)) hx hb hown (hts (.constantLong "AlarmForgeModel" 228 (41 : Int64)) (gt_of (i := 1431) (by decide +kernel) (by decide +kernel))) d_q_read_278 ?_
      replace h := bs2 h
      obtain ⟨x38, w37, hw37, h⟩ := h
      refine cs_q_155 (As := [.long (Int32.toInt64 y1), .long (40 : Int64), .long (41 : Int64)]) (rest := [.ref (base + y0)]) hx hb hml hown hts hK hG hW (c_q_in l D cA base hw37) ⟨Nat.le_of_ble_eq_true rfl, Nat.le_of_ble_eq_true rfl⟩ ⟨Nat.le_of_ble_eq_true rfl, Nat.le_of_ble_eq_true rfl⟩ rfl hl.1 rfl (Nat.le_of_ble_eq_true rfl) d_q_read_281 (fun H locs hW => ?_)
      refine lv_if_ne (tgt := 329) hx hb d_q_read_284 (by decide) (fun c39 => ?_) (fun c39 => ?_)
      · rw [if_neg c39] at h
        exact j_q_read_329 C y0 y2 y0 w37 h _ _ _ hW (lv_sub hl [0, 2] rfl)
      · rw [if_pos c39] at h
        refine lv_iload_n hx hb d_q_read_287 rfl (lv_at hl 1 rfl) ?_
        refine lv_bipush (v := (91 : Int32)) hx hb d_q_read_288 (by decide) ?_
        refine lv_icmp_eq (tgt := 329) hx hb d_q_read_290 (by decide) (fun c40 => ?_) (fun c40 => ?_)
        · rw [if_pos c40] at h
          exact j_q_read_329 C y0 y2 y0 w37 h _ _ _ hW (lv_sub hl [0, 2] rfl)
        · rw [if_neg c40] at h
          refine lv_iload_n hx hb d_q_read_293 rfl (lv_at hl 1 rfl) ?_
          refine lv_bipush (v := (93 : Int32)) hx hb d_q_read_294 (by decide) ?_
          refine lv_icmp_eq (tgt := 329) hx hb d_q_read_296 (by decide) (fun c41 => ?_) (fun c41 => ?_)
          · rw [if_pos c41] at h
            exact j_q_read_329 C y0 y2 y0 w37 h _ _ _ hW (lv_sub hl [0, 2] rfl)
          · rw [if_neg c41] at h
            refine lv_iload_n hx hb d_q_read_299 rfl (lv_at hl 1 rfl) ?_
            refine lv_bipush (v := (123 : Int32)) hx hb d_q_read_300 (by decide) ?_
            refine lv_icmp_eq (tgt := 329) hx hb d_q_read_302 (by decide) (fun c42 => ?_) (fun c42 => ?_)
            · rw [if_pos c42] at h
              exact j_q_read_329 C y0 y2 y0 w37 h _ _ _ hW (lv_sub hl [0, 2] rfl)
            · rw [if_neg c42] at h
              refine lv_iload_n hx hb d_q_read_305 rfl (lv_at hl 1 rfl) ?_
              refine lv_bipush (v := (125 : Int32)) hx hb d_q_read_306 (by decide) ?_
              refine lv_icmp_eq (tgt := 329) hx hb d_q_read_308 (by decide) (fun c43 => ?_) (fun c43 => ?_)
              · rw [if_pos c43] at h
                exact j_q_read_329 C y0 y2 y0 w37 h _ _ _ hW (lv_sub hl [0, 2] rfl)
              · rw [if_neg c43] at h
                refine lv_iload_n hx hb d_q_read_311 rfl (lv_at hl 1 rfl) ?_
                refine lv_bipush (v := (59 : Int32)) hx hb d_q_read_312 (by decide) ?_
                refine lv_icmp_eq (tgt := 329) hx hb d_q_read_314 (by decide) (fun c44 => ?_) (fun c44 => ?_)
                · rw [if_pos c44] at h
                  exact j_q_read_329 C y0 y2 y0 w37 h _ _ _ hW (lv_sub hl [0, 2] rfl)
                · rw [if_neg c44] at h
                  refine lv_iload_n hx hb d_q_read_317 rfl (lv_at hl 1 rfl) ?_
                  refine lv_bipush (v := (61 : Int32)) hx hb d_q_read_318 (by decide) ?_
                  refine lv_icmp_eq (tgt := 329) hx hb d_q_read_320 (by decide) (fun c45 => ?_) (fun c45 => ?_)
                  · rw [if_pos c45] at h
                    exact j_q_read_329 C y0 y2 y0 w37 h _ _ _ hW (lv_sub hl [0, 2] rfl)
                  · rw [if_neg c45] at h
                    refine lv_iload_n hx hb d_q_read_323 rfl (lv_at hl 1 rfl) ?_
                    refine lv_bipush (v := (60 : Int32)) hx hb d_q_read_324 (by decide) ?_
                    refine lv_icmp_ne (tgt := 333) hx hb d_q_read_326 (by decide) (fun c46 => ?_) (fun c46 => ?_)
                    · rw [if_neg c46] at h
                      refine lv_bipush (v := (6 : Int32)) hx hb d_q_read_333 (by decide) ?_
                      exact j_q_read_335 C y0 y2 y0 (6 : Int32) w37 h _ _ _ hW (lv_sub hl [0, 2] rfl)
                    · rw [if_pos c46] at h
                      exact j_q_read_329 C y0 y2 y0 w37 h _ _ _ hW (lv_sub hl [0, 2] rfl)
set_option maxHeartbeats 4000000 in
set_option maxRecDepth 100000 in
theorem j_q_read_221 {p : Program} {l : Launch} {e : Env} {s : State} {m : MethodId} {args : Array Value} {below : List Frame} {meth : Method} {c : Code} {D : va_G} {cA : Nat → ClassId} {base : Nat} {w' : WW} (C : cx b_q_read (none) 3 y_q_read.cls "read" p s m args meth c D cA base)   : ∀ (y0 : Nat) (y1 : Int32) (z0 : Int32) (w : WW), f_q_read_221 y0 y1 z0 w = some w' → ∀ (H : Heap) (locs : List Loc) (ls : Array Slot), wo_S D cls cA base s w H locs → lv_has ls 3 [(0, .ref (base + y0)), (1, .int y1)] → W p l e rm_q_read s m args below meth c H locs 0 0 (MQ below (wo_Q D cls cA base none w') args s rm_q_read.cells rm_q_read.slots (wo_B base)) (F0 m 221 ls [.int z0]) := by
  obtain ⟨hx, hb, hr, hml, hown, hts, hlk, hnm, hK, hG⟩ := id C
  intro y0 y1 z0 w h H locs ls hW hl
  unfold f_q_read_221 at h
  refine lv_istore_n (lv' := [(2, .int z0), (0, .ref (base + y0)), (1, .int y1)]) hx hb d_q_read_221 rfl hl (by decide) rfl (fun ls hl => ?_)
  refine lv_aload_n hx hb d_q_read_222 rfl (lv_at hl 1 rfl) ?_
  refine lv_iload_n hx hb d_q_read_223 rfl (lv_at hl 0 rfl) ?_
  refine lv_if_ne (tgt := 231) hx hb d_q_read_224 (by decide) (fun c25 => ?_) (fun c25 => ?_)
  · rw [if_neg c25] at h
    refine lv_iload_n hx hb d_q_read_231 rfl (lv_at hl 2 rfl) ?_
    refine lv_bipush (v := (61 : Int32)) hx hb d_q_read_232 (by decide) ?_
    refine lv_icmp_ne (tgt := 243) hx hb d_q_read_234 (by decide) (fun c26 => ?_) (fun c26 => ?_)
    · rw [if_neg c26] at h
      refine lv_iload_n hx hb d_q_read_243 rfl (lv_at hl 2 rfl) ?_
      refine lv_bipush (v := (33 : Int32)) hx hb d_q_read_244 (by decide) ?_
      refine lv_icmp_ne (tgt := 255) hx hb d_q_read_246 (by decide) (fun c27 => ?_) (fun c27 => ?_)
      · rw [if_neg c27] at h
        refine lv_sipush (v := (1002 : Int32)) hx hb d_q_read_255 (by decide) ?_
        exact j_q_read_258 C y0 y1 z0 y0 (1002 : Int32) w h _ _ _ hW (lv_sub hl [1, 2, 0] rfl)
      · rw [if_pos c27] at h
        refine lv_sipush (v := (1001 : Int32)) hx hb d_q_read_249 (by decide) ?_
        refine lv_goto (tgt := 258) hx hb d_q_read_252 (by decide) ?_
        exact j_q_read_258 C y0 y1 z0 y0 (1001 : Int32) w h _ _ _ hW (lv_sub hl [1, 2, 0] rfl)
    · rw [if_pos c26] at h
      refine lv_sipush (v := (1000 : Int32)) hx hb d_q_read_237 (by decide) ?_
      refine lv_goto (tgt := 258) hx hb d_q_read_240 (by decide) ?_
      exact j_q_read_258 C y0 y1 z0 y0 (1000 : Int32) w h _ _ _ hW (lv_sub hl [1, 2, 0] rfl)
  · rw [if_pos c25] at h
    refine lv_iload_n hx hb d_q_read_227 rfl (lv_at hl 2 rfl) ?_
    refine lv_goto (tgt := 258) hx hb d_q_read_228 (by decide) ?_
    exact j_q_read_258 C y0 y1 z0 y0 y1 w h _ _ _ hW (lv_sub hl [1, 2, 0] rfl)
set_option maxHeartbeats 4000000 in
set_option maxRecDepth 100000 in
theorem j_q_read_220 {p : Program} {l : Launch} {e : Env} {s : State} {m : MethodId} {args : Array Value} {below : List Frame} {meth : Method} {c : Code} {D : va_G} {cA : Nat → ClassId} {base : Nat} {w' : WW} (C : cx b_q_read (none) 3 y_q_read.cls "read" p s m args meth c D cA base)   : ∀ (y0 : Nat) (y1 : Int32) (w : WW), f_q_read_220 y0 y1 w = some w' → ∀ (H : Heap) (locs : List Loc) (ls : Array Slot), wo_S D cls cA base s w H locs → lv_has ls 3 [(0, .ref (base + y0)), (1, .int y1)] → W p l e rm_q_read s m args below meth c H locs 0 0 (MQ below (wo_Q D cls cA base none w') args s rm_q_read.cells rm_q_read.slots (wo_B base)) (F0 m 220 ls []) := by
  obtain ⟨hx, hb, hr, hml, hown, hts, hlk, hnm, hK, hG⟩ := id C
  intro y0 y1 w h H locs ls hW hl
  unfold f_q_read_220 at h
  refine lv_iconst (v := (0 : Int32)) hx hb d_q_read_220 (by decide) ?_
  exact j_q_read_221 C y0 y1 (0 : Int32) w h _ _ _ hW (lv_sub hl [0, 1] rfl)
set_option maxHeartbeats 4000000 in
set_option maxRecDepth 100000 in
theorem j_q_read_201 {p : Program} {l : Launch} {e : Env} {s : State} {m : MethodId} {args : Array Value} {below : List Frame} {meth : Method} {c : Code} {D : va_G} {cA : Nat → ClassId} {base : Nat} {w' : WW} (C : cx b_q_read (none) 3 y_q_read.cls "read" p s m args meth c D cA base)   : ∀ (y0 : Nat) (y1 : Int32) (w : WW), f_q_read_201 y0 y1 w = some w' → ∀ (H : Heap) (locs : List Loc) (ls : Array Slot), wo_S D cls cA base s w H locs → lv_has ls 3 [(0, .ref (base + y0)), (1, .int y1)] → W p l e rm_q_read s m args below meth c H locs 0 0 (MQ below (wo_Q D cls cA base none w') args s rm_q_read.cells rm_q_read.slots (wo_B base)) (F0 m 201 ls []) := by
  obtain ⟨hx, hb, hr, hml, hown, hts, hlk, hnm, hK, hG⟩ := id C
  intro y0 y1 w h H locs ls hW hl
  unfold f_q_read_201 at h
  refine lv_aload_n hx hb d_q_read_201 rfl (lv_at hl 0 rfl) ?_
  refine lv_aload_n hx hb d_q_read_202 rfl (lv_at hl 0 rfl) ?_
  replace h := bs h
  obtain ⟨x21, hx21, h⟩ := h
  refine gf_q_178 hx hb hts hown hK hG hW (gI_s hx21) d_q_read_203 ?_
  refine lv_iconst (v := (1 : Int32)) hx hb d_q_read_206 (by decide) ?_
  refine lv_iadd hx hb d_q_read_207 ?_
  replace h := bs2 h
  obtain ⟨x23, w22, hw22, h⟩ := h
  refine cv_q_186 (As := [.int (x21 + (1 : Int32))]) (rest := []) hx hb hml hown hts hK hG hW (c_q_charAt l D cA base hw22) (kb_q_charAt hw22) ⟨Nat.le_of_ble_eq_true rfl, Nat.le_of_ble_eq_true rfl⟩ ⟨Nat.le_of_ble_eq_true rfl, Nat.le_of_ble_eq_true rfl⟩ rfl hl.1 rfl (Nat.le_of_ble_eq_true rfl) d_q_read_208 (fun H locs hW => ?_)
  refine lv_bipush (v := (61 : Int32)) hx hb d_q_read_211 (by decide) ?_
  refine lv_icmp_ne (tgt := 220) hx hb d_q_read_213 (by decide) (fun c24 => ?_) (fun c24 => ?_)
  · rw [if_neg c24] at h
    exact j_q_read_220 C y0 y1 w22 h _ _ _ hW (lv_sub hl [0, 1] rfl)
  · rw [if_pos c24] at h
    refine lv_iconst (v := (1 : Int32)) hx hb d_q_read_216 (by decide) ?_
    refine lv_goto (tgt := 221) hx hb d_q_read_217 (by decide) ?_
    exact j_q_read_221 C y0 y1 (1 : Int32) w22 h _ _ _ hW (lv_sub hl [0, 1] rfl)
set_option maxHeartbeats 4000000 in
set_option maxRecDepth 100000 in
theorem j_q_read_104 {p : Program} {l : Launch} {e : Env} {s : State} {m : MethodId} {args : Array Value} {below : List Frame} {meth : Method} {c : Code} {D : va_G} {cA : Nat → ClassId} {base : Nat} {w' : WW} (C : cx b_q_read (none) 3 y_q_read.cls "read" p s m args meth c D cA base)   : ∀ n : Nat, ∀ (y0 : Nat) (w : WW), f_q_read_104 n y0 w = some w' → ∀ (H : Heap) (locs : List Loc) (ls : Array Slot), wo_S D cls cA base s w H locs → lv_has ls 3 [(0, .ref (base + y0))] → W p l e rm_q_read s m args below meth c H locs 0 0 (MQ below (wo_Q D cls cA base none w') args s rm_q_read.cells rm_q_read.slots (wo_B base)) (F0 m 104 ls []) := by
  obtain ⟨hx, hb, hr, hml, hown, hts, hlk, hnm, hK, hG⟩ := id C
  intro n
  induction n with
  | zero => intro y0 w h; cases h
  | succ n ih =>
    intro y0 w h H locs ls hW hl
    rw [f_q_read_104] at h
    refine lv_aload_n hx hb d_q_read_104 rfl (lv_at hl 0 rfl) ?_
    refine lv_aload_n hx hb d_q_read_105 rfl (lv_at hl 0 rfl) ?_
    replace h := bs h
    obtain ⟨x51, hx51, h⟩ := h
    refine gf_q_178 hx hb hts hown hK hG hW (gI_s hx51) d_q_read_106 ?_
    replace h := bs2 h
    obtain ⟨x53, w52, hw52, h⟩ := h
    refine cv_q_186 (As := [.int x51]) (rest := []) hx hb hml hown hts hK hG hW (c_q_charAt l D cA base hw52) (kb_q_charAt hw52) ⟨Nat.le_of_ble_eq_true rfl, Nat.le_of_ble_eq_true rfl⟩ ⟨Nat.le_of_ble_eq_true rfl, Nat.le_of_ble_eq_true rfl⟩ rfl hl.1 rfl (Nat.le_of_ble_eq_true rfl) d_q_read_109 (fun H locs hW => ?_)
    replace h := bs2 h
    obtain ⟨x55, w54, hw54, h⟩ := h
    refine cs_q_217 (As := [.int x53]) (rest := []) hx hb hml hown hts hK hG hW (c_q_isDigit l D cA base hw54) ⟨Nat.le_of_ble_eq_true rfl, Nat.le_of_ble_eq_true rfl⟩ ⟨Nat.le_of_ble_eq_true rfl, Nat.le_of_ble_eq_true rfl⟩ rfl hl.1 rfl (Nat.le_of_ble_eq_true rfl) d_q_read_112 (fun H locs hW => ?_)
    refine lv_if_eq (tgt := 356) hx hb d_q_read_115 (by decide) (fun c56 => ?_) (fun c56 => ?_)
    · rw [if_pos c56] at h
      exact j_q_read_356 C w54 h _ _ _ hW (lv_sub hl [] rfl)
    · rw [if_neg c56] at h
      refine lv_aload_n hx hb d_q_read_118 rfl (lv_at hl 0 rfl) ?_
      replace h := bs h
      obtain ⟨x57, hx57, h⟩ := h
      refine gf_q_178 hx hb hts hown hK hG hW (gI_s hx57) d_q_read_119 ?_
      refine lv_aload_n hx hb d_q_read_122 rfl (lv_at hl 0 rfl) ?_
      replace h := bs h
      obtain ⟨x58, hx58, h⟩ := h
      refine gf_q_181 hx hb hts hown hK hG hW (gI_s hx58) d_q_read_123 ?_
      refine lv_bipush (v := (9 : Int32)) hx hb d_q_read_126 (by decide) ?_
      refine lv_iadd hx hb d_q_read_128 ?_
      refine lv_icmp_ge (tgt := 356) hx hb d_q_read_129 (by decide) (fun c59 => ?_) (fun c59 => ?_)
      · rw [if_pos c59] at h
        exact j_q_read_356 C w54 h _ _ _ hW (lv_sub hl [] rfl)
      · rw [if_neg c59] at h
        refine lv_aload_n hx hb d_q_read_132 rfl (lv_at hl 0 rfl) ?_
        refine lv_bipush (v := (10 : Int32)) hx hb d_q_read_133 (by decide) ?_
        refine lv_aload_n hx hb d_q_read_135 rfl (lv_at hl 0 rfl) ?_
        replace h := bs h
        obtain ⟨x60, hx60, h⟩ := h
        refine gf_q_198 hx hb hts hown hK hG hW (gI_s hx60) d_q_read_136 ?_
        refine lv_imul hx hb d_q_read_139 ?_
        refine lv_aload_n hx hb d_q_read_140 rfl (lv_at hl 0 rfl) ?_
        replace h := bs h
        obtain ⟨x61, hx61, h⟩ := h
        refine gf_q_7 hx hb hts hown hK hG hW (gN_s hx61) d_q_read_141 ?_
        refine lv_aload_n hx hb d_q_read_144 rfl (lv_at hl 0 rfl) ?_
        replace h := bs h
        obtain ⟨x62, hx62, h⟩ := h
        refine gf_q_178 hx hb hts hown hK hG hW (gI_s hx62) d_q_read_145 ?_
        replace h := bs h
        obtain ⟨x63, hx63, h⟩ := h
        refine wo_iald hx hb hK hW (t := 0) rfl hx63 d_q_read_148 ?_
        refine lv_iadd hx hb d_q_read_149 ?_
        refine lv_bipush (v := (48 : Int32)) hx hb d_q_read_150 (by decide) ?_
        refine lv_isub hx hb d_q_read_152 ?_
        replace h := bs h
        obtain ⟨w64, hw64, h⟩ := h
        refine pf_q_198 hx hb hts hown hK hG hW rfl rfl (pbi hw64 rfl) d_q_read_153 (fun H locs hW => ?_)
        refine lv_aload_n hx hb d_q_read_156 rfl (lv_at hl 0 rfl) ?_
        refine lv_dup hx hb d_q_read_157 rfl ?_
        replace h := bs h
        obtain ⟨x65, hx65, h⟩ := h
        refine gf_q_178 hx hb hts hown hK hG hW (gI_s hx65) d_q_read_158 ?_
        refine lv_iconst (v := (1 : Int32)) hx hb d_q_read_161 (by decide) ?_
        refine lv_iadd hx hb d_q_read_162 ?_
        replace h := bs h
        obtain ⟨w66, hw66, h⟩ := h
        refine pf_q_178 hx hb hts hown hK hG hW rfl rfl (pbi hw66 rfl) d_q_read_163 (fun H locs hW => ?_)
        refine lv_goto (tgt := 104) hx hb d_q_read_166 (by decide) ?_
        exact ih y0 w66 h _ _ _ hW (lv_sub hl [0] rfl)
set_option maxHeartbeats 4000000 in
set_option maxRecDepth 100000 in
theorem j_q_read_52 {p : Program} {l : Launch} {e : Env} {s : State} {m : MethodId} {args : Array Value} {below : List Frame} {meth : Method} {c : Code} {D : va_G} {cA : Nat → ClassId} {base : Nat} {w' : WW} (C : cx b_q_read (none) 3 y_q_read.cls "read" p s m args meth c D cA base)   : ∀ (y0 : Nat) (w : WW), f_q_read_52 y0 w = some w' → ∀ (H : Heap) (locs : List Loc) (ls : Array Slot), wo_S D cls cA base s w H locs → lv_has ls 3 [(0, .ref (base + y0))] → W p l e rm_q_read s m args below meth c H locs 0 0 (MQ below (wo_Q D cls cA base none w') args s rm_q_read.cells rm_q_read.slots (wo_B base)) (F0 m 52 ls []) := by
  obtain ⟨hx, hb, hr, hml, hown, hts, hlk, hnm, hK, hG⟩ := id C
  intro y0 w h H locs ls hW hl
  unfold f_q_read_52 at h
  refine lv_aload_n hx hb d_q_read_52 rfl (lv_at hl 0 rfl) ?_
  refine lv_aload_n hx hb d_q_read_53 rfl (lv_at hl 0 rfl) ?_
  replace h := bs h
  obtain ⟨x4, hx4, h⟩ := h
  refine gf_q_178 hx hb hts hown hK hG hW (gI_s hx4) d_q_read_54 ?_
  replace h := bs h
  obtain ⟨w5, hw5, h⟩ := h
  refine pf_q_181 hx hb hts hown hK hG hW rfl rfl (pbi hw5 rfl) d_q_read_57 (fun H locs hW => ?_)
  refine lv_aload_n hx hb d_q_read_60 rfl (lv_at hl 0 rfl) ?_
  refine lv_iconst (v := (0 : Int32)) hx hb d_q_read_61 (by decide) ?_
  replace h := bs h
  obtain ⟨w6, hw6, h⟩ := h
  refine pf_q_195 hx hb hts hown hK hG hW rfl rfl (pbi hw6 rfl) d_q_read_62 (fun H locs hW => ?_)
  refine lv_aload_n hx hb d_q_read_65 rfl (lv_at hl 0 rfl) ?_
  refine lv_iconst (v := (0 : Int32)) hx hb d_q_read_66 (by decide) ?_
  replace h := bs h
  obtain ⟨w7, hw7, h⟩ := h
  refine pf_q_198 hx hb hts hown hK hG hW rfl rfl (pbi hw7 rfl) d_q_read_67 (fun H locs hW => ?_)
  refine lv_aload_n hx hb d_q_read_70 rfl (lv_at hl 0 rfl) ?_
  replace h := bs h
  obtain ⟨x8, hx8, h⟩ := h
  refine gf_q_178 hx hb hts hown hK hG hW (gI_s hx8) d_q_read_71 ?_
  refine lv_aload_n hx hb d_q_read_74 rfl (lv_at hl 0 rfl) ?_
  replace h := bs h
  obtain ⟨x9, hx9, h⟩ := h
  refine gf_q_163 hx hb hts hown hK hG hW (gI_s hx9) d_q_read_75 ?_
  refine lv_icmp_ne (tgt := 82) hx hb d_q_read_78 (by decide) (fun c10 => ?_) (fun c10 => ?_)
  · rw [if_neg c10] at h
    refine lv_aload_n hx hb d_q_read_82 rfl (lv_at hl 0 rfl) ?_
    replace h := bs h
    obtain ⟨x11, hx11, h⟩ := h
    refine gf_q_7 hx hb hts hown hK hG hW (gN_s hx11) d_q_read_83 ?_
    refine lv_aload_n hx hb d_q_read_86 rfl (lv_at hl 0 rfl) ?_
    replace h := bs h
    obtain ⟨x12, hx12, h⟩ := h
    refine gf_q_178 hx hb hts hown hK hG hW (gI_s hx12) d_q_read_87 ?_
    replace h := bs h
    obtain ⟨x13, hx13, h⟩ := h
    refine wo_iald hx hb hK hW (t := 0) rfl hx13 d_q_read_90 ?_
    refine lv_istore_n (lv' := [(1, .int x13), (0, .ref (base + y0))]) hx hb d_q_read_91 rfl hl (by decide) rfl (fun ls hl => ?_)
    refine lv_iload_n hx hb d_q_read_92 rfl (lv_at hl 0 rfl) ?_
    replace h := bs2 h
    obtain ⟨x15, w14, hw14, h⟩ := h
    refine cs_q_217 (As := [.int x13]) (rest := []) hx hb hml hown hts hK hG hW (c_q_isDigit l D cA base hw14) ⟨Nat.le_of_ble_eq_true rfl, Nat.le_of_ble_eq_true rfl⟩ ⟨Nat.le_of_ble_eq_true rfl, Nat.le_of_ble_eq_true rfl⟩ rfl hl.1 rfl (Nat.le_of_ble_eq_true rfl) d_q_read_93 (fun H locs hW => ?_)
    refine lv_if_eq (tgt := 169) hx hb d_q_read_96 (by decide) (fun c16 => ?_) (fun c16 => ?_)
    · rw [if_pos c16] at h
      refine lv_iload_n hx hb d_q_read_169 rfl (lv_at hl 0 rfl) ?_
      replace h := bs2 h
      obtain ⟨x18, w17, hw17, h⟩ := h
      refine cs_q_189 (As := [.int x13]) (rest := []) hx hb hml hown hts hK hG hW (c_q_isLetter l D cA base hw17) ⟨Nat.le_of_ble_eq_true rfl, Nat.le_of_ble_eq_true rfl⟩ ⟨Nat.le_of_ble_eq_true rfl, Nat.le_of_ble_eq_true rfl⟩ rfl hl.1 rfl (Nat.le_of_ble_eq_true rfl) d_q_read_170 (fun H locs hW => ?_)
      refine lv_if_eq (tgt := 183) hx hb d_q_read_173 (by decide) (fun c19 => ?_) (fun c19 => ?_)
      · rw [if_pos c19] at h
        refine lv_iload_n hx hb d_q_read_183 rfl (lv_at hl 0 rfl) ?_
        refine lv_bipush (v := (61 : Int32)) hx hb d_q_read_184 (by decide) ?_
        refine lv_icmp_eq (tgt := 201) hx hb d_q_read_186 (by decide) (fun c20 => ?_) (fun c20 => ?_)
        · rw [if_pos c20] at h
          exact j_q_read_201 C y0 x13 w17 h _ _ _ hW (lv_sub hl [1, 0] rfl)
        · rw [if_neg c20] at h
          refine lv_iload_n hx hb d_q_read_189 rfl (lv_at hl 0 rfl) ?_
          refine lv_bipush (v := (33 : Int32)) hx hb d_q_read_190 (by decide) ?_
          refine lv_icmp_eq (tgt := 201) hx hb d_q_read_192 (by decide) (fun c47 => ?_) (fun c47 => ?_)
          · rw [if_pos c47] at h
            exact j_q_read_201 C y0 x13 w17 h _ _ _ hW (lv_sub hl [1, 0] rfl)
          · rw [if_neg c47] at h
            refine lv_iload_n hx hb d_q_read_195 rfl (lv_at hl 0 rfl) ?_
            refine lv_bipush (v := (60 : Int32)) hx hb d_q_read_196 (by decide) ?_
            refine lv_icmp_ne (tgt := 220) hx hb d_q_read_198 (by decide) (fun c48 => ?_) (fun c48 => ?_)
            · rw [if_neg c48] at h
              exact j_q_read_220 C y0 x13 w17 h _ _ _ hW (lv_sub hl [1, 0] rfl)
            · rw [if_pos c48] at h
              exact j_q_read_201 C y0 x13 w17 h _ _ _ hW (lv_sub hl [1, 0] rfl)
      · rw [if_neg c19] at h
        refine lv_aload_n hx hb d_q_read_176 rfl (lv_at hl 1 rfl) ?_
        replace h := bs h
        obtain ⟨w49, hw49, h⟩ := h
        refine cv_q_220 (As := []) (rest := []) hx hb hml hown hts hK hG hW (c_q_word l D cA base hw49) (kb_q_word hw49) ⟨Nat.le_of_ble_eq_true rfl, Nat.le_of_ble_eq_true rfl⟩ ⟨Nat.le_of_ble_eq_true rfl, Nat.le_of_ble_eq_true rfl⟩ rfl hl.1 rfl (Nat.le_of_ble_eq_true rfl) d_q_read_177 (fun H locs hW => ?_)
        refine lv_goto (tgt := 356) hx hb d_q_read_180 (by decide) ?_
        exact j_q_read_356 C w49 h _ _ _ hW (lv_sub hl [] rfl)
    · rw [if_neg c16] at h
      refine lv_aload_n hx hb d_q_read_99 rfl (lv_at hl 1 rfl) ?_
      refine lv_iconst (v := (1 : Int32)) hx hb d_q_read_100 (by decide) ?_
      replace h := bs h
      obtain ⟨w50, hw50, h⟩ := h
      refine pf_q_195 hx hb hts hown hK hG hW rfl rfl (pbi hw50 rfl) d_q_read_101 (fun H locs hW => ?_)
      exact j_q_read_104 C KK y0 w50 h _ _ _ hW (lv_sub hl [1] rfl)
  · rw [if_pos c10] at h
    cases h
    exact wo_vret hx hb hr hlk hW d_q_read_81
set_option maxHeartbeats 4000000 in
set_option maxRecDepth 100000 in
theorem j_q_read_39 {p : Program} {l : Launch} {e : Env} {s : State} {m : MethodId} {args : Array Value} {below : List Frame} {meth : Method} {c : Code} {D : va_G} {cA : Nat → ClassId} {base : Nat} {w' : WW} (C : cx b_q_read (none) 3 y_q_read.cls "read" p s m args meth c D cA base) {k_0 : Nat → WW → Option WW} (hk_0 : ∀ (y0 : Nat) (w : WW), k_0 y0 w = some w' → ∀ (H : Heap) (locs : List Loc) (ls : Array Slot), wo_S D cls cA base s w H locs → lv_has ls 3 [(0, .ref (base + y0))] → W p l e rm_q_read s m args below meth c H locs 0 0 (MQ below (wo_Q D cls cA base none w') args s rm_q_read.cells rm_q_read.slots (wo_B base)) (F0 m 0 ls [])) : ∀ (y0 : Nat) (w : WW), f_q_read_39 k_0 y0 w = some w' → ∀ (H : Heap) (locs : List Loc) (ls : Array Slot), wo_S D cls cA base s w H locs → lv_has ls 3 [(0, .ref (base + y0))] → W p l e rm_q_read s m args below meth c H locs 0 0 (MQ below (wo_Q D cls cA base none w') args s rm_q_read.cells rm_q_read.slots (wo_B base)) (F0 m 39 ls []) := by
  obtain ⟨hx, hb, hr, hml, hown, hts, hlk, hnm, hK, hG⟩ := id C
  intro y0 w h H locs ls hW hl
  unfold f_q_read_39 at h
  refine lv_aload_n hx hb d_q_read_39 rfl (lv_at hl 0 rfl) ?_
  refine lv_dup hx hb d_q_read_40 rfl ?_
  replace h := bs h
  obtain ⟨x71, hx71, h⟩ := h
  refine gf_q_178 hx hb hts hown hK hG hW (gI_s hx71) d_q_read_41 ?_
  refine lv_iconst (v := (1 : Int32)) hx hb d_q_read_44 (by decide) ?_
  refine lv_iadd hx hb d_q_read_45 ?_
  replace h := bs h
  obtain ⟨w72, hw72, h⟩ := h
  refine pf_q_178 hx hb hts hown hK hG hW rfl rfl (pbi hw72 rfl) d_q_read_46 (fun H locs hW => ?_)
  refine lv_goto (tgt := 0) hx hb d_q_read_49 (by decide) ?_
  exact hk_0 y0 w72 h _ _ _ hW (lv_sub hl [0] rfl)
set_option maxHeartbeats 4000000 in
set_option maxRecDepth 100000 in
theorem j_q_read_0 {p : Program} {l : Launch} {e : Env} {s : State} {m : MethodId} {args : Array Value} {below : List Frame} {meth : Method} {c : Code} {D : va_G} {cA : Nat → ClassId} {base : Nat} {w' : WW} (C : cx b_q_read (none) 3 y_q_read.cls "read" p s m args meth c D cA base)   : ∀ n : Nat, ∀ (y0 : Nat) (w : WW), f_q_read_0 n y0 w = some w' → ∀ (H : Heap) (locs : List Loc) (ls : Array Slot), wo_S D cls cA base s w H locs → lv_has ls 3 [(0, .ref (base + y0))] → W p l e rm_q_read s m args below meth c H locs 0 0 (MQ below (wo_Q D cls cA base none w') args s rm_q_read.cells rm_q_read.slots (wo_B base)) (F0 m 0 ls []) := by
  obtain ⟨hx, hb, hr, hml, hown, hts, hlk, hnm, hK, hG⟩ := id C
  intro n
  induction n with
  | zero => intro y0 w h; cases h
  | succ n ih =>
    intro y0 w h H locs ls hW hl
    rw [f_q_read_0] at h
    refine lv_aload_n hx hb d_q_read_0 rfl (lv_at hl 0 rfl) ?_
    replace h := bs h
    obtain ⟨x1, hx1, h⟩ := h
    refine gf_q_178 hx hb hts hown hK hG hW (gI_s hx1) d_q_read_1 ?_
    refine lv_aload_n hx hb d_q_read_4 rfl (lv_at hl 0 rfl) ?_
    replace h := bs h
    obtain ⟨x2, hx2, h⟩ := h
    refine gf_q_163 hx hb hts hown hK hG hW (gI_s hx2) d_q_read_5 ?_
    refine lv_icmp_ge (tgt := 52) hx hb d_q_read_8 (by decide) (fun c3 => ?_) (fun c3 => ?_)
    · rw [if_pos c3] at h
      exact j_q_read_52 C y0 w h _ _ _ hW (lv_sub hl [0] rfl)
    · rw [if_neg c3] at h
      refine lv_aload_n hx hb d_q_read_11 rfl (lv_at hl 0 rfl) ?_
      replace h := bs h
      obtain ⟨x67, hx67, h⟩ := h
      refine gf_q_7 hx hb hts hown hK hG hW (gN_s hx67) d_q_read_12 ?_
      refine lv_aload_n hx hb d_q_read_15 rfl (lv_at hl 0 rfl) ?_
      replace h := bs h
      obtain ⟨x68, hx68, h⟩ := h
      refine gf_q_178 hx hb hts hown hK hG hW (gI_s hx68) d_q_read_16 ?_
      replace h := bs h
      obtain ⟨x69, hx69, h⟩ := h
      refine wo_iald hx hb hK hW (t := 0) rfl hx69 d_q_read_19 ?_
      refine lv_bipush (v := (32 : Int32)) hx hb d_q_read_20 (by decide) ?_
      refine lv_icmp_eq (tgt := 39) hx hb d_q_read_22 (by decide) (fun c70 => ?_) (fun c70 => ?_)
      · rw [if_pos c70] at h
        exact j_q_read_39 C ih y0 w h _ _ _ hW (lv_sub hl [0] rfl)
      · rw [if_neg c70] at h
        refine lv_aload_n hx hb d_q_read_25 rfl (lv_at hl 0 rfl) ?_
        replace h := bs h
        obtain ⟨x73, hx73, h⟩ := h
        refine gf_q_7 hx hb hts hown hK hG hW (gN_s hx73) d_q_read_26 ?_
        refine lv_aload_n hx hb d_q_read_29 rfl (lv_at hl 0 rfl) ?_
        replace h := bs h
        obtain ⟨x74, hx74, h⟩ := h
        refine gf_q_178 hx hb hts hown hK hG hW (gI_s hx74) d_q_read_30 ?_
        replace h := bs h
        obtain ⟨x75, hx75, h⟩ := h
        refine wo_iald hx hb hK hW (t := 0) rfl hx75 d_q_read_33 ?_
        refine lv_bipush (v := (10 : Int32)) hx hb d_q_read_34 (by decide) ?_
        refine lv_icmp_ne (tgt := 52) hx hb d_q_read_36 (by decide) (fun c76 => ?_) (fun c76 => ?_)
        · rw [if_neg c76] at h
          exact j_q_read_52 C y0 w h _ _ _ hW (lv_sub hl [0] rfl)
        · rw [if_pos c76] at h
          exact j_q_read_39 C ih y0 w h _ _ _ hW (lv_sub hl [0] rfl)
set_option maxHeartbeats 4000000 in
set_option maxRecDepth 100000 in
theorem c_q_read (l : Launch) (D : va_G) (cA : Nat → ClassId) (base : Nat) {a0 : Nat} {w w' : WW} (h : f_q_read a0 w = some w') : mt l D cls (wo_tys cA) cA base y_q_read (Cond.code y_q_read b_q_read 3 (none) :: gt) rm_q_read [.ref (base + a0)] w none w' rm_q_read.cells rm_q_read.slots := by
  refine mt_start (by decide) (Nat.le_of_ble_eq_true rfl) ?_
  intro p e s m below meth c ls hx hb hr hml hown hts hlk hnm hK hG hW hl
  have C : cx b_q_read (none) 3 y_q_read.cls "read" p s m [.ref (base + a0)].toArray meth c D cA base := ⟨hx, hb, hr, hml, hown, hts, hlk, hnm, hK, hG⟩
  have hl : lv_has ls 3 [(0, .ref (base + a0))] := hl
  unfold f_q_read at h
  replace h := its h
  obtain ⟨-, h⟩ := h
  exact j_q_read_0 C KK a0 w h _ _ _ hW (lv_sub hl [0] rfl)
