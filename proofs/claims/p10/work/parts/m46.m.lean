/-! Methods as functions, and their contracts (by wip/gen/run.py). -/
abbrev b_q_expect : ByteArray := prog_11_method_17_code
def y_q_expect : MethodName := ⟨"AlarmForgeModel", "expect", "(I)V"⟩
def rm_q_expect : Room := { frames := 4, cells := 0, slots := 0, locals := 94 }
theorem d_q_expect_0 : decode b_q_expect 0 = .ok (.aload_n 0, 1) := by decide +kernel
theorem d_q_expect_1 : decode b_q_expect 1 = .ok (.getfield 230, 3) := by decide +kernel
theorem d_q_expect_4 : decode b_q_expect 4 = .ok (.ifCond .eq (4), 3) := by decide +kernel
theorem d_q_expect_7 : decode b_q_expect 7 = .ok (.return_, 1) := by decide +kernel
theorem d_q_expect_8 : decode b_q_expect 8 = .ok (.aload_n 0, 1) := by decide +kernel
theorem d_q_expect_9 : decode b_q_expect 9 = .ok (.iload_n 1, 1) := by decide +kernel
theorem d_q_expect_10 : decode b_q_expect 10 = .ok (.invokevirtual 234, 3) := by decide +kernel
theorem d_q_expect_13 : decode b_q_expect 13 = .ok (.ifCond .eq (10), 3) := by decide +kernel
theorem d_q_expect_16 : decode b_q_expect 16 = .ok (.aload_n 0, 1) := by decide +kernel
theorem d_q_expect_17 : decode b_q_expect 17 = .ok (.invokevirtual 237, 3) := by decide +kernel
theorem d_q_expect_20 : decode b_q_expect 20 = .ok (.goto (7), 3) := by decide +kernel
theorem d_q_expect_23 : decode b_q_expect 23 = .ok (.aload_n 0, 1) := by decide +kernel
theorem d_q_expect_24 : decode b_q_expect 24 = .ok (.invokevirtual 240, 3) := by decide +kernel
theorem d_q_expect_27 : decode b_q_expect 27 = .ok (.return_, 1) := by decide +kernel
theorem kb_q_expect {a0 : Nat} {a1 : Int32} {w : WW} {r : WW} (h : f_q_expect a0 a1 w = some r) : kb w a0 9 = true := (its h).1
set_option maxHeartbeats 4000000 in
set_option maxRecDepth 100000 in
theorem j_q_expect_27 {p : Program} {l : Launch} {e : Env} {s : State} {m : MethodId} {args : Array Value} {below : List Frame} {meth : Method} {c : Code} {D : va_G} {cA : Nat → ClassId} {base : Nat} {w' : WW} (C : cx b_q_expect (none) 2 y_q_expect.cls "expect" p s m args meth c D cA base)   : ∀  (w : WW), f_q_expect_27  w = some w' → ∀ (H : Heap) (locs : List Loc) (ls : Array Slot), wo_S D cls cA base s w H locs → lv_has ls 2 [] → W p l e rm_q_expect s m args below meth c H locs 0 0 (MQ below (wo_Q D cls cA base none w') args s rm_q_expect.cells rm_q_expect.slots (wo_B base)) (F0 m 27 ls []) := by
  obtain ⟨hx, hb, hr, hml, hown, hts, hlk, hnm, hK, hG⟩ := id C
  intro  w h H locs ls hW hl
  unfold f_q_expect_27 at h
  cases h
  exact wo_vret hx hb hr hlk hW d_q_expect_27
set_option maxHeartbeats 4000000 in
set_option maxRecDepth 100000 in
theorem c_q_expect (l : Launch) (D : va_G) (cA : Nat → ClassId) (base : Nat) {a0 : Nat} {a1 : Int32} {w w' : WW} (h : f_q_expect a0 a1 w = some w') : mt l D cls (wo_tys cA) cA base y_q_expect (Cond.code y_q_expect b_q_expect 2 (none) :: gt) rm_q_expect [.ref (base + a0), .int a1] w none w' rm_q_expect.cells rm_q_expect.slots := by
  refine mt_start (by decide) (Nat.le_of_ble_eq_true rfl) ?_
  intro p e s m below meth c ls hx hb hr hml hown hts hlk hnm hK hG hW hl
  have C : cx b_q_expect (none) 2 y_q_expect.cls "expect" p s m [.ref (base + a0), .int a1].toArray meth c D cA base := ⟨hx, hb, hr, hml, hown, hts, hlk, hnm, hK, hG⟩
  have hl : lv_has ls 2 [(0, .ref (base + a0)), (1, .int a1)] := hl
  unfold f_q_expect at h
  replace h := its h
  obtain ⟨-, h⟩ := h
  refine lv_aload_n hx hb d_q_expect_0 rfl (lv_at hl 0 rfl) ?_
  replace h := bs h
  obtain ⟨x1, hx1, h⟩ := h
  refine gf_q_230 hx hb hts hown hK hG hW (gI_s hx1) d_q_expect_1 ?_
  refine lv_if_eq (tgt := 8) hx hb d_q_expect_4 (by decide) (fun c2 => ?_) (fun c2 => ?_)
  · rw [if_pos c2] at h
    refine lv_aload_n hx hb d_q_expect_8 rfl (lv_at hl 0 rfl) ?_
    refine lv_iload_n hx hb d_q_expect_9 rfl (lv_at hl 1 rfl) ?_
    replace h := bs2 h
    obtain ⟨x4, w3, hw3, h⟩ := h
    refine cv_q_234 (As := [.int a1]) (rest := []) hx hb hml hown hts hK hG hW (c_q_is l D cA base hw3) (kb_q_is hw3) ⟨Nat.le_of_ble_eq_true rfl, Nat.le_of_ble_eq_true rfl⟩ ⟨Nat.le_of_ble_eq_true rfl, Nat.le_of_ble_eq_true rfl⟩ rfl hl.1 rfl (Nat.le_of_ble_eq_true rfl) d_q_expect_10 (fun H locs hW => ?_)
    refine lv_if_eq (tgt := 23) hx hb d_q_expect_13 (by decide) (fun c5 => ?_) (fun c5 => ?_)
    · rw [if_pos c5] at h
      refine lv_aload_n hx hb d_q_expect_23 rfl (lv_at hl 0 rfl) ?_
      replace h := bs h
      obtain ⟨w6, hw6, h⟩ := h
      refine cv_q_240 (As := []) (rest := []) hx hb hml hown hts hK hG hW (c_q_wrong l D cA base hw6) (kb_q_wrong hw6) ⟨Nat.le_of_ble_eq_true rfl, Nat.le_of_ble_eq_true rfl⟩ ⟨Nat.le_of_ble_eq_true rfl, Nat.le_of_ble_eq_true rfl⟩ rfl hl.1 rfl (Nat.le_of_ble_eq_true rfl) d_q_expect_24 (fun H locs hW => ?_)
      exact j_q_expect_27 C w6 h _ _ _ hW (lv_sub hl [] rfl)
    · rw [if_neg c5] at h
      refine lv_aload_n hx hb d_q_expect_16 rfl (lv_at hl 0 rfl) ?_
      replace h := bs h
      obtain ⟨w7, hw7, h⟩ := h
      refine cv_q_237 (As := []) (rest := []) hx hb hml hown hts hK hG hW (c_q_read l D cA base hw7) (kb_q_read hw7) ⟨Nat.le_of_ble_eq_true rfl, Nat.le_of_ble_eq_true rfl⟩ ⟨Nat.le_of_ble_eq_true rfl, Nat.le_of_ble_eq_true rfl⟩ rfl hl.1 rfl (Nat.le_of_ble_eq_true rfl) d_q_expect_17 (fun H locs hW => ?_)
      refine lv_goto (tgt := 27) hx hb d_q_expect_20 (by decide) ?_
      exact j_q_expect_27 C w7 h _ _ _ hW (lv_sub hl [] rfl)
  · rw [if_neg c2] at h
    cases h
    exact wo_vret hx hb hr hlk hW d_q_expect_7
abbrev b_q_emit : ByteArray := prog_11_method_18_code
def y_q_emit : MethodName := ⟨"AlarmForgeModel", "emit", "(III)V"⟩
def rm_q_emit : Room := { frames := 0, cells := 0, slots := 0, locals := 0 }
theorem d_q_emit_0 : decode b_q_emit 0 = .ok (.sipush (220), 3) := by decide +kernel
theorem d_q_emit_3 : decode b_q_emit 3 = .ok (.aload_n 0, 1) := by decide +kernel
theorem d_q_emit_4 : decode b_q_emit 4 = .ok (.getfield 243, 3) := by decide +kernel
theorem d_q_emit_7 : decode b_q_emit 7 = .ok (.imul, 1) := by decide +kernel
theorem d_q_emit_8 : decode b_q_emit 8 = .ok (.aload_n 0, 1) := by decide +kernel
theorem d_q_emit_9 : decode b_q_emit 9 = .ok (.getfield 69, 3) := by decide +kernel
theorem d_q_emit_12 : decode b_q_emit 12 = .ok (.aload_n 0, 1) := by decide +kernel
theorem d_q_emit_13 : decode b_q_emit 13 = .ok (.getfield 243, 3) := by decide +kernel
theorem d_q_emit_16 : decode b_q_emit 16 = .ok (.iaload, 1) := by decide +kernel
theorem d_q_emit_17 : decode b_q_emit 17 = .ok (.iadd, 1) := by decide +kernel
theorem d_q_emit_18 : decode b_q_emit 18 = .ok (.istore 4, 2) := by decide +kernel
theorem d_q_emit_20 : decode b_q_emit 20 = .ok (.aload_n 0, 1) := by decide +kernel
theorem d_q_emit_21 : decode b_q_emit 21 = .ok (.getfield 72, 3) := by decide +kernel
theorem d_q_emit_24 : decode b_q_emit 24 = .ok (.iload 4, 2) := by decide +kernel
theorem d_q_emit_26 : decode b_q_emit 26 = .ok (.iload_n 1, 1) := by decide +kernel
theorem d_q_emit_27 : decode b_q_emit 27 = .ok (.iastore, 1) := by decide +kernel
theorem d_q_emit_28 : decode b_q_emit 28 = .ok (.aload_n 0, 1) := by decide +kernel
theorem d_q_emit_29 : decode b_q_emit 29 = .ok (.getfield 75, 3) := by decide +kernel
theorem d_q_emit_32 : decode b_q_emit 32 = .ok (.iload 4, 2) := by decide +kernel
theorem d_q_emit_34 : decode b_q_emit 34 = .ok (.iload_n 2, 1) := by decide +kernel
theorem d_q_emit_35 : decode b_q_emit 35 = .ok (.iastore, 1) := by decide +kernel
theorem d_q_emit_36 : decode b_q_emit 36 = .ok (.aload_n 0, 1) := by decide +kernel
theorem d_q_emit_37 : decode b_q_emit 37 = .ok (.getfield 78, 3) := by decide +kernel
theorem d_q_emit_40 : decode b_q_emit 40 = .ok (.iload 4, 2) := by decide +kernel
theorem d_q_emit_42 : decode b_q_emit 42 = .ok (.iload_n 3, 1) := by decide +kernel
theorem d_q_emit_43 : decode b_q_emit 43 = .ok (.iastore, 1) := by decide +kernel
theorem d_q_emit_44 : decode b_q_emit 44 = .ok (.aload_n 0, 1) := by decide +kernel
theorem d_q_emit_45 : decode b_q_emit 45 = .ok (.getfield 69, 3) := by decide +kernel
theorem d_q_emit_48 : decode b_q_emit 48 = .ok (.aload_n 0, 1) := by decide +kernel
theorem d_q_emit_49 : decode b_q_emit 49 = .ok (.getfield 243, 3) := by decide +kernel
theorem d_q_emit_52 : decode b_q_emit 52 = .ok (.dup2, 1) := by decide +kernel
theorem d_q_emit_53 : decode b_q_emit 53 = .ok (.iaload, 1) := by decide +kernel
theorem d_q_emit_54 : decode b_q_emit 54 = .ok (.iconst 1, 1) := by decide +kernel
theorem d_q_emit_55 : decode b_q_emit 55 = .ok (.iadd, 1) := by decide +kernel
theorem d_q_emit_56 : decode b_q_emit 56 = .ok (.iastore, 1) := by decide +kernel
theorem d_q_emit_57 : decode b_q_emit 57 = .ok (.return_, 1) := by decide +kernel
theorem kb_q_emit {a0 : Nat} {a1 : Int32} {a2 : Int32} {a3 : Int32} {w : WW} {r : WW} (h : f_q_emit a0 a1 a2 a3 w = some r) : kb w a0 9 = true := (its h).1
set_option maxHeartbeats 4000000 in
set_option maxRecDepth 100000 in
theorem c_q_emit (l : Launch) (D : va_G) (cA : Nat → ClassId) (base : Nat) {a0 : Nat} {a1 : Int32} {a2 : Int32} {a3 : Int32} {w w' : WW} (h : f_q_emit a0 a1 a2 a3 w = some w') : mt l D cls (wo_tys cA) cA base y_q_emit (Cond.code y_q_emit b_q_emit 5 (none) :: gt) rm_q_emit [.ref (base + a0), .int a1, .int a2, .int a3] w none w' rm_q_emit.cells rm_q_emit.slots := by
  refine mt_start (by decide) (Nat.le_of_ble_eq_true rfl) ?_
  intro p e s m below meth c ls hx hb hr hml hown hts hlk hnm hK hG hW hl
  have C : cx b_q_emit (none) 5 y_q_emit.cls "emit" p s m [.ref (base + a0), .int a1, .int a2, .int a3].toArray meth c D cA base := ⟨hx, hb, hr, hml, hown, hts, hlk, hnm, hK, hG⟩
  have hl : lv_has ls 5 [(0, .ref (base + a0)), (1, .int a1), (2, .int a2), (3, .int a3)] := hl
  unfold f_q_emit at h
  replace h := its h
  obtain ⟨-, h⟩ := h
  refine lv_sipush (v := (220 : Int32)) hx hb d_q_emit_0 (by decide) ?_
  refine lv_aload_n hx hb d_q_emit_3 rfl (lv_at hl 0 rfl) ?_
  replace h := bs h
  obtain ⟨x1, hx1, h⟩ := h
  refine gf_q_243 hx hb hts hown hK hG hW (gI_s hx1) d_q_emit_4 ?_
  refine lv_imul hx hb d_q_emit_7 ?_
  refine lv_aload_n hx hb d_q_emit_8 rfl (lv_at hl 0 rfl) ?_
  replace h := bs h
  obtain ⟨x2, hx2, h⟩ := h
  refine gf_q_69 hx hb hts hown hK hG hW (gN_s hx2) d_q_emit_9 ?_
  refine lv_aload_n hx hb d_q_emit_12 rfl (lv_at hl 0 rfl) ?_
  replace h := bs h
  obtain ⟨x3, hx3, h⟩ := h
  refine gf_q_243 hx hb hts hown hK hG hW (gI_s hx3) d_q_emit_13 ?_
  replace h := bs h
  obtain ⟨x4, hx4, h⟩ := h
  refine wo_iald hx hb hK hW (t := 0) rfl hx4 d_q_emit_16 ?_
  refine lv_iadd hx hb d_q_emit_17 ?_
  refine lv_istore (lv' := [(4, .int (((220 : Int32) * x1) + x4)), (0, .ref (base + a0)), (1, .int a1), (2, .int a2), (3, .int a3)]) hx hb d_q_emit_18 hl (by decide) rfl (fun ls hl => ?_)
  refine lv_aload_n hx hb d_q_emit_20 rfl (lv_at hl 1 rfl) ?_
  replace h := bs h
  obtain ⟨x5, hx5, h⟩ := h
  refine gf_q_72 hx hb hts hown hK hG hW (gN_s hx5) d_q_emit_21 ?_
  refine lv_iload hx hb d_q_emit_24 (lv_at hl 0 rfl) ?_
  refine lv_iload_n hx hb d_q_emit_26 rfl (lv_at hl 2 rfl) ?_
  replace h := bs h
  obtain ⟨w6, hw6, h⟩ := h
  refine wo_iast hx hb hK hW (t := 0) rfl hw6 d_q_emit_27 (fun H locs hW => ?_)
  refine lv_aload_n hx hb d_q_emit_28 rfl (lv_at hl 1 rfl) ?_
  replace h := bs h
  obtain ⟨x7, hx7, h⟩ := h
  refine gf_q_75 hx hb hts hown hK hG hW (gN_s hx7) d_q_emit_29 ?_
  refine lv_iload hx hb d_q_emit_32 (lv_at hl 0 rfl) ?_
  refine lv_iload_n hx hb d_q_emit_34 rfl (lv_at hl 3 rfl) ?_
  replace h := bs h
  obtain ⟨w8, hw8, h⟩ := h
  refine wo_iast hx hb hK hW (t := 0) rfl hw8 d_q_emit_35 (fun H locs hW => ?_)
  refine lv_aload_n hx hb d_q_emit_36 rfl (lv_at hl 1 rfl) ?_
  replace h := bs h
  obtain ⟨x9, hx9, h⟩ := h
  refine gf_q_78 hx hb hts hown hK hG hW (gN_s hx9) d_q_emit_37 ?_
  refine lv_iload hx hb d_q_emit_40 (lv_at hl 0 rfl) ?_
  refine lv_iload_n hx hb d_q_emit_42 rfl (lv_at hl 4 rfl) ?_
  replace h := bs h
  obtain ⟨w10, hw10, h⟩ := h
  refine wo_iast hx hb hK hW (t := 0) rfl hw10 d_q_emit_43 (fun H locs hW => ?_)
  refine lv_aload_n hx hb d_q_emit_44 rfl (lv_at hl 1 rfl) ?_
  replace h := bs h
  obtain ⟨x11, hx11, h⟩ := h
  refine gf_q_69 hx hb hts hown hK hG hW (gN_s hx11) d_q_emit_45 ?_
  refine lv_aload_n hx hb d_q_emit_48 rfl (lv_at hl 1 rfl) ?_
  replace h := bs h
  obtain ⟨x12, hx12, h⟩ := h
  refine gf_q_243 hx hb hts hown hK hG hW (gI_s hx12) d_q_emit_49 ?_
  refine lv_dup2_11 hx hb d_q_emit_52 rfl rfl ?_
  replace h := bs h
  obtain ⟨x13, hx13, h⟩ := h
  refine wo_iald hx hb hK hW (t := 0) rfl hx13 d_q_emit_53 ?_
  refine lv_iconst (v := (1 : Int32)) hx hb d_q_emit_54 (by decide) ?_
  refine lv_iadd hx hb d_q_emit_55 ?_
  replace h := bs h
  obtain ⟨w14, hw14, h⟩ := h
  refine wo_iast hx hb hK hW (t := 0) rfl hw14 d_q_emit_56 (fun H locs hW => ?_)
  cases h
  exact wo_vret hx hb hr hlk hW d_q_emit_57
theorem cv_q_258 {p : Program} {l : Launch} {e : Env} {R : Room} {s : State} {m : MethodId} {args : Array Value} {below : List Frame} {meth : Method} {c : Code} {H : Heap} {locs : List Loc} {cells slots : Nat} {Q : State → Prop} {D : va_G} {cA : Nat → ClassId} {base : Nat} {w w' : WW} {cc : ByteArray} {pc nL : Nat} {ls : Array Slot} {rest st0 As : List Value} {ov : Option Value} {b : Nat} (hx : p.tables.exec = Jvm.exec) (hb : c.code = cc) (hml : c.maxLocals = nL) (hown : s.vm.findClass Rc_q = some m.cls) (hts : ∀ w ∈ gt, w.before args s = true) (hK : va_K D cls (wo_tys cA) s) (hG : wo_G cA base s) (hW : wo_S D cls cA base s w H locs) (hM : mt l D cls (wo_tys cA) cA base y_q_emit (Cond.code y_q_emit b_q_emit 5 (none) :: gt) rm_q_emit (.ref (base + b) :: As) w ov w' rm_q_emit.cells rm_q_emit.slots) (hkb : kb w b 9 = true) (hR : rm_q_emit.frames + 1 ≤ R.frames ∧ 8 + (5 + 11) + rm_q_emit.locals ≤ R.locals) (hf : cells + rm_q_emit.cells ≤ R.cells ∧ slots + rm_q_emit.slots ≤ R.slots) (hn : As.length = 3) (hsz : ls.size = nL) (hst : st0 = As.reverse ++ .ref (base + b) :: rest) (hcat : (rest.map fun v => v.category).sum ≤ 8) (hdg : decode cc pc = .ok (.invokevirtual 258, 3)) (kk : ∀ (H1 : Heap) (locs1 : List Loc), wo_S D cls cA base s w' H1 locs1 → W p l e R s m args below meth c H1 locs1 (cells + rm_q_emit.cells) (slots + rm_q_emit.slots) Q (F0 m (pc + 3) ls (ov.toList ++ rest))) : W p l e R s m args below meth c H locs cells slots Q (F0 m pc ls st0) :=
  wo_callV (C := Rc_q) hx hb hml hown hts hK hG hW hM hkb rfl (gt_of (i := 1472) (by decide +kernel) (by decide +kernel)) (gt_of (i := 1474) (by decide +kernel) (by decide +kernel)) (gt_sel (i := 73) (by decide +kernel) (by decide +kernel)) (gt_of (i := 10) (by decide +kernel) (by decide +kernel)) (gt_of (i := 1475) (by decide +kernel) (by decide +kernel)) (by decide +kernel) hR hf hn hsz hst hcat hdg kk
abbrev b_q_leaf : ByteArray := prog_11_method_24_code
def y_q_leaf : MethodName := ⟨"AlarmForgeModel", "leaf", "(I)V"⟩
def rm_q_leaf : Room := { frames := 4, cells := 0, slots := 0, locals := 94 }
theorem d_q_leaf_0 : decode b_q_leaf 0 = .ok (.aload_n 0, 1) := by decide +kernel
theorem d_q_leaf_1 : decode b_q_leaf 1 = .ok (.iload_n 1, 1) := by decide +kernel
theorem d_q_leaf_2 : decode b_q_leaf 2 = .ok (.aload_n 0, 1) := by decide +kernel
theorem d_q_leaf_3 : decode b_q_leaf 3 = .ok (.getfield 198, 3) := by decide +kernel
theorem d_q_leaf_6 : decode b_q_leaf 6 = .ok (.aload_n 0, 1) := by decide +kernel
theorem d_q_leaf_7 : decode b_q_leaf 7 = .ok (.getfield 181, 3) := by decide +kernel
theorem d_q_leaf_10 : decode b_q_leaf 10 = .ok (.invokevirtual 258, 3) := by decide +kernel
theorem d_q_leaf_13 : decode b_q_leaf 13 = .ok (.aload_n 0, 1) := by decide +kernel
theorem d_q_leaf_14 : decode b_q_leaf 14 = .ok (.getfield 99, 3) := by decide +kernel
theorem d_q_leaf_17 : decode b_q_leaf 17 = .ok (.aload_n 0, 1) := by decide +kernel
theorem d_q_leaf_18 : decode b_q_leaf 18 = .ok (.getfield 262, 3) := by decide +kernel
theorem d_q_leaf_21 : decode b_q_leaf 21 = .ok (.iconst 1, 1) := by decide +kernel
theorem d_q_leaf_22 : decode b_q_leaf 22 = .ok (.iastore, 1) := by decide +kernel
theorem d_q_leaf_23 : decode b_q_leaf 23 = .ok (.aload_n 0, 1) := by decide +kernel
theorem d_q_leaf_24 : decode b_q_leaf 24 = .ok (.dup, 1) := by decide +kernel
theorem d_q_leaf_25 : decode b_q_leaf 25 = .ok (.getfield 262, 3) := by decide +kernel
theorem d_q_leaf_28 : decode b_q_leaf 28 = .ok (.iconst 1, 1) := by decide +kernel
theorem d_q_leaf_29 : decode b_q_leaf 29 = .ok (.iadd, 1) := by decide +kernel
theorem d_q_leaf_30 : decode b_q_leaf 30 = .ok (.putfield 262, 3) := by decide +kernel
theorem d_q_leaf_33 : decode b_q_leaf 33 = .ok (.aload_n 0, 1) := by decide +kernel
theorem d_q_leaf_34 : decode b_q_leaf 34 = .ok (.invokevirtual 237, 3) := by decide +kernel
theorem d_q_leaf_37 : decode b_q_leaf 37 = .ok (.return_, 1) := by decide +kernel
theorem kb_q_leaf {a0 : Nat} {a1 : Int32} {w : WW} {r : WW} (h : f_q_leaf a0 a1 w = some r) : kb w a0 9 = true := (its h).1
set_option maxHeartbeats 4000000 in
set_option maxRecDepth 100000 in
theorem c_q_leaf (l : Launch) (D : va_G) (cA : Nat → ClassId) (base : Nat) {a0 : Nat} {a1 : Int32} {w w' : WW} (h : f_q_leaf a0 a1 w = some w') : mt l D cls (wo_tys cA) cA base y_q_leaf (Cond.code y_q_leaf b_q_leaf 2 (none) :: gt) rm_q_leaf [.ref (base + a0), .int a1] w none w' rm_q_leaf.cells rm_q_leaf.slots := by
  refine mt_start (by decide) (Nat.le_of_ble_eq_true rfl) ?_
  intro p e s m below meth c ls hx hb hr hml hown hts hlk hnm hK hG hW hl
  have C : cx b_q_leaf (none) 2 y_q_leaf.cls "leaf" p s m [.ref (base + a0), .int a1].toArray meth c D cA base := ⟨hx, hb, hr, hml, hown, hts, hlk, hnm, hK, hG⟩
  have hl : lv_has ls 2 [(0, .ref (base + a0)), (1, .int a1)] := hl
  unfold f_q_leaf at h
  replace h := its h
  obtain ⟨-, h⟩ := h
  refine lv_aload_n hx hb d_q_leaf_0 rfl (lv_at hl 0 rfl) ?_
  refine lv_iload_n hx hb d_q_leaf_1 rfl (lv_at hl 1 rfl) ?_
  refine lv_aload_n hx hb d_q_leaf_2 rfl (lv_at hl 0 rfl) ?_
  replace h := bs h
  obtain ⟨x1, hx1, h⟩ := h
  refine gf_q_198 hx hb hts hown hK hG hW (gI_s hx1) d_q_leaf_3 ?_
  refine lv_aload_n hx hb d_q_leaf_6 rfl (lv_at hl 0 rfl) ?_
  replace h := bs h
  obtain ⟨x2, hx2, h⟩ := h
  refine gf_q_181 hx hb hts hown hK hG hW (gI_s hx2) d_q_leaf_7 ?_
  replace h := bs h
  obtain ⟨w3, hw3, h⟩ := h
  refine cv_q_258 (As := [.int a1, .int x1, .int x2]) (rest := []) hx hb hml hown hts hK hG hW (c_q_emit l D cA base hw3) (kb_q_emit hw3) ⟨Nat.le_of_ble_eq_true rfl, Nat.le_of_ble_eq_true rfl⟩ ⟨Nat.le_of_ble_eq_true rfl, Nat.le_of_ble_eq_true rfl⟩ rfl hl.1 rfl (Nat.le_of_ble_eq_true rfl) d_q_leaf_10 (fun H locs hW => ?_)
  refine lv_aload_n hx hb d_q_leaf_13 rfl (lv_at hl 0 rfl) ?_
  replace h := bs h
  obtain ⟨x4, hx4, h⟩ := h
  refine gf_q_99 hx hb hts hown hK hG hW (gN_s hx4) d_q_leaf_14 ?_
  refine lv_aload_n hx hb d_q_leaf_17 rfl (lv_at hl 0 rfl) ?_
  replace h := bs h
  obtain ⟨x5, hx5, h⟩ := h
  refine gf_q_262 hx hb hts hown hK hG hW (gI_s hx5) d_q_leaf_18 ?_
  refine lv_iconst (v := (1 : Int32)) hx hb d_q_leaf_21 (by decide) ?_
  replace h := bs h
  obtain ⟨w6, hw6, h⟩ := h
  refine wo_iast hx hb hK hW (t := 0) rfl hw6 d_q_leaf_22 (fun H locs hW => ?_)
  refine lv_aload_n hx hb d_q_leaf_23 rfl (lv_at hl 0 rfl) ?_
  refine lv_dup hx hb d_q_leaf_24 rfl ?_
  replace h := bs h
  obtain ⟨x7, hx7, h⟩ := h
  refine gf_q_262 hx hb hts hown hK hG hW (gI_s hx7) d_q_leaf_25 ?_
  refine lv_iconst (v := (1 : Int32)) hx hb d_q_leaf_28 (by decide) ?_
  refine lv_iadd hx hb d_q_leaf_29 ?_
  replace h := bs h
  obtain ⟨w8, hw8, h⟩ := h
  refine pf_q_262 hx hb hts hown hK hG hW rfl rfl (pbi hw8 rfl) d_q_leaf_30 (fun H locs hW => ?_)
  refine lv_aload_n hx hb d_q_leaf_33 rfl (lv_at hl 0 rfl) ?_
  replace h := bs h
  obtain ⟨w9, hw9, h⟩ := h
  refine cv_q_237 (As := []) (rest := []) hx hb hml hown hts hK hG hW (c_q_read l D cA base hw9) (kb_q_read hw9) ⟨Nat.le_of_ble_eq_true rfl, Nat.le_of_ble_eq_true rfl⟩ ⟨Nat.le_of_ble_eq_true rfl, Nat.le_of_ble_eq_true rfl⟩ rfl hl.1 rfl (Nat.le_of_ble_eq_true rfl) d_q_leaf_34 (fun H locs hW => ?_)
  cases h
  exact wo_vret hx hb hr hlk hW d_q_leaf_37
abbrev b_q_opposites : ByteArray := prog_11_method_23_code
def y_q_opposites : MethodName := ⟨"AlarmForgeModel", "opposites", "()V"⟩
def rm_q_opposites : Room := { frames := 1, cells := 0, slots := 0, locals := 24 }
theorem d_q_opposites_0 : decode b_q_opposites 0 = .ok (.aload_n 0, 1) := by decide +kernel
theorem d_q_opposites_1 : decode b_q_opposites 1 = .ok (.getfield 246, 3) := by decide +kernel
theorem d_q_opposites_4 : decode b_q_opposites 4 = .ok (.ifCond .le (71), 3) := by decide +kernel
theorem d_q_opposites_7 : decode b_q_opposites 7 = .ok (.aload_n 0, 1) := by decide +kernel
theorem d_q_opposites_8 : decode b_q_opposites 8 = .ok (.getfield 90, 3) := by decide +kernel
theorem d_q_opposites_11 : decode b_q_opposites 11 = .ok (.aload_n 0, 1) := by decide +kernel
theorem d_q_opposites_12 : decode b_q_opposites 12 = .ok (.getfield 246, 3) := by decide +kernel
theorem d_q_opposites_15 : decode b_q_opposites 15 = .ok (.iconst 1, 1) := by decide +kernel
theorem d_q_opposites_16 : decode b_q_opposites 16 = .ok (.isub, 1) := by decide +kernel
theorem d_q_opposites_17 : decode b_q_opposites 17 = .ok (.iaload, 1) := by decide +kernel
theorem d_q_opposites_18 : decode b_q_opposites 18 = .ok (.iconst 3, 1) := by decide +kernel
theorem d_q_opposites_19 : decode b_q_opposites 19 = .ok (.if_icmp .ne (56), 3) := by decide +kernel
theorem d_q_opposites_22 : decode b_q_opposites 22 = .ok (.aload_n 0, 1) := by decide +kernel
theorem d_q_opposites_23 : decode b_q_opposites 23 = .ok (.dup, 1) := by decide +kernel
theorem d_q_opposites_24 : decode b_q_opposites 24 = .ok (.getfield 246, 3) := by decide +kernel
theorem d_q_opposites_27 : decode b_q_opposites 27 = .ok (.iconst 1, 1) := by decide +kernel
theorem d_q_opposites_28 : decode b_q_opposites 28 = .ok (.isub, 1) := by decide +kernel
theorem d_q_opposites_29 : decode b_q_opposites 29 = .ok (.putfield 246, 3) := by decide +kernel
theorem d_q_opposites_32 : decode b_q_opposites 32 = .ok (.aload_n 0, 1) := by decide +kernel
theorem d_q_opposites_33 : decode b_q_opposites 33 = .ok (.dup, 1) := by decide +kernel
theorem d_q_opposites_34 : decode b_q_opposites 34 = .ok (.getfield 249, 3) := by decide +kernel
theorem d_q_opposites_37 : decode b_q_opposites 37 = .ok (.iconst 1, 1) := by decide +kernel
theorem d_q_opposites_38 : decode b_q_opposites 38 = .ok (.isub, 1) := by decide +kernel
theorem d_q_opposites_39 : decode b_q_opposites 39 = .ok (.putfield 249, 3) := by decide +kernel
theorem d_q_opposites_42 : decode b_q_opposites 42 = .ok (.aload_n 0, 1) := by decide +kernel
theorem d_q_opposites_43 : decode b_q_opposites 43 = .ok (.iconst 4, 1) := by decide +kernel
theorem d_q_opposites_44 : decode b_q_opposites 44 = .ok (.iconst 0, 1) := by decide +kernel
theorem d_q_opposites_45 : decode b_q_opposites 45 = .ok (.aload_n 0, 1) := by decide +kernel
theorem d_q_opposites_46 : decode b_q_opposites 46 = .ok (.getfield 93, 3) := by decide +kernel
theorem d_q_opposites_49 : decode b_q_opposites 49 = .ok (.aload_n 0, 1) := by decide +kernel
theorem d_q_opposites_50 : decode b_q_opposites 50 = .ok (.getfield 246, 3) := by decide +kernel
theorem d_q_opposites_53 : decode b_q_opposites 53 = .ok (.iaload, 1) := by decide +kernel
theorem d_q_opposites_54 : decode b_q_opposites 54 = .ok (.invokevirtual 258, 3) := by decide +kernel
theorem d_q_opposites_57 : decode b_q_opposites 57 = .ok (.aload_n 0, 1) := by decide +kernel
theorem d_q_opposites_58 : decode b_q_opposites 58 = .ok (.getfield 99, 3) := by decide +kernel
theorem d_q_opposites_61 : decode b_q_opposites 61 = .ok (.aload_n 0, 1) := by decide +kernel
theorem d_q_opposites_62 : decode b_q_opposites 62 = .ok (.getfield 262, 3) := by decide +kernel
theorem d_q_opposites_65 : decode b_q_opposites 65 = .ok (.iconst 1, 1) := by decide +kernel
theorem d_q_opposites_66 : decode b_q_opposites 66 = .ok (.isub, 1) := by decide +kernel
theorem d_q_opposites_67 : decode b_q_opposites 67 = .ok (.dup2, 1) := by decide +kernel
theorem d_q_opposites_68 : decode b_q_opposites 68 = .ok (.iaload, 1) := by decide +kernel
theorem d_q_opposites_69 : decode b_q_opposites 69 = .ok (.iconst 1, 1) := by decide +kernel
theorem d_q_opposites_70 : decode b_q_opposites 70 = .ok (.iadd, 1) := by decide +kernel
theorem d_q_opposites_71 : decode b_q_opposites 71 = .ok (.iastore, 1) := by decide +kernel
theorem d_q_opposites_72 : decode b_q_opposites 72 = .ok (.goto (-72), 3) := by decide +kernel
theorem d_q_opposites_75 : decode b_q_opposites 75 = .ok (.return_, 1) := by decide +kernel
theorem kb_q_opposites {a0 : Nat}  {w : WW} {r : WW} (h : f_q_opposites a0 w = some r) : kb w a0 9 = true := (its h).1
set_option maxHeartbeats 4000000 in
set_option maxRecDepth 100000 in
theorem j_q_opposites_75 {p : Program} {l : Launch} {e : Env} {s : State} {m : MethodId} {args : Array Value} {below : List Frame} {meth : Method} {c : Code} {D : va_G} {cA : Nat → ClassId} {base : Nat} {w' : WW} (C : cx b_q_opposites (none) 1 y_q_opposites.cls "opposites" p s m args meth c D cA base)   : ∀  (w : WW), f_q_opposites_75  w = some w' → ∀ (H : Heap) (locs : List Loc) (ls : Array Slot), wo_S D cls cA base s w H locs → lv_has ls 1 [] → W p l e rm_q_opposites s m args below meth c H locs 0 0 (MQ below (wo_Q D cls cA base none w') args s rm_q_opposites.cells rm_q_opposites.slots (wo_B base)) (F0 m 75 ls []) := by
  obtain ⟨hx, hb, hr, hml, hown, hts, hlk, hnm, hK, hG⟩ := id C
  intro  w h H locs ls hW hl
  unfold f_q_opposites_75 at h
  cases h
  exact wo_vret hx hb hr hlk hW d_q_opposites_75
set_option maxHeartbeats 4000000 in
set_option maxRecDepth 100000 in
theorem j_q_opposites_0 {p : Program} {l : Launch} {e : Env} {s : State} {m : MethodId} {args : Array Value} {below : List Frame} {meth : Method} {c : Code} {D : va_G} {cA : Nat → ClassId} {base : Nat} {w' : WW} (C : cx b_q_opposites (none) 1 y_q_opposites.cls "opposites" p s m args meth c D cA base)   : ∀ n : Nat, ∀ (y0 : Nat) (w : WW), f_q_opposites_0 n y0 w = some w' → ∀ (H : Heap) (locs : List Loc) (ls : Array Slot), wo_S D cls cA base s w H locs → lv_has ls 1 [(0, .ref (base + y0))] → W p l e rm_q_opposites s m args below meth c H locs 0 0 (MQ below (wo_Q D cls cA base none w') args s rm_q_opposites.cells rm_q_opposites.slots (wo_B base)) (F0 m 0 ls []) := by
  obtain ⟨hx, hb, hr, hml, hown, hts, hlk, hnm, hK, hG⟩ := id C
  intro n
  induction n with
  | zero => intro y0 w h; cases h
  | succ n ih =>
    intro y0 w h H locs ls hW hl
    rw [f_q_opposites_0] at h
    refine lv_aload_n hx hb d_q_opposites_0 rfl (lv_at hl 0 rfl) ?_
    replace h := bs h
    obtain ⟨x1, hx1, h⟩ := h
    refine gf_q_246 hx hb hts hown hK hG hW (gI_s hx1) d_q_opposites_1 ?_
    refine lv_if_le (tgt := 75) hx hb d_q_opposites_4 (by decide) (fun c2 => ?_) (fun c2 => ?_)
    · rw [if_pos c2] at h
      exact j_q_opposites_75 C w h _ _ _ hW (lv_sub hl [] rfl)
    · rw [if_neg c2] at h
      refine lv_aload_n hx hb d_q_opposites_7 rfl (lv_at hl 0 rfl) ?_
      replace h := bs h
      obtain ⟨x3, hx3, h⟩ := h
      refine gf_q_90 hx hb hts hown hK hG hW (gN_s hx3) d_q_opposites_8 ?_
      refine lv_aload_n hx hb d_q_opposites_11 rfl (lv_at hl 0 rfl) ?_
      replace h := bs h
      obtain ⟨x4, hx4, h⟩ := h
      refine gf_q_246 hx hb hts hown hK hG hW (gI_s hx4) d_q_opposites_12 ?_
      refine lv_iconst (v := (1 : Int32)) hx hb d_q_opposites_15 (by decide) ?_
      refine lv_isub hx hb d_q_opposites_16 ?_
      replace h := bs h
      obtain ⟨x5, hx5, h⟩ := h
      refine wo_iald hx hb hK hW (t := 0) rfl hx5 d_q_opposites_17 ?_
      refine lv_iconst (v := (3 : Int32)) hx hb d_q_opposites_18 (by decide) ?_
      refine lv_icmp_ne (tgt := 75) hx hb d_q_opposites_19 (by decide) (fun c6 => ?_) (fun c6 => ?_)
      · rw [if_neg c6] at h
        exact j_q_opposites_75 C w h _ _ _ hW (lv_sub hl [] rfl)
      · rw [if_pos c6] at h
        refine lv_aload_n hx hb d_q_opposites_22 rfl (lv_at hl 0 rfl) ?_
        refine lv_dup hx hb d_q_opposites_23 rfl ?_
        replace h := bs h
        obtain ⟨x7, hx7, h⟩ := h
        refine gf_q_246 hx hb hts hown hK hG hW (gI_s hx7) d_q_opposites_24 ?_
        refine lv_iconst (v := (1 : Int32)) hx hb d_q_opposites_27 (by decide) ?_
        refine lv_isub hx hb d_q_opposites_28 ?_
        replace h := bs h
        obtain ⟨w8, hw8, h⟩ := h
        refine pf_q_246 hx hb hts hown hK hG hW rfl rfl (pbi hw8 rfl) d_q_opposites_29 (fun H locs hW => ?_)
        refine lv_aload_n hx hb d_q_opposites_32 rfl (lv_at hl 0 rfl) ?_
        refine lv_dup hx hb d_q_opposites_33 rfl ?_
        replace h := bs h
        obtain ⟨x9, hx9, h⟩ := h
        refine gf_q_249 hx hb hts hown hK hG hW (gI_s hx9) d_q_opposites_34 ?_
        refine lv_iconst (v := (1 : Int32)) hx hb d_q_opposites_37 (by decide) ?_
        refine lv_isub hx hb d_q_opposites_38 ?_
        replace h := bs h
        obtain ⟨w10, hw10, h⟩ := h
        refine pf_q_249 hx hb hts hown hK hG hW rfl rfl (pbi hw10 rfl) d_q_opposites_39 (fun H locs hW => ?_)
        refine lv_aload_n hx hb d_q_opposites_42 rfl (lv_at hl 0 rfl) ?_
        refine lv_iconst (v := (4 : Int32)) hx hb d_q_opposites_43 (by decide) ?_
        refine lv_iconst (v := (0 : Int32)) hx hb d_q_opposites_44 (by decide) ?_
        refine lv_aload_n hx hb d_q_opposites_45 rfl (lv_at hl 0 rfl) ?_
        replace h := bs h
        obtain ⟨x11, hx11, h⟩ := h
        refine gf_q_93 hx hb hts hown hK hG hW (gN_s hx11) d_q_opposites_46 ?_
        refine lv_aload_n hx hb d_q_opposites_49 rfl (lv_at hl 0 rfl) ?_
        replace h := bs h
        obtain ⟨x12, hx12, h⟩ := h
        refine gf_q_246 hx hb hts hown hK hG hW (gI_s hx12) d_q_opposites_50 ?_
        replace h := bs h
        obtain ⟨x13, hx13, h⟩ := h
        refine wo_iald hx hb hK hW (t := 0) rfl hx13 d_q_opposites_53 ?_
        replace h := bs h
        obtain ⟨w14, hw14, h⟩ := h
        refine cv_q_258 (As := [.int (4 : Int32), .int (0 : Int32), .int x13]) (rest := []) hx hb hml hown hts hK hG hW (c_q_emit l D cA base hw14) (kb_q_emit hw14) ⟨Nat.le_of_ble_eq_true rfl, Nat.le_of_ble_eq_true rfl⟩ ⟨Nat.le_of_ble_eq_true rfl, Nat.le_of_ble_eq_true rfl⟩ rfl hl.1 rfl (Nat.le_of_ble_eq_true rfl) d_q_opposites_54 (fun H locs hW => ?_)
        refine lv_aload_n hx hb d_q_opposites_57 rfl (lv_at hl 0 rfl) ?_
        replace h := bs h
        obtain ⟨x15, hx15, h⟩ := h
        refine gf_q_99 hx hb hts hown hK hG hW (gN_s hx15) d_q_opposites_58 ?_
        refine lv_aload_n hx hb d_q_opposites_61 rfl (lv_at hl 0 rfl) ?_
        replace h := bs h
        obtain ⟨x16, hx16, h⟩ := h
        refine gf_q_262 hx hb hts hown hK hG hW (gI_s hx16) d_q_opposites_62 ?_
        refine lv_iconst (v := (1 : Int32)) hx hb d_q_opposites_65 (by decide) ?_
        refine lv_isub hx hb d_q_opposites_66 ?_
        refine lv_dup2_11 hx hb d_q_opposites_67 rfl rfl ?_
        replace h := bs h
        obtain ⟨x17, hx17, h⟩ := h
        refine wo_iald hx hb hK hW (t := 0) rfl hx17 d_q_opposites_68 ?_
        refine lv_iconst (v := (1 : Int32)) hx hb d_q_opposites_69 (by decide) ?_
        refine lv_iadd hx hb d_q_opposites_70 ?_
        replace h := bs h
        obtain ⟨w18, hw18, h⟩ := h
        refine wo_iast hx hb hK hW (t := 0) rfl hw18 d_q_opposites_71 (fun H locs hW => ?_)
        refine lv_goto (tgt := 0) hx hb d_q_opposites_72 (by decide) ?_
        exact ih y0 w18 h _ _ _ hW (lv_sub hl [0] rfl)
set_option maxHeartbeats 4000000 in
set_option maxRecDepth 100000 in
theorem c_q_opposites (l : Launch) (D : va_G) (cA : Nat → ClassId) (base : Nat) {a0 : Nat} {w w' : WW} (h : f_q_opposites a0 w = some w') : mt l D cls (wo_tys cA) cA base y_q_opposites (Cond.code y_q_opposites b_q_opposites 1 (none) :: gt) rm_q_opposites [.ref (base + a0)] w none w' rm_q_opposites.cells rm_q_opposites.slots := by
  refine mt_start (by decide) (Nat.le_of_ble_eq_true rfl) ?_
  intro p e s m below meth c ls hx hb hr hml hown hts hlk hnm hK hG hW hl
  have C : cx b_q_opposites (none) 1 y_q_opposites.cls "opposites" p s m [.ref (base + a0)].toArray meth c D cA base := ⟨hx, hb, hr, hml, hown, hts, hlk, hnm, hK, hG⟩
  have hl : lv_has ls 1 [(0, .ref (base + a0))] := hl
  unfold f_q_opposites at h
  replace h := its h
  obtain ⟨-, h⟩ := h
  exact j_q_opposites_0 C KK a0 w h _ _ _ hW (lv_sub hl [0] rfl)
abbrev b_q_push : ByteArray := prog_11_method_19_code
def y_q_push : MethodName := ⟨"AlarmForgeModel", "push", "(III)V"⟩
def rm_q_push : Room := { frames := 0, cells := 0, slots := 0, locals := 0 }
theorem d_q_push_0 : decode b_q_push 0 = .ok (.aload_n 0, 1) := by decide +kernel
theorem d_q_push_1 : decode b_q_push 1 = .ok (.getfield 90, 3) := by decide +kernel
theorem d_q_push_4 : decode b_q_push 4 = .ok (.aload_n 0, 1) := by decide +kernel
theorem d_q_push_5 : decode b_q_push 5 = .ok (.getfield 246, 3) := by decide +kernel
theorem d_q_push_8 : decode b_q_push 8 = .ok (.iload_n 1, 1) := by decide +kernel
theorem d_q_push_9 : decode b_q_push 9 = .ok (.iastore, 1) := by decide +kernel
theorem d_q_push_10 : decode b_q_push 10 = .ok (.aload_n 0, 1) := by decide +kernel
theorem d_q_push_11 : decode b_q_push 11 = .ok (.getfield 96, 3) := by decide +kernel
theorem d_q_push_14 : decode b_q_push 14 = .ok (.aload_n 0, 1) := by decide +kernel
theorem d_q_push_15 : decode b_q_push 15 = .ok (.getfield 246, 3) := by decide +kernel
theorem d_q_push_18 : decode b_q_push 18 = .ok (.iload_n 2, 1) := by decide +kernel
theorem d_q_push_19 : decode b_q_push 19 = .ok (.iastore, 1) := by decide +kernel
theorem d_q_push_20 : decode b_q_push 20 = .ok (.aload_n 0, 1) := by decide +kernel
theorem d_q_push_21 : decode b_q_push 21 = .ok (.getfield 93, 3) := by decide +kernel
theorem d_q_push_24 : decode b_q_push 24 = .ok (.aload_n 0, 1) := by decide +kernel
theorem d_q_push_25 : decode b_q_push 25 = .ok (.getfield 246, 3) := by decide +kernel
theorem d_q_push_28 : decode b_q_push 28 = .ok (.iload_n 3, 1) := by decide +kernel
theorem d_q_push_29 : decode b_q_push 29 = .ok (.iastore, 1) := by decide +kernel
theorem d_q_push_30 : decode b_q_push 30 = .ok (.aload_n 0, 1) := by decide +kernel
theorem d_q_push_31 : decode b_q_push 31 = .ok (.dup, 1) := by decide +kernel
theorem d_q_push_32 : decode b_q_push 32 = .ok (.getfield 246, 3) := by decide +kernel
theorem d_q_push_35 : decode b_q_push 35 = .ok (.iconst 1, 1) := by decide +kernel
theorem d_q_push_36 : decode b_q_push 36 = .ok (.iadd, 1) := by decide +kernel
theorem d_q_push_37 : decode b_q_push 37 = .ok (.putfield 246, 3) := by decide +kernel
theorem d_q_push_40 : decode b_q_push 40 = .ok (.iload_n 1, 1) := by decide +kernel
theorem d_q_push_41 : decode b_q_push 41 = .ok (.iconst 4, 1) := by decide +kernel
theorem d_q_push_42 : decode b_q_push 42 = .ok (.if_icmp .ge (13), 3) := by decide +kernel
theorem d_q_push_45 : decode b_q_push 45 = .ok (.aload_n 0, 1) := by decide +kernel
theorem d_q_push_46 : decode b_q_push 46 = .ok (.dup, 1) := by decide +kernel
theorem d_q_push_47 : decode b_q_push 47 = .ok (.getfield 249, 3) := by decide +kernel
theorem d_q_push_50 : decode b_q_push 50 = .ok (.iconst 1, 1) := by decide +kernel
theorem d_q_push_51 : decode b_q_push 51 = .ok (.iadd, 1) := by decide +kernel
theorem d_q_push_52 : decode b_q_push 52 = .ok (.putfield 249, 3) := by decide +kernel
theorem d_q_push_55 : decode b_q_push 55 = .ok (.return_, 1) := by decide +kernel
theorem kb_q_push {a0 : Nat} {a1 : Int32} {a2 : Int32} {a3 : Int32} {w : WW} {r : WW} (h : f_q_push a0 a1 a2 a3 w = some r) : kb w a0 9 = true := (its h).1
set_option maxHeartbeats 4000000 in
set_option maxRecDepth 100000 in
theorem j_q_push_55 {p : Program} {l : Launch} {e : Env} {s : State} {m : MethodId} {args : Array Value} {below : List Frame} {meth : Method} {c : Code} {D : va_G} {cA : Nat → ClassId} {base : Nat} {w' : WW} (C : cx b_q_push (none) 4 y_q_push.cls "push" p s m args meth c D cA base)   : ∀  (w : WW), f_q_push_55  w = some w' → ∀ (H : Heap) (locs : List Loc) (ls : Array Slot), wo_S D cls cA base s w H locs → lv_has ls 4 [] → W p l e rm_q_push s m args below meth c H locs 0 0 (MQ below (wo_Q D cls cA base none w') args s rm_q_push.cells rm_q_push.slots (wo_B base)) (F0 m 55 ls []) := by
  obtain ⟨hx, hb, hr, hml, hown, hts, hlk, hnm, hK, hG⟩ := id C
  intro  w h H locs ls hW hl
  unfold f_q_push_55 at h
  cases h
  exact wo_vret hx hb hr hlk hW d_q_push_55
set_option maxHeartbeats 4000000 in
set_option maxRecDepth 100000 in
theorem c_q_push (l : Launch) (D : va_G) (cA : Nat → ClassId) (base : Nat) {a0 : Nat} {a1 : Int32} {a2 : Int32} {a3 : Int32} {w w' : WW} (h : f_q_push a0 a1 a2 a3 w = some w') : mt l D cls (wo_tys cA) cA base y_q_push (Cond.code y_q_push b_q_push 4 (none) :: gt) rm_q_push [.ref (base + a0), .int a1, .int a2, .int a3] w none w' rm_q_push.cells rm_q_push.slots := by
  refine mt_start (by decide) (Nat.le_of_ble_eq_true rfl) ?_
  intro p e s m below meth c ls hx hb hr hml hown hts hlk hnm hK hG hW hl
  have C : cx b_q_push (none) 4 y_q_push.cls "push" p s m [.ref (base + a0), .int a1, .int a2, .int a3].toArray meth c D cA base := ⟨hx, hb, hr, hml, hown, hts, hlk, hnm, hK, hG⟩
  have hl : lv_has ls 4 [(0, .ref (base + a0)), (1, .int a1), (2, .int a2), (3, .int a3)] := hl
  unfold f_q_push at h
  replace h := its h
  obtain ⟨-, h⟩ := h
  refine lv_aload_n hx hb d_q_push_0 rfl (lv_at hl 0 rfl) ?_
  replace h := bs h
  obtain ⟨x1, hx1, h⟩ := h
  refine gf_q_90 hx hb hts hown hK hG hW (gN_s hx1) d_q_push_1 ?_
  refine lv_aload_n hx hb d_q_push_4 rfl (lv_at hl 0 rfl) ?_
  replace h := bs h
  obtain ⟨x2, hx2, h⟩ := h
  refine gf_q_246 hx hb hts hown hK hG hW (gI_s hx2) d_q_push_5 ?_
  refine lv_iload_n hx hb d_q_push_8 rfl (lv_at hl 1 rfl) ?_
  replace h := bs h
  obtain ⟨w3, hw3, h⟩ := h
  refine wo_iast hx hb hK hW (t := 0) rfl hw3 d_q_push_9 (fun H locs hW => ?_)
  refine lv_aload_n hx hb d_q_push_10 rfl (lv_at hl 0 rfl) ?_
  replace h := bs h
  obtain ⟨x4, hx4, h⟩ := h
  refine gf_q_96 hx hb hts hown hK hG hW (gN_s hx4) d_q_push_11 ?_
  refine lv_aload_n hx hb d_q_push_14 rfl (lv_at hl 0 rfl) ?_
  replace h := bs h
  obtain ⟨x5, hx5, h⟩ := h
  refine gf_q_246 hx hb hts hown hK hG hW (gI_s hx5) d_q_push_15 ?_
  refine lv_iload_n hx hb d_q_push_18 rfl (lv_at hl 2 rfl) ?_
  replace h := bs h
  obtain ⟨w6, hw6, h⟩ := h
  refine wo_iast hx hb hK hW (t := 0) rfl hw6 d_q_push_19 (fun H locs hW => ?_)
  refine lv_aload_n hx hb d_q_push_20 rfl (lv_at hl 0 rfl) ?_
  replace h := bs h
  obtain ⟨x7, hx7, h⟩ := h
  refine gf_q_93 hx hb hts hown hK hG hW (gN_s hx7) d_q_push_21 ?_
  refine lv_aload_n hx hb d_q_push_24 rfl (lv_at hl 0 rfl) ?_
  replace h := bs h
  obtain ⟨x8, hx8, h⟩ := h
  refine gf_q_246 hx hb hts hown hK hG hW (gI_s hx8) d_q_push_25 ?_
  refine lv_iload_n hx hb d_q_push_28 rfl (lv_at hl 3 rfl) ?_
  replace h := bs h
  obtain ⟨w9, hw9, h⟩ := h
  refine wo_iast hx hb hK hW (t := 0) rfl hw9 d_q_push_29 (fun H locs hW => ?_)
  refine lv_aload_n hx hb d_q_push_30 rfl (lv_at hl 0 rfl) ?_
  refine lv_dup hx hb d_q_push_31 rfl ?_
  replace h := bs h
  obtain ⟨x10, hx10, h⟩ := h
  refine gf_q_246 hx hb hts hown hK hG hW (gI_s hx10) d_q_push_32 ?_
  refine lv_iconst (v := (1 : Int32)) hx hb d_q_push_35 (by decide) ?_
  refine lv_iadd hx hb d_q_push_36 ?_
  replace h := bs h
  obtain ⟨w11, hw11, h⟩ := h
  refine pf_q_246 hx hb hts hown hK hG hW rfl rfl (pbi hw11 rfl) d_q_push_37 (fun H locs hW => ?_)
  refine lv_iload_n hx hb d_q_push_40 rfl (lv_at hl 1 rfl) ?_
  refine lv_iconst (v := (4 : Int32)) hx hb d_q_push_41 (by decide) ?_
  refine lv_icmp_ge (tgt := 55) hx hb d_q_push_42 (by decide) (fun c12 => ?_) (fun c12 => ?_)
  · rw [if_pos c12] at h
    exact j_q_push_55 C w11 h _ _ _ hW (lv_sub hl [] rfl)
  · rw [if_neg c12] at h
    refine lv_aload_n hx hb d_q_push_45 rfl (lv_at hl 0 rfl) ?_
    refine lv_dup hx hb d_q_push_46 rfl ?_
    replace h := bs h
    obtain ⟨x13, hx13, h⟩ := h
    refine gf_q_249 hx hb hts hown hK hG hW (gI_s hx13) d_q_push_47 ?_
    refine lv_iconst (v := (1 : Int32)) hx hb d_q_push_50 (by decide) ?_
    refine lv_iadd hx hb d_q_push_51 ?_
    replace h := bs h
    obtain ⟨w14, hw14, h⟩ := h
    refine pf_q_249 hx hb hts hown hK hG hW rfl rfl (pbi hw14 rfl) d_q_push_52 (fun H locs hW => ?_)
    exact j_q_push_55 C w14 h _ _ _ hW (lv_sub hl [] rfl)
theorem cv_q_265 {p : Program} {l : Launch} {e : Env} {R : Room} {s : State} {m : MethodId} {args : Array Value} {below : List Frame} {meth : Method} {c : Code} {H : Heap} {locs : List Loc} {cells slots : Nat} {Q : State → Prop} {D : va_G} {cA : Nat → ClassId} {base : Nat} {w w' : WW} {cc : ByteArray} {pc nL : Nat} {ls : Array Slot} {rest st0 As : List Value} {ov : Option Value} {b : Nat} (hx : p.tables.exec = Jvm.exec) (hb : c.code = cc) (hml : c.maxLocals = nL) (hown : s.vm.findClass Rc_q = some m.cls) (hts : ∀ w ∈ gt, w.before args s = true) (hK : va_K D cls (wo_tys cA) s) (hG : wo_G cA base s) (hW : wo_S D cls cA base s w H locs) (hM : mt l D cls (wo_tys cA) cA base y_q_leaf (Cond.code y_q_leaf b_q_leaf 2 (none) :: gt) rm_q_leaf (.ref (base + b) :: As) w ov w' rm_q_leaf.cells rm_q_leaf.slots) (hkb : kb w b 9 = true) (hR : rm_q_leaf.frames + 1 ≤ R.frames ∧ 8 + (2 + 11) + rm_q_leaf.locals ≤ R.locals) (hf : cells + rm_q_leaf.cells ≤ R.cells ∧ slots + rm_q_leaf.slots ≤ R.slots) (hn : As.length = 1) (hsz : ls.size = nL) (hst : st0 = As.reverse ++ .ref (base + b) :: rest) (hcat : (rest.map fun v => v.category).sum ≤ 8) (hdg : decode cc pc = .ok (.invokevirtual 265, 3)) (kk : ∀ (H1 : Heap) (locs1 : List Loc), wo_S D cls cA base s w' H1 locs1 → W p l e R s m args below meth c H1 locs1 (cells + rm_q_leaf.cells) (slots + rm_q_leaf.slots) Q (F0 m (pc + 3) ls (ov.toList ++ rest))) : W p l e R s m args below meth c H locs cells slots Q (F0 m pc ls st0) :=
  wo_callV (C := Rc_q) hx hb hml hown hts hK hG hW hM hkb rfl (gt_of (i := 1468) (by decide +kernel) (by decide +kernel)) (gt_of (i := 1470) (by decide +kernel) (by decide +kernel)) (gt_sel (i := 72) (by decide +kernel) (by decide +kernel)) (gt_of (i := 10) (by decide +kernel) (by decide +kernel)) (gt_of (i := 1471) (by decide +kernel) (by decide +kernel)) (by decide +kernel) hR hf hn hsz hst hcat hdg kk
theorem cv_q_269 {p : Program} {l : Launch} {e : Env} {R : Room} {s : State} {m : MethodId} {args : Array Value} {below : List Frame} {meth : Method} {c : Code} {H : Heap} {locs : List Loc} {cells slots : Nat} {Q : State → Prop} {D : va_G} {cA : Nat → ClassId} {base : Nat} {w w' : WW} {cc : ByteArray} {pc nL : Nat} {ls : Array Slot} {rest st0 As : List Value} {ov : Option Value} {b : Nat} (hx : p.tables.exec = Jvm.exec) (hb : c.code = cc) (hml : c.maxLocals = nL) (hown : s.vm.findClass Rc_q = some m.cls) (hts : ∀ w ∈ gt, w.before args s = true) (hK : va_K D cls (wo_tys cA) s) (hG : wo_G cA base s) (hW : wo_S D cls cA base s w H locs) (hM : mt l D cls (wo_tys cA) cA base y_q_opposites (Cond.code y_q_opposites b_q_opposites 1 (none) :: gt) rm_q_opposites (.ref (base + b) :: As) w ov w' rm_q_opposites.cells rm_q_opposites.slots) (hkb : kb w b 9 = true) (hR : rm_q_opposites.frames + 1 ≤ R.frames ∧ 8 + (1 + 11) + rm_q_opposites.locals ≤ R.locals) (hf : cells + rm_q_opposites.cells ≤ R.cells ∧ slots + rm_q_opposites.slots ≤ R.slots) (hn : As.length = 0) (hsz : ls.size = nL) (hst : st0 = As.reverse ++ .ref (base + b) :: rest) (hcat : (rest.map fun v => v.category).sum ≤ 8) (hdg : decode cc pc = .ok (.invokevirtual 269, 3)) (kk : ∀ (H1 : Heap) (locs1 : List Loc), wo_S D cls cA base s w' H1 locs1 → W p l e R s m args below meth c H1 locs1 (cells + rm_q_opposites.cells) (slots + rm_q_opposites.slots) Q (F0 m (pc + 3) ls (ov.toList ++ rest))) : W p l e R s m args below meth c H locs cells slots Q (F0 m pc ls st0) :=
  wo_callV (C := Rc_q) hx hb hml hown hts hK hG hW hM hkb rfl (gt_of (i := 1476) (by decide +kernel) (by decide +kernel)) (gt_of (i := 1478) (by decide +kernel) (by decide +kernel)) (gt_sel (i := 74) (by decide +kernel) (by decide +kernel)) (gt_of (i := 10) (by decide +kernel) (by decide +kernel)) (gt_of (i := 1479) (by decide +kernel) (by decide +kernel)) (by decide +kernel) hR hf hn hsz hst hcat hdg kk
theorem cv_q_272 {p : Program} {l : Launch} {e : Env} {R : Room} {s : State} {m : MethodId} {args : Array Value} {below : List Frame} {meth : Method} {c : Code} {H : Heap} {locs : List Loc} {cells slots : Nat} {Q : State → Prop} {D : va_G} {cA : Nat → ClassId} {base : Nat} {w w' : WW} {cc : ByteArray} {pc nL : Nat} {ls : Array Slot} {rest st0 As : List Value} {ov : Option Value} {b : Nat} (hx : p.tables.exec = Jvm.exec) (hb : c.code = cc) (hml : c.maxLocals = nL) (hown : s.vm.findClass Rc_q = some m.cls) (hts : ∀ w ∈ gt, w.before args s = true) (hK : va_K D cls (wo_tys cA) s) (hG : wo_G cA base s) (hW : wo_S D cls cA base s w H locs) (hM : mt l D cls (wo_tys cA) cA base y_q_push (Cond.code y_q_push b_q_push 4 (none) :: gt) rm_q_push (.ref (base + b) :: As) w ov w' rm_q_push.cells rm_q_push.slots) (hkb : kb w b 9 = true) (hR : rm_q_push.frames + 1 ≤ R.frames ∧ 8 + (4 + 11) + rm_q_push.locals ≤ R.locals) (hf : cells + rm_q_push.cells ≤ R.cells ∧ slots + rm_q_push.slots ≤ R.slots) (hn : As.length = 3) (hsz : ls.size = nL) (hst : st0 = As.reverse ++ .ref (base + b) :: rest) (hcat : (rest.map fun v => v.category).sum ≤ 8) (hdg : decode cc pc = .ok (.invokevirtual 272, 3)) (kk : ∀ (H1 : Heap) (locs1 : List Loc), wo_S D cls cA base s w' H1 locs1 → W p l e R s m args below meth c H1 locs1 (cells + rm_q_push.cells) (slots + rm_q_push.slots) Q (F0 m (pc + 3) ls (ov.toList ++ rest))) : W p l e R s m args below meth c H locs cells slots Q (F0 m pc ls st0) :=
  wo_callV (C := Rc_q) hx hb hml hown hts hK hG hW hM hkb rfl (gt_of (i := 1480) (by decide +kernel) (by decide +kernel)) (gt_of (i := 1482) (by decide +kernel) (by decide +kernel)) (gt_sel (i := 75) (by decide +kernel) (by decide +kernel)) (gt_of (i := 10) (by decide +kernel) (by decide +kernel)) (gt_of (i := 1483) (by decide +kernel) (by decide +kernel)) (by decide +kernel) hR hf hn hsz hst hcat hdg kk
theorem cv_q_275 {p : Program} {l : Launch} {e : Env} {R : Room} {s : State} {m : MethodId} {args : Array Value} {below : List Frame} {meth : Method} {c : Code} {H : Heap} {locs : List Loc} {cells slots : Nat} {Q : State → Prop} {D : va_G} {cA : Nat → ClassId} {base : Nat} {w w' : WW} {cc : ByteArray} {pc nL : Nat} {ls : Array Slot} {rest st0 As : List Value} {ov : Option Value} {b : Nat} (hx : p.tables.exec = Jvm.exec) (hb : c.code = cc) (hml : c.maxLocals = nL) (hown : s.vm.findClass Rc_q = some m.cls) (hts : ∀ w ∈ gt, w.before args s = true) (hK : va_K D cls (wo_tys cA) s) (hG : wo_G cA base s) (hW : wo_S D cls cA base s w H locs) (hM : mt l D cls (wo_tys cA) cA base y_q_expect (Cond.code y_q_expect b_q_expect 2 (none) :: gt) rm_q_expect (.ref (base + b) :: As) w ov w' rm_q_expect.cells rm_q_expect.slots) (hkb : kb w b 9 = true) (hR : rm_q_expect.frames + 1 ≤ R.frames ∧ 8 + (2 + 11) + rm_q_expect.locals ≤ R.locals) (hf : cells + rm_q_expect.cells ≤ R.cells ∧ slots + rm_q_expect.slots ≤ R.slots) (hn : As.length = 1) (hsz : ls.size = nL) (hst : st0 = As.reverse ++ .ref (base + b) :: rest) (hcat : (rest.map fun v => v.category).sum ≤ 8) (hdg : decode cc pc = .ok (.invokevirtual 275, 3)) (kk : ∀ (H1 : Heap) (locs1 : List Loc), wo_S D cls cA base s w' H1 locs1 → W p l e R s m args below meth c H1 locs1 (cells + rm_q_expect.cells) (slots + rm_q_expect.slots) Q (F0 m (pc + 3) ls (ov.toList ++ rest))) : W p l e R s m args below meth c H locs cells slots Q (F0 m pc ls st0) :=
  wo_callV (C := Rc_q) hx hb hml hown hts hK hG hW hM hkb rfl (gt_of (i := 1456) (by decide +kernel) (by decide +kernel)) (gt_of (i := 1458) (by decide +kernel) (by decide +kernel)) (gt_sel (i := 69) (by decide +kernel) (by decide +kernel)) (gt_of (i := 10) (by decide +kernel) (by decide +kernel)) (gt_of (i := 1459) (by decide +kernel) (by decide +kernel)) (by decide +kernel) hR hf hn hsz hst hcat hdg kk
abbrev b_q_want : ByteArray := prog_11_method_25_code
def y_q_want : MethodName := ⟨"AlarmForgeModel", "want", "()Z"⟩
def rm_q_want : Room := { frames := 5, cells := 0, slots := 0, locals := 115 }
theorem d_q_want_0 : decode b_q_want 0 = .ok (.aload_n 0, 1) := by decide +kernel
theorem d_q_want_1 : decode b_q_want 1 = .ok (.getfield 249, 3) := by decide +kernel
theorem d_q_want_4 : decode b_q_want 4 = .ok (.bipush (10), 2) := by decide +kernel
theorem d_q_want_6 : decode b_q_want 6 = .ok (.if_icmp .le (9), 3) := by decide +kernel
theorem d_q_want_9 : decode b_q_want 9 = .ok (.aload_n 0, 1) := by decide +kernel
theorem d_q_want_10 : decode b_q_want 10 = .ok (.invokevirtual 240, 3) := by decide +kernel
theorem d_q_want_13 : decode b_q_want 13 = .ok (.iconst 0, 1) := by decide +kernel
theorem d_q_want_14 : decode b_q_want 14 = .ok (.ireturn, 1) := by decide +kernel
theorem d_q_want_15 : decode b_q_want 15 = .ok (.aload_n 0, 1) := by decide +kernel
theorem d_q_want_16 : decode b_q_want 16 = .ok (.getfield 195, 3) := by decide +kernel
theorem d_q_want_19 : decode b_q_want 19 = .ok (.iconst 1, 1) := by decide +kernel
theorem d_q_want_20 : decode b_q_want 20 = .ok (.if_icmp .eq (11), 3) := by decide +kernel
theorem d_q_want_23 : decode b_q_want 23 = .ok (.aload_n 0, 1) := by decide +kernel
theorem d_q_want_24 : decode b_q_want 24 = .ok (.getfield 195, 3) := by decide +kernel
theorem d_q_want_27 : decode b_q_want 27 = .ok (.iconst 2, 1) := by decide +kernel
theorem d_q_want_28 : decode b_q_want 28 = .ok (.if_icmp .ne (26), 3) := by decide +kernel
theorem d_q_want_31 : decode b_q_want 31 = .ok (.aload_n 0, 1) := by decide +kernel
theorem d_q_want_32 : decode b_q_want 32 = .ok (.aload_n 0, 1) := by decide +kernel
theorem d_q_want_33 : decode b_q_want 33 = .ok (.getfield 195, 3) := by decide +kernel
theorem d_q_want_36 : decode b_q_want 36 = .ok (.iconst 1, 1) := by decide +kernel
theorem d_q_want_37 : decode b_q_want 37 = .ok (.if_icmp .ne (7), 3) := by decide +kernel
theorem d_q_want_40 : decode b_q_want 40 = .ok (.iconst 1, 1) := by decide +kernel
theorem d_q_want_41 : decode b_q_want 41 = .ok (.goto (4), 3) := by decide +kernel
theorem d_q_want_44 : decode b_q_want 44 = .ok (.iconst 2, 1) := by decide +kernel
theorem d_q_want_45 : decode b_q_want 45 = .ok (.invokevirtual 265, 3) := by decide +kernel
theorem d_q_want_48 : decode b_q_want 48 = .ok (.aload_n 0, 1) := by decide +kernel
theorem d_q_want_49 : decode b_q_want 49 = .ok (.invokevirtual 269, 3) := by decide +kernel
theorem d_q_want_52 : decode b_q_want 52 = .ok (.iconst 1, 1) := by decide +kernel
theorem d_q_want_53 : decode b_q_want 53 = .ok (.ireturn, 1) := by decide +kernel
theorem d_q_want_54 : decode b_q_want 54 = .ok (.aload_n 0, 1) := by decide +kernel
theorem d_q_want_55 : decode b_q_want 55 = .ok (.getfield 195, 3) := by decide +kernel
theorem d_q_want_58 : decode b_q_want 58 = .ok (.iconst 3, 1) := by decide +kernel
theorem d_q_want_59 : decode b_q_want 59 = .ok (.if_icmp .ne (28), 3) := by decide +kernel
theorem d_q_want_62 : decode b_q_want 62 = .ok (.aload_n 0, 1) := by decide +kernel
theorem d_q_want_63 : decode b_q_want 63 = .ok (.iconst 2, 1) := by decide +kernel
theorem d_q_want_64 : decode b_q_want 64 = .ok (.aload_n 0, 1) := by decide +kernel
theorem d_q_want_65 : decode b_q_want 65 = .ok (.getfield 198, 3) := by decide +kernel
theorem d_q_want_68 : decode b_q_want 68 = .ok (.aload_n 0, 1) := by decide +kernel
theorem d_q_want_69 : decode b_q_want 69 = .ok (.getfield 181, 3) := by decide +kernel
theorem d_q_want_72 : decode b_q_want 72 = .ok (.invokevirtual 272, 3) := by decide +kernel
theorem d_q_want_75 : decode b_q_want 75 = .ok (.aload_n 0, 1) := by decide +kernel
theorem d_q_want_76 : decode b_q_want 76 = .ok (.invokevirtual 237, 3) := by decide +kernel
theorem d_q_want_79 : decode b_q_want 79 = .ok (.aload_n 0, 1) := by decide +kernel
theorem d_q_want_80 : decode b_q_want 80 = .ok (.bipush (91), 2) := by decide +kernel
theorem d_q_want_82 : decode b_q_want 82 = .ok (.invokevirtual 275, 3) := by decide +kernel
theorem d_q_want_85 : decode b_q_want 85 = .ok (.iconst 0, 1) := by decide +kernel
theorem d_q_want_86 : decode b_q_want 86 = .ok (.ireturn, 1) := by decide +kernel
theorem d_q_want_87 : decode b_q_want 87 = .ok (.aload_n 0, 1) := by decide +kernel
theorem d_q_want_88 : decode b_q_want 88 = .ok (.bipush (45), 2) := by decide +kernel
theorem d_q_want_90 : decode b_q_want 90 = .ok (.invokevirtual 234, 3) := by decide +kernel
theorem d_q_want_93 : decode b_q_want 93 = .ok (.ifCond .ne (12), 3) := by decide +kernel
theorem d_q_want_96 : decode b_q_want 96 = .ok (.aload_n 0, 1) := by decide +kernel
theorem d_q_want_97 : decode b_q_want 97 = .ok (.bipush (40), 2) := by decide +kernel
theorem d_q_want_99 : decode b_q_want 99 = .ok (.invokevirtual 234, 3) := by decide +kernel
theorem d_q_want_102 : decode b_q_want 102 = .ok (.ifCond .eq (32), 3) := by decide +kernel
theorem d_q_want_105 : decode b_q_want 105 = .ok (.aload_n 0, 1) := by decide +kernel
theorem d_q_want_106 : decode b_q_want 106 = .ok (.aload_n 0, 1) := by decide +kernel
theorem d_q_want_107 : decode b_q_want 107 = .ok (.bipush (45), 2) := by decide +kernel
theorem d_q_want_109 : decode b_q_want 109 = .ok (.invokevirtual 234, 3) := by decide +kernel
theorem d_q_want_112 : decode b_q_want 112 = .ok (.ifCond .eq (7), 3) := by decide +kernel
theorem d_q_want_115 : decode b_q_want 115 = .ok (.iconst 3, 1) := by decide +kernel
theorem d_q_want_116 : decode b_q_want 116 = .ok (.goto (4), 3) := by decide +kernel
theorem d_q_want_119 : decode b_q_want 119 = .ok (.iconst 1, 1) := by decide +kernel
theorem d_q_want_120 : decode b_q_want 120 = .ok (.iconst 0, 1) := by decide +kernel
theorem d_q_want_121 : decode b_q_want 121 = .ok (.aload_n 0, 1) := by decide +kernel
theorem d_q_want_122 : decode b_q_want 122 = .ok (.getfield 181, 3) := by decide +kernel
theorem d_q_want_125 : decode b_q_want 125 = .ok (.invokevirtual 272, 3) := by decide +kernel
theorem d_q_want_128 : decode b_q_want 128 = .ok (.aload_n 0, 1) := by decide +kernel
theorem d_q_want_129 : decode b_q_want 129 = .ok (.invokevirtual 237, 3) := by decide +kernel
theorem d_q_want_132 : decode b_q_want 132 = .ok (.iconst 0, 1) := by decide +kernel
theorem d_q_want_133 : decode b_q_want 133 = .ok (.ireturn, 1) := by decide +kernel
theorem d_q_want_134 : decode b_q_want 134 = .ok (.aload_n 0, 1) := by decide +kernel
theorem d_q_want_135 : decode b_q_want 135 = .ok (.invokevirtual 240, 3) := by decide +kernel
theorem d_q_want_138 : decode b_q_want 138 = .ok (.iconst 0, 1) := by decide +kernel
theorem d_q_want_139 : decode b_q_want 139 = .ok (.ireturn, 1) := by decide +kernel
theorem kb_q_want {a0 : Nat}  {w : WW} {r : (Int32 × WW)} (h : f_q_want a0 w = some r) : kb w a0 9 = true := (its h).1
set_option maxHeartbeats 4000000 in
set_option maxRecDepth 100000 in
theorem j_q_want_45 {p : Program} {l : Launch} {e : Env} {s : State} {m : MethodId} {args : Array Value} {below : List Frame} {meth : Method} {c : Code} {D : va_G} {cA : Nat → ClassId} {base : Nat} {r : Int32} {w' : WW} (C : cx b_q_want (some .boolean) 1 y_q_want.cls "want" p s m args meth c D cA base)   : ∀ (y0 : Nat) (z0 : Nat) (z1 : Int32) (w : WW), f_q_want_45 y0 z0 z1 w = some (r, w') → ∀ (H : Heap) (locs : List Loc) (ls : Array Slot), wo_S D cls cA base s w H locs → lv_has ls 1 [(0, .ref (base + y0))] → W p l e rm_q_want s m args below meth c H locs 0 0 (MQ below (wo_Q D cls cA base (some (.int r)) w') args s rm_q_want.cells rm_q_want.slots (wo_B base)) (F0 m 45 ls [.int z1, .ref (base + z0)]) := by
  obtain ⟨hx, hb, hr, hml, hown, hts, hlk, hnm, hK, hG⟩ := id C
  intro y0 z0 z1 w h H locs ls hW hl
  unfold f_q_want_45 at h
  replace h := bs h
  obtain ⟨w7, hw7, h⟩ := h
  refine cv_q_265 (As := [.int z1]) (rest := []) hx hb hml hown hts hK hG hW (c_q_leaf l D cA base hw7) (kb_q_leaf hw7) ⟨Nat.le_of_ble_eq_true rfl, Nat.le_of_ble_eq_true rfl⟩ ⟨Nat.le_of_ble_eq_true rfl, Nat.le_of_ble_eq_true rfl⟩ rfl hl.1 rfl (Nat.le_of_ble_eq_true rfl) d_q_want_45 (fun H locs hW => ?_)
  refine lv_aload_n hx hb d_q_want_48 rfl (lv_at hl 0 rfl) ?_
  replace h := bs h
  obtain ⟨w8, hw8, h⟩ := h
  refine cv_q_269 (As := []) (rest := []) hx hb hml hown hts hK hG hW (c_q_opposites l D cA base hw8) (kb_q_opposites hw8) ⟨Nat.le_of_ble_eq_true rfl, Nat.le_of_ble_eq_true rfl⟩ ⟨Nat.le_of_ble_eq_true rfl, Nat.le_of_ble_eq_true rfl⟩ rfl hl.1 rfl (Nat.le_of_ble_eq_true rfl) d_q_want_49 (fun H locs hW => ?_)
  refine lv_iconst (v := (1 : Int32)) hx hb d_q_want_52 (by decide) ?_
  replace h := its h
  obtain ⟨c9, h⟩ := h
  cases h
  exact wo_zret hx hb hr hlk hW c9 d_q_want_53
set_option maxHeartbeats 4000000 in
set_option maxRecDepth 100000 in
theorem j_q_want_31 {p : Program} {l : Launch} {e : Env} {s : State} {m : MethodId} {args : Array Value} {below : List Frame} {meth : Method} {c : Code} {D : va_G} {cA : Nat → ClassId} {base : Nat} {r : Int32} {w' : WW} (C : cx b_q_want (some .boolean) 1 y_q_want.cls "want" p s m args meth c D cA base)   : ∀ (y0 : Nat) (w : WW), f_q_want_31 y0 w = some (r, w') → ∀ (H : Heap) (locs : List Loc) (ls : Array Slot), wo_S D cls cA base s w H locs → lv_has ls 1 [(0, .ref (base + y0))] → W p l e rm_q_want s m args below meth c H locs 0 0 (MQ below (wo_Q D cls cA base (some (.int r)) w') args s rm_q_want.cells rm_q_want.slots (wo_B base)) (F0 m 31 ls []) := by
  obtain ⟨hx, hb, hr, hml, hown, hts, hlk, hnm, hK, hG⟩ := id C
  intro y0 w h H locs ls hW hl
  unfold f_q_want_31 at h
  refine lv_aload_n hx hb d_q_want_31 rfl (lv_at hl 0 rfl) ?_
  refine lv_aload_n hx hb d_q_want_32 rfl (lv_at hl 0 rfl) ?_
  replace h := bs h
  obtain ⟨x5, hx5, h⟩ := h
  refine gf_q_195 hx hb hts hown hK hG hW (gI_s hx5) d_q_want_33 ?_
  refine lv_iconst (v := (1 : Int32)) hx hb d_q_want_36 (by decide) ?_
  refine lv_icmp_ne (tgt := 44) hx hb d_q_want_37 (by decide) (fun c6 => ?_) (fun c6 => ?_)
  · rw [if_neg c6] at h
    refine lv_iconst (v := (2 : Int32)) hx hb d_q_want_44 (by decide) ?_
    exact j_q_want_45 C y0 y0 (2 : Int32) w h _ _ _ hW (lv_sub hl [0] rfl)
  · rw [if_pos c6] at h
    refine lv_iconst (v := (1 : Int32)) hx hb d_q_want_40 (by decide) ?_
    refine lv_goto (tgt := 45) hx hb d_q_want_41 (by decide) ?_
    exact j_q_want_45 C y0 y0 (1 : Int32) w h _ _ _ hW (lv_sub hl [0] rfl)
set_option maxHeartbeats 4000000 in
set_option maxRecDepth 100000 in
theorem j_q_want_120 {p : Program} {l : Launch} {e : Env} {s : State} {m : MethodId} {args : Array Value} {below : List Frame} {meth : Method} {c : Code} {D : va_G} {cA : Nat → ClassId} {base : Nat} {r : Int32} {w' : WW} (C : cx b_q_want (some .boolean) 1 y_q_want.cls "want" p s m args meth c D cA base)   : ∀ (y0 : Nat) (z0 : Nat) (z1 : Int32) (w : WW), f_q_want_120 y0 z0 z1 w = some (r, w') → ∀ (H : Heap) (locs : List Loc) (ls : Array Slot), wo_S D cls cA base s w H locs → lv_has ls 1 [(0, .ref (base + y0))] → W p l e rm_q_want s m args below meth c H locs 0 0 (MQ below (wo_Q D cls cA base (some (.int r)) w') args s rm_q_want.cells rm_q_want.slots (wo_B base)) (F0 m 120 ls [.int z1, .ref (base + z0)]) := by
  obtain ⟨hx, hb, hr, hml, hown, hts, hlk, hnm, hK, hG⟩ := id C
  intro y0 z0 z1 w h H locs ls hW hl
  unfold f_q_want_120 at h
  refine lv_iconst (v := (0 : Int32)) hx hb d_q_want_120 (by decide) ?_
  refine lv_aload_n hx hb d_q_want_121 rfl (lv_at hl 0 rfl) ?_
  replace h := bs h
  obtain ⟨x20, hx20, h⟩ := h
  refine gf_q_181 hx hb hts hown hK hG hW (gI_s hx20) d_q_want_122 ?_
  replace h := bs h
  obtain ⟨w21, hw21, h⟩ := h
  refine cv_q_272 (As := [.int z1, .int (0 : Int32), .int x20]) (rest := []) hx hb hml hown hts hK hG hW (c_q_push l D cA base hw21) (kb_q_push hw21) ⟨Nat.le_of_ble_eq_true rfl, Nat.le_of_ble_eq_true rfl⟩ ⟨Nat.le_of_ble_eq_true rfl, Nat.le_of_ble_eq_true rfl⟩ rfl hl.1 rfl (Nat.le_of_ble_eq_true rfl) d_q_want_125 (fun H locs hW => ?_)
  refine lv_aload_n hx hb d_q_want_128 rfl (lv_at hl 0 rfl) ?_
  replace h := bs h
  obtain ⟨w22, hw22, h⟩ := h
  refine cv_q_237 (As := []) (rest := []) hx hb hml hown hts hK hG hW (c_q_read l D cA base hw22) (kb_q_read hw22) ⟨Nat.le_of_ble_eq_true rfl, Nat.le_of_ble_eq_true rfl⟩ ⟨Nat.le_of_ble_eq_true rfl, Nat.le_of_ble_eq_true rfl⟩ rfl hl.1 rfl (Nat.le_of_ble_eq_true rfl) d_q_want_129 (fun H locs hW => ?_)
  refine lv_iconst (v := (0 : Int32)) hx hb d_q_want_132 (by decide) ?_
  replace h := its h
  obtain ⟨c23, h⟩ := h
  cases h
  exact wo_zret hx hb hr hlk hW c23 d_q_want_133
set_option maxHeartbeats 4000000 in
set_option maxRecDepth 100000 in
theorem j_q_want_105 {p : Program} {l : Launch} {e : Env} {s : State} {m : MethodId} {args : Array Value} {below : List Frame} {meth : Method} {c : Code} {D : va_G} {cA : Nat → ClassId} {base : Nat} {r : Int32} {w' : WW} (C : cx b_q_want (some .boolean) 1 y_q_want.cls "want" p s m args meth c D cA base)   : ∀ (y0 : Nat) (w : WW), f_q_want_105 y0 w = some (r, w') → ∀ (H : Heap) (locs : List Loc) (ls : Array Slot), wo_S D cls cA base s w H locs → lv_has ls 1 [(0, .ref (base + y0))] → W p l e rm_q_want s m args below meth c H locs 0 0 (MQ below (wo_Q D cls cA base (some (.int r)) w') args s rm_q_want.cells rm_q_want.slots (wo_B base)) (F0 m 105 ls []) := by
  obtain ⟨hx, hb, hr, hml, hown, hts, hlk, hnm, hK, hG⟩ := id C
  intro y0 w h H locs ls hW hl
  unfold f_q_want_105 at h
  refine lv_aload_n hx hb d_q_want_105 rfl (lv_at hl 0 rfl) ?_
  refine lv_aload_n hx hb d_q_want_106 rfl (lv_at hl 0 rfl) ?_
  refine lv_bipush (v := (45 : Int32)) hx hb d_q_want_107 (by decide) ?_
  replace h := bs2 h
  obtain ⟨x18, w17, hw17, h⟩ := h
  refine cv_q_234 (As := [.int (45 : Int32)]) (rest := [.ref (base + y0)]) hx hb hml hown hts hK hG hW (c_q_is l D cA base hw17) (kb_q_is hw17) ⟨Nat.le_of_ble_eq_true rfl, Nat.le_of_ble_eq_true rfl⟩ ⟨Nat.le_of_ble_eq_true rfl, Nat.le_of_ble_eq_true rfl⟩ rfl hl.1 rfl (Nat.le_of_ble_eq_true rfl) d_q_want_109 (fun H locs hW => ?_)
  refine lv_if_eq (tgt := 119) hx hb d_q_want_112 (by decide) (fun c19 => ?_) (fun c19 => ?_)
  · rw [if_pos c19] at h
    refine lv_iconst (v := (1 : Int32)) hx hb d_q_want_119 (by decide) ?_
    exact j_q_want_120 C y0 y0 (1 : Int32) w17 h _ _ _ hW (lv_sub hl [0] rfl)
  · rw [if_neg c19] at h
    refine lv_iconst (v := (3 : Int32)) hx hb d_q_want_115 (by decide) ?_
    refine lv_goto (tgt := 120) hx hb d_q_want_116 (by decide) ?_
    exact j_q_want_120 C y0 y0 (3 : Int32) w17 h _ _ _ hW (lv_sub hl [0] rfl)
set_option maxHeartbeats 4000000 in
set_option maxRecDepth 100000 in
theorem c_q_want (l : Launch) (D : va_G) (cA : Nat → ClassId) (base : Nat) {a0 : Nat} {w w' : WW} {r : Int32} (h : f_q_want a0 w = some (r, w')) : mt l D cls (wo_tys cA) cA base y_q_want (Cond.code y_q_want b_q_want 1 (some .boolean) :: gt) rm_q_want [.ref (base + a0)] w (some (.int r)) w' rm_q_want.cells rm_q_want.slots := by
  refine mt_start (by decide) (Nat.le_of_ble_eq_true rfl) ?_
  intro p e s m below meth c ls hx hb hr hml hown hts hlk hnm hK hG hW hl
  have C : cx b_q_want (some .boolean) 1 y_q_want.cls "want" p s m [.ref (base + a0)].toArray meth c D cA base := ⟨hx, hb, hr, hml, hown, hts, hlk, hnm, hK, hG⟩
  have hl : lv_has ls 1 [(0, .ref (base + a0))] := hl
  unfold f_q_want at h
  replace h := its h
  obtain ⟨-, h⟩ := h
  refine lv_aload_n hx hb d_q_want_0 rfl (lv_at hl 0 rfl) ?_
  replace h := bs h
  obtain ⟨x1, hx1, h⟩ := h
  refine gf_q_249 hx hb hts hown hK hG hW (gI_s hx1) d_q_want_1 ?_
  refine lv_bipush (v := (10 : Int32)) hx hb d_q_want_4 (by decide) ?_
  refine lv_icmp_le (tgt := 15) hx hb d_q_want_6 (by decide) (fun c2 => ?_) (fun c2 => ?_)
  · rw [if_pos c2] at h
    refine lv_aload_n hx hb d_q_want_15 rfl (lv_at hl 0 rfl) ?_
    replace h := bs h
    obtain ⟨x3, hx3, h⟩ := h
    refine gf_q_195 hx hb hts hown hK hG hW (gI_s hx3) d_q_want_16 ?_
    refine lv_iconst (v := (1 : Int32)) hx hb d_q_want_19 (by decide) ?_
    refine lv_icmp_eq (tgt := 31) hx hb d_q_want_20 (by decide) (fun c4 => ?_) (fun c4 => ?_)
    · rw [if_pos c4] at h
      exact j_q_want_31 C a0 w h _ _ _ hW (lv_sub hl [0] rfl)
    · rw [if_neg c4] at h
      refine lv_aload_n hx hb d_q_want_23 rfl (lv_at hl 0 rfl) ?_
      replace h := bs h
      obtain ⟨x10, hx10, h⟩ := h
      refine gf_q_195 hx hb hts hown hK hG hW (gI_s hx10) d_q_want_24 ?_
      refine lv_iconst (v := (2 : Int32)) hx hb d_q_want_27 (by decide) ?_
      refine lv_icmp_ne (tgt := 54) hx hb d_q_want_28 (by decide) (fun c11 => ?_) (fun c11 => ?_)
      · rw [if_neg c11] at h
        refine lv_aload_n hx hb d_q_want_54 rfl (lv_at hl 0 rfl) ?_
        replace h := bs h
        obtain ⟨x12, hx12, h⟩ := h
        refine gf_q_195 hx hb hts hown hK hG hW (gI_s hx12) d_q_want_55 ?_
        refine lv_iconst (v := (3 : Int32)) hx hb d_q_want_58 (by decide) ?_
        refine lv_icmp_ne (tgt := 87) hx hb d_q_want_59 (by decide) (fun c13 => ?_) (fun c13 => ?_)
        · rw [if_neg c13] at h
          refine lv_aload_n hx hb d_q_want_87 rfl (lv_at hl 0 rfl) ?_
          refine lv_bipush (v := (45 : Int32)) hx hb d_q_want_88 (by decide) ?_
          replace h := bs2 h
          obtain ⟨x15, w14, hw14, h⟩ := h
          refine cv_q_234 (As := [.int (45 : Int32)]) (rest := []) hx hb hml hown hts hK hG hW (c_q_is l D cA base hw14) (kb_q_is hw14) ⟨Nat.le_of_ble_eq_true rfl, Nat.le_of_ble_eq_true rfl⟩ ⟨Nat.le_of_ble_eq_true rfl, Nat.le_of_ble_eq_true rfl⟩ rfl hl.1 rfl (Nat.le_of_ble_eq_true rfl) d_q_want_90 (fun H locs hW => ?_)
          refine lv_if_ne (tgt := 105) hx hb d_q_want_93 (by decide) (fun c16 => ?_) (fun c16 => ?_)
          · rw [if_neg c16] at h
            exact j_q_want_105 C a0 w14 h _ _ _ hW (lv_sub hl [0] rfl)
          · rw [if_pos c16] at h
            refine lv_aload_n hx hb d_q_want_96 rfl (lv_at hl 0 rfl) ?_
            refine lv_bipush (v := (40 : Int32)) hx hb d_q_want_97 (by decide) ?_
            replace h := bs2 h
            obtain ⟨x25, w24, hw24, h⟩ := h
            refine cv_q_234 (As := [.int (40 : Int32)]) (rest := []) hx hb hml hown hts hK hG hW (c_q_is l D cA base hw24) (kb_q_is hw24) ⟨Nat.le_of_ble_eq_true rfl, Nat.le_of_ble_eq_true rfl⟩ ⟨Nat.le_of_ble_eq_true rfl, Nat.le_of_ble_eq_true rfl⟩ rfl hl.1 rfl (Nat.le_of_ble_eq_true rfl) d_q_want_99 (fun H locs hW => ?_)
            refine lv_if_eq (tgt := 134) hx hb d_q_want_102 (by decide) (fun c26 => ?_) (fun c26 => ?_)
            · rw [if_pos c26] at h
              refine lv_aload_n hx hb d_q_want_134 rfl (lv_at hl 0 rfl) ?_
              replace h := bs h
              obtain ⟨w27, hw27, h⟩ := h
              refine cv_q_240 (As := []) (rest := []) hx hb hml hown hts hK hG hW (c_q_wrong l D cA base hw27) (kb_q_wrong hw27) ⟨Nat.le_of_ble_eq_true rfl, Nat.le_of_ble_eq_true rfl⟩ ⟨Nat.le_of_ble_eq_true rfl, Nat.le_of_ble_eq_true rfl⟩ rfl hl.1 rfl (Nat.le_of_ble_eq_true rfl) d_q_want_135 (fun H locs hW => ?_)
              refine lv_iconst (v := (0 : Int32)) hx hb d_q_want_138 (by decide) ?_
              replace h := its h
              obtain ⟨c28, h⟩ := h
              cases h
              exact wo_zret hx hb hr hlk hW c28 d_q_want_139
            · rw [if_neg c26] at h
              exact j_q_want_105 C a0 w24 h _ _ _ hW (lv_sub hl [0] rfl)
        · rw [if_pos c13] at h
          refine lv_aload_n hx hb d_q_want_62 rfl (lv_at hl 0 rfl) ?_
          refine lv_iconst (v := (2 : Int32)) hx hb d_q_want_63 (by decide) ?_
          refine lv_aload_n hx hb d_q_want_64 rfl (lv_at hl 0 rfl) ?_
          replace h := bs h
          obtain ⟨x29, hx29, h⟩ := h
          refine gf_q_198 hx hb hts hown hK hG hW (gI_s hx29) d_q_want_65 ?_
          refine lv_aload_n hx hb d_q_want_68 rfl (lv_at hl 0 rfl) ?_
          replace h := bs h
          obtain ⟨x30, hx30, h⟩ := h
          refine gf_q_181 hx hb hts hown hK hG hW (gI_s hx30) d_q_want_69 ?_
          replace h := bs h
          obtain ⟨w31, hw31, h⟩ := h
          refine cv_q_272 (As := [.int (2 : Int32), .int x29, .int x30]) (rest := []) hx hb hml hown hts hK hG hW (c_q_push l D cA base hw31) (kb_q_push hw31) ⟨Nat.le_of_ble_eq_true rfl, Nat.le_of_ble_eq_true rfl⟩ ⟨Nat.le_of_ble_eq_true rfl, Nat.le_of_ble_eq_true rfl⟩ rfl hl.1 rfl (Nat.le_of_ble_eq_true rfl) d_q_want_72 (fun H locs hW => ?_)
          refine lv_aload_n hx hb d_q_want_75 rfl (lv_at hl 0 rfl) ?_
          replace h := bs h
          obtain ⟨w32, hw32, h⟩ := h
          refine cv_q_237 (As := []) (rest := []) hx hb hml hown hts hK hG hW (c_q_read l D cA base hw32) (kb_q_read hw32) ⟨Nat.le_of_ble_eq_true rfl, Nat.le_of_ble_eq_true rfl⟩ ⟨Nat.le_of_ble_eq_true rfl, Nat.le_of_ble_eq_true rfl⟩ rfl hl.1 rfl (Nat.le_of_ble_eq_true rfl) d_q_want_76 (fun H locs hW => ?_)
          refine lv_aload_n hx hb d_q_want_79 rfl (lv_at hl 0 rfl) ?_
          refine lv_bipush (v := (91 : Int32)) hx hb d_q_want_80 (by decide) ?_
          replace h := bs h
          obtain ⟨w33, hw33, h⟩ := h
          refine cv_q_275 (As := [.int (91 : Int32)]) (rest := []) hx hb hml hown hts hK hG hW (c_q_expect l D cA base hw33) (kb_q_expect hw33) ⟨Nat.le_of_ble_eq_true rfl, Nat.le_of_ble_eq_true rfl⟩ ⟨Nat.le_of_ble_eq_true rfl, Nat.le_of_ble_eq_true rfl⟩ rfl hl.1 rfl (Nat.le_of_ble_eq_true rfl) d_q_want_82 (fun H locs hW => ?_)
          refine lv_iconst (v := (0 : Int32)) hx hb d_q_want_85 (by decide) ?_
          replace h := its h
          obtain ⟨c34, h⟩ := h
          cases h
          exact wo_zret hx hb hr hlk hW c34 d_q_want_86
      · rw [if_pos c11] at h
        exact j_q_want_31 C a0 w h _ _ _ hW (lv_sub hl [0] rfl)
  · rw [if_neg c2] at h
    refine lv_aload_n hx hb d_q_want_9 rfl (lv_at hl 0 rfl) ?_
    replace h := bs h
    obtain ⟨w35, hw35, h⟩ := h
    refine cv_q_240 (As := []) (rest := []) hx hb hml hown hts hK hG hW (c_q_wrong l D cA base hw35) (kb_q_wrong hw35) ⟨Nat.le_of_ble_eq_true rfl, Nat.le_of_ble_eq_true rfl⟩ ⟨Nat.le_of_ble_eq_true rfl, Nat.le_of_ble_eq_true rfl⟩ rfl hl.1 rfl (Nat.le_of_ble_eq_true rfl) d_q_want_10 (fun H locs hW => ?_)
    refine lv_iconst (v := (0 : Int32)) hx hb d_q_want_13 (by decide) ?_
    replace h := its h
    obtain ⟨c36, h⟩ := h
    cases h
    exact wo_zret hx hb hr hlk hW c36 d_q_want_14
abbrev b_q_rank : ByteArray := prog_11_method_20_code
def y_q_rank : MethodName := ⟨"AlarmForgeModel", "rank", "(I)I"⟩
def rm_q_rank : Room := { frames := 0, cells := 0, slots := 0, locals := 0 }
theorem d_q_rank_0 : decode b_q_rank 0 = .ok (.iload_n 0, 1) := by decide +kernel
theorem d_q_rank_1 : decode b_q_rank 1 = .ok (.bipush (43), 2) := by decide +kernel
theorem d_q_rank_3 : decode b_q_rank 3 = .ok (.if_icmp .eq (9), 3) := by decide +kernel
theorem d_q_rank_6 : decode b_q_rank 6 = .ok (.iload_n 0, 1) := by decide +kernel
theorem d_q_rank_7 : decode b_q_rank 7 = .ok (.bipush (45), 2) := by decide +kernel
theorem d_q_rank_9 : decode b_q_rank 9 = .ok (.if_icmp .ne (7), 3) := by decide +kernel
theorem d_q_rank_12 : decode b_q_rank 12 = .ok (.iconst 1, 1) := by decide +kernel
theorem d_q_rank_13 : decode b_q_rank 13 = .ok (.goto (4), 3) := by decide +kernel
theorem d_q_rank_16 : decode b_q_rank 16 = .ok (.iconst 2, 1) := by decide +kernel
theorem d_q_rank_17 : decode b_q_rank 17 = .ok (.ireturn, 1) := by decide +kernel
set_option maxHeartbeats 4000000 in
set_option maxRecDepth 100000 in
theorem j_q_rank_17 {p : Program} {l : Launch} {e : Env} {s : State} {m : MethodId} {args : Array Value} {below : List Frame} {meth : Method} {c : Code} {D : va_G} {cA : Nat → ClassId} {base : Nat} {r : Int32} {w' : WW} (C : cx b_q_rank (some .int) 1 y_q_rank.cls "rank" p s m args meth c D cA base)   : ∀ (z0 : Int32) (w : WW), f_q_rank_17 z0 w = some (r, w') → ∀ (H : Heap) (locs : List Loc) (ls : Array Slot), wo_S D cls cA base s w H locs → lv_has ls 1 [] → W p l e rm_q_rank s m args below meth c H locs 0 0 (MQ below (wo_Q D cls cA base (some (.int r)) w') args s rm_q_rank.cells rm_q_rank.slots (wo_B base)) (F0 m 17 ls [.int z0]) := by
  obtain ⟨hx, hb, hr, hml, hown, hts, hlk, hnm, hK, hG⟩ := id C
  intro z0 w h H locs ls hW hl
  unfold f_q_rank_17 at h
  cases h
  exact wo_iret hx hb hr hlk hW d_q_rank_17
set_option maxHeartbeats 4000000 in
set_option maxRecDepth 100000 in
theorem j_q_rank_12 {p : Program} {l : Launch} {e : Env} {s : State} {m : MethodId} {args : Array Value} {below : List Frame} {meth : Method} {c : Code} {D : va_G} {cA : Nat → ClassId} {base : Nat} {r : Int32} {w' : WW} (C : cx b_q_rank (some .int) 1 y_q_rank.cls "rank" p s m args meth c D cA base)   : ∀  (w : WW), f_q_rank_12  w = some (r, w') → ∀ (H : Heap) (locs : List Loc) (ls : Array Slot), wo_S D cls cA base s w H locs → lv_has ls 1 [] → W p l e rm_q_rank s m args below meth c H locs 0 0 (MQ below (wo_Q D cls cA base (some (.int r)) w') args s rm_q_rank.cells rm_q_rank.slots (wo_B base)) (F0 m 12 ls []) := by
  obtain ⟨hx, hb, hr, hml, hown, hts, hlk, hnm, hK, hG⟩ := id C
  intro  w h H locs ls hW hl
  unfold f_q_rank_12 at h
  refine lv_iconst (v := (1 : Int32)) hx hb d_q_rank_12 (by decide) ?_
  refine lv_goto (tgt := 17) hx hb d_q_rank_13 (by decide) ?_
  exact j_q_rank_17 C (1 : Int32) w h _ _ _ hW (lv_sub hl [] rfl)
set_option maxHeartbeats 4000000 in
set_option maxRecDepth 100000 in
theorem c_q_rank (l : Launch) (D : va_G) (cA : Nat → ClassId) (base : Nat) {a0 : Int32} {w w' : WW} {r : Int32} (h : f_q_rank a0 w = some (r, w')) : mt l D cls (wo_tys cA) cA base y_q_rank (Cond.code y_q_rank b_q_rank 1 (some .int) :: gt) rm_q_rank [.int a0] w (some (.int r)) w' rm_q_rank.cells rm_q_rank.slots := by
  refine mt_start (by decide) (Nat.le_of_ble_eq_true rfl) ?_
  intro p e s m below meth c ls hx hb hr hml hown hts hlk hnm hK hG hW hl
  have C : cx b_q_rank (some .int) 1 y_q_rank.cls "rank" p s m [.int a0].toArray meth c D cA base := ⟨hx, hb, hr, hml, hown, hts, hlk, hnm, hK, hG⟩
  have hl : lv_has ls 1 [(0, .int a0)] := hl
  unfold f_q_rank at h
  refine lv_iload_n hx hb d_q_rank_0 rfl (lv_at hl 0 rfl) ?_
  refine lv_bipush (v := (43 : Int32)) hx hb d_q_rank_1 (by decide) ?_
  refine lv_icmp_eq (tgt := 12) hx hb d_q_rank_3 (by decide) (fun c1 => ?_) (fun c1 => ?_)
  · rw [if_pos c1] at h
    exact j_q_rank_12 C w h _ _ _ hW (lv_sub hl [] rfl)
  · rw [if_neg c1] at h
    refine lv_iload_n hx hb d_q_rank_6 rfl (lv_at hl 0 rfl) ?_
    refine lv_bipush (v := (45 : Int32)) hx hb d_q_rank_7 (by decide) ?_
    refine lv_icmp_ne (tgt := 16) hx hb d_q_rank_9 (by decide) (fun c2 => ?_) (fun c2 => ?_)
    · rw [if_neg c2] at h
      refine lv_iconst (v := (2 : Int32)) hx hb d_q_rank_16 (by decide) ?_
      exact j_q_rank_17 C (2 : Int32) w h _ _ _ hW (lv_sub hl [] rfl)
    · rw [if_pos c2] at h
      exact j_q_rank_12 C w h _ _ _ hW (lv_sub hl [] rfl)
abbrev b_q_stepOf : ByteArray := prog_11_method_21_code
def y_q_stepOf : MethodName := ⟨"AlarmForgeModel", "stepOf", "(I)I"⟩
def rm_q_stepOf : Room := { frames := 0, cells := 0, slots := 0, locals := 0 }
theorem d_q_stepOf_0 : decode b_q_stepOf 0 = .ok (.iload_n 0, 1) := by decide +kernel
theorem d_q_stepOf_1 : decode b_q_stepOf 1 = .ok (.bipush (43), 2) := by decide +kernel
theorem d_q_stepOf_3 : decode b_q_stepOf 3 = .ok (.if_icmp .ne (7), 3) := by decide +kernel
theorem d_q_stepOf_6 : decode b_q_stepOf 6 = .ok (.iconst 5, 1) := by decide +kernel
theorem d_q_stepOf_7 : decode b_q_stepOf 7 = .ok (.goto (38), 3) := by decide +kernel
theorem d_q_stepOf_10 : decode b_q_stepOf 10 = .ok (.iload_n 0, 1) := by decide +kernel
theorem d_q_stepOf_11 : decode b_q_stepOf 11 = .ok (.bipush (45), 2) := by decide +kernel
theorem d_q_stepOf_13 : decode b_q_stepOf 13 = .ok (.if_icmp .ne (8), 3) := by decide +kernel
theorem d_q_stepOf_16 : decode b_q_stepOf 16 = .ok (.bipush (6), 2) := by decide +kernel
theorem d_q_stepOf_18 : decode b_q_stepOf 18 = .ok (.goto (27), 3) := by decide +kernel
theorem d_q_stepOf_21 : decode b_q_stepOf 21 = .ok (.iload_n 0, 1) := by decide +kernel
theorem d_q_stepOf_22 : decode b_q_stepOf 22 = .ok (.bipush (42), 2) := by decide +kernel
theorem d_q_stepOf_24 : decode b_q_stepOf 24 = .ok (.if_icmp .ne (8), 3) := by decide +kernel
theorem d_q_stepOf_27 : decode b_q_stepOf 27 = .ok (.bipush (7), 2) := by decide +kernel
theorem d_q_stepOf_29 : decode b_q_stepOf 29 = .ok (.goto (16), 3) := by decide +kernel
theorem d_q_stepOf_32 : decode b_q_stepOf 32 = .ok (.iload_n 0, 1) := by decide +kernel
theorem d_q_stepOf_33 : decode b_q_stepOf 33 = .ok (.bipush (47), 2) := by decide +kernel
theorem d_q_stepOf_35 : decode b_q_stepOf 35 = .ok (.if_icmp .ne (8), 3) := by decide +kernel
theorem d_q_stepOf_38 : decode b_q_stepOf 38 = .ok (.bipush (8), 2) := by decide +kernel
theorem d_q_stepOf_40 : decode b_q_stepOf 40 = .ok (.goto (5), 3) := by decide +kernel
theorem d_q_stepOf_43 : decode b_q_stepOf 43 = .ok (.bipush (9), 2) := by decide +kernel
theorem d_q_stepOf_45 : decode b_q_stepOf 45 = .ok (.ireturn, 1) := by decide +kernel
set_option maxHeartbeats 4000000 in
set_option maxRecDepth 100000 in
theorem j_q_stepOf_45 {p : Program} {l : Launch} {e : Env} {s : State} {m : MethodId} {args : Array Value} {below : List Frame} {meth : Method} {c : Code} {D : va_G} {cA : Nat → ClassId} {base : Nat} {r : Int32} {w' : WW} (C : cx b_q_stepOf (some .int) 1 y_q_stepOf.cls "stepOf" p s m args meth c D cA base)   : ∀ (z0 : Int32) (w : WW), f_q_stepOf_45 z0 w = some (r, w') → ∀ (H : Heap) (locs : List Loc) (ls : Array Slot), wo_S D cls cA base s w H locs → lv_has ls 1 [] → W p l e rm_q_stepOf s m args below meth c H locs 0 0 (MQ below (wo_Q D cls cA base (some (.int r)) w') args s rm_q_stepOf.cells rm_q_stepOf.slots (wo_B base)) (F0 m 45 ls [.int z0]) := by
  obtain ⟨hx, hb, hr, hml, hown, hts, hlk, hnm, hK, hG⟩ := id C
  intro z0 w h H locs ls hW hl
  unfold f_q_stepOf_45 at h
  cases h
  exact wo_iret hx hb hr hlk hW d_q_stepOf_45
set_option maxHeartbeats 4000000 in
set_option maxRecDepth 100000 in
theorem c_q_stepOf (l : Launch) (D : va_G) (cA : Nat → ClassId) (base : Nat) {a0 : Int32} {w w' : WW} {r : Int32} (h : f_q_stepOf a0 w = some (r, w')) : mt l D cls (wo_tys cA) cA base y_q_stepOf (Cond.code y_q_stepOf b_q_stepOf 1 (some .int) :: gt) rm_q_stepOf [.int a0] w (some (.int r)) w' rm_q_stepOf.cells rm_q_stepOf.slots := by
  refine mt_start (by decide) (Nat.le_of_ble_eq_true rfl) ?_
  intro p e s m below meth c ls hx hb hr hml hown hts hlk hnm hK hG hW hl
  have C : cx b_q_stepOf (some .int) 1 y_q_stepOf.cls "stepOf" p s m [.int a0].toArray meth c D cA base := ⟨hx, hb, hr, hml, hown, hts, hlk, hnm, hK, hG⟩
  have hl : lv_has ls 1 [(0, .int a0)] := hl
  unfold f_q_stepOf at h
  refine lv_iload_n hx hb d_q_stepOf_0 rfl (lv_at hl 0 rfl) ?_
  refine lv_bipush (v := (43 : Int32)) hx hb d_q_stepOf_1 (by decide) ?_
  refine lv_icmp_ne (tgt := 10) hx hb d_q_stepOf_3 (by decide) (fun c1 => ?_) (fun c1 => ?_)
  · rw [if_neg c1] at h
    refine lv_iload_n hx hb d_q_stepOf_10 rfl (lv_at hl 0 rfl) ?_
    refine lv_bipush (v := (45 : Int32)) hx hb d_q_stepOf_11 (by decide) ?_
    refine lv_icmp_ne (tgt := 21) hx hb d_q_stepOf_13 (by decide) (fun c2 => ?_) (fun c2 => ?_)
    · rw [if_neg c2] at h
      refine lv_iload_n hx hb d_q_stepOf_21 rfl (lv_at hl 0 rfl) ?_
      refine lv_bipush (v := (42 : Int32)) hx hb d_q_stepOf_22 (by decide) ?_
      refine lv_icmp_ne (tgt := 32) hx hb d_q_stepOf_24 (by decide) (fun c3 => ?_) (fun c3 => ?_)
      · rw [if_neg c3] at h
        refine lv_iload_n hx hb d_q_stepOf_32 rfl (lv_at hl 0 rfl) ?_
        refine lv_bipush (v := (47 : Int32)) hx hb d_q_stepOf_33 (by decide) ?_
        refine lv_icmp_ne (tgt := 43) hx hb d_q_stepOf_35 (by decide) (fun c4 => ?_) (fun c4 => ?_)
        · rw [if_neg c4] at h
          refine lv_bipush (v := (9 : Int32)) hx hb d_q_stepOf_43 (by decide) ?_
          exact j_q_stepOf_45 C (9 : Int32) w h _ _ _ hW (lv_sub hl [] rfl)
        · rw [if_pos c4] at h
          refine lv_bipush (v := (8 : Int32)) hx hb d_q_stepOf_38 (by decide) ?_
          refine lv_goto (tgt := 45) hx hb d_q_stepOf_40 (by decide) ?_
          exact j_q_stepOf_45 C (8 : Int32) w h _ _ _ hW (lv_sub hl [] rfl)
      · rw [if_pos c3] at h
        refine lv_bipush (v := (7 : Int32)) hx hb d_q_stepOf_27 (by decide) ?_
        refine lv_goto (tgt := 45) hx hb d_q_stepOf_29 (by decide) ?_
        exact j_q_stepOf_45 C (7 : Int32) w h _ _ _ hW (lv_sub hl [] rfl)
    · rw [if_pos c2] at h
      refine lv_bipush (v := (6 : Int32)) hx hb d_q_stepOf_16 (by decide) ?_
      refine lv_goto (tgt := 45) hx hb d_q_stepOf_18 (by decide) ?_
      exact j_q_stepOf_45 C (6 : Int32) w h _ _ _ hW (lv_sub hl [] rfl)
  · rw [if_pos c1] at h
    refine lv_iconst (v := (5 : Int32)) hx hb d_q_stepOf_6 (by decide) ?_
    refine lv_goto (tgt := 45) hx hb d_q_stepOf_7 (by decide) ?_
    exact j_q_stepOf_45 C (5 : Int32) w h _ _ _ hW (lv_sub hl [] rfl)
theorem cs_q_252 {p : Program} {l : Launch} {e : Env} {R : Room} {s : State} {m : MethodId} {args : Array Value} {below : List Frame} {meth : Method} {c : Code} {H : Heap} {locs : List Loc} {cells slots : Nat} {Q : State → Prop} {D : va_G} {cA : Nat → ClassId} {base : Nat} {w w' : WW} {cc : ByteArray} {pc nL : Nat} {ls : Array Slot} {rest st0 As : List Value} {ov : Option Value} (hx : p.tables.exec = Jvm.exec) (hb : c.code = cc) (hml : c.maxLocals = nL) (hown : s.vm.findClass Rc_q = some m.cls) (hts : ∀ w ∈ gt, w.before args s = true) (hK : va_K D cls (wo_tys cA) s) (hG : wo_G cA base s) (hW : wo_S D cls cA base s w H locs) (hM : mt l D cls (wo_tys cA) cA base y_q_rank (Cond.code y_q_rank b_q_rank 1 (some .int) :: gt) rm_q_rank (As) w ov w' rm_q_rank.cells rm_q_rank.slots) (hR : rm_q_rank.frames + 1 ≤ R.frames ∧ 8 + (1 + 11) + rm_q_rank.locals ≤ R.locals) (hf : cells + rm_q_rank.cells ≤ R.cells ∧ slots + rm_q_rank.slots ≤ R.slots) (hn : As.length = 1) (hsz : ls.size = nL) (hst : st0 = As.reverse ++ rest) (hcat : (rest.map fun v => v.category).sum ≤ 8) (hdg : decode cc pc = .ok (.invokestatic 252, 3)) (kk : ∀ (H1 : Heap) (locs1 : List Loc), wo_S D cls cA base s w' H1 locs1 → W p l e R s m args below meth c H1 locs1 (cells + rm_q_rank.cells) (slots + rm_q_rank.slots) Q (F0 m (pc + 3) ls (ov.toList ++ rest))) : W p l e R s m args below meth c H locs cells slots Q (F0 m pc ls st0) :=
  wo_callS hx hb hml hown hts hK hG hW hM (gt_of (i := 1484) (by decide +kernel) (by decide +kernel)) (gt_of (i := 1485) (by decide +kernel) (by decide +kernel)) (gt_of (i := 10) (by decide +kernel) (by decide +kernel)) (gt_of (i := 1486) (by decide +kernel) (by decide +kernel)) (by decide +kernel) hR hf hn hsz hst hcat hdg kk
theorem cs_q_255 {p : Program} {l : Launch} {e : Env} {R : Room} {s : State} {m : MethodId} {args : Array Value} {below : List Frame} {meth : Method} {c : Code} {H : Heap} {locs : List Loc} {cells slots : Nat} {Q : State → Prop} {D : va_G} {cA : Nat → ClassId} {base : Nat} {w w' : WW} {cc : ByteArray} {pc nL : Nat} {ls : Array Slot} {rest st0 As : List Value} {ov : Option Value} (hx : p.tables.exec = Jvm.exec) (hb : c.code = cc) (hml : c.maxLocals = nL) (hown : s.vm.findClass Rc_q = some m.cls) (hts : ∀ w ∈ gt, w.before args s = true) (hK : va_K D cls (wo_tys cA) s) (hG : wo_G cA base s) (hW : wo_S D cls cA base s w H locs) (hM : mt l D cls (wo_tys cA) cA base y_q_stepOf (Cond.code y_q_stepOf b_q_stepOf 1 (some .int) :: gt) rm_q_stepOf (As) w ov w' rm_q_stepOf.cells rm_q_stepOf.slots) (hR : rm_q_stepOf.frames + 1 ≤ R.frames ∧ 8 + (1 + 11) + rm_q_stepOf.locals ≤ R.locals) (hf : cells + rm_q_stepOf.cells ≤ R.cells ∧ slots + rm_q_stepOf.slots ≤ R.slots) (hn : As.length = 1) (hsz : ls.size = nL) (hst : st0 = As.reverse ++ rest) (hcat : (rest.map fun v => v.category).sum ≤ 8) (hdg : decode cc pc = .ok (.invokestatic 255, 3)) (kk : ∀ (H1 : Heap) (locs1 : List Loc), wo_S D cls cA base s w' H1 locs1 → W p l e R s m args below meth c H1 locs1 (cells + rm_q_stepOf.cells) (slots + rm_q_stepOf.slots) Q (F0 m (pc + 3) ls (ov.toList ++ rest))) : W p l e R s m args below meth c H locs cells slots Q (F0 m pc ls st0) :=
  wo_callS hx hb hml hown hts hK hG hW hM (gt_of (i := 1491) (by decide +kernel) (by decide +kernel)) (gt_of (i := 1492) (by decide +kernel) (by decide +kernel)) (gt_of (i := 10) (by decide +kernel) (by decide +kernel)) (gt_of (i := 1493) (by decide +kernel) (by decide +kernel)) (by decide +kernel) hR hf hn hsz hst hcat hdg kk
abbrev b_q_reduce : ByteArray := prog_11_method_22_code
def y_q_reduce : MethodName := ⟨"AlarmForgeModel", "reduce", "(I)V"⟩
def rm_q_reduce : Room := { frames := 1, cells := 0, slots := 0, locals := 24 }
theorem d_q_reduce_0 : decode b_q_reduce 0 = .ok (.aload_n 0, 1) := by decide +kernel
theorem d_q_reduce_1 : decode b_q_reduce 1 = .ok (.getfield 246, 3) := by decide +kernel
theorem d_q_reduce_4 : decode b_q_reduce 4 = .ok (.ifCond .le (146), 3) := by decide +kernel
theorem d_q_reduce_7 : decode b_q_reduce 7 = .ok (.aload_n 0, 1) := by decide +kernel
theorem d_q_reduce_8 : decode b_q_reduce 8 = .ok (.getfield 90, 3) := by decide +kernel
theorem d_q_reduce_11 : decode b_q_reduce 11 = .ok (.aload_n 0, 1) := by decide +kernel
theorem d_q_reduce_12 : decode b_q_reduce 12 = .ok (.getfield 246, 3) := by decide +kernel
theorem d_q_reduce_15 : decode b_q_reduce 15 = .ok (.iconst 1, 1) := by decide +kernel
theorem d_q_reduce_16 : decode b_q_reduce 16 = .ok (.isub, 1) := by decide +kernel
theorem d_q_reduce_17 : decode b_q_reduce 17 = .ok (.iaload, 1) := by decide +kernel
theorem d_q_reduce_18 : decode b_q_reduce 18 = .ok (.iconst 4, 1) := by decide +kernel
theorem d_q_reduce_19 : decode b_q_reduce 19 = .ok (.if_icmp .ne (131), 3) := by decide +kernel
theorem d_q_reduce_22 : decode b_q_reduce 22 = .ok (.aload_n 0, 1) := by decide +kernel
theorem d_q_reduce_23 : decode b_q_reduce 23 = .ok (.getfield 96, 3) := by decide +kernel
theorem d_q_reduce_26 : decode b_q_reduce 26 = .ok (.aload_n 0, 1) := by decide +kernel
theorem d_q_reduce_27 : decode b_q_reduce 27 = .ok (.getfield 246, 3) := by decide +kernel
theorem d_q_reduce_30 : decode b_q_reduce 30 = .ok (.iconst 1, 1) := by decide +kernel
theorem d_q_reduce_31 : decode b_q_reduce 31 = .ok (.isub, 1) := by decide +kernel
theorem d_q_reduce_32 : decode b_q_reduce 32 = .ok (.iaload, 1) := by decide +kernel
theorem d_q_reduce_33 : decode b_q_reduce 33 = .ok (.invokestatic 252, 3) := by decide +kernel
theorem d_q_reduce_36 : decode b_q_reduce 36 = .ok (.iload_n 1, 1) := by decide +kernel
theorem d_q_reduce_37 : decode b_q_reduce 37 = .ok (.if_icmp .lt (113), 3) := by decide +kernel
theorem d_q_reduce_40 : decode b_q_reduce 40 = .ok (.aload_n 0, 1) := by decide +kernel
theorem d_q_reduce_41 : decode b_q_reduce 41 = .ok (.dup, 1) := by decide +kernel
theorem d_q_reduce_42 : decode b_q_reduce 42 = .ok (.getfield 246, 3) := by decide +kernel
theorem d_q_reduce_45 : decode b_q_reduce 45 = .ok (.iconst 1, 1) := by decide +kernel
theorem d_q_reduce_46 : decode b_q_reduce 46 = .ok (.isub, 1) := by decide +kernel
theorem d_q_reduce_47 : decode b_q_reduce 47 = .ok (.putfield 246, 3) := by decide +kernel
theorem d_q_reduce_50 : decode b_q_reduce 50 = .ok (.aload_n 0, 1) := by decide +kernel
theorem d_q_reduce_51 : decode b_q_reduce 51 = .ok (.aload_n 0, 1) := by decide +kernel
theorem d_q_reduce_52 : decode b_q_reduce 52 = .ok (.getfield 96, 3) := by decide +kernel
theorem d_q_reduce_55 : decode b_q_reduce 55 = .ok (.aload_n 0, 1) := by decide +kernel
theorem d_q_reduce_56 : decode b_q_reduce 56 = .ok (.getfield 246, 3) := by decide +kernel
theorem d_q_reduce_59 : decode b_q_reduce 59 = .ok (.iaload, 1) := by decide +kernel
theorem d_q_reduce_60 : decode b_q_reduce 60 = .ok (.invokestatic 255, 3) := by decide +kernel
theorem d_q_reduce_63 : decode b_q_reduce 63 = .ok (.iconst 0, 1) := by decide +kernel
theorem d_q_reduce_64 : decode b_q_reduce 64 = .ok (.aload_n 0, 1) := by decide +kernel
theorem d_q_reduce_65 : decode b_q_reduce 65 = .ok (.getfield 93, 3) := by decide +kernel
theorem d_q_reduce_68 : decode b_q_reduce 68 = .ok (.aload_n 0, 1) := by decide +kernel
theorem d_q_reduce_69 : decode b_q_reduce 69 = .ok (.getfield 246, 3) := by decide +kernel
theorem d_q_reduce_72 : decode b_q_reduce 72 = .ok (.iaload, 1) := by decide +kernel
theorem d_q_reduce_73 : decode b_q_reduce 73 = .ok (.invokevirtual 258, 3) := by decide +kernel
theorem d_q_reduce_76 : decode b_q_reduce 76 = .ok (.aload_n 0, 1) := by decide +kernel
theorem d_q_reduce_77 : decode b_q_reduce 77 = .ok (.dup, 1) := by decide +kernel
theorem d_q_reduce_78 : decode b_q_reduce 78 = .ok (.getfield 262, 3) := by decide +kernel
theorem d_q_reduce_81 : decode b_q_reduce 81 = .ok (.iconst 1, 1) := by decide +kernel
theorem d_q_reduce_82 : decode b_q_reduce 82 = .ok (.isub, 1) := by decide +kernel
theorem d_q_reduce_83 : decode b_q_reduce 83 = .ok (.putfield 262, 3) := by decide +kernel
theorem d_q_reduce_86 : decode b_q_reduce 86 = .ok (.aload_n 0, 1) := by decide +kernel
theorem d_q_reduce_87 : decode b_q_reduce 87 = .ok (.getfield 99, 3) := by decide +kernel
theorem d_q_reduce_90 : decode b_q_reduce 90 = .ok (.aload_n 0, 1) := by decide +kernel
theorem d_q_reduce_91 : decode b_q_reduce 91 = .ok (.getfield 262, 3) := by decide +kernel
theorem d_q_reduce_94 : decode b_q_reduce 94 = .ok (.iaload, 1) := by decide +kernel
theorem d_q_reduce_95 : decode b_q_reduce 95 = .ok (.aload_n 0, 1) := by decide +kernel
theorem d_q_reduce_96 : decode b_q_reduce 96 = .ok (.getfield 99, 3) := by decide +kernel
theorem d_q_reduce_99 : decode b_q_reduce 99 = .ok (.aload_n 0, 1) := by decide +kernel
theorem d_q_reduce_100 : decode b_q_reduce 100 = .ok (.getfield 262, 3) := by decide +kernel
theorem d_q_reduce_103 : decode b_q_reduce 103 = .ok (.iconst 1, 1) := by decide +kernel
theorem d_q_reduce_104 : decode b_q_reduce 104 = .ok (.isub, 1) := by decide +kernel
theorem d_q_reduce_105 : decode b_q_reduce 105 = .ok (.iaload, 1) := by decide +kernel
theorem d_q_reduce_106 : decode b_q_reduce 106 = .ok (.if_icmp .le (15), 3) := by decide +kernel
theorem d_q_reduce_109 : decode b_q_reduce 109 = .ok (.aload_n 0, 1) := by decide +kernel
theorem d_q_reduce_110 : decode b_q_reduce 110 = .ok (.getfield 99, 3) := by decide +kernel
theorem d_q_reduce_113 : decode b_q_reduce 113 = .ok (.aload_n 0, 1) := by decide +kernel
theorem d_q_reduce_114 : decode b_q_reduce 114 = .ok (.getfield 262, 3) := by decide +kernel
theorem d_q_reduce_117 : decode b_q_reduce 117 = .ok (.iaload, 1) := by decide +kernel
theorem d_q_reduce_118 : decode b_q_reduce 118 = .ok (.goto (14), 3) := by decide +kernel
theorem d_q_reduce_121 : decode b_q_reduce 121 = .ok (.aload_n 0, 1) := by decide +kernel
theorem d_q_reduce_122 : decode b_q_reduce 122 = .ok (.getfield 99, 3) := by decide +kernel
theorem d_q_reduce_125 : decode b_q_reduce 125 = .ok (.aload_n 0, 1) := by decide +kernel
theorem d_q_reduce_126 : decode b_q_reduce 126 = .ok (.getfield 262, 3) := by decide +kernel
theorem d_q_reduce_129 : decode b_q_reduce 129 = .ok (.iconst 1, 1) := by decide +kernel
theorem d_q_reduce_130 : decode b_q_reduce 130 = .ok (.isub, 1) := by decide +kernel
theorem d_q_reduce_131 : decode b_q_reduce 131 = .ok (.iaload, 1) := by decide +kernel
theorem d_q_reduce_132 : decode b_q_reduce 132 = .ok (.istore_n 2, 1) := by decide +kernel
theorem d_q_reduce_133 : decode b_q_reduce 133 = .ok (.aload_n 0, 1) := by decide +kernel
theorem d_q_reduce_134 : decode b_q_reduce 134 = .ok (.getfield 99, 3) := by decide +kernel
theorem d_q_reduce_137 : decode b_q_reduce 137 = .ok (.aload_n 0, 1) := by decide +kernel
theorem d_q_reduce_138 : decode b_q_reduce 138 = .ok (.getfield 262, 3) := by decide +kernel
theorem d_q_reduce_141 : decode b_q_reduce 141 = .ok (.iconst 1, 1) := by decide +kernel
theorem d_q_reduce_142 : decode b_q_reduce 142 = .ok (.isub, 1) := by decide +kernel
theorem d_q_reduce_143 : decode b_q_reduce 143 = .ok (.iload_n 2, 1) := by decide +kernel
theorem d_q_reduce_144 : decode b_q_reduce 144 = .ok (.iconst 1, 1) := by decide +kernel
theorem d_q_reduce_145 : decode b_q_reduce 145 = .ok (.iadd, 1) := by decide +kernel
theorem d_q_reduce_146 : decode b_q_reduce 146 = .ok (.iastore, 1) := by decide +kernel
theorem d_q_reduce_147 : decode b_q_reduce 147 = .ok (.goto (-147), 3) := by decide +kernel
theorem d_q_reduce_150 : decode b_q_reduce 150 = .ok (.return_, 1) := by decide +kernel
theorem kb_q_reduce {a0 : Nat} {a1 : Int32} {w : WW} {r : WW} (h : f_q_reduce a0 a1 w = some r) : kb w a0 9 = true := (its h).1
set_option maxHeartbeats 4000000 in
set_option maxRecDepth 100000 in
theorem j_q_reduce_150 {p : Program} {l : Launch} {e : Env} {s : State} {m : MethodId} {args : Array Value} {below : List Frame} {meth : Method} {c : Code} {D : va_G} {cA : Nat → ClassId} {base : Nat} {w' : WW} (C : cx b_q_reduce (none) 3 y_q_reduce.cls "reduce" p s m args meth c D cA base)   : ∀  (w : WW), f_q_reduce_150  w = some w' → ∀ (H : Heap) (locs : List Loc) (ls : Array Slot), wo_S D cls cA base s w H locs → lv_has ls 3 [] → W p l e rm_q_reduce s m args below meth c H locs 0 0 (MQ below (wo_Q D cls cA base none w') args s rm_q_reduce.cells rm_q_reduce.slots (wo_B base)) (F0 m 150 ls []) := by
  obtain ⟨hx, hb, hr, hml, hown, hts, hlk, hnm, hK, hG⟩ := id C
  intro  w h H locs ls hW hl
  unfold f_q_reduce_150 at h
  cases h
  exact wo_vret hx hb hr hlk hW d_q_reduce_150
set_option maxHeartbeats 4000000 in
set_option maxRecDepth 100000 in
theorem j_q_reduce_132 {p : Program} {l : Launch} {e : Env} {s : State} {m : MethodId} {args : Array Value} {below : List Frame} {meth : Method} {c : Code} {D : va_G} {cA : Nat → ClassId} {base : Nat} {w' : WW} (C : cx b_q_reduce (none) 3 y_q_reduce.cls "reduce" p s m args meth c D cA base) {k_0 : Nat → Int32 → WW → Option WW} (hk_0 : ∀ (y0 : Nat) (y1 : Int32) (w : WW), k_0 y0 y1 w = some w' → ∀ (H : Heap) (locs : List Loc) (ls : Array Slot), wo_S D cls cA base s w H locs → lv_has ls 3 [(0, .ref (base + y0)), (1, .int y1)] → W p l e rm_q_reduce s m args below meth c H locs 0 0 (MQ below (wo_Q D cls cA base none w') args s rm_q_reduce.cells rm_q_reduce.slots (wo_B base)) (F0 m 0 ls [])) : ∀ (y0 : Nat) (y1 : Int32) (z0 : Int32) (w : WW), f_q_reduce_132 k_0 y0 y1 z0 w = some w' → ∀ (H : Heap) (locs : List Loc) (ls : Array Slot), wo_S D cls cA base s w H locs → lv_has ls 3 [(0, .ref (base + y0)), (1, .int y1)] → W p l e rm_q_reduce s m args below meth c H locs 0 0 (MQ below (wo_Q D cls cA base none w') args s rm_q_reduce.cells rm_q_reduce.slots (wo_B base)) (F0 m 132 ls [.int z0]) := by
  obtain ⟨hx, hb, hr, hml, hown, hts, hlk, hnm, hK, hG⟩ := id C
  intro y0 y1 z0 w h H locs ls hW hl
  unfold f_q_reduce_132 at h
  refine lv_istore_n (lv' := [(2, .int z0), (0, .ref (base + y0)), (1, .int y1)]) hx hb d_q_reduce_132 rfl hl (by decide) rfl (fun ls hl => ?_)
  refine lv_aload_n hx hb d_q_reduce_133 rfl (lv_at hl 1 rfl) ?_
  replace h := bs h
  obtain ⟨x36, hx36, h⟩ := h
  refine gf_q_99 hx hb hts hown hK hG hW (gN_s hx36) d_q_reduce_134 ?_
  refine lv_aload_n hx hb d_q_reduce_137 rfl (lv_at hl 1 rfl) ?_
  replace h := bs h
  obtain ⟨x37, hx37, h⟩ := h
  refine gf_q_262 hx hb hts hown hK hG hW (gI_s hx37) d_q_reduce_138 ?_
  refine lv_iconst (v := (1 : Int32)) hx hb d_q_reduce_141 (by decide) ?_
  refine lv_isub hx hb d_q_reduce_142 ?_
  refine lv_iload_n hx hb d_q_reduce_143 rfl (lv_at hl 0 rfl) ?_
  refine lv_iconst (v := (1 : Int32)) hx hb d_q_reduce_144 (by decide) ?_
  refine lv_iadd hx hb d_q_reduce_145 ?_
  replace h := bs h
  obtain ⟨w38, hw38, h⟩ := h
  refine wo_iast hx hb hK hW (t := 0) rfl hw38 d_q_reduce_146 (fun H locs hW => ?_)
  refine lv_goto (tgt := 0) hx hb d_q_reduce_147 (by decide) ?_
  exact hk_0 y0 y1 w38 h _ _ _ hW (lv_sub hl [1, 2] rfl)
set_option maxHeartbeats 4000000 in
set_option maxRecDepth 100000 in
theorem j_q_reduce_0 {p : Program} {l : Launch} {e : Env} {s : State} {m : MethodId} {args : Array Value} {below : List Frame} {meth : Method} {c : Code} {D : va_G} {cA : Nat → ClassId} {base : Nat} {w' : WW} (C : cx b_q_reduce (none) 3 y_q_reduce.cls "reduce" p s m args meth c D cA base)   : ∀ n : Nat, ∀ (y0 : Nat) (y1 : Int32) (w : WW), f_q_reduce_0 n y0 y1 w = some w' → ∀ (H : Heap) (locs : List Loc) (ls : Array Slot), wo_S D cls cA base s w H locs → lv_has ls 3 [(0, .ref (base + y0)), (1, .int y1)] → W p l e rm_q_reduce s m args below meth c H locs 0 0 (MQ below (wo_Q D cls cA base none w') args s rm_q_reduce.cells rm_q_reduce.slots (wo_B base)) (F0 m 0 ls []) := by
  obtain ⟨hx, hb, hr, hml, hown, hts, hlk, hnm, hK, hG⟩ := id C
  intro n
  induction n with
  | zero => intro y0 y1 w h; cases h
  | succ n ih =>
    intro y0 y1 w h H locs ls hW hl
    rw [f_q_reduce_0] at h
    refine lv_aload_n hx hb d_q_reduce_0 rfl (lv_at hl 0 rfl) ?_
    replace h := bs h
    obtain ⟨x1, hx1, h⟩ := h
    refine gf_q_246 hx hb hts hown hK hG hW (gI_s hx1) d_q_reduce_1 ?_
    refine lv_if_le (tgt := 150) hx hb d_q_reduce_4 (by decide) (fun c2 => ?_) (fun c2 => ?_)
    · rw [if_pos c2] at h
      exact j_q_reduce_150 C w h _ _ _ hW (lv_sub hl [] rfl)
    · rw [if_neg c2] at h
      refine lv_aload_n hx hb d_q_reduce_7 rfl (lv_at hl 0 rfl) ?_
      replace h := bs h
      obtain ⟨x3, hx3, h⟩ := h
      refine gf_q_90 hx hb hts hown hK hG hW (gN_s hx3) d_q_reduce_8 ?_
      refine lv_aload_n hx hb d_q_reduce_11 rfl (lv_at hl 0 rfl) ?_
      replace h := bs h
      obtain ⟨x4, hx4, h⟩ := h
      refine gf_q_246 hx hb hts hown hK hG hW (gI_s hx4) d_q_reduce_12 ?_
      refine lv_iconst (v := (1 : Int32)) hx hb d_q_reduce_15 (by decide) ?_
      refine lv_isub hx hb d_q_reduce_16 ?_
      replace h := bs h
      obtain ⟨x5, hx5, h⟩ := h
      refine wo_iald hx hb hK hW (t := 0) rfl hx5 d_q_reduce_17 ?_
      refine lv_iconst (v := (4 : Int32)) hx hb d_q_reduce_18 (by decide) ?_
      refine lv_icmp_ne (tgt := 150) hx hb d_q_reduce_19 (by decide) (fun c6 => ?_) (fun c6 => ?_)
      · rw [if_neg c6] at h
        exact j_q_reduce_150 C w h _ _ _ hW (lv_sub hl [] rfl)
      · rw [if_pos c6] at h
        refine lv_aload_n hx hb d_q_reduce_22 rfl (lv_at hl 0 rfl) ?_
        replace h := bs h
        obtain ⟨x7, hx7, h⟩ := h
        refine gf_q_96 hx hb hts hown hK hG hW (gN_s hx7) d_q_reduce_23 ?_
        refine lv_aload_n hx hb d_q_reduce_26 rfl (lv_at hl 0 rfl) ?_
        replace h := bs h
        obtain ⟨x8, hx8, h⟩ := h
        refine gf_q_246 hx hb hts hown hK hG hW (gI_s hx8) d_q_reduce_27 ?_
        refine lv_iconst (v := (1 : Int32)) hx hb d_q_reduce_30 (by decide) ?_
        refine lv_isub hx hb d_q_reduce_31 ?_
        replace h := bs h
        obtain ⟨x9, hx9, h⟩ := h
        refine wo_iald hx hb hK hW (t := 0) rfl hx9 d_q_reduce_32 ?_
        replace h := bs2 h
        obtain ⟨x11, w10, hw10, h⟩ := h
        refine cs_q_252 (As := [.int x9]) (rest := []) hx hb hml hown hts hK hG hW (c_q_rank l D cA base hw10) ⟨Nat.le_of_ble_eq_true rfl, Nat.le_of_ble_eq_true rfl⟩ ⟨Nat.le_of_ble_eq_true rfl, Nat.le_of_ble_eq_true rfl⟩ rfl hl.1 rfl (Nat.le_of_ble_eq_true rfl) d_q_reduce_33 (fun H locs hW => ?_)
        refine lv_iload_n hx hb d_q_reduce_36 rfl (lv_at hl 1 rfl) ?_
        refine lv_icmp_lt (tgt := 150) hx hb d_q_reduce_37 (by decide) (fun c12 => ?_) (fun c12 => ?_)
        · rw [if_pos c12] at h
          exact j_q_reduce_150 C w10 h _ _ _ hW (lv_sub hl [] rfl)
        · rw [if_neg c12] at h
          refine lv_aload_n hx hb d_q_reduce_40 rfl (lv_at hl 0 rfl) ?_
          refine lv_dup hx hb d_q_reduce_41 rfl ?_
          replace h := bs h
          obtain ⟨x13, hx13, h⟩ := h
          refine gf_q_246 hx hb hts hown hK hG hW (gI_s hx13) d_q_reduce_42 ?_
          refine lv_iconst (v := (1 : Int32)) hx hb d_q_reduce_45 (by decide) ?_
          refine lv_isub hx hb d_q_reduce_46 ?_
          replace h := bs h
          obtain ⟨w14, hw14, h⟩ := h
          refine pf_q_246 hx hb hts hown hK hG hW rfl rfl (pbi hw14 rfl) d_q_reduce_47 (fun H locs hW => ?_)
          refine lv_aload_n hx hb d_q_reduce_50 rfl (lv_at hl 0 rfl) ?_
          refine lv_aload_n hx hb d_q_reduce_51 rfl (lv_at hl 0 rfl) ?_
          replace h := bs h
          obtain ⟨x15, hx15, h⟩ := h
          refine gf_q_96 hx hb hts hown hK hG hW (gN_s hx15) d_q_reduce_52 ?_
          refine lv_aload_n hx hb d_q_reduce_55 rfl (lv_at hl 0 rfl) ?_
          replace h := bs h
          obtain ⟨x16, hx16, h⟩ := h
          refine gf_q_246 hx hb hts hown hK hG hW (gI_s hx16) d_q_reduce_56 ?_
          replace h := bs h
          obtain ⟨x17, hx17, h⟩ := h
          refine wo_iald hx hb hK hW (t := 0) rfl hx17 d_q_reduce_59 ?_
          replace h := bs2 h
          obtain ⟨x19, w18, hw18, h⟩ := h
          refine cs_q_255 (As := [.int x17]) (rest := [.ref (base + y0)]) hx hb hml hown hts hK hG hW (c_q_stepOf l D cA base hw18) ⟨Nat.le_of_ble_eq_true rfl, Nat.le_of_ble_eq_true rfl⟩ ⟨Nat.le_of_ble_eq_true rfl, Nat.le_of_ble_eq_true rfl⟩ rfl hl.1 rfl (Nat.le_of_ble_eq_true rfl) d_q_reduce_60 (fun H locs hW => ?_)
          refine lv_iconst (v := (0 : Int32)) hx hb d_q_reduce_63 (by decide) ?_
          refine lv_aload_n hx hb d_q_reduce_64 rfl (lv_at hl 0 rfl) ?_
          replace h := bs h
          obtain ⟨x20, hx20, h⟩ := h
          refine gf_q_93 hx hb hts hown hK hG hW (gN_s hx20) d_q_reduce_65 ?_
          refine lv_aload_n hx hb d_q_reduce_68 rfl (lv_at hl 0 rfl) ?_
          replace h := bs h
          obtain ⟨x21, hx21, h⟩ := h
          refine gf_q_246 hx hb hts hown hK hG hW (gI_s hx21) d_q_reduce_69 ?_
          replace h := bs h
          obtain ⟨x22, hx22, h⟩ := h
          refine wo_iald hx hb hK hW (t := 0) rfl hx22 d_q_reduce_72 ?_
          replace h := bs h
          obtain ⟨w23, hw23, h⟩ := h
          refine cv_q_258 (As := [.int x19, .int (0 : Int32), .int x22]) (rest := []) hx hb hml hown hts hK hG hW (c_q_emit l D cA base hw23) (kb_q_emit hw23) ⟨Nat.le_of_ble_eq_true rfl, Nat.le_of_ble_eq_true rfl⟩ ⟨Nat.le_of_ble_eq_true rfl, Nat.le_of_ble_eq_true rfl⟩ rfl hl.1 rfl (Nat.le_of_ble_eq_true rfl) d_q_reduce_73 (fun H locs hW => ?_)
          refine lv_aload_n hx hb d_q_reduce_76 rfl (lv_at hl 0 rfl) ?_
          refine lv_dup hx hb d_q_reduce_77 rfl ?_
          replace h := bs h
          obtain ⟨x24, hx24, h⟩ := h
          refine gf_q_262 hx hb hts hown hK hG hW (gI_s hx24) d_q_reduce_78 ?_
          refine lv_iconst (v := (1 : Int32)) hx hb d_q_reduce_81 (by decide) ?_
          refine lv_isub hx hb d_q_reduce_82 ?_
          replace h := bs h
          obtain ⟨w25, hw25, h⟩ := h
          refine pf_q_262 hx hb hts hown hK hG hW rfl rfl (pbi hw25 rfl) d_q_reduce_83 (fun H locs hW => ?_)
          refine lv_aload_n hx hb d_q_reduce_86 rfl (lv_at hl 0 rfl) ?_
          replace h := bs h
          obtain ⟨x26, hx26, h⟩ := h
          refine gf_q_99 hx hb hts hown hK hG hW (gN_s hx26) d_q_reduce_87 ?_
          refine lv_aload_n hx hb d_q_reduce_90 rfl (lv_at hl 0 rfl) ?_
          replace h := bs h
          obtain ⟨x27, hx27, h⟩ := h
          refine gf_q_262 hx hb hts hown hK hG hW (gI_s hx27) d_q_reduce_91 ?_
          replace h := bs h
          obtain ⟨x28, hx28, h⟩ := h
          refine wo_iald hx hb hK hW (t := 0) rfl hx28 d_q_reduce_94 ?_
          refine lv_aload_n hx hb d_q_reduce_95 rfl (lv_at hl 0 rfl) ?_
          replace h := bs h
          obtain ⟨x29, hx29, h⟩ := h
          refine gf_q_99 hx hb hts hown hK hG hW (gN_s hx29) d_q_reduce_96 ?_
          refine lv_aload_n hx hb d_q_reduce_99 rfl (lv_at hl 0 rfl) ?_
          replace h := bs h
          obtain ⟨x30, hx30, h⟩ := h
          refine gf_q_262 hx hb hts hown hK hG hW (gI_s hx30) d_q_reduce_100 ?_
          refine lv_iconst (v := (1 : Int32)) hx hb d_q_reduce_103 (by decide) ?_
          refine lv_isub hx hb d_q_reduce_104 ?_
          replace h := bs h
          obtain ⟨x31, hx31, h⟩ := h
          refine wo_iald hx hb hK hW (t := 0) rfl hx31 d_q_reduce_105 ?_
          refine lv_icmp_le (tgt := 121) hx hb d_q_reduce_106 (by decide) (fun c32 => ?_) (fun c32 => ?_)
          · rw [if_pos c32] at h
            refine lv_aload_n hx hb d_q_reduce_121 rfl (lv_at hl 0 rfl) ?_
            replace h := bs h
            obtain ⟨x33, hx33, h⟩ := h
            refine gf_q_99 hx hb hts hown hK hG hW (gN_s hx33) d_q_reduce_122 ?_
            refine lv_aload_n hx hb d_q_reduce_125 rfl (lv_at hl 0 rfl) ?_
            replace h := bs h
            obtain ⟨x34, hx34, h⟩ := h
            refine gf_q_262 hx hb hts hown hK hG hW (gI_s hx34) d_q_reduce_126 ?_
            refine lv_iconst (v := (1 : Int32)) hx hb d_q_reduce_129 (by decide) ?_
            refine lv_isub hx hb d_q_reduce_130 ?_
            replace h := bs h
            obtain ⟨x35, hx35, h⟩ := h
            refine wo_iald hx hb hK hW (t := 0) rfl hx35 d_q_reduce_131 ?_
            exact j_q_reduce_132 C ih y0 y1 x35 w25 h _ _ _ hW (lv_sub hl [0, 1] rfl)
          · rw [if_neg c32] at h
            refine lv_aload_n hx hb d_q_reduce_109 rfl (lv_at hl 0 rfl) ?_
            replace h := bs h
            obtain ⟨x39, hx39, h⟩ := h
            refine gf_q_99 hx hb hts hown hK hG hW (gN_s hx39) d_q_reduce_110 ?_
            refine lv_aload_n hx hb d_q_reduce_113 rfl (lv_at hl 0 rfl) ?_
            replace h := bs h
            obtain ⟨x40, hx40, h⟩ := h
            refine gf_q_262 hx hb hts hown hK hG hW (gI_s hx40) d_q_reduce_114 ?_
            replace h := bs h
            obtain ⟨x41, hx41, h⟩ := h
            refine wo_iald hx hb hK hW (t := 0) rfl hx41 d_q_reduce_117 ?_
            refine lv_goto (tgt := 132) hx hb d_q_reduce_118 (by decide) ?_
            exact j_q_reduce_132 C ih y0 y1 x41 w25 h _ _ _ hW (lv_sub hl [0, 1] rfl)
set_option maxHeartbeats 4000000 in
set_option maxRecDepth 100000 in
theorem c_q_reduce (l : Launch) (D : va_G) (cA : Nat → ClassId) (base : Nat) {a0 : Nat} {a1 : Int32} {w w' : WW} (h : f_q_reduce a0 a1 w = some w') : mt l D cls (wo_tys cA) cA base y_q_reduce (Cond.code y_q_reduce b_q_reduce 3 (none) :: gt) rm_q_reduce [.ref (base + a0), .int a1] w none w' rm_q_reduce.cells rm_q_reduce.slots := by
  refine mt_start (by decide) (Nat.le_of_ble_eq_true rfl) ?_
  intro p e s m below meth c ls hx hb hr hml hown hts hlk hnm hK hG hW hl
  have C : cx b_q_reduce (none) 3 y_q_reduce.cls "reduce" p s m [.ref (base + a0), .int a1].toArray meth c D cA base := ⟨hx, hb, hr, hml, hown, hts, hlk, hnm, hK, hG⟩
  have hl : lv_has ls 3 [(0, .ref (base + a0)), (1, .int a1)] := hl
  unfold f_q_reduce at h
  replace h := its h
  obtain ⟨-, h⟩ := h
  exact j_q_reduce_0 C KK a0 a1 w h _ _ _ hW (lv_sub hl [0, 1] rfl)
abbrev b_q_bracket : ByteArray := prog_11_method_27_code
def y_q_bracket : MethodName := ⟨"AlarmForgeModel", "bracket", "()I"⟩
def rm_q_bracket : Room := { frames := 0, cells := 0, slots := 0, locals := 0 }
theorem d_q_bracket_0 : decode b_q_bracket 0 = .ok (.aload_n 0, 1) := by decide +kernel
theorem d_q_bracket_1 : decode b_q_bracket 1 = .ok (.getfield 246, 3) := by decide +kernel
theorem d_q_bracket_4 : decode b_q_bracket 4 = .ok (.iconst 1, 1) := by decide +kernel
theorem d_q_bracket_5 : decode b_q_bracket 5 = .ok (.isub, 1) := by decide +kernel
theorem d_q_bracket_6 : decode b_q_bracket 6 = .ok (.istore_n 1, 1) := by decide +kernel
theorem d_q_bracket_7 : decode b_q_bracket 7 = .ok (.iload_n 1, 1) := by decide +kernel
theorem d_q_bracket_8 : decode b_q_bracket 8 = .ok (.ifCond .lt (19), 3) := by decide +kernel
theorem d_q_bracket_11 : decode b_q_bracket 11 = .ok (.aload_n 0, 1) := by decide +kernel
theorem d_q_bracket_12 : decode b_q_bracket 12 = .ok (.getfield 90, 3) := by decide +kernel
theorem d_q_bracket_15 : decode b_q_bracket 15 = .ok (.iload_n 1, 1) := by decide +kernel
theorem d_q_bracket_16 : decode b_q_bracket 16 = .ok (.iaload, 1) := by decide +kernel
theorem d_q_bracket_17 : decode b_q_bracket 17 = .ok (.iconst 2, 1) := by decide +kernel
theorem d_q_bracket_18 : decode b_q_bracket 18 = .ok (.if_icmp .le (9), 3) := by decide +kernel
theorem d_q_bracket_21 : decode b_q_bracket 21 = .ok (.iinc 1 (-1), 3) := by decide +kernel
theorem d_q_bracket_24 : decode b_q_bracket 24 = .ok (.goto (-17), 3) := by decide +kernel
theorem d_q_bracket_27 : decode b_q_bracket 27 = .ok (.iload_n 1, 1) := by decide +kernel
theorem d_q_bracket_28 : decode b_q_bracket 28 = .ok (.ifCond .ge (7), 3) := by decide +kernel
theorem d_q_bracket_31 : decode b_q_bracket 31 = .ok (.iconst 0, 1) := by decide +kernel
theorem d_q_bracket_32 : decode b_q_bracket 32 = .ok (.goto (9), 3) := by decide +kernel
theorem d_q_bracket_35 : decode b_q_bracket 35 = .ok (.aload_n 0, 1) := by decide +kernel
theorem d_q_bracket_36 : decode b_q_bracket 36 = .ok (.getfield 90, 3) := by decide +kernel
theorem d_q_bracket_39 : decode b_q_bracket 39 = .ok (.iload_n 1, 1) := by decide +kernel
theorem d_q_bracket_40 : decode b_q_bracket 40 = .ok (.iaload, 1) := by decide +kernel
theorem d_q_bracket_41 : decode b_q_bracket 41 = .ok (.ireturn, 1) := by decide +kernel
theorem kb_q_bracket {a0 : Nat}  {w : WW} {r : (Int32 × WW)} (h : f_q_bracket a0 w = some r) : kb w a0 9 = true := (its h).1
set_option maxHeartbeats 4000000 in
set_option maxRecDepth 100000 in
theorem j_q_bracket_41 {p : Program} {l : Launch} {e : Env} {s : State} {m : MethodId} {args : Array Value} {below : List Frame} {meth : Method} {c : Code} {D : va_G} {cA : Nat → ClassId} {base : Nat} {r : Int32} {w' : WW} (C : cx b_q_bracket (some .int) 2 y_q_bracket.cls "bracket" p s m args meth c D cA base)   : ∀ (z0 : Int32) (w : WW), f_q_bracket_41 z0 w = some (r, w') → ∀ (H : Heap) (locs : List Loc) (ls : Array Slot), wo_S D cls cA base s w H locs → lv_has ls 2 [] → W p l e rm_q_bracket s m args below meth c H locs 0 0 (MQ below (wo_Q D cls cA base (some (.int r)) w') args s rm_q_bracket.cells rm_q_bracket.slots (wo_B base)) (F0 m 41 ls [.int z0]) := by
  obtain ⟨hx, hb, hr, hml, hown, hts, hlk, hnm, hK, hG⟩ := id C
  intro z0 w h H locs ls hW hl
  unfold f_q_bracket_41 at h
  cases h
  exact wo_iret hx hb hr hlk hW d_q_bracket_41
set_option maxHeartbeats 4000000 in
set_option maxRecDepth 100000 in
theorem j_q_bracket_27 {p : Program} {l : Launch} {e : Env} {s : State} {m : MethodId} {args : Array Value} {below : List Frame} {meth : Method} {c : Code} {D : va_G} {cA : Nat → ClassId} {base : Nat} {r : Int32} {w' : WW} (C : cx b_q_bracket (some .int) 2 y_q_bracket.cls "bracket" p s m args meth c D cA base)   : ∀ (y0 : Nat) (y1 : Int32) (w : WW), f_q_bracket_27 y0 y1 w = some (r, w') → ∀ (H : Heap) (locs : List Loc) (ls : Array Slot), wo_S D cls cA base s w H locs → lv_has ls 2 [(0, .ref (base + y0)), (1, .int y1)] → W p l e rm_q_bracket s m args below meth c H locs 0 0 (MQ below (wo_Q D cls cA base (some (.int r)) w') args s rm_q_bracket.cells rm_q_bracket.slots (wo_B base)) (F0 m 27 ls []) := by
  obtain ⟨hx, hb, hr, hml, hown, hts, hlk, hnm, hK, hG⟩ := id C
  intro y0 y1 w h H locs ls hW hl
  unfold f_q_bracket_27 at h
  refine lv_iload_n hx hb d_q_bracket_27 rfl (lv_at hl 1 rfl) ?_
  refine lv_if_ge (tgt := 35) hx hb d_q_bracket_28 (by decide) (fun c3 => ?_) (fun c3 => ?_)
  · rw [if_pos c3] at h
    refine lv_aload_n hx hb d_q_bracket_35 rfl (lv_at hl 0 rfl) ?_
    replace h := bs h
    obtain ⟨x4, hx4, h⟩ := h
    refine gf_q_90 hx hb hts hown hK hG hW (gN_s hx4) d_q_bracket_36 ?_
    refine lv_iload_n hx hb d_q_bracket_39 rfl (lv_at hl 1 rfl) ?_
    replace h := bs h
    obtain ⟨x5, hx5, h⟩ := h
    refine wo_iald hx hb hK hW (t := 0) rfl hx5 d_q_bracket_40 ?_
    exact j_q_bracket_41 C x5 w h _ _ _ hW (lv_sub hl [] rfl)
  · rw [if_neg c3] at h
    refine lv_iconst (v := (0 : Int32)) hx hb d_q_bracket_31 (by decide) ?_
    refine lv_goto (tgt := 41) hx hb d_q_bracket_32 (by decide) ?_
    exact j_q_bracket_41 C (0 : Int32) w h _ _ _ hW (lv_sub hl [] rfl)
set_option maxHeartbeats 4000000 in
set_option maxRecDepth 100000 in
theorem j_q_bracket_7 {p : Program} {l : Launch} {e : Env} {s : State} {m : MethodId} {args : Array Value} {below : List Frame} {meth : Method} {c : Code} {D : va_G} {cA : Nat → ClassId} {base : Nat} {r : Int32} {w' : WW} (C : cx b_q_bracket (some .int) 2 y_q_bracket.cls "bracket" p s m args meth c D cA base)   : ∀ n : Nat, ∀ (y0 : Nat) (y1 : Int32) (w : WW), f_q_bracket_7 n y0 y1 w = some (r, w') → ∀ (H : Heap) (locs : List Loc) (ls : Array Slot), wo_S D cls cA base s w H locs → lv_has ls 2 [(0, .ref (base + y0)), (1, .int y1)] → W p l e rm_q_bracket s m args below meth c H locs 0 0 (MQ below (wo_Q D cls cA base (some (.int r)) w') args s rm_q_bracket.cells rm_q_bracket.slots (wo_B base)) (F0 m 7 ls []) := by
  obtain ⟨hx, hb, hr, hml, hown, hts, hlk, hnm, hK, hG⟩ := id C
  intro n
  induction n with
  | zero => intro y0 y1 w h; cases h
  | succ n ih =>
    intro y0 y1 w h H locs ls hW hl
    rw [f_q_bracket_7] at h
    refine lv_iload_n hx hb d_q_bracket_7 rfl (lv_at hl 1 rfl) ?_
    refine lv_if_lt (tgt := 27) hx hb d_q_bracket_8 (by decide) (fun c2 => ?_) (fun c2 => ?_)
    · rw [if_pos c2] at h
      exact j_q_bracket_27 C y0 y1 w h _ _ _ hW (lv_sub hl [0, 1] rfl)
    · rw [if_neg c2] at h
      refine lv_aload_n hx hb d_q_bracket_11 rfl (lv_at hl 0 rfl) ?_
      replace h := bs h
      obtain ⟨x6, hx6, h⟩ := h
      refine gf_q_90 hx hb hts hown hK hG hW (gN_s hx6) d_q_bracket_12 ?_
      refine lv_iload_n hx hb d_q_bracket_15 rfl (lv_at hl 1 rfl) ?_
      replace h := bs h
      obtain ⟨x7, hx7, h⟩ := h
      refine wo_iald hx hb hK hW (t := 0) rfl hx7 d_q_bracket_16 ?_
      refine lv_iconst (v := (2 : Int32)) hx hb d_q_bracket_17 (by decide) ?_
      refine lv_icmp_le (tgt := 27) hx hb d_q_bracket_18 (by decide) (fun c8 => ?_) (fun c8 => ?_)
      · rw [if_pos c8] at h
        exact j_q_bracket_27 C y0 y1 w h _ _ _ hW (lv_sub hl [0, 1] rfl)
      · rw [if_neg c8] at h
        refine lv_iinc (v := (y1 + (-1 : Int32))) (lv' := [(1, .int (y1 + (-1 : Int32))), (0, .ref (base + y0))]) hx hb d_q_bracket_21 hl (k := 1) rfl rfl (by decide) rfl (fun ls hl => ?_)
        refine lv_goto (tgt := 7) hx hb d_q_bracket_24 (by decide) ?_
        exact ih y0 (y1 + (-1 : Int32)) w h _ _ _ hW (lv_sub hl [1, 0] rfl)
set_option maxHeartbeats 4000000 in
set_option maxRecDepth 100000 in
theorem c_q_bracket (l : Launch) (D : va_G) (cA : Nat → ClassId) (base : Nat) {a0 : Nat} {w w' : WW} {r : Int32} (h : f_q_bracket a0 w = some (r, w')) : mt l D cls (wo_tys cA) cA base y_q_bracket (Cond.code y_q_bracket b_q_bracket 2 (some .int) :: gt) rm_q_bracket [.ref (base + a0)] w (some (.int r)) w' rm_q_bracket.cells rm_q_bracket.slots := by
  refine mt_start (by decide) (Nat.le_of_ble_eq_true rfl) ?_
  intro p e s m below meth c ls hx hb hr hml hown hts hlk hnm hK hG hW hl
  have C : cx b_q_bracket (some .int) 2 y_q_bracket.cls "bracket" p s m [.ref (base + a0)].toArray meth c D cA base := ⟨hx, hb, hr, hml, hown, hts, hlk, hnm, hK, hG⟩
  have hl : lv_has ls 2 [(0, .ref (base + a0))] := hl
  unfold f_q_bracket at h
  replace h := its h
  obtain ⟨-, h⟩ := h
  refine lv_aload_n hx hb d_q_bracket_0 rfl (lv_at hl 0 rfl) ?_
  replace h := bs h
  obtain ⟨x1, hx1, h⟩ := h
  refine gf_q_246 hx hb hts hown hK hG hW (gI_s hx1) d_q_bracket_1 ?_
  refine lv_iconst (v := (1 : Int32)) hx hb d_q_bracket_4 (by decide) ?_
  refine lv_isub hx hb d_q_bracket_5 ?_
  refine lv_istore_n (lv' := [(1, .int (x1 - (1 : Int32))), (0, .ref (base + a0))]) hx hb d_q_bracket_6 rfl hl (by decide) rfl (fun ls hl => ?_)
  exact j_q_bracket_7 C KK a0 (x1 - (1 : Int32)) w h _ _ _ hW (lv_sub hl [1, 0] rfl)
