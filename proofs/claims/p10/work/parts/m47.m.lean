/-! Methods as functions, and their contracts (by wip/gen/run.py). -/
theorem cv_q_278 {p : Program} {l : Launch} {e : Env} {R : Room} {s : State} {m : MethodId} {args : Array Value} {below : List Frame} {meth : Method} {c : Code} {H : Heap} {locs : List Loc} {cells slots : Nat} {Q : State → Prop} {D : va_G} {cA : Nat → ClassId} {base : Nat} {w w' : WW} {cc : ByteArray} {pc nL : Nat} {ls : Array Slot} {rest st0 As : List Value} {ov : Option Value} {b : Nat} (hx : p.tables.exec = Jvm.exec) (hb : c.code = cc) (hml : c.maxLocals = nL) (hown : s.vm.findClass Rc_q = some m.cls) (hts : ∀ w ∈ gt, w.before args s = true) (hK : va_K D cls (wo_tys cA) s) (hG : wo_G cA base s) (hW : wo_S D cls cA base s w H locs) (hM : mt l D cls (wo_tys cA) cA base y_q_reduce (Cond.code y_q_reduce b_q_reduce 3 (none) :: gt) rm_q_reduce (.ref (base + b) :: As) w ov w' rm_q_reduce.cells rm_q_reduce.slots) (hkb : kb w b 9 = true) (hR : rm_q_reduce.frames + 1 ≤ R.frames ∧ 8 + (3 + 11) + rm_q_reduce.locals ≤ R.locals) (hf : cells + rm_q_reduce.cells ≤ R.cells ∧ slots + rm_q_reduce.slots ≤ R.slots) (hn : As.length = 1) (hsz : ls.size = nL) (hst : st0 = As.reverse ++ .ref (base + b) :: rest) (hcat : (rest.map fun v => v.category).sum ≤ 8) (hdg : decode cc pc = .ok (.invokevirtual 278, 3)) (kk : ∀ (H1 : Heap) (locs1 : List Loc), wo_S D cls cA base s w' H1 locs1 → W p l e R s m args below meth c H1 locs1 (cells + rm_q_reduce.cells) (slots + rm_q_reduce.slots) Q (F0 m (pc + 3) ls (ov.toList ++ rest))) : W p l e R s m args below meth c H locs cells slots Q (F0 m pc ls st0) :=
  wo_callV (C := Rc_q) hx hb hml hown hts hK hG hW hM hkb rfl (gt_of (i := 1487) (by decide +kernel) (by decide +kernel)) (gt_of (i := 1489) (by decide +kernel) (by decide +kernel)) (gt_sel (i := 76) (by decide +kernel) (by decide +kernel)) (gt_of (i := 10) (by decide +kernel) (by decide +kernel)) (gt_of (i := 1490) (by decide +kernel) (by decide +kernel)) (by decide +kernel) hR hf hn hsz hst hcat hdg kk
abbrev b_q_close : ByteArray := prog_11_method_26_code
def y_q_close : MethodName := ⟨"AlarmForgeModel", "close", "()V"⟩
def rm_q_close : Room := { frames := 4, cells := 0, slots := 0, locals := 94 }
theorem d_q_close_0 : decode b_q_close 0 = .ok (.aload_n 0, 1) := by decide +kernel
theorem d_q_close_1 : decode b_q_close 1 = .ok (.iconst 1, 1) := by decide +kernel
theorem d_q_close_2 : decode b_q_close 2 = .ok (.invokevirtual 278, 3) := by decide +kernel
theorem d_q_close_5 : decode b_q_close 5 = .ok (.aload_n 0, 1) := by decide +kernel
theorem d_q_close_6 : decode b_q_close 6 = .ok (.dup, 1) := by decide +kernel
theorem d_q_close_7 : decode b_q_close 7 = .ok (.getfield 246, 3) := by decide +kernel
theorem d_q_close_10 : decode b_q_close 10 = .ok (.iconst 1, 1) := by decide +kernel
theorem d_q_close_11 : decode b_q_close 11 = .ok (.isub, 1) := by decide +kernel
theorem d_q_close_12 : decode b_q_close 12 = .ok (.putfield 246, 3) := by decide +kernel
theorem d_q_close_15 : decode b_q_close 15 = .ok (.aload_n 0, 1) := by decide +kernel
theorem d_q_close_16 : decode b_q_close 16 = .ok (.dup, 1) := by decide +kernel
theorem d_q_close_17 : decode b_q_close 17 = .ok (.getfield 249, 3) := by decide +kernel
theorem d_q_close_20 : decode b_q_close 20 = .ok (.iconst 1, 1) := by decide +kernel
theorem d_q_close_21 : decode b_q_close 21 = .ok (.isub, 1) := by decide +kernel
theorem d_q_close_22 : decode b_q_close 22 = .ok (.putfield 249, 3) := by decide +kernel
theorem d_q_close_25 : decode b_q_close 25 = .ok (.aload_n 0, 1) := by decide +kernel
theorem d_q_close_26 : decode b_q_close 26 = .ok (.getfield 90, 3) := by decide +kernel
theorem d_q_close_29 : decode b_q_close 29 = .ok (.aload_n 0, 1) := by decide +kernel
theorem d_q_close_30 : decode b_q_close 30 = .ok (.getfield 246, 3) := by decide +kernel
theorem d_q_close_33 : decode b_q_close 33 = .ok (.iaload, 1) := by decide +kernel
theorem d_q_close_34 : decode b_q_close 34 = .ok (.iconst 2, 1) := by decide +kernel
theorem d_q_close_35 : decode b_q_close 35 = .ok (.if_icmp .ne (41), 3) := by decide +kernel
theorem d_q_close_38 : decode b_q_close 38 = .ok (.aload_n 0, 1) := by decide +kernel
theorem d_q_close_39 : decode b_q_close 39 = .ok (.iconst 3, 1) := by decide +kernel
theorem d_q_close_40 : decode b_q_close 40 = .ok (.aload_n 0, 1) := by decide +kernel
theorem d_q_close_41 : decode b_q_close 41 = .ok (.getfield 96, 3) := by decide +kernel
theorem d_q_close_44 : decode b_q_close 44 = .ok (.aload_n 0, 1) := by decide +kernel
theorem d_q_close_45 : decode b_q_close 45 = .ok (.getfield 246, 3) := by decide +kernel
theorem d_q_close_48 : decode b_q_close 48 = .ok (.iaload, 1) := by decide +kernel
theorem d_q_close_49 : decode b_q_close 49 = .ok (.aload_n 0, 1) := by decide +kernel
theorem d_q_close_50 : decode b_q_close 50 = .ok (.getfield 93, 3) := by decide +kernel
theorem d_q_close_53 : decode b_q_close 53 = .ok (.aload_n 0, 1) := by decide +kernel
theorem d_q_close_54 : decode b_q_close 54 = .ok (.getfield 246, 3) := by decide +kernel
theorem d_q_close_57 : decode b_q_close 57 = .ok (.iaload, 1) := by decide +kernel
theorem d_q_close_58 : decode b_q_close 58 = .ok (.invokevirtual 258, 3) := by decide +kernel
theorem d_q_close_61 : decode b_q_close 61 = .ok (.aload_n 0, 1) := by decide +kernel
theorem d_q_close_62 : decode b_q_close 62 = .ok (.getfield 99, 3) := by decide +kernel
theorem d_q_close_65 : decode b_q_close 65 = .ok (.aload_n 0, 1) := by decide +kernel
theorem d_q_close_66 : decode b_q_close 66 = .ok (.getfield 262, 3) := by decide +kernel
theorem d_q_close_69 : decode b_q_close 69 = .ok (.iconst 1, 1) := by decide +kernel
theorem d_q_close_70 : decode b_q_close 70 = .ok (.isub, 1) := by decide +kernel
theorem d_q_close_71 : decode b_q_close 71 = .ok (.dup2, 1) := by decide +kernel
theorem d_q_close_72 : decode b_q_close 72 = .ok (.iaload, 1) := by decide +kernel
theorem d_q_close_73 : decode b_q_close 73 = .ok (.iconst 1, 1) := by decide +kernel
theorem d_q_close_74 : decode b_q_close 74 = .ok (.iadd, 1) := by decide +kernel
theorem d_q_close_75 : decode b_q_close 75 = .ok (.iastore, 1) := by decide +kernel
theorem d_q_close_76 : decode b_q_close 76 = .ok (.aload_n 0, 1) := by decide +kernel
theorem d_q_close_77 : decode b_q_close 77 = .ok (.invokevirtual 237, 3) := by decide +kernel
theorem d_q_close_80 : decode b_q_close 80 = .ok (.aload_n 0, 1) := by decide +kernel
theorem d_q_close_81 : decode b_q_close 81 = .ok (.invokevirtual 269, 3) := by decide +kernel
theorem d_q_close_84 : decode b_q_close 84 = .ok (.return_, 1) := by decide +kernel
theorem kb_q_close {a0 : Nat}  {w : WW} {r : WW} (h : f_q_close a0 w = some r) : kb w a0 9 = true := (its h).1
set_option maxHeartbeats 4000000 in
set_option maxRecDepth 100000 in
theorem j_q_close_76 {p : Program} {l : Launch} {e : Env} {s : State} {m : MethodId} {args : Array Value} {below : List Frame} {meth : Method} {c : Code} {D : va_G} {cA : Nat → ClassId} {base : Nat} {w' : WW} (C : cx b_q_close (none) 1 y_q_close.cls "close" p s m args meth c D cA base)   : ∀ (y0 : Nat) (w : WW), f_q_close_76 y0 w = some w' → ∀ (H : Heap) (locs : List Loc) (ls : Array Slot), wo_S D cls cA base s w H locs → lv_has ls 1 [(0, .ref (base + y0))] → W p l e rm_q_close s m args below meth c H locs 0 0 (MQ below (wo_Q D cls cA base none w') args s rm_q_close.cells rm_q_close.slots (wo_B base)) (F0 m 76 ls []) := by
  obtain ⟨hx, hb, hr, hml, hown, hts, hlk, hnm, hK, hG⟩ := id C
  intro y0 w h H locs ls hW hl
  unfold f_q_close_76 at h
  refine lv_aload_n hx hb d_q_close_76 rfl (lv_at hl 0 rfl) ?_
  replace h := bs h
  obtain ⟨w10, hw10, h⟩ := h
  refine cv_q_237 (As := []) (rest := []) hx hb hml hown hts hK hG hW (c_q_read l D cA base hw10) (kb_q_read hw10) ⟨Nat.le_of_ble_eq_true rfl, Nat.le_of_ble_eq_true rfl⟩ ⟨Nat.le_of_ble_eq_true rfl, Nat.le_of_ble_eq_true rfl⟩ rfl hl.1 rfl (Nat.le_of_ble_eq_true rfl) d_q_close_77 (fun H locs hW => ?_)
  refine lv_aload_n hx hb d_q_close_80 rfl (lv_at hl 0 rfl) ?_
  replace h := bs h
  obtain ⟨w11, hw11, h⟩ := h
  refine cv_q_269 (As := []) (rest := []) hx hb hml hown hts hK hG hW (c_q_opposites l D cA base hw11) (kb_q_opposites hw11) ⟨Nat.le_of_ble_eq_true rfl, Nat.le_of_ble_eq_true rfl⟩ ⟨Nat.le_of_ble_eq_true rfl, Nat.le_of_ble_eq_true rfl⟩ rfl hl.1 rfl (Nat.le_of_ble_eq_true rfl) d_q_close_81 (fun H locs hW => ?_)
  cases h
  exact wo_vret hx hb hr hlk hW d_q_close_84
set_option maxHeartbeats 4000000 in
set_option maxRecDepth 100000 in
theorem c_q_close (l : Launch) (D : va_G) (cA : Nat → ClassId) (base : Nat) {a0 : Nat} {w w' : WW} (h : f_q_close a0 w = some w') : mt l D cls (wo_tys cA) cA base y_q_close (Cond.code y_q_close b_q_close 1 (none) :: gt) rm_q_close [.ref (base + a0)] w none w' rm_q_close.cells rm_q_close.slots := by
  refine mt_start (by decide) (Nat.le_of_ble_eq_true rfl) ?_
  intro p e s m below meth c ls hx hb hr hml hown hts hlk hnm hK hG hW hl
  have C : cx b_q_close (none) 1 y_q_close.cls "close" p s m [.ref (base + a0)].toArray meth c D cA base := ⟨hx, hb, hr, hml, hown, hts, hlk, hnm, hK, hG⟩
  have hl : lv_has ls 1 [(0, .ref (base + a0))] := hl
  unfold f_q_close at h
  replace h := its h
  obtain ⟨-, h⟩ := h
  refine lv_aload_n hx hb d_q_close_0 rfl (lv_at hl 0 rfl) ?_
  refine lv_iconst (v := (1 : Int32)) hx hb d_q_close_1 (by decide) ?_
  replace h := bs h
  obtain ⟨w1, hw1, h⟩ := h
  refine cv_q_278 (As := [.int (1 : Int32)]) (rest := []) hx hb hml hown hts hK hG hW (c_q_reduce l D cA base hw1) (kb_q_reduce hw1) ⟨Nat.le_of_ble_eq_true rfl, Nat.le_of_ble_eq_true rfl⟩ ⟨Nat.le_of_ble_eq_true rfl, Nat.le_of_ble_eq_true rfl⟩ rfl hl.1 rfl (Nat.le_of_ble_eq_true rfl) d_q_close_2 (fun H locs hW => ?_)
  refine lv_aload_n hx hb d_q_close_5 rfl (lv_at hl 0 rfl) ?_
  refine lv_dup hx hb d_q_close_6 rfl ?_
  replace h := bs h
  obtain ⟨x2, hx2, h⟩ := h
  refine gf_q_246 hx hb hts hown hK hG hW (gI_s hx2) d_q_close_7 ?_
  refine lv_iconst (v := (1 : Int32)) hx hb d_q_close_10 (by decide) ?_
  refine lv_isub hx hb d_q_close_11 ?_
  replace h := bs h
  obtain ⟨w3, hw3, h⟩ := h
  refine pf_q_246 hx hb hts hown hK hG hW rfl rfl (pbi hw3 rfl) d_q_close_12 (fun H locs hW => ?_)
  refine lv_aload_n hx hb d_q_close_15 rfl (lv_at hl 0 rfl) ?_
  refine lv_dup hx hb d_q_close_16 rfl ?_
  replace h := bs h
  obtain ⟨x4, hx4, h⟩ := h
  refine gf_q_249 hx hb hts hown hK hG hW (gI_s hx4) d_q_close_17 ?_
  refine lv_iconst (v := (1 : Int32)) hx hb d_q_close_20 (by decide) ?_
  refine lv_isub hx hb d_q_close_21 ?_
  replace h := bs h
  obtain ⟨w5, hw5, h⟩ := h
  refine pf_q_249 hx hb hts hown hK hG hW rfl rfl (pbi hw5 rfl) d_q_close_22 (fun H locs hW => ?_)
  refine lv_aload_n hx hb d_q_close_25 rfl (lv_at hl 0 rfl) ?_
  replace h := bs h
  obtain ⟨x6, hx6, h⟩ := h
  refine gf_q_90 hx hb hts hown hK hG hW (gN_s hx6) d_q_close_26 ?_
  refine lv_aload_n hx hb d_q_close_29 rfl (lv_at hl 0 rfl) ?_
  replace h := bs h
  obtain ⟨x7, hx7, h⟩ := h
  refine gf_q_246 hx hb hts hown hK hG hW (gI_s hx7) d_q_close_30 ?_
  replace h := bs h
  obtain ⟨x8, hx8, h⟩ := h
  refine wo_iald hx hb hK hW (t := 0) rfl hx8 d_q_close_33 ?_
  refine lv_iconst (v := (2 : Int32)) hx hb d_q_close_34 (by decide) ?_
  refine lv_icmp_ne (tgt := 76) hx hb d_q_close_35 (by decide) (fun c9 => ?_) (fun c9 => ?_)
  · rw [if_neg c9] at h
    exact j_q_close_76 C a0 w5 h _ _ _ hW (lv_sub hl [0] rfl)
  · rw [if_pos c9] at h
    refine lv_aload_n hx hb d_q_close_38 rfl (lv_at hl 0 rfl) ?_
    refine lv_iconst (v := (3 : Int32)) hx hb d_q_close_39 (by decide) ?_
    refine lv_aload_n hx hb d_q_close_40 rfl (lv_at hl 0 rfl) ?_
    replace h := bs h
    obtain ⟨x12, hx12, h⟩ := h
    refine gf_q_96 hx hb hts hown hK hG hW (gN_s hx12) d_q_close_41 ?_
    refine lv_aload_n hx hb d_q_close_44 rfl (lv_at hl 0 rfl) ?_
    replace h := bs h
    obtain ⟨x13, hx13, h⟩ := h
    refine gf_q_246 hx hb hts hown hK hG hW (gI_s hx13) d_q_close_45 ?_
    replace h := bs h
    obtain ⟨x14, hx14, h⟩ := h
    refine wo_iald hx hb hK hW (t := 0) rfl hx14 d_q_close_48 ?_
    refine lv_aload_n hx hb d_q_close_49 rfl (lv_at hl 0 rfl) ?_
    replace h := bs h
    obtain ⟨x15, hx15, h⟩ := h
    refine gf_q_93 hx hb hts hown hK hG hW (gN_s hx15) d_q_close_50 ?_
    refine lv_aload_n hx hb d_q_close_53 rfl (lv_at hl 0 rfl) ?_
    replace h := bs h
    obtain ⟨x16, hx16, h⟩ := h
    refine gf_q_246 hx hb hts hown hK hG hW (gI_s hx16) d_q_close_54 ?_
    replace h := bs h
    obtain ⟨x17, hx17, h⟩ := h
    refine wo_iald hx hb hK hW (t := 0) rfl hx17 d_q_close_57 ?_
    replace h := bs h
    obtain ⟨w18, hw18, h⟩ := h
    refine cv_q_258 (As := [.int (3 : Int32), .int x14, .int x17]) (rest := []) hx hb hml hown hts hK hG hW (c_q_emit l D cA base hw18) (kb_q_emit hw18) ⟨Nat.le_of_ble_eq_true rfl, Nat.le_of_ble_eq_true rfl⟩ ⟨Nat.le_of_ble_eq_true rfl, Nat.le_of_ble_eq_true rfl⟩ rfl hl.1 rfl (Nat.le_of_ble_eq_true rfl) d_q_close_58 (fun H locs hW => ?_)
    refine lv_aload_n hx hb d_q_close_61 rfl (lv_at hl 0 rfl) ?_
    replace h := bs h
    obtain ⟨x19, hx19, h⟩ := h
    refine gf_q_99 hx hb hts hown hK hG hW (gN_s hx19) d_q_close_62 ?_
    refine lv_aload_n hx hb d_q_close_65 rfl (lv_at hl 0 rfl) ?_
    replace h := bs h
    obtain ⟨x20, hx20, h⟩ := h
    refine gf_q_262 hx hb hts hown hK hG hW (gI_s hx20) d_q_close_66 ?_
    refine lv_iconst (v := (1 : Int32)) hx hb d_q_close_69 (by decide) ?_
    refine lv_isub hx hb d_q_close_70 ?_
    refine lv_dup2_11 hx hb d_q_close_71 rfl rfl ?_
    replace h := bs h
    obtain ⟨x21, hx21, h⟩ := h
    refine wo_iald hx hb hK hW (t := 0) rfl hx21 d_q_close_72 ?_
    refine lv_iconst (v := (1 : Int32)) hx hb d_q_close_73 (by decide) ?_
    refine lv_iadd hx hb d_q_close_74 ?_
    replace h := bs h
    obtain ⟨w22, hw22, h⟩ := h
    refine wo_iast hx hb hK hW (t := 0) rfl hw22 d_q_close_75 (fun H locs hW => ?_)
    exact j_q_close_76 C a0 w22 h _ _ _ hW (lv_sub hl [0] rfl)
theorem cv_q_281 {p : Program} {l : Launch} {e : Env} {R : Room} {s : State} {m : MethodId} {args : Array Value} {below : List Frame} {meth : Method} {c : Code} {H : Heap} {locs : List Loc} {cells slots : Nat} {Q : State → Prop} {D : va_G} {cA : Nat → ClassId} {base : Nat} {w w' : WW} {cc : ByteArray} {pc nL : Nat} {ls : Array Slot} {rest st0 As : List Value} {ov : Option Value} {b : Nat} (hx : p.tables.exec = Jvm.exec) (hb : c.code = cc) (hml : c.maxLocals = nL) (hown : s.vm.findClass Rc_q = some m.cls) (hts : ∀ w ∈ gt, w.before args s = true) (hK : va_K D cls (wo_tys cA) s) (hG : wo_G cA base s) (hW : wo_S D cls cA base s w H locs) (hM : mt l D cls (wo_tys cA) cA base y_q_want (Cond.code y_q_want b_q_want 1 (some .boolean) :: gt) rm_q_want (.ref (base + b) :: As) w ov w' rm_q_want.cells rm_q_want.slots) (hkb : kb w b 9 = true) (hR : rm_q_want.frames + 1 ≤ R.frames ∧ 8 + (1 + 11) + rm_q_want.locals ≤ R.locals) (hf : cells + rm_q_want.cells ≤ R.cells ∧ slots + rm_q_want.slots ≤ R.slots) (hn : As.length = 0) (hsz : ls.size = nL) (hst : st0 = As.reverse ++ .ref (base + b) :: rest) (hcat : (rest.map fun v => v.category).sum ≤ 8) (hdg : decode cc pc = .ok (.invokevirtual 281, 3)) (kk : ∀ (H1 : Heap) (locs1 : List Loc), wo_S D cls cA base s w' H1 locs1 → W p l e R s m args below meth c H1 locs1 (cells + rm_q_want.cells) (slots + rm_q_want.slots) Q (F0 m (pc + 3) ls (ov.toList ++ rest))) : W p l e R s m args below meth c H locs cells slots Q (F0 m pc ls st0) :=
  wo_callV (C := Rc_q) hx hb hml hown hts hK hG hW hM hkb rfl (gt_of (i := 1464) (by decide +kernel) (by decide +kernel)) (gt_of (i := 1466) (by decide +kernel) (by decide +kernel)) (gt_sel (i := 71) (by decide +kernel) (by decide +kernel)) (gt_of (i := 10) (by decide +kernel) (by decide +kernel)) (gt_of (i := 1467) (by decide +kernel) (by decide +kernel)) (by decide +kernel) hR hf hn hsz hst hcat hdg kk
theorem cv_q_285 {p : Program} {l : Launch} {e : Env} {R : Room} {s : State} {m : MethodId} {args : Array Value} {below : List Frame} {meth : Method} {c : Code} {H : Heap} {locs : List Loc} {cells slots : Nat} {Q : State → Prop} {D : va_G} {cA : Nat → ClassId} {base : Nat} {w w' : WW} {cc : ByteArray} {pc nL : Nat} {ls : Array Slot} {rest st0 As : List Value} {ov : Option Value} {b : Nat} (hx : p.tables.exec = Jvm.exec) (hb : c.code = cc) (hml : c.maxLocals = nL) (hown : s.vm.findClass Rc_q = some m.cls) (hts : ∀ w ∈ gt, w.before args s = true) (hK : va_K D cls (wo_tys cA) s) (hG : wo_G cA base s) (hW : wo_S D cls cA base s w H locs) (hM : mt l D cls (wo_tys cA) cA base y_q_bracket (Cond.code y_q_bracket b_q_bracket 2 (some .int) :: gt) rm_q_bracket (.ref (base + b) :: As) w ov w' rm_q_bracket.cells rm_q_bracket.slots) (hkb : kb w b 9 = true) (hR : rm_q_bracket.frames + 1 ≤ R.frames ∧ 8 + (2 + 11) + rm_q_bracket.locals ≤ R.locals) (hf : cells + rm_q_bracket.cells ≤ R.cells ∧ slots + rm_q_bracket.slots ≤ R.slots) (hn : As.length = 0) (hsz : ls.size = nL) (hst : st0 = As.reverse ++ .ref (base + b) :: rest) (hcat : (rest.map fun v => v.category).sum ≤ 8) (hdg : decode cc pc = .ok (.invokevirtual 285, 3)) (kk : ∀ (H1 : Heap) (locs1 : List Loc), wo_S D cls cA base s w' H1 locs1 → W p l e R s m args below meth c H1 locs1 (cells + rm_q_bracket.cells) (slots + rm_q_bracket.slots) Q (F0 m (pc + 3) ls (ov.toList ++ rest))) : W p l e R s m args below meth c H locs cells slots Q (F0 m pc ls st0) :=
  wo_callV (C := Rc_q) hx hb hml hown hts hK hG hW hM hkb rfl (gt_of (i := 1494) (by decide +kernel) (by decide +kernel)) (gt_of (i := 1496) (by decide +kernel) (by decide +kernel)) (gt_sel (i := 77) (by decide +kernel) (by decide +kernel)) (gt_of (i := 10) (by decide +kernel) (by decide +kernel)) (gt_of (i := 1497) (by decide +kernel) (by decide +kernel)) (by decide +kernel) hR hf hn hsz hst hcat hdg kk
theorem cv_q_289 {p : Program} {l : Launch} {e : Env} {R : Room} {s : State} {m : MethodId} {args : Array Value} {below : List Frame} {meth : Method} {c : Code} {H : Heap} {locs : List Loc} {cells slots : Nat} {Q : State → Prop} {D : va_G} {cA : Nat → ClassId} {base : Nat} {w w' : WW} {cc : ByteArray} {pc nL : Nat} {ls : Array Slot} {rest st0 As : List Value} {ov : Option Value} {b : Nat} (hx : p.tables.exec = Jvm.exec) (hb : c.code = cc) (hml : c.maxLocals = nL) (hown : s.vm.findClass Rc_q = some m.cls) (hts : ∀ w ∈ gt, w.before args s = true) (hK : va_K D cls (wo_tys cA) s) (hG : wo_G cA base s) (hW : wo_S D cls cA base s w H locs) (hM : mt l D cls (wo_tys cA) cA base y_q_close (Cond.code y_q_close b_q_close 1 (none) :: gt) rm_q_close (.ref (base + b) :: As) w ov w' rm_q_close.cells rm_q_close.slots) (hkb : kb w b 9 = true) (hR : rm_q_close.frames + 1 ≤ R.frames ∧ 8 + (1 + 11) + rm_q_close.locals ≤ R.locals) (hf : cells + rm_q_close.cells ≤ R.cells ∧ slots + rm_q_close.slots ≤ R.slots) (hn : As.length = 0) (hsz : ls.size = nL) (hst : st0 = As.reverse ++ .ref (base + b) :: rest) (hcat : (rest.map fun v => v.category).sum ≤ 8) (hdg : decode cc pc = .ok (.invokevirtual 289, 3)) (kk : ∀ (H1 : Heap) (locs1 : List Loc), wo_S D cls cA base s w' H1 locs1 → W p l e R s m args below meth c H1 locs1 (cells + rm_q_close.cells) (slots + rm_q_close.slots) Q (F0 m (pc + 3) ls (ov.toList ++ rest))) : W p l e R s m args below meth c H locs cells slots Q (F0 m pc ls st0) :=
  wo_callV (C := Rc_q) hx hb hml hown hts hK hG hW hM hkb rfl (gt_of (i := 1498) (by decide +kernel) (by decide +kernel)) (gt_of (i := 1500) (by decide +kernel) (by decide +kernel)) (gt_sel (i := 78) (by decide +kernel) (by decide +kernel)) (gt_of (i := 10) (by decide +kernel) (by decide +kernel)) (gt_of (i := 1501) (by decide +kernel) (by decide +kernel)) (by decide +kernel) hR hf hn hsz hst hcat hdg kk
abbrev b_q_expression : ByteArray := prog_11_method_28_code
def y_q_expression : MethodName := ⟨"AlarmForgeModel", "expression", "()I"⟩
def rm_q_expression : Room := { frames := 6, cells := 0, slots := 0, locals := 135 }
theorem d_q_expression_0 : decode b_q_expression 0 = .ok (.aload_n 0, 1) := by decide +kernel
theorem d_q_expression_1 : decode b_q_expression 1 = .ok (.getfield 69, 3) := by decide +kernel
theorem d_q_expression_4 : decode b_q_expression 4 = .ok (.aload_n 0, 1) := by decide +kernel
theorem d_q_expression_5 : decode b_q_expression 5 = .ok (.getfield 243, 3) := by decide +kernel
theorem d_q_expression_8 : decode b_q_expression 8 = .ok (.iaload, 1) := by decide +kernel
theorem d_q_expression_9 : decode b_q_expression 9 = .ok (.istore_n 1, 1) := by decide +kernel
theorem d_q_expression_10 : decode b_q_expression 10 = .ok (.aload_n 0, 1) := by decide +kernel
theorem d_q_expression_11 : decode b_q_expression 11 = .ok (.iconst 0, 1) := by decide +kernel
theorem d_q_expression_12 : decode b_q_expression 12 = .ok (.putfield 246, 3) := by decide +kernel
theorem d_q_expression_15 : decode b_q_expression 15 = .ok (.aload_n 0, 1) := by decide +kernel
theorem d_q_expression_16 : decode b_q_expression 16 = .ok (.iconst 0, 1) := by decide +kernel
theorem d_q_expression_17 : decode b_q_expression 17 = .ok (.putfield 249, 3) := by decide +kernel
theorem d_q_expression_20 : decode b_q_expression 20 = .ok (.aload_n 0, 1) := by decide +kernel
theorem d_q_expression_21 : decode b_q_expression 21 = .ok (.iconst 0, 1) := by decide +kernel
theorem d_q_expression_22 : decode b_q_expression 22 = .ok (.putfield 262, 3) := by decide +kernel
theorem d_q_expression_25 : decode b_q_expression 25 = .ok (.iconst 0, 1) := by decide +kernel
theorem d_q_expression_26 : decode b_q_expression 26 = .ok (.istore_n 2, 1) := by decide +kernel
theorem d_q_expression_27 : decode b_q_expression 27 = .ok (.aload_n 0, 1) := by decide +kernel
theorem d_q_expression_28 : decode b_q_expression 28 = .ok (.getfield 230, 3) := by decide +kernel
theorem d_q_expression_31 : decode b_q_expression 31 = .ok (.ifCond .ne (7), 3) := by decide +kernel
theorem d_q_expression_34 : decode b_q_expression 34 = .ok (.iconst 1, 1) := by decide +kernel
theorem d_q_expression_35 : decode b_q_expression 35 = .ok (.goto (4), 3) := by decide +kernel
theorem d_q_expression_38 : decode b_q_expression 38 = .ok (.iconst 0, 1) := by decide +kernel
theorem d_q_expression_39 : decode b_q_expression 39 = .ok (.istore_n 3, 1) := by decide +kernel
theorem d_q_expression_40 : decode b_q_expression 40 = .ok (.iload_n 3, 1) := by decide +kernel
theorem d_q_expression_41 : decode b_q_expression 41 = .ok (.ifCond .eq (153), 3) := by decide +kernel
theorem d_q_expression_44 : decode b_q_expression 44 = .ok (.aload_n 0, 1) := by decide +kernel
theorem d_q_expression_45 : decode b_q_expression 45 = .ok (.getfield 230, 3) := by decide +kernel
theorem d_q_expression_48 : decode b_q_expression 48 = .ok (.ifCond .ne (146), 3) := by decide +kernel
theorem d_q_expression_51 : decode b_q_expression 51 = .ok (.iload_n 2, 1) := by decide +kernel
theorem d_q_expression_52 : decode b_q_expression 52 = .ok (.ifCond .ne (11), 3) := by decide +kernel
theorem d_q_expression_55 : decode b_q_expression 55 = .ok (.aload_n 0, 1) := by decide +kernel
theorem d_q_expression_56 : decode b_q_expression 56 = .ok (.invokevirtual 281, 3) := by decide +kernel
theorem d_q_expression_59 : decode b_q_expression 59 = .ok (.istore_n 2, 1) := by decide +kernel
theorem d_q_expression_60 : decode b_q_expression 60 = .ok (.goto (-20), 3) := by decide +kernel
theorem d_q_expression_63 : decode b_q_expression 63 = .ok (.aload_n 0, 1) := by decide +kernel
theorem d_q_expression_64 : decode b_q_expression 64 = .ok (.getfield 195, 3) := by decide +kernel
theorem d_q_expression_67 : decode b_q_expression 67 = .ok (.iconst 5, 1) := by decide +kernel
theorem d_q_expression_68 : decode b_q_expression 68 = .ok (.if_icmp .ne (66), 3) := by decide +kernel
theorem d_q_expression_71 : decode b_q_expression 71 = .ok (.aload_n 0, 1) := by decide +kernel
theorem d_q_expression_72 : decode b_q_expression 72 = .ok (.getfield 198, 3) := by decide +kernel
theorem d_q_expression_75 : decode b_q_expression 75 = .ok (.invokestatic 223, 3) := by decide +kernel
theorem d_q_expression_78 : decode b_q_expression 78 = .ok (.ifCond .eq (56), 3) := by decide +kernel
theorem d_q_expression_81 : decode b_q_expression 81 = .ok (.aload_n 0, 1) := by decide +kernel
theorem d_q_expression_82 : decode b_q_expression 82 = .ok (.aload_n 0, 1) := by decide +kernel
theorem d_q_expression_83 : decode b_q_expression 83 = .ok (.getfield 198, 3) := by decide +kernel
theorem d_q_expression_86 : decode b_q_expression 86 = .ok (.invokestatic 252, 3) := by decide +kernel
theorem d_q_expression_89 : decode b_q_expression 89 = .ok (.invokevirtual 278, 3) := by decide +kernel
theorem d_q_expression_92 : decode b_q_expression 92 = .ok (.aload_n 0, 1) := by decide +kernel
theorem d_q_expression_93 : decode b_q_expression 93 = .ok (.getfield 99, 3) := by decide +kernel
theorem d_q_expression_96 : decode b_q_expression 96 = .ok (.aload_n 0, 1) := by decide +kernel
theorem d_q_expression_97 : decode b_q_expression 97 = .ok (.getfield 262, 3) := by decide +kernel
theorem d_q_expression_100 : decode b_q_expression 100 = .ok (.iconst 1, 1) := by decide +kernel
theorem d_q_expression_101 : decode b_q_expression 101 = .ok (.isub, 1) := by decide +kernel
theorem d_q_expression_102 : decode b_q_expression 102 = .ok (.iaload, 1) := by decide +kernel
theorem d_q_expression_103 : decode b_q_expression 103 = .ok (.bipush (16), 2) := by decide +kernel
theorem d_q_expression_105 : decode b_q_expression 105 = .ok (.if_icmp .lt (7), 3) := by decide +kernel
theorem d_q_expression_108 : decode b_q_expression 108 = .ok (.aload_n 0, 1) := by decide +kernel
theorem d_q_expression_109 : decode b_q_expression 109 = .ok (.invokevirtual 240, 3) := by decide +kernel
theorem d_q_expression_112 : decode b_q_expression 112 = .ok (.aload_n 0, 1) := by decide +kernel
theorem d_q_expression_113 : decode b_q_expression 113 = .ok (.iconst 4, 1) := by decide +kernel
theorem d_q_expression_114 : decode b_q_expression 114 = .ok (.aload_n 0, 1) := by decide +kernel
theorem d_q_expression_115 : decode b_q_expression 115 = .ok (.getfield 198, 3) := by decide +kernel
theorem d_q_expression_118 : decode b_q_expression 118 = .ok (.aload_n 0, 1) := by decide +kernel
theorem d_q_expression_119 : decode b_q_expression 119 = .ok (.getfield 181, 3) := by decide +kernel
theorem d_q_expression_122 : decode b_q_expression 122 = .ok (.invokevirtual 272, 3) := by decide +kernel
theorem d_q_expression_125 : decode b_q_expression 125 = .ok (.aload_n 0, 1) := by decide +kernel
theorem d_q_expression_126 : decode b_q_expression 126 = .ok (.invokevirtual 237, 3) := by decide +kernel
theorem d_q_expression_129 : decode b_q_expression 129 = .ok (.iconst 0, 1) := by decide +kernel
theorem d_q_expression_130 : decode b_q_expression 130 = .ok (.istore_n 2, 1) := by decide +kernel
theorem d_q_expression_131 : decode b_q_expression 131 = .ok (.goto (-91), 3) := by decide +kernel
theorem d_q_expression_134 : decode b_q_expression 134 = .ok (.aload_n 0, 1) := by decide +kernel
theorem d_q_expression_135 : decode b_q_expression 135 = .ok (.invokevirtual 285, 3) := by decide +kernel
theorem d_q_expression_138 : decode b_q_expression 138 = .ok (.istore 4, 2) := by decide +kernel
theorem d_q_expression_140 : decode b_q_expression 140 = .ok (.iload 4, 2) := by decide +kernel
theorem d_q_expression_142 : decode b_q_expression 142 = .ok (.ifCond .ne (8), 3) := by decide +kernel
theorem d_q_expression_145 : decode b_q_expression 145 = .ok (.iconst 0, 1) := by decide +kernel
theorem d_q_expression_146 : decode b_q_expression 146 = .ok (.istore_n 3, 1) := by decide +kernel
theorem d_q_expression_147 : decode b_q_expression 147 = .ok (.goto (44), 3) := by decide +kernel
theorem d_q_expression_150 : decode b_q_expression 150 = .ok (.iload 4, 2) := by decide +kernel
theorem d_q_expression_152 : decode b_q_expression 152 = .ok (.iconst 1, 1) := by decide +kernel
theorem d_q_expression_153 : decode b_q_expression 153 = .ok (.if_icmp .ne (12), 3) := by decide +kernel
theorem d_q_expression_156 : decode b_q_expression 156 = .ok (.aload_n 0, 1) := by decide +kernel
theorem d_q_expression_157 : decode b_q_expression 157 = .ok (.bipush (41), 2) := by decide +kernel
theorem d_q_expression_159 : decode b_q_expression 159 = .ok (.invokevirtual 234, 3) := by decide +kernel
theorem d_q_expression_162 : decode b_q_expression 162 = .ok (.ifCond .ne (18), 3) := by decide +kernel
theorem d_q_expression_165 : decode b_q_expression 165 = .ok (.iload 4, 2) := by decide +kernel
theorem d_q_expression_167 : decode b_q_expression 167 = .ok (.iconst 2, 1) := by decide +kernel
theorem d_q_expression_168 : decode b_q_expression 168 = .ok (.if_icmp .ne (19), 3) := by decide +kernel
theorem d_q_expression_171 : decode b_q_expression 171 = .ok (.aload_n 0, 1) := by decide +kernel
theorem d_q_expression_172 : decode b_q_expression 172 = .ok (.bipush (93), 2) := by decide +kernel
theorem d_q_expression_174 : decode b_q_expression 174 = .ok (.invokevirtual 234, 3) := by decide +kernel
theorem d_q_expression_177 : decode b_q_expression 177 = .ok (.ifCond .eq (10), 3) := by decide +kernel
theorem d_q_expression_180 : decode b_q_expression 180 = .ok (.aload_n 0, 1) := by decide +kernel
theorem d_q_expression_181 : decode b_q_expression 181 = .ok (.invokevirtual 289, 3) := by decide +kernel
theorem d_q_expression_184 : decode b_q_expression 184 = .ok (.goto (7), 3) := by decide +kernel
theorem d_q_expression_187 : decode b_q_expression 187 = .ok (.aload_n 0, 1) := by decide +kernel
theorem d_q_expression_188 : decode b_q_expression 188 = .ok (.invokevirtual 240, 3) := by decide +kernel
theorem d_q_expression_191 : decode b_q_expression 191 = .ok (.goto (-151), 3) := by decide +kernel
theorem d_q_expression_194 : decode b_q_expression 194 = .ok (.aload_n 0, 1) := by decide +kernel
theorem d_q_expression_195 : decode b_q_expression 195 = .ok (.getfield 230, 3) := by decide +kernel
theorem d_q_expression_198 : decode b_q_expression 198 = .ok (.ifCond .ne (8), 3) := by decide +kernel
theorem d_q_expression_201 : decode b_q_expression 201 = .ok (.aload_n 0, 1) := by decide +kernel
theorem d_q_expression_202 : decode b_q_expression 202 = .ok (.iconst 1, 1) := by decide +kernel
theorem d_q_expression_203 : decode b_q_expression 203 = .ok (.invokevirtual 278, 3) := by decide +kernel
theorem d_q_expression_206 : decode b_q_expression 206 = .ok (.sipush (220), 3) := by decide +kernel
theorem d_q_expression_209 : decode b_q_expression 209 = .ok (.aload_n 0, 1) := by decide +kernel
theorem d_q_expression_210 : decode b_q_expression 210 = .ok (.getfield 243, 3) := by decide +kernel
theorem d_q_expression_213 : decode b_q_expression 213 = .ok (.imul, 1) := by decide +kernel
theorem d_q_expression_214 : decode b_q_expression 214 = .ok (.iload_n 1, 1) := by decide +kernel
theorem d_q_expression_215 : decode b_q_expression 215 = .ok (.iadd, 1) := by decide +kernel
theorem d_q_expression_216 : decode b_q_expression 216 = .ok (.ireturn, 1) := by decide +kernel
theorem kb_q_expression {a0 : Nat}  {w : WW} {r : (Int32 × WW)} (h : f_q_expression a0 w = some r) : kb w a0 9 = true := (its h).1
set_option maxHeartbeats 4000000 in
set_option maxRecDepth 100000 in
theorem j_q_expression_206 {p : Program} {l : Launch} {e : Env} {s : State} {m : MethodId} {args : Array Value} {below : List Frame} {meth : Method} {c : Code} {D : va_G} {cA : Nat → ClassId} {base : Nat} {r : Int32} {w' : WW} (C : cx b_q_expression (some .int) 5 y_q_expression.cls "expression" p s m args meth c D cA base)   : ∀ (y0 : Nat) (y1 : Int32) (w : WW), f_q_expression_206 y0 y1 w = some (r, w') → ∀ (H : Heap) (locs : List Loc) (ls : Array Slot), wo_S D cls cA base s w H locs → lv_has ls 5 [(0, .ref (base + y0)), (1, .int y1)] → W p l e rm_q_expression s m args below meth c H locs 0 0 (MQ below (wo_Q D cls cA base (some (.int r)) w') args s rm_q_expression.cells rm_q_expression.slots (wo_B base)) (F0 m 206 ls []) := by
  obtain ⟨hx, hb, hr, hml, hown, hts, hlk, hnm, hK, hG⟩ := id C
  intro y0 y1 w h H locs ls hW hl
  unfold f_q_expression_206 at h
  refine lv_sipush (v := (220 : Int32)) hx hb d_q_expression_206 (by decide) ?_
  refine lv_aload_n hx hb d_q_expression_209 rfl (lv_at hl 0 rfl) ?_
  replace h := bs h
  obtain ⟨x12, hx12, h⟩ := h
  refine gf_q_243 hx hb hts hown hK hG hW (gI_s hx12) d_q_expression_210 ?_
  refine lv_imul hx hb d_q_expression_213 ?_
  refine lv_iload_n hx hb d_q_expression_214 rfl (lv_at hl 1 rfl) ?_
  refine lv_iadd hx hb d_q_expression_215 ?_
  cases h
  exact wo_iret hx hb hr hlk hW d_q_expression_216
set_option maxHeartbeats 4000000 in
set_option maxRecDepth 100000 in
theorem j_q_expression_194 {p : Program} {l : Launch} {e : Env} {s : State} {m : MethodId} {args : Array Value} {below : List Frame} {meth : Method} {c : Code} {D : va_G} {cA : Nat → ClassId} {base : Nat} {r : Int32} {w' : WW} (C : cx b_q_expression (some .int) 5 y_q_expression.cls "expression" p s m args meth c D cA base)   : ∀ (y0 : Nat) (y1 : Int32) (w : WW), f_q_expression_194 y0 y1 w = some (r, w') → ∀ (H : Heap) (locs : List Loc) (ls : Array Slot), wo_S D cls cA base s w H locs → lv_has ls 5 [(0, .ref (base + y0)), (1, .int y1)] → W p l e rm_q_expression s m args below meth c H locs 0 0 (MQ below (wo_Q D cls cA base (some (.int r)) w') args s rm_q_expression.cells rm_q_expression.slots (wo_B base)) (F0 m 194 ls []) := by
  obtain ⟨hx, hb, hr, hml, hown, hts, hlk, hnm, hK, hG⟩ := id C
  intro y0 y1 w h H locs ls hW hl
  unfold f_q_expression_194 at h
  refine lv_aload_n hx hb d_q_expression_194 rfl (lv_at hl 0 rfl) ?_
  replace h := bs h
  obtain ⟨x10, hx10, h⟩ := h
  refine gf_q_230 hx hb hts hown hK hG hW (gI_s hx10) d_q_expression_195 ?_
  refine lv_if_ne (tgt := 206) hx hb d_q_expression_198 (by decide) (fun c11 => ?_) (fun c11 => ?_)
  · rw [if_neg c11] at h
    exact j_q_expression_206 C y0 y1 w h _ _ _ hW (lv_sub hl [0, 1] rfl)
  · rw [if_pos c11] at h
    refine lv_aload_n hx hb d_q_expression_201 rfl (lv_at hl 0 rfl) ?_
    refine lv_iconst (v := (1 : Int32)) hx hb d_q_expression_202 (by decide) ?_
    replace h := bs h
    obtain ⟨w13, hw13, h⟩ := h
    refine cv_q_278 (As := [.int (1 : Int32)]) (rest := []) hx hb hml hown hts hK hG hW (c_q_reduce l D cA base hw13) (kb_q_reduce hw13) ⟨Nat.le_of_ble_eq_true rfl, Nat.le_of_ble_eq_true rfl⟩ ⟨Nat.le_of_ble_eq_true rfl, Nat.le_of_ble_eq_true rfl⟩ rfl hl.1 rfl (Nat.le_of_ble_eq_true rfl) d_q_expression_203 (fun H locs hW => ?_)
    exact j_q_expression_206 C y0 y1 w13 h _ _ _ hW (lv_sub hl [0, 1] rfl)
set_option maxHeartbeats 4000000 in
set_option maxRecDepth 100000 in
theorem j_q_expression_191 {p : Program} {l : Launch} {e : Env} {s : State} {m : MethodId} {args : Array Value} {below : List Frame} {meth : Method} {c : Code} {D : va_G} {cA : Nat → ClassId} {base : Nat} {r : Int32} {w' : WW} (C : cx b_q_expression (some .int) 5 y_q_expression.cls "expression" p s m args meth c D cA base) {k_40 : Nat → Int32 → Int32 → Int32 → WW → Option (Int32 × WW)} (hk_40 : ∀ (y0 : Nat) (y1 : Int32) (y2 : Int32) (y3 : Int32) (w : WW), k_40 y0 y1 y2 y3 w = some (r, w') → ∀ (H : Heap) (locs : List Loc) (ls : Array Slot), wo_S D cls cA base s w H locs → lv_has ls 5 [(0, .ref (base + y0)), (1, .int y1), (2, .int y2), (3, .int y3)] → W p l e rm_q_expression s m args below meth c H locs 0 0 (MQ below (wo_Q D cls cA base (some (.int r)) w') args s rm_q_expression.cells rm_q_expression.slots (wo_B base)) (F0 m 40 ls [])) : ∀ (y0 : Nat) (y1 : Int32) (y2 : Int32) (y3 : Int32) (w : WW), f_q_expression_191 k_40 y0 y1 y2 y3 w = some (r, w') → ∀ (H : Heap) (locs : List Loc) (ls : Array Slot), wo_S D cls cA base s w H locs → lv_has ls 5 [(0, .ref (base + y0)), (1, .int y1), (2, .int y2), (3, .int y3)] → W p l e rm_q_expression s m args below meth c H locs 0 0 (MQ below (wo_Q D cls cA base (some (.int r)) w') args s rm_q_expression.cells rm_q_expression.slots (wo_B base)) (F0 m 191 ls []) := by
  obtain ⟨hx, hb, hr, hml, hown, hts, hlk, hnm, hK, hG⟩ := id C
  intro y0 y1 y2 y3 w h H locs ls hW hl
  unfold f_q_expression_191 at h
  refine lv_goto (tgt := 40) hx hb d_q_expression_191 (by decide) ?_
  exact hk_40 y0 y1 y2 y3 w h _ _ _ hW (lv_sub hl [0, 1, 2, 3] rfl)
set_option maxHeartbeats 4000000 in
set_option maxRecDepth 100000 in
theorem j_q_expression_187 {p : Program} {l : Launch} {e : Env} {s : State} {m : MethodId} {args : Array Value} {below : List Frame} {meth : Method} {c : Code} {D : va_G} {cA : Nat → ClassId} {base : Nat} {r : Int32} {w' : WW} (C : cx b_q_expression (some .int) 5 y_q_expression.cls "expression" p s m args meth c D cA base) {k_40 : Nat → Int32 → Int32 → Int32 → WW → Option (Int32 × WW)} (hk_40 : ∀ (y0 : Nat) (y1 : Int32) (y2 : Int32) (y3 : Int32) (w : WW), k_40 y0 y1 y2 y3 w = some (r, w') → ∀ (H : Heap) (locs : List Loc) (ls : Array Slot), wo_S D cls cA base s w H locs → lv_has ls 5 [(0, .ref (base + y0)), (1, .int y1), (2, .int y2), (3, .int y3)] → W p l e rm_q_expression s m args below meth c H locs 0 0 (MQ below (wo_Q D cls cA base (some (.int r)) w') args s rm_q_expression.cells rm_q_expression.slots (wo_B base)) (F0 m 40 ls [])) : ∀ (y0 : Nat) (y1 : Int32) (y2 : Int32) (y3 : Int32) (w : WW), f_q_expression_187 k_40 y0 y1 y2 y3 w = some (r, w') → ∀ (H : Heap) (locs : List Loc) (ls : Array Slot), wo_S D cls cA base s w H locs → lv_has ls 5 [(0, .ref (base + y0)), (1, .int y1), (2, .int y2), (3, .int y3)] → W p l e rm_q_expression s m args below meth c H locs 0 0 (MQ below (wo_Q D cls cA base (some (.int r)) w') args s rm_q_expression.cells rm_q_expression.slots (wo_B base)) (F0 m 187 ls []) := by
  obtain ⟨hx, hb, hr, hml, hown, hts, hlk, hnm, hK, hG⟩ := id C
  intro y0 y1 y2 y3 w h H locs ls hW hl
  unfold f_q_expression_187 at h
  refine lv_aload_n hx hb d_q_expression_187 rfl (lv_at hl 0 rfl) ?_
  replace h := bs h
  obtain ⟨w24, hw24, h⟩ := h
  refine cv_q_240 (As := []) (rest := []) hx hb hml hown hts hK hG hW (c_q_wrong l D cA base hw24) (kb_q_wrong hw24) ⟨Nat.le_of_ble_eq_true rfl, Nat.le_of_ble_eq_true rfl⟩ ⟨Nat.le_of_ble_eq_true rfl, Nat.le_of_ble_eq_true rfl⟩ rfl hl.1 rfl (Nat.le_of_ble_eq_true rfl) d_q_expression_188 (fun H locs hW => ?_)
  exact j_q_expression_191 C hk_40 y0 y1 y2 y3 w24 h _ _ _ hW (lv_sub hl [0, 1, 2, 3] rfl)
set_option maxHeartbeats 4000000 in
set_option maxRecDepth 100000 in
theorem j_q_expression_180 {p : Program} {l : Launch} {e : Env} {s : State} {m : MethodId} {args : Array Value} {below : List Frame} {meth : Method} {c : Code} {D : va_G} {cA : Nat → ClassId} {base : Nat} {r : Int32} {w' : WW} (C : cx b_q_expression (some .int) 5 y_q_expression.cls "expression" p s m args meth c D cA base) {k_40 : Nat → Int32 → Int32 → Int32 → WW → Option (Int32 × WW)} (hk_40 : ∀ (y0 : Nat) (y1 : Int32) (y2 : Int32) (y3 : Int32) (w : WW), k_40 y0 y1 y2 y3 w = some (r, w') → ∀ (H : Heap) (locs : List Loc) (ls : Array Slot), wo_S D cls cA base s w H locs → lv_has ls 5 [(0, .ref (base + y0)), (1, .int y1), (2, .int y2), (3, .int y3)] → W p l e rm_q_expression s m args below meth c H locs 0 0 (MQ below (wo_Q D cls cA base (some (.int r)) w') args s rm_q_expression.cells rm_q_expression.slots (wo_B base)) (F0 m 40 ls [])) : ∀ (y0 : Nat) (y1 : Int32) (y2 : Int32) (y3 : Int32) (w : WW), f_q_expression_180 k_40 y0 y1 y2 y3 w = some (r, w') → ∀ (H : Heap) (locs : List Loc) (ls : Array Slot), wo_S D cls cA base s w H locs → lv_has ls 5 [(0, .ref (base + y0)), (1, .int y1), (2, .int y2), (3, .int y3)] → W p l e rm_q_expression s m args below meth c H locs 0 0 (MQ below (wo_Q D cls cA base (some (.int r)) w') args s rm_q_expression.cells rm_q_expression.slots (wo_B base)) (F0 m 180 ls []) := by
  obtain ⟨hx, hb, hr, hml, hown, hts, hlk, hnm, hK, hG⟩ := id C
  intro y0 y1 y2 y3 w h H locs ls hW hl
  unfold f_q_expression_180 at h
  refine lv_aload_n hx hb d_q_expression_180 rfl (lv_at hl 0 rfl) ?_
  replace h := bs h
  obtain ⟨w28, hw28, h⟩ := h
  refine cv_q_289 (As := []) (rest := []) hx hb hml hown hts hK hG hW (c_q_close l D cA base hw28) (kb_q_close hw28) ⟨Nat.le_of_ble_eq_true rfl, Nat.le_of_ble_eq_true rfl⟩ ⟨Nat.le_of_ble_eq_true rfl, Nat.le_of_ble_eq_true rfl⟩ rfl hl.1 rfl (Nat.le_of_ble_eq_true rfl) d_q_expression_181 (fun H locs hW => ?_)
  refine lv_goto (tgt := 191) hx hb d_q_expression_184 (by decide) ?_
  exact j_q_expression_191 C hk_40 y0 y1 y2 y3 w28 h _ _ _ hW (lv_sub hl [0, 1, 2, 3] rfl)
set_option maxHeartbeats 4000000 in
set_option maxRecDepth 100000 in
theorem j_q_expression_165 {p : Program} {l : Launch} {e : Env} {s : State} {m : MethodId} {args : Array Value} {below : List Frame} {meth : Method} {c : Code} {D : va_G} {cA : Nat → ClassId} {base : Nat} {r : Int32} {w' : WW} (C : cx b_q_expression (some .int) 5 y_q_expression.cls "expression" p s m args meth c D cA base) {k_40 : Nat → Int32 → Int32 → Int32 → WW → Option (Int32 × WW)} (hk_40 : ∀ (y0 : Nat) (y1 : Int32) (y2 : Int32) (y3 : Int32) (w : WW), k_40 y0 y1 y2 y3 w = some (r, w') → ∀ (H : Heap) (locs : List Loc) (ls : Array Slot), wo_S D cls cA base s w H locs → lv_has ls 5 [(0, .ref (base + y0)), (1, .int y1), (2, .int y2), (3, .int y3)] → W p l e rm_q_expression s m args below meth c H locs 0 0 (MQ below (wo_Q D cls cA base (some (.int r)) w') args s rm_q_expression.cells rm_q_expression.slots (wo_B base)) (F0 m 40 ls [])) : ∀ (y0 : Nat) (y1 : Int32) (y2 : Int32) (y3 : Int32) (y4 : Int32) (w : WW), f_q_expression_165 k_40 y0 y1 y2 y3 y4 w = some (r, w') → ∀ (H : Heap) (locs : List Loc) (ls : Array Slot), wo_S D cls cA base s w H locs → lv_has ls 5 [(0, .ref (base + y0)), (1, .int y1), (2, .int y2), (3, .int y3), (4, .int y4)] → W p l e rm_q_expression s m args below meth c H locs 0 0 (MQ below (wo_Q D cls cA base (some (.int r)) w') args s rm_q_expression.cells rm_q_expression.slots (wo_B base)) (F0 m 165 ls []) := by
  obtain ⟨hx, hb, hr, hml, hown, hts, hlk, hnm, hK, hG⟩ := id C
  intro y0 y1 y2 y3 y4 w h H locs ls hW hl
  unfold f_q_expression_165 at h
  refine lv_iload hx hb d_q_expression_165 (lv_at hl 4 rfl) ?_
  refine lv_iconst (v := (2 : Int32)) hx hb d_q_expression_167 (by decide) ?_
  refine lv_icmp_ne (tgt := 187) hx hb d_q_expression_168 (by decide) (fun c23 => ?_) (fun c23 => ?_)
  · rw [if_neg c23] at h
    exact j_q_expression_187 C hk_40 y0 y1 y2 y3 w h _ _ _ hW (lv_sub hl [0, 1, 2, 3] rfl)
  · rw [if_pos c23] at h
    refine lv_aload_n hx hb d_q_expression_171 rfl (lv_at hl 0 rfl) ?_
    refine lv_bipush (v := (93 : Int32)) hx hb d_q_expression_172 (by decide) ?_
    replace h := bs2 h
    obtain ⟨x26, w25, hw25, h⟩ := h
    refine cv_q_234 (As := [.int (93 : Int32)]) (rest := []) hx hb hml hown hts hK hG hW (c_q_is l D cA base hw25) (kb_q_is hw25) ⟨Nat.le_of_ble_eq_true rfl, Nat.le_of_ble_eq_true rfl⟩ ⟨Nat.le_of_ble_eq_true rfl, Nat.le_of_ble_eq_true rfl⟩ rfl hl.1 rfl (Nat.le_of_ble_eq_true rfl) d_q_expression_174 (fun H locs hW => ?_)
    refine lv_if_eq (tgt := 187) hx hb d_q_expression_177 (by decide) (fun c27 => ?_) (fun c27 => ?_)
    · rw [if_pos c27] at h
      exact j_q_expression_187 C hk_40 y0 y1 y2 y3 w25 h _ _ _ hW (lv_sub hl [0, 1, 2, 3] rfl)
    · rw [if_neg c27] at h
      exact j_q_expression_180 C hk_40 y0 y1 y2 y3 w25 h _ _ _ hW (lv_sub hl [0, 1, 2, 3] rfl)
set_option maxHeartbeats 4000000 in
set_option maxRecDepth 100000 in
theorem j_q_expression_134 {p : Program} {l : Launch} {e : Env} {s : State} {m : MethodId} {args : Array Value} {below : List Frame} {meth : Method} {c : Code} {D : va_G} {cA : Nat → ClassId} {base : Nat} {r : Int32} {w' : WW} (C : cx b_q_expression (some .int) 5 y_q_expression.cls "expression" p s m args meth c D cA base) {k_40 : Nat → Int32 → Int32 → Int32 → WW → Option (Int32 × WW)} (hk_40 : ∀ (y0 : Nat) (y1 : Int32) (y2 : Int32) (y3 : Int32) (w : WW), k_40 y0 y1 y2 y3 w = some (r, w') → ∀ (H : Heap) (locs : List Loc) (ls : Array Slot), wo_S D cls cA base s w H locs → lv_has ls 5 [(0, .ref (base + y0)), (1, .int y1), (2, .int y2), (3, .int y3)] → W p l e rm_q_expression s m args below meth c H locs 0 0 (MQ below (wo_Q D cls cA base (some (.int r)) w') args s rm_q_expression.cells rm_q_expression.slots (wo_B base)) (F0 m 40 ls [])) : ∀ (y0 : Nat) (y1 : Int32) (y2 : Int32) (y3 : Int32) (w : WW), f_q_expression_134 k_40 y0 y1 y2 y3 w = some (r, w') → ∀ (H : Heap) (locs : List Loc) (ls : Array Slot), wo_S D cls cA base s w H locs → lv_has ls 5 [(0, .ref (base + y0)), (1, .int y1), (2, .int y2), (3, .int y3)] → W p l e rm_q_expression s m args below meth c H locs 0 0 (MQ below (wo_Q D cls cA base (some (.int r)) w') args s rm_q_expression.cells rm_q_expression.slots (wo_B base)) (F0 m 134 ls []) := by
  obtain ⟨hx, hb, hr, hml, hown, hts, hlk, hnm, hK, hG⟩ := id C
  intro y0 y1 y2 y3 w h H locs ls hW hl
  unfold f_q_expression_134 at h
  refine lv_aload_n hx hb d_q_expression_134 rfl (lv_at hl 0 rfl) ?_
  replace h := bs2 h
  obtain ⟨x20, w19, hw19, h⟩ := h
  refine cv_q_285 (As := []) (rest := []) hx hb hml hown hts hK hG hW (c_q_bracket l D cA base hw19) (kb_q_bracket hw19) ⟨Nat.le_of_ble_eq_true rfl, Nat.le_of_ble_eq_true rfl⟩ ⟨Nat.le_of_ble_eq_true rfl, Nat.le_of_ble_eq_true rfl⟩ rfl hl.1 rfl (Nat.le_of_ble_eq_true rfl) d_q_expression_135 (fun H locs hW => ?_)
  refine lv_istore (lv' := [(4, .int x20), (0, .ref (base + y0)), (1, .int y1), (2, .int y2), (3, .int y3)]) hx hb d_q_expression_138 hl (by decide) rfl (fun ls hl => ?_)
  refine lv_iload hx hb d_q_expression_140 (lv_at hl 0 rfl) ?_
  refine lv_if_ne (tgt := 150) hx hb d_q_expression_142 (by decide) (fun c21 => ?_) (fun c21 => ?_)
  · rw [if_neg c21] at h
    refine lv_iload hx hb d_q_expression_150 (lv_at hl 0 rfl) ?_
    refine lv_iconst (v := (1 : Int32)) hx hb d_q_expression_152 (by decide) ?_
    refine lv_icmp_ne (tgt := 165) hx hb d_q_expression_153 (by decide) (fun c22 => ?_) (fun c22 => ?_)
    · rw [if_neg c22] at h
      exact j_q_expression_165 C hk_40 y0 y1 y2 y3 x20 w19 h _ _ _ hW (lv_sub hl [1, 2, 3, 4, 0] rfl)
    · rw [if_pos c22] at h
      refine lv_aload_n hx hb d_q_expression_156 rfl (lv_at hl 1 rfl) ?_
      refine lv_bipush (v := (41 : Int32)) hx hb d_q_expression_157 (by decide) ?_
      replace h := bs2 h
      obtain ⟨x30, w29, hw29, h⟩ := h
      refine cv_q_234 (As := [.int (41 : Int32)]) (rest := []) hx hb hml hown hts hK hG hW (c_q_is l D cA base hw29) (kb_q_is hw29) ⟨Nat.le_of_ble_eq_true rfl, Nat.le_of_ble_eq_true rfl⟩ ⟨Nat.le_of_ble_eq_true rfl, Nat.le_of_ble_eq_true rfl⟩ rfl hl.1 rfl (Nat.le_of_ble_eq_true rfl) d_q_expression_159 (fun H locs hW => ?_)
      refine lv_if_ne (tgt := 180) hx hb d_q_expression_162 (by decide) (fun c31 => ?_) (fun c31 => ?_)
      · rw [if_neg c31] at h
        exact j_q_expression_180 C hk_40 y0 y1 y2 y3 w29 h _ _ _ hW (lv_sub hl [1, 2, 3, 4] rfl)
      · rw [if_pos c31] at h
        exact j_q_expression_165 C hk_40 y0 y1 y2 y3 x20 w29 h _ _ _ hW (lv_sub hl [1, 2, 3, 4, 0] rfl)
  · rw [if_pos c21] at h
    refine lv_iconst (v := (0 : Int32)) hx hb d_q_expression_145 (by decide) ?_
    refine lv_istore_n (lv' := [(3, .int (0 : Int32)), (4, .int x20), (0, .ref (base + y0)), (1, .int y1), (2, .int y2)]) hx hb d_q_expression_146 rfl hl (by decide) rfl (fun ls hl => ?_)
    refine lv_goto (tgt := 191) hx hb d_q_expression_147 (by decide) ?_
    exact j_q_expression_191 C hk_40 y0 y1 y2 (0 : Int32) w19 h _ _ _ hW (lv_sub hl [2, 3, 4, 0] rfl)
set_option maxHeartbeats 4000000 in
set_option maxRecDepth 100000 in
theorem j_q_expression_112 {p : Program} {l : Launch} {e : Env} {s : State} {m : MethodId} {args : Array Value} {below : List Frame} {meth : Method} {c : Code} {D : va_G} {cA : Nat → ClassId} {base : Nat} {r : Int32} {w' : WW} (C : cx b_q_expression (some .int) 5 y_q_expression.cls "expression" p s m args meth c D cA base) {k_40 : Nat → Int32 → Int32 → Int32 → WW → Option (Int32 × WW)} (hk_40 : ∀ (y0 : Nat) (y1 : Int32) (y2 : Int32) (y3 : Int32) (w : WW), k_40 y0 y1 y2 y3 w = some (r, w') → ∀ (H : Heap) (locs : List Loc) (ls : Array Slot), wo_S D cls cA base s w H locs → lv_has ls 5 [(0, .ref (base + y0)), (1, .int y1), (2, .int y2), (3, .int y3)] → W p l e rm_q_expression s m args below meth c H locs 0 0 (MQ below (wo_Q D cls cA base (some (.int r)) w') args s rm_q_expression.cells rm_q_expression.slots (wo_B base)) (F0 m 40 ls [])) : ∀ (y0 : Nat) (y1 : Int32) (y3 : Int32) (w : WW), f_q_expression_112 k_40 y0 y1 y3 w = some (r, w') → ∀ (H : Heap) (locs : List Loc) (ls : Array Slot), wo_S D cls cA base s w H locs → lv_has ls 5 [(0, .ref (base + y0)), (1, .int y1), (3, .int y3)] → W p l e rm_q_expression s m args below meth c H locs 0 0 (MQ below (wo_Q D cls cA base (some (.int r)) w') args s rm_q_expression.cells rm_q_expression.slots (wo_B base)) (F0 m 112 ls []) := by
  obtain ⟨hx, hb, hr, hml, hown, hts, hlk, hnm, hK, hG⟩ := id C
  intro y0 y1 y3 w h H locs ls hW hl
  unfold f_q_expression_112 at h
  refine lv_aload_n hx hb d_q_expression_112 rfl (lv_at hl 0 rfl) ?_
  refine lv_iconst (v := (4 : Int32)) hx hb d_q_expression_113 (by decide) ?_
  refine lv_aload_n hx hb d_q_expression_114 rfl (lv_at hl 0 rfl) ?_
  replace h := bs h
  obtain ⟨x44, hx44, h⟩ := h
  refine gf_q_198 hx hb hts hown hK hG hW (gI_s hx44) d_q_expression_115 ?_
  refine lv_aload_n hx hb d_q_expression_118 rfl (lv_at hl 0 rfl) ?_
  replace h := bs h
  obtain ⟨x45, hx45, h⟩ := h
  refine gf_q_181 hx hb hts hown hK hG hW (gI_s hx45) d_q_expression_119 ?_
  replace h := bs h
  obtain ⟨w46, hw46, h⟩ := h
  refine cv_q_272 (As := [.int (4 : Int32), .int x44, .int x45]) (rest := []) hx hb hml hown hts hK hG hW (c_q_push l D cA base hw46) (kb_q_push hw46) ⟨Nat.le_of_ble_eq_true rfl, Nat.le_of_ble_eq_true rfl⟩ ⟨Nat.le_of_ble_eq_true rfl, Nat.le_of_ble_eq_true rfl⟩ rfl hl.1 rfl (Nat.le_of_ble_eq_true rfl) d_q_expression_122 (fun H locs hW => ?_)
  refine lv_aload_n hx hb d_q_expression_125 rfl (lv_at hl 0 rfl) ?_
  replace h := bs h
  obtain ⟨w47, hw47, h⟩ := h
  refine cv_q_237 (As := []) (rest := []) hx hb hml hown hts hK hG hW (c_q_read l D cA base hw47) (kb_q_read hw47) ⟨Nat.le_of_ble_eq_true rfl, Nat.le_of_ble_eq_true rfl⟩ ⟨Nat.le_of_ble_eq_true rfl, Nat.le_of_ble_eq_true rfl⟩ rfl hl.1 rfl (Nat.le_of_ble_eq_true rfl) d_q_expression_126 (fun H locs hW => ?_)
  refine lv_iconst (v := (0 : Int32)) hx hb d_q_expression_129 (by decide) ?_
  refine lv_istore_n (lv' := [(2, .int (0 : Int32)), (0, .ref (base + y0)), (1, .int y1), (3, .int y3)]) hx hb d_q_expression_130 rfl hl (by decide) rfl (fun ls hl => ?_)
  refine lv_goto (tgt := 40) hx hb d_q_expression_131 (by decide) ?_
  exact hk_40 y0 y1 (0 : Int32) y3 w47 h _ _ _ hW (lv_sub hl [1, 2, 0, 3] rfl)
set_option maxHeartbeats 4000000 in
set_option maxRecDepth 100000 in
theorem j_q_expression_40 {p : Program} {l : Launch} {e : Env} {s : State} {m : MethodId} {args : Array Value} {below : List Frame} {meth : Method} {c : Code} {D : va_G} {cA : Nat → ClassId} {base : Nat} {r : Int32} {w' : WW} (C : cx b_q_expression (some .int) 5 y_q_expression.cls "expression" p s m args meth c D cA base)   : ∀ n : Nat, ∀ (y0 : Nat) (y1 : Int32) (y2 : Int32) (y3 : Int32) (w : WW), f_q_expression_40 n y0 y1 y2 y3 w = some (r, w') → ∀ (H : Heap) (locs : List Loc) (ls : Array Slot), wo_S D cls cA base s w H locs → lv_has ls 5 [(0, .ref (base + y0)), (1, .int y1), (2, .int y2), (3, .int y3)] → W p l e rm_q_expression s m args below meth c H locs 0 0 (MQ below (wo_Q D cls cA base (some (.int r)) w') args s rm_q_expression.cells rm_q_expression.slots (wo_B base)) (F0 m 40 ls []) := by
  obtain ⟨hx, hb, hr, hml, hown, hts, hlk, hnm, hK, hG⟩ := id C
  intro n
  induction n with
  | zero => intro y0 y1 y2 y3 w h; cases h
  | succ n ih =>
    intro y0 y1 y2 y3 w h H locs ls hW hl
    rw [f_q_expression_40] at h
    refine lv_iload_n hx hb d_q_expression_40 rfl (lv_at hl 3 rfl) ?_
    refine lv_if_eq (tgt := 194) hx hb d_q_expression_41 (by decide) (fun c9 => ?_) (fun c9 => ?_)
    · rw [if_pos c9] at h
      exact j_q_expression_194 C y0 y1 w h _ _ _ hW (lv_sub hl [0, 1] rfl)
    · rw [if_neg c9] at h
      refine lv_aload_n hx hb d_q_expression_44 rfl (lv_at hl 0 rfl) ?_
      replace h := bs h
      obtain ⟨x14, hx14, h⟩ := h
      refine gf_q_230 hx hb hts hown hK hG hW (gI_s hx14) d_q_expression_45 ?_
      refine lv_if_ne (tgt := 194) hx hb d_q_expression_48 (by decide) (fun c15 => ?_) (fun c15 => ?_)
      · rw [if_neg c15] at h
        exact j_q_expression_194 C y0 y1 w h _ _ _ hW (lv_sub hl [0, 1] rfl)
      · rw [if_pos c15] at h
        refine lv_iload_n hx hb d_q_expression_51 rfl (lv_at hl 2 rfl) ?_
        refine lv_if_ne (tgt := 63) hx hb d_q_expression_52 (by decide) (fun c16 => ?_) (fun c16 => ?_)
        · rw [if_neg c16] at h
          refine lv_aload_n hx hb d_q_expression_63 rfl (lv_at hl 0 rfl) ?_
          replace h := bs h
          obtain ⟨x17, hx17, h⟩ := h
          refine gf_q_195 hx hb hts hown hK hG hW (gI_s hx17) d_q_expression_64 ?_
          refine lv_iconst (v := (5 : Int32)) hx hb d_q_expression_67 (by decide) ?_
          refine lv_icmp_ne (tgt := 134) hx hb d_q_expression_68 (by decide) (fun c18 => ?_) (fun c18 => ?_)
          · rw [if_neg c18] at h
            exact j_q_expression_134 C ih y0 y1 y2 y3 w h _ _ _ hW (lv_sub hl [0, 1, 2, 3] rfl)
          · rw [if_pos c18] at h
            refine lv_aload_n hx hb d_q_expression_71 rfl (lv_at hl 0 rfl) ?_
            replace h := bs h
            obtain ⟨x32, hx32, h⟩ := h
            refine gf_q_198 hx hb hts hown hK hG hW (gI_s hx32) d_q_expression_72 ?_
            replace h := bs2 h
            obtain ⟨x34, w33, hw33, h⟩ := h
            refine cs_q_223 (As := [.int x32]) (rest := []) hx hb hml hown hts hK hG hW (c_q_isOperator l D cA base hw33) ⟨Nat.le_of_ble_eq_true rfl, Nat.le_of_ble_eq_true rfl⟩ ⟨Nat.le_of_ble_eq_true rfl, Nat.le_of_ble_eq_true rfl⟩ rfl hl.1 rfl (Nat.le_of_ble_eq_true rfl) d_q_expression_75 (fun H locs hW => ?_)
            refine lv_if_eq (tgt := 134) hx hb d_q_expression_78 (by decide) (fun c35 => ?_) (fun c35 => ?_)
            · rw [if_pos c35] at h
              exact j_q_expression_134 C ih y0 y1 y2 y3 w33 h _ _ _ hW (lv_sub hl [0, 1, 2, 3] rfl)
            · rw [if_neg c35] at h
              refine lv_aload_n hx hb d_q_expression_81 rfl (lv_at hl 0 rfl) ?_
              refine lv_aload_n hx hb d_q_expression_82 rfl (lv_at hl 0 rfl) ?_
              replace h := bs h
              obtain ⟨x36, hx36, h⟩ := h
              refine gf_q_198 hx hb hts hown hK hG hW (gI_s hx36) d_q_expression_83 ?_
              replace h := bs2 h
              obtain ⟨x38, w37, hw37, h⟩ := h
              refine cs_q_252 (As := [.int x36]) (rest := [.ref (base + y0)]) hx hb hml hown hts hK hG hW (c_q_rank l D cA base hw37) ⟨Nat.le_of_ble_eq_true rfl, Nat.le_of_ble_eq_true rfl⟩ ⟨Nat.le_of_ble_eq_true rfl, Nat.le_of_ble_eq_true rfl⟩ rfl hl.1 rfl (Nat.le_of_ble_eq_true rfl) d_q_expression_86 (fun H locs hW => ?_)
              replace h := bs h
              obtain ⟨w39, hw39, h⟩ := h
              refine cv_q_278 (As := [.int x38]) (rest := []) hx hb hml hown hts hK hG hW (c_q_reduce l D cA base hw39) (kb_q_reduce hw39) ⟨Nat.le_of_ble_eq_true rfl, Nat.le_of_ble_eq_true rfl⟩ ⟨Nat.le_of_ble_eq_true rfl, Nat.le_of_ble_eq_true rfl⟩ rfl hl.1 rfl (Nat.le_of_ble_eq_true rfl) d_q_expression_89 (fun H locs hW => ?_)
              refine lv_aload_n hx hb d_q_expression_92 rfl (lv_at hl 0 rfl) ?_
              replace h := bs h
              obtain ⟨x40, hx40, h⟩ := h
              refine gf_q_99 hx hb hts hown hK hG hW (gN_s hx40) d_q_expression_93 ?_
              refine lv_aload_n hx hb d_q_expression_96 rfl (lv_at hl 0 rfl) ?_
              replace h := bs h
              obtain ⟨x41, hx41, h⟩ := h
              refine gf_q_262 hx hb hts hown hK hG hW (gI_s hx41) d_q_expression_97 ?_
              refine lv_iconst (v := (1 : Int32)) hx hb d_q_expression_100 (by decide) ?_
              refine lv_isub hx hb d_q_expression_101 ?_
              replace h := bs h
              obtain ⟨x42, hx42, h⟩ := h
              refine wo_iald hx hb hK hW (t := 0) rfl hx42 d_q_expression_102 ?_
              refine lv_bipush (v := (16 : Int32)) hx hb d_q_expression_103 (by decide) ?_
              refine lv_icmp_lt (tgt := 112) hx hb d_q_expression_105 (by decide) (fun c43 => ?_) (fun c43 => ?_)
              · rw [if_pos c43] at h
                exact j_q_expression_112 C ih y0 y1 y3 w39 h _ _ _ hW (lv_sub hl [0, 1, 3] rfl)
              · rw [if_neg c43] at h
                refine lv_aload_n hx hb d_q_expression_108 rfl (lv_at hl 0 rfl) ?_
                replace h := bs h
                obtain ⟨w48, hw48, h⟩ := h
                refine cv_q_240 (As := []) (rest := []) hx hb hml hown hts hK hG hW (c_q_wrong l D cA base hw48) (kb_q_wrong hw48) ⟨Nat.le_of_ble_eq_true rfl, Nat.le_of_ble_eq_true rfl⟩ ⟨Nat.le_of_ble_eq_true rfl, Nat.le_of_ble_eq_true rfl⟩ rfl hl.1 rfl (Nat.le_of_ble_eq_true rfl) d_q_expression_109 (fun H locs hW => ?_)
                exact j_q_expression_112 C ih y0 y1 y3 w48 h _ _ _ hW (lv_sub hl [0, 1, 3] rfl)
        · rw [if_pos c16] at h
          refine lv_aload_n hx hb d_q_expression_55 rfl (lv_at hl 0 rfl) ?_
          replace h := bs2 h
          obtain ⟨x50, w49, hw49, h⟩ := h
          refine cv_q_281 (As := []) (rest := []) hx hb hml hown hts hK hG hW (c_q_want l D cA base hw49) (kb_q_want hw49) ⟨Nat.le_of_ble_eq_true rfl, Nat.le_of_ble_eq_true rfl⟩ ⟨Nat.le_of_ble_eq_true rfl, Nat.le_of_ble_eq_true rfl⟩ rfl hl.1 rfl (Nat.le_of_ble_eq_true rfl) d_q_expression_56 (fun H locs hW => ?_)
          refine lv_istore_n (lv' := [(2, .int x50), (0, .ref (base + y0)), (1, .int y1), (3, .int y3)]) hx hb d_q_expression_59 rfl hl (by decide) rfl (fun ls hl => ?_)
          refine lv_goto (tgt := 40) hx hb d_q_expression_60 (by decide) ?_
          exact ih y0 y1 x50 y3 w49 h _ _ _ hW (lv_sub hl [1, 2, 0, 3] rfl)
set_option maxHeartbeats 4000000 in
set_option maxRecDepth 100000 in
theorem j_q_expression_39 {p : Program} {l : Launch} {e : Env} {s : State} {m : MethodId} {args : Array Value} {below : List Frame} {meth : Method} {c : Code} {D : va_G} {cA : Nat → ClassId} {base : Nat} {r : Int32} {w' : WW} (C : cx b_q_expression (some .int) 5 y_q_expression.cls "expression" p s m args meth c D cA base)   : ∀ (y0 : Nat) (y1 : Int32) (y2 : Int32) (z0 : Int32) (w : WW), f_q_expression_39 y0 y1 y2 z0 w = some (r, w') → ∀ (H : Heap) (locs : List Loc) (ls : Array Slot), wo_S D cls cA base s w H locs → lv_has ls 5 [(0, .ref (base + y0)), (1, .int y1), (2, .int y2)] → W p l e rm_q_expression s m args below meth c H locs 0 0 (MQ below (wo_Q D cls cA base (some (.int r)) w') args s rm_q_expression.cells rm_q_expression.slots (wo_B base)) (F0 m 39 ls [.int z0]) := by
  obtain ⟨hx, hb, hr, hml, hown, hts, hlk, hnm, hK, hG⟩ := id C
  intro y0 y1 y2 z0 w h H locs ls hW hl
  unfold f_q_expression_39 at h
  refine lv_istore_n (lv' := [(3, .int z0), (0, .ref (base + y0)), (1, .int y1), (2, .int y2)]) hx hb d_q_expression_39 rfl hl (by decide) rfl (fun ls hl => ?_)
  exact j_q_expression_40 C KK y0 y1 y2 z0 w h _ _ _ hW (lv_sub hl [1, 2, 3, 0] rfl)
set_option maxHeartbeats 4000000 in
set_option maxRecDepth 100000 in
theorem c_q_expression (l : Launch) (D : va_G) (cA : Nat → ClassId) (base : Nat) {a0 : Nat} {w w' : WW} {r : Int32} (h : f_q_expression a0 w = some (r, w')) : mt l D cls (wo_tys cA) cA base y_q_expression (Cond.code y_q_expression b_q_expression 5 (some .int) :: gt) rm_q_expression [.ref (base + a0)] w (some (.int r)) w' rm_q_expression.cells rm_q_expression.slots := by
  refine mt_start (by decide) (Nat.le_of_ble_eq_true rfl) ?_
  intro p e s m below meth c ls hx hb hr hml hown hts hlk hnm hK hG hW hl
  have C : cx b_q_expression (some .int) 5 y_q_expression.cls "expression" p s m [.ref (base + a0)].toArray meth c D cA base := ⟨hx, hb, hr, hml, hown, hts, hlk, hnm, hK, hG⟩
  have hl : lv_has ls 5 [(0, .ref (base + a0))] := hl
  unfold f_q_expression at h
  replace h := its h
  obtain ⟨-, h⟩ := h
  refine lv_aload_n hx hb d_q_expression_0 rfl (lv_at hl 0 rfl) ?_
  replace h := bs h
  obtain ⟨x1, hx1, h⟩ := h
  refine gf_q_69 hx hb hts hown hK hG hW (gN_s hx1) d_q_expression_1 ?_
  refine lv_aload_n hx hb d_q_expression_4 rfl (lv_at hl 0 rfl) ?_
  replace h := bs h
  obtain ⟨x2, hx2, h⟩ := h
  refine gf_q_243 hx hb hts hown hK hG hW (gI_s hx2) d_q_expression_5 ?_
  replace h := bs h
  obtain ⟨x3, hx3, h⟩ := h
  refine wo_iald hx hb hK hW (t := 0) rfl hx3 d_q_expression_8 ?_
  refine lv_istore_n (lv' := [(1, .int x3), (0, .ref (base + a0))]) hx hb d_q_expression_9 rfl hl (by decide) rfl (fun ls hl => ?_)
  refine lv_aload_n hx hb d_q_expression_10 rfl (lv_at hl 1 rfl) ?_
  refine lv_iconst (v := (0 : Int32)) hx hb d_q_expression_11 (by decide) ?_
  replace h := bs h
  obtain ⟨w4, hw4, h⟩ := h
  refine pf_q_246 hx hb hts hown hK hG hW rfl rfl (pbi hw4 rfl) d_q_expression_12 (fun H locs hW => ?_)
  refine lv_aload_n hx hb d_q_expression_15 rfl (lv_at hl 1 rfl) ?_
  refine lv_iconst (v := (0 : Int32)) hx hb d_q_expression_16 (by decide) ?_
  replace h := bs h
  obtain ⟨w5, hw5, h⟩ := h
  refine pf_q_249 hx hb hts hown hK hG hW rfl rfl (pbi hw5 rfl) d_q_expression_17 (fun H locs hW => ?_)
  refine lv_aload_n hx hb d_q_expression_20 rfl (lv_at hl 1 rfl) ?_
  refine lv_iconst (v := (0 : Int32)) hx hb d_q_expression_21 (by decide) ?_
  replace h := bs h
  obtain ⟨w6, hw6, h⟩ := h
  refine pf_q_262 hx hb hts hown hK hG hW rfl rfl (pbi hw6 rfl) d_q_expression_22 (fun H locs hW => ?_)
  refine lv_iconst (v := (0 : Int32)) hx hb d_q_expression_25 (by decide) ?_
  refine lv_istore_n (lv' := [(2, .int (0 : Int32)), (1, .int x3), (0, .ref (base + a0))]) hx hb d_q_expression_26 rfl hl (by decide) rfl (fun ls hl => ?_)
  refine lv_aload_n hx hb d_q_expression_27 rfl (lv_at hl 2 rfl) ?_
  replace h := bs h
  obtain ⟨x7, hx7, h⟩ := h
  refine gf_q_230 hx hb hts hown hK hG hW (gI_s hx7) d_q_expression_28 ?_
  refine lv_if_ne (tgt := 38) hx hb d_q_expression_31 (by decide) (fun c8 => ?_) (fun c8 => ?_)
  · rw [if_neg c8] at h
    refine lv_iconst (v := (0 : Int32)) hx hb d_q_expression_38 (by decide) ?_
    exact j_q_expression_39 C a0 x3 (0 : Int32) (0 : Int32) w6 h _ _ _ hW (lv_sub hl [2, 1, 0] rfl)
  · rw [if_pos c8] at h
    refine lv_iconst (v := (1 : Int32)) hx hb d_q_expression_34 (by decide) ?_
    refine lv_goto (tgt := 39) hx hb d_q_expression_35 (by decide) ?_
    exact j_q_expression_39 C a0 x3 (0 : Int32) (1 : Int32) w6 h _ _ _ hW (lv_sub hl [2, 1, 0] rfl)
theorem cv_q_298 {p : Program} {l : Launch} {e : Env} {R : Room} {s : State} {m : MethodId} {args : Array Value} {below : List Frame} {meth : Method} {c : Code} {H : Heap} {locs : List Loc} {cells slots : Nat} {Q : State → Prop} {D : va_G} {cA : Nat → ClassId} {base : Nat} {w w' : WW} {cc : ByteArray} {pc nL : Nat} {ls : Array Slot} {rest st0 As : List Value} {ov : Option Value} {b : Nat} (hx : p.tables.exec = Jvm.exec) (hb : c.code = cc) (hml : c.maxLocals = nL) (hown : s.vm.findClass Rc_q = some m.cls) (hts : ∀ w ∈ gt, w.before args s = true) (hK : va_K D cls (wo_tys cA) s) (hG : wo_G cA base s) (hW : wo_S D cls cA base s w H locs) (hM : mt l D cls (wo_tys cA) cA base y_q_statement (Cond.code y_q_statement b_q_statement 3 (some .int) :: gt) rm_q_statement (.ref (base + b) :: As) w ov w' rm_q_statement.cells rm_q_statement.slots) (hkb : kb w b 9 = true) (hR : rm_q_statement.frames + 1 ≤ R.frames ∧ 8 + (3 + 11) + rm_q_statement.locals ≤ R.locals) (hf : cells + rm_q_statement.cells ≤ R.cells ∧ slots + rm_q_statement.slots ≤ R.slots) (hn : As.length = 1) (hsz : ls.size = nL) (hst : st0 = As.reverse ++ .ref (base + b) :: rest) (hcat : (rest.map fun v => v.category).sum ≤ 8) (hdg : decode cc pc = .ok (.invokevirtual 298, 3)) (kk : ∀ (H1 : Heap) (locs1 : List Loc), wo_S D cls cA base s w' H1 locs1 → W p l e R s m args below meth c H1 locs1 (cells + rm_q_statement.cells) (slots + rm_q_statement.slots) Q (F0 m (pc + 3) ls (ov.toList ++ rest))) : W p l e R s m args below meth c H locs cells slots Q (F0 m pc ls st0) :=
  wo_callV (C := Rc_q) hx hb hml hown hts hK hG hW hM hkb rfl (gt_of (i := 1452) (by decide +kernel) (by decide +kernel)) (gt_of (i := 1454) (by decide +kernel) (by decide +kernel)) (gt_sel (i := 68) (by decide +kernel) (by decide +kernel)) (gt_of (i := 10) (by decide +kernel) (by decide +kernel)) (gt_of (i := 1455) (by decide +kernel) (by decide +kernel)) (by decide +kernel) hR hf hn hsz hst hcat hdg kk
theorem cv_q_292 {p : Program} {l : Launch} {e : Env} {R : Room} {s : State} {m : MethodId} {args : Array Value} {below : List Frame} {meth : Method} {c : Code} {H : Heap} {locs : List Loc} {cells slots : Nat} {Q : State → Prop} {D : va_G} {cA : Nat → ClassId} {base : Nat} {w w' : WW} {cc : ByteArray} {pc nL : Nat} {ls : Array Slot} {rest st0 As : List Value} {ov : Option Value} {b : Nat} (hx : p.tables.exec = Jvm.exec) (hb : c.code = cc) (hml : c.maxLocals = nL) (hown : s.vm.findClass Rc_q = some m.cls) (hts : ∀ w ∈ gt, w.before args s = true) (hK : va_K D cls (wo_tys cA) s) (hG : wo_G cA base s) (hW : wo_S D cls cA base s w H locs) (hM : mt l D cls (wo_tys cA) cA base y_q_expression (Cond.code y_q_expression b_q_expression 5 (some .int) :: gt) rm_q_expression (.ref (base + b) :: As) w ov w' rm_q_expression.cells rm_q_expression.slots) (hkb : kb w b 9 = true) (hR : rm_q_expression.frames + 1 ≤ R.frames ∧ 8 + (5 + 11) + rm_q_expression.locals ≤ R.locals) (hf : cells + rm_q_expression.cells ≤ R.cells ∧ slots + rm_q_expression.slots ≤ R.slots) (hn : As.length = 0) (hsz : ls.size = nL) (hst : st0 = As.reverse ++ .ref (base + b) :: rest) (hcat : (rest.map fun v => v.category).sum ≤ 8) (hdg : decode cc pc = .ok (.invokevirtual 292, 3)) (kk : ∀ (H1 : Heap) (locs1 : List Loc), wo_S D cls cA base s w' H1 locs1 → W p l e R s m args below meth c H1 locs1 (cells + rm_q_expression.cells) (slots + rm_q_expression.slots) Q (F0 m (pc + 3) ls (ov.toList ++ rest))) : W p l e R s m args below meth c H locs cells slots Q (F0 m pc ls st0) :=
  wo_callV (C := Rc_q) hx hb hml hown hts hK hG hW hM hkb rfl (gt_of (i := 1460) (by decide +kernel) (by decide +kernel)) (gt_of (i := 1462) (by decide +kernel) (by decide +kernel)) (gt_sel (i := 70) (by decide +kernel) (by decide +kernel)) (gt_of (i := 10) (by decide +kernel) (by decide +kernel)) (gt_of (i := 1463) (by decide +kernel) (by decide +kernel)) (by decide +kernel) hR hf hn hsz hst hcat hdg kk
abbrev b_q_assignment : ByteArray := prog_11_method_32_code
def y_q_assignment : MethodName := ⟨"AlarmForgeModel", "assignment", "()V"⟩
def rm_q_assignment : Room := { frames := 7, cells := 0, slots := 0, locals := 159 }
theorem d_q_assignment_0 : decode b_q_assignment 0 = .ok (.aload_n 0, 1) := by decide +kernel
theorem d_q_assignment_1 : decode b_q_assignment 1 = .ok (.iconst 0, 1) := by decide +kernel
theorem d_q_assignment_2 : decode b_q_assignment 2 = .ok (.invokevirtual 298, 3) := by decide +kernel
theorem d_q_assignment_5 : decode b_q_assignment 5 = .ok (.istore_n 1, 1) := by decide +kernel
theorem d_q_assignment_6 : decode b_q_assignment 6 = .ok (.aload_n 0, 1) := by decide +kernel
theorem d_q_assignment_7 : decode b_q_assignment 7 = .ok (.bipush (61), 2) := by decide +kernel
theorem d_q_assignment_9 : decode b_q_assignment 9 = .ok (.invokevirtual 275, 3) := by decide +kernel
theorem d_q_assignment_12 : decode b_q_assignment 12 = .ok (.aload_n 0, 1) := by decide +kernel
theorem d_q_assignment_13 : decode b_q_assignment 13 = .ok (.getfield 230, 3) := by decide +kernel
theorem d_q_assignment_16 : decode b_q_assignment 16 = .ok (.ifCond .ne (33), 3) := by decide +kernel
theorem d_q_assignment_19 : decode b_q_assignment 19 = .ok (.aload_n 0, 1) := by decide +kernel
theorem d_q_assignment_20 : decode b_q_assignment 20 = .ok (.getfield 195, 3) := by decide +kernel
theorem d_q_assignment_23 : decode b_q_assignment 23 = .ok (.iconst 4, 1) := by decide +kernel
theorem d_q_assignment_24 : decode b_q_assignment 24 = .ok (.if_icmp .ne (25), 3) := by decide +kernel
theorem d_q_assignment_27 : decode b_q_assignment 27 = .ok (.aload_n 0, 1) := by decide +kernel
theorem d_q_assignment_28 : decode b_q_assignment 28 = .ok (.getfield 198, 3) := by decide +kernel
theorem d_q_assignment_31 : decode b_q_assignment 31 = .ok (.iconst 4, 1) := by decide +kernel
theorem d_q_assignment_32 : decode b_q_assignment 32 = .ok (.if_icmp .ne (17), 3) := by decide +kernel
theorem d_q_assignment_35 : decode b_q_assignment 35 = .ok (.aload_n 0, 1) := by decide +kernel
theorem d_q_assignment_36 : decode b_q_assignment 36 = .ok (.getfield 26, 3) := by decide +kernel
theorem d_q_assignment_39 : decode b_q_assignment 39 = .ok (.iload_n 1, 1) := by decide +kernel
theorem d_q_assignment_40 : decode b_q_assignment 40 = .ok (.iconst 1, 1) := by decide +kernel
theorem d_q_assignment_41 : decode b_q_assignment 41 = .ok (.iastore, 1) := by decide +kernel
theorem d_q_assignment_42 : decode b_q_assignment 42 = .ok (.aload_n 0, 1) := by decide +kernel
theorem d_q_assignment_43 : decode b_q_assignment 43 = .ok (.invokevirtual 237, 3) := by decide +kernel
theorem d_q_assignment_46 : decode b_q_assignment 46 = .ok (.goto (37), 3) := by decide +kernel
theorem d_q_assignment_49 : decode b_q_assignment 49 = .ok (.aload_n 0, 1) := by decide +kernel
theorem d_q_assignment_50 : decode b_q_assignment 50 = .ok (.getfield 35, 3) := by decide +kernel
theorem d_q_assignment_53 : decode b_q_assignment 53 = .ok (.iload_n 1, 1) := by decide +kernel
theorem d_q_assignment_54 : decode b_q_assignment 54 = .ok (.aload_n 0, 1) := by decide +kernel
theorem d_q_assignment_55 : decode b_q_assignment 55 = .ok (.invokevirtual 292, 3) := by decide +kernel
theorem d_q_assignment_58 : decode b_q_assignment 58 = .ok (.iastore, 1) := by decide +kernel
theorem d_q_assignment_59 : decode b_q_assignment 59 = .ok (.aload_n 0, 1) := by decide +kernel
theorem d_q_assignment_60 : decode b_q_assignment 60 = .ok (.getfield 38, 3) := by decide +kernel
theorem d_q_assignment_63 : decode b_q_assignment 63 = .ok (.iload_n 1, 1) := by decide +kernel
theorem d_q_assignment_64 : decode b_q_assignment 64 = .ok (.sipush (220), 3) := by decide +kernel
theorem d_q_assignment_67 : decode b_q_assignment 67 = .ok (.aload_n 0, 1) := by decide +kernel
theorem d_q_assignment_68 : decode b_q_assignment 68 = .ok (.getfield 243, 3) := by decide +kernel
theorem d_q_assignment_71 : decode b_q_assignment 71 = .ok (.imul, 1) := by decide +kernel
theorem d_q_assignment_72 : decode b_q_assignment 72 = .ok (.aload_n 0, 1) := by decide +kernel
theorem d_q_assignment_73 : decode b_q_assignment 73 = .ok (.getfield 69, 3) := by decide +kernel
theorem d_q_assignment_76 : decode b_q_assignment 76 = .ok (.aload_n 0, 1) := by decide +kernel
theorem d_q_assignment_77 : decode b_q_assignment 77 = .ok (.getfield 243, 3) := by decide +kernel
theorem d_q_assignment_80 : decode b_q_assignment 80 = .ok (.iaload, 1) := by decide +kernel
theorem d_q_assignment_81 : decode b_q_assignment 81 = .ok (.iadd, 1) := by decide +kernel
theorem d_q_assignment_82 : decode b_q_assignment 82 = .ok (.iastore, 1) := by decide +kernel
theorem d_q_assignment_83 : decode b_q_assignment 83 = .ok (.aload_n 0, 1) := by decide +kernel
theorem d_q_assignment_84 : decode b_q_assignment 84 = .ok (.bipush (59), 2) := by decide +kernel
theorem d_q_assignment_86 : decode b_q_assignment 86 = .ok (.invokevirtual 275, 3) := by decide +kernel
theorem d_q_assignment_89 : decode b_q_assignment 89 = .ok (.return_, 1) := by decide +kernel
theorem kb_q_assignment {a0 : Nat}  {w : WW} {r : WW} (h : f_q_assignment a0 w = some r) : kb w a0 9 = true := (its h).1
set_option maxHeartbeats 4000000 in
set_option maxRecDepth 100000 in
theorem j_q_assignment_83 {p : Program} {l : Launch} {e : Env} {s : State} {m : MethodId} {args : Array Value} {below : List Frame} {meth : Method} {c : Code} {D : va_G} {cA : Nat → ClassId} {base : Nat} {w' : WW} (C : cx b_q_assignment (none) 2 y_q_assignment.cls "assignment" p s m args meth c D cA base)   : ∀ (y0 : Nat) (w : WW), f_q_assignment_83 y0 w = some w' → ∀ (H : Heap) (locs : List Loc) (ls : Array Slot), wo_S D cls cA base s w H locs → lv_has ls 2 [(0, .ref (base + y0))] → W p l e rm_q_assignment s m args below meth c H locs 0 0 (MQ below (wo_Q D cls cA base none w') args s rm_q_assignment.cells rm_q_assignment.slots (wo_B base)) (F0 m 83 ls []) := by
  obtain ⟨hx, hb, hr, hml, hown, hts, hlk, hnm, hK, hG⟩ := id C
  intro y0 w h H locs ls hW hl
  unfold f_q_assignment_83 at h
  refine lv_aload_n hx hb d_q_assignment_83 rfl (lv_at hl 0 rfl) ?_
  refine lv_bipush (v := (59 : Int32)) hx hb d_q_assignment_84 (by decide) ?_
  replace h := bs h
  obtain ⟨w16, hw16, h⟩ := h
  refine cv_q_275 (As := [.int (59 : Int32)]) (rest := []) hx hb hml hown hts hK hG hW (c_q_expect l D cA base hw16) (kb_q_expect hw16) ⟨Nat.le_of_ble_eq_true rfl, Nat.le_of_ble_eq_true rfl⟩ ⟨Nat.le_of_ble_eq_true rfl, Nat.le_of_ble_eq_true rfl⟩ rfl hl.1 rfl (Nat.le_of_ble_eq_true rfl) d_q_assignment_86 (fun H locs hW => ?_)
  cases h
  exact wo_vret hx hb hr hlk hW d_q_assignment_89
set_option maxHeartbeats 4000000 in
set_option maxRecDepth 100000 in
theorem j_q_assignment_49 {p : Program} {l : Launch} {e : Env} {s : State} {m : MethodId} {args : Array Value} {below : List Frame} {meth : Method} {c : Code} {D : va_G} {cA : Nat → ClassId} {base : Nat} {w' : WW} (C : cx b_q_assignment (none) 2 y_q_assignment.cls "assignment" p s m args meth c D cA base)   : ∀ (y0 : Nat) (y1 : Int32) (w : WW), f_q_assignment_49 y0 y1 w = some w' → ∀ (H : Heap) (locs : List Loc) (ls : Array Slot), wo_S D cls cA base s w H locs → lv_has ls 2 [(0, .ref (base + y0)), (1, .int y1)] → W p l e rm_q_assignment s m args below meth c H locs 0 0 (MQ below (wo_Q D cls cA base none w') args s rm_q_assignment.cells rm_q_assignment.slots (wo_B base)) (F0 m 49 ls []) := by
  obtain ⟨hx, hb, hr, hml, hown, hts, hlk, hnm, hK, hG⟩ := id C
  intro y0 y1 w h H locs ls hW hl
  unfold f_q_assignment_49 at h
  refine lv_aload_n hx hb d_q_assignment_49 rfl (lv_at hl 0 rfl) ?_
  replace h := bs h
  obtain ⟨x6, hx6, h⟩ := h
  refine gf_q_35 hx hb hts hown hK hG hW (gN_s hx6) d_q_assignment_50 ?_
  refine lv_iload_n hx hb d_q_assignment_53 rfl (lv_at hl 1 rfl) ?_
  refine lv_aload_n hx hb d_q_assignment_54 rfl (lv_at hl 0 rfl) ?_
  replace h := bs2 h
  obtain ⟨x8, w7, hw7, h⟩ := h
  refine cv_q_292 (As := []) (rest := [.int y1, .ref (base + x6)]) hx hb hml hown hts hK hG hW (c_q_expression l D cA base hw7) (kb_q_expression hw7) ⟨Nat.le_of_ble_eq_true rfl, Nat.le_of_ble_eq_true rfl⟩ ⟨Nat.le_of_ble_eq_true rfl, Nat.le_of_ble_eq_true rfl⟩ rfl hl.1 rfl (Nat.le_of_ble_eq_true rfl) d_q_assignment_55 (fun H locs hW => ?_)
  replace h := bs h
  obtain ⟨w9, hw9, h⟩ := h
  refine wo_iast hx hb hK hW (t := 0) rfl hw9 d_q_assignment_58 (fun H locs hW => ?_)
  refine lv_aload_n hx hb d_q_assignment_59 rfl (lv_at hl 0 rfl) ?_
  replace h := bs h
  obtain ⟨x10, hx10, h⟩ := h
  refine gf_q_38 hx hb hts hown hK hG hW (gN_s hx10) d_q_assignment_60 ?_
  refine lv_iload_n hx hb d_q_assignment_63 rfl (lv_at hl 1 rfl) ?_
  refine lv_sipush (v := (220 : Int32)) hx hb d_q_assignment_64 (by decide) ?_
  refine lv_aload_n hx hb d_q_assignment_67 rfl (lv_at hl 0 rfl) ?_
  replace h := bs h
  obtain ⟨x11, hx11, h⟩ := h
  refine gf_q_243 hx hb hts hown hK hG hW (gI_s hx11) d_q_assignment_68 ?_
  refine lv_imul hx hb d_q_assignment_71 ?_
  refine lv_aload_n hx hb d_q_assignment_72 rfl (lv_at hl 0 rfl) ?_
  replace h := bs h
  obtain ⟨x12, hx12, h⟩ := h
  refine gf_q_69 hx hb hts hown hK hG hW (gN_s hx12) d_q_assignment_73 ?_
  refine lv_aload_n hx hb d_q_assignment_76 rfl (lv_at hl 0 rfl) ?_
  replace h := bs h
  obtain ⟨x13, hx13, h⟩ := h
  refine gf_q_243 hx hb hts hown hK hG hW (gI_s hx13) d_q_assignment_77 ?_
  replace h := bs h
  obtain ⟨x14, hx14, h⟩ := h
  refine wo_iald hx hb hK hW (t := 0) rfl hx14 d_q_assignment_80 ?_
  refine lv_iadd hx hb d_q_assignment_81 ?_
  replace h := bs h
  obtain ⟨w15, hw15, h⟩ := h
  refine wo_iast hx hb hK hW (t := 0) rfl hw15 d_q_assignment_82 (fun H locs hW => ?_)
  exact j_q_assignment_83 C y0 w15 h _ _ _ hW (lv_sub hl [0] rfl)
set_option maxHeartbeats 4000000 in
set_option maxRecDepth 100000 in
theorem c_q_assignment (l : Launch) (D : va_G) (cA : Nat → ClassId) (base : Nat) {a0 : Nat} {w w' : WW} (h : f_q_assignment a0 w = some w') : mt l D cls (wo_tys cA) cA base y_q_assignment (Cond.code y_q_assignment b_q_assignment 2 (none) :: gt) rm_q_assignment [.ref (base + a0)] w none w' rm_q_assignment.cells rm_q_assignment.slots := by
  refine mt_start (by decide) (Nat.le_of_ble_eq_true rfl) ?_
  intro p e s m below meth c ls hx hb hr hml hown hts hlk hnm hK hG hW hl
  have C : cx b_q_assignment (none) 2 y_q_assignment.cls "assignment" p s m [.ref (base + a0)].toArray meth c D cA base := ⟨hx, hb, hr, hml, hown, hts, hlk, hnm, hK, hG⟩
  have hl : lv_has ls 2 [(0, .ref (base + a0))] := hl
  unfold f_q_assignment at h
  replace h := its h
  obtain ⟨-, h⟩ := h
  refine lv_aload_n hx hb d_q_assignment_0 rfl (lv_at hl 0 rfl) ?_
  refine lv_iconst (v := (0 : Int32)) hx hb d_q_assignment_1 (by decide) ?_
  replace h := bs2 h
  obtain ⟨x2, w1, hw1, h⟩ := h
  refine cv_q_298 (As := [.int (0 : Int32)]) (rest := []) hx hb hml hown hts hK hG hW (c_q_statement l D cA base hw1) (kb_q_statement hw1) ⟨Nat.le_of_ble_eq_true rfl, Nat.le_of_ble_eq_true rfl⟩ ⟨Nat.le_of_ble_eq_true rfl, Nat.le_of_ble_eq_true rfl⟩ rfl hl.1 rfl (Nat.le_of_ble_eq_true rfl) d_q_assignment_2 (fun H locs hW => ?_)
  refine lv_istore_n (lv' := [(1, .int x2), (0, .ref (base + a0))]) hx hb d_q_assignment_5 rfl hl (by decide) rfl (fun ls hl => ?_)
  refine lv_aload_n hx hb d_q_assignment_6 rfl (lv_at hl 1 rfl) ?_
  refine lv_bipush (v := (61 : Int32)) hx hb d_q_assignment_7 (by decide) ?_
  replace h := bs h
  obtain ⟨w3, hw3, h⟩ := h
  refine cv_q_275 (As := [.int (61 : Int32)]) (rest := []) hx hb hml hown hts hK hG hW (c_q_expect l D cA base hw3) (kb_q_expect hw3) ⟨Nat.le_of_ble_eq_true rfl, Nat.le_of_ble_eq_true rfl⟩ ⟨Nat.le_of_ble_eq_true rfl, Nat.le_of_ble_eq_true rfl⟩ rfl hl.1 rfl (Nat.le_of_ble_eq_true rfl) d_q_assignment_9 (fun H locs hW => ?_)
  refine lv_aload_n hx hb d_q_assignment_12 rfl (lv_at hl 1 rfl) ?_
  replace h := bs h
  obtain ⟨x4, hx4, h⟩ := h
  refine gf_q_230 hx hb hts hown hK hG hW (gI_s hx4) d_q_assignment_13 ?_
  refine lv_if_ne (tgt := 49) hx hb d_q_assignment_16 (by decide) (fun c5 => ?_) (fun c5 => ?_)
  · rw [if_neg c5] at h
    exact j_q_assignment_49 C a0 x2 w3 h _ _ _ hW (lv_sub hl [1, 0] rfl)
  · rw [if_pos c5] at h
    refine lv_aload_n hx hb d_q_assignment_19 rfl (lv_at hl 1 rfl) ?_
    replace h := bs h
    obtain ⟨x17, hx17, h⟩ := h
    refine gf_q_195 hx hb hts hown hK hG hW (gI_s hx17) d_q_assignment_20 ?_
    refine lv_iconst (v := (4 : Int32)) hx hb d_q_assignment_23 (by decide) ?_
    refine lv_icmp_ne (tgt := 49) hx hb d_q_assignment_24 (by decide) (fun c18 => ?_) (fun c18 => ?_)
    · rw [if_neg c18] at h
      exact j_q_assignment_49 C a0 x2 w3 h _ _ _ hW (lv_sub hl [1, 0] rfl)
    · rw [if_pos c18] at h
      refine lv_aload_n hx hb d_q_assignment_27 rfl (lv_at hl 1 rfl) ?_
      replace h := bs h
      obtain ⟨x19, hx19, h⟩ := h
      refine gf_q_198 hx hb hts hown hK hG hW (gI_s hx19) d_q_assignment_28 ?_
      refine lv_iconst (v := (4 : Int32)) hx hb d_q_assignment_31 (by decide) ?_
      refine lv_icmp_ne (tgt := 49) hx hb d_q_assignment_32 (by decide) (fun c20 => ?_) (fun c20 => ?_)
      · rw [if_neg c20] at h
        exact j_q_assignment_49 C a0 x2 w3 h _ _ _ hW (lv_sub hl [1, 0] rfl)
      · rw [if_pos c20] at h
        refine lv_aload_n hx hb d_q_assignment_35 rfl (lv_at hl 1 rfl) ?_
        replace h := bs h
        obtain ⟨x21, hx21, h⟩ := h
        refine gf_q_26 hx hb hts hown hK hG hW (gN_s hx21) d_q_assignment_36 ?_
        refine lv_iload_n hx hb d_q_assignment_39 rfl (lv_at hl 0 rfl) ?_
        refine lv_iconst (v := (1 : Int32)) hx hb d_q_assignment_40 (by decide) ?_
        replace h := bs h
        obtain ⟨w22, hw22, h⟩ := h
        refine wo_iast hx hb hK hW (t := 0) rfl hw22 d_q_assignment_41 (fun H locs hW => ?_)
        refine lv_aload_n hx hb d_q_assignment_42 rfl (lv_at hl 1 rfl) ?_
        replace h := bs h
        obtain ⟨w23, hw23, h⟩ := h
        refine cv_q_237 (As := []) (rest := []) hx hb hml hown hts hK hG hW (c_q_read l D cA base hw23) (kb_q_read hw23) ⟨Nat.le_of_ble_eq_true rfl, Nat.le_of_ble_eq_true rfl⟩ ⟨Nat.le_of_ble_eq_true rfl, Nat.le_of_ble_eq_true rfl⟩ rfl hl.1 rfl (Nat.le_of_ble_eq_true rfl) d_q_assignment_43 (fun H locs hW => ?_)
        refine lv_goto (tgt := 83) hx hb d_q_assignment_46 (by decide) ?_
        exact j_q_assignment_83 C a0 w23 h _ _ _ hW (lv_sub hl [1] rfl)
abbrev b_q_storing : ByteArray := prog_11_method_33_code
def y_q_storing : MethodName := ⟨"AlarmForgeModel", "storing", "()V"⟩
def rm_q_storing : Room := { frames := 7, cells := 0, slots := 0, locals := 159 }
theorem d_q_storing_0 : decode b_q_storing 0 = .ok (.aload_n 0, 1) := by decide +kernel
theorem d_q_storing_1 : decode b_q_storing 1 = .ok (.iconst 2, 1) := by decide +kernel
theorem d_q_storing_2 : decode b_q_storing 2 = .ok (.invokevirtual 298, 3) := by decide +kernel
theorem d_q_storing_5 : decode b_q_storing 5 = .ok (.istore_n 1, 1) := by decide +kernel
theorem d_q_storing_6 : decode b_q_storing 6 = .ok (.aload_n 0, 1) := by decide +kernel
theorem d_q_storing_7 : decode b_q_storing 7 = .ok (.bipush (91), 2) := by decide +kernel
theorem d_q_storing_9 : decode b_q_storing 9 = .ok (.invokevirtual 275, 3) := by decide +kernel
theorem d_q_storing_12 : decode b_q_storing 12 = .ok (.aload_n 0, 1) := by decide +kernel
theorem d_q_storing_13 : decode b_q_storing 13 = .ok (.getfield 35, 3) := by decide +kernel
theorem d_q_storing_16 : decode b_q_storing 16 = .ok (.iload_n 1, 1) := by decide +kernel
theorem d_q_storing_17 : decode b_q_storing 17 = .ok (.aload_n 0, 1) := by decide +kernel
theorem d_q_storing_18 : decode b_q_storing 18 = .ok (.invokevirtual 292, 3) := by decide +kernel
theorem d_q_storing_21 : decode b_q_storing 21 = .ok (.iastore, 1) := by decide +kernel
theorem d_q_storing_22 : decode b_q_storing 22 = .ok (.aload_n 0, 1) := by decide +kernel
theorem d_q_storing_23 : decode b_q_storing 23 = .ok (.getfield 38, 3) := by decide +kernel
theorem d_q_storing_26 : decode b_q_storing 26 = .ok (.iload_n 1, 1) := by decide +kernel
theorem d_q_storing_27 : decode b_q_storing 27 = .ok (.sipush (220), 3) := by decide +kernel
theorem d_q_storing_30 : decode b_q_storing 30 = .ok (.aload_n 0, 1) := by decide +kernel
theorem d_q_storing_31 : decode b_q_storing 31 = .ok (.getfield 243, 3) := by decide +kernel
theorem d_q_storing_34 : decode b_q_storing 34 = .ok (.imul, 1) := by decide +kernel
theorem d_q_storing_35 : decode b_q_storing 35 = .ok (.aload_n 0, 1) := by decide +kernel
theorem d_q_storing_36 : decode b_q_storing 36 = .ok (.getfield 69, 3) := by decide +kernel
theorem d_q_storing_39 : decode b_q_storing 39 = .ok (.aload_n 0, 1) := by decide +kernel
theorem d_q_storing_40 : decode b_q_storing 40 = .ok (.getfield 243, 3) := by decide +kernel
theorem d_q_storing_43 : decode b_q_storing 43 = .ok (.iaload, 1) := by decide +kernel
theorem d_q_storing_44 : decode b_q_storing 44 = .ok (.iadd, 1) := by decide +kernel
theorem d_q_storing_45 : decode b_q_storing 45 = .ok (.iastore, 1) := by decide +kernel
theorem d_q_storing_46 : decode b_q_storing 46 = .ok (.aload_n 0, 1) := by decide +kernel
theorem d_q_storing_47 : decode b_q_storing 47 = .ok (.bipush (93), 2) := by decide +kernel
theorem d_q_storing_49 : decode b_q_storing 49 = .ok (.invokevirtual 275, 3) := by decide +kernel
theorem d_q_storing_52 : decode b_q_storing 52 = .ok (.aload_n 0, 1) := by decide +kernel
theorem d_q_storing_53 : decode b_q_storing 53 = .ok (.bipush (61), 2) := by decide +kernel
theorem d_q_storing_55 : decode b_q_storing 55 = .ok (.invokevirtual 275, 3) := by decide +kernel
theorem d_q_storing_58 : decode b_q_storing 58 = .ok (.aload_n 0, 1) := by decide +kernel
theorem d_q_storing_59 : decode b_q_storing 59 = .ok (.getfield 41, 3) := by decide +kernel
theorem d_q_storing_62 : decode b_q_storing 62 = .ok (.iload_n 1, 1) := by decide +kernel
theorem d_q_storing_63 : decode b_q_storing 63 = .ok (.aload_n 0, 1) := by decide +kernel
theorem d_q_storing_64 : decode b_q_storing 64 = .ok (.invokevirtual 292, 3) := by decide +kernel
theorem d_q_storing_67 : decode b_q_storing 67 = .ok (.iastore, 1) := by decide +kernel
theorem d_q_storing_68 : decode b_q_storing 68 = .ok (.aload_n 0, 1) := by decide +kernel
theorem d_q_storing_69 : decode b_q_storing 69 = .ok (.getfield 44, 3) := by decide +kernel
theorem d_q_storing_72 : decode b_q_storing 72 = .ok (.iload_n 1, 1) := by decide +kernel
theorem d_q_storing_73 : decode b_q_storing 73 = .ok (.sipush (220), 3) := by decide +kernel
theorem d_q_storing_76 : decode b_q_storing 76 = .ok (.aload_n 0, 1) := by decide +kernel
theorem d_q_storing_77 : decode b_q_storing 77 = .ok (.getfield 243, 3) := by decide +kernel
theorem d_q_storing_80 : decode b_q_storing 80 = .ok (.imul, 1) := by decide +kernel
theorem d_q_storing_81 : decode b_q_storing 81 = .ok (.aload_n 0, 1) := by decide +kernel
theorem d_q_storing_82 : decode b_q_storing 82 = .ok (.getfield 69, 3) := by decide +kernel
theorem d_q_storing_85 : decode b_q_storing 85 = .ok (.aload_n 0, 1) := by decide +kernel
theorem d_q_storing_86 : decode b_q_storing 86 = .ok (.getfield 243, 3) := by decide +kernel
theorem d_q_storing_89 : decode b_q_storing 89 = .ok (.iaload, 1) := by decide +kernel
theorem d_q_storing_90 : decode b_q_storing 90 = .ok (.iadd, 1) := by decide +kernel
theorem d_q_storing_91 : decode b_q_storing 91 = .ok (.iastore, 1) := by decide +kernel
theorem d_q_storing_92 : decode b_q_storing 92 = .ok (.aload_n 0, 1) := by decide +kernel
theorem d_q_storing_93 : decode b_q_storing 93 = .ok (.bipush (59), 2) := by decide +kernel
theorem d_q_storing_95 : decode b_q_storing 95 = .ok (.invokevirtual 275, 3) := by decide +kernel
theorem d_q_storing_98 : decode b_q_storing 98 = .ok (.return_, 1) := by decide +kernel
theorem kb_q_storing {a0 : Nat}  {w : WW} {r : WW} (h : f_q_storing a0 w = some r) : kb w a0 9 = true := (its h).1
set_option maxHeartbeats 4000000 in
set_option maxRecDepth 100000 in
theorem c_q_storing (l : Launch) (D : va_G) (cA : Nat → ClassId) (base : Nat) {a0 : Nat} {w w' : WW} (h : f_q_storing a0 w = some w') : mt l D cls (wo_tys cA) cA base y_q_storing (Cond.code y_q_storing b_q_storing 2 (none) :: gt) rm_q_storing [.ref (base + a0)] w none w' rm_q_storing.cells rm_q_storing.slots := by
  refine mt_start (by decide) (Nat.le_of_ble_eq_true rfl) ?_
  intro p e s m below meth c ls hx hb hr hml hown hts hlk hnm hK hG hW hl
  have C : cx b_q_storing (none) 2 y_q_storing.cls "storing" p s m [.ref (base + a0)].toArray meth c D cA base := ⟨hx, hb, hr, hml, hown, hts, hlk, hnm, hK, hG⟩
  have hl : lv_has ls 2 [(0, .ref (base + a0))] := hl
  unfold f_q_storing at h
  replace h := its h
  obtain ⟨-, h⟩ := h
  refine lv_aload_n hx hb d_q_storing_0 rfl (lv_at hl 0 rfl) ?_
  refine lv_iconst (v := (2 : Int32)) hx hb d_q_storing_1 (by decide) ?_
  replace h := bs2 h
  obtain ⟨x2, w1, hw1, h⟩ := h
  refine cv_q_298 (As := [.int (2 : Int32)]) (rest := []) hx hb hml hown hts hK hG hW (c_q_statement l D cA base hw1) (kb_q_statement hw1) ⟨Nat.le_of_ble_eq_true rfl, Nat.le_of_ble_eq_true rfl⟩ ⟨Nat.le_of_ble_eq_true rfl, Nat.le_of_ble_eq_true rfl⟩ rfl hl.1 rfl (Nat.le_of_ble_eq_true rfl) d_q_storing_2 (fun H locs hW => ?_)
  refine lv_istore_n (lv' := [(1, .int x2), (0, .ref (base + a0))]) hx hb d_q_storing_5 rfl hl (by decide) rfl (fun ls hl => ?_)
  refine lv_aload_n hx hb d_q_storing_6 rfl (lv_at hl 1 rfl) ?_
  refine lv_bipush (v := (91 : Int32)) hx hb d_q_storing_7 (by decide) ?_
  replace h := bs h
  obtain ⟨w3, hw3, h⟩ := h
  refine cv_q_275 (As := [.int (91 : Int32)]) (rest := []) hx hb hml hown hts hK hG hW (c_q_expect l D cA base hw3) (kb_q_expect hw3) ⟨Nat.le_of_ble_eq_true rfl, Nat.le_of_ble_eq_true rfl⟩ ⟨Nat.le_of_ble_eq_true rfl, Nat.le_of_ble_eq_true rfl⟩ rfl hl.1 rfl (Nat.le_of_ble_eq_true rfl) d_q_storing_9 (fun H locs hW => ?_)
  refine lv_aload_n hx hb d_q_storing_12 rfl (lv_at hl 1 rfl) ?_
  replace h := bs h
  obtain ⟨x4, hx4, h⟩ := h
  refine gf_q_35 hx hb hts hown hK hG hW (gN_s hx4) d_q_storing_13 ?_
  refine lv_iload_n hx hb d_q_storing_16 rfl (lv_at hl 0 rfl) ?_
  refine lv_aload_n hx hb d_q_storing_17 rfl (lv_at hl 1 rfl) ?_
  replace h := bs2 h
  obtain ⟨x6, w5, hw5, h⟩ := h
  refine cv_q_292 (As := []) (rest := [.int x2, .ref (base + x4)]) hx hb hml hown hts hK hG hW (c_q_expression l D cA base hw5) (kb_q_expression hw5) ⟨Nat.le_of_ble_eq_true rfl, Nat.le_of_ble_eq_true rfl⟩ ⟨Nat.le_of_ble_eq_true rfl, Nat.le_of_ble_eq_true rfl⟩ rfl hl.1 rfl (Nat.le_of_ble_eq_true rfl) d_q_storing_18 (fun H locs hW => ?_)
  replace h := bs h
  obtain ⟨w7, hw7, h⟩ := h
  refine wo_iast hx hb hK hW (t := 0) rfl hw7 d_q_storing_21 (fun H locs hW => ?_)
  refine lv_aload_n hx hb d_q_storing_22 rfl (lv_at hl 1 rfl) ?_
  replace h := bs h
  obtain ⟨x8, hx8, h⟩ := h
  refine gf_q_38 hx hb hts hown hK hG hW (gN_s hx8) d_q_storing_23 ?_
  refine lv_iload_n hx hb d_q_storing_26 rfl (lv_at hl 0 rfl) ?_
  refine lv_sipush (v := (220 : Int32)) hx hb d_q_storing_27 (by decide) ?_
  refine lv_aload_n hx hb d_q_storing_30 rfl (lv_at hl 1 rfl) ?_
  replace h := bs h
  obtain ⟨x9, hx9, h⟩ := h
  refine gf_q_243 hx hb hts hown hK hG hW (gI_s hx9) d_q_storing_31 ?_
  refine lv_imul hx hb d_q_storing_34 ?_
  refine lv_aload_n hx hb d_q_storing_35 rfl (lv_at hl 1 rfl) ?_
  replace h := bs h
  obtain ⟨x10, hx10, h⟩ := h
  refine gf_q_69 hx hb hts hown hK hG hW (gN_s hx10) d_q_storing_36 ?_
  refine lv_aload_n hx hb d_q_storing_39 rfl (lv_at hl 1 rfl) ?_
  replace h := bs h
  obtain ⟨x11, hx11, h⟩ := h
  refine gf_q_243 hx hb hts hown hK hG hW (gI_s hx11) d_q_storing_40 ?_
  replace h := bs h
  obtain ⟨x12, hx12, h⟩ := h
  refine wo_iald hx hb hK hW (t := 0) rfl hx12 d_q_storing_43 ?_
  refine lv_iadd hx hb d_q_storing_44 ?_
  replace h := bs h
  obtain ⟨w13, hw13, h⟩ := h
  refine wo_iast hx hb hK hW (t := 0) rfl hw13 d_q_storing_45 (fun H locs hW => ?_)
  refine lv_aload_n hx hb d_q_storing_46 rfl (lv_at hl 1 rfl) ?_
  refine lv_bipush (v := (93 : Int32)) hx hb d_q_storing_47 (by decide) ?_
  replace h := bs h
  obtain ⟨w14, hw14, h⟩ := h
  refine cv_q_275 (As := [.int (93 : Int32)]) (rest := []) hx hb hml hown hts hK hG hW (c_q_expect l D cA base hw14) (kb_q_expect hw14) ⟨Nat.le_of_ble_eq_true rfl, Nat.le_of_ble_eq_true rfl⟩ ⟨Nat.le_of_ble_eq_true rfl, Nat.le_of_ble_eq_true rfl⟩ rfl hl.1 rfl (Nat.le_of_ble_eq_true rfl) d_q_storing_49 (fun H locs hW => ?_)
  refine lv_aload_n hx hb d_q_storing_52 rfl (lv_at hl 1 rfl) ?_
  refine lv_bipush (v := (61 : Int32)) hx hb d_q_storing_53 (by decide) ?_
  replace h := bs h
  obtain ⟨w15, hw15, h⟩ := h
  refine cv_q_275 (As := [.int (61 : Int32)]) (rest := []) hx hb hml hown hts hK hG hW (c_q_expect l D cA base hw15) (kb_q_expect hw15) ⟨Nat.le_of_ble_eq_true rfl, Nat.le_of_ble_eq_true rfl⟩ ⟨Nat.le_of_ble_eq_true rfl, Nat.le_of_ble_eq_true rfl⟩ rfl hl.1 rfl (Nat.le_of_ble_eq_true rfl) d_q_storing_55 (fun H locs hW => ?_)
  refine lv_aload_n hx hb d_q_storing_58 rfl (lv_at hl 1 rfl) ?_
  replace h := bs h
  obtain ⟨x16, hx16, h⟩ := h
  refine gf_q_41 hx hb hts hown hK hG hW (gN_s hx16) d_q_storing_59 ?_
  refine lv_iload_n hx hb d_q_storing_62 rfl (lv_at hl 0 rfl) ?_
  refine lv_aload_n hx hb d_q_storing_63 rfl (lv_at hl 1 rfl) ?_
  replace h := bs2 h
  obtain ⟨x18, w17, hw17, h⟩ := h
  refine cv_q_292 (As := []) (rest := [.int x2, .ref (base + x16)]) hx hb hml hown hts hK hG hW (c_q_expression l D cA base hw17) (kb_q_expression hw17) ⟨Nat.le_of_ble_eq_true rfl, Nat.le_of_ble_eq_true rfl⟩ ⟨Nat.le_of_ble_eq_true rfl, Nat.le_of_ble_eq_true rfl⟩ rfl hl.1 rfl (Nat.le_of_ble_eq_true rfl) d_q_storing_64 (fun H locs hW => ?_)
  replace h := bs h
  obtain ⟨w19, hw19, h⟩ := h
  refine wo_iast hx hb hK hW (t := 0) rfl hw19 d_q_storing_67 (fun H locs hW => ?_)
  refine lv_aload_n hx hb d_q_storing_68 rfl (lv_at hl 1 rfl) ?_
  replace h := bs h
  obtain ⟨x20, hx20, h⟩ := h
  refine gf_q_44 hx hb hts hown hK hG hW (gN_s hx20) d_q_storing_69 ?_
  refine lv_iload_n hx hb d_q_storing_72 rfl (lv_at hl 0 rfl) ?_
  refine lv_sipush (v := (220 : Int32)) hx hb d_q_storing_73 (by decide) ?_
  refine lv_aload_n hx hb d_q_storing_76 rfl (lv_at hl 1 rfl) ?_
  replace h := bs h
  obtain ⟨x21, hx21, h⟩ := h
  refine gf_q_243 hx hb hts hown hK hG hW (gI_s hx21) d_q_storing_77 ?_
  refine lv_imul hx hb d_q_storing_80 ?_
  refine lv_aload_n hx hb d_q_storing_81 rfl (lv_at hl 1 rfl) ?_
  replace h := bs h
  obtain ⟨x22, hx22, h⟩ := h
  refine gf_q_69 hx hb hts hown hK hG hW (gN_s hx22) d_q_storing_82 ?_
  refine lv_aload_n hx hb d_q_storing_85 rfl (lv_at hl 1 rfl) ?_
  replace h := bs h
  obtain ⟨x23, hx23, h⟩ := h
  refine gf_q_243 hx hb hts hown hK hG hW (gI_s hx23) d_q_storing_86 ?_
  replace h := bs h
  obtain ⟨x24, hx24, h⟩ := h
  refine wo_iald hx hb hK hW (t := 0) rfl hx24 d_q_storing_89 ?_
  refine lv_iadd hx hb d_q_storing_90 ?_
  replace h := bs h
  obtain ⟨w25, hw25, h⟩ := h
  refine wo_iast hx hb hK hW (t := 0) rfl hw25 d_q_storing_91 (fun H locs hW => ?_)
  refine lv_aload_n hx hb d_q_storing_92 rfl (lv_at hl 1 rfl) ?_
  refine lv_bipush (v := (59 : Int32)) hx hb d_q_storing_93 (by decide) ?_
  replace h := bs h
  obtain ⟨w26, hw26, h⟩ := h
  refine cv_q_275 (As := [.int (59 : Int32)]) (rest := []) hx hb hml hown hts hK hG hW (c_q_expect l D cA base hw26) (kb_q_expect hw26) ⟨Nat.le_of_ble_eq_true rfl, Nat.le_of_ble_eq_true rfl⟩ ⟨Nat.le_of_ble_eq_true rfl, Nat.le_of_ble_eq_true rfl⟩ rfl hl.1 rfl (Nat.le_of_ble_eq_true rfl) d_q_storing_95 (fun H locs hW => ?_)
  cases h
  exact wo_vret hx hb hr hlk hW d_q_storing_98
abbrev b_q_condition : ByteArray := prog_11_method_29_code
def y_q_condition : MethodName := ⟨"AlarmForgeModel", "condition", "(I)V"⟩
def rm_q_condition : Room := { frames := 7, cells := 0, slots := 0, locals := 159 }
theorem d_q_condition_0 : decode b_q_condition 0 = .ok (.aload_n 0, 1) := by decide +kernel
theorem d_q_condition_1 : decode b_q_condition 1 = .ok (.getfield 35, 3) := by decide +kernel
theorem d_q_condition_4 : decode b_q_condition 4 = .ok (.iload_n 1, 1) := by decide +kernel
theorem d_q_condition_5 : decode b_q_condition 5 = .ok (.aload_n 0, 1) := by decide +kernel
theorem d_q_condition_6 : decode b_q_condition 6 = .ok (.invokevirtual 292, 3) := by decide +kernel
theorem d_q_condition_9 : decode b_q_condition 9 = .ok (.iastore, 1) := by decide +kernel
theorem d_q_condition_10 : decode b_q_condition 10 = .ok (.aload_n 0, 1) := by decide +kernel
theorem d_q_condition_11 : decode b_q_condition 11 = .ok (.getfield 38, 3) := by decide +kernel
theorem d_q_condition_14 : decode b_q_condition 14 = .ok (.iload_n 1, 1) := by decide +kernel
theorem d_q_condition_15 : decode b_q_condition 15 = .ok (.sipush (220), 3) := by decide +kernel
theorem d_q_condition_18 : decode b_q_condition 18 = .ok (.aload_n 0, 1) := by decide +kernel
theorem d_q_condition_19 : decode b_q_condition 19 = .ok (.getfield 243, 3) := by decide +kernel
theorem d_q_condition_22 : decode b_q_condition 22 = .ok (.imul, 1) := by decide +kernel
theorem d_q_condition_23 : decode b_q_condition 23 = .ok (.aload_n 0, 1) := by decide +kernel
theorem d_q_condition_24 : decode b_q_condition 24 = .ok (.getfield 69, 3) := by decide +kernel
theorem d_q_condition_27 : decode b_q_condition 27 = .ok (.aload_n 0, 1) := by decide +kernel
theorem d_q_condition_28 : decode b_q_condition 28 = .ok (.getfield 243, 3) := by decide +kernel
theorem d_q_condition_31 : decode b_q_condition 31 = .ok (.iaload, 1) := by decide +kernel
theorem d_q_condition_32 : decode b_q_condition 32 = .ok (.iadd, 1) := by decide +kernel
theorem d_q_condition_33 : decode b_q_condition 33 = .ok (.iastore, 1) := by decide +kernel
theorem d_q_condition_34 : decode b_q_condition 34 = .ok (.aload_n 0, 1) := by decide +kernel
theorem d_q_condition_35 : decode b_q_condition 35 = .ok (.getfield 47, 3) := by decide +kernel
theorem d_q_condition_38 : decode b_q_condition 38 = .ok (.iload_n 1, 1) := by decide +kernel
theorem d_q_condition_39 : decode b_q_condition 39 = .ok (.aload_n 0, 1) := by decide +kernel
theorem d_q_condition_40 : decode b_q_condition 40 = .ok (.sipush (1000), 3) := by decide +kernel
theorem d_q_condition_43 : decode b_q_condition 43 = .ok (.invokevirtual 234, 3) := by decide +kernel
theorem d_q_condition_46 : decode b_q_condition 46 = .ok (.ifCond .eq (7), 3) := by decide +kernel
theorem d_q_condition_49 : decode b_q_condition 49 = .ok (.iconst 0, 1) := by decide +kernel
theorem d_q_condition_50 : decode b_q_condition 50 = .ok (.goto (31), 3) := by decide +kernel
theorem d_q_condition_53 : decode b_q_condition 53 = .ok (.aload_n 0, 1) := by decide +kernel
theorem d_q_condition_54 : decode b_q_condition 54 = .ok (.sipush (1001), 3) := by decide +kernel
theorem d_q_condition_57 : decode b_q_condition 57 = .ok (.invokevirtual 234, 3) := by decide +kernel
theorem d_q_condition_60 : decode b_q_condition 60 = .ok (.ifCond .eq (7), 3) := by decide +kernel
theorem d_q_condition_63 : decode b_q_condition 63 = .ok (.iconst 1, 1) := by decide +kernel
theorem d_q_condition_64 : decode b_q_condition 64 = .ok (.goto (17), 3) := by decide +kernel
theorem d_q_condition_67 : decode b_q_condition 67 = .ok (.aload_n 0, 1) := by decide +kernel
theorem d_q_condition_68 : decode b_q_condition 68 = .ok (.bipush (60), 2) := by decide +kernel
theorem d_q_condition_70 : decode b_q_condition 70 = .ok (.invokevirtual 234, 3) := by decide +kernel
theorem d_q_condition_73 : decode b_q_condition 73 = .ok (.ifCond .eq (7), 3) := by decide +kernel
theorem d_q_condition_76 : decode b_q_condition 76 = .ok (.iconst 2, 1) := by decide +kernel
theorem d_q_condition_77 : decode b_q_condition 77 = .ok (.goto (4), 3) := by decide +kernel
theorem d_q_condition_80 : decode b_q_condition 80 = .ok (.iconst 3, 1) := by decide +kernel
theorem d_q_condition_81 : decode b_q_condition 81 = .ok (.iastore, 1) := by decide +kernel
theorem d_q_condition_82 : decode b_q_condition 82 = .ok (.aload_n 0, 1) := by decide +kernel
theorem d_q_condition_83 : decode b_q_condition 83 = .ok (.getfield 230, 3) := by decide +kernel
theorem d_q_condition_86 : decode b_q_condition 86 = .ok (.ifCond .ne (46), 3) := by decide +kernel
theorem d_q_condition_89 : decode b_q_condition 89 = .ok (.aload_n 0, 1) := by decide +kernel
theorem d_q_condition_90 : decode b_q_condition 90 = .ok (.sipush (1000), 3) := by decide +kernel
theorem d_q_condition_93 : decode b_q_condition 93 = .ok (.invokevirtual 234, 3) := by decide +kernel
theorem d_q_condition_96 : decode b_q_condition 96 = .ok (.ifCond .ne (36), 3) := by decide +kernel
theorem d_q_condition_99 : decode b_q_condition 99 = .ok (.aload_n 0, 1) := by decide +kernel
theorem d_q_condition_100 : decode b_q_condition 100 = .ok (.sipush (1001), 3) := by decide +kernel
theorem d_q_condition_103 : decode b_q_condition 103 = .ok (.invokevirtual 234, 3) := by decide +kernel
theorem d_q_condition_106 : decode b_q_condition 106 = .ok (.ifCond .ne (26), 3) := by decide +kernel
theorem d_q_condition_109 : decode b_q_condition 109 = .ok (.aload_n 0, 1) := by decide +kernel
theorem d_q_condition_110 : decode b_q_condition 110 = .ok (.bipush (60), 2) := by decide +kernel
theorem d_q_condition_112 : decode b_q_condition 112 = .ok (.invokevirtual 234, 3) := by decide +kernel
theorem d_q_condition_115 : decode b_q_condition 115 = .ok (.ifCond .ne (17), 3) := by decide +kernel
theorem d_q_condition_118 : decode b_q_condition 118 = .ok (.aload_n 0, 1) := by decide +kernel
theorem d_q_condition_119 : decode b_q_condition 119 = .ok (.sipush (1002), 3) := by decide +kernel
theorem d_q_condition_122 : decode b_q_condition 122 = .ok (.invokevirtual 234, 3) := by decide +kernel
theorem d_q_condition_125 : decode b_q_condition 125 = .ok (.ifCond .ne (7), 3) := by decide +kernel
theorem d_q_condition_128 : decode b_q_condition 128 = .ok (.aload_n 0, 1) := by decide +kernel
theorem d_q_condition_129 : decode b_q_condition 129 = .ok (.invokevirtual 240, 3) := by decide +kernel
theorem d_q_condition_132 : decode b_q_condition 132 = .ok (.aload_n 0, 1) := by decide +kernel
theorem d_q_condition_133 : decode b_q_condition 133 = .ok (.getfield 230, 3) := by decide +kernel
theorem d_q_condition_136 : decode b_q_condition 136 = .ok (.ifCond .eq (4), 3) := by decide +kernel
theorem d_q_condition_139 : decode b_q_condition 139 = .ok (.return_, 1) := by decide +kernel
theorem d_q_condition_140 : decode b_q_condition 140 = .ok (.aload_n 0, 1) := by decide +kernel
theorem d_q_condition_141 : decode b_q_condition 141 = .ok (.invokevirtual 237, 3) := by decide +kernel
theorem d_q_condition_144 : decode b_q_condition 144 = .ok (.aload_n 0, 1) := by decide +kernel
theorem d_q_condition_145 : decode b_q_condition 145 = .ok (.getfield 41, 3) := by decide +kernel
theorem d_q_condition_148 : decode b_q_condition 148 = .ok (.iload_n 1, 1) := by decide +kernel
theorem d_q_condition_149 : decode b_q_condition 149 = .ok (.aload_n 0, 1) := by decide +kernel
theorem d_q_condition_150 : decode b_q_condition 150 = .ok (.invokevirtual 292, 3) := by decide +kernel
theorem d_q_condition_153 : decode b_q_condition 153 = .ok (.iastore, 1) := by decide +kernel
theorem d_q_condition_154 : decode b_q_condition 154 = .ok (.aload_n 0, 1) := by decide +kernel
theorem d_q_condition_155 : decode b_q_condition 155 = .ok (.getfield 44, 3) := by decide +kernel
theorem d_q_condition_158 : decode b_q_condition 158 = .ok (.iload_n 1, 1) := by decide +kernel
theorem d_q_condition_159 : decode b_q_condition 159 = .ok (.sipush (220), 3) := by decide +kernel
theorem d_q_condition_162 : decode b_q_condition 162 = .ok (.aload_n 0, 1) := by decide +kernel
theorem d_q_condition_163 : decode b_q_condition 163 = .ok (.getfield 243, 3) := by decide +kernel
theorem d_q_condition_166 : decode b_q_condition 166 = .ok (.imul, 1) := by decide +kernel
theorem d_q_condition_167 : decode b_q_condition 167 = .ok (.aload_n 0, 1) := by decide +kernel
theorem d_q_condition_168 : decode b_q_condition 168 = .ok (.getfield 69, 3) := by decide +kernel
theorem d_q_condition_171 : decode b_q_condition 171 = .ok (.aload_n 0, 1) := by decide +kernel
theorem d_q_condition_172 : decode b_q_condition 172 = .ok (.getfield 243, 3) := by decide +kernel
theorem d_q_condition_175 : decode b_q_condition 175 = .ok (.iaload, 1) := by decide +kernel
theorem d_q_condition_176 : decode b_q_condition 176 = .ok (.iadd, 1) := by decide +kernel
theorem d_q_condition_177 : decode b_q_condition 177 = .ok (.iastore, 1) := by decide +kernel
theorem d_q_condition_178 : decode b_q_condition 178 = .ok (.return_, 1) := by decide +kernel
theorem kb_q_condition {a0 : Nat} {a1 : Int32} {w : WW} {r : WW} (h : f_q_condition a0 a1 w = some r) : kb w a0 9 = true := (its h).1
set_option maxHeartbeats 4000000 in
set_option maxRecDepth 100000 in
theorem j_q_condition_132 {p : Program} {l : Launch} {e : Env} {s : State} {m : MethodId} {args : Array Value} {below : List Frame} {meth : Method} {c : Code} {D : va_G} {cA : Nat → ClassId} {base : Nat} {w' : WW} (C : cx b_q_condition (none) 2 y_q_condition.cls "condition" p s m args meth c D cA base)   : ∀ (y0 : Nat) (y1 : Int32) (w : WW), f_q_condition_132 y0 y1 w = some w' → ∀ (H : Heap) (locs : List Loc) (ls : Array Slot), wo_S D cls cA base s w H locs → lv_has ls 2 [(0, .ref (base + y0)), (1, .int y1)] → W p l e rm_q_condition s m args below meth c H locs 0 0 (MQ below (wo_Q D cls cA base none w') args s rm_q_condition.cells rm_q_condition.slots (wo_B base)) (F0 m 132 ls []) := by
  obtain ⟨hx, hb, hr, hml, hown, hts, hlk, hnm, hK, hG⟩ := id C
  intro y0 y1 w h H locs ls hW hl
  unfold f_q_condition_132 at h
  refine lv_aload_n hx hb d_q_condition_132 rfl (lv_at hl 0 rfl) ?_
  replace h := bs h
  obtain ⟨x24, hx24, h⟩ := h
  refine gf_q_230 hx hb hts hown hK hG hW (gI_s hx24) d_q_condition_133 ?_
  refine lv_if_eq (tgt := 140) hx hb d_q_condition_136 (by decide) (fun c25 => ?_) (fun c25 => ?_)
  · rw [if_pos c25] at h
    refine lv_aload_n hx hb d_q_condition_140 rfl (lv_at hl 0 rfl) ?_
    replace h := bs h
    obtain ⟨w26, hw26, h⟩ := h
    refine cv_q_237 (As := []) (rest := []) hx hb hml hown hts hK hG hW (c_q_read l D cA base hw26) (kb_q_read hw26) ⟨Nat.le_of_ble_eq_true rfl, Nat.le_of_ble_eq_true rfl⟩ ⟨Nat.le_of_ble_eq_true rfl, Nat.le_of_ble_eq_true rfl⟩ rfl hl.1 rfl (Nat.le_of_ble_eq_true rfl) d_q_condition_141 (fun H locs hW => ?_)
    refine lv_aload_n hx hb d_q_condition_144 rfl (lv_at hl 0 rfl) ?_
    replace h := bs h
    obtain ⟨x27, hx27, h⟩ := h
    refine gf_q_41 hx hb hts hown hK hG hW (gN_s hx27) d_q_condition_145 ?_
    refine lv_iload_n hx hb d_q_condition_148 rfl (lv_at hl 1 rfl) ?_
    refine lv_aload_n hx hb d_q_condition_149 rfl (lv_at hl 0 rfl) ?_
    replace h := bs2 h
    obtain ⟨x29, w28, hw28, h⟩ := h
    refine cv_q_292 (As := []) (rest := [.int y1, .ref (base + x27)]) hx hb hml hown hts hK hG hW (c_q_expression l D cA base hw28) (kb_q_expression hw28) ⟨Nat.le_of_ble_eq_true rfl, Nat.le_of_ble_eq_true rfl⟩ ⟨Nat.le_of_ble_eq_true rfl, Nat.le_of_ble_eq_true rfl⟩ rfl hl.1 rfl (Nat.le_of_ble_eq_true rfl) d_q_condition_150 (fun H locs hW => ?_)
    replace h := bs h
    obtain ⟨w30, hw30, h⟩ := h
    refine wo_iast hx hb hK hW (t := 0) rfl hw30 d_q_condition_153 (fun H locs hW => ?_)
    refine lv_aload_n hx hb d_q_condition_154 rfl (lv_at hl 0 rfl) ?_
    replace h := bs h
    obtain ⟨x31, hx31, h⟩ := h
    refine gf_q_44 hx hb hts hown hK hG hW (gN_s hx31) d_q_condition_155 ?_
    refine lv_iload_n hx hb d_q_condition_158 rfl (lv_at hl 1 rfl) ?_
    refine lv_sipush (v := (220 : Int32)) hx hb d_q_condition_159 (by decide) ?_
    refine lv_aload_n hx hb d_q_condition_162 rfl (lv_at hl 0 rfl) ?_
    replace h := bs h
    obtain ⟨x32, hx32, h⟩ := h
    refine gf_q_243 hx hb hts hown hK hG hW (gI_s hx32) d_q_condition_163 ?_
    refine lv_imul hx hb d_q_condition_166 ?_
    refine lv_aload_n hx hb d_q_condition_167 rfl (lv_at hl 0 rfl) ?_
    replace h := bs h
    obtain ⟨x33, hx33, h⟩ := h
    refine gf_q_69 hx hb hts hown hK hG hW (gN_s hx33) d_q_condition_168 ?_
    refine lv_aload_n hx hb d_q_condition_171 rfl (lv_at hl 0 rfl) ?_
    replace h := bs h
    obtain ⟨x34, hx34, h⟩ := h
    refine gf_q_243 hx hb hts hown hK hG hW (gI_s hx34) d_q_condition_172 ?_
    replace h := bs h
    obtain ⟨x35, hx35, h⟩ := h
    refine wo_iald hx hb hK hW (t := 0) rfl hx35 d_q_condition_175 ?_
    refine lv_iadd hx hb d_q_condition_176 ?_
    replace h := bs h
    obtain ⟨w36, hw36, h⟩ := h
    refine wo_iast hx hb hK hW (t := 0) rfl hw36 d_q_condition_177 (fun H locs hW => ?_)
    cases h
    exact wo_vret hx hb hr hlk hW d_q_condition_178
  · rw [if_neg c25] at h
    cases h
    exact wo_vret hx hb hr hlk hW d_q_condition_139
set_option maxHeartbeats 4000000 in
set_option maxRecDepth 100000 in
theorem j_q_condition_81 {p : Program} {l : Launch} {e : Env} {s : State} {m : MethodId} {args : Array Value} {below : List Frame} {meth : Method} {c : Code} {D : va_G} {cA : Nat → ClassId} {base : Nat} {w' : WW} (C : cx b_q_condition (none) 2 y_q_condition.cls "condition" p s m args meth c D cA base)   : ∀ (y0 : Nat) (y1 : Int32) (z0 : Nat) (z1 : Int32) (z2 : Int32) (w : WW), f_q_condition_81 y0 y1 z0 z1 z2 w = some w' → ∀ (H : Heap) (locs : List Loc) (ls : Array Slot), wo_S D cls cA base s w H locs → lv_has ls 2 [(0, .ref (base + y0)), (1, .int y1)] → W p l e rm_q_condition s m args below meth c H locs 0 0 (MQ below (wo_Q D cls cA base none w') args s rm_q_condition.cells rm_q_condition.slots (wo_B base)) (F0 m 81 ls [.int z2, .int z1, .ref (base + z0)]) := by
  obtain ⟨hx, hb, hr, hml, hown, hts, hlk, hnm, hK, hG⟩ := id C
  intro y0 y1 z0 z1 z2 w h H locs ls hW hl
  unfold f_q_condition_81 at h
  replace h := bs h
  obtain ⟨w21, hw21, h⟩ := h
  refine wo_iast hx hb hK hW (t := 0) rfl hw21 d_q_condition_81 (fun H locs hW => ?_)
  refine lv_aload_n hx hb d_q_condition_82 rfl (lv_at hl 0 rfl) ?_
  replace h := bs h
  obtain ⟨x22, hx22, h⟩ := h
  refine gf_q_230 hx hb hts hown hK hG hW (gI_s hx22) d_q_condition_83 ?_
  refine lv_if_ne (tgt := 132) hx hb d_q_condition_86 (by decide) (fun c23 => ?_) (fun c23 => ?_)
  · rw [if_neg c23] at h
    exact j_q_condition_132 C y0 y1 w21 h _ _ _ hW (lv_sub hl [0, 1] rfl)
  · rw [if_pos c23] at h
    refine lv_aload_n hx hb d_q_condition_89 rfl (lv_at hl 0 rfl) ?_
    refine lv_sipush (v := (1000 : Int32)) hx hb d_q_condition_90 (by decide) ?_
    replace h := bs2 h
    obtain ⟨x38, w37, hw37, h⟩ := h
    refine cv_q_234 (As := [.int (1000 : Int32)]) (rest := []) hx hb hml hown hts hK hG hW (c_q_is l D cA base hw37) (kb_q_is hw37) ⟨Nat.le_of_ble_eq_true rfl, Nat.le_of_ble_eq_true rfl⟩ ⟨Nat.le_of_ble_eq_true rfl, Nat.le_of_ble_eq_true rfl⟩ rfl hl.1 rfl (Nat.le_of_ble_eq_true rfl) d_q_condition_93 (fun H locs hW => ?_)
    refine lv_if_ne (tgt := 132) hx hb d_q_condition_96 (by decide) (fun c39 => ?_) (fun c39 => ?_)
    · rw [if_neg c39] at h
      exact j_q_condition_132 C y0 y1 w37 h _ _ _ hW (lv_sub hl [0, 1] rfl)
    · rw [if_pos c39] at h
      refine lv_aload_n hx hb d_q_condition_99 rfl (lv_at hl 0 rfl) ?_
      refine lv_sipush (v := (1001 : Int32)) hx hb d_q_condition_100 (by decide) ?_
      replace h := bs2 h
      obtain ⟨x41, w40, hw40, h⟩ := h
      refine cv_q_234 (As := [.int (1001 : Int32)]) (rest := []) hx hb hml hown hts hK hG hW (c_q_is l D cA base hw40) (kb_q_is hw40) ⟨Nat.le_of_ble_eq_true rfl, Nat.le_of_ble_eq_true rfl⟩ ⟨Nat.le_of_ble_eq_true rfl, Nat.le_of_ble_eq_true rfl⟩ rfl hl.1 rfl (Nat.le_of_ble_eq_true rfl) d_q_condition_103 (fun H locs hW => ?_)
      refine lv_if_ne (tgt := 132) hx hb d_q_condition_106 (by decide) (fun c42 => ?_) (fun c42 => ?_)
      · rw [if_neg c42] at h
        exact j_q_condition_132 C y0 y1 w40 h _ _ _ hW (lv_sub hl [0, 1] rfl)
      · rw [if_pos c42] at h
        refine lv_aload_n hx hb d_q_condition_109 rfl (lv_at hl 0 rfl) ?_
        refine lv_bipush (v := (60 : Int32)) hx hb d_q_condition_110 (by decide) ?_
        replace h := bs2 h
        obtain ⟨x44, w43, hw43, h⟩ := h
        refine cv_q_234 (As := [.int (60 : Int32)]) (rest := []) hx hb hml hown hts hK hG hW (c_q_is l D cA base hw43) (kb_q_is hw43) ⟨Nat.le_of_ble_eq_true rfl, Nat.le_of_ble_eq_true rfl⟩ ⟨Nat.le_of_ble_eq_true rfl, Nat.le_of_ble_eq_true rfl⟩ rfl hl.1 rfl (Nat.le_of_ble_eq_true rfl) d_q_condition_112 (fun H locs hW => ?_)
        refine lv_if_ne (tgt := 132) hx hb d_q_condition_115 (by decide) (fun c45 => ?_) (fun c45 => ?_)
        · rw [if_neg c45] at h
          exact j_q_condition_132 C y0 y1 w43 h _ _ _ hW (lv_sub hl [0, 1] rfl)
        · rw [if_pos c45] at h
          refine lv_aload_n hx hb d_q_condition_118 rfl (lv_at hl 0 rfl) ?_
          refine lv_sipush (v := (1002 : Int32)) hx hb d_q_condition_119 (by decide) ?_
          replace h := bs2 h
          obtain ⟨x47, w46, hw46, h⟩ := h
          refine cv_q_234 (As := [.int (1002 : Int32)]) (rest := []) hx hb hml hown hts hK hG hW (c_q_is l D cA base hw46) (kb_q_is hw46) ⟨Nat.le_of_ble_eq_true rfl, Nat.le_of_ble_eq_true rfl⟩ ⟨Nat.le_of_ble_eq_true rfl, Nat.le_of_ble_eq_true rfl⟩ rfl hl.1 rfl (Nat.le_of_ble_eq_true rfl) d_q_condition_122 (fun H locs hW => ?_)
          refine lv_if_ne (tgt := 132) hx hb d_q_condition_125 (by decide) (fun c48 => ?_) (fun c48 => ?_)
          · rw [if_neg c48] at h
            exact j_q_condition_132 C y0 y1 w46 h _ _ _ hW (lv_sub hl [0, 1] rfl)
          · rw [if_pos c48] at h
            refine lv_aload_n hx hb d_q_condition_128 rfl (lv_at hl 0 rfl) ?_
            replace h := bs h
            obtain ⟨w49, hw49, h⟩ := h
            refine cv_q_240 (As := []) (rest := []) hx hb hml hown hts hK hG hW (c_q_wrong l D cA base hw49) (kb_q_wrong hw49) ⟨Nat.le_of_ble_eq_true rfl, Nat.le_of_ble_eq_true rfl⟩ ⟨Nat.le_of_ble_eq_true rfl, Nat.le_of_ble_eq_true rfl⟩ rfl hl.1 rfl (Nat.le_of_ble_eq_true rfl) d_q_condition_129 (fun H locs hW => ?_)
            exact j_q_condition_132 C y0 y1 w49 h _ _ _ hW (lv_sub hl [0, 1] rfl)
set_option maxHeartbeats 4000000 in
set_option maxRecDepth 100000 in
theorem c_q_condition (l : Launch) (D : va_G) (cA : Nat → ClassId) (base : Nat) {a0 : Nat} {a1 : Int32} {w w' : WW} (h : f_q_condition a0 a1 w = some w') : mt l D cls (wo_tys cA) cA base y_q_condition (Cond.code y_q_condition b_q_condition 2 (none) :: gt) rm_q_condition [.ref (base + a0), .int a1] w none w' rm_q_condition.cells rm_q_condition.slots := by
  refine mt_start (by decide) (Nat.le_of_ble_eq_true rfl) ?_
  intro p e s m below meth c ls hx hb hr hml hown hts hlk hnm hK hG hW hl
  have C : cx b_q_condition (none) 2 y_q_condition.cls "condition" p s m [.ref (base + a0), .int a1].toArray meth c D cA base := ⟨hx, hb, hr, hml, hown, hts, hlk, hnm, hK, hG⟩
  have hl : lv_has ls 2 [(0, .ref (base + a0)), (1, .int a1)] := hl
  unfold f_q_condition at h
  replace h := its h
  obtain ⟨-, h⟩ := h
  refine lv_aload_n hx hb d_q_condition_0 rfl (lv_at hl 0 rfl) ?_
  replace h := bs h
  obtain ⟨x1, hx1, h⟩ := h
  refine gf_q_35 hx hb hts hown hK hG hW (gN_s hx1) d_q_condition_1 ?_
  refine lv_iload_n hx hb d_q_condition_4 rfl (lv_at hl 1 rfl) ?_
  refine lv_aload_n hx hb d_q_condition_5 rfl (lv_at hl 0 rfl) ?_
  replace h := bs2 h
  obtain ⟨x3, w2, hw2, h⟩ := h
  refine cv_q_292 (As := []) (rest := [.int a1, .ref (base + x1)]) hx hb hml hown hts hK hG hW (c_q_expression l D cA base hw2) (kb_q_expression hw2) ⟨Nat.le_of_ble_eq_true rfl, Nat.le_of_ble_eq_true rfl⟩ ⟨Nat.le_of_ble_eq_true rfl, Nat.le_of_ble_eq_true rfl⟩ rfl hl.1 rfl (Nat.le_of_ble_eq_true rfl) d_q_condition_6 (fun H locs hW => ?_)
  replace h := bs h
  obtain ⟨w4, hw4, h⟩ := h
  refine wo_iast hx hb hK hW (t := 0) rfl hw4 d_q_condition_9 (fun H locs hW => ?_)
  refine lv_aload_n hx hb d_q_condition_10 rfl (lv_at hl 0 rfl) ?_
  replace h := bs h
  obtain ⟨x5, hx5, h⟩ := h
  refine gf_q_38 hx hb hts hown hK hG hW (gN_s hx5) d_q_condition_11 ?_
  refine lv_iload_n hx hb d_q_condition_14 rfl (lv_at hl 1 rfl) ?_
  refine lv_sipush (v := (220 : Int32)) hx hb d_q_condition_15 (by decide) ?_
  refine lv_aload_n hx hb d_q_condition_18 rfl (lv_at hl 0 rfl) ?_
  replace h := bs h
  obtain ⟨x6, hx6, h⟩ := h
  refine gf_q_243 hx hb hts hown hK hG hW (gI_s hx6) d_q_condition_19 ?_
  refine lv_imul hx hb d_q_condition_22 ?_
  refine lv_aload_n hx hb d_q_condition_23 rfl (lv_at hl 0 rfl) ?_
  replace h := bs h
  obtain ⟨x7, hx7, h⟩ := h
  refine gf_q_69 hx hb hts hown hK hG hW (gN_s hx7) d_q_condition_24 ?_
  refine lv_aload_n hx hb d_q_condition_27 rfl (lv_at hl 0 rfl) ?_
  replace h := bs h
  obtain ⟨x8, hx8, h⟩ := h
  refine gf_q_243 hx hb hts hown hK hG hW (gI_s hx8) d_q_condition_28 ?_
  replace h := bs h
  obtain ⟨x9, hx9, h⟩ := h
  refine wo_iald hx hb hK hW (t := 0) rfl hx9 d_q_condition_31 ?_
  refine lv_iadd hx hb d_q_condition_32 ?_
  replace h := bs h
  obtain ⟨w10, hw10, h⟩ := h
  refine wo_iast hx hb hK hW (t := 0) rfl hw10 d_q_condition_33 (fun H locs hW => ?_)
  refine lv_aload_n hx hb d_q_condition_34 rfl (lv_at hl 0 rfl) ?_
  replace h := bs h
  obtain ⟨x11, hx11, h⟩ := h
  refine gf_q_47 hx hb hts hown hK hG hW (gN_s hx11) d_q_condition_35 ?_
  refine lv_iload_n hx hb d_q_condition_38 rfl (lv_at hl 1 rfl) ?_
  refine lv_aload_n hx hb d_q_condition_39 rfl (lv_at hl 0 rfl) ?_
  refine lv_sipush (v := (1000 : Int32)) hx hb d_q_condition_40 (by decide) ?_
  replace h := bs2 h
  obtain ⟨x13, w12, hw12, h⟩ := h
  refine cv_q_234 (As := [.int (1000 : Int32)]) (rest := [.int a1, .ref (base + x11)]) hx hb hml hown hts hK hG hW (c_q_is l D cA base hw12) (kb_q_is hw12) ⟨Nat.le_of_ble_eq_true rfl, Nat.le_of_ble_eq_true rfl⟩ ⟨Nat.le_of_ble_eq_true rfl, Nat.le_of_ble_eq_true rfl⟩ rfl hl.1 rfl (Nat.le_of_ble_eq_true rfl) d_q_condition_43 (fun H locs hW => ?_)
  refine lv_if_eq (tgt := 53) hx hb d_q_condition_46 (by decide) (fun c14 => ?_) (fun c14 => ?_)
  · rw [if_pos c14] at h
    refine lv_aload_n hx hb d_q_condition_53 rfl (lv_at hl 0 rfl) ?_
    refine lv_sipush (v := (1001 : Int32)) hx hb d_q_condition_54 (by decide) ?_
    replace h := bs2 h
    obtain ⟨x16, w15, hw15, h⟩ := h
    refine cv_q_234 (As := [.int (1001 : Int32)]) (rest := [.int a1, .ref (base + x11)]) hx hb hml hown hts hK hG hW (c_q_is l D cA base hw15) (kb_q_is hw15) ⟨Nat.le_of_ble_eq_true rfl, Nat.le_of_ble_eq_true rfl⟩ ⟨Nat.le_of_ble_eq_true rfl, Nat.le_of_ble_eq_true rfl⟩ rfl hl.1 rfl (Nat.le_of_ble_eq_true rfl) d_q_condition_57 (fun H locs hW => ?_)
    refine lv_if_eq (tgt := 67) hx hb d_q_condition_60 (by decide) (fun c17 => ?_) (fun c17 => ?_)
    · rw [if_pos c17] at h
      refine lv_aload_n hx hb d_q_condition_67 rfl (lv_at hl 0 rfl) ?_
      refine lv_bipush (v := (60 : Int32)) hx hb d_q_condition_68 (by decide) ?_
      replace h := bs2 h
      obtain ⟨x19, w18, hw18, h⟩ := h
      refine cv_q_234 (As := [.int (60 : Int32)]) (rest := [.int a1, .ref (base + x11)]) hx hb hml hown hts hK hG hW (c_q_is l D cA base hw18) (kb_q_is hw18) ⟨Nat.le_of_ble_eq_true rfl, Nat.le_of_ble_eq_true rfl⟩ ⟨Nat.le_of_ble_eq_true rfl, Nat.le_of_ble_eq_true rfl⟩ rfl hl.1 rfl (Nat.le_of_ble_eq_true rfl) d_q_condition_70 (fun H locs hW => ?_)
      refine lv_if_eq (tgt := 80) hx hb d_q_condition_73 (by decide) (fun c20 => ?_) (fun c20 => ?_)
      · rw [if_pos c20] at h
        refine lv_iconst (v := (3 : Int32)) hx hb d_q_condition_80 (by decide) ?_
        exact j_q_condition_81 C a0 a1 x11 a1 (3 : Int32) w18 h _ _ _ hW (lv_sub hl [0, 1] rfl)
      · rw [if_neg c20] at h
        refine lv_iconst (v := (2 : Int32)) hx hb d_q_condition_76 (by decide) ?_
        refine lv_goto (tgt := 81) hx hb d_q_condition_77 (by decide) ?_
        exact j_q_condition_81 C a0 a1 x11 a1 (2 : Int32) w18 h _ _ _ hW (lv_sub hl [0, 1] rfl)
    · rw [if_neg c17] at h
      refine lv_iconst (v := (1 : Int32)) hx hb d_q_condition_63 (by decide) ?_
      refine lv_goto (tgt := 81) hx hb d_q_condition_64 (by decide) ?_
      exact j_q_condition_81 C a0 a1 x11 a1 (1 : Int32) w15 h _ _ _ hW (lv_sub hl [0, 1] rfl)
  · rw [if_neg c14] at h
    refine lv_iconst (v := (0 : Int32)) hx hb d_q_condition_49 (by decide) ?_
    refine lv_goto (tgt := 81) hx hb d_q_condition_50 (by decide) ?_
    exact j_q_condition_81 C a0 a1 x11 a1 (0 : Int32) w12 h _ _ _ hW (lv_sub hl [0, 1] rfl)
