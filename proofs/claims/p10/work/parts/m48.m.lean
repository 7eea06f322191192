/-! Methods as functions, and their contracts (by wip/gen/run.py). -/
theorem cv_q_301 {p : Program} {l : Launch} {e : Env} {R : Room} {s : State} {m : MethodId} {args : Array Value} {below : List Frame} {meth : Method} {c : Code} {H : Heap} {locs : List Loc} {cells slots : Nat} {Q : State → Prop} {D : va_G} {cA : Nat → ClassId} {base : Nat} {w w' : WW} {cc : ByteArray} {pc nL : Nat} {ls : Array Slot} {rest st0 As : List Value} {ov : Option Value} {b : Nat} (hx : p.tables.exec = Jvm.exec) (hb : c.code = cc) (hml : c.maxLocals = nL) (hown : s.vm.findClass Rc_q = some m.cls) (hts : ∀ w ∈ gt, w.before args s = true) (hK : va_K D cls (wo_tys cA) s) (hG : wo_G cA base s) (hW : wo_S D cls cA base s w H locs) (hM : mt l D cls (wo_tys cA) cA base y_q_condition (Cond.code y_q_condition b_q_condition 2 (none) :: gt) rm_q_condition (.ref (base + b) :: As) w ov w' rm_q_condition.cells rm_q_condition.slots) (hkb : kb w b 9 = true) (hR : rm_q_condition.frames + 1 ≤ R.frames ∧ 8 + (2 + 11) + rm_q_condition.locals ≤ R.locals) (hf : cells + rm_q_condition.cells ≤ R.cells ∧ slots + rm_q_condition.slots ≤ R.slots) (hn : As.length = 1) (hsz : ls.size = nL) (hst : st0 = As.reverse ++ .ref (base + b) :: rest) (hcat : (rest.map fun v => v.category).sum ≤ 8) (hdg : decode cc pc = .ok (.invokevirtual 301, 3)) (kk : ∀ (H1 : Heap) (locs1 : List Loc), wo_S D cls cA base s w' H1 locs1 → W p l e R s m args below meth c H1 locs1 (cells + rm_q_condition.cells) (slots + rm_q_condition.slots) Q (F0 m (pc + 3) ls (ov.toList ++ rest))) : W p l e R s m args below meth c H locs cells slots Q (F0 m pc ls st0) :=
  wo_callV (C := Rc_q) hx hb hml hown hts hK hG hW hM hkb rfl (gt_of (i := 1510) (by decide +kernel) (by decide +kernel)) (gt_of (i := 1512) (by decide +kernel) (by decide +kernel)) (gt_sel (i := 81) (by decide +kernel) (by decide +kernel)) (gt_of (i := 10) (by decide +kernel) (by decide +kernel)) (gt_of (i := 1513) (by decide +kernel) (by decide +kernel)) (by decide +kernel) hR hf hn hsz hst hcat hdg kk
abbrev b_q_byWord : ByteArray := prog_11_method_34_code
def y_q_byWord : MethodName := ⟨"AlarmForgeModel", "byWord", "()V"⟩
def rm_q_byWord : Room := { frames := 8, cells := 0, slots := 0, locals := 180 }
theorem d_q_byWord_0 : decode b_q_byWord 0 = .ok (.aload_n 0, 1) := by decide +kernel
theorem d_q_byWord_1 : decode b_q_byWord 1 = .ok (.aload_n 0, 1) := by decide +kernel
theorem d_q_byWord_2 : decode b_q_byWord 2 = .ok (.getfield 198, 3) := by decide +kernel
theorem d_q_byWord_5 : decode b_q_byWord 5 = .ok (.ifCond .ne (7), 3) := by decide +kernel
theorem d_q_byWord_8 : decode b_q_byWord 8 = .ok (.iconst 3, 1) := by decide +kernel
theorem d_q_byWord_9 : decode b_q_byWord 9 = .ok (.goto (16), 3) := by decide +kernel
theorem d_q_byWord_12 : decode b_q_byWord 12 = .ok (.aload_n 0, 1) := by decide +kernel
theorem d_q_byWord_13 : decode b_q_byWord 13 = .ok (.getfield 198, 3) := by decide +kernel
theorem d_q_byWord_16 : decode b_q_byWord 16 = .ok (.iconst 2, 1) := by decide +kernel
theorem d_q_byWord_17 : decode b_q_byWord 17 = .ok (.if_icmp .ne (7), 3) := by decide +kernel
theorem d_q_byWord_20 : decode b_q_byWord 20 = .ok (.iconst 4, 1) := by decide +kernel
theorem d_q_byWord_21 : decode b_q_byWord 21 = .ok (.goto (4), 3) := by decide +kernel
theorem d_q_byWord_24 : decode b_q_byWord 24 = .ok (.iconst 5, 1) := by decide +kernel
theorem d_q_byWord_25 : decode b_q_byWord 25 = .ok (.invokevirtual 298, 3) := by decide +kernel
theorem d_q_byWord_28 : decode b_q_byWord 28 = .ok (.istore_n 1, 1) := by decide +kernel
theorem d_q_byWord_29 : decode b_q_byWord 29 = .ok (.aload_n 0, 1) := by decide +kernel
theorem d_q_byWord_30 : decode b_q_byWord 30 = .ok (.bipush (40), 2) := by decide +kernel
theorem d_q_byWord_32 : decode b_q_byWord 32 = .ok (.invokevirtual 275, 3) := by decide +kernel
theorem d_q_byWord_35 : decode b_q_byWord 35 = .ok (.aload_n 0, 1) := by decide +kernel
theorem d_q_byWord_36 : decode b_q_byWord 36 = .ok (.iload_n 1, 1) := by decide +kernel
theorem d_q_byWord_37 : decode b_q_byWord 37 = .ok (.invokevirtual 301, 3) := by decide +kernel
theorem d_q_byWord_40 : decode b_q_byWord 40 = .ok (.aload_n 0, 1) := by decide +kernel
theorem d_q_byWord_41 : decode b_q_byWord 41 = .ok (.bipush (41), 2) := by decide +kernel
theorem d_q_byWord_43 : decode b_q_byWord 43 = .ok (.invokevirtual 275, 3) := by decide +kernel
theorem d_q_byWord_46 : decode b_q_byWord 46 = .ok (.aload_n 0, 1) := by decide +kernel
theorem d_q_byWord_47 : decode b_q_byWord 47 = .ok (.getfield 26, 3) := by decide +kernel
theorem d_q_byWord_50 : decode b_q_byWord 50 = .ok (.iload_n 1, 1) := by decide +kernel
theorem d_q_byWord_51 : decode b_q_byWord 51 = .ok (.iaload, 1) := by decide +kernel
theorem d_q_byWord_52 : decode b_q_byWord 52 = .ok (.iconst 5, 1) := by decide +kernel
theorem d_q_byWord_53 : decode b_q_byWord 53 = .ok (.if_icmp .ne (12), 3) := by decide +kernel
theorem d_q_byWord_56 : decode b_q_byWord 56 = .ok (.aload_n 0, 1) := by decide +kernel
theorem d_q_byWord_57 : decode b_q_byWord 57 = .ok (.bipush (59), 2) := by decide +kernel
theorem d_q_byWord_59 : decode b_q_byWord 59 = .ok (.invokevirtual 275, 3) := by decide +kernel
theorem d_q_byWord_62 : decode b_q_byWord 62 = .ok (.goto (9), 3) := by decide +kernel
theorem d_q_byWord_65 : decode b_q_byWord 65 = .ok (.aload_n 0, 1) := by decide +kernel
theorem d_q_byWord_66 : decode b_q_byWord 66 = .ok (.iload_n 1, 1) := by decide +kernel
theorem d_q_byWord_67 : decode b_q_byWord 67 = .ok (.iconst 0, 1) := by decide +kernel
theorem d_q_byWord_68 : decode b_q_byWord 68 = .ok (.invokevirtual 304, 3) := by decide +kernel
theorem d_q_byWord_71 : decode b_q_byWord 71 = .ok (.return_, 1) := by decide +kernel
theorem kb_q_byWord {a0 : Nat}  {w : WW} {r : WW} (h : f_q_byWord a0 w = some r) : kb w a0 9 = true := (its h).1
set_option maxHeartbeats 4000000 in
set_option maxRecDepth 100000 in
theorem j_q_byWord_71 {p : Program} {l : Launch} {e : Env} {s : State} {m : MethodId} {args : Array Value} {below : List Frame} {meth : Method} {c : Code} {D : va_G} {cA : Nat → ClassId} {base : Nat} {w' : WW} (C : cx b_q_byWord (none) 2 y_q_byWord.cls "byWord" p s m args meth c D cA base)   : ∀  (w : WW), f_q_byWord_71  w = some w' → ∀ (H : Heap) (locs : List Loc) (ls : Array Slot), wo_S D cls cA base s w H locs → lv_has ls 2 [] → W p l e rm_q_byWord s m args below meth c H locs 0 0 (MQ below (wo_Q D cls cA base none w') args s rm_q_byWord.cells rm_q_byWord.slots (wo_B base)) (F0 m 71 ls []) := by
  obtain ⟨hx, hb, hr, hml, hown, hts, hlk, hnm, hK, hG⟩ := id C
  intro  w h H locs ls hW hl
  unfold f_q_byWord_71 at h
  cases h
  exact wo_vret hx hb hr hlk hW d_q_byWord_71
set_option maxHeartbeats 4000000 in
set_option maxRecDepth 100000 in
theorem j_q_byWord_25 {p : Program} {l : Launch} {e : Env} {s : State} {m : MethodId} {args : Array Value} {below : List Frame} {meth : Method} {c : Code} {D : va_G} {cA : Nat → ClassId} {base : Nat} {w' : WW} (C : cx b_q_byWord (none) 2 y_q_byWord.cls "byWord" p s m args meth c D cA base)   : ∀ (y0 : Nat) (z0 : Nat) (z1 : Int32) (w : WW), f_q_byWord_25 y0 z0 z1 w = some w' → ∀ (H : Heap) (locs : List Loc) (ls : Array Slot), wo_S D cls cA base s w H locs → lv_has ls 2 [(0, .ref (base + y0))] → W p l e rm_q_byWord s m args below meth c H locs 0 0 (MQ below (wo_Q D cls cA base none w') args s rm_q_byWord.cells rm_q_byWord.slots (wo_B base)) (F0 m 25 ls [.int z1, .ref (base + z0)]) := by
  obtain ⟨hx, hb, hr, hml, hown, hts, hlk, hnm, hK, hG⟩ := id C
  intro y0 z0 z1 w h H locs ls hW hl
  unfold f_q_byWord_25 at h
  replace h := bs2 h
  obtain ⟨x6, w5, hw5, h⟩ := h
  refine cv_q_298 (As := [.int z1]) (rest := []) hx hb hml hown hts hK hG hW (c_q_statement l D cA base hw5) (kb_q_statement hw5) ⟨Nat.le_of_ble_eq_true rfl, Nat.le_of_ble_eq_true rfl⟩ ⟨Nat.le_of_ble_eq_true rfl, Nat.le_of_ble_eq_true rfl⟩ rfl hl.1 rfl (Nat.le_of_ble_eq_true rfl) d_q_byWord_25 (fun H locs hW => ?_)
  refine lv_istore_n (lv' := [(1, .int x6), (0, .ref (base + y0))]) hx hb d_q_byWord_28 rfl hl (by decide) rfl (fun ls hl => ?_)
  refine lv_aload_n hx hb d_q_byWord_29 rfl (lv_at hl 1 rfl) ?_
  refine lv_bipush (v := (40 : Int32)) hx hb d_q_byWord_30 (by decide) ?_
  replace h := bs h
  obtain ⟨w7, hw7, h⟩ := h
  refine cv_q_275 (As := [.int (40 : Int32)]) (rest := []) hx hb hml hown hts hK hG hW (c_q_expect l D cA base hw7) (kb_q_expect hw7) ⟨Nat.le_of_ble_eq_true rfl, Nat.le_of_ble_eq_true rfl⟩ ⟨Nat.le_of_ble_eq_true rfl, Nat.le_of_ble_eq_true rfl⟩ rfl hl.1 rfl (Nat.le_of_ble_eq_true rfl) d_q_byWord_32 (fun H locs hW => ?_)
  refine lv_aload_n hx hb d_q_byWord_35 rfl (lv_at hl 1 rfl) ?_
  refine lv_iload_n hx hb d_q_byWord_36 rfl (lv_at hl 0 rfl) ?_
  replace h := bs h
  obtain ⟨w8, hw8, h⟩ := h
  refine cv_q_301 (As := [.int x6]) (rest := []) hx hb hml hown hts hK hG hW (c_q_condition l D cA base hw8) (kb_q_condition hw8) ⟨Nat.le_of_ble_eq_true rfl, Nat.le_of_ble_eq_true rfl⟩ ⟨Nat.le_of_ble_eq_true rfl, Nat.le_of_ble_eq_true rfl⟩ rfl hl.1 rfl (Nat.le_of_ble_eq_true rfl) d_q_byWord_37 (fun H locs hW => ?_)
  refine lv_aload_n hx hb d_q_byWord_40 rfl (lv_at hl 1 rfl) ?_
  refine lv_bipush (v := (41 : Int32)) hx hb d_q_byWord_41 (by decide) ?_
  replace h := bs h
  obtain ⟨w9, hw9, h⟩ := h
  refine cv_q_275 (As := [.int (41 : Int32)]) (rest := []) hx hb hml hown hts hK hG hW (c_q_expect l D cA base hw9) (kb_q_expect hw9) ⟨Nat.le_of_ble_eq_true rfl, Nat.le_of_ble_eq_true rfl⟩ ⟨Nat.le_of_ble_eq_true rfl, Nat.le_of_ble_eq_true rfl⟩ rfl hl.1 rfl (Nat.le_of_ble_eq_true rfl) d_q_byWord_43 (fun H locs hW => ?_)
  refine lv_aload_n hx hb d_q_byWord_46 rfl (lv_at hl 1 rfl) ?_
  replace h := bs h
  obtain ⟨x10, hx10, h⟩ := h
  refine gf_q_26 hx hb hts hown hK hG hW (gN_s hx10) d_q_byWord_47 ?_
  refine lv_iload_n hx hb d_q_byWord_50 rfl (lv_at hl 0 rfl) ?_
  replace h := bs h
  obtain ⟨x11, hx11, h⟩ := h
  refine wo_iald hx hb hK hW (t := 0) rfl hx11 d_q_byWord_51 ?_
  refine lv_iconst (v := (5 : Int32)) hx hb d_q_byWord_52 (by decide) ?_
  refine lv_icmp_ne (tgt := 65) hx hb d_q_byWord_53 (by decide) (fun c12 => ?_) (fun c12 => ?_)
  · rw [if_neg c12] at h
    refine lv_aload_n hx hb d_q_byWord_65 rfl (lv_at hl 1 rfl) ?_
    refine lv_iload_n hx hb d_q_byWord_66 rfl (lv_at hl 0 rfl) ?_
    refine lv_iconst (v := (0 : Int32)) hx hb d_q_byWord_67 (by decide) ?_
    replace h := bs h
    obtain ⟨w13, hw13, h⟩ := h
    refine cv_q_304 (As := [.int x6, .int (0 : Int32)]) (rest := []) hx hb hml hown hts hK hG hW (c_q_openBlock l D cA base hw13) (kb_q_openBlock hw13) ⟨Nat.le_of_ble_eq_true rfl, Nat.le_of_ble_eq_true rfl⟩ ⟨Nat.le_of_ble_eq_true rfl, Nat.le_of_ble_eq_true rfl⟩ rfl hl.1 rfl (Nat.le_of_ble_eq_true rfl) d_q_byWord_68 (fun H locs hW => ?_)
    exact j_q_byWord_71 C w13 h _ _ _ hW (lv_sub hl [] rfl)
  · rw [if_pos c12] at h
    refine lv_aload_n hx hb d_q_byWord_56 rfl (lv_at hl 1 rfl) ?_
    refine lv_bipush (v := (59 : Int32)) hx hb d_q_byWord_57 (by decide) ?_
    replace h := bs h
    obtain ⟨w14, hw14, h⟩ := h
    refine cv_q_275 (As := [.int (59 : Int32)]) (rest := []) hx hb hml hown hts hK hG hW (c_q_expect l D cA base hw14) (kb_q_expect hw14) ⟨Nat.le_of_ble_eq_true rfl, Nat.le_of_ble_eq_true rfl⟩ ⟨Nat.le_of_ble_eq_true rfl, Nat.le_of_ble_eq_true rfl⟩ rfl hl.1 rfl (Nat.le_of_ble_eq_true rfl) d_q_byWord_59 (fun H locs hW => ?_)
    refine lv_goto (tgt := 71) hx hb d_q_byWord_62 (by decide) ?_
    exact j_q_byWord_71 C w14 h _ _ _ hW (lv_sub hl [] rfl)
set_option maxHeartbeats 4000000 in
set_option maxRecDepth 100000 in
theorem c_q_byWord (l : Launch) (D : va_G) (cA : Nat → ClassId) (base : Nat) {a0 : Nat} {w w' : WW} (h : f_q_byWord a0 w = some w') : mt l D cls (wo_tys cA) cA base y_q_byWord (Cond.code y_q_byWord b_q_byWord 2 (none) :: gt) rm_q_byWord [.ref (base + a0)] w none w' rm_q_byWord.cells rm_q_byWord.slots := by
  refine mt_start (by decide) (Nat.le_of_ble_eq_true rfl) ?_
  intro p e s m below meth c ls hx hb hr hml hown hts hlk hnm hK hG hW hl
  have C : cx b_q_byWord (none) 2 y_q_byWord.cls "byWord" p s m [.ref (base + a0)].toArray meth c D cA base := ⟨hx, hb, hr, hml, hown, hts, hlk, hnm, hK, hG⟩
  have hl : lv_has ls 2 [(0, .ref (base + a0))] := hl
  unfold f_q_byWord at h
  replace h := its h
  obtain ⟨-, h⟩ := h
  refine lv_aload_n hx hb d_q_byWord_0 rfl (lv_at hl 0 rfl) ?_
  refine lv_aload_n hx hb d_q_byWord_1 rfl (lv_at hl 0 rfl) ?_
  replace h := bs h
  obtain ⟨x1, hx1, h⟩ := h
  refine gf_q_198 hx hb hts hown hK hG hW (gI_s hx1) d_q_byWord_2 ?_
  refine lv_if_ne (tgt := 12) hx hb d_q_byWord_5 (by decide) (fun c2 => ?_) (fun c2 => ?_)
  · rw [if_neg c2] at h
    refine lv_aload_n hx hb d_q_byWord_12 rfl (lv_at hl 0 rfl) ?_
    replace h := bs h
    obtain ⟨x3, hx3, h⟩ := h
    refine gf_q_198 hx hb hts hown hK hG hW (gI_s hx3) d_q_byWord_13 ?_
    refine lv_iconst (v := (2 : Int32)) hx hb d_q_byWord_16 (by decide) ?_
    refine lv_icmp_ne (tgt := 24) hx hb d_q_byWord_17 (by decide) (fun c4 => ?_) (fun c4 => ?_)
    · rw [if_neg c4] at h
      refine lv_iconst (v := (5 : Int32)) hx hb d_q_byWord_24 (by decide) ?_
      exact j_q_byWord_25 C a0 a0 (5 : Int32) w h _ _ _ hW (lv_sub hl [0] rfl)
    · rw [if_pos c4] at h
      refine lv_iconst (v := (4 : Int32)) hx hb d_q_byWord_20 (by decide) ?_
      refine lv_goto (tgt := 25) hx hb d_q_byWord_21 (by decide) ?_
      exact j_q_byWord_25 C a0 a0 (4 : Int32) w h _ _ _ hW (lv_sub hl [0] rfl)
  · rw [if_pos c2] at h
    refine lv_iconst (v := (3 : Int32)) hx hb d_q_byWord_8 (by decide) ?_
    refine lv_goto (tgt := 25) hx hb d_q_byWord_9 (by decide) ?_
    exact j_q_byWord_25 C a0 a0 (3 : Int32) w h _ _ _ hW (lv_sub hl [0] rfl)
theorem cv_q_311 {p : Program} {l : Launch} {e : Env} {R : Room} {s : State} {m : MethodId} {args : Array Value} {below : List Frame} {meth : Method} {c : Code} {H : Heap} {locs : List Loc} {cells slots : Nat} {Q : State → Prop} {D : va_G} {cA : Nat → ClassId} {base : Nat} {w w' : WW} {cc : ByteArray} {pc nL : Nat} {ls : Array Slot} {rest st0 As : List Value} {ov : Option Value} {b : Nat} (hx : p.tables.exec = Jvm.exec) (hb : c.code = cc) (hml : c.maxLocals = nL) (hown : s.vm.findClass Rc_q = some m.cls) (hts : ∀ w ∈ gt, w.before args s = true) (hK : va_K D cls (wo_tys cA) s) (hG : wo_G cA base s) (hW : wo_S D cls cA base s w H locs) (hM : mt l D cls (wo_tys cA) cA base y_q_endBlock (Cond.code y_q_endBlock b_q_endBlock 3 (none) :: gt) rm_q_endBlock (.ref (base + b) :: As) w ov w' rm_q_endBlock.cells rm_q_endBlock.slots) (hkb : kb w b 9 = true) (hR : rm_q_endBlock.frames + 1 ≤ R.frames ∧ 8 + (3 + 11) + rm_q_endBlock.locals ≤ R.locals) (hf : cells + rm_q_endBlock.cells ≤ R.cells ∧ slots + rm_q_endBlock.slots ≤ R.slots) (hn : As.length = 0) (hsz : ls.size = nL) (hst : st0 = As.reverse ++ .ref (base + b) :: rest) (hcat : (rest.map fun v => v.category).sum ≤ 8) (hdg : decode cc pc = .ok (.invokevirtual 311, 3)) (kk : ∀ (H1 : Heap) (locs1 : List Loc), wo_S D cls cA base s w' H1 locs1 → W p l e R s m args below meth c H1 locs1 (cells + rm_q_endBlock.cells) (slots + rm_q_endBlock.slots) Q (F0 m (pc + 3) ls (ov.toList ++ rest))) : W p l e R s m args below meth c H locs cells slots Q (F0 m pc ls st0) :=
  wo_callV (C := Rc_q) hx hb hml hown hts hK hG hW hM hkb rfl (gt_of (i := 1436) (by decide +kernel) (by decide +kernel)) (gt_of (i := 1438) (by decide +kernel) (by decide +kernel)) (gt_sel (i := 64) (by decide +kernel) (by decide +kernel)) (gt_of (i := 10) (by decide +kernel) (by decide +kernel)) (gt_of (i := 1439) (by decide +kernel) (by decide +kernel)) (by decide +kernel) hR hf hn hsz hst hcat hdg kk
theorem cv_q_314 {p : Program} {l : Launch} {e : Env} {R : Room} {s : State} {m : MethodId} {args : Array Value} {below : List Frame} {meth : Method} {c : Code} {H : Heap} {locs : List Loc} {cells slots : Nat} {Q : State → Prop} {D : va_G} {cA : Nat → ClassId} {base : Nat} {w w' : WW} {cc : ByteArray} {pc nL : Nat} {ls : Array Slot} {rest st0 As : List Value} {ov : Option Value} {b : Nat} (hx : p.tables.exec = Jvm.exec) (hb : c.code = cc) (hml : c.maxLocals = nL) (hown : s.vm.findClass Rc_q = some m.cls) (hts : ∀ w ∈ gt, w.before args s = true) (hK : va_K D cls (wo_tys cA) s) (hG : wo_G cA base s) (hW : wo_S D cls cA base s w H locs) (hM : mt l D cls (wo_tys cA) cA base y_q_assignment (Cond.code y_q_assignment b_q_assignment 2 (none) :: gt) rm_q_assignment (.ref (base + b) :: As) w ov w' rm_q_assignment.cells rm_q_assignment.slots) (hkb : kb w b 9 = true) (hR : rm_q_assignment.frames + 1 ≤ R.frames ∧ 8 + (2 + 11) + rm_q_assignment.locals ≤ R.locals) (hf : cells + rm_q_assignment.cells ≤ R.cells ∧ slots + rm_q_assignment.slots ≤ R.slots) (hn : As.length = 0) (hsz : ls.size = nL) (hst : st0 = As.reverse ++ .ref (base + b) :: rest) (hcat : (rest.map fun v => v.category).sum ≤ 8) (hdg : decode cc pc = .ok (.invokevirtual 314, 3)) (kk : ∀ (H1 : Heap) (locs1 : List Loc), wo_S D cls cA base s w' H1 locs1 → W p l e R s m args below meth c H1 locs1 (cells + rm_q_assignment.cells) (slots + rm_q_assignment.slots) Q (F0 m (pc + 3) ls (ov.toList ++ rest))) : W p l e R s m args below meth c H locs cells slots Q (F0 m pc ls st0) :=
  wo_callV (C := Rc_q) hx hb hml hown hts hK hG hW hM hkb rfl (gt_of (i := 1448) (by decide +kernel) (by decide +kernel)) (gt_of (i := 1450) (by decide +kernel) (by decide +kernel)) (gt_sel (i := 67) (by decide +kernel) (by decide +kernel)) (gt_of (i := 10) (by decide +kernel) (by decide +kernel)) (gt_of (i := 1451) (by decide +kernel) (by decide +kernel)) (by decide +kernel) hR hf hn hsz hst hcat hdg kk
theorem cv_q_317 {p : Program} {l : Launch} {e : Env} {R : Room} {s : State} {m : MethodId} {args : Array Value} {below : List Frame} {meth : Method} {c : Code} {H : Heap} {locs : List Loc} {cells slots : Nat} {Q : State → Prop} {D : va_G} {cA : Nat → ClassId} {base : Nat} {w w' : WW} {cc : ByteArray} {pc nL : Nat} {ls : Array Slot} {rest st0 As : List Value} {ov : Option Value} {b : Nat} (hx : p.tables.exec = Jvm.exec) (hb : c.code = cc) (hml : c.maxLocals = nL) (hown : s.vm.findClass Rc_q = some m.cls) (hts : ∀ w ∈ gt, w.before args s = true) (hK : va_K D cls (wo_tys cA) s) (hG : wo_G cA base s) (hW : wo_S D cls cA base s w H locs) (hM : mt l D cls (wo_tys cA) cA base y_q_storing (Cond.code y_q_storing b_q_storing 2 (none) :: gt) rm_q_storing (.ref (base + b) :: As) w ov w' rm_q_storing.cells rm_q_storing.slots) (hkb : kb w b 9 = true) (hR : rm_q_storing.frames + 1 ≤ R.frames ∧ 8 + (2 + 11) + rm_q_storing.locals ≤ R.locals) (hf : cells + rm_q_storing.cells ≤ R.cells ∧ slots + rm_q_storing.slots ≤ R.slots) (hn : As.length = 0) (hsz : ls.size = nL) (hst : st0 = As.reverse ++ .ref (base + b) :: rest) (hcat : (rest.map fun v => v.category).sum ≤ 8) (hdg : decode cc pc = .ok (.invokevirtual 317, 3)) (kk : ∀ (H1 : Heap) (locs1 : List Loc), wo_S D cls cA base s w' H1 locs1 → W p l e R s m args below meth c H1 locs1 (cells + rm_q_storing.cells) (slots + rm_q_storing.slots) Q (F0 m (pc + 3) ls (ov.toList ++ rest))) : W p l e R s m args below meth c H locs cells slots Q (F0 m pc ls st0) :=
  wo_callV (C := Rc_q) hx hb hml hown hts hK hG hW hM hkb rfl (gt_of (i := 1502) (by decide +kernel) (by decide +kernel)) (gt_of (i := 1504) (by decide +kernel) (by decide +kernel)) (gt_sel (i := 79) (by decide +kernel) (by decide +kernel)) (gt_of (i := 10) (by decide +kernel) (by decide +kernel)) (gt_of (i := 1505) (by decide +kernel) (by decide +kernel)) (by decide +kernel) hR hf hn hsz hst hcat hdg kk
theorem cv_q_320 {p : Program} {l : Launch} {e : Env} {R : Room} {s : State} {m : MethodId} {args : Array Value} {below : List Frame} {meth : Method} {c : Code} {H : Heap} {locs : List Loc} {cells slots : Nat} {Q : State → Prop} {D : va_G} {cA : Nat → ClassId} {base : Nat} {w w' : WW} {cc : ByteArray} {pc nL : Nat} {ls : Array Slot} {rest st0 As : List Value} {ov : Option Value} {b : Nat} (hx : p.tables.exec = Jvm.exec) (hb : c.code = cc) (hml : c.maxLocals = nL) (hown : s.vm.findClass Rc_q = some m.cls) (hts : ∀ w ∈ gt, w.before args s = true) (hK : va_K D cls (wo_tys cA) s) (hG : wo_G cA base s) (hW : wo_S D cls cA base s w H locs) (hM : mt l D cls (wo_tys cA) cA base y_q_byWord (Cond.code y_q_byWord b_q_byWord 2 (none) :: gt) rm_q_byWord (.ref (base + b) :: As) w ov w' rm_q_byWord.cells rm_q_byWord.slots) (hkb : kb w b 9 = true) (hR : rm_q_byWord.frames + 1 ≤ R.frames ∧ 8 + (2 + 11) + rm_q_byWord.locals ≤ R.locals) (hf : cells + rm_q_byWord.cells ≤ R.cells ∧ slots + rm_q_byWord.slots ≤ R.slots) (hn : As.length = 0) (hsz : ls.size = nL) (hst : st0 = As.reverse ++ .ref (base + b) :: rest) (hcat : (rest.map fun v => v.category).sum ≤ 8) (hdg : decode cc pc = .ok (.invokevirtual 320, 3)) (kk : ∀ (H1 : Heap) (locs1 : List Loc), wo_S D cls cA base s w' H1 locs1 → W p l e R s m args below meth c H1 locs1 (cells + rm_q_byWord.cells) (slots + rm_q_byWord.slots) Q (F0 m (pc + 3) ls (ov.toList ++ rest))) : W p l e R s m args below meth c H locs cells slots Q (F0 m pc ls st0) :=
  wo_callV (C := Rc_q) hx hb hml hown hts hK hG hW hM hkb rfl (gt_of (i := 1506) (by decide +kernel) (by decide +kernel)) (gt_of (i := 1508) (by decide +kernel) (by decide +kernel)) (gt_sel (i := 80) (by decide +kernel) (by decide +kernel)) (gt_of (i := 10) (by decide +kernel) (by decide +kernel)) (gt_of (i := 1509) (by decide +kernel) (by decide +kernel)) (by decide +kernel) hR hf hn hsz hst hcat hdg kk
abbrev b_q_parse : ByteArray := prog_11_method_36_code
def y_q_parse : MethodName := ⟨"AlarmForgeModel", "parse", "()I"⟩
def rm_q_parse : Room := { frames := 9, cells := 0, slots := 0, locals := 201 }
theorem d_q_parse_0 : decode b_q_parse 0 = .ok (.aload_n 0, 1) := by decide +kernel
theorem d_q_parse_1 : decode b_q_parse 1 = .ok (.iconst 1, 1) := by decide +kernel
theorem d_q_parse_2 : decode b_q_parse 2 = .ok (.aload_n 0, 1) := by decide +kernel
theorem d_q_parse_3 : decode b_q_parse 3 = .ok (.getfield 308, 3) := by decide +kernel
theorem d_q_parse_6 : decode b_q_parse 6 = .ok (.isub, 1) := by decide +kernel
theorem d_q_parse_7 : decode b_q_parse 7 = .ok (.putfield 243, 3) := by decide +kernel
theorem d_q_parse_10 : decode b_q_parse 10 = .ok (.aload_n 0, 1) := by decide +kernel
theorem d_q_parse_11 : decode b_q_parse 11 = .ok (.getfield 63, 3) := by decide +kernel
theorem d_q_parse_14 : decode b_q_parse 14 = .ok (.aload_n 0, 1) := by decide +kernel
theorem d_q_parse_15 : decode b_q_parse 15 = .ok (.getfield 243, 3) := by decide +kernel
theorem d_q_parse_18 : decode b_q_parse 18 = .ok (.iconst (-1), 1) := by decide +kernel
theorem d_q_parse_19 : decode b_q_parse 19 = .ok (.iastore, 1) := by decide +kernel
theorem d_q_parse_20 : decode b_q_parse 20 = .ok (.aload_n 0, 1) := by decide +kernel
theorem d_q_parse_21 : decode b_q_parse 21 = .ok (.getfield 66, 3) := by decide +kernel
theorem d_q_parse_24 : decode b_q_parse 24 = .ok (.aload_n 0, 1) := by decide +kernel
theorem d_q_parse_25 : decode b_q_parse 25 = .ok (.getfield 243, 3) := by decide +kernel
theorem d_q_parse_28 : decode b_q_parse 28 = .ok (.iconst 0, 1) := by decide +kernel
theorem d_q_parse_29 : decode b_q_parse 29 = .ok (.iastore, 1) := by decide +kernel
theorem d_q_parse_30 : decode b_q_parse 30 = .ok (.aload_n 0, 1) := by decide +kernel
theorem d_q_parse_31 : decode b_q_parse 31 = .ok (.getfield 69, 3) := by decide +kernel
theorem d_q_parse_34 : decode b_q_parse 34 = .ok (.aload_n 0, 1) := by decide +kernel
theorem d_q_parse_35 : decode b_q_parse 35 = .ok (.getfield 243, 3) := by decide +kernel
theorem d_q_parse_38 : decode b_q_parse 38 = .ok (.iconst 0, 1) := by decide +kernel
theorem d_q_parse_39 : decode b_q_parse 39 = .ok (.iastore, 1) := by decide +kernel
theorem d_q_parse_40 : decode b_q_parse 40 = .ok (.aload_n 0, 1) := by decide +kernel
theorem d_q_parse_41 : decode b_q_parse 41 = .ok (.iconst 0, 1) := by decide +kernel
theorem d_q_parse_42 : decode b_q_parse 42 = .ok (.putfield 295, 3) := by decide +kernel
theorem d_q_parse_45 : decode b_q_parse 45 = .ok (.aload_n 0, 1) := by decide +kernel
theorem d_q_parse_46 : decode b_q_parse 46 = .ok (.getfield 87, 3) := by decide +kernel
theorem d_q_parse_49 : decode b_q_parse 49 = .ok (.iconst 0, 1) := by decide +kernel
theorem d_q_parse_50 : decode b_q_parse 50 = .ok (.iconst (-1), 1) := by decide +kernel
theorem d_q_parse_51 : decode b_q_parse 51 = .ok (.iastore, 1) := by decide +kernel
theorem d_q_parse_52 : decode b_q_parse 52 = .ok (.aload_n 0, 1) := by decide +kernel
theorem d_q_parse_53 : decode b_q_parse 53 = .ok (.iconst 0, 1) := by decide +kernel
theorem d_q_parse_54 : decode b_q_parse 54 = .ok (.putfield 178, 3) := by decide +kernel
theorem d_q_parse_57 : decode b_q_parse 57 = .ok (.aload_n 0, 1) := by decide +kernel
theorem d_q_parse_58 : decode b_q_parse 58 = .ok (.iconst 0, 1) := by decide +kernel
theorem d_q_parse_59 : decode b_q_parse 59 = .ok (.putfield 230, 3) := by decide +kernel
theorem d_q_parse_62 : decode b_q_parse 62 = .ok (.aload_n 0, 1) := by decide +kernel
theorem d_q_parse_63 : decode b_q_parse 63 = .ok (.bipush (-2), 2) := by decide +kernel
theorem d_q_parse_65 : decode b_q_parse 65 = .ok (.putfield 16, 3) := by decide +kernel
theorem d_q_parse_68 : decode b_q_parse 68 = .ok (.aload_n 0, 1) := by decide +kernel
theorem d_q_parse_69 : decode b_q_parse 69 = .ok (.invokevirtual 237, 3) := by decide +kernel
theorem d_q_parse_72 : decode b_q_parse 72 = .ok (.aload_n 0, 1) := by decide +kernel
theorem d_q_parse_73 : decode b_q_parse 73 = .ok (.getfield 230, 3) := by decide +kernel
theorem d_q_parse_76 : decode b_q_parse 76 = .ok (.ifCond .ne (101), 3) := by decide +kernel
theorem d_q_parse_79 : decode b_q_parse 79 = .ok (.aload_n 0, 1) := by decide +kernel
theorem d_q_parse_80 : decode b_q_parse 80 = .ok (.getfield 195, 3) := by decide +kernel
theorem d_q_parse_83 : decode b_q_parse 83 = .ok (.ifCond .ne (10), 3) := by decide +kernel
theorem d_q_parse_86 : decode b_q_parse 86 = .ok (.aload_n 0, 1) := by decide +kernel
theorem d_q_parse_87 : decode b_q_parse 87 = .ok (.getfield 295, 3) := by decide +kernel
theorem d_q_parse_90 : decode b_q_parse 90 = .ok (.ifCond .le (87), 3) := by decide +kernel
theorem d_q_parse_93 : decode b_q_parse 93 = .ok (.aload_n 0, 1) := by decide +kernel
theorem d_q_parse_94 : decode b_q_parse 94 = .ok (.bipush (125), 2) := by decide +kernel
theorem d_q_parse_96 : decode b_q_parse 96 = .ok (.invokevirtual 234, 3) := by decide +kernel
theorem d_q_parse_99 : decode b_q_parse 99 = .ok (.ifCond .eq (10), 3) := by decide +kernel
theorem d_q_parse_102 : decode b_q_parse 102 = .ok (.aload_n 0, 1) := by decide +kernel
theorem d_q_parse_103 : decode b_q_parse 103 = .ok (.invokevirtual 311, 3) := by decide +kernel
theorem d_q_parse_106 : decode b_q_parse 106 = .ok (.goto (-34), 3) := by decide +kernel
theorem d_q_parse_109 : decode b_q_parse 109 = .ok (.aload_n 0, 1) := by decide +kernel
theorem d_q_parse_110 : decode b_q_parse 110 = .ok (.getfield 195, 3) := by decide +kernel
theorem d_q_parse_113 : decode b_q_parse 113 = .ok (.iconst 2, 1) := by decide +kernel
theorem d_q_parse_114 : decode b_q_parse 114 = .ok (.if_icmp .ne (10), 3) := by decide +kernel
theorem d_q_parse_117 : decode b_q_parse 117 = .ok (.aload_n 0, 1) := by decide +kernel
theorem d_q_parse_118 : decode b_q_parse 118 = .ok (.invokevirtual 314, 3) := by decide +kernel
theorem d_q_parse_121 : decode b_q_parse 121 = .ok (.goto (-49), 3) := by decide +kernel
theorem d_q_parse_124 : decode b_q_parse 124 = .ok (.aload_n 0, 1) := by decide +kernel
theorem d_q_parse_125 : decode b_q_parse 125 = .ok (.getfield 195, 3) := by decide +kernel
theorem d_q_parse_128 : decode b_q_parse 128 = .ok (.iconst 3, 1) := by decide +kernel
theorem d_q_parse_129 : decode b_q_parse 129 = .ok (.if_icmp .ne (10), 3) := by decide +kernel
theorem d_q_parse_132 : decode b_q_parse 132 = .ok (.aload_n 0, 1) := by decide +kernel
theorem d_q_parse_133 : decode b_q_parse 133 = .ok (.invokevirtual 317, 3) := by decide +kernel
theorem d_q_parse_136 : decode b_q_parse 136 = .ok (.goto (-64), 3) := by decide +kernel
theorem d_q_parse_139 : decode b_q_parse 139 = .ok (.aload_n 0, 1) := by decide +kernel
theorem d_q_parse_140 : decode b_q_parse 140 = .ok (.getfield 195, 3) := by decide +kernel
theorem d_q_parse_143 : decode b_q_parse 143 = .ok (.iconst 4, 1) := by decide +kernel
theorem d_q_parse_144 : decode b_q_parse 144 = .ok (.if_icmp .ne (26), 3) := by decide +kernel
theorem d_q_parse_147 : decode b_q_parse 147 = .ok (.aload_n 0, 1) := by decide +kernel
theorem d_q_parse_148 : decode b_q_parse 148 = .ok (.getfield 198, 3) := by decide +kernel
theorem d_q_parse_151 : decode b_q_parse 151 = .ok (.iconst 1, 1) := by decide +kernel
theorem d_q_parse_152 : decode b_q_parse 152 = .ok (.if_icmp .eq (18), 3) := by decide +kernel
theorem d_q_parse_155 : decode b_q_parse 155 = .ok (.aload_n 0, 1) := by decide +kernel
theorem d_q_parse_156 : decode b_q_parse 156 = .ok (.getfield 198, 3) := by decide +kernel
theorem d_q_parse_159 : decode b_q_parse 159 = .ok (.iconst 4, 1) := by decide +kernel
theorem d_q_parse_160 : decode b_q_parse 160 = .ok (.if_icmp .eq (10), 3) := by decide +kernel
theorem d_q_parse_163 : decode b_q_parse 163 = .ok (.aload_n 0, 1) := by decide +kernel
theorem d_q_parse_164 : decode b_q_parse 164 = .ok (.invokevirtual 320, 3) := by decide +kernel
theorem d_q_parse_167 : decode b_q_parse 167 = .ok (.goto (-95), 3) := by decide +kernel
theorem d_q_parse_170 : decode b_q_parse 170 = .ok (.aload_n 0, 1) := by decide +kernel
theorem d_q_parse_171 : decode b_q_parse 171 = .ok (.invokevirtual 240, 3) := by decide +kernel
theorem d_q_parse_174 : decode b_q_parse 174 = .ok (.goto (-102), 3) := by decide +kernel
theorem d_q_parse_177 : decode b_q_parse 177 = .ok (.aload_n 0, 1) := by decide +kernel
theorem d_q_parse_178 : decode b_q_parse 178 = .ok (.getfield 230, 3) := by decide +kernel
theorem d_q_parse_181 : decode b_q_parse 181 = .ok (.ifCond .eq (9), 3) := by decide +kernel
theorem d_q_parse_184 : decode b_q_parse 184 = .ok (.aload_n 0, 1) := by decide +kernel
theorem d_q_parse_185 : decode b_q_parse 185 = .ok (.iconst 1, 1) := by decide +kernel
theorem d_q_parse_186 : decode b_q_parse 186 = .ok (.invokevirtual 159, 3) := by decide +kernel
theorem d_q_parse_189 : decode b_q_parse 189 = .ok (.ireturn, 1) := by decide +kernel
theorem d_q_parse_190 : decode b_q_parse 190 = .ok (.aload_n 0, 1) := by decide +kernel
theorem d_q_parse_191 : decode b_q_parse 191 = .ok (.iconst 0, 1) := by decide +kernel
theorem d_q_parse_192 : decode b_q_parse 192 = .ok (.putfield 148, 3) := by decide +kernel
theorem d_q_parse_195 : decode b_q_parse 195 = .ok (.aload_n 0, 1) := by decide +kernel
theorem d_q_parse_196 : decode b_q_parse 196 = .ok (.aload_n 0, 1) := by decide +kernel
theorem d_q_parse_197 : decode b_q_parse 197 = .ok (.getfield 243, 3) := by decide +kernel
theorem d_q_parse_200 : decode b_q_parse 200 = .ok (.putfield 308, 3) := by decide +kernel
theorem d_q_parse_203 : decode b_q_parse 203 = .ok (.aload_n 0, 1) := by decide +kernel
theorem d_q_parse_204 : decode b_q_parse 204 = .ok (.iconst 1, 1) := by decide +kernel
theorem d_q_parse_205 : decode b_q_parse 205 = .ok (.putfield 323, 3) := by decide +kernel
theorem d_q_parse_208 : decode b_q_parse 208 = .ok (.aload_n 0, 1) := by decide +kernel
theorem d_q_parse_209 : decode b_q_parse 209 = .ok (.getfield 66, 3) := by decide +kernel
theorem d_q_parse_212 : decode b_q_parse 212 = .ok (.aload_n 0, 1) := by decide +kernel
theorem d_q_parse_213 : decode b_q_parse 213 = .ok (.getfield 308, 3) := by decide +kernel
theorem d_q_parse_216 : decode b_q_parse 216 = .ok (.iaload, 1) := by decide +kernel
theorem d_q_parse_217 : decode b_q_parse 217 = .ok (.ireturn, 1) := by decide +kernel
theorem kb_q_parse {a0 : Nat}  {w : WW} {r : (Int32 × WW)} (h : f_q_parse a0 w = some r) : kb w a0 9 = true := (its h).1
set_option maxHeartbeats 4000000 in
set_option maxRecDepth 100000 in
theorem j_q_parse_177 {p : Program} {l : Launch} {e : Env} {s : State} {m : MethodId} {args : Array Value} {below : List Frame} {meth : Method} {c : Code} {D : va_G} {cA : Nat → ClassId} {base : Nat} {r : Int32} {w' : WW} (C : cx b_q_parse (some .int) 1 y_q_parse.cls "parse" p s m args meth c D cA base)   : ∀ (y0 : Nat) (w : WW), f_q_parse_177 y0 w = some (r, w') → ∀ (H : Heap) (locs : List Loc) (ls : Array Slot), wo_S D cls cA base s w H locs → lv_has ls 1 [(0, .ref (base + y0))] → W p l e rm_q_parse s m args below meth c H locs 0 0 (MQ below (wo_Q D cls cA base (some (.int r)) w') args s rm_q_parse.cells rm_q_parse.slots (wo_B base)) (F0 m 177 ls []) := by
  obtain ⟨hx, hb, hr, hml, hown, hts, hlk, hnm, hK, hG⟩ := id C
  intro y0 w h H locs ls hW hl
  unfold f_q_parse_177 at h
  refine lv_aload_n hx hb d_q_parse_177 rfl (lv_at hl 0 rfl) ?_
  replace h := bs h
  obtain ⟨x22, hx22, h⟩ := h
  refine gf_q_230 hx hb hts hown hK hG hW (gI_s hx22) d_q_parse_178 ?_
  refine lv_if_eq (tgt := 190) hx hb d_q_parse_181 (by decide) (fun c23 => ?_) (fun c23 => ?_)
  · rw [if_pos c23] at h
    refine lv_aload_n hx hb d_q_parse_190 rfl (lv_at hl 0 rfl) ?_
    refine lv_iconst (v := (0 : Int32)) hx hb d_q_parse_191 (by decide) ?_
    replace h := bs h
    obtain ⟨w24, hw24, h⟩ := h
    refine pf_q_148 hx hb hts hown hK hG hW rfl rfl (pbi hw24 rfl) d_q_parse_192 (fun H locs hW => ?_)
    refine lv_aload_n hx hb d_q_parse_195 rfl (lv_at hl 0 rfl) ?_
    refine lv_aload_n hx hb d_q_parse_196 rfl (lv_at hl 0 rfl) ?_
    replace h := bs h
    obtain ⟨x25, hx25, h⟩ := h
    refine gf_q_243 hx hb hts hown hK hG hW (gI_s hx25) d_q_parse_197 ?_
    replace h := bs h
    obtain ⟨w26, hw26, h⟩ := h
    refine pf_q_308 hx hb hts hown hK hG hW rfl rfl (pbi hw26 rfl) d_q_parse_200 (fun H locs hW => ?_)
    refine lv_aload_n hx hb d_q_parse_203 rfl (lv_at hl 0 rfl) ?_
    refine lv_iconst (v := (1 : Int32)) hx hb d_q_parse_204 (by decide) ?_
    replace h := its h
    obtain ⟨c28, h⟩ := h
    replace h := bs h
    obtain ⟨w27, hw27, h⟩ := h
    refine pf_q_323 hx hb hts hown hK hG hW (z_n c28) (z_f c28) (pbi hw27 rfl) d_q_parse_205 (fun H locs hW => ?_)
    refine lv_aload_n hx hb d_q_parse_208 rfl (lv_at hl 0 rfl) ?_
    replace h := bs h
    obtain ⟨x29, hx29, h⟩ := h
    refine gf_q_66 hx hb hts hown hK hG hW (gN_s hx29) d_q_parse_209 ?_
    refine lv_aload_n hx hb d_q_parse_212 rfl (lv_at hl 0 rfl) ?_
    replace h := bs h
    obtain ⟨x30, hx30, h⟩ := h
    refine gf_q_308 hx hb hts hown hK hG hW (gI_s hx30) d_q_parse_213 ?_
    replace h := bs h
    obtain ⟨x31, hx31, h⟩ := h
    refine wo_iald hx hb hK hW (t := 0) rfl hx31 d_q_parse_216 ?_
    cases h
    exact wo_iret hx hb hr hlk hW d_q_parse_217
  · rw [if_neg c23] at h
    refine lv_aload_n hx hb d_q_parse_184 rfl (lv_at hl 0 rfl) ?_
    refine lv_iconst (v := (1 : Int32)) hx hb d_q_parse_185 (by decide) ?_
    replace h := bs2 h
    obtain ⟨x33, w32, hw32, h⟩ := h
    refine cv_q_159 (As := [.int (1 : Int32)]) (rest := []) hx hb hml hown hts hK hG hW (c_q_fail l D cA base hw32) (kb_q_fail hw32) ⟨Nat.le_of_ble_eq_true rfl, Nat.le_of_ble_eq_true rfl⟩ ⟨Nat.le_of_ble_eq_true rfl, Nat.le_of_ble_eq_true rfl⟩ rfl hl.1 rfl (Nat.le_of_ble_eq_true rfl) d_q_parse_186 (fun H locs hW => ?_)
    cases h
    exact wo_iret hx hb hr hlk hW d_q_parse_189
set_option maxHeartbeats 4000000 in
set_option maxRecDepth 100000 in
theorem j_q_parse_170 {p : Program} {l : Launch} {e : Env} {s : State} {m : MethodId} {args : Array Value} {below : List Frame} {meth : Method} {c : Code} {D : va_G} {cA : Nat → ClassId} {base : Nat} {r : Int32} {w' : WW} (C : cx b_q_parse (some .int) 1 y_q_parse.cls "parse" p s m args meth c D cA base) {k_72 : Nat → WW → Option (Int32 × WW)} (hk_72 : ∀ (y0 : Nat) (w : WW), k_72 y0 w = some (r, w') → ∀ (H : Heap) (locs : List Loc) (ls : Array Slot), wo_S D cls cA base s w H locs → lv_has ls 1 [(0, .ref (base + y0))] → W p l e rm_q_parse s m args below meth c H locs 0 0 (MQ below (wo_Q D cls cA base (some (.int r)) w') args s rm_q_parse.cells rm_q_parse.slots (wo_B base)) (F0 m 72 ls [])) : ∀ (y0 : Nat) (w : WW), f_q_parse_170 k_72 y0 w = some (r, w') → ∀ (H : Heap) (locs : List Loc) (ls : Array Slot), wo_S D cls cA base s w H locs → lv_has ls 1 [(0, .ref (base + y0))] → W p l e rm_q_parse s m args below meth c H locs 0 0 (MQ below (wo_Q D cls cA base (some (.int r)) w') args s rm_q_parse.cells rm_q_parse.slots (wo_B base)) (F0 m 170 ls []) := by
  obtain ⟨hx, hb, hr, hml, hown, hts, hlk, hnm, hK, hG⟩ := id C
  intro y0 w h H locs ls hW hl
  unfold f_q_parse_170 at h
  refine lv_aload_n hx hb d_q_parse_170 rfl (lv_at hl 0 rfl) ?_
  replace h := bs h
  obtain ⟨w45, hw45, h⟩ := h
  refine cv_q_240 (As := []) (rest := []) hx hb hml hown hts hK hG hW (c_q_wrong l D cA base hw45) (kb_q_wrong hw45) ⟨Nat.le_of_ble_eq_true rfl, Nat.le_of_ble_eq_true rfl⟩ ⟨Nat.le_of_ble_eq_true rfl, Nat.le_of_ble_eq_true rfl⟩ rfl hl.1 rfl (Nat.le_of_ble_eq_true rfl) d_q_parse_171 (fun H locs hW => ?_)
  refine lv_goto (tgt := 72) hx hb d_q_parse_174 (by decide) ?_
  exact hk_72 y0 w45 h _ _ _ hW (lv_sub hl [0] rfl)
set_option maxHeartbeats 4000000 in
set_option maxRecDepth 100000 in
theorem j_q_parse_93 {p : Program} {l : Launch} {e : Env} {s : State} {m : MethodId} {args : Array Value} {below : List Frame} {meth : Method} {c : Code} {D : va_G} {cA : Nat → ClassId} {base : Nat} {r : Int32} {w' : WW} (C : cx b_q_parse (some .int) 1 y_q_parse.cls "parse" p s m args meth c D cA base) {k_72 : Nat → WW → Option (Int32 × WW)} (hk_72 : ∀ (y0 : Nat) (w : WW), k_72 y0 w = some (r, w') → ∀ (H : Heap) (locs : List Loc) (ls : Array Slot), wo_S D cls cA base s w H locs → lv_has ls 1 [(0, .ref (base + y0))] → W p l e rm_q_parse s m args below meth c H locs 0 0 (MQ below (wo_Q D cls cA base (some (.int r)) w') args s rm_q_parse.cells rm_q_parse.slots (wo_B base)) (F0 m 72 ls [])) : ∀ (y0 : Nat) (w : WW), f_q_parse_93 k_72 y0 w = some (r, w') → ∀ (H : Heap) (locs : List Loc) (ls : Array Slot), wo_S D cls cA base s w H locs → lv_has ls 1 [(0, .ref (base + y0))] → W p l e rm_q_parse s m args below meth c H locs 0 0 (MQ below (wo_Q D cls cA base (some (.int r)) w') args s rm_q_parse.cells rm_q_parse.slots (wo_B base)) (F0 m 93 ls []) := by
  obtain ⟨hx, hb, hr, hml, hown, hts, hlk, hnm, hK, hG⟩ := id C
  intro y0 w h H locs ls hW hl
  unfold f_q_parse_93 at h
  refine lv_aload_n hx hb d_q_parse_93 rfl (lv_at hl 0 rfl) ?_
  refine lv_bipush (v := (125 : Int32)) hx hb d_q_parse_94 (by decide) ?_
  replace h := bs2 h
  obtain ⟨x37, w36, hw36, h⟩ := h
  refine cv_q_234 (As := [.int (125 : Int32)]) (rest := []) hx hb hml hown hts hK hG hW (c_q_is l D cA base hw36) (kb_q_is hw36) ⟨Nat.le_of_ble_eq_true rfl, Nat.le_of_ble_eq_true rfl⟩ ⟨Nat.le_of_ble_eq_true rfl, Nat.le_of_ble_eq_true rfl⟩ rfl hl.1 rfl (Nat.le_of_ble_eq_true rfl) d_q_parse_96 (fun H locs hW => ?_)
  refine lv_if_eq (tgt := 109) hx hb d_q_parse_99 (by decide) (fun c38 => ?_) (fun c38 => ?_)
  · rw [if_pos c38] at h
    refine lv_aload_n hx hb d_q_parse_109 rfl (lv_at hl 0 rfl) ?_
    replace h := bs h
    obtain ⟨x39, hx39, h⟩ := h
    refine gf_q_195 hx hb hts hown hK hG hW (gI_s hx39) d_q_parse_110 ?_
    refine lv_iconst (v := (2 : Int32)) hx hb d_q_parse_113 (by decide) ?_
    refine lv_icmp_ne (tgt := 124) hx hb d_q_parse_114 (by decide) (fun c40 => ?_) (fun c40 => ?_)
    · rw [if_neg c40] at h
      refine lv_aload_n hx hb d_q_parse_124 rfl (lv_at hl 0 rfl) ?_
      replace h := bs h
      obtain ⟨x41, hx41, h⟩ := h
      refine gf_q_195 hx hb hts hown hK hG hW (gI_s hx41) d_q_parse_125 ?_
      refine lv_iconst (v := (3 : Int32)) hx hb d_q_parse_128 (by decide) ?_
      refine lv_icmp_ne (tgt := 139) hx hb d_q_parse_129 (by decide) (fun c42 => ?_) (fun c42 => ?_)
      · rw [if_neg c42] at h
        refine lv_aload_n hx hb d_q_parse_139 rfl (lv_at hl 0 rfl) ?_
        replace h := bs h
        obtain ⟨x43, hx43, h⟩ := h
        refine gf_q_195 hx hb hts hown hK hG hW (gI_s hx43) d_q_parse_140 ?_
        refine lv_iconst (v := (4 : Int32)) hx hb d_q_parse_143 (by decide) ?_
        refine lv_icmp_ne (tgt := 170) hx hb d_q_parse_144 (by decide) (fun c44 => ?_) (fun c44 => ?_)
        · rw [if_neg c44] at h
          exact j_q_parse_170 C hk_72 y0 w36 h _ _ _ hW (lv_sub hl [0] rfl)
        · rw [if_pos c44] at h
          refine lv_aload_n hx hb d_q_parse_147 rfl (lv_at hl 0 rfl) ?_
          replace h := bs h
          obtain ⟨x46, hx46, h⟩ := h
          refine gf_q_198 hx hb hts hown hK hG hW (gI_s hx46) d_q_parse_148 ?_
          refine lv_iconst (v := (1 : Int32)) hx hb d_q_parse_151 (by decide) ?_
          refine lv_icmp_eq (tgt := 170) hx hb d_q_parse_152 (by decide) (fun c47 => ?_) (fun c47 => ?_)
          · rw [if_pos c47] at h
            exact j_q_parse_170 C hk_72 y0 w36 h _ _ _ hW (lv_sub hl [0] rfl)
          · rw [if_neg c47] at h
            refine lv_aload_n hx hb d_q_parse_155 rfl (lv_at hl 0 rfl) ?_
            replace h := bs h
            obtain ⟨x48, hx48, h⟩ := h
            refine gf_q_198 hx hb hts hown hK hG hW (gI_s hx48) d_q_parse_156 ?_
            refine lv_iconst (v := (4 : Int32)) hx hb d_q_parse_159 (by decide) ?_
            refine lv_icmp_eq (tgt := 170) hx hb d_q_parse_160 (by decide) (fun c49 => ?_) (fun c49 => ?_)
            · rw [if_pos c49] at h
              exact j_q_parse_170 C hk_72 y0 w36 h _ _ _ hW (lv_sub hl [0] rfl)
            · rw [if_neg c49] at h
              refine lv_aload_n hx hb d_q_parse_163 rfl (lv_at hl 0 rfl) ?_
              replace h := bs h
              obtain ⟨w50, hw50, h⟩ := h
              refine cv_q_320 (As := []) (rest := []) hx hb hml hown hts hK hG hW (c_q_byWord l D cA base hw50) (kb_q_byWord hw50) ⟨Nat.le_of_ble_eq_true rfl, Nat.le_of_ble_eq_true rfl⟩ ⟨Nat.le_of_ble_eq_true rfl, Nat.le_of_ble_eq_true rfl⟩ rfl hl.1 rfl (Nat.le_of_ble_eq_true rfl) d_q_parse_164 (fun H locs hW => ?_)
              refine lv_goto (tgt := 72) hx hb d_q_parse_167 (by decide) ?_
              exact hk_72 y0 w50 h _ _ _ hW (lv_sub hl [0] rfl)
      · rw [if_pos c42] at h
        refine lv_aload_n hx hb d_q_parse_132 rfl (lv_at hl 0 rfl) ?_
        replace h := bs h
        obtain ⟨w51, hw51, h⟩ := h
        refine cv_q_317 (As := []) (rest := []) hx hb hml hown hts hK hG hW (c_q_storing l D cA base hw51) (kb_q_storing hw51) ⟨Nat.le_of_ble_eq_true rfl, Nat.le_of_ble_eq_true rfl⟩ ⟨Nat.le_of_ble_eq_true rfl, Nat.le_of_ble_eq_true rfl⟩ rfl hl.1 rfl (Nat.le_of_ble_eq_true rfl) d_q_parse_133 (fun H locs hW => ?_)
        refine lv_goto (tgt := 72) hx hb d_q_parse_136 (by decide) ?_
        exact hk_72 y0 w51 h _ _ _ hW (lv_sub hl [0] rfl)
    · rw [if_pos c40] at h
      refine lv_aload_n hx hb d_q_parse_117 rfl (lv_at hl 0 rfl) ?_
      replace h := bs h
      obtain ⟨w52, hw52, h⟩ := h
      refine cv_q_314 (As := []) (rest := []) hx hb hml hown hts hK hG hW (c_q_assignment l D cA base hw52) (kb_q_assignment hw52) ⟨Nat.le_of_ble_eq_true rfl, Nat.le_of_ble_eq_true rfl⟩ ⟨Nat.le_of_ble_eq_true rfl, Nat.le_of_ble_eq_true rfl⟩ rfl hl.1 rfl (Nat.le_of_ble_eq_true rfl) d_q_parse_118 (fun H locs hW => ?_)
      refine lv_goto (tgt := 72) hx hb d_q_parse_121 (by decide) ?_
      exact hk_72 y0 w52 h _ _ _ hW (lv_sub hl [0] rfl)
  · rw [if_neg c38] at h
    refine lv_aload_n hx hb d_q_parse_102 rfl (lv_at hl 0 rfl) ?_
    replace h := bs h
    obtain ⟨w53, hw53, h⟩ := h
    refine cv_q_311 (As := []) (rest := []) hx hb hml hown hts hK hG hW (c_q_endBlock l D cA base hw53) (kb_q_endBlock hw53) ⟨Nat.le_of_ble_eq_true rfl, Nat.le_of_ble_eq_true rfl⟩ ⟨Nat.le_of_ble_eq_true rfl, Nat.le_of_ble_eq_true rfl⟩ rfl hl.1 rfl (Nat.le_of_ble_eq_true rfl) d_q_parse_103 (fun H locs hW => ?_)
    refine lv_goto (tgt := 72) hx hb d_q_parse_106 (by decide) ?_
    exact hk_72 y0 w53 h _ _ _ hW (lv_sub hl [0] rfl)
set_option maxHeartbeats 4000000 in
set_option maxRecDepth 100000 in
theorem j_q_parse_72 {p : Program} {l : Launch} {e : Env} {s : State} {m : MethodId} {args : Array Value} {below : List Frame} {meth : Method} {c : Code} {D : va_G} {cA : Nat → ClassId} {base : Nat} {r : Int32} {w' : WW} (C : cx b_q_parse (some .int) 1 y_q_parse.cls "parse" p s m args meth c D cA base)   : ∀ n : Nat, ∀ (y0 : Nat) (w : WW), f_q_parse_72 n y0 w = some (r, w') → ∀ (H : Heap) (locs : List Loc) (ls : Array Slot), wo_S D cls cA base s w H locs → lv_has ls 1 [(0, .ref (base + y0))] → W p l e rm_q_parse s m args below meth c H locs 0 0 (MQ below (wo_Q D cls cA base (some (.int r)) w') args s rm_q_parse.cells rm_q_parse.slots (wo_B base)) (F0 m 72 ls []) := by
  obtain ⟨hx, hb, hr, hml, hown, hts, hlk, hnm, hK, hG⟩ := id C
  intro n
  induction n with
  | zero => intro y0 w h; cases h
  | succ n ih =>
    intro y0 w h H locs ls hW hl
    rw [f_q_parse_72] at h
    refine lv_aload_n hx hb d_q_parse_72 rfl (lv_at hl 0 rfl) ?_
    replace h := bs h
    obtain ⟨x20, hx20, h⟩ := h
    refine gf_q_230 hx hb hts hown hK hG hW (gI_s hx20) d_q_parse_73 ?_
    refine lv_if_ne (tgt := 177) hx hb d_q_parse_76 (by decide) (fun c21 => ?_) (fun c21 => ?_)
    · rw [if_neg c21] at h
      exact j_q_parse_177 C y0 w h _ _ _ hW (lv_sub hl [0] rfl)
    · rw [if_pos c21] at h
      refine lv_aload_n hx hb d_q_parse_79 rfl (lv_at hl 0 rfl) ?_
      replace h := bs h
      obtain ⟨x34, hx34, h⟩ := h
      refine gf_q_195 hx hb hts hown hK hG hW (gI_s hx34) d_q_parse_80 ?_
      refine lv_if_ne (tgt := 93) hx hb d_q_parse_83 (by decide) (fun c35 => ?_) (fun c35 => ?_)
      · rw [if_neg c35] at h
        exact j_q_parse_93 C ih y0 w h _ _ _ hW (lv_sub hl [0] rfl)
      · rw [if_pos c35] at h
        refine lv_aload_n hx hb d_q_parse_86 rfl (lv_at hl 0 rfl) ?_
        replace h := bs h
        obtain ⟨x54, hx54, h⟩ := h
        refine gf_q_295 hx hb hts hown hK hG hW (gI_s hx54) d_q_parse_87 ?_
        refine lv_if_le (tgt := 177) hx hb d_q_parse_90 (by decide) (fun c55 => ?_) (fun c55 => ?_)
        · rw [if_pos c55] at h
          exact j_q_parse_177 C y0 w h _ _ _ hW (lv_sub hl [0] rfl)
        · rw [if_neg c55] at h
          exact j_q_parse_93 C ih y0 w h _ _ _ hW (lv_sub hl [0] rfl)
set_option maxHeartbeats 4000000 in
set_option maxRecDepth 100000 in
theorem c_q_parse (l : Launch) (D : va_G) (cA : Nat → ClassId) (base : Nat) {a0 : Nat} {w w' : WW} {r : Int32} (h : f_q_parse a0 w = some (r, w')) : mt l D cls (wo_tys cA) cA base y_q_parse (Cond.code y_q_parse b_q_parse 1 (some .int) :: gt) rm_q_parse [.ref (base + a0)] w (some (.int r)) w' rm_q_parse.cells rm_q_parse.slots := by
  refine mt_start (by decide) (Nat.le_of_ble_eq_true rfl) ?_
  intro p e s m below meth c ls hx hb hr hml hown hts hlk hnm hK hG hW hl
  have C : cx b_q_parse (some .int) 1 y_q_parse.cls "parse" p s m [.ref (base + a0)].toArray meth c D cA base := ⟨hx, hb, hr, hml, hown, hts, hlk, hnm, hK, hG⟩
  have hl : lv_has ls 1 [(0, .ref (base + a0))] := hl
  unfold f_q_parse at h
  replace h := its h
  obtain ⟨-, h⟩ := h
  refine lv_aload_n hx hb d_q_parse_0 rfl (lv_at hl 0 rfl) ?_
  refine lv_iconst (v := (1 : Int32)) hx hb d_q_parse_1 (by decide) ?_
  refine lv_aload_n hx hb d_q_parse_2 rfl (lv_at hl 0 rfl) ?_
  replace h := bs h
  obtain ⟨x1, hx1, h⟩ := h
  refine gf_q_308 hx hb hts hown hK hG hW (gI_s hx1) d_q_parse_3 ?_
  refine lv_isub hx hb d_q_parse_6 ?_
  replace h := bs h
  obtain ⟨w2, hw2, h⟩ := h
  refine pf_q_243 hx hb hts hown hK hG hW rfl rfl (pbi hw2 rfl) d_q_parse_7 (fun H locs hW => ?_)
  refine lv_aload_n hx hb d_q_parse_10 rfl (lv_at hl 0 rfl) ?_
  replace h := bs h
  obtain ⟨x3, hx3, h⟩ := h
  refine gf_q_63 hx hb hts hown hK hG hW (gN_s hx3) d_q_parse_11 ?_
  refine lv_aload_n hx hb d_q_parse_14 rfl (lv_at hl 0 rfl) ?_
  replace h := bs h
  obtain ⟨x4, hx4, h⟩ := h
  refine gf_q_243 hx hb hts hown hK hG hW (gI_s hx4) d_q_parse_15 ?_
  refine lv_iconst (v := (-1 : Int32)) hx hb d_q_parse_18 (by decide) ?_
  replace h := bs h
  obtain ⟨w5, hw5, h⟩ := h
  refine wo_iast hx hb hK hW (t := 0) rfl hw5 d_q_parse_19 (fun H locs hW => ?_)
  refine lv_aload_n hx hb d_q_parse_20 rfl (lv_at hl 0 rfl) ?_
  replace h := bs h
  obtain ⟨x6, hx6, h⟩ := h
  refine gf_q_66 hx hb hts hown hK hG hW (gN_s hx6) d_q_parse_21 ?_
  refine lv_aload_n hx hb d_q_parse_24 rfl (lv_at hl 0 rfl) ?_
  replace h := bs h
  obtain ⟨x7, hx7, h⟩ := h
  refine gf_q_243 hx hb hts hown hK hG hW (gI_s hx7) d_q_parse_25 ?_
  refine lv_iconst (v := (0 : Int32)) hx hb d_q_parse_28 (by decide) ?_
  replace h := bs h
  obtain ⟨w8, hw8, h⟩ := h
  refine wo_iast hx hb hK hW (t := 0) rfl hw8 d_q_parse_29 (fun H locs hW => ?_)
  refine lv_aload_n hx hb d_q_parse_30 rfl (lv_at hl 0 rfl) ?_
  replace h := bs h
  obtain ⟨x9, hx9, h⟩ := h
  refine gf_q_69 hx hb hts hown hK hG hW (gN_s hx9) d_q_parse_31 ?_
  refine lv_aload_n hx hb d_q_parse_34 rfl (lv_at hl 0 rfl) ?_
  replace h := bs h
  obtain ⟨x10, hx10, h⟩ := h
  refine gf_q_243 hx hb hts hown hK hG hW (gI_s hx10) d_q_parse_35 ?_
  refine lv_iconst (v := (0 : Int32)) hx hb d_q_parse_38 (by decide) ?_
  replace h := bs h
  obtain ⟨w11, hw11, h⟩ := h
  refine wo_iast hx hb hK hW (t := 0) rfl hw11 d_q_parse_39 (fun H locs hW => ?_)
  refine lv_aload_n hx hb d_q_parse_40 rfl (lv_at hl 0 rfl) ?_
  refine lv_iconst (v := (0 : Int32)) hx hb d_q_parse_41 (by decide) ?_
  replace h := bs h
  obtain ⟨w12, hw12, h⟩ := h
  refine pf_q_295 hx hb hts hown hK hG hW rfl rfl (pbi hw12 rfl) d_q_parse_42 (fun H locs hW => ?_)
  refine lv_aload_n hx hb d_q_parse_45 rfl (lv_at hl 0 rfl) ?_
  replace h := bs h
  obtain ⟨x13, hx13, h⟩ := h
  refine gf_q_87 hx hb hts hown hK hG hW (gN_s hx13) d_q_parse_46 ?_
  refine lv_iconst (v := (0 : Int32)) hx hb d_q_parse_49 (by decide) ?_
  refine lv_iconst (v := (-1 : Int32)) hx hb d_q_parse_50 (by decide) ?_
  replace h := bs h
  obtain ⟨w14, hw14, h⟩ := h
  refine wo_iast hx hb hK hW (t := 0) rfl hw14 d_q_parse_51 (fun H locs hW => ?_)
  refine lv_aload_n hx hb d_q_parse_52 rfl (lv_at hl 0 rfl) ?_
  refine lv_iconst (v := (0 : Int32)) hx hb d_q_parse_53 (by decide) ?_
  replace h := bs h
  obtain ⟨w15, hw15, h⟩ := h
  refine pf_q_178 hx hb hts hown hK hG hW rfl rfl (pbi hw15 rfl) d_q_parse_54 (fun H locs hW => ?_)
  refine lv_aload_n hx hb d_q_parse_57 rfl (lv_at hl 0 rfl) ?_
  refine lv_iconst (v := (0 : Int32)) hx hb d_q_parse_58 (by decide) ?_
  replace h := its h
  obtain ⟨c17, h⟩ := h
  replace h := bs h
  obtain ⟨w16, hw16, h⟩ := h
  refine pf_q_230 hx hb hts hown hK hG hW (z_n c17) (z_f c17) (pbi hw16 rfl) d_q_parse_59 (fun H locs hW => ?_)
  refine lv_aload_n hx hb d_q_parse_62 rfl (lv_at hl 0 rfl) ?_
  refine lv_bipush (v := (-2 : Int32)) hx hb d_q_parse_63 (by decide) ?_
  replace h := bs h
  obtain ⟨w18, hw18, h⟩ := h
  refine pf_q_16 hx hb hts hown hK hG hW rfl rfl (pbi hw18 rfl) d_q_parse_65 (fun H locs hW => ?_)
  refine lv_aload_n hx hb d_q_parse_68 rfl (lv_at hl 0 rfl) ?_
  replace h := bs h
  obtain ⟨w19, hw19, h⟩ := h
  refine cv_q_237 (As := []) (rest := []) hx hb hml hown hts hK hG hW (c_q_read l D cA base hw19) (kb_q_read hw19) ⟨Nat.le_of_ble_eq_true rfl, Nat.le_of_ble_eq_true rfl⟩ ⟨Nat.le_of_ble_eq_true rfl, Nat.le_of_ble_eq_true rfl⟩ rfl hl.1 rfl (Nat.le_of_ble_eq_true rfl) d_q_parse_69 (fun H locs hW => ?_)
  exact j_q_parse_72 C KK a0 w19 h _ _ _ hW (lv_sub hl [0] rfl)
abbrev b_q_where : ByteArray := prog_11_method_37_code
def y_q_where : MethodName := ⟨"AlarmForgeModel", "where", "()I"⟩
def rm_q_where : Room := { frames := 0, cells := 0, slots := 0, locals := 0 }
theorem d_q_where_0 : decode b_q_where 0 = .ok (.aload_n 0, 1) := by decide +kernel
theorem d_q_where_1 : decode b_q_where 1 = .ok (.iconst 0, 1) := by decide +kernel
theorem d_q_where_2 : decode b_q_where 2 = .ok (.putfield 148, 3) := by decide +kernel
theorem d_q_where_5 : decode b_q_where 5 = .ok (.aload_n 0, 1) := by decide +kernel
theorem d_q_where_6 : decode b_q_where 6 = .ok (.getfield 16, 3) := by decide +kernel
theorem d_q_where_9 : decode b_q_where 9 = .ok (.ireturn, 1) := by decide +kernel
theorem kb_q_where {a0 : Nat}  {w : WW} {r : (Int32 × WW)} (h : f_q_where a0 w = some r) : kb w a0 9 = true := (its h).1
set_option maxHeartbeats 4000000 in
set_option maxRecDepth 100000 in
theorem c_q_where (l : Launch) (D : va_G) (cA : Nat → ClassId) (base : Nat) {a0 : Nat} {w w' : WW} {r : Int32} (h : f_q_where a0 w = some (r, w')) : mt l D cls (wo_tys cA) cA base y_q_where (Cond.code y_q_where b_q_where 1 (some .int) :: gt) rm_q_where [.ref (base + a0)] w (some (.int r)) w' rm_q_where.cells rm_q_where.slots := by
  refine mt_start (by decide) (Nat.le_of_ble_eq_true rfl) ?_
  intro p e s m below meth c ls hx hb hr hml hown hts hlk hnm hK hG hW hl
  have C : cx b_q_where (some .int) 1 y_q_where.cls "where" p s m [.ref (base + a0)].toArray meth c D cA base := ⟨hx, hb, hr, hml, hown, hts, hlk, hnm, hK, hG⟩
  have hl : lv_has ls 1 [(0, .ref (base + a0))] := hl
  unfold f_q_where at h
  replace h := its h
  obtain ⟨-, h⟩ := h
  refine lv_aload_n hx hb d_q_where_0 rfl (lv_at hl 0 rfl) ?_
  refine lv_iconst (v := (0 : Int32)) hx hb d_q_where_1 (by decide) ?_
  replace h := bs h
  obtain ⟨w1, hw1, h⟩ := h
  refine pf_q_148 hx hb hts hown hK hG hW rfl rfl (pbi hw1 rfl) d_q_where_2 (fun H locs hW => ?_)
  refine lv_aload_n hx hb d_q_where_5 rfl (lv_at hl 0 rfl) ?_
  replace h := bs h
  obtain ⟨x2, hx2, h⟩ := h
  refine gf_q_16 hx hb hts hown hK hG hW (gI_s hx2) d_q_where_6 ?_
  cases h
  exact wo_iret hx hb hr hlk hW d_q_where_9
abbrev b_q_choose : ByteArray := prog_11_method_38_code
def y_q_choose : MethodName := ⟨"AlarmForgeModel", "choose", "(II)I"⟩
def rm_q_choose : Room := { frames := 1, cells := 0, slots := 0, locals := 25 }
theorem d_q_choose_0 : decode b_q_choose 0 = .ok (.iload_n 1, 1) := by decide +kernel
theorem d_q_choose_1 : decode b_q_choose 1 = .ok (.i2l, 1) := by decide +kernel
theorem d_q_choose_2 : decode b_q_choose 2 = .ok (.lconst 0, 1) := by decide +kernel
theorem d_q_choose_3 : decode b_q_choose 3 = .ok (.lconst 1, 1) := by decide +kernel
theorem d_q_choose_4 : decode b_q_choose 4 = .ok (.invokestatic 155, 3) := by decide +kernel
theorem d_q_choose_7 : decode b_q_choose 7 = .ok (.ifCond .eq (15), 3) := by decide +kernel
theorem d_q_choose_10 : decode b_q_choose 10 = .ok (.iload_n 2, 1) := by decide +kernel
theorem d_q_choose_11 : decode b_q_choose 11 = .ok (.i2l, 1) := by decide +kernel
theorem d_q_choose_12 : decode b_q_choose 12 = .ok (.lconst 0, 1) := by decide +kernel
theorem d_q_choose_13 : decode b_q_choose 13 = .ok (.ldc2_w 326, 3) := by decide +kernel
theorem d_q_choose_16 : decode b_q_choose 16 = .ok (.invokestatic 155, 3) := by decide +kernel
theorem d_q_choose_19 : decode b_q_choose 19 = .ok (.ifCond .ne (9), 3) := by decide +kernel
theorem d_q_choose_22 : decode b_q_choose 22 = .ok (.aload_n 0, 1) := by decide +kernel
theorem d_q_choose_23 : decode b_q_choose 23 = .ok (.iconst 1, 1) := by decide +kernel
theorem d_q_choose_24 : decode b_q_choose 24 = .ok (.invokevirtual 159, 3) := by decide +kernel
theorem d_q_choose_27 : decode b_q_choose 27 = .ok (.ireturn, 1) := by decide +kernel
theorem d_q_choose_28 : decode b_q_choose 28 = .ok (.aload_n 0, 1) := by decide +kernel
theorem d_q_choose_29 : decode b_q_choose 29 = .ok (.iconst 0, 1) := by decide +kernel
theorem d_q_choose_30 : decode b_q_choose 30 = .ok (.putfield 148, 3) := by decide +kernel
theorem d_q_choose_33 : decode b_q_choose 33 = .ok (.iload_n 1, 1) := by decide +kernel
theorem d_q_choose_34 : decode b_q_choose 34 = .ok (.ifCond .ne (10), 3) := by decide +kernel
theorem d_q_choose_37 : decode b_q_choose 37 = .ok (.aload_n 0, 1) := by decide +kernel
theorem d_q_choose_38 : decode b_q_choose 38 = .ok (.getfield 20, 3) := by decide +kernel
theorem d_q_choose_41 : decode b_q_choose 41 = .ok (.goto (7), 3) := by decide +kernel
theorem d_q_choose_44 : decode b_q_choose 44 = .ok (.aload_n 0, 1) := by decide +kernel
theorem d_q_choose_45 : decode b_q_choose 45 = .ok (.getfield 23, 3) := by decide +kernel
theorem d_q_choose_48 : decode b_q_choose 48 = .ok (.istore_n 3, 1) := by decide +kernel
theorem d_q_choose_49 : decode b_q_choose 49 = .ok (.iload_n 1, 1) := by decide +kernel
theorem d_q_choose_50 : decode b_q_choose 50 = .ok (.ifCond .ne (11), 3) := by decide +kernel
theorem d_q_choose_53 : decode b_q_choose 53 = .ok (.aload_n 0, 1) := by decide +kernel
theorem d_q_choose_54 : decode b_q_choose 54 = .ok (.iload_n 2, 1) := by decide +kernel
theorem d_q_choose_55 : decode b_q_choose 55 = .ok (.putfield 20, 3) := by decide +kernel
theorem d_q_choose_58 : decode b_q_choose 58 = .ok (.goto (8), 3) := by decide +kernel
theorem d_q_choose_61 : decode b_q_choose 61 = .ok (.aload_n 0, 1) := by decide +kernel
theorem d_q_choose_62 : decode b_q_choose 62 = .ok (.iload_n 2, 1) := by decide +kernel
theorem d_q_choose_63 : decode b_q_choose 63 = .ok (.putfield 23, 3) := by decide +kernel
theorem d_q_choose_66 : decode b_q_choose 66 = .ok (.iload_n 3, 1) := by decide +kernel
theorem d_q_choose_67 : decode b_q_choose 67 = .ok (.ireturn, 1) := by decide +kernel
theorem kb_q_choose {a0 : Nat} {a1 : Int32} {a2 : Int32} {w : WW} {r : (Int32 × WW)} (h : f_q_choose a0 a1 a2 w = some r) : kb w a0 9 = true := (its h).1
set_option maxHeartbeats 4000000 in
set_option maxRecDepth 100000 in
theorem j_q_choose_22 {p : Program} {l : Launch} {e : Env} {s : State} {m : MethodId} {args : Array Value} {below : List Frame} {meth : Method} {c : Code} {D : va_G} {cA : Nat → ClassId} {base : Nat} {r : Int32} {w' : WW} (C : cx b_q_choose (some .int) 4 y_q_choose.cls "choose" p s m args meth c D cA base)   : ∀ (y0 : Nat) (w : WW), f_q_choose_22 y0 w = some (r, w') → ∀ (H : Heap) (locs : List Loc) (ls : Array Slot), wo_S D cls cA base s w H locs → lv_has ls 4 [(0, .ref (base + y0))] → W p l e rm_q_choose s m args below meth c H locs 0 0 (MQ below (wo_Q D cls cA base (some (.int r)) w') args s rm_q_choose.cells rm_q_choose.slots (wo_B base)) (F0 m 22 ls []) := by
  obtain ⟨hx, hb, hr, hml, hown, hts, hlk, hnm, hK, hG⟩ := id C
  intro y0 w h H locs ls hW hl
  unfold f_q_choose_22 at h
  refine lv_aload_n hx hb d_q_choose_22 rfl (lv_at hl 0 rfl) ?_
  refine lv_iconst (v := (1 : Int32)) hx hb d_q_choose_23 (by decide) ?_
  replace h := bs2 h
  obtain ⟨x5, w4, hw4, h⟩ := h
  refine cv_q_159 (As := [.int (1 : Int32)]) (rest := []) hx hb hml hown hts hK hG hW (c_q_fail l D cA base hw4) (kb_q_fail hw4) ⟨Nat.le_of_ble_eq_true rfl, Nat.le_of_ble_eq_true rfl⟩ ⟨Nat.le_of_ble_eq_true rfl, Nat.le_of_ble_eq_true rfl⟩ rfl hl.1 rfl (Nat.le_of_ble_eq_true rfl) d_q_choose_24 (fun H locs hW => ?_)
  cases h
  exact wo_iret hx hb hr hlk hW d_q_choose_27
set_option maxHeartbeats 4000000 in
set_option maxRecDepth 100000 in
theorem j_q_choose_66 {p : Program} {l : Launch} {e : Env} {s : State} {m : MethodId} {args : Array Value} {below : List Frame} {meth : Method} {c : Code} {D : va_G} {cA : Nat → ClassId} {base : Nat} {r : Int32} {w' : WW} (C : cx b_q_choose (some .int) 4 y_q_choose.cls "choose" p s m args meth c D cA base)   : ∀ (y3 : Int32) (w : WW), f_q_choose_66 y3 w = some (r, w') → ∀ (H : Heap) (locs : List Loc) (ls : Array Slot), wo_S D cls cA base s w H locs → lv_has ls 4 [(3, .int y3)] → W p l e rm_q_choose s m args below meth c H locs 0 0 (MQ below (wo_Q D cls cA base (some (.int r)) w') args s rm_q_choose.cells rm_q_choose.slots (wo_B base)) (F0 m 66 ls []) := by
  obtain ⟨hx, hb, hr, hml, hown, hts, hlk, hnm, hK, hG⟩ := id C
  intro y3 w h H locs ls hW hl
  unfold f_q_choose_66 at h
  refine lv_iload_n hx hb d_q_choose_66 rfl (lv_at hl 0 rfl) ?_
  cases h
  exact wo_iret hx hb hr hlk hW d_q_choose_67
set_option maxHeartbeats 4000000 in
set_option maxRecDepth 100000 in
theorem j_q_choose_48 {p : Program} {l : Launch} {e : Env} {s : State} {m : MethodId} {args : Array Value} {below : List Frame} {meth : Method} {c : Code} {D : va_G} {cA : Nat → ClassId} {base : Nat} {r : Int32} {w' : WW} (C : cx b_q_choose (some .int) 4 y_q_choose.cls "choose" p s m args meth c D cA base)   : ∀ (y0 : Nat) (y1 : Int32) (y2 : Int32) (z0 : Int32) (w : WW), f_q_choose_48 y0 y1 y2 z0 w = some (r, w') → ∀ (H : Heap) (locs : List Loc) (ls : Array Slot), wo_S D cls cA base s w H locs → lv_has ls 4 [(0, .ref (base + y0)), (1, .int y1), (2, .int y2)] → W p l e rm_q_choose s m args below meth c H locs 0 0 (MQ below (wo_Q D cls cA base (some (.int r)) w') args s rm_q_choose.cells rm_q_choose.slots (wo_B base)) (F0 m 48 ls [.int z0]) := by
  obtain ⟨hx, hb, hr, hml, hown, hts, hlk, hnm, hK, hG⟩ := id C
  intro y0 y1 y2 z0 w h H locs ls hW hl
  unfold f_q_choose_48 at h
  refine lv_istore_n (lv' := [(3, .int z0), (0, .ref (base + y0)), (1, .int y1), (2, .int y2)]) hx hb d_q_choose_48 rfl hl (by decide) rfl (fun ls hl => ?_)
  refine lv_iload_n hx hb d_q_choose_49 rfl (lv_at hl 2 rfl) ?_
  refine lv_if_ne (tgt := 61) hx hb d_q_choose_50 (by decide) (fun c12 => ?_) (fun c12 => ?_)
  · rw [if_neg c12] at h
    refine lv_aload_n hx hb d_q_choose_61 rfl (lv_at hl 1 rfl) ?_
    refine lv_iload_n hx hb d_q_choose_62 rfl (lv_at hl 3 rfl) ?_
    replace h := bs h
    obtain ⟨w13, hw13, h⟩ := h
    refine pf_q_23 hx hb hts hown hK hG hW rfl rfl (pbi hw13 rfl) d_q_choose_63 (fun H locs hW => ?_)
    exact j_q_choose_66 C z0 w13 h _ _ _ hW (lv_sub hl [0] rfl)
  · rw [if_pos c12] at h
    refine lv_aload_n hx hb d_q_choose_53 rfl (lv_at hl 1 rfl) ?_
    refine lv_iload_n hx hb d_q_choose_54 rfl (lv_at hl 3 rfl) ?_
    replace h := bs h
    obtain ⟨w14, hw14, h⟩ := h
    refine pf_q_20 hx hb hts hown hK hG hW rfl rfl (pbi hw14 rfl) d_q_choose_55 (fun H locs hW => ?_)
    refine lv_goto (tgt := 66) hx hb d_q_choose_58 (by decide) ?_
    exact j_q_choose_66 C z0 w14 h _ _ _ hW (lv_sub hl [0] rfl)
set_option maxHeartbeats 4000000 in
set_option maxRecDepth 100000 in
theorem c_q_choose (l : Launch) (D : va_G) (cA : Nat → ClassId) (base : Nat) {a0 : Nat} {a1 : Int32} {a2 : Int32} {w w' : WW} {r : Int32} (h : f_q_choose a0 a1 a2 w = some (r, w')) : mt l D cls (wo_tys cA) cA base y_q_choose (Cond.code y_q_choose b_q_choose 4 (some .int) :: gt) rm_q_choose [.ref (base + a0), .int a1, .int a2] w (some (.int r)) w' rm_q_choose.cells rm_q_choose.slots := by
  refine mt_start (by decide) (Nat.le_of_ble_eq_true rfl) ?_
  intro p e s m below meth c ls hx hb hr hml hown hts hlk hnm hK hG hW hl
  have C : cx b_q_choose (some .int) 4 y_q_choose.cls "choose" p s m [.ref (base + a0), .int a1, .int a2].toArray meth c D cA base := ⟨hx, hb, hr, hml, hown, hts, hlk, hnm, hK, hG⟩
  have hl : lv_has ls 4 [(0, .ref (base + a0)), (1, .int a1), (2, .int a2)] := hl
  unfold f_q_choose at h
  replace h := its h
  obtain ⟨-, h⟩ := h
  refine lv_iload_n hx hb d_q_choose_0 rfl (lv_at hl 1 rfl) ?_
  refine lv_i2l hx hb d_q_choose_1 rfl ?_
  refine lv_lconst (v := (0 : Int64)) hx hb d_q_choose_2 (by decide) ?_
  refine lv_lconst (v := (1 : Int64)) hx hb d_q_choose_3 (by decide) ?_
  replace h := bs2 h
  obtain ⟨x2, w1, hw1, h⟩ := h
  refine cs_q_155 (As := [.long (Int32.toInt64 a1), .long (0 : Int64), .long (1 : Int64)]) (rest := []) hx hb hml hown hts hK hG hW (c_q_in l D cA base hw1) ⟨Nat.le_of_ble_eq_true rfl, Nat.le_of_ble_eq_true rfl⟩ ⟨Nat.le_of_ble_eq_true rfl, Nat.le_of_ble_eq_true rfl⟩ rfl hl.1 rfl (Nat.le_of_ble_eq_true rfl) d_q_choose_4 (fun H locs hW => ?_)
  refine lv_if_eq (tgt := 22) hx hb d_q_choose_7 (by decide) (fun c3 => ?_) (fun c3 => ?_)
  · rw [if_pos c3] at h
    exact j_q_choose_22 C a0 w1 h _ _ _ hW (lv_sub hl [0] rfl)
  · rw [if_neg c3] at h
    refine lv_iload_n hx hb d_q_choose_10 rfl (lv_at hl 2 rfl) ?_
    refine lv_i2l hx hb d_q_choose_11 rfl ?_
    refine lv_lconst (v := (0 : Int64)) hx hb d_q_choose_12 (by decide) ?_
    refine lv_ldc2 (own := Rc_q) (v := (5 : Int64)) hx hb hown (hts (.constantLong "AlarmForgeModel" 326 (5 : Int64)) (gt_of (i := 1522) (by decide +kernel) (by decide +kernel))) d_q_choose_13 ?_
    replace h := bs2 h
    obtain ⟨x7, w6, hw6, h⟩ := h
    refine cs_q_155 (As := [.long (Int32.toInt64 a2), .long (0 : Int64), .long (5 : Int64)]) (rest := []) hx hb hml hown hts hK hG hW (c_q_in l D cA base hw6) ⟨Nat.le_of_ble_eq_true rfl, Nat.le_of_ble_eq_true rfl⟩ ⟨Nat.le_of_ble_eq_true rfl, Nat.le_of_ble_eq_true rfl⟩ rfl hl.1 rfl (Nat.le_of_ble_eq_true rfl) d_q_choose_16 (fun H locs hW => ?_)
    refine lv_if_ne (tgt := 28) hx hb d_q_choose_19 (by decide) (fun c8 => ?_) (fun c8 => ?_)
    · rw [if_neg c8] at h
      refine lv_aload_n hx hb d_q_choose_28 rfl (lv_at hl 0 rfl) ?_
      refine lv_iconst (v := (0 : Int32)) hx hb d_q_choose_29 (by decide) ?_
      replace h := bs h
      obtain ⟨w9, hw9, h⟩ := h
      refine pf_q_148 hx hb hts hown hK hG hW rfl rfl (pbi hw9 rfl) d_q_choose_30 (fun H locs hW => ?_)
      refine lv_iload_n hx hb d_q_choose_33 rfl (lv_at hl 1 rfl) ?_
      refine lv_if_ne (tgt := 44) hx hb d_q_choose_34 (by decide) (fun c10 => ?_) (fun c10 => ?_)
      · rw [if_neg c10] at h
        refine lv_aload_n hx hb d_q_choose_44 rfl (lv_at hl 0 rfl) ?_
        replace h := bs h
        obtain ⟨x11, hx11, h⟩ := h
        refine gf_q_23 hx hb hts hown hK hG hW (gI_s hx11) d_q_choose_45 ?_
        exact j_q_choose_48 C a0 a1 a2 x11 w9 h _ _ _ hW (lv_sub hl [0, 1, 2] rfl)
      · rw [if_pos c10] at h
        refine lv_aload_n hx hb d_q_choose_37 rfl (lv_at hl 0 rfl) ?_
        replace h := bs h
        obtain ⟨x15, hx15, h⟩ := h
        refine gf_q_20 hx hb hts hown hK hG hW (gI_s hx15) d_q_choose_38 ?_
        refine lv_goto (tgt := 48) hx hb d_q_choose_41 (by decide) ?_
        exact j_q_choose_48 C a0 a1 a2 x15 w9 h _ _ _ hW (lv_sub hl [0, 1, 2] rfl)
    · rw [if_pos c8] at h
      exact j_q_choose_22 C a0 w6 h _ _ _ hW (lv_sub hl [0] rfl)
abbrev b_q_input : ByteArray := prog_11_method_39_code
def y_q_input : MethodName := ⟨"AlarmForgeModel", "input", "(I)I"⟩
def rm_q_input : Room := { frames := 1, cells := 0, slots := 0, locals := 21 }
theorem d_q_input_0 : decode b_q_input 0 = .ok (.aload_n 0, 1) := by decide +kernel
theorem d_q_input_1 : decode b_q_input 1 = .ok (.getfield 328, 3) := by decide +kernel
theorem d_q_input_4 : decode b_q_input 4 = .ok (.bipush (8), 2) := by decide +kernel
theorem d_q_input_6 : decode b_q_input 6 = .ok (.if_icmp .ne (9), 3) := by decide +kernel
theorem d_q_input_9 : decode b_q_input 9 = .ok (.aload_n 0, 1) := by decide +kernel
theorem d_q_input_10 : decode b_q_input 10 = .ok (.iconst 1, 1) := by decide +kernel
theorem d_q_input_11 : decode b_q_input 11 = .ok (.invokevirtual 159, 3) := by decide +kernel
theorem d_q_input_14 : decode b_q_input 14 = .ok (.ireturn, 1) := by decide +kernel
theorem d_q_input_15 : decode b_q_input 15 = .ok (.aload_n 0, 1) := by decide +kernel
theorem d_q_input_16 : decode b_q_input 16 = .ok (.iconst 0, 1) := by decide +kernel
theorem d_q_input_17 : decode b_q_input 17 = .ok (.putfield 148, 3) := by decide +kernel
theorem d_q_input_20 : decode b_q_input 20 = .ok (.aload_n 0, 1) := by decide +kernel
theorem d_q_input_21 : decode b_q_input 21 = .ok (.getfield 13, 3) := by decide +kernel
theorem d_q_input_24 : decode b_q_input 24 = .ok (.aload_n 0, 1) := by decide +kernel
theorem d_q_input_25 : decode b_q_input 25 = .ok (.getfield 328, 3) := by decide +kernel
theorem d_q_input_28 : decode b_q_input 28 = .ok (.iload_n 1, 1) := by decide +kernel
theorem d_q_input_29 : decode b_q_input 29 = .ok (.iastore, 1) := by decide +kernel
theorem d_q_input_30 : decode b_q_input 30 = .ok (.aload_n 0, 1) := by decide +kernel
theorem d_q_input_31 : decode b_q_input 31 = .ok (.dup, 1) := by decide +kernel
theorem d_q_input_32 : decode b_q_input 32 = .ok (.getfield 328, 3) := by decide +kernel
theorem d_q_input_35 : decode b_q_input 35 = .ok (.iconst 1, 1) := by decide +kernel
theorem d_q_input_36 : decode b_q_input 36 = .ok (.iadd, 1) := by decide +kernel
theorem d_q_input_37 : decode b_q_input 37 = .ok (.putfield 328, 3) := by decide +kernel
theorem d_q_input_40 : decode b_q_input 40 = .ok (.aload_n 0, 1) := by decide +kernel
theorem d_q_input_41 : decode b_q_input 41 = .ok (.getfield 328, 3) := by decide +kernel
theorem d_q_input_44 : decode b_q_input 44 = .ok (.ireturn, 1) := by decide +kernel
theorem kb_q_input {a0 : Nat} {a1 : Int32} {w : WW} {r : (Int32 × WW)} (h : f_q_input a0 a1 w = some r) : kb w a0 9 = true := (its h).1
set_option maxHeartbeats 4000000 in
set_option maxRecDepth 100000 in
theorem c_q_input (l : Launch) (D : va_G) (cA : Nat → ClassId) (base : Nat) {a0 : Nat} {a1 : Int32} {w w' : WW} {r : Int32} (h : f_q_input a0 a1 w = some (r, w')) : mt l D cls (wo_tys cA) cA base y_q_input (Cond.code y_q_input b_q_input 2 (some .int) :: gt) rm_q_input [.ref (base + a0), .int a1] w (some (.int r)) w' rm_q_input.cells rm_q_input.slots := by
  refine mt_start (by decide) (Nat.le_of_ble_eq_true rfl) ?_
  intro p e s m below meth c ls hx hb hr hml hown hts hlk hnm hK hG hW hl
  have C : cx b_q_input (some .int) 2 y_q_input.cls "input" p s m [.ref (base + a0), .int a1].toArray meth c D cA base := ⟨hx, hb, hr, hml, hown, hts, hlk, hnm, hK, hG⟩
  have hl : lv_has ls 2 [(0, .ref (base + a0)), (1, .int a1)] := hl
  unfold f_q_input at h
  replace h := its h
  obtain ⟨-, h⟩ := h
  refine lv_aload_n hx hb d_q_input_0 rfl (lv_at hl 0 rfl) ?_
  replace h := bs h
  obtain ⟨x1, hx1, h⟩ := h
  refine gf_q_328 hx hb hts hown hK hG hW (gI_s hx1) d_q_input_1 ?_
  refine lv_bipush (v := (8 : Int32)) hx hb d_q_input_4 (by decide) ?_
  refine lv_icmp_ne (tgt := 15) hx hb d_q_input_6 (by decide) (fun c2 => ?_) (fun c2 => ?_)
  · rw [if_neg c2] at h
    refine lv_aload_n hx hb d_q_input_15 rfl (lv_at hl 0 rfl) ?_
    refine lv_iconst (v := (0 : Int32)) hx hb d_q_input_16 (by decide) ?_
    replace h := bs h
    obtain ⟨w3, hw3, h⟩ := h
    refine pf_q_148 hx hb hts hown hK hG hW rfl rfl (pbi hw3 rfl) d_q_input_17 (fun H locs hW => ?_)
    refine lv_aload_n hx hb d_q_input_20 rfl (lv_at hl 0 rfl) ?_
    replace h := bs h
    obtain ⟨x4, hx4, h⟩ := h
    refine gf_q_13 hx hb hts hown hK hG hW (gN_s hx4) d_q_input_21 ?_
    refine lv_aload_n hx hb d_q_input_24 rfl (lv_at hl 0 rfl) ?_
    replace h := bs h
    obtain ⟨x5, hx5, h⟩ := h
    refine gf_q_328 hx hb hts hown hK hG hW (gI_s hx5) d_q_input_25 ?_
    refine lv_iload_n hx hb d_q_input_28 rfl (lv_at hl 1 rfl) ?_
    replace h := bs h
    obtain ⟨w6, hw6, h⟩ := h
    refine wo_iast hx hb hK hW (t := 0) rfl hw6 d_q_input_29 (fun H locs hW => ?_)
    refine lv_aload_n hx hb d_q_input_30 rfl (lv_at hl 0 rfl) ?_
    refine lv_dup hx hb d_q_input_31 rfl ?_
    replace h := bs h
    obtain ⟨x7, hx7, h⟩ := h
    refine gf_q_328 hx hb hts hown hK hG hW (gI_s hx7) d_q_input_32 ?_
    refine lv_iconst (v := (1 : Int32)) hx hb d_q_input_35 (by decide) ?_
    refine lv_iadd hx hb d_q_input_36 ?_
    replace h := bs h
    obtain ⟨w8, hw8, h⟩ := h
    refine pf_q_328 hx hb hts hown hK hG hW rfl rfl (pbi hw8 rfl) d_q_input_37 (fun H locs hW => ?_)
    refine lv_aload_n hx hb d_q_input_40 rfl (lv_at hl 0 rfl) ?_
    replace h := bs h
    obtain ⟨x9, hx9, h⟩ := h
    refine gf_q_328 hx hb hts hown hK hG hW (gI_s hx9) d_q_input_41 ?_
    cases h
    exact wo_iret hx hb hr hlk hW d_q_input_44
  · rw [if_pos c2] at h
    refine lv_aload_n hx hb d_q_input_9 rfl (lv_at hl 0 rfl) ?_
    refine lv_iconst (v := (1 : Int32)) hx hb d_q_input_10 (by decide) ?_
    replace h := bs2 h
    obtain ⟨x11, w10, hw10, h⟩ := h
    refine cv_q_159 (As := [.int (1 : Int32)]) (rest := []) hx hb hml hown hts hK hG hW (c_q_fail l D cA base hw10) (kb_q_fail hw10) ⟨Nat.le_of_ble_eq_true rfl, Nat.le_of_ble_eq_true rfl⟩ ⟨Nat.le_of_ble_eq_true rfl, Nat.le_of_ble_eq_true rfl⟩ rfl hl.1 rfl (Nat.le_of_ble_eq_true rfl) d_q_input_11 (fun H locs hW => ?_)
    cases h
    exact wo_iret hx hb hr hlk hW d_q_input_14
abbrev b_q_forget : ByteArray := prog_11_method_40_code
def y_q_forget : MethodName := ⟨"AlarmForgeModel", "forget", "()I"⟩
def rm_q_forget : Room := { frames := 0, cells := 0, slots := 0, locals := 0 }
theorem d_q_forget_0 : decode b_q_forget 0 = .ok (.aload_n 0, 1) := by decide +kernel
theorem d_q_forget_1 : decode b_q_forget 1 = .ok (.iconst 0, 1) := by decide +kernel
theorem d_q_forget_2 : decode b_q_forget 2 = .ok (.putfield 148, 3) := by decide +kernel
theorem d_q_forget_5 : decode b_q_forget 5 = .ok (.aload_n 0, 1) := by decide +kernel
theorem d_q_forget_6 : decode b_q_forget 6 = .ok (.getfield 328, 3) := by decide +kernel
theorem d_q_forget_9 : decode b_q_forget 9 = .ok (.istore_n 1, 1) := by decide +kernel
theorem d_q_forget_10 : decode b_q_forget 10 = .ok (.aload_n 0, 1) := by decide +kernel
theorem d_q_forget_11 : decode b_q_forget 11 = .ok (.iconst 0, 1) := by decide +kernel
theorem d_q_forget_12 : decode b_q_forget 12 = .ok (.putfield 328, 3) := by decide +kernel
theorem d_q_forget_15 : decode b_q_forget 15 = .ok (.iload_n 1, 1) := by decide +kernel
theorem d_q_forget_16 : decode b_q_forget 16 = .ok (.ireturn, 1) := by decide +kernel
theorem kb_q_forget {a0 : Nat}  {w : WW} {r : (Int32 × WW)} (h : f_q_forget a0 w = some r) : kb w a0 9 = true := (its h).1
set_option maxHeartbeats 4000000 in
set_option maxRecDepth 100000 in
theorem c_q_forget (l : Launch) (D : va_G) (cA : Nat → ClassId) (base : Nat) {a0 : Nat} {w w' : WW} {r : Int32} (h : f_q_forget a0 w = some (r, w')) : mt l D cls (wo_tys cA) cA base y_q_forget (Cond.code y_q_forget b_q_forget 2 (some .int) :: gt) rm_q_forget [.ref (base + a0)] w (some (.int r)) w' rm_q_forget.cells rm_q_forget.slots := by
  refine mt_start (by decide) (Nat.le_of_ble_eq_true rfl) ?_
  intro p e s m below meth c ls hx hb hr hml hown hts hlk hnm hK hG hW hl
  have C : cx b_q_forget (some .int) 2 y_q_forget.cls "forget" p s m [.ref (base + a0)].toArray meth c D cA base := ⟨hx, hb, hr, hml, hown, hts, hlk, hnm, hK, hG⟩
  have hl : lv_has ls 2 [(0, .ref (base + a0))] := hl
  unfold f_q_forget at h
  replace h := its h
  obtain ⟨-, h⟩ := h
  refine lv_aload_n hx hb d_q_forget_0 rfl (lv_at hl 0 rfl) ?_
  refine lv_iconst (v := (0 : Int32)) hx hb d_q_forget_1 (by decide) ?_
  replace h := bs h
  obtain ⟨w1, hw1, h⟩ := h
  refine pf_q_148 hx hb hts hown hK hG hW rfl rfl (pbi hw1 rfl) d_q_forget_2 (fun H locs hW => ?_)
  refine lv_aload_n hx hb d_q_forget_5 rfl (lv_at hl 0 rfl) ?_
  replace h := bs h
  obtain ⟨x2, hx2, h⟩ := h
  refine gf_q_328 hx hb hts hown hK hG hW (gI_s hx2) d_q_forget_6 ?_
  refine lv_istore_n (lv' := [(1, .int x2), (0, .ref (base + a0))]) hx hb d_q_forget_9 rfl hl (by decide) rfl (fun ls hl => ?_)
  refine lv_aload_n hx hb d_q_forget_10 rfl (lv_at hl 1 rfl) ?_
  refine lv_iconst (v := (0 : Int32)) hx hb d_q_forget_11 (by decide) ?_
  replace h := bs h
  obtain ⟨w3, hw3, h⟩ := h
  refine pf_q_328 hx hb hts hown hK hG hW rfl rfl (pbi hw3 rfl) d_q_forget_12 (fun H locs hW => ?_)
  refine lv_iload_n hx hb d_q_forget_15 rfl (lv_at hl 0 rfl) ?_
  cases h
  exact wo_iret hx hb hr hlk hW d_q_forget_16
abbrev b_q_stop : ByteArray := prog_11_method_41_code
def y_q_stop : MethodName := ⟨"AlarmForgeModel", "stop", "(II)Z"⟩
def rm_q_stop : Room := { frames := 0, cells := 0, slots := 0, locals := 0 }
theorem d_q_stop_0 : decode b_q_stop 0 = .ok (.aload_n 0, 1) := by decide +kernel
theorem d_q_stop_1 : decode b_q_stop 1 = .ok (.sipush (1024), 3) := by decide +kernel
theorem d_q_stop_4 : decode b_q_stop 4 = .ok (.iload_n 1, 1) := by decide +kernel
theorem d_q_stop_5 : decode b_q_stop 5 = .ok (.imul, 1) := by decide +kernel
theorem d_q_stop_6 : decode b_q_stop 6 = .ok (.iload_n 2, 1) := by decide +kernel
theorem d_q_stop_7 : decode b_q_stop 7 = .ok (.iadd, 1) := by decide +kernel
theorem d_q_stop_8 : decode b_q_stop 8 = .ok (.putfield 331, 3) := by decide +kernel
theorem d_q_stop_11 : decode b_q_stop 11 = .ok (.iconst 0, 1) := by decide +kernel
theorem d_q_stop_12 : decode b_q_stop 12 = .ok (.ireturn, 1) := by decide +kernel
theorem kb_q_stop {a0 : Nat} {a1 : Int32} {a2 : Int32} {w : WW} {r : (Int32 × WW)} (h : f_q_stop a0 a1 a2 w = some r) : kb w a0 9 = true := (its h).1
set_option maxHeartbeats 4000000 in
set_option maxRecDepth 100000 in
theorem c_q_stop (l : Launch) (D : va_G) (cA : Nat → ClassId) (base : Nat) {a0 : Nat} {a1 : Int32} {a2 : Int32} {w w' : WW} {r : Int32} (h : f_q_stop a0 a1 a2 w = some (r, w')) : mt l D cls (wo_tys cA) cA base y_q_stop (Cond.code y_q_stop b_q_stop 3 (some .boolean) :: gt) rm_q_stop [.ref (base + a0), .int a1, .int a2] w (some (.int r)) w' rm_q_stop.cells rm_q_stop.slots := by
  refine mt_start (by decide) (Nat.le_of_ble_eq_true rfl) ?_
  intro p e s m below meth c ls hx hb hr hml hown hts hlk hnm hK hG hW hl
  have C : cx b_q_stop (some .boolean) 3 y_q_stop.cls "stop" p s m [.ref (base + a0), .int a1, .int a2].toArray meth c D cA base := ⟨hx, hb, hr, hml, hown, hts, hlk, hnm, hK, hG⟩
  have hl : lv_has ls 3 [(0, .ref (base + a0)), (1, .int a1), (2, .int a2)] := hl
  unfold f_q_stop at h
  replace h := its h
  obtain ⟨-, h⟩ := h
  refine lv_aload_n hx hb d_q_stop_0 rfl (lv_at hl 0 rfl) ?_
  refine lv_sipush (v := (1024 : Int32)) hx hb d_q_stop_1 (by decide) ?_
  refine lv_iload_n hx hb d_q_stop_4 rfl (lv_at hl 1 rfl) ?_
  refine lv_imul hx hb d_q_stop_5 ?_
  refine lv_iload_n hx hb d_q_stop_6 rfl (lv_at hl 2 rfl) ?_
  refine lv_iadd hx hb d_q_stop_7 ?_
  replace h := bs h
  obtain ⟨w1, hw1, h⟩ := h
  refine pf_q_331 hx hb hts hown hK hG hW rfl rfl (pbi hw1 rfl) d_q_stop_8 (fun H locs hW => ?_)
  refine lv_iconst (v := (0 : Int32)) hx hb d_q_stop_11 (by decide) ?_
  replace h := its h
  obtain ⟨c2, h⟩ := h
  cases h
  exact wo_zret hx hb hr hlk hW c2 d_q_stop_12
theorem cv_q_334 {p : Program} {l : Launch} {e : Env} {R : Room} {s : State} {m : MethodId} {args : Array Value} {below : List Frame} {meth : Method} {c : Code} {H : Heap} {locs : List Loc} {cells slots : Nat} {Q : State → Prop} {D : va_G} {cA : Nat → ClassId} {base : Nat} {w w' : WW} {cc : ByteArray} {pc nL : Nat} {ls : Array Slot} {rest st0 As : List Value} {ov : Option Value} {b : Nat} (hx : p.tables.exec = Jvm.exec) (hb : c.code = cc) (hml : c.maxLocals = nL) (hown : s.vm.findClass Rc_q = some m.cls) (hts : ∀ w ∈ gt, w.before args s = true) (hK : va_K D cls (wo_tys cA) s) (hG : wo_G cA base s) (hW : wo_S D cls cA base s w H locs) (hM : mt l D cls (wo_tys cA) cA base y_q_stop (Cond.code y_q_stop b_q_stop 3 (some .boolean) :: gt) rm_q_stop (.ref (base + b) :: As) w ov w' rm_q_stop.cells rm_q_stop.slots) (hkb : kb w b 9 = true) (hR : rm_q_stop.frames + 1 ≤ R.frames ∧ 8 + (3 + 11) + rm_q_stop.locals ≤ R.locals) (hf : cells + rm_q_stop.cells ≤ R.cells ∧ slots + rm_q_stop.slots ≤ R.slots) (hn : As.length = 2) (hsz : ls.size = nL) (hst : st0 = As.reverse ++ .ref (base + b) :: rest) (hcat : (rest.map fun v => v.category).sum ≤ 8) (hdg : decode cc pc = .ok (.invokevirtual 334, 3)) (kk : ∀ (H1 : Heap) (locs1 : List Loc), wo_S D cls cA base s w' H1 locs1 → W p l e R s m args below meth c H1 locs1 (cells + rm_q_stop.cells) (slots + rm_q_stop.slots) Q (F0 m (pc + 3) ls (ov.toList ++ rest))) : W p l e R s m args below meth c H locs cells slots Q (F0 m pc ls st0) :=
  wo_callV (C := Rc_q) hx hb hml hown hts hK hG hW hM hkb rfl (gt_of (i := 1548) (by decide +kernel) (by decide +kernel)) (gt_of (i := 1550) (by decide +kernel) (by decide +kernel)) (gt_sel (i := 85) (by decide +kernel) (by decide +kernel)) (gt_of (i := 10) (by decide +kernel) (by decide +kernel)) (gt_of (i := 1551) (by decide +kernel) (by decide +kernel)) (by decide +kernel) hR hf hn hsz hst hcat hdg kk
abbrev b_q_work : ByteArray := prog_11_method_42_code
def y_q_work : MethodName := ⟨"AlarmForgeModel", "work", "(II)Z"⟩
def rm_q_work : Room := { frames := 1, cells := 0, slots := 0, locals := 25 }
theorem d_q_work_0 : decode b_q_work 0 = .ok (.iconst 0, 1) := by decide +kernel
theorem d_q_work_1 : decode b_q_work 1 = .ok (.istore_n 3, 1) := by decide +kernel
theorem d_q_work_2 : decode b_q_work 2 = .ok (.iload_n 1, 1) := by decide +kernel
theorem d_q_work_3 : decode b_q_work 3 = .ok (.istore 4, 2) := by decide +kernel
theorem d_q_work_5 : decode b_q_work 5 = .ok (.iload 4, 2) := by decide +kernel
theorem d_q_work_7 : decode b_q_work 7 = .ok (.iload_n 2, 1) := by decide +kernel
theorem d_q_work_8 : decode b_q_work 8 = .ok (.if_icmp .ge (343), 3) := by decide +kernel
theorem d_q_work_11 : decode b_q_work 11 = .ok (.aload_n 0, 1) := by decide +kernel
theorem d_q_work_12 : decode b_q_work 12 = .ok (.getfield 72, 3) := by decide +kernel
theorem d_q_work_15 : decode b_q_work 15 = .ok (.iload 4, 2) := by decide +kernel
theorem d_q_work_17 : decode b_q_work 17 = .ok (.iaload, 1) := by decide +kernel
theorem d_q_work_18 : decode b_q_work 18 = .ok (.istore 5, 2) := by decide +kernel
theorem d_q_work_20 : decode b_q_work 20 = .ok (.aload_n 0, 1) := by decide +kernel
theorem d_q_work_21 : decode b_q_work 21 = .ok (.getfield 75, 3) := by decide +kernel
theorem d_q_work_24 : decode b_q_work 24 = .ok (.iload 4, 2) := by decide +kernel
theorem d_q_work_26 : decode b_q_work 26 = .ok (.iaload, 1) := by decide +kernel
theorem d_q_work_27 : decode b_q_work 27 = .ok (.istore 6, 2) := by decide +kernel
theorem d_q_work_29 : decode b_q_work 29 = .ok (.iload 5, 2) := by decide +kernel
theorem d_q_work_31 : decode b_q_work 31 = .ok (.iconst 1, 1) := by decide +kernel
theorem d_q_work_32 : decode b_q_work 32 = .ok (.if_icmp .ne (17), 3) := by decide +kernel
theorem d_q_work_35 : decode b_q_work 35 = .ok (.aload_n 0, 1) := by decide +kernel
theorem d_q_work_36 : decode b_q_work 36 = .ok (.getfield 108, 3) := by decide +kernel
theorem d_q_work_39 : decode b_q_work 39 = .ok (.iload_n 3, 1) := by decide +kernel
theorem d_q_work_40 : decode b_q_work 40 = .ok (.iinc 3 (1), 3) := by decide +kernel
theorem d_q_work_43 : decode b_q_work 43 = .ok (.iload 6, 2) := by decide +kernel
theorem d_q_work_45 : decode b_q_work 45 = .ok (.iastore, 1) := by decide +kernel
theorem d_q_work_46 : decode b_q_work 46 = .ok (.goto (299), 3) := by decide +kernel
theorem d_q_work_49 : decode b_q_work 49 = .ok (.iload 5, 2) := by decide +kernel
theorem d_q_work_51 : decode b_q_work 51 = .ok (.iconst 2, 1) := by decide +kernel
theorem d_q_work_52 : decode b_q_work 52 = .ok (.if_icmp .ne (45), 3) := by decide +kernel
theorem d_q_work_55 : decode b_q_work 55 = .ok (.aload_n 0, 1) := by decide +kernel
theorem d_q_work_56 : decode b_q_work 56 = .ok (.getfield 114, 3) := by decide +kernel
theorem d_q_work_59 : decode b_q_work 59 = .ok (.iload 6, 2) := by decide +kernel
theorem d_q_work_61 : decode b_q_work 61 = .ok (.baload, 1) := by decide +kernel
theorem d_q_work_62 : decode b_q_work 62 = .ok (.ifCond .ne (16), 3) := by decide +kernel
theorem d_q_work_65 : decode b_q_work 65 = .ok (.aload_n 0, 1) := by decide +kernel
theorem d_q_work_66 : decode b_q_work 66 = .ok (.iconst 1, 1) := by decide +kernel
theorem d_q_work_67 : decode b_q_work 67 = .ok (.aload_n 0, 1) := by decide +kernel
theorem d_q_work_68 : decode b_q_work 68 = .ok (.getfield 78, 3) := by decide +kernel
theorem d_q_work_71 : decode b_q_work 71 = .ok (.iload 4, 2) := by decide +kernel
theorem d_q_work_73 : decode b_q_work 73 = .ok (.iaload, 1) := by decide +kernel
theorem d_q_work_74 : decode b_q_work 74 = .ok (.invokevirtual 334, 3) := by decide +kernel
theorem d_q_work_77 : decode b_q_work 77 = .ok (.ireturn, 1) := by decide +kernel
theorem d_q_work_78 : decode b_q_work 78 = .ok (.aload_n 0, 1) := by decide +kernel
theorem d_q_work_79 : decode b_q_work 79 = .ok (.getfield 108, 3) := by decide +kernel
theorem d_q_work_82 : decode b_q_work 82 = .ok (.iload_n 3, 1) := by decide +kernel
theorem d_q_work_83 : decode b_q_work 83 = .ok (.iinc 3 (1), 3) := by decide +kernel
theorem d_q_work_86 : decode b_q_work 86 = .ok (.aload_n 0, 1) := by decide +kernel
theorem d_q_work_87 : decode b_q_work 87 = .ok (.getfield 102, 3) := by decide +kernel
theorem d_q_work_90 : decode b_q_work 90 = .ok (.iload 6, 2) := by decide +kernel
theorem d_q_work_92 : decode b_q_work 92 = .ok (.iaload, 1) := by decide +kernel
theorem d_q_work_93 : decode b_q_work 93 = .ok (.iastore, 1) := by decide +kernel
theorem d_q_work_94 : decode b_q_work 94 = .ok (.goto (251), 3) := by decide +kernel
theorem d_q_work_97 : decode b_q_work 97 = .ok (.iload 5, 2) := by decide +kernel
theorem d_q_work_99 : decode b_q_work 99 = .ok (.iconst 3, 1) := by decide +kernel
theorem d_q_work_100 : decode b_q_work 100 = .ok (.if_icmp .ne (64), 3) := by decide +kernel
theorem d_q_work_103 : decode b_q_work 103 = .ok (.aload_n 0, 1) := by decide +kernel
theorem d_q_work_104 : decode b_q_work 104 = .ok (.getfield 108, 3) := by decide +kernel
theorem d_q_work_107 : decode b_q_work 107 = .ok (.iload_n 3, 1) := by decide +kernel
theorem d_q_work_108 : decode b_q_work 108 = .ok (.iconst 1, 1) := by decide +kernel
theorem d_q_work_109 : decode b_q_work 109 = .ok (.isub, 1) := by decide +kernel
theorem d_q_work_110 : decode b_q_work 110 = .ok (.iaload, 1) := by decide +kernel
theorem d_q_work_111 : decode b_q_work 111 = .ok (.i2l, 1) := by decide +kernel
theorem d_q_work_112 : decode b_q_work 112 = .ok (.lconst 0, 1) := by decide +kernel
theorem d_q_work_113 : decode b_q_work 113 = .ok (.ldc2_w 338, 3) := by decide +kernel
theorem d_q_work_116 : decode b_q_work 116 = .ok (.invokestatic 155, 3) := by decide +kernel
theorem d_q_work_119 : decode b_q_work 119 = .ok (.ifCond .ne (16), 3) := by decide +kernel
theorem d_q_work_122 : decode b_q_work 122 = .ok (.aload_n 0, 1) := by decide +kernel
theorem d_q_work_123 : decode b_q_work 123 = .ok (.iconst 2, 1) := by decide +kernel
theorem d_q_work_124 : decode b_q_work 124 = .ok (.aload_n 0, 1) := by decide +kernel
theorem d_q_work_125 : decode b_q_work 125 = .ok (.getfield 78, 3) := by decide +kernel
theorem d_q_work_128 : decode b_q_work 128 = .ok (.iload 4, 2) := by decide +kernel
theorem d_q_work_130 : decode b_q_work 130 = .ok (.iaload, 1) := by decide +kernel
theorem d_q_work_131 : decode b_q_work 131 = .ok (.invokevirtual 334, 3) := by decide +kernel
theorem d_q_work_134 : decode b_q_work 134 = .ok (.ireturn, 1) := by decide +kernel
theorem d_q_work_135 : decode b_q_work 135 = .ok (.aload_n 0, 1) := by decide +kernel
theorem d_q_work_136 : decode b_q_work 136 = .ok (.getfield 108, 3) := by decide +kernel
theorem d_q_work_139 : decode b_q_work 139 = .ok (.iload_n 3, 1) := by decide +kernel
theorem d_q_work_140 : decode b_q_work 140 = .ok (.iconst 1, 1) := by decide +kernel
theorem d_q_work_141 : decode b_q_work 141 = .ok (.isub, 1) := by decide +kernel
theorem d_q_work_142 : decode b_q_work 142 = .ok (.aload_n 0, 1) := by decide +kernel
theorem d_q_work_143 : decode b_q_work 143 = .ok (.getfield 105, 3) := by decide +kernel
theorem d_q_work_146 : decode b_q_work 146 = .ok (.iconst 4, 1) := by decide +kernel
theorem d_q_work_147 : decode b_q_work 147 = .ok (.iload 6, 2) := by decide +kernel
theorem d_q_work_149 : decode b_q_work 149 = .ok (.imul, 1) := by decide +kernel
theorem d_q_work_150 : decode b_q_work 150 = .ok (.aload_n 0, 1) := by decide +kernel
theorem d_q_work_151 : decode b_q_work 151 = .ok (.getfield 108, 3) := by decide +kernel
theorem d_q_work_154 : decode b_q_work 154 = .ok (.iload_n 3, 1) := by decide +kernel
theorem d_q_work_155 : decode b_q_work 155 = .ok (.iconst 1, 1) := by decide +kernel
theorem d_q_work_156 : decode b_q_work 156 = .ok (.isub, 1) := by decide +kernel
theorem d_q_work_157 : decode b_q_work 157 = .ok (.iaload, 1) := by decide +kernel
theorem d_q_work_158 : decode b_q_work 158 = .ok (.iadd, 1) := by decide +kernel
theorem d_q_work_159 : decode b_q_work 159 = .ok (.iaload, 1) := by decide +kernel
theorem d_q_work_160 : decode b_q_work 160 = .ok (.iastore, 1) := by decide +kernel
theorem d_q_work_161 : decode b_q_work 161 = .ok (.goto (184), 3) := by decide +kernel
theorem d_q_work_164 : decode b_q_work 164 = .ok (.aload_n 0, 1) := by decide +kernel
theorem d_q_work_165 : decode b_q_work 165 = .ok (.getfield 108, 3) := by decide +kernel
theorem d_q_work_168 : decode b_q_work 168 = .ok (.iload_n 3, 1) := by decide +kernel
theorem d_q_work_169 : decode b_q_work 169 = .ok (.iconst 1, 1) := by decide +kernel
theorem d_q_work_170 : decode b_q_work 170 = .ok (.isub, 1) := by decide +kernel
theorem d_q_work_171 : decode b_q_work 171 = .ok (.iaload, 1) := by decide +kernel
theorem d_q_work_172 : decode b_q_work 172 = .ok (.i2l, 1) := by decide +kernel
theorem d_q_work_173 : decode b_q_work 173 = .ok (.lstore 7, 2) := by decide +kernel
theorem d_q_work_175 : decode b_q_work 175 = .ok (.iload 5, 2) := by decide +kernel
theorem d_q_work_177 : decode b_q_work 177 = .ok (.iconst 4, 1) := by decide +kernel
theorem d_q_work_178 : decode b_q_work 178 = .ok (.if_icmp .ne (7), 3) := by decide +kernel
theorem d_q_work_181 : decode b_q_work 181 = .ok (.lconst 0, 1) := by decide +kernel
theorem d_q_work_182 : decode b_q_work 182 = .ok (.goto (12), 3) := by decide +kernel
theorem d_q_work_185 : decode b_q_work 185 = .ok (.aload_n 0, 1) := by decide +kernel
theorem d_q_work_186 : decode b_q_work 186 = .ok (.getfield 108, 3) := by decide +kernel
theorem d_q_work_189 : decode b_q_work 189 = .ok (.iload_n 3, 1) := by decide +kernel
theorem d_q_work_190 : decode b_q_work 190 = .ok (.iconst 2, 1) := by decide +kernel
theorem d_q_work_191 : decode b_q_work 191 = .ok (.isub, 1) := by decide +kernel
theorem d_q_work_192 : decode b_q_work 192 = .ok (.iaload, 1) := by decide +kernel
theorem d_q_work_193 : decode b_q_work 193 = .ok (.i2l, 1) := by decide +kernel
theorem d_q_work_194 : decode b_q_work 194 = .ok (.lstore 9, 2) := by decide +kernel
theorem d_q_work_196 : decode b_q_work 196 = .ok (.lconst 0, 1) := by decide +kernel
theorem d_q_work_197 : decode b_q_work 197 = .ok (.lstore 11, 2) := by decide +kernel
theorem d_q_work_199 : decode b_q_work 199 = .ok (.iload 5, 2) := by decide +kernel
theorem d_q_work_201 : decode b_q_work 201 = .ok (.bipush (8), 2) := by decide +kernel
theorem d_q_work_203 : decode b_q_work 203 = .ok (.if_icmp .lt (23), 3) := by decide +kernel
theorem d_q_work_206 : decode b_q_work 206 = .ok (.lload 7, 2) := by decide +kernel
theorem d_q_work_208 : decode b_q_work 208 = .ok (.lconst 0, 1) := by decide +kernel
theorem d_q_work_209 : decode b_q_work 209 = .ok (.lcmp, 1) := by decide +kernel
theorem d_q_work_210 : decode b_q_work 210 = .ok (.ifCond .ne (16), 3) := by decide +kernel
theorem d_q_work_213 : decode b_q_work 213 = .ok (.aload_n 0, 1) := by decide +kernel
theorem d_q_work_214 : decode b_q_work 214 = .ok (.iconst 4, 1) := by decide +kernel
theorem d_q_work_215 : decode b_q_work 215 = .ok (.aload_n 0, 1) := by decide +kernel
theorem d_q_work_216 : decode b_q_work 216 = .ok (.getfield 78, 3) := by decide +kernel
theorem d_q_work_219 : decode b_q_work 219 = .ok (.iload 4, 2) := by decide +kernel
theorem d_q_work_221 : decode b_q_work 221 = .ok (.iaload, 1) := by decide +kernel
theorem d_q_work_222 : decode b_q_work 222 = .ok (.invokevirtual 334, 3) := by decide +kernel
theorem d_q_work_225 : decode b_q_work 225 = .ok (.ireturn, 1) := by decide +kernel
theorem d_q_work_226 : decode b_q_work 226 = .ok (.iload 5, 2) := by decide +kernel
theorem d_q_work_228 : decode b_q_work 228 = .ok (.iconst 5, 1) := by decide +kernel
theorem d_q_work_229 : decode b_q_work 229 = .ok (.if_icmp .ne (11), 3) := by decide +kernel
theorem d_q_work_232 : decode b_q_work 232 = .ok (.lload 9, 2) := by decide +kernel
theorem d_q_work_234 : decode b_q_work 234 = .ok (.lload 7, 2) := by decide +kernel
theorem d_q_work_236 : decode b_q_work 236 = .ok (.ladd, 1) := by decide +kernel
theorem d_q_work_237 : decode b_q_work 237 = .ok (.goto (59), 3) := by decide +kernel
theorem d_q_work_240 : decode b_q_work 240 = .ok (.iload 5, 2) := by decide +kernel
theorem d_q_work_242 : decode b_q_work 242 = .ok (.bipush (6), 2) := by decide +kernel
theorem d_q_work_244 : decode b_q_work 244 = .ok (.if_icmp .eq (9), 3) := by decide +kernel
theorem d_q_work_247 : decode b_q_work 247 = .ok (.iload 5, 2) := by decide +kernel
theorem d_q_work_249 : decode b_q_work 249 = .ok (.iconst 4, 1) := by decide +kernel
theorem d_q_work_250 : decode b_q_work 250 = .ok (.if_icmp .ne (11), 3) := by decide +kernel
theorem d_q_work_253 : decode b_q_work 253 = .ok (.lload 9, 2) := by decide +kernel
theorem d_q_work_255 : decode b_q_work 255 = .ok (.lload 7, 2) := by decide +kernel
theorem d_q_work_257 : decode b_q_work 257 = .ok (.lsub, 1) := by decide +kernel
theorem d_q_work_258 : decode b_q_work 258 = .ok (.goto (38), 3) := by decide +kernel
theorem d_q_work_261 : decode b_q_work 261 = .ok (.iload 5, 2) := by decide +kernel
theorem d_q_work_263 : decode b_q_work 263 = .ok (.bipush (7), 2) := by decide +kernel
theorem d_q_work_265 : decode b_q_work 265 = .ok (.if_icmp .ne (11), 3) := by decide +kernel
theorem d_q_work_268 : decode b_q_work 268 = .ok (.lload 9, 2) := by decide +kernel
theorem d_q_work_270 : decode b_q_work 270 = .ok (.lload 7, 2) := by decide +kernel
theorem d_q_work_272 : decode b_q_work 272 = .ok (.lmul, 1) := by decide +kernel
theorem d_q_work_273 : decode b_q_work 273 = .ok (.goto (23), 3) := by decide +kernel
theorem d_q_work_276 : decode b_q_work 276 = .ok (.iload 5, 2) := by decide +kernel
theorem d_q_work_278 : decode b_q_work 278 = .ok (.bipush (8), 2) := by decide +kernel
theorem d_q_work_280 : decode b_q_work 280 = .ok (.if_icmp .ne (11), 3) := by decide +kernel
theorem d_q_work_283 : decode b_q_work 283 = .ok (.lload 9, 2) := by decide +kernel
theorem d_q_work_285 : decode b_q_work 285 = .ok (.lload 7, 2) := by decide +kernel
theorem d_q_work_287 : decode b_q_work 287 = .ok (.ldiv, 1) := by decide +kernel
theorem d_q_work_288 : decode b_q_work 288 = .ok (.goto (8), 3) := by decide +kernel
theorem d_q_work_291 : decode b_q_work 291 = .ok (.lload 9, 2) := by decide +kernel
theorem d_q_work_293 : decode b_q_work 293 = .ok (.lload 7, 2) := by decide +kernel
theorem d_q_work_295 : decode b_q_work 295 = .ok (.lrem, 1) := by decide +kernel
theorem d_q_work_296 : decode b_q_work 296 = .ok (.lstore 11, 2) := by decide +kernel
theorem d_q_work_298 : decode b_q_work 298 = .ok (.lload 11, 2) := by decide +kernel
theorem d_q_work_300 : decode b_q_work 300 = .ok (.ldc2_w 340, 3) := by decide +kernel
theorem d_q_work_303 : decode b_q_work 303 = .ok (.ldc2_w 342, 3) := by decide +kernel
theorem d_q_work_306 : decode b_q_work 306 = .ok (.invokestatic 155, 3) := by decide +kernel
theorem d_q_work_309 : decode b_q_work 309 = .ok (.ifCond .ne (16), 3) := by decide +kernel
theorem d_q_work_312 : decode b_q_work 312 = .ok (.aload_n 0, 1) := by decide +kernel
theorem d_q_work_313 : decode b_q_work 313 = .ok (.iconst 3, 1) := by decide +kernel
theorem d_q_work_314 : decode b_q_work 314 = .ok (.aload_n 0, 1) := by decide +kernel
theorem d_q_work_315 : decode b_q_work 315 = .ok (.getfield 78, 3) := by decide +kernel
theorem d_q_work_318 : decode b_q_work 318 = .ok (.iload 4, 2) := by decide +kernel
theorem d_q_work_320 : decode b_q_work 320 = .ok (.iaload, 1) := by decide +kernel
theorem d_q_work_321 : decode b_q_work 321 = .ok (.invokevirtual 334, 3) := by decide +kernel
theorem d_q_work_324 : decode b_q_work 324 = .ok (.ireturn, 1) := by decide +kernel
theorem d_q_work_325 : decode b_q_work 325 = .ok (.iload 5, 2) := by decide +kernel
theorem d_q_work_327 : decode b_q_work 327 = .ok (.iconst 4, 1) := by decide +kernel
theorem d_q_work_328 : decode b_q_work 328 = .ok (.if_icmp .eq (6), 3) := by decide +kernel
theorem d_q_work_331 : decode b_q_work 331 = .ok (.iinc 3 (-1), 3) := by decide +kernel
theorem d_q_work_334 : decode b_q_work 334 = .ok (.aload_n 0, 1) := by decide +kernel
theorem d_q_work_335 : decode b_q_work 335 = .ok (.getfield 108, 3) := by decide +kernel
theorem d_q_work_338 : decode b_q_work 338 = .ok (.iload_n 3, 1) := by decide +kernel
theorem d_q_work_339 : decode b_q_work 339 = .ok (.iconst 1, 1) := by decide +kernel
theorem d_q_work_340 : decode b_q_work 340 = .ok (.isub, 1) := by decide +kernel
theorem d_q_work_341 : decode b_q_work 341 = .ok (.lload 11, 2) := by decide +kernel
theorem d_q_work_343 : decode b_q_work 343 = .ok (.l2i, 1) := by decide +kernel
theorem d_q_work_344 : decode b_q_work 344 = .ok (.iastore, 1) := by decide +kernel
theorem d_q_work_345 : decode b_q_work 345 = .ok (.iinc 4 (1), 3) := by decide +kernel
theorem d_q_work_348 : decode b_q_work 348 = .ok (.goto (-343), 3) := by decide +kernel
theorem d_q_work_351 : decode b_q_work 351 = .ok (.aload_n 0, 1) := by decide +kernel
theorem d_q_work_352 : decode b_q_work 352 = .ok (.aload_n 0, 1) := by decide +kernel
theorem d_q_work_353 : decode b_q_work 353 = .ok (.getfield 108, 3) := by decide +kernel
theorem d_q_work_356 : decode b_q_work 356 = .ok (.iconst 0, 1) := by decide +kernel
theorem d_q_work_357 : decode b_q_work 357 = .ok (.iaload, 1) := by decide +kernel
theorem d_q_work_358 : decode b_q_work 358 = .ok (.putfield 344, 3) := by decide +kernel
theorem d_q_work_361 : decode b_q_work 361 = .ok (.iconst 1, 1) := by decide +kernel
theorem d_q_work_362 : decode b_q_work 362 = .ok (.ireturn, 1) := by decide +kernel
theorem kb_q_work {a0 : Nat} {a1 : Int32} {a2 : Int32} {w : WW} {r : (Int32 × WW)} (h : f_q_work a0 a1 a2 w = some r) : kb w a0 9 = true := (its h).1
set_option maxHeartbeats 4000000 in
set_option maxRecDepth 100000 in
theorem j_q_work_345 {p : Program} {l : Launch} {e : Env} {s : State} {m : MethodId} {args : Array Value} {below : List Frame} {meth : Method} {c : Code} {D : va_G} {cA : Nat → ClassId} {base : Nat} {r : Int32} {w' : WW} (C : cx b_q_work (some .boolean) 13 y_q_work.cls "work" p s m args meth c D cA base) {k_5 : Nat → Int32 → Int32 → Int32 → WW → Option (Int32 × WW)} (hk_5 : ∀ (y0 : Nat) (y2 : Int32) (y3 : Int32) (y4 : Int32) (w : WW), k_5 y0 y2 y3 y4 w = some (r, w') → ∀ (H : Heap) (locs : List Loc) (ls : Array Slot), wo_S D cls cA base s w H locs → lv_has ls 13 [(0, .ref (base + y0)), (2, .int y2), (3, .int y3), (4, .int y4)] → W p l e rm_q_work s m args below meth c H locs 0 0 (MQ below (wo_Q D cls cA base (some (.int r)) w') args s rm_q_work.cells rm_q_work.slots (wo_B base)) (F0 m 5 ls [])) : ∀ (y0 : Nat) (y2 : Int32) (y3 : Int32) (y4 : Int32) (w : WW), f_q_work_345 k_5 y0 y2 y3 y4 w = some (r, w') → ∀ (H : Heap) (locs : List Loc) (ls : Array Slot), wo_S D cls cA base s w H locs → lv_has ls 13 [(0, .ref (base + y0)), (2, .int y2), (3, .int y3), (4, .int y4)] → W p l e rm_q_work s m args below meth c H locs 0 0 (MQ below (wo_Q D cls cA base (some (.int r)) w') args s rm_q_work.cells rm_q_work.slots (wo_B base)) (F0 m 345 ls []) := by
  obtain ⟨hx, hb, hr, hml, hown, hts, hlk, hnm, hK, hG⟩ := id C
  intro y0 y2 y3 y4 w h H locs ls hW hl
  unfold f_q_work_345 at h
  refine lv_iinc (v := (y4 + (1 : Int32))) (lv' := [(4, .int (y4 + (1 : Int32))), (0, .ref (base + y0)), (2, .int y2), (3, .int y3)]) hx hb d_q_work_345 hl (k := 3) rfl rfl (by decide) rfl (fun ls hl => ?_)
  refine lv_goto (tgt := 5) hx hb d_q_work_348 (by decide) ?_
  exact hk_5 y0 y2 y3 (y4 + (1 : Int32)) w h _ _ _ hW (lv_sub hl [1, 2, 3, 0] rfl)
set_option maxHeartbeats 4000000 in
set_option maxRecDepth 100000 in
theorem j_q_work_334 {p : Program} {l : Launch} {e : Env} {s : State} {m : MethodId} {args : Array Value} {below : List Frame} {meth : Method} {c : Code} {D : va_G} {cA : Nat → ClassId} {base : Nat} {r : Int32} {w' : WW} (C : cx b_q_work (some .boolean) 13 y_q_work.cls "work" p s m args meth c D cA base) {k_5 : Nat → Int32 → Int32 → Int32 → WW → Option (Int32 × WW)} (hk_5 : ∀ (y0 : Nat) (y2 : Int32) (y3 : Int32) (y4 : Int32) (w : WW), k_5 y0 y2 y3 y4 w = some (r, w') → ∀ (H : Heap) (locs : List Loc) (ls : Array Slot), wo_S D cls cA base s w H locs → lv_has ls 13 [(0, .ref (base + y0)), (2, .int y2), (3, .int y3), (4, .int y4)] → W p l e rm_q_work s m args below meth c H locs 0 0 (MQ below (wo_Q D cls cA base (some (.int r)) w') args s rm_q_work.cells rm_q_work.slots (wo_B base)) (F0 m 5 ls [])) : ∀ (y0 : Nat) (y2 : Int32) (y3 : Int32) (y4 : Int32) (y11 : Int64) (w : WW), f_q_work_334 k_5 y0 y2 y3 y4 y11 w = some (r, w') → ∀ (H : Heap) (locs : List Loc) (ls : Array Slot), wo_S D cls cA base s w H locs → lv_has ls 13 [(0, .ref (base + y0)), (2, .int y2), (3, .int y3), (4, .int y4), (11, .long y11)] → W p l e rm_q_work s m args below meth c H locs 0 0 (MQ below (wo_Q D cls cA base (some (.int r)) w') args s rm_q_work.cells rm_q_work.slots (wo_B base)) (F0 m 334 ls []) := by
  obtain ⟨hx, hb, hr, hml, hown, hts, hlk, hnm, hK, hG⟩ := id C
  intro y0 y2 y3 y4 y11 w h H locs ls hW hl
  unfold f_q_work_334 at h
  refine lv_aload_n hx hb d_q_work_334 rfl (lv_at hl 0 rfl) ?_
  replace h := bs h
  obtain ⟨x25, hx25, h⟩ := h
  refine gf_q_108 hx hb hts hown hK hG hW (gN_s hx25) d_q_work_335 ?_
  refine lv_iload_n hx hb d_q_work_338 rfl (lv_at hl 2 rfl) ?_
  refine lv_iconst (v := (1 : Int32)) hx hb d_q_work_339 (by decide) ?_
  refine lv_isub hx hb d_q_work_340 ?_
  refine lv_lload hx hb d_q_work_341 (lv_at hl 4 rfl) ?_
  refine lv_l2i hx hb d_q_work_343 rfl ?_
  replace h := bs h
  obtain ⟨w26, hw26, h⟩ := h
  refine wo_iast hx hb hK hW (t := 0) rfl hw26 d_q_work_344 (fun H locs hW => ?_)
  exact j_q_work_345 C hk_5 y0 y2 y3 y4 w26 h _ _ _ hW (lv_sub hl [0, 1, 2, 3] rfl)
set_option maxHeartbeats 4000000 in
set_option maxRecDepth 100000 in
theorem j_q_work_296 {p : Program} {l : Launch} {e : Env} {s : State} {m : MethodId} {args : Array Value} {below : List Frame} {meth : Method} {c : Code} {D : va_G} {cA : Nat → ClassId} {base : Nat} {r : Int32} {w' : WW} (C : cx b_q_work (some .boolean) 13 y_q_work.cls "work" p s m args meth c D cA base) {k_5 : Nat → Int32 → Int32 → Int32 → WW → Option (Int32 × WW)} (hk_5 : ∀ (y0 : Nat) (y2 : Int32) (y3 : Int32) (y4 : Int32) (w : WW), k_5 y0 y2 y3 y4 w = some (r, w') → ∀ (H : Heap) (locs : List Loc) (ls : Array Slot), wo_S D cls cA base s w H locs → lv_has ls 13 [(0, .ref (base + y0)), (2, .int y2), (3, .int y3), (4, .int y4)] → W p l e rm_q_work s m args below meth c H locs 0 0 (MQ below (wo_Q D cls cA base (some (.int r)) w') args s rm_q_work.cells rm_q_work.slots (wo_B base)) (F0 m 5 ls [])) : ∀ (y0 : Nat) (y2 : Int32) (y3 : Int32) (y4 : Int32) (y5 : Int32) (z0 : Int64) (w : WW), f_q_work_296 k_5 y0 y2 y3 y4 y5 z0 w = some (r, w') → ∀ (H : Heap) (locs : List Loc) (ls : Array Slot), wo_S D cls cA base s w H locs → lv_has ls 13 [(0, .ref (base + y0)), (2, .int y2), (3, .int y3), (4, .int y4), (5, .int y5)] → W p l e rm_q_work s m args below meth c H locs 0 0 (MQ below (wo_Q D cls cA base (some (.int r)) w') args s rm_q_work.cells rm_q_work.slots (wo_B base)) (F0 m 296 ls [.long z0]) := by
  obtain ⟨hx, hb, hr, hml, hown, hts, hlk, hnm, hK, hG⟩ := id C
  intro y0 y2 y3 y4 y5 z0 w h H locs ls hW hl
  unfold f_q_work_296 at h
  refine lv_lstore (lv' := [(11, .long z0), (0, .ref (base + y0)), (2, .int y2), (3, .int y3), (4, .int y4), (5, .int y5)]) hx hb d_q_work_296 hl (by decide) rfl (fun ls hl => ?_)
  refine lv_lload hx hb d_q_work_298 (lv_at hl 0 rfl) ?_
  refine lv_ldc2 (own := Rc_q) (v := (-2147483648 : Int64)) hx hb hown (hts (.constantLong "AlarmForgeModel" 340 (-2147483648 : Int64)) (gt_of (i := 1553) (by decide +kernel) (by decide +kernel))) d_q_work_300 ?_
  refine lv_ldc2 (own := Rc_q) (v := (2147483647 : Int64)) hx hb hown (hts (.constantLong "AlarmForgeModel" 342 (2147483647 : Int64)) (gt_of (i := 1554) (by decide +kernel) (by decide +kernel))) d_q_work_303 ?_
  replace h := bs2 h
  obtain ⟨x22, w21, hw21, h⟩ := h
  refine cs_q_155 (As := [.long z0, .long (-2147483648 : Int64), .long (2147483647 : Int64)]) (rest := []) hx hb hml hown hts hK hG hW (c_q_in l D cA base hw21) ⟨Nat.le_of_ble_eq_true rfl, Nat.le_of_ble_eq_true rfl⟩ ⟨Nat.le_of_ble_eq_true rfl, Nat.le_of_ble_eq_true rfl⟩ rfl hl.1 rfl (Nat.le_of_ble_eq_true rfl) d_q_work_306 (fun H locs hW => ?_)
  refine lv_if_ne (tgt := 325) hx hb d_q_work_309 (by decide) (fun c23 => ?_) (fun c23 => ?_)
  · rw [if_neg c23] at h
    refine lv_iload hx hb d_q_work_325 (lv_at hl 5 rfl) ?_
    refine lv_iconst (v := (4 : Int32)) hx hb d_q_work_327 (by decide) ?_
    refine lv_icmp_eq (tgt := 334) hx hb d_q_work_328 (by decide) (fun c24 => ?_) (fun c24 => ?_)
    · rw [if_pos c24] at h
      exact j_q_work_334 C hk_5 y0 y2 y3 y4 z0 w21 h _ _ _ hW (lv_sub hl [1, 2, 3, 4, 0] rfl)
    · rw [if_neg c24] at h
      refine lv_iinc (v := (y3 + (-1 : Int32))) (lv' := [(3, .int (y3 + (-1 : Int32))), (11, .long z0), (0, .ref (base + y0)), (2, .int y2), (4, .int y4), (5, .int y5)]) hx hb d_q_work_331 hl (k := 3) rfl rfl (by decide) rfl (fun ls hl => ?_)
      exact j_q_work_334 C hk_5 y0 y2 (y3 + (-1 : Int32)) y4 z0 w21 h _ _ _ hW (lv_sub hl [2, 3, 0, 4, 1] rfl)
  · rw [if_pos c23] at h
    refine lv_aload_n hx hb d_q_work_312 rfl (lv_at hl 1 rfl) ?_
    refine lv_iconst (v := (3 : Int32)) hx hb d_q_work_313 (by decide) ?_
    refine lv_aload_n hx hb d_q_work_314 rfl (lv_at hl 1 rfl) ?_
    replace h := bs h
    obtain ⟨x27, hx27, h⟩ := h
    refine gf_q_78 hx hb hts hown hK hG hW (gN_s hx27) d_q_work_315 ?_
    refine lv_iload hx hb d_q_work_318 (lv_at hl 4 rfl) ?_
    replace h := bs h
    obtain ⟨x28, hx28, h⟩ := h
    refine wo_iald hx hb hK hW (t := 0) rfl hx28 d_q_work_320 ?_
    replace h := bs2 h
    obtain ⟨x30, w29, hw29, h⟩ := h
    refine cv_q_334 (As := [.int (3 : Int32), .int x28]) (rest := []) hx hb hml hown hts hK hG hW (c_q_stop l D cA base hw29) (kb_q_stop hw29) ⟨Nat.le_of_ble_eq_true rfl, Nat.le_of_ble_eq_true rfl⟩ ⟨Nat.le_of_ble_eq_true rfl, Nat.le_of_ble_eq_true rfl⟩ rfl hl.1 rfl (Nat.le_of_ble_eq_true rfl) d_q_work_321 (fun H locs hW => ?_)
    replace h := its h
    obtain ⟨c31, h⟩ := h
    cases h
    exact wo_zret hx hb hr hlk hW c31 d_q_work_324
set_option maxHeartbeats 4000000 in
set_option maxRecDepth 100000 in
theorem j_q_work_253 {p : Program} {l : Launch} {e : Env} {s : State} {m : MethodId} {args : Array Value} {below : List Frame} {meth : Method} {c : Code} {D : va_G} {cA : Nat → ClassId} {base : Nat} {r : Int32} {w' : WW} (C : cx b_q_work (some .boolean) 13 y_q_work.cls "work" p s m args meth c D cA base) {k_5 : Nat → Int32 → Int32 → Int32 → WW → Option (Int32 × WW)} (hk_5 : ∀ (y0 : Nat) (y2 : Int32) (y3 : Int32) (y4 : Int32) (w : WW), k_5 y0 y2 y3 y4 w = some (r, w') → ∀ (H : Heap) (locs : List Loc) (ls : Array Slot), wo_S D cls cA base s w H locs → lv_has ls 13 [(0, .ref (base + y0)), (2, .int y2), (3, .int y3), (4, .int y4)] → W p l e rm_q_work s m args below meth c H locs 0 0 (MQ below (wo_Q D cls cA base (some (.int r)) w') args s rm_q_work.cells rm_q_work.slots (wo_B base)) (F0 m 5 ls [])) : ∀ (y0 : Nat) (y2 : Int32) (y3 : Int32) (y4 : Int32) (y5 : Int32) (y7 : Int64) (y9 : Int64) (w : WW), f_q_work_253 k_5 y0 y2 y3 y4 y5 y7 y9 w = some (r, w') → ∀ (H : Heap) (locs : List Loc) (ls : Array Slot), wo_S D cls cA base s w H locs → lv_has ls 13 [(0, .ref (base + y0)), (2, .int y2), (3, .int y3), (4, .int y4), (5, .int y5), (7, .long y7), (9, .long y9)] → W p l e rm_q_work s m args below meth c H locs 0 0 (MQ below (wo_Q D cls cA base (some (.int r)) w') args s rm_q_work.cells rm_q_work.slots (wo_B base)) (F0 m 253 ls []) := by
  obtain ⟨hx, hb, hr, hml, hown, hts, hlk, hnm, hK, hG⟩ := id C
  intro y0 y2 y3 y4 y5 y7 y9 w h H locs ls hW hl
  unfold f_q_work_253 at h
  refine lv_lload hx hb d_q_work_253 (lv_at hl 6 rfl) ?_
  refine lv_lload hx hb d_q_work_255 (lv_at hl 5 rfl) ?_
  refine lv_lsub hx hb d_q_work_257 ?_
  refine lv_goto (tgt := 296) hx hb d_q_work_258 (by decide) ?_
  exact j_q_work_296 C hk_5 y0 y2 y3 y4 y5 (y9 - y7) w h _ _ _ hW (lv_sub hl [0, 1, 2, 3, 4] rfl)
set_option maxHeartbeats 4000000 in
set_option maxRecDepth 100000 in
theorem j_q_work_226 {p : Program} {l : Launch} {e : Env} {s : State} {m : MethodId} {args : Array Value} {below : List Frame} {meth : Method} {c : Code} {D : va_G} {cA : Nat → ClassId} {base : Nat} {r : Int32} {w' : WW} (C : cx b_q_work (some .boolean) 13 y_q_work.cls "work" p s m args meth c D cA base) {k_5 : Nat → Int32 → Int32 → Int32 → WW → Option (Int32 × WW)} (hk_5 : ∀ (y0 : Nat) (y2 : Int32) (y3 : Int32) (y4 : Int32) (w : WW), k_5 y0 y2 y3 y4 w = some (r, w') → ∀ (H : Heap) (locs : List Loc) (ls : Array Slot), wo_S D cls cA base s w H locs → lv_has ls 13 [(0, .ref (base + y0)), (2, .int y2), (3, .int y3), (4, .int y4)] → W p l e rm_q_work s m args below meth c H locs 0 0 (MQ below (wo_Q D cls cA base (some (.int r)) w') args s rm_q_work.cells rm_q_work.slots (wo_B base)) (F0 m 5 ls [])) : ∀ (y0 : Nat) (y2 : Int32) (y3 : Int32) (y4 : Int32) (y5 : Int32) (y7 : Int64) (y9 : Int64) (w : WW), f_q_work_226 k_5 y0 y2 y3 y4 y5 y7 y9 w = some (r, w') → ∀ (H : Heap) (locs : List Loc) (ls : Array Slot), wo_S D cls cA base s w H locs → lv_has ls 13 [(0, .ref (base + y0)), (2, .int y2), (3, .int y3), (4, .int y4), (5, .int y5), (7, .long y7), (9, .long y9)] → W p l e rm_q_work s m args below meth c H locs 0 0 (MQ below (wo_Q D cls cA base (some (.int r)) w') args s rm_q_work.cells rm_q_work.slots (wo_B base)) (F0 m 226 ls []) := by
  obtain ⟨hx, hb, hr, hml, hown, hts, hlk, hnm, hK, hG⟩ := id C
  intro y0 y2 y3 y4 y5 y7 y9 w h H locs ls hW hl
  unfold f_q_work_226 at h
  refine lv_iload hx hb d_q_work_226 (lv_at hl 4 rfl) ?_
  refine lv_iconst (v := (5 : Int32)) hx hb d_q_work_228 (by decide) ?_
  refine lv_icmp_ne (tgt := 240) hx hb d_q_work_229 (by decide) (fun c19 => ?_) (fun c19 => ?_)
  · rw [if_neg c19] at h
    refine lv_iload hx hb d_q_work_240 (lv_at hl 4 rfl) ?_
    refine lv_bipush (v := (6 : Int32)) hx hb d_q_work_242 (by decide) ?_
    refine lv_icmp_eq (tgt := 253) hx hb d_q_work_244 (by decide) (fun c20 => ?_) (fun c20 => ?_)
    · rw [if_pos c20] at h
      exact j_q_work_253 C hk_5 y0 y2 y3 y4 y5 y7 y9 w h _ _ _ hW (lv_sub hl [0, 1, 2, 3, 4, 5, 6] rfl)
    · rw [if_neg c20] at h
      refine lv_iload hx hb d_q_work_247 (lv_at hl 4 rfl) ?_
      refine lv_iconst (v := (4 : Int32)) hx hb d_q_work_249 (by decide) ?_
      refine lv_icmp_ne (tgt := 261) hx hb d_q_work_250 (by decide) (fun c32 => ?_) (fun c32 => ?_)
      · rw [if_neg c32] at h
        refine lv_iload hx hb d_q_work_261 (lv_at hl 4 rfl) ?_
        refine lv_bipush (v := (7 : Int32)) hx hb d_q_work_263 (by decide) ?_
        refine lv_icmp_ne (tgt := 276) hx hb d_q_work_265 (by decide) (fun c33 => ?_) (fun c33 => ?_)
        · rw [if_neg c33] at h
          refine lv_iload hx hb d_q_work_276 (lv_at hl 4 rfl) ?_
          refine lv_bipush (v := (8 : Int32)) hx hb d_q_work_278 (by decide) ?_
          refine lv_icmp_ne (tgt := 291) hx hb d_q_work_280 (by decide) (fun c34 => ?_) (fun c34 => ?_)
          · rw [if_neg c34] at h
            refine lv_lload hx hb d_q_work_291 (lv_at hl 6 rfl) ?_
            refine lv_lload hx hb d_q_work_293 (lv_at hl 5 rfl) ?_
            replace h := its h
            obtain ⟨c35, h⟩ := h
            refine lv_lrem hx hb d_q_work_295 c35 ?_
            exact j_q_work_296 C hk_5 y0 y2 y3 y4 y5 (y9 - y9 / y7 * y7) w h _ _ _ hW (lv_sub hl [0, 1, 2, 3, 4] rfl)
          · rw [if_pos c34] at h
            refine lv_lload hx hb d_q_work_283 (lv_at hl 6 rfl) ?_
            refine lv_lload hx hb d_q_work_285 (lv_at hl 5 rfl) ?_
            replace h := its h
            obtain ⟨c36, h⟩ := h
            refine lv_ldiv hx hb d_q_work_287 c36 ?_
            refine lv_goto (tgt := 296) hx hb d_q_work_288 (by decide) ?_
            exact j_q_work_296 C hk_5 y0 y2 y3 y4 y5 (y9 / y7) w h _ _ _ hW (lv_sub hl [0, 1, 2, 3, 4] rfl)
        · rw [if_pos c33] at h
          refine lv_lload hx hb d_q_work_268 (lv_at hl 6 rfl) ?_
          refine lv_lload hx hb d_q_work_270 (lv_at hl 5 rfl) ?_
          refine lv_lmul hx hb d_q_work_272 ?_
          refine lv_goto (tgt := 296) hx hb d_q_work_273 (by decide) ?_
          exact j_q_work_296 C hk_5 y0 y2 y3 y4 y5 (y9 * y7) w h _ _ _ hW (lv_sub hl [0, 1, 2, 3, 4] rfl)
      · rw [if_pos c32] at h
        exact j_q_work_253 C hk_5 y0 y2 y3 y4 y5 y7 y9 w h _ _ _ hW (lv_sub hl [0, 1, 2, 3, 4, 5, 6] rfl)
  · rw [if_pos c19] at h
    refine lv_lload hx hb d_q_work_232 (lv_at hl 6 rfl) ?_
    refine lv_lload hx hb d_q_work_234 (lv_at hl 5 rfl) ?_
    refine lv_ladd hx hb d_q_work_236 ?_
    refine lv_goto (tgt := 296) hx hb d_q_work_237 (by decide) ?_
    exact j_q_work_296 C hk_5 y0 y2 y3 y4 y5 (y9 + y7) w h _ _ _ hW (lv_sub hl [0, 1, 2, 3, 4] rfl)
set_option maxHeartbeats 4000000 in
set_option maxRecDepth 100000 in
theorem j_q_work_194 {p : Program} {l : Launch} {e : Env} {s : State} {m : MethodId} {args : Array Value} {below : List Frame} {meth : Method} {c : Code} {D : va_G} {cA : Nat → ClassId} {base : Nat} {r : Int32} {w' : WW} (C : cx b_q_work (some .boolean) 13 y_q_work.cls "work" p s m args meth c D cA base) {k_5 : Nat → Int32 → Int32 → Int32 → WW → Option (Int32 × WW)} (hk_5 : ∀ (y0 : Nat) (y2 : Int32) (y3 : Int32) (y4 : Int32) (w : WW), k_5 y0 y2 y3 y4 w = some (r, w') → ∀ (H : Heap) (locs : List Loc) (ls : Array Slot), wo_S D cls cA base s w H locs → lv_has ls 13 [(0, .ref (base + y0)), (2, .int y2), (3, .int y3), (4, .int y4)] → W p l e rm_q_work s m args below meth c H locs 0 0 (MQ below (wo_Q D cls cA base (some (.int r)) w') args s rm_q_work.cells rm_q_work.slots (wo_B base)) (F0 m 5 ls [])) : ∀ (y0 : Nat) (y2 : Int32) (y3 : Int32) (y4 : Int32) (y5 : Int32) (y7 : Int64) (z0 : Int64) (w : WW), f_q_work_194 k_5 y0 y2 y3 y4 y5 y7 z0 w = some (r, w') → ∀ (H : Heap) (locs : List Loc) (ls : Array Slot), wo_S D cls cA base s w H locs → lv_has ls 13 [(0, .ref (base + y0)), (2, .int y2), (3, .int y3), (4, .int y4), (5, .int y5), (7, .long y7)] → W p l e rm_q_work s m args below meth c H locs 0 0 (MQ below (wo_Q D cls cA base (some (.int r)) w') args s rm_q_work.cells rm_q_work.slots (wo_B base)) (F0 m 194 ls [.long z0]) := by
  obtain ⟨hx, hb, hr, hml, hown, hts, hlk, hnm, hK, hG⟩ := id C
  intro y0 y2 y3 y4 y5 y7 z0 w h H locs ls hW hl
  unfold f_q_work_194 at h
  refine lv_lstore (lv' := [(9, .long z0), (0, .ref (base + y0)), (2, .int y2), (3, .int y3), (4, .int y4), (5, .int y5), (7, .long y7)]) hx hb d_q_work_194 hl (by decide) rfl (fun ls hl => ?_)
  refine lv_lconst (v := (0 : Int64)) hx hb d_q_work_196 (by decide) ?_
  refine lv_lstore (lv' := [(11, .long (0 : Int64)), (9, .long z0), (0, .ref (base + y0)), (2, .int y2), (3, .int y3), (4, .int y4), (5, .int y5), (7, .long y7)]) hx hb d_q_work_197 hl (by decide) rfl (fun ls hl => ?_)
  refine lv_iload hx hb d_q_work_199 (lv_at hl 6 rfl) ?_
  refine lv_bipush (v := (8 : Int32)) hx hb d_q_work_201 (by decide) ?_
  refine lv_icmp_lt (tgt := 226) hx hb d_q_work_203 (by decide) (fun c18 => ?_) (fun c18 => ?_)
  · rw [if_pos c18] at h
    exact j_q_work_226 C hk_5 y0 y2 y3 y4 y5 y7 z0 w h _ _ _ hW (lv_sub hl [2, 3, 4, 5, 6, 7, 1] rfl)
  · rw [if_neg c18] at h
    refine lv_lload hx hb d_q_work_206 (lv_at hl 7 rfl) ?_
    refine lv_lconst (v := (0 : Int64)) hx hb d_q_work_208 (by decide) ?_
    refine lc_ne (tgt := 226) hx hb d_q_work_209 d_q_work_210 (by decide) (fun c37 => ?_) (fun c37 => ?_)
    · rw [if_neg c37] at h
      exact j_q_work_226 C hk_5 y0 y2 y3 y4 y5 y7 z0 w h _ _ _ hW (lv_sub hl [2, 3, 4, 5, 6, 7, 1] rfl)
    · rw [if_pos c37] at h
      refine lv_aload_n hx hb d_q_work_213 rfl (lv_at hl 2 rfl) ?_
      refine lv_iconst (v := (4 : Int32)) hx hb d_q_work_214 (by decide) ?_
      refine lv_aload_n hx hb d_q_work_215 rfl (lv_at hl 2 rfl) ?_
      replace h := bs h
      obtain ⟨x38, hx38, h⟩ := h
      refine gf_q_78 hx hb hts hown hK hG hW (gN_s hx38) d_q_work_216 ?_
      refine lv_iload hx hb d_q_work_219 (lv_at hl 5 rfl) ?_
      replace h := bs h
      obtain ⟨x39, hx39, h⟩ := h
      refine wo_iald hx hb hK hW (t := 0) rfl hx39 d_q_work_221 ?_
      replace h := bs2 h
      obtain ⟨x41, w40, hw40, h⟩ := h
      refine cv_q_334 (As := [.int (4 : Int32), .int x39]) (rest := []) hx hb hml hown hts hK hG hW (c_q_stop l D cA base hw40) (kb_q_stop hw40) ⟨Nat.le_of_ble_eq_true rfl, Nat.le_of_ble_eq_true rfl⟩ ⟨Nat.le_of_ble_eq_true rfl, Nat.le_of_ble_eq_true rfl⟩ rfl hl.1 rfl (Nat.le_of_ble_eq_true rfl) d_q_work_222 (fun H locs hW => ?_)
      replace h := its h
      obtain ⟨c42, h⟩ := h
      cases h
      exact wo_zret hx hb hr hlk hW c42 d_q_work_225
set_option maxHeartbeats 4000000 in
set_option maxRecDepth 100000 in
theorem j_q_work_5 {p : Program} {l : Launch} {e : Env} {s : State} {m : MethodId} {args : Array Value} {below : List Frame} {meth : Method} {c : Code} {D : va_G} {cA : Nat → ClassId} {base : Nat} {r : Int32} {w' : WW} (C : cx b_q_work (some .boolean) 13 y_q_work.cls "work" p s m args meth c D cA base)   : ∀ n : Nat, ∀ (y0 : Nat) (y2 : Int32) (y3 : Int32) (y4 : Int32) (w : WW), f_q_work_5 n y0 y2 y3 y4 w = some (r, w') → ∀ (H : Heap) (locs : List Loc) (ls : Array Slot), wo_S D cls cA base s w H locs → lv_has ls 13 [(0, .ref (base + y0)), (2, .int y2), (3, .int y3), (4, .int y4)] → W p l e rm_q_work s m args below meth c H locs 0 0 (MQ below (wo_Q D cls cA base (some (.int r)) w') args s rm_q_work.cells rm_q_work.slots (wo_B base)) (F0 m 5 ls []) := by
  obtain ⟨hx, hb, hr, hml, hown, hts, hlk, hnm, hK, hG⟩ := id C
  intro n
  induction n with
  | zero => intro y0 y2 y3 y4 w h; cases h
  | succ n ih =>
    intro y0 y2 y3 y4 w h H locs ls hW hl
    rw [f_q_work_5] at h
    refine lv_iload hx hb d_q_work_5 (lv_at hl 3 rfl) ?_
    refine lv_iload_n hx hb d_q_work_7 rfl (lv_at hl 1 rfl) ?_
    refine lv_icmp_ge (tgt := 351) hx hb d_q_work_8 (by decide) (fun c1 => ?_) (fun c1 => ?_)
    · rw [if_pos c1] at h
      refine lv_aload_n hx hb d_q_work_351 rfl (lv_at hl 0 rfl) ?_
      refine lv_aload_n hx hb d_q_work_352 rfl (lv_at hl 0 rfl) ?_
      replace h := bs h
      obtain ⟨x2, hx2, h⟩ := h
      refine gf_q_108 hx hb hts hown hK hG hW (gN_s hx2) d_q_work_353 ?_
      refine lv_iconst (v := (0 : Int32)) hx hb d_q_work_356 (by decide) ?_
      replace h := bs h
      obtain ⟨x3, hx3, h⟩ := h
      refine wo_iald hx hb hK hW (t := 0) rfl hx3 d_q_work_357 ?_
      replace h := bs h
      obtain ⟨w4, hw4, h⟩ := h
      refine pf_q_344 hx hb hts hown hK hG hW rfl rfl (pbi hw4 rfl) d_q_work_358 (fun H locs hW => ?_)
      refine lv_iconst (v := (1 : Int32)) hx hb d_q_work_361 (by decide) ?_
      replace h := its h
      obtain ⟨c5, h⟩ := h
      cases h
      exact wo_zret hx hb hr hlk hW c5 d_q_work_362
    · rw [if_neg c1] at h
      refine lv_aload_n hx hb d_q_work_11 rfl (lv_at hl 0 rfl) ?_
      replace h := bs h
      obtain ⟨x6, hx6, h⟩ := h
      refine gf_q_72 hx hb hts hown hK hG hW (gN_s hx6) d_q_work_12 ?_
      refine lv_iload hx hb d_q_work_15 (lv_at hl 3 rfl) ?_
      replace h := bs h
      obtain ⟨x7, hx7, h⟩ := h
      refine wo_iald hx hb hK hW (t := 0) rfl hx7 d_q_work_17 ?_
      refine lv_istore (lv' := [(5, .int x7), (0, .ref (base + y0)), (2, .int y2), (3, .int y3), (4, .int y4)]) hx hb d_q_work_18 hl (by decide) rfl (fun ls hl => ?_)
      refine lv_aload_n hx hb d_q_work_20 rfl (lv_at hl 1 rfl) ?_
      replace h := bs h
      obtain ⟨x8, hx8, h⟩ := h
      refine gf_q_75 hx hb hts hown hK hG hW (gN_s hx8) d_q_work_21 ?_
      refine lv_iload hx hb d_q_work_24 (lv_at hl 4 rfl) ?_
      replace h := bs h
      obtain ⟨x9, hx9, h⟩ := h
      refine wo_iald hx hb hK hW (t := 0) rfl hx9 d_q_work_26 ?_
      refine lv_istore (lv' := [(6, .int x9), (5, .int x7), (0, .ref (base + y0)), (2, .int y2), (3, .int y3), (4, .int y4)]) hx hb d_q_work_27 hl (by decide) rfl (fun ls hl => ?_)
      refine lv_iload hx hb d_q_work_29 (lv_at hl 1 rfl) ?_
      refine lv_iconst (v := (1 : Int32)) hx hb d_q_work_31 (by decide) ?_
      refine lv_icmp_ne (tgt := 49) hx hb d_q_work_32 (by decide) (fun c10 => ?_) (fun c10 => ?_)
      · rw [if_neg c10] at h
        refine lv_iload hx hb d_q_work_49 (lv_at hl 1 rfl) ?_
        refine lv_iconst (v := (2 : Int32)) hx hb d_q_work_51 (by decide) ?_
        refine lv_icmp_ne (tgt := 97) hx hb d_q_work_52 (by decide) (fun c11 => ?_) (fun c11 => ?_)
        · rw [if_neg c11] at h
          refine lv_iload hx hb d_q_work_97 (lv_at hl 1 rfl) ?_
          refine lv_iconst (v := (3 : Int32)) hx hb d_q_work_99 (by decide) ?_
          refine lv_icmp_ne (tgt := 164) hx hb d_q_work_100 (by decide) (fun c12 => ?_) (fun c12 => ?_)
          · rw [if_neg c12] at h
            refine lv_aload_n hx hb d_q_work_164 rfl (lv_at hl 2 rfl) ?_
            replace h := bs h
            obtain ⟨x13, hx13, h⟩ := h
            refine gf_q_108 hx hb hts hown hK hG hW (gN_s hx13) d_q_work_165 ?_
            refine lv_iload_n hx hb d_q_work_168 rfl (lv_at hl 4 rfl) ?_
            refine lv_iconst (v := (1 : Int32)) hx hb d_q_work_169 (by decide) ?_
            refine lv_isub hx hb d_q_work_170 ?_
            replace h := bs h
            obtain ⟨x14, hx14, h⟩ := h
            refine wo_iald hx hb hK hW (t := 0) rfl hx14 d_q_work_171 ?_
            refine lv_i2l hx hb d_q_work_172 rfl ?_
            refine lv_lstore (lv' := [(7, .long (Int32.toInt64 x14)), (6, .int x9), (5, .int x7), (0, .ref (base + y0)), (2, .int y2), (3, .int y3), (4, .int y4)]) hx hb d_q_work_173 hl (by decide) rfl (fun ls hl => ?_)
            refine lv_iload hx hb d_q_work_175 (lv_at hl 2 rfl) ?_
            refine lv_iconst (v := (4 : Int32)) hx hb d_q_work_177 (by decide) ?_
            refine lv_icmp_ne (tgt := 185) hx hb d_q_work_178 (by decide) (fun c15 => ?_) (fun c15 => ?_)
            · rw [if_neg c15] at h
              refine lv_aload_n hx hb d_q_work_185 rfl (lv_at hl 3 rfl) ?_
              replace h := bs h
              obtain ⟨x16, hx16, h⟩ := h
              refine gf_q_108 hx hb hts hown hK hG hW (gN_s hx16) d_q_work_186 ?_
              refine lv_iload_n hx hb d_q_work_189 rfl (lv_at hl 5 rfl) ?_
              refine lv_iconst (v := (2 : Int32)) hx hb d_q_work_190 (by decide) ?_
              refine lv_isub hx hb d_q_work_191 ?_
              replace h := bs h
              obtain ⟨x17, hx17, h⟩ := h
              refine wo_iald hx hb hK hW (t := 0) rfl hx17 d_q_work_192 ?_
              refine lv_i2l hx hb d_q_work_193 rfl ?_
              exact j_q_work_194 C ih y0 y2 y3 y4 x7 (Int32.toInt64 x14) (Int32.toInt64 x17) w h _ _ _ hW (lv_sub hl [3, 4, 5, 6, 2, 0] rfl)
            · rw [if_pos c15] at h
              refine lv_lconst (v := (0 : Int64)) hx hb d_q_work_181 (by decide) ?_
              refine lv_goto (tgt := 194) hx hb d_q_work_182 (by decide) ?_
              exact j_q_work_194 C ih y0 y2 y3 y4 x7 (Int32.toInt64 x14) (0 : Int64) w h _ _ _ hW (lv_sub hl [3, 4, 5, 6, 2, 0] rfl)
          · rw [if_pos c12] at h
            refine lv_aload_n hx hb d_q_work_103 rfl (lv_at hl 2 rfl) ?_
            replace h := bs h
            obtain ⟨x43, hx43, h⟩ := h
            refine gf_q_108 hx hb hts hown hK hG hW (gN_s hx43) d_q_work_104 ?_
            refine lv_iload_n hx hb d_q_work_107 rfl (lv_at hl 4 rfl) ?_
            refine lv_iconst (v := (1 : Int32)) hx hb d_q_work_108 (by decide) ?_
            refine lv_isub hx hb d_q_work_109 ?_
            replace h := bs h
            obtain ⟨x44, hx44, h⟩ := h
            refine wo_iald hx hb hK hW (t := 0) rfl hx44 d_q_work_110 ?_
            refine lv_i2l hx hb d_q_work_111 rfl ?_
            refine lv_lconst (v := (0 : Int64)) hx hb d_q_work_112 (by decide) ?_
            refine lv_ldc2 (own := Rc_q) (v := (3 : Int64)) hx hb hown (hts (.constantLong "AlarmForgeModel" 338 (3 : Int64)) (gt_of (i := 1552) (by decide +kernel) (by decide +kernel))) d_q_work_113 ?_
            replace h := bs2 h
            obtain ⟨x46, w45, hw45, h⟩ := h
            refine cs_q_155 (As := [.long (Int32.toInt64 x44), .long (0 : Int64), .long (3 : Int64)]) (rest := []) hx hb hml hown hts hK hG hW (c_q_in l D cA base hw45) ⟨Nat.le_of_ble_eq_true rfl, Nat.le_of_ble_eq_true rfl⟩ ⟨Nat.le_of_ble_eq_true rfl, Nat.le_of_ble_eq_true rfl⟩ rfl hl.1 rfl (Nat.le_of_ble_eq_true rfl) d_q_work_116 (fun H locs hW => ?_)
            refine lv_if_ne (tgt := 135) hx hb d_q_work_119 (by decide) (fun c47 => ?_) (fun c47 => ?_)
            · rw [if_neg c47] at h
              refine lv_aload_n hx hb d_q_work_135 rfl (lv_at hl 2 rfl) ?_
              replace h := bs h
              obtain ⟨x48, hx48, h⟩ := h
              refine gf_q_108 hx hb hts hown hK hG hW (gN_s hx48) d_q_work_136 ?_
              refine lv_iload_n hx hb d_q_work_139 rfl (lv_at hl 4 rfl) ?_
              refine lv_iconst (v := (1 : Int32)) hx hb d_q_work_140 (by decide) ?_
              refine lv_isub hx hb d_q_work_141 ?_
              refine lv_aload_n hx hb d_q_work_142 rfl (lv_at hl 2 rfl) ?_
              replace h := bs h
              obtain ⟨x49, hx49, h⟩ := h
              refine gf_q_105 hx hb hts hown hK hG hW (gN_s hx49) d_q_work_143 ?_
              refine lv_iconst (v := (4 : Int32)) hx hb d_q_work_146 (by decide) ?_
              refine lv_iload hx hb d_q_work_147 (lv_at hl 0 rfl) ?_
              refine lv_imul hx hb d_q_work_149 ?_
              refine lv_aload_n hx hb d_q_work_150 rfl (lv_at hl 2 rfl) ?_
              replace h := bs h
              obtain ⟨x50, hx50, h⟩ := h
              refine gf_q_108 hx hb hts hown hK hG hW (gN_s hx50) d_q_work_151 ?_
              refine lv_iload_n hx hb d_q_work_154 rfl (lv_at hl 4 rfl) ?_
              refine lv_iconst (v := (1 : Int32)) hx hb d_q_work_155 (by decide) ?_
              refine lv_isub hx hb d_q_work_156 ?_
              replace h := bs h
              obtain ⟨x51, hx51, h⟩ := h
              refine wo_iald hx hb hK hW (t := 0) rfl hx51 d_q_work_157 ?_
              refine lv_iadd hx hb d_q_work_158 ?_
              replace h := bs h
              obtain ⟨x52, hx52, h⟩ := h
              refine wo_iald hx hb hK hW (t := 0) rfl hx52 d_q_work_159 ?_
              replace h := bs h
              obtain ⟨w53, hw53, h⟩ := h
              refine wo_iast hx hb hK hW (t := 0) rfl hw53 d_q_work_160 (fun H locs hW => ?_)
              refine lv_goto (tgt := 345) hx hb d_q_work_161 (by decide) ?_
              exact j_q_work_345 C ih y0 y2 y3 y4 w53 h _ _ _ hW (lv_sub hl [2, 3, 4, 5] rfl)
            · rw [if_pos c47] at h
              refine lv_aload_n hx hb d_q_work_122 rfl (lv_at hl 2 rfl) ?_
              refine lv_iconst (v := (2 : Int32)) hx hb d_q_work_123 (by decide) ?_
              refine lv_aload_n hx hb d_q_work_124 rfl (lv_at hl 2 rfl) ?_
              replace h := bs h
              obtain ⟨x54, hx54, h⟩ := h
              refine gf_q_78 hx hb hts hown hK hG hW (gN_s hx54) d_q_work_125 ?_
              refine lv_iload hx hb d_q_work_128 (lv_at hl 5 rfl) ?_
              replace h := bs h
              obtain ⟨x55, hx55, h⟩ := h
              refine wo_iald hx hb hK hW (t := 0) rfl hx55 d_q_work_130 ?_
              replace h := bs2 h
              obtain ⟨x57, w56, hw56, h⟩ := h
              refine cv_q_334 (As := [.int (2 : Int32), .int x55]) (rest := []) hx hb hml hown hts hK hG hW (c_q_stop l D cA base hw56) (kb_q_stop hw56) ⟨Nat.le_of_ble_eq_true rfl, Nat.le_of_ble_eq_true rfl⟩ ⟨Nat.le_of_ble_eq_true rfl, Nat.le_of_ble_eq_true rfl⟩ rfl hl.1 rfl (Nat.le_of_ble_eq_true rfl) d_q_work_131 (fun H locs hW => ?_)
              replace h := its h
              obtain ⟨c58, h⟩ := h
              cases h
              exact wo_zret hx hb hr hlk hW c58 d_q_work_134
        · rw [if_pos c11] at h
          refine lv_aload_n hx hb d_q_work_55 rfl (lv_at hl 2 rfl) ?_
          replace h := bs h
          obtain ⟨x59, hx59, h⟩ := h
          refine gf_q_114 hx hb hts hown hK hG hW (gN_s hx59) d_q_work_56 ?_
          refine lv_iload hx hb d_q_work_59 (lv_at hl 0 rfl) ?_
          replace h := bs h
          obtain ⟨x60, hx60, h⟩ := h
          refine wo_zald hx hb hK hW (t := 2) rfl hx60 d_q_work_61 ?_
          refine lv_if_ne (tgt := 78) hx hb d_q_work_62 (by decide) (fun c61 => ?_) (fun c61 => ?_)
          · rw [if_neg c61] at h
            refine lv_aload_n hx hb d_q_work_78 rfl (lv_at hl 2 rfl) ?_
            replace h := bs h
            obtain ⟨x62, hx62, h⟩ := h
            refine gf_q_108 hx hb hts hown hK hG hW (gN_s hx62) d_q_work_79 ?_
            refine lv_iload_n hx hb d_q_work_82 rfl (lv_at hl 4 rfl) ?_
            refine lv_iinc (v := (y3 + (1 : Int32))) (lv' := [(3, .int (y3 + (1 : Int32))), (6, .int x9), (5, .int x7), (0, .ref (base + y0)), (2, .int y2), (4, .int y4)]) hx hb d_q_work_83 hl (k := 4) rfl rfl (by decide) rfl (fun ls hl => ?_)
            refine lv_aload_n hx hb d_q_work_86 rfl (lv_at hl 3 rfl) ?_
            replace h := bs h
            obtain ⟨x63, hx63, h⟩ := h
            refine gf_q_102 hx hb hts hown hK hG hW (gN_s hx63) d_q_work_87 ?_
            refine lv_iload hx hb d_q_work_90 (lv_at hl 1 rfl) ?_
            replace h := bs h
            obtain ⟨x64, hx64, h⟩ := h
            refine wo_iald hx hb hK hW (t := 0) rfl hx64 d_q_work_92 ?_
            replace h := bs h
            obtain ⟨w65, hw65, h⟩ := h
            refine wo_iast hx hb hK hW (t := 0) rfl hw65 d_q_work_93 (fun H locs hW => ?_)
            refine lv_goto (tgt := 345) hx hb d_q_work_94 (by decide) ?_
            exact j_q_work_345 C ih y0 y2 (y3 + (1 : Int32)) y4 w65 h _ _ _ hW (lv_sub hl [3, 4, 0, 5] rfl)
          · rw [if_pos c61] at h
            refine lv_aload_n hx hb d_q_work_65 rfl (lv_at hl 2 rfl) ?_
            refine lv_iconst (v := (1 : Int32)) hx hb d_q_work_66 (by decide) ?_
            refine lv_aload_n hx hb d_q_work_67 rfl (lv_at hl 2 rfl) ?_
            replace h := bs h
            obtain ⟨x66, hx66, h⟩ := h
            refine gf_q_78 hx hb hts hown hK hG hW (gN_s hx66) d_q_work_68 ?_
            refine lv_iload hx hb d_q_work_71 (lv_at hl 5 rfl) ?_
            replace h := bs h
            obtain ⟨x67, hx67, h⟩ := h
            refine wo_iald hx hb hK hW (t := 0) rfl hx67 d_q_work_73 ?_
            replace h := bs2 h
            obtain ⟨x69, w68, hw68, h⟩ := h
            refine cv_q_334 (As := [.int (1 : Int32), .int x67]) (rest := []) hx hb hml hown hts hK hG hW (c_q_stop l D cA base hw68) (kb_q_stop hw68) ⟨Nat.le_of_ble_eq_true rfl, Nat.le_of_ble_eq_true rfl⟩ ⟨Nat.le_of_ble_eq_true rfl, Nat.le_of_ble_eq_true rfl⟩ rfl hl.1 rfl (Nat.le_of_ble_eq_true rfl) d_q_work_74 (fun H locs hW => ?_)
            replace h := its h
            obtain ⟨c70, h⟩ := h
            cases h
            exact wo_zret hx hb hr hlk hW c70 d_q_work_77
      · rw [if_pos c10] at h
        refine lv_aload_n hx hb d_q_work_35 rfl (lv_at hl 2 rfl) ?_
        replace h := bs h
        obtain ⟨x71, hx71, h⟩ := h
        refine gf_q_108 hx hb hts hown hK hG hW (gN_s hx71) d_q_work_36 ?_
        refine lv_iload_n hx hb d_q_work_39 rfl (lv_at hl 4 rfl) ?_
        refine lv_iinc (v := (y3 + (1 : Int32))) (lv' := [(3, .int (y3 + (1 : Int32))), (6, .int x9), (5, .int x7), (0, .ref (base + y0)), (2, .int y2), (4, .int y4)]) hx hb d_q_work_40 hl (k := 4) rfl rfl (by decide) rfl (fun ls hl => ?_)
        refine lv_iload hx hb d_q_work_43 (lv_at hl 1 rfl) ?_
        replace h := bs h
        obtain ⟨w72, hw72, h⟩ := h
        refine wo_iast hx hb hK hW (t := 0) rfl hw72 d_q_work_45 (fun H locs hW => ?_)
        refine lv_goto (tgt := 345) hx hb d_q_work_46 (by decide) ?_
        exact j_q_work_345 C ih y0 y2 (y3 + (1 : Int32)) y4 w72 h _ _ _ hW (lv_sub hl [3, 4, 0, 5] rfl)
set_option maxHeartbeats 4000000 in
set_option maxRecDepth 100000 in
theorem c_q_work (l : Launch) (D : va_G) (cA : Nat → ClassId) (base : Nat) {a0 : Nat} {a1 : Int32} {a2 : Int32} {w w' : WW} {r : Int32} (h : f_q_work a0 a1 a2 w = some (r, w')) : mt l D cls (wo_tys cA) cA base y_q_work (Cond.code y_q_work b_q_work 13 (some .boolean) :: gt) rm_q_work [.ref (base + a0), .int a1, .int a2] w (some (.int r)) w' rm_q_work.cells rm_q_work.slots := by
  refine mt_start (by decide) (Nat.le_of_ble_eq_true rfl) ?_
  intro p e s m below meth c ls hx hb hr hml hown hts hlk hnm hK hG hW hl
  have C : cx b_q_work (some .boolean) 13 y_q_work.cls "work" p s m [.ref (base + a0), .int a1, .int a2].toArray meth c D cA base := ⟨hx, hb, hr, hml, hown, hts, hlk, hnm, hK, hG⟩
  have hl : lv_has ls 13 [(0, .ref (base + a0)), (1, .int a1), (2, .int a2)] := hl
  unfold f_q_work at h
  replace h := its h
  obtain ⟨-, h⟩ := h
  refine lv_iconst (v := (0 : Int32)) hx hb d_q_work_0 (by decide) ?_
  refine lv_istore_n (lv' := [(3, .int (0 : Int32)), (0, .ref (base + a0)), (1, .int a1), (2, .int a2)]) hx hb d_q_work_1 rfl hl (by decide) rfl (fun ls hl => ?_)
  refine lv_iload_n hx hb d_q_work_2 rfl (lv_at hl 2 rfl) ?_
  refine lv_istore (lv' := [(4, .int a1), (3, .int (0 : Int32)), (0, .ref (base + a0)), (1, .int a1), (2, .int a2)]) hx hb d_q_work_3 hl (by decide) rfl (fun ls hl => ?_)
  exact j_q_work_5 C KK a0 a2 (0 : Int32) a1 w h _ _ _ hW (lv_sub hl [2, 4, 1, 0] rfl)
