/-! Methods as functions, and their contracts (by wip/gen/run.py). -/
theorem cv_q_492 {p : Program} {l : Launch} {e : Env} {R : Room} {s : State} {m : MethodId} {args : Array Value} {below : List Frame} {meth : Method} {c : Code} {H : Heap} {locs : List Loc} {cells slots : Nat} {Q : State → Prop} {D : va_G} {cA : Nat → ClassId} {base : Nat} {w w' : WW} {cc : ByteArray} {pc nL : Nat} {ls : Array Slot} {rest st0 As : List Value} {ov : Option Value} {b : Nat} (hx : p.tables.exec = Jvm.exec) (hb : c.code = cc) (hml : c.maxLocals = nL) (hown : s.vm.findClass Rc_q = some m.cls) (hts : ∀ w ∈ gt, w.before args s = true) (hK : va_K D cls (wo_tys cA) s) (hG : wo_G cA base s) (hW : wo_S D cls cA base s w H locs) (hM : mt l D cls (wo_tys cA) cA base y_q_joinState (Cond.code y_q_joinState b_q_joinState 6 (none) :: gt) rm_q_joinState (.ref (base + b) :: As) w ov w' rm_q_joinState.cells rm_q_joinState.slots) (hkb : kb w b 9 = true) (hR : rm_q_joinState.frames + 1 ≤ R.frames ∧ 8 + (6 + 11) + rm_q_joinState.locals ≤ R.locals) (hf : cells + rm_q_joinState.cells ≤ R.cells ∧ slots + rm_q_joinState.slots ≤ R.slots) (hn : As.length = 4) (hsz : ls.size = nL) (hst : st0 = As.reverse ++ .ref (base + b) :: rest) (hcat : (rest.map fun v => v.category).sum ≤ 8) (hdg : decode cc pc = .ok (.invokevirtual 492, 3)) (kk : ∀ (H1 : Heap) (locs1 : List Loc), wo_S D cls cA base s w' H1 locs1 → W p l e R s m args below meth c H1 locs1 (cells + rm_q_joinState.cells) (slots + rm_q_joinState.slots) Q (F0 m (pc + 3) ls (ov.toList ++ rest))) : W p l e R s m args below meth c H locs cells slots Q (F0 m pc ls st0) :=
  wo_callV (C := Rc_q) hx hb hml hown hts hK hG hW hM hkb rfl (gt_of (i := 1683) (by decide +kernel) (by decide +kernel)) (gt_of (i := 1685) (by decide +kernel) (by decide +kernel)) (gt_sel (i := 110) (by decide +kernel) (by decide +kernel)) (gt_of (i := 10) (by decide +kernel) (by decide +kernel)) (gt_of (i := 1686) (by decide +kernel) (by decide +kernel)) (by decide +kernel) hR hf hn hsz hst hcat hdg kk
abbrev b_q_endIf : ByteArray := prog_11_method_82_code
def y_q_endIf : MethodName := ⟨"AlarmForgeModel", "endIf", "(II)I"⟩
def rm_q_endIf : Room := { frames := 6, cells := 0, slots := 0, locals := 168 }
theorem d_q_endIf_0 : decode b_q_endIf 0 = .ok (.aload_n 0, 1) := by decide +kernel
theorem d_q_endIf_1 : decode b_q_endIf 1 = .ok (.getfield 142, 3) := by decide +kernel
theorem d_q_endIf_4 : decode b_q_endIf 4 = .ok (.aload_n 0, 1) := by decide +kernel
theorem d_q_endIf_5 : decode b_q_endIf 5 = .ok (.getfield 489, 3) := by decide +kernel
theorem d_q_endIf_8 : decode b_q_endIf 8 = .ok (.iconst 1, 1) := by decide +kernel
theorem d_q_endIf_9 : decode b_q_endIf 9 = .ok (.isub, 1) := by decide +kernel
theorem d_q_endIf_10 : decode b_q_endIf 10 = .ok (.iaload, 1) := by decide +kernel
theorem d_q_endIf_11 : decode b_q_endIf 11 = .ok (.ifCond .ne (51), 3) := by decide +kernel
theorem d_q_endIf_14 : decode b_q_endIf 14 = .ok (.aload_n 0, 1) := by decide +kernel
theorem d_q_endIf_15 : decode b_q_endIf 15 = .ok (.iload_n 2, 1) := by decide +kernel
theorem d_q_endIf_16 : decode b_q_endIf 16 = .ok (.iconst 2, 1) := by decide +kernel
theorem d_q_endIf_17 : decode b_q_endIf 17 = .ok (.iadd, 1) := by decide +kernel
theorem d_q_endIf_18 : decode b_q_endIf 18 = .ok (.iconst 0, 1) := by decide +kernel
theorem d_q_endIf_19 : decode b_q_endIf 19 = .ok (.invokevirtual 445, 3) := by decide +kernel
theorem d_q_endIf_22 : decode b_q_endIf 22 = .ok (.aload_n 0, 1) := by decide +kernel
theorem d_q_endIf_23 : decode b_q_endIf 23 = .ok (.iconst 0, 1) := by decide +kernel
theorem d_q_endIf_24 : decode b_q_endIf 24 = .ok (.iload_n 2, 1) := by decide +kernel
theorem d_q_endIf_25 : decode b_q_endIf 25 = .ok (.invokevirtual 445, 3) := by decide +kernel
theorem d_q_endIf_28 : decode b_q_endIf 28 = .ok (.aload_n 0, 1) := by decide +kernel
theorem d_q_endIf_29 : decode b_q_endIf 29 = .ok (.iload_n 1, 1) := by decide +kernel
theorem d_q_endIf_30 : decode b_q_endIf 30 = .ok (.iconst 0, 1) := by decide +kernel
theorem d_q_endIf_31 : decode b_q_endIf 31 = .ok (.invokevirtual 485, 3) := by decide +kernel
theorem d_q_endIf_34 : decode b_q_endIf 34 = .ok (.aload_n 0, 1) := by decide +kernel
theorem d_q_endIf_35 : decode b_q_endIf 35 = .ok (.getfield 142, 3) := by decide +kernel
theorem d_q_endIf_38 : decode b_q_endIf 38 = .ok (.aload_n 0, 1) := by decide +kernel
theorem d_q_endIf_39 : decode b_q_endIf 39 = .ok (.getfield 489, 3) := by decide +kernel
theorem d_q_endIf_42 : decode b_q_endIf 42 = .ok (.iconst 1, 1) := by decide +kernel
theorem d_q_endIf_43 : decode b_q_endIf 43 = .ok (.isub, 1) := by decide +kernel
theorem d_q_endIf_44 : decode b_q_endIf 44 = .ok (.iconst 1, 1) := by decide +kernel
theorem d_q_endIf_45 : decode b_q_endIf 45 = .ok (.iastore, 1) := by decide +kernel
theorem d_q_endIf_46 : decode b_q_endIf 46 = .ok (.aload_n 0, 1) := by decide +kernel
theorem d_q_endIf_47 : decode b_q_endIf 47 = .ok (.getfield 59, 3) := by decide +kernel
theorem d_q_endIf_50 : decode b_q_endIf 50 = .ok (.iload_n 1, 1) := by decide +kernel
theorem d_q_endIf_51 : decode b_q_endIf 51 = .ok (.baload, 1) := by decide +kernel
theorem d_q_endIf_52 : decode b_q_endIf 52 = .ok (.ifCond .eq (10), 3) := by decide +kernel
theorem d_q_endIf_55 : decode b_q_endIf 55 = .ok (.aload_n 0, 1) := by decide +kernel
theorem d_q_endIf_56 : decode b_q_endIf 56 = .ok (.getfield 53, 3) := by decide +kernel
theorem d_q_endIf_59 : decode b_q_endIf 59 = .ok (.iload_n 1, 1) := by decide +kernel
theorem d_q_endIf_60 : decode b_q_endIf 60 = .ok (.iaload, 1) := by decide +kernel
theorem d_q_endIf_61 : decode b_q_endIf 61 = .ok (.ireturn, 1) := by decide +kernel
theorem d_q_endIf_62 : decode b_q_endIf 62 = .ok (.aload_n 0, 1) := by decide +kernel
theorem d_q_endIf_63 : decode b_q_endIf 63 = .ok (.iconst 1, 1) := by decide +kernel
theorem d_q_endIf_64 : decode b_q_endIf 64 = .ok (.iload_n 2, 1) := by decide +kernel
theorem d_q_endIf_65 : decode b_q_endIf 65 = .ok (.iconst 2, 1) := by decide +kernel
theorem d_q_endIf_66 : decode b_q_endIf 66 = .ok (.iadd, 1) := by decide +kernel
theorem d_q_endIf_67 : decode b_q_endIf 67 = .ok (.iconst 0, 1) := by decide +kernel
theorem d_q_endIf_68 : decode b_q_endIf 68 = .ok (.iconst 0, 1) := by decide +kernel
theorem d_q_endIf_69 : decode b_q_endIf 69 = .ok (.invokevirtual 492, 3) := by decide +kernel
theorem d_q_endIf_72 : decode b_q_endIf 72 = .ok (.aload_n 0, 1) := by decide +kernel
theorem d_q_endIf_73 : decode b_q_endIf 73 = .ok (.iconst 0, 1) := by decide +kernel
theorem d_q_endIf_74 : decode b_q_endIf 74 = .ok (.iconst 1, 1) := by decide +kernel
theorem d_q_endIf_75 : decode b_q_endIf 75 = .ok (.invokevirtual 445, 3) := by decide +kernel
theorem d_q_endIf_78 : decode b_q_endIf 78 = .ok (.aload_n 0, 1) := by decide +kernel
theorem d_q_endIf_79 : decode b_q_endIf 79 = .ok (.dup, 1) := by decide +kernel
theorem d_q_endIf_80 : decode b_q_endIf 80 = .ok (.getfield 489, 3) := by decide +kernel
theorem d_q_endIf_83 : decode b_q_endIf 83 = .ok (.iconst 1, 1) := by decide +kernel
theorem d_q_endIf_84 : decode b_q_endIf 84 = .ok (.isub, 1) := by decide +kernel
theorem d_q_endIf_85 : decode b_q_endIf 85 = .ok (.putfield 489, 3) := by decide +kernel
theorem d_q_endIf_88 : decode b_q_endIf 88 = .ok (.aload_n 0, 1) := by decide +kernel
theorem d_q_endIf_89 : decode b_q_endIf 89 = .ok (.getfield 56, 3) := by decide +kernel
theorem d_q_endIf_92 : decode b_q_endIf 92 = .ok (.iload_n 1, 1) := by decide +kernel
theorem d_q_endIf_93 : decode b_q_endIf 93 = .ok (.iaload, 1) := by decide +kernel
theorem d_q_endIf_94 : decode b_q_endIf 94 = .ok (.ireturn, 1) := by decide +kernel
theorem kb_q_endIf {a0 : Nat} {a1 : Int32} {a2 : Int32} {w : WW} {r : (Int32 × WW)} (h : f_q_endIf a0 a1 a2 w = some r) : kb w a0 9 = true := (its h).1
set_option maxHeartbeats 4000000 in
set_option maxRecDepth 100000 in
theorem j_q_endIf_62 {p : Program} {l : Launch} {e : Env} {s : State} {m : MethodId} {args : Array Value} {below : List Frame} {meth : Method} {c : Code} {D : va_G} {cA : Nat → ClassId} {base : Nat} {r : Int32} {w' : WW} (C : cx b_q_endIf (some .int) 3 y_q_endIf.cls "endIf" p s m args meth c D cA base)   : ∀ (y0 : Nat) (y1 : Int32) (y2 : Int32) (w : WW), f_q_endIf_62 y0 y1 y2 w = some (r, w') → ∀ (H : Heap) (locs : List Loc) (ls : Array Slot), wo_S D cls cA base s w H locs → lv_has ls 3 [(0, .ref (base + y0)), (1, .int y1), (2, .int y2)] → W p l e rm_q_endIf s m args below meth c H locs 0 0 (MQ below (wo_Q D cls cA base (some (.int r)) w') args s rm_q_endIf.cells rm_q_endIf.slots (wo_B base)) (F0 m 62 ls []) := by
  obtain ⟨hx, hb, hr, hml, hown, hts, hlk, hnm, hK, hG⟩ := id C
  intro y0 y1 y2 w h H locs ls hW hl
  unfold f_q_endIf_62 at h
  refine lv_aload_n hx hb d_q_endIf_62 rfl (lv_at hl 0 rfl) ?_
  refine lv_iconst (v := (1 : Int32)) hx hb d_q_endIf_63 (by decide) ?_
  refine lv_iload_n hx hb d_q_endIf_64 rfl (lv_at hl 2 rfl) ?_
  refine lv_iconst (v := (2 : Int32)) hx hb d_q_endIf_65 (by decide) ?_
  refine lv_iadd hx hb d_q_endIf_66 ?_
  refine lv_iconst (v := (0 : Int32)) hx hb d_q_endIf_67 (by decide) ?_
  refine lv_iconst (v := (0 : Int32)) hx hb d_q_endIf_68 (by decide) ?_
  replace h := bs h
  obtain ⟨w5, hw5, h⟩ := h
  refine cv_q_492 (As := [.int (1 : Int32), .int (y2 + (2 : Int32)), .int (0 : Int32), .int (0 : Int32)]) (rest := []) hx hb hml hown hts hK hG hW (c_q_joinState l D cA base hw5) (kb_q_joinState hw5) ⟨Nat.le_of_ble_eq_true rfl, Nat.le_of_ble_eq_true rfl⟩ ⟨Nat.le_of_ble_eq_true rfl, Nat.le_of_ble_eq_true rfl⟩ rfl hl.1 rfl (Nat.le_of_ble_eq_true rfl) d_q_endIf_69 (fun H locs hW => ?_)
  refine lv_aload_n hx hb d_q_endIf_72 rfl (lv_at hl 0 rfl) ?_
  refine lv_iconst (v := (0 : Int32)) hx hb d_q_endIf_73 (by decide) ?_
  refine lv_iconst (v := (1 : Int32)) hx hb d_q_endIf_74 (by decide) ?_
  replace h := bs h
  obtain ⟨w6, hw6, h⟩ := h
  refine cv_q_445 (As := [.int (0 : Int32), .int (1 : Int32)]) (rest := []) hx hb hml hown hts hK hG hW (c_q_copyState l D cA base hw6) (kb_q_copyState hw6) ⟨Nat.le_of_ble_eq_true rfl, Nat.le_of_ble_eq_true rfl⟩ ⟨Nat.le_of_ble_eq_true rfl, Nat.le_of_ble_eq_true rfl⟩ rfl hl.1 rfl (Nat.le_of_ble_eq_true rfl) d_q_endIf_75 (fun H locs hW => ?_)
  refine lv_aload_n hx hb d_q_endIf_78 rfl (lv_at hl 0 rfl) ?_
  refine lv_dup hx hb d_q_endIf_79 rfl ?_
  replace h := bs h
  obtain ⟨x7, hx7, h⟩ := h
  refine gf_q_489 hx hb hts hown hK hG hW (gI_s hx7) d_q_endIf_80 ?_
  refine lv_iconst (v := (1 : Int32)) hx hb d_q_endIf_83 (by decide) ?_
  refine lv_isub hx hb d_q_endIf_84 ?_
  replace h := bs h
  obtain ⟨w8, hw8, h⟩ := h
  refine pf_q_489 hx hb hts hown hK hG hW rfl rfl (pbi hw8 rfl) d_q_endIf_85 (fun H locs hW => ?_)
  refine lv_aload_n hx hb d_q_endIf_88 rfl (lv_at hl 0 rfl) ?_
  replace h := bs h
  obtain ⟨x9, hx9, h⟩ := h
  refine gf_q_56 hx hb hts hown hK hG hW (gN_s hx9) d_q_endIf_89 ?_
  refine lv_iload_n hx hb d_q_endIf_92 rfl (lv_at hl 1 rfl) ?_
  replace h := bs h
  obtain ⟨x10, hx10, h⟩ := h
  refine wo_iald hx hb hK hW (t := 0) rfl hx10 d_q_endIf_93 ?_
  cases h
  exact wo_iret hx hb hr hlk hW d_q_endIf_94
set_option maxHeartbeats 4000000 in
set_option maxRecDepth 100000 in
theorem c_q_endIf (l : Launch) (D : va_G) (cA : Nat → ClassId) (base : Nat) {a0 : Nat} {a1 : Int32} {a2 : Int32} {w w' : WW} {r : Int32} (h : f_q_endIf a0 a1 a2 w = some (r, w')) : mt l D cls (wo_tys cA) cA base y_q_endIf (Cond.code y_q_endIf b_q_endIf 3 (some .int) :: gt) rm_q_endIf [.ref (base + a0), .int a1, .int a2] w (some (.int r)) w' rm_q_endIf.cells rm_q_endIf.slots := by
  refine mt_start (by decide) (Nat.le_of_ble_eq_true rfl) ?_
  intro p e s m below meth c ls hx hb hr hml hown hts hlk hnm hK hG hW hl
  have C : cx b_q_endIf (some .int) 3 y_q_endIf.cls "endIf" p s m [.ref (base + a0), .int a1, .int a2].toArray meth c D cA base := ⟨hx, hb, hr, hml, hown, hts, hlk, hnm, hK, hG⟩
  have hl : lv_has ls 3 [(0, .ref (base + a0)), (1, .int a1), (2, .int a2)] := hl
  unfold f_q_endIf at h
  replace h := its h
  obtain ⟨-, h⟩ := h
  refine lv_aload_n hx hb d_q_endIf_0 rfl (lv_at hl 0 rfl) ?_
  replace h := bs h
  obtain ⟨x1, hx1, h⟩ := h
  refine gf_q_142 hx hb hts hown hK hG hW (gN_s hx1) d_q_endIf_1 ?_
  refine lv_aload_n hx hb d_q_endIf_4 rfl (lv_at hl 0 rfl) ?_
  replace h := bs h
  obtain ⟨x2, hx2, h⟩ := h
  refine gf_q_489 hx hb hts hown hK hG hW (gI_s hx2) d_q_endIf_5 ?_
  refine lv_iconst (v := (1 : Int32)) hx hb d_q_endIf_8 (by decide) ?_
  refine lv_isub hx hb d_q_endIf_9 ?_
  replace h := bs h
  obtain ⟨x3, hx3, h⟩ := h
  refine wo_iald hx hb hK hW (t := 0) rfl hx3 d_q_endIf_10 ?_
  refine lv_if_ne (tgt := 62) hx hb d_q_endIf_11 (by decide) (fun c4 => ?_) (fun c4 => ?_)
  · rw [if_neg c4] at h
    exact j_q_endIf_62 C a0 a1 a2 w h _ _ _ hW (lv_sub hl [0, 1, 2] rfl)
  · rw [if_pos c4] at h
    refine lv_aload_n hx hb d_q_endIf_14 rfl (lv_at hl 0 rfl) ?_
    refine lv_iload_n hx hb d_q_endIf_15 rfl (lv_at hl 2 rfl) ?_
    refine lv_iconst (v := (2 : Int32)) hx hb d_q_endIf_16 (by decide) ?_
    refine lv_iadd hx hb d_q_endIf_17 ?_
    refine lv_iconst (v := (0 : Int32)) hx hb d_q_endIf_18 (by decide) ?_
    replace h := bs h
    obtain ⟨w11, hw11, h⟩ := h
    refine cv_q_445 (As := [.int (a2 + (2 : Int32)), .int (0 : Int32)]) (rest := []) hx hb hml hown hts hK hG hW (c_q_copyState l D cA base hw11) (kb_q_copyState hw11) ⟨Nat.le_of_ble_eq_true rfl, Nat.le_of_ble_eq_true rfl⟩ ⟨Nat.le_of_ble_eq_true rfl, Nat.le_of_ble_eq_true rfl⟩ rfl hl.1 rfl (Nat.le_of_ble_eq_true rfl) d_q_endIf_19 (fun H locs hW => ?_)
    refine lv_aload_n hx hb d_q_endIf_22 rfl (lv_at hl 0 rfl) ?_
    refine lv_iconst (v := (0 : Int32)) hx hb d_q_endIf_23 (by decide) ?_
    refine lv_iload_n hx hb d_q_endIf_24 rfl (lv_at hl 2 rfl) ?_
    replace h := bs h
    obtain ⟨w12, hw12, h⟩ := h
    refine cv_q_445 (As := [.int (0 : Int32), .int a2]) (rest := []) hx hb hml hown hts hK hG hW (c_q_copyState l D cA base hw12) (kb_q_copyState hw12) ⟨Nat.le_of_ble_eq_true rfl, Nat.le_of_ble_eq_true rfl⟩ ⟨Nat.le_of_ble_eq_true rfl, Nat.le_of_ble_eq_true rfl⟩ rfl hl.1 rfl (Nat.le_of_ble_eq_true rfl) d_q_endIf_25 (fun H locs hW => ?_)
    refine lv_aload_n hx hb d_q_endIf_28 rfl (lv_at hl 0 rfl) ?_
    refine lv_iload_n hx hb d_q_endIf_29 rfl (lv_at hl 1 rfl) ?_
    refine lv_iconst (v := (0 : Int32)) hx hb d_q_endIf_30 (by decide) ?_
    replace h := bs h
    obtain ⟨w13, hw13, h⟩ := h
    refine cv_q_485 (As := [.int a1, .int (0 : Int32)]) (rest := []) hx hb hml hown hts hK hG hW (c_q_assume l D cA base hw13) (kb_q_assume hw13) ⟨Nat.le_of_ble_eq_true rfl, Nat.le_of_ble_eq_true rfl⟩ ⟨Nat.le_of_ble_eq_true rfl, Nat.le_of_ble_eq_true rfl⟩ rfl hl.1 rfl (Nat.le_of_ble_eq_true rfl) d_q_endIf_31 (fun H locs hW => ?_)
    refine lv_aload_n hx hb d_q_endIf_34 rfl (lv_at hl 0 rfl) ?_
    replace h := bs h
    obtain ⟨x14, hx14, h⟩ := h
    refine gf_q_142 hx hb hts hown hK hG hW (gN_s hx14) d_q_endIf_35 ?_
    refine lv_aload_n hx hb d_q_endIf_38 rfl (lv_at hl 0 rfl) ?_
    replace h := bs h
    obtain ⟨x15, hx15, h⟩ := h
    refine gf_q_489 hx hb hts hown hK hG hW (gI_s hx15) d_q_endIf_39 ?_
    refine lv_iconst (v := (1 : Int32)) hx hb d_q_endIf_42 (by decide) ?_
    refine lv_isub hx hb d_q_endIf_43 ?_
    refine lv_iconst (v := (1 : Int32)) hx hb d_q_endIf_44 (by decide) ?_
    replace h := bs h
    obtain ⟨w16, hw16, h⟩ := h
    refine wo_iast hx hb hK hW (t := 0) rfl hw16 d_q_endIf_45 (fun H locs hW => ?_)
    refine lv_aload_n hx hb d_q_endIf_46 rfl (lv_at hl 0 rfl) ?_
    replace h := bs h
    obtain ⟨x17, hx17, h⟩ := h
    refine gf_q_59 hx hb hts hown hK hG hW (gN_s hx17) d_q_endIf_47 ?_
    refine lv_iload_n hx hb d_q_endIf_50 rfl (lv_at hl 1 rfl) ?_
    replace h := bs h
    obtain ⟨x18, hx18, h⟩ := h
    refine wo_zald hx hb hK hW (t := 2) rfl hx18 d_q_endIf_51 ?_
    refine lv_if_eq (tgt := 62) hx hb d_q_endIf_52 (by decide) (fun c19 => ?_) (fun c19 => ?_)
    · rw [if_pos c19] at h
      exact j_q_endIf_62 C a0 a1 a2 w16 h _ _ _ hW (lv_sub hl [0, 1, 2] rfl)
    · rw [if_neg c19] at h
      refine lv_aload_n hx hb d_q_endIf_55 rfl (lv_at hl 0 rfl) ?_
      replace h := bs h
      obtain ⟨x20, hx20, h⟩ := h
      refine gf_q_53 hx hb hts hown hK hG hW (gN_s hx20) d_q_endIf_56 ?_
      refine lv_iload_n hx hb d_q_endIf_59 rfl (lv_at hl 1 rfl) ?_
      replace h := bs h
      obtain ⟨x21, hx21, h⟩ := h
      refine wo_iald hx hb hK hW (t := 0) rfl hx21 d_q_endIf_60 ?_
      cases h
      exact wo_iret hx hb hr hlk hW d_q_endIf_61
abbrev b_q_same : ByteArray := prog_11_method_57_code
def y_q_same : MethodName := ⟨"AlarmForgeModel", "same", "(II)Z"⟩
def rm_q_same : Room := { frames := 0, cells := 0, slots := 0, locals := 0 }
theorem d_q_same_0 : decode b_q_same 0 = .ok (.aload_n 0, 1) := by decide +kernel
theorem d_q_same_1 : decode b_q_same 1 = .ok (.getfield 124, 3) := by decide +kernel
theorem d_q_same_4 : decode b_q_same 4 = .ok (.iload_n 1, 1) := by decide +kernel
theorem d_q_same_5 : decode b_q_same 5 = .ok (.laload, 1) := by decide +kernel
theorem d_q_same_6 : decode b_q_same 6 = .ok (.aload_n 0, 1) := by decide +kernel
theorem d_q_same_7 : decode b_q_same 7 = .ok (.getfield 124, 3) := by decide +kernel
theorem d_q_same_10 : decode b_q_same 10 = .ok (.iload_n 2, 1) := by decide +kernel
theorem d_q_same_11 : decode b_q_same 11 = .ok (.laload, 1) := by decide +kernel
theorem d_q_same_12 : decode b_q_same 12 = .ok (.lcmp, 1) := by decide +kernel
theorem d_q_same_13 : decode b_q_same 13 = .ok (.ifCond .ne (66), 3) := by decide +kernel
theorem d_q_same_16 : decode b_q_same 16 = .ok (.aload_n 0, 1) := by decide +kernel
theorem d_q_same_17 : decode b_q_same 17 = .ok (.getfield 124, 3) := by decide +kernel
theorem d_q_same_20 : decode b_q_same 20 = .ok (.iload_n 1, 1) := by decide +kernel
theorem d_q_same_21 : decode b_q_same 21 = .ok (.laload, 1) := by decide +kernel
theorem d_q_same_22 : decode b_q_same 22 = .ok (.lconst 0, 1) := by decide +kernel
theorem d_q_same_23 : decode b_q_same 23 = .ok (.lcmp, 1) := by decide +kernel
theorem d_q_same_24 : decode b_q_same 24 = .ok (.ifCond .lt (51), 3) := by decide +kernel
theorem d_q_same_27 : decode b_q_same 27 = .ok (.aload_n 0, 1) := by decide +kernel
theorem d_q_same_28 : decode b_q_same 28 = .ok (.getfield 117, 3) := by decide +kernel
theorem d_q_same_31 : decode b_q_same 31 = .ok (.iload_n 1, 1) := by decide +kernel
theorem d_q_same_32 : decode b_q_same 32 = .ok (.laload, 1) := by decide +kernel
theorem d_q_same_33 : decode b_q_same 33 = .ok (.aload_n 0, 1) := by decide +kernel
theorem d_q_same_34 : decode b_q_same 34 = .ok (.getfield 117, 3) := by decide +kernel
theorem d_q_same_37 : decode b_q_same 37 = .ok (.iload_n 2, 1) := by decide +kernel
theorem d_q_same_38 : decode b_q_same 38 = .ok (.laload, 1) := by decide +kernel
theorem d_q_same_39 : decode b_q_same 39 = .ok (.lcmp, 1) := by decide +kernel
theorem d_q_same_40 : decode b_q_same 40 = .ok (.ifCond .ne (39), 3) := by decide +kernel
theorem d_q_same_43 : decode b_q_same 43 = .ok (.aload_n 0, 1) := by decide +kernel
theorem d_q_same_44 : decode b_q_same 44 = .ok (.getfield 121, 3) := by decide +kernel
theorem d_q_same_47 : decode b_q_same 47 = .ok (.iload_n 1, 1) := by decide +kernel
theorem d_q_same_48 : decode b_q_same 48 = .ok (.laload, 1) := by decide +kernel
theorem d_q_same_49 : decode b_q_same 49 = .ok (.aload_n 0, 1) := by decide +kernel
theorem d_q_same_50 : decode b_q_same 50 = .ok (.getfield 121, 3) := by decide +kernel
theorem d_q_same_53 : decode b_q_same 53 = .ok (.iload_n 2, 1) := by decide +kernel
theorem d_q_same_54 : decode b_q_same 54 = .ok (.laload, 1) := by decide +kernel
theorem d_q_same_55 : decode b_q_same 55 = .ok (.lcmp, 1) := by decide +kernel
theorem d_q_same_56 : decode b_q_same 56 = .ok (.ifCond .ne (23), 3) := by decide +kernel
theorem d_q_same_59 : decode b_q_same 59 = .ok (.aload_n 0, 1) := by decide +kernel
theorem d_q_same_60 : decode b_q_same 60 = .ok (.getfield 127, 3) := by decide +kernel
theorem d_q_same_63 : decode b_q_same 63 = .ok (.iload_n 1, 1) := by decide +kernel
theorem d_q_same_64 : decode b_q_same 64 = .ok (.laload, 1) := by decide +kernel
theorem d_q_same_65 : decode b_q_same 65 = .ok (.aload_n 0, 1) := by decide +kernel
theorem d_q_same_66 : decode b_q_same 66 = .ok (.getfield 127, 3) := by decide +kernel
theorem d_q_same_69 : decode b_q_same 69 = .ok (.iload_n 2, 1) := by decide +kernel
theorem d_q_same_70 : decode b_q_same 70 = .ok (.laload, 1) := by decide +kernel
theorem d_q_same_71 : decode b_q_same 71 = .ok (.lcmp, 1) := by decide +kernel
theorem d_q_same_72 : decode b_q_same 72 = .ok (.ifCond .ne (7), 3) := by decide +kernel
theorem d_q_same_75 : decode b_q_same 75 = .ok (.iconst 1, 1) := by decide +kernel
theorem d_q_same_76 : decode b_q_same 76 = .ok (.goto (4), 3) := by decide +kernel
theorem d_q_same_79 : decode b_q_same 79 = .ok (.iconst 0, 1) := by decide +kernel
theorem d_q_same_80 : decode b_q_same 80 = .ok (.ireturn, 1) := by decide +kernel
theorem kb_q_same {a0 : Nat} {a1 : Int32} {a2 : Int32} {w : WW} {r : (Int32 × WW)} (h : f_q_same a0 a1 a2 w = some r) : kb w a0 9 = true := (its h).1
set_option maxHeartbeats 4000000 in
set_option maxRecDepth 100000 in
theorem j_q_same_80 {p : Program} {l : Launch} {e : Env} {s : State} {m : MethodId} {args : Array Value} {below : List Frame} {meth : Method} {c : Code} {D : va_G} {cA : Nat → ClassId} {base : Nat} {r : Int32} {w' : WW} (C : cx b_q_same (some .boolean) 3 y_q_same.cls "same" p s m args meth c D cA base)   : ∀ (z0 : Int32) (w : WW), f_q_same_80 z0 w = some (r, w') → ∀ (H : Heap) (locs : List Loc) (ls : Array Slot), wo_S D cls cA base s w H locs → lv_has ls 3 [] → W p l e rm_q_same s m args below meth c H locs 0 0 (MQ below (wo_Q D cls cA base (some (.int r)) w') args s rm_q_same.cells rm_q_same.slots (wo_B base)) (F0 m 80 ls [.int z0]) := by
  obtain ⟨hx, hb, hr, hml, hown, hts, hlk, hnm, hK, hG⟩ := id C
  intro z0 w h H locs ls hW hl
  unfold f_q_same_80 at h
  replace h := its h
  obtain ⟨c6, h⟩ := h
  cases h
  exact wo_zret hx hb hr hlk hW c6 d_q_same_80
set_option maxHeartbeats 4000000 in
set_option maxRecDepth 100000 in
theorem j_q_same_79 {p : Program} {l : Launch} {e : Env} {s : State} {m : MethodId} {args : Array Value} {below : List Frame} {meth : Method} {c : Code} {D : va_G} {cA : Nat → ClassId} {base : Nat} {r : Int32} {w' : WW} (C : cx b_q_same (some .boolean) 3 y_q_same.cls "same" p s m args meth c D cA base)   : ∀  (w : WW), f_q_same_79  w = some (r, w') → ∀ (H : Heap) (locs : List Loc) (ls : Array Slot), wo_S D cls cA base s w H locs → lv_has ls 3 [] → W p l e rm_q_same s m args below meth c H locs 0 0 (MQ below (wo_Q D cls cA base (some (.int r)) w') args s rm_q_same.cells rm_q_same.slots (wo_B base)) (F0 m 79 ls []) := by
  obtain ⟨hx, hb, hr, hml, hown, hts, hlk, hnm, hK, hG⟩ := id C
  intro  w h H locs ls hW hl
  unfold f_q_same_79 at h
  refine lv_iconst (v := (0 : Int32)) hx hb d_q_same_79 (by decide) ?_
  exact j_q_same_80 C (0 : Int32) w h _ _ _ hW (lv_sub hl [] rfl)
set_option maxHeartbeats 4000000 in
set_option maxRecDepth 100000 in
theorem j_q_same_75 {p : Program} {l : Launch} {e : Env} {s : State} {m : MethodId} {args : Array Value} {below : List Frame} {meth : Method} {c : Code} {D : va_G} {cA : Nat → ClassId} {base : Nat} {r : Int32} {w' : WW} (C : cx b_q_same (some .boolean) 3 y_q_same.cls "same" p s m args meth c D cA base)   : ∀  (w : WW), f_q_same_75  w = some (r, w') → ∀ (H : Heap) (locs : List Loc) (ls : Array Slot), wo_S D cls cA base s w H locs → lv_has ls 3 [] → W p l e rm_q_same s m args below meth c H locs 0 0 (MQ below (wo_Q D cls cA base (some (.int r)) w') args s rm_q_same.cells rm_q_same.slots (wo_B base)) (F0 m 75 ls []) := by
  obtain ⟨hx, hb, hr, hml, hown, hts, hlk, hnm, hK, hG⟩ := id C
  intro  w h H locs ls hW hl
  unfold f_q_same_75 at h
  refine lv_iconst (v := (1 : Int32)) hx hb d_q_same_75 (by decide) ?_
  refine lv_goto (tgt := 80) hx hb d_q_same_76 (by decide) ?_
  exact j_q_same_80 C (1 : Int32) w h _ _ _ hW (lv_sub hl [] rfl)
set_option maxHeartbeats 4000000 in
set_option maxRecDepth 100000 in
theorem c_q_same (l : Launch) (D : va_G) (cA : Nat → ClassId) (base : Nat) {a0 : Nat} {a1 : Int32} {a2 : Int32} {w w' : WW} {r : Int32} (h : f_q_same a0 a1 a2 w = some (r, w')) : mt l D cls (wo_tys cA) cA base y_q_same (Cond.code y_q_same b_q_same 3 (some .boolean) :: gt) rm_q_same [.ref (base + a0), .int a1, .int a2] w (some (.int r)) w' rm_q_same.cells rm_q_same.slots := by
  refine mt_start (by decide) (Nat.le_of_ble_eq_true rfl) ?_
  intro p e s m below meth c ls hx hb hr hml hown hts hlk hnm hK hG hW hl
  have C : cx b_q_same (some .boolean) 3 y_q_same.cls "same" p s m [.ref (base + a0), .int a1, .int a2].toArray meth c D cA base := ⟨hx, hb, hr, hml, hown, hts, hlk, hnm, hK, hG⟩
  have hl : lv_has ls 3 [(0, .ref (base + a0)), (1, .int a1), (2, .int a2)] := hl
  unfold f_q_same at h
  replace h := its h
  obtain ⟨-, h⟩ := h
  refine lv_aload_n hx hb d_q_same_0 rfl (lv_at hl 0 rfl) ?_
  replace h := bs h
  obtain ⟨x1, hx1, h⟩ := h
  refine gf_q_124 hx hb hts hown hK hG hW (gN_s hx1) d_q_same_1 ?_
  refine lv_iload_n hx hb d_q_same_4 rfl (lv_at hl 1 rfl) ?_
  replace h := bs h
  obtain ⟨x2, hx2, h⟩ := h
  refine wo_lald hx hb hK hW (t := 1) rfl hx2 d_q_same_5 ?_
  refine lv_aload_n hx hb d_q_same_6 rfl (lv_at hl 0 rfl) ?_
  replace h := bs h
  obtain ⟨x3, hx3, h⟩ := h
  refine gf_q_124 hx hb hts hown hK hG hW (gN_s hx3) d_q_same_7 ?_
  refine lv_iload_n hx hb d_q_same_10 rfl (lv_at hl 2 rfl) ?_
  replace h := bs h
  obtain ⟨x4, hx4, h⟩ := h
  refine wo_lald hx hb hK hW (t := 1) rfl hx4 d_q_same_11 ?_
  refine lc_ne (tgt := 79) hx hb d_q_same_12 d_q_same_13 (by decide) (fun c5 => ?_) (fun c5 => ?_)
  · rw [if_neg c5] at h
    exact j_q_same_79 C w h _ _ _ hW (lv_sub hl [] rfl)
  · rw [if_pos c5] at h
    refine lv_aload_n hx hb d_q_same_16 rfl (lv_at hl 0 rfl) ?_
    replace h := bs h
    obtain ⟨x7, hx7, h⟩ := h
    refine gf_q_124 hx hb hts hown hK hG hW (gN_s hx7) d_q_same_17 ?_
    refine lv_iload_n hx hb d_q_same_20 rfl (lv_at hl 1 rfl) ?_
    replace h := bs h
    obtain ⟨x8, hx8, h⟩ := h
    refine wo_lald hx hb hK hW (t := 1) rfl hx8 d_q_same_21 ?_
    refine lv_lconst (v := (0 : Int64)) hx hb d_q_same_22 (by decide) ?_
    refine lc_lt (tgt := 75) hx hb d_q_same_23 d_q_same_24 (by decide) (fun c9 => ?_) (fun c9 => ?_)
    · rw [if_pos c9] at h
      exact j_q_same_75 C w h _ _ _ hW (lv_sub hl [] rfl)
    · rw [if_neg c9] at h
      refine lv_aload_n hx hb d_q_same_27 rfl (lv_at hl 0 rfl) ?_
      replace h := bs h
      obtain ⟨x10, hx10, h⟩ := h
      refine gf_q_117 hx hb hts hown hK hG hW (gN_s hx10) d_q_same_28 ?_
      refine lv_iload_n hx hb d_q_same_31 rfl (lv_at hl 1 rfl) ?_
      replace h := bs h
      obtain ⟨x11, hx11, h⟩ := h
      refine wo_lald hx hb hK hW (t := 1) rfl hx11 d_q_same_32 ?_
      refine lv_aload_n hx hb d_q_same_33 rfl (lv_at hl 0 rfl) ?_
      replace h := bs h
      obtain ⟨x12, hx12, h⟩ := h
      refine gf_q_117 hx hb hts hown hK hG hW (gN_s hx12) d_q_same_34 ?_
      refine lv_iload_n hx hb d_q_same_37 rfl (lv_at hl 2 rfl) ?_
      replace h := bs h
      obtain ⟨x13, hx13, h⟩ := h
      refine wo_lald hx hb hK hW (t := 1) rfl hx13 d_q_same_38 ?_
      refine lc_ne (tgt := 79) hx hb d_q_same_39 d_q_same_40 (by decide) (fun c14 => ?_) (fun c14 => ?_)
      · rw [if_neg c14] at h
        exact j_q_same_79 C w h _ _ _ hW (lv_sub hl [] rfl)
      · rw [if_pos c14] at h
        refine lv_aload_n hx hb d_q_same_43 rfl (lv_at hl 0 rfl) ?_
        replace h := bs h
        obtain ⟨x15, hx15, h⟩ := h
        refine gf_q_121 hx hb hts hown hK hG hW (gN_s hx15) d_q_same_44 ?_
        refine lv_iload_n hx hb d_q_same_47 rfl (lv_at hl 1 rfl) ?_
        replace h := bs h
        obtain ⟨x16, hx16, h⟩ := h
        refine wo_lald hx hb hK hW (t := 1) rfl hx16 d_q_same_48 ?_
        refine lv_aload_n hx hb d_q_same_49 rfl (lv_at hl 0 rfl) ?_
        replace h := bs h
        obtain ⟨x17, hx17, h⟩ := h
        refine gf_q_121 hx hb hts hown hK hG hW (gN_s hx17) d_q_same_50 ?_
        refine lv_iload_n hx hb d_q_same_53 rfl (lv_at hl 2 rfl) ?_
        replace h := bs h
        obtain ⟨x18, hx18, h⟩ := h
        refine wo_lald hx hb hK hW (t := 1) rfl hx18 d_q_same_54 ?_
        refine lc_ne (tgt := 79) hx hb d_q_same_55 d_q_same_56 (by decide) (fun c19 => ?_) (fun c19 => ?_)
        · rw [if_neg c19] at h
          exact j_q_same_79 C w h _ _ _ hW (lv_sub hl [] rfl)
        · rw [if_pos c19] at h
          refine lv_aload_n hx hb d_q_same_59 rfl (lv_at hl 0 rfl) ?_
          replace h := bs h
          obtain ⟨x20, hx20, h⟩ := h
          refine gf_q_127 hx hb hts hown hK hG hW (gN_s hx20) d_q_same_60 ?_
          refine lv_iload_n hx hb d_q_same_63 rfl (lv_at hl 1 rfl) ?_
          replace h := bs h
          obtain ⟨x21, hx21, h⟩ := h
          refine wo_lald hx hb hK hW (t := 1) rfl hx21 d_q_same_64 ?_
          refine lv_aload_n hx hb d_q_same_65 rfl (lv_at hl 0 rfl) ?_
          replace h := bs h
          obtain ⟨x22, hx22, h⟩ := h
          refine gf_q_127 hx hb hts hown hK hG hW (gN_s hx22) d_q_same_66 ?_
          refine lv_iload_n hx hb d_q_same_69 rfl (lv_at hl 2 rfl) ?_
          replace h := bs h
          obtain ⟨x23, hx23, h⟩ := h
          refine wo_lald hx hb hK hW (t := 1) rfl hx23 d_q_same_70 ?_
          refine lc_ne (tgt := 79) hx hb d_q_same_71 d_q_same_72 (by decide) (fun c24 => ?_) (fun c24 => ?_)
          · rw [if_neg c24] at h
            exact j_q_same_79 C w h _ _ _ hW (lv_sub hl [] rfl)
          · rw [if_pos c24] at h
            exact j_q_same_75 C w h _ _ _ hW (lv_sub hl [] rfl)
theorem cv_q_451 {p : Program} {l : Launch} {e : Env} {R : Room} {s : State} {m : MethodId} {args : Array Value} {below : List Frame} {meth : Method} {c : Code} {H : Heap} {locs : List Loc} {cells slots : Nat} {Q : State → Prop} {D : va_G} {cA : Nat → ClassId} {base : Nat} {w w' : WW} {cc : ByteArray} {pc nL : Nat} {ls : Array Slot} {rest st0 As : List Value} {ov : Option Value} {b : Nat} (hx : p.tables.exec = Jvm.exec) (hb : c.code = cc) (hml : c.maxLocals = nL) (hown : s.vm.findClass Rc_q = some m.cls) (hts : ∀ w ∈ gt, w.before args s = true) (hK : va_K D cls (wo_tys cA) s) (hG : wo_G cA base s) (hW : wo_S D cls cA base s w H locs) (hM : mt l D cls (wo_tys cA) cA base y_q_same (Cond.code y_q_same b_q_same 3 (some .boolean) :: gt) rm_q_same (.ref (base + b) :: As) w ov w' rm_q_same.cells rm_q_same.slots) (hkb : kb w b 9 = true) (hR : rm_q_same.frames + 1 ≤ R.frames ∧ 8 + (3 + 11) + rm_q_same.locals ≤ R.locals) (hf : cells + rm_q_same.cells ≤ R.cells ∧ slots + rm_q_same.slots ≤ R.slots) (hn : As.length = 2) (hsz : ls.size = nL) (hst : st0 = As.reverse ++ .ref (base + b) :: rest) (hcat : (rest.map fun v => v.category).sum ≤ 8) (hdg : decode cc pc = .ok (.invokevirtual 451, 3)) (kk : ∀ (H1 : Heap) (locs1 : List Loc), wo_S D cls cA base s w' H1 locs1 → W p l e R s m args below meth c H1 locs1 (cells + rm_q_same.cells) (slots + rm_q_same.slots) Q (F0 m (pc + 3) ls (ov.toList ++ rest))) : W p l e R s m args below meth c H locs cells slots Q (F0 m pc ls st0) :=
  wo_callV (C := Rc_q) hx hb hml hown hts hK hG hW hM hkb rfl (gt_of (i := 1708) (by decide +kernel) (by decide +kernel)) (gt_of (i := 1710) (by decide +kernel) (by decide +kernel)) (gt_sel (i := 114) (by decide +kernel) (by decide +kernel)) (gt_of (i := 10) (by decide +kernel) (by decide +kernel)) (gt_of (i := 1711) (by decide +kernel) (by decide +kernel)) (by decide +kernel) hR hf hn hsz hst hcat hdg kk
abbrev b_q_sameState : ByteArray := prog_11_method_71_code
def y_q_sameState : MethodName := ⟨"AlarmForgeModel", "sameState", "(II)Z"⟩
def rm_q_sameState : Room := { frames := 1, cells := 0, slots := 0, locals := 22 }
theorem d_q_sameState_0 : decode b_q_sameState 0 = .ok (.aload_n 0, 1) := by decide +kernel
theorem d_q_sameState_1 : decode b_q_sameState 1 = .ok (.getfield 133, 3) := by decide +kernel
theorem d_q_sameState_4 : decode b_q_sameState 4 = .ok (.iload_n 1, 1) := by decide +kernel
theorem d_q_sameState_5 : decode b_q_sameState 5 = .ok (.baload, 1) := by decide +kernel
theorem d_q_sameState_6 : decode b_q_sameState 6 = .ok (.ifCond .ne (12), 3) := by decide +kernel
theorem d_q_sameState_9 : decode b_q_sameState 9 = .ok (.aload_n 0, 1) := by decide +kernel
theorem d_q_sameState_10 : decode b_q_sameState 10 = .ok (.getfield 133, 3) := by decide +kernel
theorem d_q_sameState_13 : decode b_q_sameState 13 = .ok (.iload_n 2, 1) := by decide +kernel
theorem d_q_sameState_14 : decode b_q_sameState 14 = .ok (.baload, 1) := by decide +kernel
theorem d_q_sameState_15 : decode b_q_sameState 15 = .ok (.ifCond .eq (24), 3) := by decide +kernel
theorem d_q_sameState_18 : decode b_q_sameState 18 = .ok (.aload_n 0, 1) := by decide +kernel
theorem d_q_sameState_19 : decode b_q_sameState 19 = .ok (.getfield 133, 3) := by decide +kernel
theorem d_q_sameState_22 : decode b_q_sameState 22 = .ok (.iload_n 1, 1) := by decide +kernel
theorem d_q_sameState_23 : decode b_q_sameState 23 = .ok (.baload, 1) := by decide +kernel
theorem d_q_sameState_24 : decode b_q_sameState 24 = .ok (.aload_n 0, 1) := by decide +kernel
theorem d_q_sameState_25 : decode b_q_sameState 25 = .ok (.getfield 133, 3) := by decide +kernel
theorem d_q_sameState_28 : decode b_q_sameState 28 = .ok (.iload_n 2, 1) := by decide +kernel
theorem d_q_sameState_29 : decode b_q_sameState 29 = .ok (.baload, 1) := by decide +kernel
theorem d_q_sameState_30 : decode b_q_sameState 30 = .ok (.if_icmp .ne (7), 3) := by decide +kernel
theorem d_q_sameState_33 : decode b_q_sameState 33 = .ok (.iconst 1, 1) := by decide +kernel
theorem d_q_sameState_34 : decode b_q_sameState 34 = .ok (.goto (4), 3) := by decide +kernel
theorem d_q_sameState_37 : decode b_q_sameState 37 = .ok (.iconst 0, 1) := by decide +kernel
theorem d_q_sameState_38 : decode b_q_sameState 38 = .ok (.ireturn, 1) := by decide +kernel
theorem d_q_sameState_39 : decode b_q_sameState 39 = .ok (.iconst 0, 1) := by decide +kernel
theorem d_q_sameState_40 : decode b_q_sameState 40 = .ok (.istore_n 3, 1) := by decide +kernel
theorem d_q_sameState_41 : decode b_q_sameState 41 = .ok (.iload_n 3, 1) := by decide +kernel
theorem d_q_sameState_42 : decode b_q_sameState 42 = .ok (.bipush (14), 2) := by decide +kernel
theorem d_q_sameState_44 : decode b_q_sameState 44 = .ok (.if_icmp .ge (34), 3) := by decide +kernel
theorem d_q_sameState_47 : decode b_q_sameState 47 = .ok (.aload_n 0, 1) := by decide +kernel
theorem d_q_sameState_48 : decode b_q_sameState 48 = .ok (.bipush (14), 2) := by decide +kernel
theorem d_q_sameState_50 : decode b_q_sameState 50 = .ok (.iload_n 1, 1) := by decide +kernel
theorem d_q_sameState_51 : decode b_q_sameState 51 = .ok (.imul, 1) := by decide +kernel
theorem d_q_sameState_52 : decode b_q_sameState 52 = .ok (.iload_n 3, 1) := by decide +kernel
theorem d_q_sameState_53 : decode b_q_sameState 53 = .ok (.iadd, 1) := by decide +kernel
theorem d_q_sameState_54 : decode b_q_sameState 54 = .ok (.bipush (14), 2) := by decide +kernel
theorem d_q_sameState_56 : decode b_q_sameState 56 = .ok (.iload_n 2, 1) := by decide +kernel
theorem d_q_sameState_57 : decode b_q_sameState 57 = .ok (.imul, 1) := by decide +kernel
theorem d_q_sameState_58 : decode b_q_sameState 58 = .ok (.iload_n 3, 1) := by decide +kernel
theorem d_q_sameState_59 : decode b_q_sameState 59 = .ok (.iadd, 1) := by decide +kernel
theorem d_q_sameState_60 : decode b_q_sameState 60 = .ok (.invokevirtual 451, 3) := by decide +kernel
theorem d_q_sameState_63 : decode b_q_sameState 63 = .ok (.istore 4, 2) := by decide +kernel
theorem d_q_sameState_65 : decode b_q_sameState 65 = .ok (.iload 4, 2) := by decide +kernel
theorem d_q_sameState_67 : decode b_q_sameState 67 = .ok (.ifCond .ne (5), 3) := by decide +kernel
theorem d_q_sameState_70 : decode b_q_sameState 70 = .ok (.iconst 0, 1) := by decide +kernel
theorem d_q_sameState_71 : decode b_q_sameState 71 = .ok (.ireturn, 1) := by decide +kernel
theorem d_q_sameState_72 : decode b_q_sameState 72 = .ok (.iinc 3 (1), 3) := by decide +kernel
theorem d_q_sameState_75 : decode b_q_sameState 75 = .ok (.goto (-34), 3) := by decide +kernel
theorem d_q_sameState_78 : decode b_q_sameState 78 = .ok (.iconst 0, 1) := by decide +kernel
theorem d_q_sameState_79 : decode b_q_sameState 79 = .ok (.istore_n 3, 1) := by decide +kernel
theorem d_q_sameState_80 : decode b_q_sameState 80 = .ok (.iload_n 3, 1) := by decide +kernel
theorem d_q_sameState_81 : decode b_q_sameState 81 = .ok (.bipush (6), 2) := by decide +kernel
theorem d_q_sameState_83 : decode b_q_sameState 83 = .ok (.if_icmp .ge (36), 3) := by decide +kernel
theorem d_q_sameState_86 : decode b_q_sameState 86 = .ok (.aload_n 0, 1) := by decide +kernel
theorem d_q_sameState_87 : decode b_q_sameState 87 = .ok (.getfield 130, 3) := by decide +kernel
theorem d_q_sameState_90 : decode b_q_sameState 90 = .ok (.bipush (6), 2) := by decide +kernel
theorem d_q_sameState_92 : decode b_q_sameState 92 = .ok (.iload_n 1, 1) := by decide +kernel
theorem d_q_sameState_93 : decode b_q_sameState 93 = .ok (.imul, 1) := by decide +kernel
theorem d_q_sameState_94 : decode b_q_sameState 94 = .ok (.iload_n 3, 1) := by decide +kernel
theorem d_q_sameState_95 : decode b_q_sameState 95 = .ok (.iadd, 1) := by decide +kernel
theorem d_q_sameState_96 : decode b_q_sameState 96 = .ok (.baload, 1) := by decide +kernel
theorem d_q_sameState_97 : decode b_q_sameState 97 = .ok (.aload_n 0, 1) := by decide +kernel
theorem d_q_sameState_98 : decode b_q_sameState 98 = .ok (.getfield 130, 3) := by decide +kernel
theorem d_q_sameState_101 : decode b_q_sameState 101 = .ok (.bipush (6), 2) := by decide +kernel
theorem d_q_sameState_103 : decode b_q_sameState 103 = .ok (.iload_n 2, 1) := by decide +kernel
theorem d_q_sameState_104 : decode b_q_sameState 104 = .ok (.imul, 1) := by decide +kernel
theorem d_q_sameState_105 : decode b_q_sameState 105 = .ok (.iload_n 3, 1) := by decide +kernel
theorem d_q_sameState_106 : decode b_q_sameState 106 = .ok (.iadd, 1) := by decide +kernel
theorem d_q_sameState_107 : decode b_q_sameState 107 = .ok (.baload, 1) := by decide +kernel
theorem d_q_sameState_108 : decode b_q_sameState 108 = .ok (.if_icmp .eq (5), 3) := by decide +kernel
theorem d_q_sameState_111 : decode b_q_sameState 111 = .ok (.iconst 0, 1) := by decide +kernel
theorem d_q_sameState_112 : decode b_q_sameState 112 = .ok (.ireturn, 1) := by decide +kernel
theorem d_q_sameState_113 : decode b_q_sameState 113 = .ok (.iinc 3 (1), 3) := by decide +kernel
theorem d_q_sameState_116 : decode b_q_sameState 116 = .ok (.goto (-36), 3) := by decide +kernel
theorem d_q_sameState_119 : decode b_q_sameState 119 = .ok (.iconst 1, 1) := by decide +kernel
theorem d_q_sameState_120 : decode b_q_sameState 120 = .ok (.ireturn, 1) := by decide +kernel
theorem kb_q_sameState {a0 : Nat} {a1 : Int32} {a2 : Int32} {w : WW} {r : (Int32 × WW)} (h : f_q_sameState a0 a1 a2 w = some r) : kb w a0 9 = true := (its h).1
set_option maxHeartbeats 4000000 in
set_option maxRecDepth 100000 in
theorem j_q_sameState_38 {p : Program} {l : Launch} {e : Env} {s : State} {m : MethodId} {args : Array Value} {below : List Frame} {meth : Method} {c : Code} {D : va_G} {cA : Nat → ClassId} {base : Nat} {r : Int32} {w' : WW} (C : cx b_q_sameState (some .boolean) 5 y_q_sameState.cls "sameState" p s m args meth c D cA base)   : ∀ (z0 : Int32) (w : WW), f_q_sameState_38 z0 w = some (r, w') → ∀ (H : Heap) (locs : List Loc) (ls : Array Slot), wo_S D cls cA base s w H locs → lv_has ls 5 [] → W p l e rm_q_sameState s m args below meth c H locs 0 0 (MQ below (wo_Q D cls cA base (some (.int r)) w') args s rm_q_sameState.cells rm_q_sameState.slots (wo_B base)) (F0 m 38 ls [.int z0]) := by
  obtain ⟨hx, hb, hr, hml, hown, hts, hlk, hnm, hK, hG⟩ := id C
  intro z0 w h H locs ls hW hl
  unfold f_q_sameState_38 at h
  replace h := its h
  obtain ⟨c9, h⟩ := h
  cases h
  exact wo_zret hx hb hr hlk hW c9 d_q_sameState_38
set_option maxHeartbeats 4000000 in
set_option maxRecDepth 100000 in
theorem j_q_sameState_18 {p : Program} {l : Launch} {e : Env} {s : State} {m : MethodId} {args : Array Value} {below : List Frame} {meth : Method} {c : Code} {D : va_G} {cA : Nat → ClassId} {base : Nat} {r : Int32} {w' : WW} (C : cx b_q_sameState (some .boolean) 5 y_q_sameState.cls "sameState" p s m args meth c D cA base)   : ∀ (y0 : Nat) (y1 : Int32) (y2 : Int32) (w : WW), f_q_sameState_18 y0 y1 y2 w = some (r, w') → ∀ (H : Heap) (locs : List Loc) (ls : Array Slot), wo_S D cls cA base s w H locs → lv_has ls 5 [(0, .ref (base + y0)), (1, .int y1), (2, .int y2)] → W p l e rm_q_sameState s m args below meth c H locs 0 0 (MQ below (wo_Q D cls cA base (some (.int r)) w') args s rm_q_sameState.cells rm_q_sameState.slots (wo_B base)) (F0 m 18 ls []) := by
  obtain ⟨hx, hb, hr, hml, hown, hts, hlk, hnm, hK, hG⟩ := id C
  intro y0 y1 y2 w h H locs ls hW hl
  unfold f_q_sameState_18 at h
  refine lv_aload_n hx hb d_q_sameState_18 rfl (lv_at hl 0 rfl) ?_
  replace h := bs h
  obtain ⟨x4, hx4, h⟩ := h
  refine gf_q_133 hx hb hts hown hK hG hW (gN_s hx4) d_q_sameState_19 ?_
  refine lv_iload_n hx hb d_q_sameState_22 rfl (lv_at hl 1 rfl) ?_
  replace h := bs h
  obtain ⟨x5, hx5, h⟩ := h
  refine wo_zald hx hb hK hW (t := 2) rfl hx5 d_q_sameState_23 ?_
  refine lv_aload_n hx hb d_q_sameState_24 rfl (lv_at hl 0 rfl) ?_
  replace h := bs h
  obtain ⟨x6, hx6, h⟩ := h
  refine gf_q_133 hx hb hts hown hK hG hW (gN_s hx6) d_q_sameState_25 ?_
  refine lv_iload_n hx hb d_q_sameState_28 rfl (lv_at hl 2 rfl) ?_
  replace h := bs h
  obtain ⟨x7, hx7, h⟩ := h
  refine wo_zald hx hb hK hW (t := 2) rfl hx7 d_q_sameState_29 ?_
  refine lv_icmp_ne (tgt := 37) hx hb d_q_sameState_30 (by decide) (fun c8 => ?_) (fun c8 => ?_)
  · rw [if_neg c8] at h
    refine lv_iconst (v := (0 : Int32)) hx hb d_q_sameState_37 (by decide) ?_
    exact j_q_sameState_38 C (0 : Int32) w h _ _ _ hW (lv_sub hl [] rfl)
  · rw [if_pos c8] at h
    refine lv_iconst (v := (1 : Int32)) hx hb d_q_sameState_33 (by decide) ?_
    refine lv_goto (tgt := 38) hx hb d_q_sameState_34 (by decide) ?_
    exact j_q_sameState_38 C (1 : Int32) w h _ _ _ hW (lv_sub hl [] rfl)
set_option maxHeartbeats 4000000 in
set_option maxRecDepth 100000 in
theorem j_q_sameState_80 {p : Program} {l : Launch} {e : Env} {s : State} {m : MethodId} {args : Array Value} {below : List Frame} {meth : Method} {c : Code} {D : va_G} {cA : Nat → ClassId} {base : Nat} {r : Int32} {w' : WW} (C : cx b_q_sameState (some .boolean) 5 y_q_sameState.cls "sameState" p s m args meth c D cA base)   : ∀ n : Nat, ∀ (y0 : Nat) (y1 : Int32) (y2 : Int32) (y3 : Int32) (w : WW), f_q_sameState_80 n y0 y1 y2 y3 w = some (r, w') → ∀ (H : Heap) (locs : List Loc) (ls : Array Slot), wo_S D cls cA base s w H locs → lv_has ls 5 [(0, .ref (base + y0)), (1, .int y1), (2, .int y2), (3, .int y3)] → W p l e rm_q_sameState s m args below meth c H locs 0 0 (MQ below (wo_Q D cls cA base (some (.int r)) w') args s rm_q_sameState.cells rm_q_sameState.slots (wo_B base)) (F0 m 80 ls []) := by
  obtain ⟨hx, hb, hr, hml, hown, hts, hlk, hnm, hK, hG⟩ := id C
  intro n
  induction n with
  | zero => intro y0 y1 y2 y3 w h; cases h
  | succ n ih =>
    intro y0 y1 y2 y3 w h H locs ls hW hl
    rw [f_q_sameState_80] at h
    refine lv_iload_n hx hb d_q_sameState_80 rfl (lv_at hl 3 rfl) ?_
    refine lv_bipush (v := (6 : Int32)) hx hb d_q_sameState_81 (by decide) ?_
    refine lv_icmp_ge (tgt := 119) hx hb d_q_sameState_83 (by decide) (fun c14 => ?_) (fun c14 => ?_)
    · rw [if_pos c14] at h
      refine lv_iconst (v := (1 : Int32)) hx hb d_q_sameState_119 (by decide) ?_
      replace h := its h
      obtain ⟨c15, h⟩ := h
      cases h
      exact wo_zret hx hb hr hlk hW c15 d_q_sameState_120
    · rw [if_neg c14] at h
      refine lv_aload_n hx hb d_q_sameState_86 rfl (lv_at hl 0 rfl) ?_
      replace h := bs h
      obtain ⟨x16, hx16, h⟩ := h
      refine gf_q_130 hx hb hts hown hK hG hW (gN_s hx16) d_q_sameState_87 ?_
      refine lv_bipush (v := (6 : Int32)) hx hb d_q_sameState_90 (by decide) ?_
      refine lv_iload_n hx hb d_q_sameState_92 rfl (lv_at hl 1 rfl) ?_
      refine lv_imul hx hb d_q_sameState_93 ?_
      refine lv_iload_n hx hb d_q_sameState_94 rfl (lv_at hl 3 rfl) ?_
      refine lv_iadd hx hb d_q_sameState_95 ?_
      replace h := bs h
      obtain ⟨x17, hx17, h⟩ := h
      refine wo_zald hx hb hK hW (t := 2) rfl hx17 d_q_sameState_96 ?_
      refine lv_aload_n hx hb d_q_sameState_97 rfl (lv_at hl 0 rfl) ?_
      replace h := bs h
      obtain ⟨x18, hx18, h⟩ := h
      refine gf_q_130 hx hb hts hown hK hG hW (gN_s hx18) d_q_sameState_98 ?_
      refine lv_bipush (v := (6 : Int32)) hx hb d_q_sameState_101 (by decide) ?_
      refine lv_iload_n hx hb d_q_sameState_103 rfl (lv_at hl 2 rfl) ?_
      refine lv_imul hx hb d_q_sameState_104 ?_
      refine lv_iload_n hx hb d_q_sameState_105 rfl (lv_at hl 3 rfl) ?_
      refine lv_iadd hx hb d_q_sameState_106 ?_
      replace h := bs h
      obtain ⟨x19, hx19, h⟩ := h
      refine wo_zald hx hb hK hW (t := 2) rfl hx19 d_q_sameState_107 ?_
      refine lv_icmp_eq (tgt := 113) hx hb d_q_sameState_108 (by decide) (fun c20 => ?_) (fun c20 => ?_)
      · rw [if_pos c20] at h
        refine lv_iinc (v := (y3 + (1 : Int32))) (lv' := [(3, .int (y3 + (1 : Int32))), (0, .ref (base + y0)), (1, .int y1), (2, .int y2)]) hx hb d_q_sameState_113 hl (k := 3) rfl rfl (by decide) rfl (fun ls hl => ?_)
        refine lv_goto (tgt := 80) hx hb d_q_sameState_116 (by decide) ?_
        exact ih y0 y1 y2 (y3 + (1 : Int32)) w h _ _ _ hW (lv_sub hl [1, 2, 3, 0] rfl)
      · rw [if_neg c20] at h
        refine lv_iconst (v := (0 : Int32)) hx hb d_q_sameState_111 (by decide) ?_
        replace h := its h
        obtain ⟨c21, h⟩ := h
        cases h
        exact wo_zret hx hb hr hlk hW c21 d_q_sameState_112
set_option maxHeartbeats 4000000 in
set_option maxRecDepth 100000 in
theorem j_q_sameState_41 {p : Program} {l : Launch} {e : Env} {s : State} {m : MethodId} {args : Array Value} {below : List Frame} {meth : Method} {c : Code} {D : va_G} {cA : Nat → ClassId} {base : Nat} {r : Int32} {w' : WW} (C : cx b_q_sameState (some .boolean) 5 y_q_sameState.cls "sameState" p s m args meth c D cA base)   : ∀ n : Nat, ∀ (y0 : Nat) (y1 : Int32) (y2 : Int32) (y3 : Int32) (w : WW), f_q_sameState_41 n y0 y1 y2 y3 w = some (r, w') → ∀ (H : Heap) (locs : List Loc) (ls : Array Slot), wo_S D cls cA base s w H locs → lv_has ls 5 [(0, .ref (base + y0)), (1, .int y1), (2, .int y2), (3, .int y3)] → W p l e rm_q_sameState s m args below meth c H locs 0 0 (MQ below (wo_Q D cls cA base (some (.int r)) w') args s rm_q_sameState.cells rm_q_sameState.slots (wo_B base)) (F0 m 41 ls []) := by
  obtain ⟨hx, hb, hr, hml, hown, hts, hlk, hnm, hK, hG⟩ := id C
  intro n
  induction n with
  | zero => intro y0 y1 y2 y3 w h; cases h
  | succ n ih =>
    intro y0 y1 y2 y3 w h H locs ls hW hl
    rw [f_q_sameState_41] at h
    refine lv_iload_n hx hb d_q_sameState_41 rfl (lv_at hl 3 rfl) ?_
    refine lv_bipush (v := (14 : Int32)) hx hb d_q_sameState_42 (by decide) ?_
    refine lv_icmp_ge (tgt := 78) hx hb d_q_sameState_44 (by decide) (fun c13 => ?_) (fun c13 => ?_)
    · rw [if_pos c13] at h
      refine lv_iconst (v := (0 : Int32)) hx hb d_q_sameState_78 (by decide) ?_
      refine lv_istore_n (lv' := [(3, .int (0 : Int32)), (0, .ref (base + y0)), (1, .int y1), (2, .int y2)]) hx hb d_q_sameState_79 rfl hl (by decide) rfl (fun ls hl => ?_)
      exact j_q_sameState_80 C KK y0 y1 y2 (0 : Int32) w h _ _ _ hW (lv_sub hl [1, 2, 3, 0] rfl)
    · rw [if_neg c13] at h
      refine lv_aload_n hx hb d_q_sameState_47 rfl (lv_at hl 0 rfl) ?_
      refine lv_bipush (v := (14 : Int32)) hx hb d_q_sameState_48 (by decide) ?_
      refine lv_iload_n hx hb d_q_sameState_50 rfl (lv_at hl 1 rfl) ?_
      refine lv_imul hx hb d_q_sameState_51 ?_
      refine lv_iload_n hx hb d_q_sameState_52 rfl (lv_at hl 3 rfl) ?_
      refine lv_iadd hx hb d_q_sameState_53 ?_
      refine lv_bipush (v := (14 : Int32)) hx hb d_q_sameState_54 (by decide) ?_
      refine lv_iload_n hx hb d_q_sameState_56 rfl (lv_at hl 2 rfl) ?_
      refine lv_imul hx hb d_q_sameState_57 ?_
      refine lv_iload_n hx hb d_q_sameState_58 rfl (lv_at hl 3 rfl) ?_
      refine lv_iadd hx hb d_q_sameState_59 ?_
      replace h := bs2 h
      obtain ⟨x23, w22, hw22, h⟩ := h
      refine cv_q_451 (As := [.int (((14 : Int32) * y1) + y3), .int (((14 : Int32) * y2) + y3)]) (rest := []) hx hb hml hown hts hK hG hW (c_q_same l D cA base hw22) (kb_q_same hw22) ⟨Nat.le_of_ble_eq_true rfl, Nat.le_of_ble_eq_true rfl⟩ ⟨Nat.le_of_ble_eq_true rfl, Nat.le_of_ble_eq_true rfl⟩ rfl hl.1 rfl (Nat.le_of_ble_eq_true rfl) d_q_sameState_60 (fun H locs hW => ?_)
      refine lv_istore (lv' := [(4, .int x23), (0, .ref (base + y0)), (1, .int y1), (2, .int y2), (3, .int y3)]) hx hb d_q_sameState_63 hl (by decide) rfl (fun ls hl => ?_)
      refine lv_iload hx hb d_q_sameState_65 (lv_at hl 0 rfl) ?_
      refine lv_if_ne (tgt := 72) hx hb d_q_sameState_67 (by decide) (fun c24 => ?_) (fun c24 => ?_)
      · rw [if_neg c24] at h
        refine lv_iinc (v := (y3 + (1 : Int32))) (lv' := [(3, .int (y3 + (1 : Int32))), (4, .int x23), (0, .ref (base + y0)), (1, .int y1), (2, .int y2)]) hx hb d_q_sameState_72 hl (k := 4) rfl rfl (by decide) rfl (fun ls hl => ?_)
        refine lv_goto (tgt := 41) hx hb d_q_sameState_75 (by decide) ?_
        exact ih y0 y1 y2 (y3 + (1 : Int32)) w22 h _ _ _ hW (lv_sub hl [2, 3, 4, 0] rfl)
      · rw [if_pos c24] at h
        refine lv_iconst (v := (0 : Int32)) hx hb d_q_sameState_70 (by decide) ?_
        replace h := its h
        obtain ⟨c25, h⟩ := h
        cases h
        exact wo_zret hx hb hr hlk hW c25 d_q_sameState_71
set_option maxHeartbeats 4000000 in
set_option maxRecDepth 100000 in
theorem c_q_sameState (l : Launch) (D : va_G) (cA : Nat → ClassId) (base : Nat) {a0 : Nat} {a1 : Int32} {a2 : Int32} {w w' : WW} {r : Int32} (h : f_q_sameState a0 a1 a2 w = some (r, w')) : mt l D cls (wo_tys cA) cA base y_q_sameState (Cond.code y_q_sameState b_q_sameState 5 (some .boolean) :: gt) rm_q_sameState [.ref (base + a0), .int a1, .int a2] w (some (.int r)) w' rm_q_sameState.cells rm_q_sameState.slots := by
  refine mt_start (by decide) (Nat.le_of_ble_eq_true rfl) ?_
  intro p e s m below meth c ls hx hb hr hml hown hts hlk hnm hK hG hW hl
  have C : cx b_q_sameState (some .boolean) 5 y_q_sameState.cls "sameState" p s m [.ref (base + a0), .int a1, .int a2].toArray meth c D cA base := ⟨hx, hb, hr, hml, hown, hts, hlk, hnm, hK, hG⟩
  have hl : lv_has ls 5 [(0, .ref (base + a0)), (1, .int a1), (2, .int a2)] := hl
  unfold f_q_sameState at h
  replace h := its h
  obtain ⟨-, h⟩ := h
  refine lv_aload_n hx hb d_q_sameState_0 rfl (lv_at hl 0 rfl) ?_
  replace h := bs h
  obtain ⟨x1, hx1, h⟩ := h
  refine gf_q_133 hx hb hts hown hK hG hW (gN_s hx1) d_q_sameState_1 ?_
  refine lv_iload_n hx hb d_q_sameState_4 rfl (lv_at hl 1 rfl) ?_
  replace h := bs h
  obtain ⟨x2, hx2, h⟩ := h
  refine wo_zald hx hb hK hW (t := 2) rfl hx2 d_q_sameState_5 ?_
  refine lv_if_ne (tgt := 18) hx hb d_q_sameState_6 (by decide) (fun c3 => ?_) (fun c3 => ?_)
  · rw [if_neg c3] at h
    exact j_q_sameState_18 C a0 a1 a2 w h _ _ _ hW (lv_sub hl [0, 1, 2] rfl)
  · rw [if_pos c3] at h
    refine lv_aload_n hx hb d_q_sameState_9 rfl (lv_at hl 0 rfl) ?_
    replace h := bs h
    obtain ⟨x10, hx10, h⟩ := h
    refine gf_q_133 hx hb hts hown hK hG hW (gN_s hx10) d_q_sameState_10 ?_
    refine lv_iload_n hx hb d_q_sameState_13 rfl (lv_at hl 2 rfl) ?_
    replace h := bs h
    obtain ⟨x11, hx11, h⟩ := h
    refine wo_zald hx hb hK hW (t := 2) rfl hx11 d_q_sameState_14 ?_
    refine lv_if_eq (tgt := 39) hx hb d_q_sameState_15 (by decide) (fun c12 => ?_) (fun c12 => ?_)
    · rw [if_pos c12] at h
      refine lv_iconst (v := (0 : Int32)) hx hb d_q_sameState_39 (by decide) ?_
      refine lv_istore_n (lv' := [(3, .int (0 : Int32)), (0, .ref (base + a0)), (1, .int a1), (2, .int a2)]) hx hb d_q_sameState_40 rfl hl (by decide) rfl (fun ls hl => ?_)
      exact j_q_sameState_41 C KK a0 a1 a2 (0 : Int32) w h _ _ _ hW (lv_sub hl [1, 2, 3, 0] rfl)
    · rw [if_neg c12] at h
      exact j_q_sameState_18 C a0 a1 a2 w h _ _ _ hW (lv_sub hl [0, 1, 2] rfl)
abbrev b_q_again : ByteArray := prog_11_method_81_code
def y_q_again : MethodName := ⟨"AlarmForgeModel", "again", "(II)I"⟩
def rm_q_again : Room := { frames := 6, cells := 0, slots := 0, locals := 168 }
theorem d_q_again_0 : decode b_q_again 0 = .ok (.aload_n 0, 1) := by decide +kernel
theorem d_q_again_1 : decode b_q_again 1 = .ok (.iconst 0, 1) := by decide +kernel
theorem d_q_again_2 : decode b_q_again 2 = .ok (.iload_n 2, 1) := by decide +kernel
theorem d_q_again_3 : decode b_q_again 3 = .ok (.iconst 1, 1) := by decide +kernel
theorem d_q_again_4 : decode b_q_again 4 = .ok (.iadd, 1) := by decide +kernel
theorem d_q_again_5 : decode b_q_again 5 = .ok (.invokevirtual 445, 3) := by decide +kernel
theorem d_q_again_8 : decode b_q_again 8 = .ok (.aload_n 0, 1) := by decide +kernel
theorem d_q_again_9 : decode b_q_again 9 = .ok (.iload_n 1, 1) := by decide +kernel
theorem d_q_again_10 : decode b_q_again 10 = .ok (.iconst 1, 1) := by decide +kernel
theorem d_q_again_11 : decode b_q_again 11 = .ok (.invokevirtual 485, 3) := by decide +kernel
theorem d_q_again_14 : decode b_q_again 14 = .ok (.aload_n 0, 1) := by decide +kernel
theorem d_q_again_15 : decode b_q_again 15 = .ok (.getfield 50, 3) := by decide +kernel
theorem d_q_again_18 : decode b_q_again 18 = .ok (.iload_n 1, 1) := by decide +kernel
theorem d_q_again_19 : decode b_q_again 19 = .ok (.iaload, 1) := by decide +kernel
theorem d_q_again_20 : decode b_q_again 20 = .ok (.ireturn, 1) := by decide +kernel
theorem kb_q_again {a0 : Nat} {a1 : Int32} {a2 : Int32} {w : WW} {r : (Int32 × WW)} (h : f_q_again a0 a1 a2 w = some r) : kb w a0 9 = true := (its h).1
set_option maxHeartbeats 4000000 in
set_option maxRecDepth 100000 in
theorem c_q_again (l : Launch) (D : va_G) (cA : Nat → ClassId) (base : Nat) {a0 : Nat} {a1 : Int32} {a2 : Int32} {w w' : WW} {r : Int32} (h : f_q_again a0 a1 a2 w = some (r, w')) : mt l D cls (wo_tys cA) cA base y_q_again (Cond.code y_q_again b_q_again 3 (some .int) :: gt) rm_q_again [.ref (base + a0), .int a1, .int a2] w (some (.int r)) w' rm_q_again.cells rm_q_again.slots := by
  refine mt_start (by decide) (Nat.le_of_ble_eq_true rfl) ?_
  intro p e s m below meth c ls hx hb hr hml hown hts hlk hnm hK hG hW hl
  have C : cx b_q_again (some .int) 3 y_q_again.cls "again" p s m [.ref (base + a0), .int a1, .int a2].toArray meth c D cA base := ⟨hx, hb, hr, hml, hown, hts, hlk, hnm, hK, hG⟩
  have hl : lv_has ls 3 [(0, .ref (base + a0)), (1, .int a1), (2, .int a2)] := hl
  unfold f_q_again at h
  replace h := its h
  obtain ⟨-, h⟩ := h
  refine lv_aload_n hx hb d_q_again_0 rfl (lv_at hl 0 rfl) ?_
  refine lv_iconst (v := (0 : Int32)) hx hb d_q_again_1 (by decide) ?_
  refine lv_iload_n hx hb d_q_again_2 rfl (lv_at hl 2 rfl) ?_
  refine lv_iconst (v := (1 : Int32)) hx hb d_q_again_3 (by decide) ?_
  refine lv_iadd hx hb d_q_again_4 ?_
  replace h := bs h
  obtain ⟨w1, hw1, h⟩ := h
  refine cv_q_445 (As := [.int (0 : Int32), .int (a2 + (1 : Int32))]) (rest := []) hx hb hml hown hts hK hG hW (c_q_copyState l D cA base hw1) (kb_q_copyState hw1) ⟨Nat.le_of_ble_eq_true rfl, Nat.le_of_ble_eq_true rfl⟩ ⟨Nat.le_of_ble_eq_true rfl, Nat.le_of_ble_eq_true rfl⟩ rfl hl.1 rfl (Nat.le_of_ble_eq_true rfl) d_q_again_5 (fun H locs hW => ?_)
  refine lv_aload_n hx hb d_q_again_8 rfl (lv_at hl 0 rfl) ?_
  refine lv_iload_n hx hb d_q_again_9 rfl (lv_at hl 1 rfl) ?_
  refine lv_iconst (v := (1 : Int32)) hx hb d_q_again_10 (by decide) ?_
  replace h := bs h
  obtain ⟨w2, hw2, h⟩ := h
  refine cv_q_485 (As := [.int a1, .int (1 : Int32)]) (rest := []) hx hb hml hown hts hK hG hW (c_q_assume l D cA base hw2) (kb_q_assume hw2) ⟨Nat.le_of_ble_eq_true rfl, Nat.le_of_ble_eq_true rfl⟩ ⟨Nat.le_of_ble_eq_true rfl, Nat.le_of_ble_eq_true rfl⟩ rfl hl.1 rfl (Nat.le_of_ble_eq_true rfl) d_q_again_11 (fun H locs hW => ?_)
  refine lv_aload_n hx hb d_q_again_14 rfl (lv_at hl 0 rfl) ?_
  replace h := bs h
  obtain ⟨x3, hx3, h⟩ := h
  refine gf_q_50 hx hb hts hown hK hG hW (gN_s hx3) d_q_again_15 ?_
  refine lv_iload_n hx hb d_q_again_18 rfl (lv_at hl 1 rfl) ?_
  replace h := bs h
  obtain ⟨x4, hx4, h⟩ := h
  refine wo_iald hx hb hK hW (t := 0) rfl hx4 d_q_again_19 ?_
  cases h
  exact wo_iret hx hb hr hlk hW d_q_again_20
theorem cv_q_499 {p : Program} {l : Launch} {e : Env} {R : Room} {s : State} {m : MethodId} {args : Array Value} {below : List Frame} {meth : Method} {c : Code} {H : Heap} {locs : List Loc} {cells slots : Nat} {Q : State → Prop} {D : va_G} {cA : Nat → ClassId} {base : Nat} {w w' : WW} {cc : ByteArray} {pc nL : Nat} {ls : Array Slot} {rest st0 As : List Value} {ov : Option Value} {b : Nat} (hx : p.tables.exec = Jvm.exec) (hb : c.code = cc) (hml : c.maxLocals = nL) (hown : s.vm.findClass Rc_q = some m.cls) (hts : ∀ w ∈ gt, w.before args s = true) (hK : va_K D cls (wo_tys cA) s) (hG : wo_G cA base s) (hW : wo_S D cls cA base s w H locs) (hM : mt l D cls (wo_tys cA) cA base y_q_sameState (Cond.code y_q_sameState b_q_sameState 5 (some .boolean) :: gt) rm_q_sameState (.ref (base + b) :: As) w ov w' rm_q_sameState.cells rm_q_sameState.slots) (hkb : kb w b 9 = true) (hR : rm_q_sameState.frames + 1 ≤ R.frames ∧ 8 + (5 + 11) + rm_q_sameState.locals ≤ R.locals) (hf : cells + rm_q_sameState.cells ≤ R.cells ∧ slots + rm_q_sameState.slots ≤ R.slots) (hn : As.length = 2) (hsz : ls.size = nL) (hst : st0 = As.reverse ++ .ref (base + b) :: rest) (hcat : (rest.map fun v => v.category).sum ≤ 8) (hdg : decode cc pc = .ok (.invokevirtual 499, 3)) (kk : ∀ (H1 : Heap) (locs1 : List Loc), wo_S D cls cA base s w' H1 locs1 → W p l e R s m args below meth c H1 locs1 (cells + rm_q_sameState.cells) (slots + rm_q_sameState.slots) Q (F0 m (pc + 3) ls (ov.toList ++ rest))) : W p l e R s m args below meth c H locs cells slots Q (F0 m pc ls st0) :=
  wo_callV (C := Rc_q) hx hb hml hown hts hK hG hW hM hkb rfl (gt_of (i := 1704) (by decide +kernel) (by decide +kernel)) (gt_of (i := 1706) (by decide +kernel) (by decide +kernel)) (gt_sel (i := 113) (by decide +kernel) (by decide +kernel)) (gt_of (i := 10) (by decide +kernel) (by decide +kernel)) (gt_of (i := 1707) (by decide +kernel) (by decide +kernel)) (by decide +kernel) hR hf hn hsz hst hcat hdg kk
theorem cv_q_502 {p : Program} {l : Launch} {e : Env} {R : Room} {s : State} {m : MethodId} {args : Array Value} {below : List Frame} {meth : Method} {c : Code} {H : Heap} {locs : List Loc} {cells slots : Nat} {Q : State → Prop} {D : va_G} {cA : Nat → ClassId} {base : Nat} {w w' : WW} {cc : ByteArray} {pc nL : Nat} {ls : Array Slot} {rest st0 As : List Value} {ov : Option Value} {b : Nat} (hx : p.tables.exec = Jvm.exec) (hb : c.code = cc) (hml : c.maxLocals = nL) (hown : s.vm.findClass Rc_q = some m.cls) (hts : ∀ w ∈ gt, w.before args s = true) (hK : va_K D cls (wo_tys cA) s) (hG : wo_G cA base s) (hW : wo_S D cls cA base s w H locs) (hM : mt l D cls (wo_tys cA) cA base y_q_again (Cond.code y_q_again b_q_again 3 (some .int) :: gt) rm_q_again (.ref (base + b) :: As) w ov w' rm_q_again.cells rm_q_again.slots) (hkb : kb w b 9 = true) (hR : rm_q_again.frames + 1 ≤ R.frames ∧ 8 + (3 + 11) + rm_q_again.locals ≤ R.locals) (hf : cells + rm_q_again.cells ≤ R.cells ∧ slots + rm_q_again.slots ≤ R.slots) (hn : As.length = 2) (hsz : ls.size = nL) (hst : st0 = As.reverse ++ .ref (base + b) :: rest) (hcat : (rest.map fun v => v.category).sum ≤ 8) (hdg : decode cc pc = .ok (.invokevirtual 502, 3)) (kk : ∀ (H1 : Heap) (locs1 : List Loc), wo_S D cls cA base s w' H1 locs1 → W p l e R s m args below meth c H1 locs1 (cells + rm_q_again.cells) (slots + rm_q_again.slots) Q (F0 m (pc + 3) ls (ov.toList ++ rest))) : W p l e R s m args below meth c H locs cells slots Q (F0 m pc ls st0) :=
  wo_callV (C := Rc_q) hx hb hml hown hts hK hG hW hM hkb rfl (gt_of (i := 1712) (by decide +kernel) (by decide +kernel)) (gt_of (i := 1714) (by decide +kernel) (by decide +kernel)) (gt_sel (i := 115) (by decide +kernel) (by decide +kernel)) (gt_of (i := 10) (by decide +kernel) (by decide +kernel)) (gt_of (i := 1715) (by decide +kernel) (by decide +kernel)) (by decide +kernel) hR hf hn hsz hst hcat hdg kk
abbrev b_q_endWhile : ByteArray := prog_11_method_83_code
def y_q_endWhile : MethodName := ⟨"AlarmForgeModel", "endWhile", "(II)I"⟩
def rm_q_endWhile : Room := { frames := 7, cells := 0, slots := 0, locals := 190 }
theorem d_q_endWhile_0 : decode b_q_endWhile 0 = .ok (.aload_n 0, 1) := by decide +kernel
theorem d_q_endWhile_1 : decode b_q_endWhile 1 = .ok (.getfield 489, 3) := by decide +kernel
theorem d_q_endWhile_4 : decode b_q_endWhile 4 = .ok (.iconst 1, 1) := by decide +kernel
theorem d_q_endWhile_5 : decode b_q_endWhile 5 = .ok (.isub, 1) := by decide +kernel
theorem d_q_endWhile_6 : decode b_q_endWhile 6 = .ok (.istore_n 3, 1) := by decide +kernel
theorem d_q_endWhile_7 : decode b_q_endWhile 7 = .ok (.aload_n 0, 1) := by decide +kernel
theorem d_q_endWhile_8 : decode b_q_endWhile 8 = .ok (.dup, 1) := by decide +kernel
theorem d_q_endWhile_9 : decode b_q_endWhile 9 = .ok (.getfield 496, 3) := by decide +kernel
theorem d_q_endWhile_12 : decode b_q_endWhile 12 = .ok (.iconst 1, 1) := by decide +kernel
theorem d_q_endWhile_13 : decode b_q_endWhile 13 = .ok (.iadd, 1) := by decide +kernel
theorem d_q_endWhile_14 : decode b_q_endWhile 14 = .ok (.putfield 496, 3) := by decide +kernel
theorem d_q_endWhile_17 : decode b_q_endWhile 17 = .ok (.aload_n 0, 1) := by decide +kernel
theorem d_q_endWhile_18 : decode b_q_endWhile 18 = .ok (.getfield 142, 3) := by decide +kernel
theorem d_q_endWhile_21 : decode b_q_endWhile 21 = .ok (.iload_n 3, 1) := by decide +kernel
theorem d_q_endWhile_22 : decode b_q_endWhile 22 = .ok (.iaload, 1) := by decide +kernel
theorem d_q_endWhile_23 : decode b_q_endWhile 23 = .ok (.iconst 4, 1) := by decide +kernel
theorem d_q_endWhile_24 : decode b_q_endWhile 24 = .ok (.if_icmp .ne (34), 3) := by decide +kernel
theorem d_q_endWhile_27 : decode b_q_endWhile 27 = .ok (.aload_n 0, 1) := by decide +kernel
theorem d_q_endWhile_28 : decode b_q_endWhile 28 = .ok (.iconst 0, 1) := by decide +kernel
theorem d_q_endWhile_29 : decode b_q_endWhile 29 = .ok (.iload_n 2, 1) := by decide +kernel
theorem d_q_endWhile_30 : decode b_q_endWhile 30 = .ok (.iconst 1, 1) := by decide +kernel
theorem d_q_endWhile_31 : decode b_q_endWhile 31 = .ok (.iadd, 1) := by decide +kernel
theorem d_q_endWhile_32 : decode b_q_endWhile 32 = .ok (.invokevirtual 445, 3) := by decide +kernel
theorem d_q_endWhile_35 : decode b_q_endWhile 35 = .ok (.aload_n 0, 1) := by decide +kernel
theorem d_q_endWhile_36 : decode b_q_endWhile 36 = .ok (.iload_n 1, 1) := by decide +kernel
theorem d_q_endWhile_37 : decode b_q_endWhile 37 = .ok (.iconst 0, 1) := by decide +kernel
theorem d_q_endWhile_38 : decode b_q_endWhile 38 = .ok (.invokevirtual 485, 3) := by decide +kernel
theorem d_q_endWhile_41 : decode b_q_endWhile 41 = .ok (.aload_n 0, 1) := by decide +kernel
theorem d_q_endWhile_42 : decode b_q_endWhile 42 = .ok (.dup, 1) := by decide +kernel
theorem d_q_endWhile_43 : decode b_q_endWhile 43 = .ok (.getfield 489, 3) := by decide +kernel
theorem d_q_endWhile_46 : decode b_q_endWhile 46 = .ok (.iconst 1, 1) := by decide +kernel
theorem d_q_endWhile_47 : decode b_q_endWhile 47 = .ok (.isub, 1) := by decide +kernel
theorem d_q_endWhile_48 : decode b_q_endWhile 48 = .ok (.putfield 489, 3) := by decide +kernel
theorem d_q_endWhile_51 : decode b_q_endWhile 51 = .ok (.aload_n 0, 1) := by decide +kernel
theorem d_q_endWhile_52 : decode b_q_endWhile 52 = .ok (.getfield 56, 3) := by decide +kernel
theorem d_q_endWhile_55 : decode b_q_endWhile 55 = .ok (.iload_n 1, 1) := by decide +kernel
theorem d_q_endWhile_56 : decode b_q_endWhile 56 = .ok (.iaload, 1) := by decide +kernel
theorem d_q_endWhile_57 : decode b_q_endWhile 57 = .ok (.ireturn, 1) := by decide +kernel
theorem d_q_endWhile_58 : decode b_q_endWhile 58 = .ok (.aload_n 0, 1) := by decide +kernel
theorem d_q_endWhile_59 : decode b_q_endWhile 59 = .ok (.iconst 1, 1) := by decide +kernel
theorem d_q_endWhile_60 : decode b_q_endWhile 60 = .ok (.iload_n 2, 1) := by decide +kernel
theorem d_q_endWhile_61 : decode b_q_endWhile 61 = .ok (.iconst 0, 1) := by decide +kernel
theorem d_q_endWhile_62 : decode b_q_endWhile 62 = .ok (.iconst 0, 1) := by decide +kernel
theorem d_q_endWhile_63 : decode b_q_endWhile 63 = .ok (.invokevirtual 492, 3) := by decide +kernel
theorem d_q_endWhile_66 : decode b_q_endWhile 66 = .ok (.aload_n 0, 1) := by decide +kernel
theorem d_q_endWhile_67 : decode b_q_endWhile 67 = .ok (.getfield 142, 3) := by decide +kernel
theorem d_q_endWhile_70 : decode b_q_endWhile 70 = .ok (.iload_n 3, 1) := by decide +kernel
theorem d_q_endWhile_71 : decode b_q_endWhile 71 = .ok (.iaload, 1) := by decide +kernel
theorem d_q_endWhile_72 : decode b_q_endWhile 72 = .ok (.iconst 2, 1) := by decide +kernel
theorem d_q_endWhile_73 : decode b_q_endWhile 73 = .ok (.if_icmp .ne (129), 3) := by decide +kernel
theorem d_q_endWhile_76 : decode b_q_endWhile 76 = .ok (.aload_n 0, 1) := by decide +kernel
theorem d_q_endWhile_77 : decode b_q_endWhile 77 = .ok (.iconst 2, 1) := by decide +kernel
theorem d_q_endWhile_78 : decode b_q_endWhile 78 = .ok (.iload_n 2, 1) := by decide +kernel
theorem d_q_endWhile_79 : decode b_q_endWhile 79 = .ok (.iconst 1, 1) := by decide +kernel
theorem d_q_endWhile_80 : decode b_q_endWhile 80 = .ok (.iadd, 1) := by decide +kernel
theorem d_q_endWhile_81 : decode b_q_endWhile 81 = .ok (.iconst 1, 1) := by decide +kernel
theorem d_q_endWhile_82 : decode b_q_endWhile 82 = .ok (.iconst 0, 1) := by decide +kernel
theorem d_q_endWhile_83 : decode b_q_endWhile 83 = .ok (.invokevirtual 492, 3) := by decide +kernel
theorem d_q_endWhile_86 : decode b_q_endWhile 86 = .ok (.aload_n 0, 1) := by decide +kernel
theorem d_q_endWhile_87 : decode b_q_endWhile 87 = .ok (.iconst 2, 1) := by decide +kernel
theorem d_q_endWhile_88 : decode b_q_endWhile 88 = .ok (.iload_n 2, 1) := by decide +kernel
theorem d_q_endWhile_89 : decode b_q_endWhile 89 = .ok (.iconst 1, 1) := by decide +kernel
theorem d_q_endWhile_90 : decode b_q_endWhile 90 = .ok (.iadd, 1) := by decide +kernel
theorem d_q_endWhile_91 : decode b_q_endWhile 91 = .ok (.invokevirtual 499, 3) := by decide +kernel
theorem d_q_endWhile_94 : decode b_q_endWhile 94 = .ok (.istore 4, 2) := by decide +kernel
theorem d_q_endWhile_96 : decode b_q_endWhile 96 = .ok (.iload 4, 2) := by decide +kernel
theorem d_q_endWhile_98 : decode b_q_endWhile 98 = .ok (.ifCond .ne (87), 3) := by decide +kernel
theorem d_q_endWhile_101 : decode b_q_endWhile 101 = .ok (.aload_n 0, 1) := by decide +kernel
theorem d_q_endWhile_102 : decode b_q_endWhile 102 = .ok (.getfield 145, 3) := by decide +kernel
theorem d_q_endWhile_105 : decode b_q_endWhile 105 = .ok (.iload_n 3, 1) := by decide +kernel
theorem d_q_endWhile_106 : decode b_q_endWhile 106 = .ok (.iaload, 1) := by decide +kernel
theorem d_q_endWhile_107 : decode b_q_endWhile 107 = .ok (.aload_n 0, 1) := by decide +kernel
theorem d_q_endWhile_108 : decode b_q_endWhile 108 = .ok (.getfield 20, 3) := by decide +kernel
theorem d_q_endWhile_111 : decode b_q_endWhile 111 = .ok (.if_icmp .le (13), 3) := by decide +kernel
theorem d_q_endWhile_114 : decode b_q_endWhile 114 = .ok (.aload_n 0, 1) := by decide +kernel
theorem d_q_endWhile_115 : decode b_q_endWhile 115 = .ok (.iconst 2, 1) := by decide +kernel
theorem d_q_endWhile_116 : decode b_q_endWhile 116 = .ok (.iload_n 2, 1) := by decide +kernel
theorem d_q_endWhile_117 : decode b_q_endWhile 117 = .ok (.iconst 1, 1) := by decide +kernel
theorem d_q_endWhile_118 : decode b_q_endWhile 118 = .ok (.iadd, 1) := by decide +kernel
theorem d_q_endWhile_119 : decode b_q_endWhile 119 = .ok (.iconst 1, 1) := by decide +kernel
theorem d_q_endWhile_120 : decode b_q_endWhile 120 = .ok (.iconst 1, 1) := by decide +kernel
theorem d_q_endWhile_121 : decode b_q_endWhile 121 = .ok (.invokevirtual 492, 3) := by decide +kernel
theorem d_q_endWhile_124 : decode b_q_endWhile 124 = .ok (.iconst 0, 1) := by decide +kernel
theorem d_q_endWhile_125 : decode b_q_endWhile 125 = .ok (.istore 5, 2) := by decide +kernel
theorem d_q_endWhile_127 : decode b_q_endWhile 127 = .ok (.iload 5, 2) := by decide +kernel
theorem d_q_endWhile_129 : decode b_q_endWhile 129 = .ok (.bipush (14), 2) := by decide +kernel
theorem d_q_endWhile_131 : decode b_q_endWhile 131 = .ok (.if_icmp .ge (29), 3) := by decide +kernel
theorem d_q_endWhile_134 : decode b_q_endWhile 134 = .ok (.aload_n 0, 1) := by decide +kernel
theorem d_q_endWhile_135 : decode b_q_endWhile 135 = .ok (.getfield 145, 3) := by decide +kernel
theorem d_q_endWhile_138 : decode b_q_endWhile 138 = .ok (.iload_n 3, 1) := by decide +kernel
theorem d_q_endWhile_139 : decode b_q_endWhile 139 = .ok (.iaload, 1) := by decide +kernel
theorem d_q_endWhile_140 : decode b_q_endWhile 140 = .ok (.bipush (20), 2) := by decide +kernel
theorem d_q_endWhile_142 : decode b_q_endWhile 142 = .ok (.if_icmp .le (18), 3) := by decide +kernel
theorem d_q_endWhile_145 : decode b_q_endWhile 145 = .ok (.aload_n 0, 1) := by decide +kernel
theorem d_q_endWhile_146 : decode b_q_endWhile 146 = .ok (.bipush (28), 2) := by decide +kernel
theorem d_q_endWhile_148 : decode b_q_endWhile 148 = .ok (.iload 5, 2) := by decide +kernel
theorem d_q_endWhile_150 : decode b_q_endWhile 150 = .ok (.iadd, 1) := by decide +kernel
theorem d_q_endWhile_151 : decode b_q_endWhile 151 = .ok (.invokevirtual 479, 3) := by decide +kernel
theorem d_q_endWhile_154 : decode b_q_endWhile 154 = .ok (.iinc 5 (1), 3) := by decide +kernel
theorem d_q_endWhile_157 : decode b_q_endWhile 157 = .ok (.goto (-30), 3) := by decide +kernel
theorem d_q_endWhile_160 : decode b_q_endWhile 160 = .ok (.aload_n 0, 1) := by decide +kernel
theorem d_q_endWhile_161 : decode b_q_endWhile 161 = .ok (.iload_n 2, 1) := by decide +kernel
theorem d_q_endWhile_162 : decode b_q_endWhile 162 = .ok (.iconst 1, 1) := by decide +kernel
theorem d_q_endWhile_163 : decode b_q_endWhile 163 = .ok (.iadd, 1) := by decide +kernel
theorem d_q_endWhile_164 : decode b_q_endWhile 164 = .ok (.iconst 2, 1) := by decide +kernel
theorem d_q_endWhile_165 : decode b_q_endWhile 165 = .ok (.invokevirtual 445, 3) := by decide +kernel
theorem d_q_endWhile_168 : decode b_q_endWhile 168 = .ok (.aload_n 0, 1) := by decide +kernel
theorem d_q_endWhile_169 : decode b_q_endWhile 169 = .ok (.getfield 145, 3) := by decide +kernel
theorem d_q_endWhile_172 : decode b_q_endWhile 172 = .ok (.iload_n 3, 1) := by decide +kernel
theorem d_q_endWhile_173 : decode b_q_endWhile 173 = .ok (.dup2, 1) := by decide +kernel
theorem d_q_endWhile_174 : decode b_q_endWhile 174 = .ok (.iaload, 1) := by decide +kernel
theorem d_q_endWhile_175 : decode b_q_endWhile 175 = .ok (.iconst 1, 1) := by decide +kernel
theorem d_q_endWhile_176 : decode b_q_endWhile 176 = .ok (.iadd, 1) := by decide +kernel
theorem d_q_endWhile_177 : decode b_q_endWhile 177 = .ok (.iastore, 1) := by decide +kernel
theorem d_q_endWhile_178 : decode b_q_endWhile 178 = .ok (.aload_n 0, 1) := by decide +kernel
theorem d_q_endWhile_179 : decode b_q_endWhile 179 = .ok (.iload_n 1, 1) := by decide +kernel
theorem d_q_endWhile_180 : decode b_q_endWhile 180 = .ok (.iload_n 2, 1) := by decide +kernel
theorem d_q_endWhile_181 : decode b_q_endWhile 181 = .ok (.invokevirtual 502, 3) := by decide +kernel
theorem d_q_endWhile_184 : decode b_q_endWhile 184 = .ok (.ireturn, 1) := by decide +kernel
theorem d_q_endWhile_185 : decode b_q_endWhile 185 = .ok (.aload_n 0, 1) := by decide +kernel
theorem d_q_endWhile_186 : decode b_q_endWhile 186 = .ok (.getfield 142, 3) := by decide +kernel
theorem d_q_endWhile_189 : decode b_q_endWhile 189 = .ok (.iload_n 3, 1) := by decide +kernel
theorem d_q_endWhile_190 : decode b_q_endWhile 190 = .ok (.iconst 3, 1) := by decide +kernel
theorem d_q_endWhile_191 : decode b_q_endWhile 191 = .ok (.iastore, 1) := by decide +kernel
theorem d_q_endWhile_192 : decode b_q_endWhile 192 = .ok (.aload_n 0, 1) := by decide +kernel
theorem d_q_endWhile_193 : decode b_q_endWhile 193 = .ok (.getfield 145, 3) := by decide +kernel
theorem d_q_endWhile_196 : decode b_q_endWhile 196 = .ok (.iload_n 3, 1) := by decide +kernel
theorem d_q_endWhile_197 : decode b_q_endWhile 197 = .ok (.iconst 0, 1) := by decide +kernel
theorem d_q_endWhile_198 : decode b_q_endWhile 198 = .ok (.iastore, 1) := by decide +kernel
theorem d_q_endWhile_199 : decode b_q_endWhile 199 = .ok (.goto (21), 3) := by decide +kernel
theorem d_q_endWhile_202 : decode b_q_endWhile 202 = .ok (.aload_n 0, 1) := by decide +kernel
theorem d_q_endWhile_203 : decode b_q_endWhile 203 = .ok (.iload_n 2, 1) := by decide +kernel
theorem d_q_endWhile_204 : decode b_q_endWhile 204 = .ok (.iconst 1, 1) := by decide +kernel
theorem d_q_endWhile_205 : decode b_q_endWhile 205 = .ok (.iadd, 1) := by decide +kernel
theorem d_q_endWhile_206 : decode b_q_endWhile 206 = .ok (.iconst 1, 1) := by decide +kernel
theorem d_q_endWhile_207 : decode b_q_endWhile 207 = .ok (.invokevirtual 445, 3) := by decide +kernel
theorem d_q_endWhile_210 : decode b_q_endWhile 210 = .ok (.aload_n 0, 1) := by decide +kernel
theorem d_q_endWhile_211 : decode b_q_endWhile 211 = .ok (.getfield 145, 3) := by decide +kernel
theorem d_q_endWhile_214 : decode b_q_endWhile 214 = .ok (.iload_n 3, 1) := by decide +kernel
theorem d_q_endWhile_215 : decode b_q_endWhile 215 = .ok (.dup2, 1) := by decide +kernel
theorem d_q_endWhile_216 : decode b_q_endWhile 216 = .ok (.iaload, 1) := by decide +kernel
theorem d_q_endWhile_217 : decode b_q_endWhile 217 = .ok (.iconst 1, 1) := by decide +kernel
theorem d_q_endWhile_218 : decode b_q_endWhile 218 = .ok (.iadd, 1) := by decide +kernel
theorem d_q_endWhile_219 : decode b_q_endWhile 219 = .ok (.iastore, 1) := by decide +kernel
theorem d_q_endWhile_220 : decode b_q_endWhile 220 = .ok (.aload_n 0, 1) := by decide +kernel
theorem d_q_endWhile_221 : decode b_q_endWhile 221 = .ok (.getfield 145, 3) := by decide +kernel
theorem d_q_endWhile_224 : decode b_q_endWhile 224 = .ok (.iload_n 3, 1) := by decide +kernel
theorem d_q_endWhile_225 : decode b_q_endWhile 225 = .ok (.iaload, 1) := by decide +kernel
theorem d_q_endWhile_226 : decode b_q_endWhile 226 = .ok (.aload_n 0, 1) := by decide +kernel
theorem d_q_endWhile_227 : decode b_q_endWhile 227 = .ok (.getfield 23, 3) := by decide +kernel
theorem d_q_endWhile_230 : decode b_q_endWhile 230 = .ok (.if_icmp .ne (20), 3) := by decide +kernel
theorem d_q_endWhile_233 : decode b_q_endWhile 233 = .ok (.aload_n 0, 1) := by decide +kernel
theorem d_q_endWhile_234 : decode b_q_endWhile 234 = .ok (.getfield 142, 3) := by decide +kernel
theorem d_q_endWhile_237 : decode b_q_endWhile 237 = .ok (.iload_n 3, 1) := by decide +kernel
theorem d_q_endWhile_238 : decode b_q_endWhile 238 = .ok (.iconst 4, 1) := by decide +kernel
theorem d_q_endWhile_239 : decode b_q_endWhile 239 = .ok (.iastore, 1) := by decide +kernel
theorem d_q_endWhile_240 : decode b_q_endWhile 240 = .ok (.aload_n 0, 1) := by decide +kernel
theorem d_q_endWhile_241 : decode b_q_endWhile 241 = .ok (.dup, 1) := by decide +kernel
theorem d_q_endWhile_242 : decode b_q_endWhile 242 = .ok (.getfield 429, 3) := by decide +kernel
theorem d_q_endWhile_245 : decode b_q_endWhile 245 = .ok (.iconst 1, 1) := by decide +kernel
theorem d_q_endWhile_246 : decode b_q_endWhile 246 = .ok (.isub, 1) := by decide +kernel
theorem d_q_endWhile_247 : decode b_q_endWhile 247 = .ok (.putfield 429, 3) := by decide +kernel
theorem d_q_endWhile_250 : decode b_q_endWhile 250 = .ok (.aload_n 0, 1) := by decide +kernel
theorem d_q_endWhile_251 : decode b_q_endWhile 251 = .ok (.iload_n 1, 1) := by decide +kernel
theorem d_q_endWhile_252 : decode b_q_endWhile 252 = .ok (.iload_n 2, 1) := by decide +kernel
theorem d_q_endWhile_253 : decode b_q_endWhile 253 = .ok (.invokevirtual 502, 3) := by decide +kernel
theorem d_q_endWhile_256 : decode b_q_endWhile 256 = .ok (.ireturn, 1) := by decide +kernel
theorem kb_q_endWhile {a0 : Nat} {a1 : Int32} {a2 : Int32} {w : WW} {r : (Int32 × WW)} (h : f_q_endWhile a0 a1 a2 w = some r) : kb w a0 9 = true := (its h).1
set_option maxHeartbeats 4000000 in
set_option maxRecDepth 100000 in
theorem j_q_endWhile_250 {p : Program} {l : Launch} {e : Env} {s : State} {m : MethodId} {args : Array Value} {below : List Frame} {meth : Method} {c : Code} {D : va_G} {cA : Nat → ClassId} {base : Nat} {r : Int32} {w' : WW} (C : cx b_q_endWhile (some .int) 6 y_q_endWhile.cls "endWhile" p s m args meth c D cA base)   : ∀ (y0 : Nat) (y1 : Int32) (y2 : Int32) (w : WW), f_q_endWhile_250 y0 y1 y2 w = some (r, w') → ∀ (H : Heap) (locs : List Loc) (ls : Array Slot), wo_S D cls cA base s w H locs → lv_has ls 6 [(0, .ref (base + y0)), (1, .int y1), (2, .int y2)] → W p l e rm_q_endWhile s m args below meth c H locs 0 0 (MQ below (wo_Q D cls cA base (some (.int r)) w') args s rm_q_endWhile.cells rm_q_endWhile.slots (wo_B base)) (F0 m 250 ls []) := by
  obtain ⟨hx, hb, hr, hml, hown, hts, hlk, hnm, hK, hG⟩ := id C
  intro y0 y1 y2 w h H locs ls hW hl
  unfold f_q_endWhile_250 at h
  refine lv_aload_n hx hb d_q_endWhile_250 rfl (lv_at hl 0 rfl) ?_
  refine lv_iload_n hx hb d_q_endWhile_251 rfl (lv_at hl 1 rfl) ?_
  refine lv_iload_n hx hb d_q_endWhile_252 rfl (lv_at hl 2 rfl) ?_
  replace h := bs2 h
  obtain ⟨x20, w19, hw19, h⟩ := h
  refine cv_q_502 (As := [.int y1, .int y2]) (rest := []) hx hb hml hown hts hK hG hW (c_q_again l D cA base hw19) (kb_q_again hw19) ⟨Nat.le_of_ble_eq_true rfl, Nat.le_of_ble_eq_true rfl⟩ ⟨Nat.le_of_ble_eq_true rfl, Nat.le_of_ble_eq_true rfl⟩ rfl hl.1 rfl (Nat.le_of_ble_eq_true rfl) d_q_endWhile_253 (fun H locs hW => ?_)
  cases h
  exact wo_iret hx hb hr hlk hW d_q_endWhile_256
set_option maxHeartbeats 4000000 in
set_option maxRecDepth 100000 in
theorem j_q_endWhile_220 {p : Program} {l : Launch} {e : Env} {s : State} {m : MethodId} {args : Array Value} {below : List Frame} {meth : Method} {c : Code} {D : va_G} {cA : Nat → ClassId} {base : Nat} {r : Int32} {w' : WW} (C : cx b_q_endWhile (some .int) 6 y_q_endWhile.cls "endWhile" p s m args meth c D cA base)   : ∀ (y0 : Nat) (y1 : Int32) (y2 : Int32) (y3 : Int32) (w : WW), f_q_endWhile_220 y0 y1 y2 y3 w = some (r, w') → ∀ (H : Heap) (locs : List Loc) (ls : Array Slot), wo_S D cls cA base s w H locs → lv_has ls 6 [(0, .ref (base + y0)), (1, .int y1), (2, .int y2), (3, .int y3)] → W p l e rm_q_endWhile s m args below meth c H locs 0 0 (MQ below (wo_Q D cls cA base (some (.int r)) w') args s rm_q_endWhile.cells rm_q_endWhile.slots (wo_B base)) (F0 m 220 ls []) := by
  obtain ⟨hx, hb, hr, hml, hown, hts, hlk, hnm, hK, hG⟩ := id C
  intro y0 y1 y2 y3 w h H locs ls hW hl
  unfold f_q_endWhile_220 at h
  refine lv_aload_n hx hb d_q_endWhile_220 rfl (lv_at hl 0 rfl) ?_
  replace h := bs h
  obtain ⟨x15, hx15, h⟩ := h
  refine gf_q_145 hx hb hts hown hK hG hW (gN_s hx15) d_q_endWhile_221 ?_
  refine lv_iload_n hx hb d_q_endWhile_224 rfl (lv_at hl 3 rfl) ?_
  replace h := bs h
  obtain ⟨x16, hx16, h⟩ := h
  refine wo_iald hx hb hK hW (t := 0) rfl hx16 d_q_endWhile_225 ?_
  refine lv_aload_n hx hb d_q_endWhile_226 rfl (lv_at hl 0 rfl) ?_
  replace h := bs h
  obtain ⟨x17, hx17, h⟩ := h
  refine gf_q_23 hx hb hts hown hK hG hW (gI_s hx17) d_q_endWhile_227 ?_
  refine lv_icmp_ne (tgt := 250) hx hb d_q_endWhile_230 (by decide) (fun c18 => ?_) (fun c18 => ?_)
  · rw [if_neg c18] at h
    exact j_q_endWhile_250 C y0 y1 y2 w h _ _ _ hW (lv_sub hl [0, 1, 2] rfl)
  · rw [if_pos c18] at h
    refine lv_aload_n hx hb d_q_endWhile_233 rfl (lv_at hl 0 rfl) ?_
    replace h := bs h
    obtain ⟨x21, hx21, h⟩ := h
    refine gf_q_142 hx hb hts hown hK hG hW (gN_s hx21) d_q_endWhile_234 ?_
    refine lv_iload_n hx hb d_q_endWhile_237 rfl (lv_at hl 3 rfl) ?_
    refine lv_iconst (v := (4 : Int32)) hx hb d_q_endWhile_238 (by decide) ?_
    replace h := bs h
    obtain ⟨w22, hw22, h⟩ := h
    refine wo_iast hx hb hK hW (t := 0) rfl hw22 d_q_endWhile_239 (fun H locs hW => ?_)
    refine lv_aload_n hx hb d_q_endWhile_240 rfl (lv_at hl 0 rfl) ?_
    refine lv_dup hx hb d_q_endWhile_241 rfl ?_
    replace h := bs h
    obtain ⟨x23, hx23, h⟩ := h
    refine gf_q_429 hx hb hts hown hK hG hW (gI_s hx23) d_q_endWhile_242 ?_
    refine lv_iconst (v := (1 : Int32)) hx hb d_q_endWhile_245 (by decide) ?_
    refine lv_isub hx hb d_q_endWhile_246 ?_
    replace h := bs h
    obtain ⟨w24, hw24, h⟩ := h
    refine pf_q_429 hx hb hts hown hK hG hW rfl rfl (pbi hw24 rfl) d_q_endWhile_247 (fun H locs hW => ?_)
    exact j_q_endWhile_250 C y0 y1 y2 w24 h _ _ _ hW (lv_sub hl [0, 1, 2] rfl)
set_option maxHeartbeats 4000000 in
set_option maxRecDepth 100000 in
theorem j_q_endWhile_160 {p : Program} {l : Launch} {e : Env} {s : State} {m : MethodId} {args : Array Value} {below : List Frame} {meth : Method} {c : Code} {D : va_G} {cA : Nat → ClassId} {base : Nat} {r : Int32} {w' : WW} (C : cx b_q_endWhile (some .int) 6 y_q_endWhile.cls "endWhile" p s m args meth c D cA base)   : ∀ (y0 : Nat) (y1 : Int32) (y2 : Int32) (y3 : Int32) (w : WW), f_q_endWhile_160 y0 y1 y2 y3 w = some (r, w') → ∀ (H : Heap) (locs : List Loc) (ls : Array Slot), wo_S D cls cA base s w H locs → lv_has ls 6 [(0, .ref (base + y0)), (1, .int y1), (2, .int y2), (3, .int y3)] → W p l e rm_q_endWhile s m args below meth c H locs 0 0 (MQ below (wo_Q D cls cA base (some (.int r)) w') args s rm_q_endWhile.cells rm_q_endWhile.slots (wo_B base)) (F0 m 160 ls []) := by
  obtain ⟨hx, hb, hr, hml, hown, hts, hlk, hnm, hK, hG⟩ := id C
  intro y0 y1 y2 y3 w h H locs ls hW hl
  unfold f_q_endWhile_160 at h
  refine lv_aload_n hx hb d_q_endWhile_160 rfl (lv_at hl 0 rfl) ?_
  refine lv_iload_n hx hb d_q_endWhile_161 rfl (lv_at hl 2 rfl) ?_
  refine lv_iconst (v := (1 : Int32)) hx hb d_q_endWhile_162 (by decide) ?_
  refine lv_iadd hx hb d_q_endWhile_163 ?_
  refine lv_iconst (v := (2 : Int32)) hx hb d_q_endWhile_164 (by decide) ?_
  replace h := bs h
  obtain ⟨w38, hw38, h⟩ := h
  refine cv_q_445 (As := [.int (y2 + (1 : Int32)), .int (2 : Int32)]) (rest := []) hx hb hml hown hts hK hG hW (c_q_copyState l D cA base hw38) (kb_q_copyState hw38) ⟨Nat.le_of_ble_eq_true rfl, Nat.le_of_ble_eq_true rfl⟩ ⟨Nat.le_of_ble_eq_true rfl, Nat.le_of_ble_eq_true rfl⟩ rfl hl.1 rfl (Nat.le_of_ble_eq_true rfl) d_q_endWhile_165 (fun H locs hW => ?_)
  refine lv_aload_n hx hb d_q_endWhile_168 rfl (lv_at hl 0 rfl) ?_
  replace h := bs h
  obtain ⟨x39, hx39, h⟩ := h
  refine gf_q_145 hx hb hts hown hK hG hW (gN_s hx39) d_q_endWhile_169 ?_
  refine lv_iload_n hx hb d_q_endWhile_172 rfl (lv_at hl 3 rfl) ?_
  refine lv_dup2_11 hx hb d_q_endWhile_173 rfl rfl ?_
  replace h := bs h
  obtain ⟨x40, hx40, h⟩ := h
  refine wo_iald hx hb hK hW (t := 0) rfl hx40 d_q_endWhile_174 ?_
  refine lv_iconst (v := (1 : Int32)) hx hb d_q_endWhile_175 (by decide) ?_
  refine lv_iadd hx hb d_q_endWhile_176 ?_
  replace h := bs h
  obtain ⟨w41, hw41, h⟩ := h
  refine wo_iast hx hb hK hW (t := 0) rfl hw41 d_q_endWhile_177 (fun H locs hW => ?_)
  refine lv_aload_n hx hb d_q_endWhile_178 rfl (lv_at hl 0 rfl) ?_
  refine lv_iload_n hx hb d_q_endWhile_179 rfl (lv_at hl 1 rfl) ?_
  refine lv_iload_n hx hb d_q_endWhile_180 rfl (lv_at hl 2 rfl) ?_
  replace h := bs2 h
  obtain ⟨x43, w42, hw42, h⟩ := h
  refine cv_q_502 (As := [.int y1, .int y2]) (rest := []) hx hb hml hown hts hK hG hW (c_q_again l D cA base hw42) (kb_q_again hw42) ⟨Nat.le_of_ble_eq_true rfl, Nat.le_of_ble_eq_true rfl⟩ ⟨Nat.le_of_ble_eq_true rfl, Nat.le_of_ble_eq_true rfl⟩ rfl hl.1 rfl (Nat.le_of_ble_eq_true rfl) d_q_endWhile_181 (fun H locs hW => ?_)
  cases h
  exact wo_iret hx hb hr hlk hW d_q_endWhile_184
set_option maxHeartbeats 4000000 in
set_option maxRecDepth 100000 in
theorem j_q_endWhile_127 {p : Program} {l : Launch} {e : Env} {s : State} {m : MethodId} {args : Array Value} {below : List Frame} {meth : Method} {c : Code} {D : va_G} {cA : Nat → ClassId} {base : Nat} {r : Int32} {w' : WW} (C : cx b_q_endWhile (some .int) 6 y_q_endWhile.cls "endWhile" p s m args meth c D cA base)   : ∀ n : Nat, ∀ (y0 : Nat) (y1 : Int32) (y2 : Int32) (y3 : Int32) (y5 : Int32) (w : WW), f_q_endWhile_127 n y0 y1 y2 y3 y5 w = some (r, w') → ∀ (H : Heap) (locs : List Loc) (ls : Array Slot), wo_S D cls cA base s w H locs → lv_has ls 6 [(0, .ref (base + y0)), (1, .int y1), (2, .int y2), (3, .int y3), (5, .int y5)] → W p l e rm_q_endWhile s m args below meth c H locs 0 0 (MQ below (wo_Q D cls cA base (some (.int r)) w') args s rm_q_endWhile.cells rm_q_endWhile.slots (wo_B base)) (F0 m 127 ls []) := by
  obtain ⟨hx, hb, hr, hml, hown, hts, hlk, hnm, hK, hG⟩ := id C
  intro n
  induction n with
  | zero => intro y0 y1 y2 y3 y5 w h; cases h
  | succ n ih =>
    intro y0 y1 y2 y3 y5 w h H locs ls hW hl
    rw [f_q_endWhile_127] at h
    refine lv_iload hx hb d_q_endWhile_127 (lv_at hl 4 rfl) ?_
    refine lv_bipush (v := (14 : Int32)) hx hb d_q_endWhile_129 (by decide) ?_
    refine lv_icmp_ge (tgt := 160) hx hb d_q_endWhile_131 (by decide) (fun c37 => ?_) (fun c37 => ?_)
    · rw [if_pos c37] at h
      exact j_q_endWhile_160 C y0 y1 y2 y3 w h _ _ _ hW (lv_sub hl [0, 1, 2, 3] rfl)
    · rw [if_neg c37] at h
      refine lv_aload_n hx hb d_q_endWhile_134 rfl (lv_at hl 0 rfl) ?_
      replace h := bs h
      obtain ⟨x44, hx44, h⟩ := h
      refine gf_q_145 hx hb hts hown hK hG hW (gN_s hx44) d_q_endWhile_135 ?_
      refine lv_iload_n hx hb d_q_endWhile_138 rfl (lv_at hl 3 rfl) ?_
      replace h := bs h
      obtain ⟨x45, hx45, h⟩ := h
      refine wo_iald hx hb hK hW (t := 0) rfl hx45 d_q_endWhile_139 ?_
      refine lv_bipush (v := (20 : Int32)) hx hb d_q_endWhile_140 (by decide) ?_
      refine lv_icmp_le (tgt := 160) hx hb d_q_endWhile_142 (by decide) (fun c46 => ?_) (fun c46 => ?_)
      · rw [if_pos c46] at h
        exact j_q_endWhile_160 C y0 y1 y2 y3 w h _ _ _ hW (lv_sub hl [0, 1, 2, 3] rfl)
      · rw [if_neg c46] at h
        refine lv_aload_n hx hb d_q_endWhile_145 rfl (lv_at hl 0 rfl) ?_
        refine lv_bipush (v := (28 : Int32)) hx hb d_q_endWhile_146 (by decide) ?_
        refine lv_iload hx hb d_q_endWhile_148 (lv_at hl 4 rfl) ?_
        refine lv_iadd hx hb d_q_endWhile_150 ?_
        replace h := bs h
        obtain ⟨w47, hw47, h⟩ := h
        refine cv_q_479 (As := [.int ((28 : Int32) + y5)]) (rest := []) hx hb hml hown hts hK hG hW (c_q_all l D cA base hw47) (kb_q_all hw47) ⟨Nat.le_of_ble_eq_true rfl, Nat.le_of_ble_eq_true rfl⟩ ⟨Nat.le_of_ble_eq_true rfl, Nat.le_of_ble_eq_true rfl⟩ rfl hl.1 rfl (Nat.le_of_ble_eq_true rfl) d_q_endWhile_151 (fun H locs hW => ?_)
        refine lv_iinc (v := (y5 + (1 : Int32))) (lv' := [(5, .int (y5 + (1 : Int32))), (0, .ref (base + y0)), (1, .int y1), (2, .int y2), (3, .int y3)]) hx hb d_q_endWhile_154 hl (k := 4) rfl rfl (by decide) rfl (fun ls hl => ?_)
        refine lv_goto (tgt := 127) hx hb d_q_endWhile_157 (by decide) ?_
        exact ih y0 y1 y2 y3 (y5 + (1 : Int32)) w47 h _ _ _ hW (lv_sub hl [1, 2, 3, 4, 0] rfl)
set_option maxHeartbeats 4000000 in
set_option maxRecDepth 100000 in
theorem j_q_endWhile_124 {p : Program} {l : Launch} {e : Env} {s : State} {m : MethodId} {args : Array Value} {below : List Frame} {meth : Method} {c : Code} {D : va_G} {cA : Nat → ClassId} {base : Nat} {r : Int32} {w' : WW} (C : cx b_q_endWhile (some .int) 6 y_q_endWhile.cls "endWhile" p s m args meth c D cA base)   : ∀ (y0 : Nat) (y1 : Int32) (y2 : Int32) (y3 : Int32) (w : WW), f_q_endWhile_124 y0 y1 y2 y3 w = some (r, w') → ∀ (H : Heap) (locs : List Loc) (ls : Array Slot), wo_S D cls cA base s w H locs → lv_has ls 6 [(0, .ref (base + y0)), (1, .int y1), (2, .int y2), (3, .int y3)] → W p l e rm_q_endWhile s m args below meth c H locs 0 0 (MQ below (wo_Q D cls cA base (some (.int r)) w') args s rm_q_endWhile.cells rm_q_endWhile.slots (wo_B base)) (F0 m 124 ls []) := by
  obtain ⟨hx, hb, hr, hml, hown, hts, hlk, hnm, hK, hG⟩ := id C
  intro y0 y1 y2 y3 w h H locs ls hW hl
  unfold f_q_endWhile_124 at h
  refine lv_iconst (v := (0 : Int32)) hx hb d_q_endWhile_124 (by decide) ?_
  refine lv_istore (lv' := [(5, .int (0 : Int32)), (0, .ref (base + y0)), (1, .int y1), (2, .int y2), (3, .int y3)]) hx hb d_q_endWhile_125 hl (by decide) rfl (fun ls hl => ?_)
  exact j_q_endWhile_127 C KK y0 y1 y2 y3 (0 : Int32) w h _ _ _ hW (lv_sub hl [1, 2, 3, 4, 0] rfl)
set_option maxHeartbeats 4000000 in
set_option maxRecDepth 100000 in
theorem c_q_endWhile (l : Launch) (D : va_G) (cA : Nat → ClassId) (base : Nat) {a0 : Nat} {a1 : Int32} {a2 : Int32} {w w' : WW} {r : Int32} (h : f_q_endWhile a0 a1 a2 w = some (r, w')) : mt l D cls (wo_tys cA) cA base y_q_endWhile (Cond.code y_q_endWhile b_q_endWhile 6 (some .int) :: gt) rm_q_endWhile [.ref (base + a0), .int a1, .int a2] w (some (.int r)) w' rm_q_endWhile.cells rm_q_endWhile.slots := by
  refine mt_start (by decide) (Nat.le_of_ble_eq_true rfl) ?_
  intro p e s m below meth c ls hx hb hr hml hown hts hlk hnm hK hG hW hl
  have C : cx b_q_endWhile (some .int) 6 y_q_endWhile.cls "endWhile" p s m [.ref (base + a0), .int a1, .int a2].toArray meth c D cA base := ⟨hx, hb, hr, hml, hown, hts, hlk, hnm, hK, hG⟩
  have hl : lv_has ls 6 [(0, .ref (base + a0)), (1, .int a1), (2, .int a2)] := hl
  unfold f_q_endWhile at h
  replace h := its h
  obtain ⟨-, h⟩ := h
  refine lv_aload_n hx hb d_q_endWhile_0 rfl (lv_at hl 0 rfl) ?_
  replace h := bs h
  obtain ⟨x1, hx1, h⟩ := h
  refine gf_q_489 hx hb hts hown hK hG hW (gI_s hx1) d_q_endWhile_1 ?_
  refine lv_iconst (v := (1 : Int32)) hx hb d_q_endWhile_4 (by decide) ?_
  refine lv_isub hx hb d_q_endWhile_5 ?_
  refine lv_istore_n (lv' := [(3, .int (x1 - (1 : Int32))), (0, .ref (base + a0)), (1, .int a1), (2, .int a2)]) hx hb d_q_endWhile_6 rfl hl (by decide) rfl (fun ls hl => ?_)
  refine lv_aload_n hx hb d_q_endWhile_7 rfl (lv_at hl 1 rfl) ?_
  refine lv_dup hx hb d_q_endWhile_8 rfl ?_
  replace h := bs h
  obtain ⟨x2, hx2, h⟩ := h
  refine gf_q_496 hx hb hts hown hK hG hW (gI_s hx2) d_q_endWhile_9 ?_
  refine lv_iconst (v := (1 : Int32)) hx hb d_q_endWhile_12 (by decide) ?_
  refine lv_iadd hx hb d_q_endWhile_13 ?_
  replace h := bs h
  obtain ⟨w3, hw3, h⟩ := h
  refine pf_q_496 hx hb hts hown hK hG hW rfl rfl (pbi hw3 rfl) d_q_endWhile_14 (fun H locs hW => ?_)
  refine lv_aload_n hx hb d_q_endWhile_17 rfl (lv_at hl 1 rfl) ?_
  replace h := bs h
  obtain ⟨x4, hx4, h⟩ := h
  refine gf_q_142 hx hb hts hown hK hG hW (gN_s hx4) d_q_endWhile_18 ?_
  refine lv_iload_n hx hb d_q_endWhile_21 rfl (lv_at hl 0 rfl) ?_
  replace h := bs h
  obtain ⟨x5, hx5, h⟩ := h
  refine wo_iald hx hb hK hW (t := 0) rfl hx5 d_q_endWhile_22 ?_
  refine lv_iconst (v := (4 : Int32)) hx hb d_q_endWhile_23 (by decide) ?_
  refine lv_icmp_ne (tgt := 58) hx hb d_q_endWhile_24 (by decide) (fun c6 => ?_) (fun c6 => ?_)
  · rw [if_neg c6] at h
    refine lv_aload_n hx hb d_q_endWhile_58 rfl (lv_at hl 1 rfl) ?_
    refine lv_iconst (v := (1 : Int32)) hx hb d_q_endWhile_59 (by decide) ?_
    refine lv_iload_n hx hb d_q_endWhile_60 rfl (lv_at hl 3 rfl) ?_
    refine lv_iconst (v := (0 : Int32)) hx hb d_q_endWhile_61 (by decide) ?_
    refine lv_iconst (v := (0 : Int32)) hx hb d_q_endWhile_62 (by decide) ?_
    replace h := bs h
    obtain ⟨w7, hw7, h⟩ := h
    refine cv_q_492 (As := [.int (1 : Int32), .int a2, .int (0 : Int32), .int (0 : Int32)]) (rest := []) hx hb hml hown hts hK hG hW (c_q_joinState l D cA base hw7) (kb_q_joinState hw7) ⟨Nat.le_of_ble_eq_true rfl, Nat.le_of_ble_eq_true rfl⟩ ⟨Nat.le_of_ble_eq_true rfl, Nat.le_of_ble_eq_true rfl⟩ rfl hl.1 rfl (Nat.le_of_ble_eq_true rfl) d_q_endWhile_63 (fun H locs hW => ?_)
    refine lv_aload_n hx hb d_q_endWhile_66 rfl (lv_at hl 1 rfl) ?_
    replace h := bs h
    obtain ⟨x8, hx8, h⟩ := h
    refine gf_q_142 hx hb hts hown hK hG hW (gN_s hx8) d_q_endWhile_67 ?_
    refine lv_iload_n hx hb d_q_endWhile_70 rfl (lv_at hl 0 rfl) ?_
    replace h := bs h
    obtain ⟨x9, hx9, h⟩ := h
    refine wo_iald hx hb hK hW (t := 0) rfl hx9 d_q_endWhile_71 ?_
    refine lv_iconst (v := (2 : Int32)) hx hb d_q_endWhile_72 (by decide) ?_
    refine lv_icmp_ne (tgt := 202) hx hb d_q_endWhile_73 (by decide) (fun c10 => ?_) (fun c10 => ?_)
    · rw [if_neg c10] at h
      refine lv_aload_n hx hb d_q_endWhile_202 rfl (lv_at hl 1 rfl) ?_
      refine lv_iload_n hx hb d_q_endWhile_203 rfl (lv_at hl 3 rfl) ?_
      refine lv_iconst (v := (1 : Int32)) hx hb d_q_endWhile_204 (by decide) ?_
      refine lv_iadd hx hb d_q_endWhile_205 ?_
      refine lv_iconst (v := (1 : Int32)) hx hb d_q_endWhile_206 (by decide) ?_
      replace h := bs h
      obtain ⟨w11, hw11, h⟩ := h
      refine cv_q_445 (As := [.int (a2 + (1 : Int32)), .int (1 : Int32)]) (rest := []) hx hb hml hown hts hK hG hW (c_q_copyState l D cA base hw11) (kb_q_copyState hw11) ⟨Nat.le_of_ble_eq_true rfl, Nat.le_of_ble_eq_true rfl⟩ ⟨Nat.le_of_ble_eq_true rfl, Nat.le_of_ble_eq_true rfl⟩ rfl hl.1 rfl (Nat.le_of_ble_eq_true rfl) d_q_endWhile_207 (fun H locs hW => ?_)
      refine lv_aload_n hx hb d_q_endWhile_210 rfl (lv_at hl 1 rfl) ?_
      replace h := bs h
      obtain ⟨x12, hx12, h⟩ := h
      refine gf_q_145 hx hb hts hown hK hG hW (gN_s hx12) d_q_endWhile_211 ?_
      refine lv_iload_n hx hb d_q_endWhile_214 rfl (lv_at hl 0 rfl) ?_
      refine lv_dup2_11 hx hb d_q_endWhile_215 rfl rfl ?_
      replace h := bs h
      obtain ⟨x13, hx13, h⟩ := h
      refine wo_iald hx hb hK hW (t := 0) rfl hx13 d_q_endWhile_216 ?_
      refine lv_iconst (v := (1 : Int32)) hx hb d_q_endWhile_217 (by decide) ?_
      refine lv_iadd hx hb d_q_endWhile_218 ?_
      replace h := bs h
      obtain ⟨w14, hw14, h⟩ := h
      refine wo_iast hx hb hK hW (t := 0) rfl hw14 d_q_endWhile_219 (fun H locs hW => ?_)
      exact j_q_endWhile_220 C a0 a1 a2 (x1 - (1 : Int32)) w14 h _ _ _ hW (lv_sub hl [1, 2, 3, 0] rfl)
    · rw [if_pos c10] at h
      refine lv_aload_n hx hb d_q_endWhile_76 rfl (lv_at hl 1 rfl) ?_
      refine lv_iconst (v := (2 : Int32)) hx hb d_q_endWhile_77 (by decide) ?_
      refine lv_iload_n hx hb d_q_endWhile_78 rfl (lv_at hl 3 rfl) ?_
      refine lv_iconst (v := (1 : Int32)) hx hb d_q_endWhile_79 (by decide) ?_
      refine lv_iadd hx hb d_q_endWhile_80 ?_
      refine lv_iconst (v := (1 : Int32)) hx hb d_q_endWhile_81 (by decide) ?_
      refine lv_iconst (v := (0 : Int32)) hx hb d_q_endWhile_82 (by decide) ?_
      replace h := bs h
      obtain ⟨w25, hw25, h⟩ := h
      refine cv_q_492 (As := [.int (2 : Int32), .int (a2 + (1 : Int32)), .int (1 : Int32), .int (0 : Int32)]) (rest := []) hx hb hml hown hts hK hG hW (c_q_joinState l D cA base hw25) (kb_q_joinState hw25) ⟨Nat.le_of_ble_eq_true rfl, Nat.le_of_ble_eq_true rfl⟩ ⟨Nat.le_of_ble_eq_true rfl, Nat.le_of_ble_eq_true rfl⟩ rfl hl.1 rfl (Nat.le_of_ble_eq_true rfl) d_q_endWhile_83 (fun H locs hW => ?_)
      refine lv_aload_n hx hb d_q_endWhile_86 rfl (lv_at hl 1 rfl) ?_
      refine lv_iconst (v := (2 : Int32)) hx hb d_q_endWhile_87 (by decide) ?_
      refine lv_iload_n hx hb d_q_endWhile_88 rfl (lv_at hl 3 rfl) ?_
      refine lv_iconst (v := (1 : Int32)) hx hb d_q_endWhile_89 (by decide) ?_
      refine lv_iadd hx hb d_q_endWhile_90 ?_
      replace h := bs2 h
      obtain ⟨x27, w26, hw26, h⟩ := h
      refine cv_q_499 (As := [.int (2 : Int32), .int (a2 + (1 : Int32))]) (rest := []) hx hb hml hown hts hK hG hW (c_q_sameState l D cA base hw26) (kb_q_sameState hw26) ⟨Nat.le_of_ble_eq_true rfl, Nat.le_of_ble_eq_true rfl⟩ ⟨Nat.le_of_ble_eq_true rfl, Nat.le_of_ble_eq_true rfl⟩ rfl hl.1 rfl (Nat.le_of_ble_eq_true rfl) d_q_endWhile_91 (fun H locs hW => ?_)
      refine lv_istore (lv' := [(4, .int x27), (3, .int (x1 - (1 : Int32))), (0, .ref (base + a0)), (1, .int a1), (2, .int a2)]) hx hb d_q_endWhile_94 hl (by decide) rfl (fun ls hl => ?_)
      refine lv_iload hx hb d_q_endWhile_96 (lv_at hl 0 rfl) ?_
      refine lv_if_ne (tgt := 185) hx hb d_q_endWhile_98 (by decide) (fun c28 => ?_) (fun c28 => ?_)
      · rw [if_neg c28] at h
        refine lv_aload_n hx hb d_q_endWhile_185 rfl (lv_at hl 2 rfl) ?_
        replace h := bs h
        obtain ⟨x29, hx29, h⟩ := h
        refine gf_q_142 hx hb hts hown hK hG hW (gN_s hx29) d_q_endWhile_186 ?_
        refine lv_iload_n hx hb d_q_endWhile_189 rfl (lv_at hl 1 rfl) ?_
        refine lv_iconst (v := (3 : Int32)) hx hb d_q_endWhile_190 (by decide) ?_
        replace h := bs h
        obtain ⟨w30, hw30, h⟩ := h
        refine wo_iast hx hb hK hW (t := 0) rfl hw30 d_q_endWhile_191 (fun H locs hW => ?_)
        refine lv_aload_n hx hb d_q_endWhile_192 rfl (lv_at hl 2 rfl) ?_
        replace h := bs h
        obtain ⟨x31, hx31, h⟩ := h
        refine gf_q_145 hx hb hts hown hK hG hW (gN_s hx31) d_q_endWhile_193 ?_
        refine lv_iload_n hx hb d_q_endWhile_196 rfl (lv_at hl 1 rfl) ?_
        refine lv_iconst (v := (0 : Int32)) hx hb d_q_endWhile_197 (by decide) ?_
        replace h := bs h
        obtain ⟨w32, hw32, h⟩ := h
        refine wo_iast hx hb hK hW (t := 0) rfl hw32 d_q_endWhile_198 (fun H locs hW => ?_)
        refine lv_goto (tgt := 220) hx hb d_q_endWhile_199 (by decide) ?_
        exact j_q_endWhile_220 C a0 a1 a2 (x1 - (1 : Int32)) w32 h _ _ _ hW (lv_sub hl [2, 3, 4, 1] rfl)
      · rw [if_pos c28] at h
        refine lv_aload_n hx hb d_q_endWhile_101 rfl (lv_at hl 2 rfl) ?_
        replace h := bs h
        obtain ⟨x33, hx33, h⟩ := h
        refine gf_q_145 hx hb hts hown hK hG hW (gN_s hx33) d_q_endWhile_102 ?_
        refine lv_iload_n hx hb d_q_endWhile_105 rfl (lv_at hl 1 rfl) ?_
        replace h := bs h
        obtain ⟨x34, hx34, h⟩ := h
        refine wo_iald hx hb hK hW (t := 0) rfl hx34 d_q_endWhile_106 ?_
        refine lv_aload_n hx hb d_q_endWhile_107 rfl (lv_at hl 2 rfl) ?_
        replace h := bs h
        obtain ⟨x35, hx35, h⟩ := h
        refine gf_q_20 hx hb hts hown hK hG hW (gI_s hx35) d_q_endWhile_108 ?_
        refine lv_icmp_le (tgt := 124) hx hb d_q_endWhile_111 (by decide) (fun c36 => ?_) (fun c36 => ?_)
        · rw [if_pos c36] at h
          exact j_q_endWhile_124 C a0 a1 a2 (x1 - (1 : Int32)) w26 h _ _ _ hW (lv_sub hl [2, 3, 4, 1] rfl)
        · rw [if_neg c36] at h
          refine lv_aload_n hx hb d_q_endWhile_114 rfl (lv_at hl 2 rfl) ?_
          refine lv_iconst (v := (2 : Int32)) hx hb d_q_endWhile_115 (by decide) ?_
          refine lv_iload_n hx hb d_q_endWhile_116 rfl (lv_at hl 4 rfl) ?_
          refine lv_iconst (v := (1 : Int32)) hx hb d_q_endWhile_117 (by decide) ?_
          refine lv_iadd hx hb d_q_endWhile_118 ?_
          refine lv_iconst (v := (1 : Int32)) hx hb d_q_endWhile_119 (by decide) ?_
          refine lv_iconst (v := (1 : Int32)) hx hb d_q_endWhile_120 (by decide) ?_
          replace h := bs h
          obtain ⟨w48, hw48, h⟩ := h
          refine cv_q_492 (As := [.int (2 : Int32), .int (a2 + (1 : Int32)), .int (1 : Int32), .int (1 : Int32)]) (rest := []) hx hb hml hown hts hK hG hW (c_q_joinState l D cA base hw48) (kb_q_joinState hw48) ⟨Nat.le_of_ble_eq_true rfl, Nat.le_of_ble_eq_true rfl⟩ ⟨Nat.le_of_ble_eq_true rfl, Nat.le_of_ble_eq_true rfl⟩ rfl hl.1 rfl (Nat.le_of_ble_eq_true rfl) d_q_endWhile_121 (fun H locs hW => ?_)
          exact j_q_endWhile_124 C a0 a1 a2 (x1 - (1 : Int32)) w48 h _ _ _ hW (lv_sub hl [2, 3, 4, 1] rfl)
  · rw [if_pos c6] at h
    refine lv_aload_n hx hb d_q_endWhile_27 rfl (lv_at hl 1 rfl) ?_
    refine lv_iconst (v := (0 : Int32)) hx hb d_q_endWhile_28 (by decide) ?_
    refine lv_iload_n hx hb d_q_endWhile_29 rfl (lv_at hl 3 rfl) ?_
    refine lv_iconst (v := (1 : Int32)) hx hb d_q_endWhile_30 (by decide) ?_
    refine lv_iadd hx hb d_q_endWhile_31 ?_
    replace h := bs h
    obtain ⟨w49, hw49, h⟩ := h
    refine cv_q_445 (As := [.int (0 : Int32), .int (a2 + (1 : Int32))]) (rest := []) hx hb hml hown hts hK hG hW (c_q_copyState l D cA base hw49) (kb_q_copyState hw49) ⟨Nat.le_of_ble_eq_true rfl, Nat.le_of_ble_eq_true rfl⟩ ⟨Nat.le_of_ble_eq_true rfl, Nat.le_of_ble_eq_true rfl⟩ rfl hl.1 rfl (Nat.le_of_ble_eq_true rfl) d_q_endWhile_32 (fun H locs hW => ?_)
    refine lv_aload_n hx hb d_q_endWhile_35 rfl (lv_at hl 1 rfl) ?_
    refine lv_iload_n hx hb d_q_endWhile_36 rfl (lv_at hl 2 rfl) ?_
    refine lv_iconst (v := (0 : Int32)) hx hb d_q_endWhile_37 (by decide) ?_
    replace h := bs h
    obtain ⟨w50, hw50, h⟩ := h
    refine cv_q_485 (As := [.int a1, .int (0 : Int32)]) (rest := []) hx hb hml hown hts hK hG hW (c_q_assume l D cA base hw50) (kb_q_assume hw50) ⟨Nat.le_of_ble_eq_true rfl, Nat.le_of_ble_eq_true rfl⟩ ⟨Nat.le_of_ble_eq_true rfl, Nat.le_of_ble_eq_true rfl⟩ rfl hl.1 rfl (Nat.le_of_ble_eq_true rfl) d_q_endWhile_38 (fun H locs hW => ?_)
    refine lv_aload_n hx hb d_q_endWhile_41 rfl (lv_at hl 1 rfl) ?_
    refine lv_dup hx hb d_q_endWhile_42 rfl ?_
    replace h := bs h
    obtain ⟨x51, hx51, h⟩ := h
    refine gf_q_489 hx hb hts hown hK hG hW (gI_s hx51) d_q_endWhile_43 ?_
    refine lv_iconst (v := (1 : Int32)) hx hb d_q_endWhile_46 (by decide) ?_
    refine lv_isub hx hb d_q_endWhile_47 ?_
    replace h := bs h
    obtain ⟨w52, hw52, h⟩ := h
    refine pf_q_489 hx hb hts hown hK hG hW rfl rfl (pbi hw52 rfl) d_q_endWhile_48 (fun H locs hW => ?_)
    refine lv_aload_n hx hb d_q_endWhile_51 rfl (lv_at hl 1 rfl) ?_
    replace h := bs h
    obtain ⟨x53, hx53, h⟩ := h
    refine gf_q_56 hx hb hts hown hK hG hW (gN_s hx53) d_q_endWhile_52 ?_
    refine lv_iload_n hx hb d_q_endWhile_55 rfl (lv_at hl 2 rfl) ?_
    replace h := bs h
    obtain ⟨x54, hx54, h⟩ := h
    refine wo_iald hx hb hK hW (t := 0) rfl hx54 d_q_endWhile_56 ?_
    cases h
    exact wo_iret hx hb hr hlk hW d_q_endWhile_57
abbrev b_q_warnings : ByteArray := prog_11_method_85_code
def y_q_warnings : MethodName := ⟨"AlarmForgeModel", "warnings", "()I"⟩
def rm_q_warnings : Room := { frames := 0, cells := 0, slots := 0, locals := 0 }
theorem d_q_warnings_0 : decode b_q_warnings 0 = .ok (.iconst 0, 1) := by decide +kernel
theorem d_q_warnings_1 : decode b_q_warnings 1 = .ok (.istore_n 1, 1) := by decide +kernel
theorem d_q_warnings_2 : decode b_q_warnings 2 = .ok (.iconst 0, 1) := by decide +kernel
theorem d_q_warnings_3 : decode b_q_warnings 3 = .ok (.istore_n 2, 1) := by decide +kernel
theorem d_q_warnings_4 : decode b_q_warnings 4 = .ok (.iload_n 2, 1) := by decide +kernel
theorem d_q_warnings_5 : decode b_q_warnings 5 = .ok (.sipush (1200), 3) := by decide +kernel
theorem d_q_warnings_8 : decode b_q_warnings 8 = .ok (.if_icmp .ge (21), 3) := by decide +kernel
theorem d_q_warnings_11 : decode b_q_warnings 11 = .ok (.aload_n 0, 1) := by decide +kernel
theorem d_q_warnings_12 : decode b_q_warnings 12 = .ok (.getfield 136, 3) := by decide +kernel
theorem d_q_warnings_15 : decode b_q_warnings 15 = .ok (.iload_n 2, 1) := by decide +kernel
theorem d_q_warnings_16 : decode b_q_warnings 16 = .ok (.baload, 1) := by decide +kernel
theorem d_q_warnings_17 : decode b_q_warnings 17 = .ok (.ifCond .eq (6), 3) := by decide +kernel
theorem d_q_warnings_20 : decode b_q_warnings 20 = .ok (.iinc 1 (1), 3) := by decide +kernel
theorem d_q_warnings_23 : decode b_q_warnings 23 = .ok (.iinc 2 (1), 3) := by decide +kernel
theorem d_q_warnings_26 : decode b_q_warnings 26 = .ok (.goto (-22), 3) := by decide +kernel
theorem d_q_warnings_29 : decode b_q_warnings 29 = .ok (.iload_n 1, 1) := by decide +kernel
theorem d_q_warnings_30 : decode b_q_warnings 30 = .ok (.ireturn, 1) := by decide +kernel
theorem kb_q_warnings {a0 : Nat}  {w : WW} {r : (Int32 × WW)} (h : f_q_warnings a0 w = some r) : kb w a0 9 = true := (its h).1
set_option maxHeartbeats 4000000 in
set_option maxRecDepth 100000 in
theorem j_q_warnings_23 {p : Program} {l : Launch} {e : Env} {s : State} {m : MethodId} {args : Array Value} {below : List Frame} {meth : Method} {c : Code} {D : va_G} {cA : Nat → ClassId} {base : Nat} {r : Int32} {w' : WW} (C : cx b_q_warnings (some .int) 3 y_q_warnings.cls "warnings" p s m args meth c D cA base) {k_4 : Nat → Int32 → Int32 → WW → Option (Int32 × WW)} (hk_4 : ∀ (y0 : Nat) (y1 : Int32) (y2 : Int32) (w : WW), k_4 y0 y1 y2 w = some (r, w') → ∀ (H : Heap) (locs : List Loc) (ls : Array Slot), wo_S D cls cA base s w H locs → lv_has ls 3 [(0, .ref (base + y0)), (1, .int y1), (2, .int y2)] → W p l e rm_q_warnings s m args below meth c H locs 0 0 (MQ below (wo_Q D cls cA base (some (.int r)) w') args s rm_q_warnings.cells rm_q_warnings.slots (wo_B base)) (F0 m 4 ls [])) : ∀ (y0 : Nat) (y1 : Int32) (y2 : Int32) (w : WW), f_q_warnings_23 k_4 y0 y1 y2 w = some (r, w') → ∀ (H : Heap) (locs : List Loc) (ls : Array Slot), wo_S D cls cA base s w H locs → lv_has ls 3 [(0, .ref (base + y0)), (1, .int y1), (2, .int y2)] → W p l e rm_q_warnings s m args below meth c H locs 0 0 (MQ below (wo_Q D cls cA base (some (.int r)) w') args s rm_q_warnings.cells rm_q_warnings.slots (wo_B base)) (F0 m 23 ls []) := by
  obtain ⟨hx, hb, hr, hml, hown, hts, hlk, hnm, hK, hG⟩ := id C
  intro y0 y1 y2 w h H locs ls hW hl
  unfold f_q_warnings_23 at h
  refine lv_iinc (v := (y2 + (1 : Int32))) (lv' := [(2, .int (y2 + (1 : Int32))), (0, .ref (base + y0)), (1, .int y1)]) hx hb d_q_warnings_23 hl (k := 2) rfl rfl (by decide) rfl (fun ls hl => ?_)
  refine lv_goto (tgt := 4) hx hb d_q_warnings_26 (by decide) ?_
  exact hk_4 y0 y1 (y2 + (1 : Int32)) w h _ _ _ hW (lv_sub hl [1, 2, 0] rfl)
set_option maxHeartbeats 4000000 in
set_option maxRecDepth 100000 in
theorem j_q_warnings_4 {p : Program} {l : Launch} {e : Env} {s : State} {m : MethodId} {args : Array Value} {below : List Frame} {meth : Method} {c : Code} {D : va_G} {cA : Nat → ClassId} {base : Nat} {r : Int32} {w' : WW} (C : cx b_q_warnings (some .int) 3 y_q_warnings.cls "warnings" p s m args meth c D cA base)   : ∀ n : Nat, ∀ (y0 : Nat) (y1 : Int32) (y2 : Int32) (w : WW), f_q_warnings_4 n y0 y1 y2 w = some (r, w') → ∀ (H : Heap) (locs : List Loc) (ls : Array Slot), wo_S D cls cA base s w H locs → lv_has ls 3 [(0, .ref (base + y0)), (1, .int y1), (2, .int y2)] → W p l e rm_q_warnings s m args below meth c H locs 0 0 (MQ below (wo_Q D cls cA base (some (.int r)) w') args s rm_q_warnings.cells rm_q_warnings.slots (wo_B base)) (F0 m 4 ls []) := by
  obtain ⟨hx, hb, hr, hml, hown, hts, hlk, hnm, hK, hG⟩ := id C
  intro n
  induction n with
  | zero => intro y0 y1 y2 w h; cases h
  | succ n ih =>
    intro y0 y1 y2 w h H locs ls hW hl
    rw [f_q_warnings_4] at h
    refine lv_iload_n hx hb d_q_warnings_4 rfl (lv_at hl 2 rfl) ?_
    refine lv_sipush (v := (1200 : Int32)) hx hb d_q_warnings_5 (by decide) ?_
    refine lv_icmp_ge (tgt := 29) hx hb d_q_warnings_8 (by decide) (fun c1 => ?_) (fun c1 => ?_)
    · rw [if_pos c1] at h
      refine lv_iload_n hx hb d_q_warnings_29 rfl (lv_at hl 1 rfl) ?_
      cases h
      exact wo_iret hx hb hr hlk hW d_q_warnings_30
    · rw [if_neg c1] at h
      refine lv_aload_n hx hb d_q_warnings_11 rfl (lv_at hl 0 rfl) ?_
      replace h := bs h
      obtain ⟨x2, hx2, h⟩ := h
      refine gf_q_136 hx hb hts hown hK hG hW (gN_s hx2) d_q_warnings_12 ?_
      refine lv_iload_n hx hb d_q_warnings_15 rfl (lv_at hl 2 rfl) ?_
      replace h := bs h
      obtain ⟨x3, hx3, h⟩ := h
      refine wo_zald hx hb hK hW (t := 2) rfl hx3 d_q_warnings_16 ?_
      refine lv_if_eq (tgt := 23) hx hb d_q_warnings_17 (by decide) (fun c4 => ?_) (fun c4 => ?_)
      · rw [if_pos c4] at h
        exact j_q_warnings_23 C ih y0 y1 y2 w h _ _ _ hW (lv_sub hl [0, 1, 2] rfl)
      · rw [if_neg c4] at h
        refine lv_iinc (v := (y1 + (1 : Int32))) (lv' := [(1, .int (y1 + (1 : Int32))), (0, .ref (base + y0)), (2, .int y2)]) hx hb d_q_warnings_20 hl (k := 1) rfl rfl (by decide) rfl (fun ls hl => ?_)
        exact j_q_warnings_23 C ih y0 (y1 + (1 : Int32)) y2 w h _ _ _ hW (lv_sub hl [1, 0, 2] rfl)
set_option maxHeartbeats 4000000 in
set_option maxRecDepth 100000 in
theorem c_q_warnings (l : Launch) (D : va_G) (cA : Nat → ClassId) (base : Nat) {a0 : Nat} {w w' : WW} {r : Int32} (h : f_q_warnings a0 w = some (r, w')) : mt l D cls (wo_tys cA) cA base y_q_warnings (Cond.code y_q_warnings b_q_warnings 3 (some .int) :: gt) rm_q_warnings [.ref (base + a0)] w (some (.int r)) w' rm_q_warnings.cells rm_q_warnings.slots := by
  refine mt_start (by decide) (Nat.le_of_ble_eq_true rfl) ?_
  intro p e s m below meth c ls hx hb hr hml hown hts hlk hnm hK hG hW hl
  have C : cx b_q_warnings (some .int) 3 y_q_warnings.cls "warnings" p s m [.ref (base + a0)].toArray meth c D cA base := ⟨hx, hb, hr, hml, hown, hts, hlk, hnm, hK, hG⟩
  have hl : lv_has ls 3 [(0, .ref (base + a0))] := hl
  unfold f_q_warnings at h
  replace h := its h
  obtain ⟨-, h⟩ := h
  refine lv_iconst (v := (0 : Int32)) hx hb d_q_warnings_0 (by decide) ?_
  refine lv_istore_n (lv' := [(1, .int (0 : Int32)), (0, .ref (base + a0))]) hx hb d_q_warnings_1 rfl hl (by decide) rfl (fun ls hl => ?_)
  refine lv_iconst (v := (0 : Int32)) hx hb d_q_warnings_2 (by decide) ?_
  refine lv_istore_n (lv' := [(2, .int (0 : Int32)), (1, .int (0 : Int32)), (0, .ref (base + a0))]) hx hb d_q_warnings_3 rfl hl (by decide) rfl (fun ls hl => ?_)
  exact j_q_warnings_4 C KK a0 (0 : Int32) (0 : Int32) w h _ _ _ hW (lv_sub hl [2, 1, 0] rfl)
theorem cv_q_509 {p : Program} {l : Launch} {e : Env} {R : Room} {s : State} {m : MethodId} {args : Array Value} {below : List Frame} {meth : Method} {c : Code} {H : Heap} {locs : List Loc} {cells slots : Nat} {Q : State → Prop} {D : va_G} {cA : Nat → ClassId} {base : Nat} {w w' : WW} {cc : ByteArray} {pc nL : Nat} {ls : Array Slot} {rest st0 As : List Value} {ov : Option Value} {b : Nat} (hx : p.tables.exec = Jvm.exec) (hb : c.code = cc) (hml : c.maxLocals = nL) (hown : s.vm.findClass Rc_q = some m.cls) (hts : ∀ w ∈ gt, w.before args s = true) (hK : va_K D cls (wo_tys cA) s) (hG : wo_G cA base s) (hW : wo_S D cls cA base s w H locs) (hM : mt l D cls (wo_tys cA) cA base y_q_enter (Cond.code y_q_enter b_q_enter 3 (some .int) :: gt) rm_q_enter (.ref (base + b) :: As) w ov w' rm_q_enter.cells rm_q_enter.slots) (hkb : kb w b 9 = true) (hR : rm_q_enter.frames + 1 ≤ R.frames ∧ 8 + (3 + 11) + rm_q_enter.locals ≤ R.locals) (hf : cells + rm_q_enter.cells ≤ R.cells ∧ slots + rm_q_enter.slots ≤ R.slots) (hn : As.length = 1) (hsz : ls.size = nL) (hst : st0 = As.reverse ++ .ref (base + b) :: rest) (hcat : (rest.map fun v => v.category).sum ≤ 8) (hdg : decode cc pc = .ok (.invokevirtual 509, 3)) (kk : ∀ (H1 : Heap) (locs1 : List Loc), wo_S D cls cA base s w' H1 locs1 → W p l e R s m args below meth c H1 locs1 (cells + rm_q_enter.cells) (slots + rm_q_enter.slots) Q (F0 m (pc + 3) ls (ov.toList ++ rest))) : W p l e R s m args below meth c H locs cells slots Q (F0 m pc ls st0) :=
  wo_callV (C := Rc_q) hx hb hml hown hts hK hG hW hM hkb rfl (gt_of (i := 1586) (by decide +kernel) (by decide +kernel)) (gt_of (i := 1588) (by decide +kernel) (by decide +kernel)) (gt_sel (i := 89) (by decide +kernel) (by decide +kernel)) (gt_of (i := 10) (by decide +kernel) (by decide +kernel)) (gt_of (i := 1589) (by decide +kernel) (by decide +kernel)) (by decide +kernel) hR hf hn hsz hst hcat hdg kk
theorem cv_q_512 {p : Program} {l : Launch} {e : Env} {R : Room} {s : State} {m : MethodId} {args : Array Value} {below : List Frame} {meth : Method} {c : Code} {H : Heap} {locs : List Loc} {cells slots : Nat} {Q : State → Prop} {D : va_G} {cA : Nat → ClassId} {base : Nat} {w w' : WW} {cc : ByteArray} {pc nL : Nat} {ls : Array Slot} {rest st0 As : List Value} {ov : Option Value} {b : Nat} (hx : p.tables.exec = Jvm.exec) (hb : c.code = cc) (hml : c.maxLocals = nL) (hown : s.vm.findClass Rc_q = some m.cls) (hts : ∀ w ∈ gt, w.before args s = true) (hK : va_K D cls (wo_tys cA) s) (hG : wo_G cA base s) (hW : wo_S D cls cA base s w H locs) (hM : mt l D cls (wo_tys cA) cA base y_q_pass (Cond.code y_q_pass b_q_pass 3 (none) :: gt) rm_q_pass (.ref (base + b) :: As) w ov w' rm_q_pass.cells rm_q_pass.slots) (hkb : kb w b 9 = true) (hR : rm_q_pass.frames + 1 ≤ R.frames ∧ 8 + (3 + 11) + rm_q_pass.locals ≤ R.locals) (hf : cells + rm_q_pass.cells ≤ R.cells ∧ slots + rm_q_pass.slots ≤ R.slots) (hn : As.length = 1) (hsz : ls.size = nL) (hst : st0 = As.reverse ++ .ref (base + b) :: rest) (hcat : (rest.map fun v => v.category).sum ≤ 8) (hdg : decode cc pc = .ok (.invokevirtual 512, 3)) (kk : ∀ (H1 : Heap) (locs1 : List Loc), wo_S D cls cA base s w' H1 locs1 → W p l e R s m args below meth c H1 locs1 (cells + rm_q_pass.cells) (slots + rm_q_pass.slots) Q (F0 m (pc + 3) ls (ov.toList ++ rest))) : W p l e R s m args below meth c H locs cells slots Q (F0 m pc ls st0) :=
  wo_callV (C := Rc_q) hx hb hml hown hts hK hG hW hM hkb rfl (gt_of (i := 1667) (by decide +kernel) (by decide +kernel)) (gt_of (i := 1669) (by decide +kernel) (by decide +kernel)) (gt_sel (i := 106) (by decide +kernel) (by decide +kernel)) (gt_of (i := 10) (by decide +kernel) (by decide +kernel)) (gt_of (i := 1670) (by decide +kernel) (by decide +kernel)) (by decide +kernel) hR hf hn hsz hst hcat hdg kk
theorem cv_q_515 {p : Program} {l : Launch} {e : Env} {R : Room} {s : State} {m : MethodId} {args : Array Value} {below : List Frame} {meth : Method} {c : Code} {H : Heap} {locs : List Loc} {cells slots : Nat} {Q : State → Prop} {D : va_G} {cA : Nat → ClassId} {base : Nat} {w w' : WW} {cc : ByteArray} {pc nL : Nat} {ls : Array Slot} {rest st0 As : List Value} {ov : Option Value} {b : Nat} (hx : p.tables.exec = Jvm.exec) (hb : c.code = cc) (hml : c.maxLocals = nL) (hown : s.vm.findClass Rc_q = some m.cls) (hts : ∀ w ∈ gt, w.before args s = true) (hK : va_K D cls (wo_tys cA) s) (hG : wo_G cA base s) (hW : wo_S D cls cA base s w H locs) (hM : mt l D cls (wo_tys cA) cA base y_q_endIf (Cond.code y_q_endIf b_q_endIf 3 (some .int) :: gt) rm_q_endIf (.ref (base + b) :: As) w ov w' rm_q_endIf.cells rm_q_endIf.slots) (hkb : kb w b 9 = true) (hR : rm_q_endIf.frames + 1 ≤ R.frames ∧ 8 + (3 + 11) + rm_q_endIf.locals ≤ R.locals) (hf : cells + rm_q_endIf.cells ≤ R.cells ∧ slots + rm_q_endIf.slots ≤ R.slots) (hn : As.length = 2) (hsz : ls.size = nL) (hst : st0 = As.reverse ++ .ref (base + b) :: rest) (hcat : (rest.map fun v => v.category).sum ≤ 8) (hdg : decode cc pc = .ok (.invokevirtual 515, 3)) (kk : ∀ (H1 : Heap) (locs1 : List Loc), wo_S D cls cA base s w' H1 locs1 → W p l e R s m args below meth c H1 locs1 (cells + rm_q_endIf.cells) (slots + rm_q_endIf.slots) Q (F0 m (pc + 3) ls (ov.toList ++ rest))) : W p l e R s m args below meth c H locs cells slots Q (F0 m pc ls st0) :=
  wo_callV (C := Rc_q) hx hb hml hown hts hK hG hW hM hkb rfl (gt_of (i := 1679) (by decide +kernel) (by decide +kernel)) (gt_of (i := 1681) (by decide +kernel) (by decide +kernel)) (gt_sel (i := 109) (by decide +kernel) (by decide +kernel)) (gt_of (i := 10) (by decide +kernel) (by decide +kernel)) (gt_of (i := 1682) (by decide +kernel) (by decide +kernel)) (by decide +kernel) hR hf hn hsz hst hcat hdg kk
theorem cv_q_518 {p : Program} {l : Launch} {e : Env} {R : Room} {s : State} {m : MethodId} {args : Array Value} {below : List Frame} {meth : Method} {c : Code} {H : Heap} {locs : List Loc} {cells slots : Nat} {Q : State → Prop} {D : va_G} {cA : Nat → ClassId} {base : Nat} {w w' : WW} {cc : ByteArray} {pc nL : Nat} {ls : Array Slot} {rest st0 As : List Value} {ov : Option Value} {b : Nat} (hx : p.tables.exec = Jvm.exec) (hb : c.code = cc) (hml : c.maxLocals = nL) (hown : s.vm.findClass Rc_q = some m.cls) (hts : ∀ w ∈ gt, w.before args s = true) (hK : va_K D cls (wo_tys cA) s) (hG : wo_G cA base s) (hW : wo_S D cls cA base s w H locs) (hM : mt l D cls (wo_tys cA) cA base y_q_endWhile (Cond.code y_q_endWhile b_q_endWhile 6 (some .int) :: gt) rm_q_endWhile (.ref (base + b) :: As) w ov w' rm_q_endWhile.cells rm_q_endWhile.slots) (hkb : kb w b 9 = true) (hR : rm_q_endWhile.frames + 1 ≤ R.frames ∧ 8 + (6 + 11) + rm_q_endWhile.locals ≤ R.locals) (hf : cells + rm_q_endWhile.cells ≤ R.cells ∧ slots + rm_q_endWhile.slots ≤ R.slots) (hn : As.length = 2) (hsz : ls.size = nL) (hst : st0 = As.reverse ++ .ref (base + b) :: rest) (hcat : (rest.map fun v => v.category).sum ≤ 8) (hdg : decode cc pc = .ok (.invokevirtual 518, 3)) (kk : ∀ (H1 : Heap) (locs1 : List Loc), wo_S D cls cA base s w' H1 locs1 → W p l e R s m args below meth c H1 locs1 (cells + rm_q_endWhile.cells) (slots + rm_q_endWhile.slots) Q (F0 m (pc + 3) ls (ov.toList ++ rest))) : W p l e R s m args below meth c H locs cells slots Q (F0 m pc ls st0) :=
  wo_callV (C := Rc_q) hx hb hml hown hts hK hG hW hM hkb rfl (gt_of (i := 1700) (by decide +kernel) (by decide +kernel)) (gt_of (i := 1702) (by decide +kernel) (by decide +kernel)) (gt_sel (i := 112) (by decide +kernel) (by decide +kernel)) (gt_of (i := 10) (by decide +kernel) (by decide +kernel)) (gt_of (i := 1703) (by decide +kernel) (by decide +kernel)) (by decide +kernel) hR hf hn hsz hst hcat hdg kk
theorem cv_q_521 {p : Program} {l : Launch} {e : Env} {R : Room} {s : State} {m : MethodId} {args : Array Value} {below : List Frame} {meth : Method} {c : Code} {H : Heap} {locs : List Loc} {cells slots : Nat} {Q : State → Prop} {D : va_G} {cA : Nat → ClassId} {base : Nat} {w w' : WW} {cc : ByteArray} {pc nL : Nat} {ls : Array Slot} {rest st0 As : List Value} {ov : Option Value} {b : Nat} (hx : p.tables.exec = Jvm.exec) (hb : c.code = cc) (hml : c.maxLocals = nL) (hown : s.vm.findClass Rc_q = some m.cls) (hts : ∀ w ∈ gt, w.before args s = true) (hK : va_K D cls (wo_tys cA) s) (hG : wo_G cA base s) (hW : wo_S D cls cA base s w H locs) (hM : mt l D cls (wo_tys cA) cA base y_q_warnings (Cond.code y_q_warnings b_q_warnings 3 (some .int) :: gt) rm_q_warnings (.ref (base + b) :: As) w ov w' rm_q_warnings.cells rm_q_warnings.slots) (hkb : kb w b 9 = true) (hR : rm_q_warnings.frames + 1 ≤ R.frames ∧ 8 + (3 + 11) + rm_q_warnings.locals ≤ R.locals) (hf : cells + rm_q_warnings.cells ≤ R.cells ∧ slots + rm_q_warnings.slots ≤ R.slots) (hn : As.length = 0) (hsz : ls.size = nL) (hst : st0 = As.reverse ++ .ref (base + b) :: rest) (hcat : (rest.map fun v => v.category).sum ≤ 8) (hdg : decode cc pc = .ok (.invokevirtual 521, 3)) (kk : ∀ (H1 : Heap) (locs1 : List Loc), wo_S D cls cA base s w' H1 locs1 → W p l e R s m args below meth c H1 locs1 (cells + rm_q_warnings.cells) (slots + rm_q_warnings.slots) Q (F0 m (pc + 3) ls (ov.toList ++ rest))) : W p l e R s m args below meth c H locs cells slots Q (F0 m pc ls st0) :=
  wo_callV (C := Rc_q) hx hb hml hown hts hK hG hW hM hkb rfl (gt_of (i := 1716) (by decide +kernel) (by decide +kernel)) (gt_of (i := 1718) (by decide +kernel) (by decide +kernel)) (gt_sel (i := 116) (by decide +kernel) (by decide +kernel)) (gt_of (i := 10) (by decide +kernel) (by decide +kernel)) (gt_of (i := 1719) (by decide +kernel) (by decide +kernel)) (by decide +kernel) hR hf hn hsz hst hcat hdg kk
abbrev b_q_analyse : ByteArray := prog_11_method_84_code
def y_q_analyse : MethodName := ⟨"AlarmForgeModel", "analyse", "()I"⟩
def rm_q_analyse : Room := { frames := 8, cells := 0, slots := 0, locals := 215 }
theorem d_q_analyse_0 : decode b_q_analyse 0 = .ok (.aload_n 0, 1) := by decide +kernel
theorem d_q_analyse_1 : decode b_q_analyse 1 = .ok (.getfield 323, 3) := by decide +kernel
theorem d_q_analyse_4 : decode b_q_analyse 4 = .ok (.ifCond .ne (9), 3) := by decide +kernel
theorem d_q_analyse_7 : decode b_q_analyse 7 = .ok (.aload_n 0, 1) := by decide +kernel
theorem d_q_analyse_8 : decode b_q_analyse 8 = .ok (.iconst 1, 1) := by decide +kernel
theorem d_q_analyse_9 : decode b_q_analyse 9 = .ok (.invokevirtual 159, 3) := by decide +kernel
theorem d_q_analyse_12 : decode b_q_analyse 12 = .ok (.ireturn, 1) := by decide +kernel
theorem d_q_analyse_13 : decode b_q_analyse 13 = .ok (.aload_n 0, 1) := by decide +kernel
theorem d_q_analyse_14 : decode b_q_analyse 14 = .ok (.iconst 0, 1) := by decide +kernel
theorem d_q_analyse_15 : decode b_q_analyse 15 = .ok (.putfield 148, 3) := by decide +kernel
theorem d_q_analyse_18 : decode b_q_analyse 18 = .ok (.aload_n 0, 1) := by decide +kernel
theorem d_q_analyse_19 : decode b_q_analyse 19 = .ok (.iconst 1, 1) := by decide +kernel
theorem d_q_analyse_20 : decode b_q_analyse 20 = .ok (.putfield 506, 3) := by decide +kernel
theorem d_q_analyse_23 : decode b_q_analyse 23 = .ok (.aload_n 0, 1) := by decide +kernel
theorem d_q_analyse_24 : decode b_q_analyse 24 = .ok (.iconst 0, 1) := by decide +kernel
theorem d_q_analyse_25 : decode b_q_analyse 25 = .ok (.putfield 489, 3) := by decide +kernel
theorem d_q_analyse_28 : decode b_q_analyse 28 = .ok (.aload_n 0, 1) := by decide +kernel
theorem d_q_analyse_29 : decode b_q_analyse 29 = .ok (.iconst 0, 1) := by decide +kernel
theorem d_q_analyse_30 : decode b_q_analyse 30 = .ok (.putfield 429, 3) := by decide +kernel
theorem d_q_analyse_33 : decode b_q_analyse 33 = .ok (.aload_n 0, 1) := by decide +kernel
theorem d_q_analyse_34 : decode b_q_analyse 34 = .ok (.iconst 0, 1) := by decide +kernel
theorem d_q_analyse_35 : decode b_q_analyse 35 = .ok (.putfield 496, 3) := by decide +kernel
theorem d_q_analyse_38 : decode b_q_analyse 38 = .ok (.iconst 0, 1) := by decide +kernel
theorem d_q_analyse_39 : decode b_q_analyse 39 = .ok (.istore_n 1, 1) := by decide +kernel
theorem d_q_analyse_40 : decode b_q_analyse 40 = .ok (.iload_n 1, 1) := by decide +kernel
theorem d_q_analyse_41 : decode b_q_analyse 41 = .ok (.sipush (1200), 3) := by decide +kernel
theorem d_q_analyse_44 : decode b_q_analyse 44 = .ok (.if_icmp .ge (16), 3) := by decide +kernel
theorem d_q_analyse_47 : decode b_q_analyse 47 = .ok (.aload_n 0, 1) := by decide +kernel
theorem d_q_analyse_48 : decode b_q_analyse 48 = .ok (.getfield 136, 3) := by decide +kernel
theorem d_q_analyse_51 : decode b_q_analyse 51 = .ok (.iload_n 1, 1) := by decide +kernel
theorem d_q_analyse_52 : decode b_q_analyse 52 = .ok (.iconst 0, 1) := by decide +kernel
theorem d_q_analyse_53 : decode b_q_analyse 53 = .ok (.bastore, 1) := by decide +kernel
theorem d_q_analyse_54 : decode b_q_analyse 54 = .ok (.iinc 1 (1), 3) := by decide +kernel
theorem d_q_analyse_57 : decode b_q_analyse 57 = .ok (.goto (-17), 3) := by decide +kernel
theorem d_q_analyse_60 : decode b_q_analyse 60 = .ok (.aload_n 0, 1) := by decide +kernel
theorem d_q_analyse_61 : decode b_q_analyse 61 = .ok (.getfield 133, 3) := by decide +kernel
theorem d_q_analyse_64 : decode b_q_analyse 64 = .ok (.iconst 0, 1) := by decide +kernel
theorem d_q_analyse_65 : decode b_q_analyse 65 = .ok (.iconst 0, 1) := by decide +kernel
theorem d_q_analyse_66 : decode b_q_analyse 66 = .ok (.bastore, 1) := by decide +kernel
theorem d_q_analyse_67 : decode b_q_analyse 67 = .ok (.iconst 0, 1) := by decide +kernel
theorem d_q_analyse_68 : decode b_q_analyse 68 = .ok (.istore_n 1, 1) := by decide +kernel
theorem d_q_analyse_69 : decode b_q_analyse 69 = .ok (.iload_n 1, 1) := by decide +kernel
theorem d_q_analyse_70 : decode b_q_analyse 70 = .ok (.bipush (6), 2) := by decide +kernel
theorem d_q_analyse_72 : decode b_q_analyse 72 = .ok (.if_icmp .ge (21), 3) := by decide +kernel
theorem d_q_analyse_75 : decode b_q_analyse 75 = .ok (.aload_n 0, 1) := by decide +kernel
theorem d_q_analyse_76 : decode b_q_analyse 76 = .ok (.iload_n 1, 1) := by decide +kernel
theorem d_q_analyse_77 : decode b_q_analyse 77 = .ok (.invokevirtual 393, 3) := by decide +kernel
theorem d_q_analyse_80 : decode b_q_analyse 80 = .ok (.aload_n 0, 1) := by decide +kernel
theorem d_q_analyse_81 : decode b_q_analyse 81 = .ok (.getfield 130, 3) := by decide +kernel
theorem d_q_analyse_84 : decode b_q_analyse 84 = .ok (.iload_n 1, 1) := by decide +kernel
theorem d_q_analyse_85 : decode b_q_analyse 85 = .ok (.iconst 1, 1) := by decide +kernel
theorem d_q_analyse_86 : decode b_q_analyse 86 = .ok (.bastore, 1) := by decide +kernel
theorem d_q_analyse_87 : decode b_q_analyse 87 = .ok (.iinc 1 (1), 3) := by decide +kernel
theorem d_q_analyse_90 : decode b_q_analyse 90 = .ok (.goto (-21), 3) := by decide +kernel
theorem d_q_analyse_93 : decode b_q_analyse 93 = .ok (.bipush (6), 2) := by decide +kernel
theorem d_q_analyse_95 : decode b_q_analyse 95 = .ok (.istore_n 1, 1) := by decide +kernel
theorem d_q_analyse_96 : decode b_q_analyse 96 = .ok (.iload_n 1, 1) := by decide +kernel
theorem d_q_analyse_97 : decode b_q_analyse 97 = .ok (.bipush (14), 2) := by decide +kernel
theorem d_q_analyse_99 : decode b_q_analyse 99 = .ok (.if_icmp .ge (18), 3) := by decide +kernel
theorem d_q_analyse_102 : decode b_q_analyse 102 = .ok (.aload_n 0, 1) := by decide +kernel
theorem d_q_analyse_103 : decode b_q_analyse 103 = .ok (.iload_n 1, 1) := by decide +kernel
theorem d_q_analyse_104 : decode b_q_analyse 104 = .ok (.lconst 0, 1) := by decide +kernel
theorem d_q_analyse_105 : decode b_q_analyse 105 = .ok (.lconst 0, 1) := by decide +kernel
theorem d_q_analyse_106 : decode b_q_analyse 106 = .ok (.lconst 0, 1) := by decide +kernel
theorem d_q_analyse_107 : decode b_q_analyse 107 = .ok (.lconst 0, 1) := by decide +kernel
theorem d_q_analyse_108 : decode b_q_analyse 108 = .ok (.invokevirtual 396, 3) := by decide +kernel
theorem d_q_analyse_111 : decode b_q_analyse 111 = .ok (.iinc 1 (1), 3) := by decide +kernel
theorem d_q_analyse_114 : decode b_q_analyse 114 = .ok (.goto (-18), 3) := by decide +kernel
theorem d_q_analyse_117 : decode b_q_analyse 117 = .ok (.aload_n 0, 1) := by decide +kernel
theorem d_q_analyse_118 : decode b_q_analyse 118 = .ok (.getfield 63, 3) := by decide +kernel
theorem d_q_analyse_121 : decode b_q_analyse 121 = .ok (.aload_n 0, 1) := by decide +kernel
theorem d_q_analyse_122 : decode b_q_analyse 122 = .ok (.getfield 308, 3) := by decide +kernel
theorem d_q_analyse_125 : decode b_q_analyse 125 = .ok (.iaload, 1) := by decide +kernel
theorem d_q_analyse_126 : decode b_q_analyse 126 = .ok (.istore_n 1, 1) := by decide +kernel
theorem d_q_analyse_127 : decode b_q_analyse 127 = .ok (.iload_n 1, 1) := by decide +kernel
theorem d_q_analyse_128 : decode b_q_analyse 128 = .ok (.ifCond .ge (10), 3) := by decide +kernel
theorem d_q_analyse_131 : decode b_q_analyse 131 = .ok (.aload_n 0, 1) := by decide +kernel
theorem d_q_analyse_132 : decode b_q_analyse 132 = .ok (.getfield 489, 3) := by decide +kernel
theorem d_q_analyse_135 : decode b_q_analyse 135 = .ok (.ifCond .le (121), 3) := by decide +kernel
theorem d_q_analyse_138 : decode b_q_analyse 138 = .ok (.iload_n 1, 1) := by decide +kernel
theorem d_q_analyse_139 : decode b_q_analyse 139 = .ok (.ifCond .lt (32), 3) := by decide +kernel
theorem d_q_analyse_142 : decode b_q_analyse 142 = .ok (.aload_n 0, 1) := by decide +kernel
theorem d_q_analyse_143 : decode b_q_analyse 143 = .ok (.getfield 26, 3) := by decide +kernel
theorem d_q_analyse_146 : decode b_q_analyse 146 = .ok (.iload_n 1, 1) := by decide +kernel
theorem d_q_analyse_147 : decode b_q_analyse 147 = .ok (.iaload, 1) := by decide +kernel
theorem d_q_analyse_148 : decode b_q_analyse 148 = .ok (.iconst 3, 1) := by decide +kernel
theorem d_q_analyse_149 : decode b_q_analyse 149 = .ok (.if_icmp .eq (13), 3) := by decide +kernel
theorem d_q_analyse_152 : decode b_q_analyse 152 = .ok (.aload_n 0, 1) := by decide +kernel
theorem d_q_analyse_153 : decode b_q_analyse 153 = .ok (.getfield 26, 3) := by decide +kernel
theorem d_q_analyse_156 : decode b_q_analyse 156 = .ok (.iload_n 1, 1) := by decide +kernel
theorem d_q_analyse_157 : decode b_q_analyse 157 = .ok (.iaload, 1) := by decide +kernel
theorem d_q_analyse_158 : decode b_q_analyse 158 = .ok (.iconst 4, 1) := by decide +kernel
theorem d_q_analyse_159 : decode b_q_analyse 159 = .ok (.if_icmp .ne (12), 3) := by decide +kernel
theorem d_q_analyse_162 : decode b_q_analyse 162 = .ok (.aload_n 0, 1) := by decide +kernel
theorem d_q_analyse_163 : decode b_q_analyse 163 = .ok (.iload_n 1, 1) := by decide +kernel
theorem d_q_analyse_164 : decode b_q_analyse 164 = .ok (.invokevirtual 509, 3) := by decide +kernel
theorem d_q_analyse_167 : decode b_q_analyse 167 = .ok (.istore_n 1, 1) := by decide +kernel
theorem d_q_analyse_168 : decode b_q_analyse 168 = .ok (.goto (-41), 3) := by decide +kernel
theorem d_q_analyse_171 : decode b_q_analyse 171 = .ok (.iload_n 1, 1) := by decide +kernel
theorem d_q_analyse_172 : decode b_q_analyse 172 = .ok (.ifCond .lt (18), 3) := by decide +kernel
theorem d_q_analyse_175 : decode b_q_analyse 175 = .ok (.aload_n 0, 1) := by decide +kernel
theorem d_q_analyse_176 : decode b_q_analyse 176 = .ok (.iload_n 1, 1) := by decide +kernel
theorem d_q_analyse_177 : decode b_q_analyse 177 = .ok (.invokevirtual 512, 3) := by decide +kernel
theorem d_q_analyse_180 : decode b_q_analyse 180 = .ok (.aload_n 0, 1) := by decide +kernel
theorem d_q_analyse_181 : decode b_q_analyse 181 = .ok (.getfield 56, 3) := by decide +kernel
theorem d_q_analyse_184 : decode b_q_analyse 184 = .ok (.iload_n 1, 1) := by decide +kernel
theorem d_q_analyse_185 : decode b_q_analyse 185 = .ok (.iaload, 1) := by decide +kernel
theorem d_q_analyse_186 : decode b_q_analyse 186 = .ok (.istore_n 1, 1) := by decide +kernel
theorem d_q_analyse_187 : decode b_q_analyse 187 = .ok (.goto (-60), 3) := by decide +kernel
theorem d_q_analyse_190 : decode b_q_analyse 190 = .ok (.iconst 3, 1) := by decide +kernel
theorem d_q_analyse_191 : decode b_q_analyse 191 = .ok (.aload_n 0, 1) := by decide +kernel
theorem d_q_analyse_192 : decode b_q_analyse 192 = .ok (.getfield 489, 3) := by decide +kernel
theorem d_q_analyse_195 : decode b_q_analyse 195 = .ok (.imul, 1) := by decide +kernel
theorem d_q_analyse_196 : decode b_q_analyse 196 = .ok (.istore_n 2, 1) := by decide +kernel
theorem d_q_analyse_197 : decode b_q_analyse 197 = .ok (.aload_n 0, 1) := by decide +kernel
theorem d_q_analyse_198 : decode b_q_analyse 198 = .ok (.getfield 26, 3) := by decide +kernel
theorem d_q_analyse_201 : decode b_q_analyse 201 = .ok (.aload_n 0, 1) := by decide +kernel
theorem d_q_analyse_202 : decode b_q_analyse 202 = .ok (.getfield 139, 3) := by decide +kernel
theorem d_q_analyse_205 : decode b_q_analyse 205 = .ok (.aload_n 0, 1) := by decide +kernel
theorem d_q_analyse_206 : decode b_q_analyse 206 = .ok (.getfield 489, 3) := by decide +kernel
theorem d_q_analyse_209 : decode b_q_analyse 209 = .ok (.iconst 1, 1) := by decide +kernel
theorem d_q_analyse_210 : decode b_q_analyse 210 = .ok (.isub, 1) := by decide +kernel
theorem d_q_analyse_211 : decode b_q_analyse 211 = .ok (.iaload, 1) := by decide +kernel
theorem d_q_analyse_212 : decode b_q_analyse 212 = .ok (.iaload, 1) := by decide +kernel
theorem d_q_analyse_213 : decode b_q_analyse 213 = .ok (.iconst 3, 1) := by decide +kernel
theorem d_q_analyse_214 : decode b_q_analyse 214 = .ok (.if_icmp .ne (22), 3) := by decide +kernel
theorem d_q_analyse_217 : decode b_q_analyse 217 = .ok (.aload_n 0, 1) := by decide +kernel
theorem d_q_analyse_218 : decode b_q_analyse 218 = .ok (.aload_n 0, 1) := by decide +kernel
theorem d_q_analyse_219 : decode b_q_analyse 219 = .ok (.getfield 139, 3) := by decide +kernel
theorem d_q_analyse_222 : decode b_q_analyse 222 = .ok (.aload_n 0, 1) := by decide +kernel
theorem d_q_analyse_223 : decode b_q_analyse 223 = .ok (.getfield 489, 3) := by decide +kernel
theorem d_q_analyse_226 : decode b_q_analyse 226 = .ok (.iconst 1, 1) := by decide +kernel
theorem d_q_analyse_227 : decode b_q_analyse 227 = .ok (.isub, 1) := by decide +kernel
theorem d_q_analyse_228 : decode b_q_analyse 228 = .ok (.iaload, 1) := by decide +kernel
theorem d_q_analyse_229 : decode b_q_analyse 229 = .ok (.iload_n 2, 1) := by decide +kernel
theorem d_q_analyse_230 : decode b_q_analyse 230 = .ok (.invokevirtual 515, 3) := by decide +kernel
theorem d_q_analyse_233 : decode b_q_analyse 233 = .ok (.goto (19), 3) := by decide +kernel
theorem d_q_analyse_236 : decode b_q_analyse 236 = .ok (.aload_n 0, 1) := by decide +kernel
theorem d_q_analyse_237 : decode b_q_analyse 237 = .ok (.aload_n 0, 1) := by decide +kernel
theorem d_q_analyse_238 : decode b_q_analyse 238 = .ok (.getfield 139, 3) := by decide +kernel
theorem d_q_analyse_241 : decode b_q_analyse 241 = .ok (.aload_n 0, 1) := by decide +kernel
theorem d_q_analyse_242 : decode b_q_analyse 242 = .ok (.getfield 489, 3) := by decide +kernel
theorem d_q_analyse_245 : decode b_q_analyse 245 = .ok (.iconst 1, 1) := by decide +kernel
theorem d_q_analyse_246 : decode b_q_analyse 246 = .ok (.isub, 1) := by decide +kernel
theorem d_q_analyse_247 : decode b_q_analyse 247 = .ok (.iaload, 1) := by decide +kernel
theorem d_q_analyse_248 : decode b_q_analyse 248 = .ok (.iload_n 2, 1) := by decide +kernel
theorem d_q_analyse_249 : decode b_q_analyse 249 = .ok (.invokevirtual 518, 3) := by decide +kernel
theorem d_q_analyse_252 : decode b_q_analyse 252 = .ok (.istore_n 1, 1) := by decide +kernel
theorem d_q_analyse_253 : decode b_q_analyse 253 = .ok (.goto (-126), 3) := by decide +kernel
theorem d_q_analyse_256 : decode b_q_analyse 256 = .ok (.aload_n 0, 1) := by decide +kernel
theorem d_q_analyse_257 : decode b_q_analyse 257 = .ok (.invokevirtual 521, 3) := by decide +kernel
theorem d_q_analyse_260 : decode b_q_analyse 260 = .ok (.ireturn, 1) := by decide +kernel
theorem kb_q_analyse {a0 : Nat}  {w : WW} {r : (Int32 × WW)} (h : f_q_analyse a0 w = some r) : kb w a0 9 = true := (its h).1
set_option maxHeartbeats 4000000 in
set_option maxRecDepth 100000 in
theorem j_q_analyse_252 {p : Program} {l : Launch} {e : Env} {s : State} {m : MethodId} {args : Array Value} {below : List Frame} {meth : Method} {c : Code} {D : va_G} {cA : Nat → ClassId} {base : Nat} {r : Int32} {w' : WW} (C : cx b_q_analyse (some .int) 3 y_q_analyse.cls "analyse" p s m args meth c D cA base) {k_127 : Nat → Int32 → WW → Option (Int32 × WW)} (hk_127 : ∀ (y0 : Nat) (y1 : Int32) (w : WW), k_127 y0 y1 w = some (r, w') → ∀ (H : Heap) (locs : List Loc) (ls : Array Slot), wo_S D cls cA base s w H locs → lv_has ls 3 [(0, .ref (base + y0)), (1, .int y1)] → W p l e rm_q_analyse s m args below meth c H locs 0 0 (MQ below (wo_Q D cls cA base (some (.int r)) w') args s rm_q_analyse.cells rm_q_analyse.slots (wo_B base)) (F0 m 127 ls [])) : ∀ (y0 : Nat) (z0 : Int32) (w : WW), f_q_analyse_252 k_127 y0 z0 w = some (r, w') → ∀ (H : Heap) (locs : List Loc) (ls : Array Slot), wo_S D cls cA base s w H locs → lv_has ls 3 [(0, .ref (base + y0))] → W p l e rm_q_analyse s m args below meth c H locs 0 0 (MQ below (wo_Q D cls cA base (some (.int r)) w') args s rm_q_analyse.cells rm_q_analyse.slots (wo_B base)) (F0 m 252 ls [.int z0]) := by
  obtain ⟨hx, hb, hr, hml, hown, hts, hlk, hnm, hK, hG⟩ := id C
  intro y0 z0 w h H locs ls hW hl
  unfold f_q_analyse_252 at h
  refine lv_istore_n (lv' := [(1, .int z0), (0, .ref (base + y0))]) hx hb d_q_analyse_252 rfl hl (by decide) rfl (fun ls hl => ?_)
  refine lv_goto (tgt := 127) hx hb d_q_analyse_253 (by decide) ?_
  exact hk_127 y0 z0 w h _ _ _ hW (lv_sub hl [1, 0] rfl)
set_option maxHeartbeats 4000000 in
set_option maxRecDepth 100000 in
theorem j_q_analyse_171 {p : Program} {l : Launch} {e : Env} {s : State} {m : MethodId} {args : Array Value} {below : List Frame} {meth : Method} {c : Code} {D : va_G} {cA : Nat → ClassId} {base : Nat} {r : Int32} {w' : WW} (C : cx b_q_analyse (some .int) 3 y_q_analyse.cls "analyse" p s m args meth c D cA base) {k_127 : Nat → Int32 → WW → Option (Int32 × WW)} (hk_127 : ∀ (y0 : Nat) (y1 : Int32) (w : WW), k_127 y0 y1 w = some (r, w') → ∀ (H : Heap) (locs : List Loc) (ls : Array Slot), wo_S D cls cA base s w H locs → lv_has ls 3 [(0, .ref (base + y0)), (1, .int y1)] → W p l e rm_q_analyse s m args below meth c H locs 0 0 (MQ below (wo_Q D cls cA base (some (.int r)) w') args s rm_q_analyse.cells rm_q_analyse.slots (wo_B base)) (F0 m 127 ls [])) : ∀ (y0 : Nat) (y1 : Int32) (w : WW), f_q_analyse_171 k_127 y0 y1 w = some (r, w') → ∀ (H : Heap) (locs : List Loc) (ls : Array Slot), wo_S D cls cA base s w H locs → lv_has ls 3 [(0, .ref (base + y0)), (1, .int y1)] → W p l e rm_q_analyse s m args below meth c H locs 0 0 (MQ below (wo_Q D cls cA base (some (.int r)) w') args s rm_q_analyse.cells rm_q_analyse.slots (wo_B base)) (F0 m 171 ls []) := by
  obtain ⟨hx, hb, hr, hml, hown, hts, hlk, hnm, hK, hG⟩ := id C
  intro y0 y1 w h H locs ls hW hl
  unfold f_q_analyse_171 at h
  refine lv_iload_n hx hb d_q_analyse_171 rfl (lv_at hl 1 rfl) ?_
  refine lv_if_lt (tgt := 190) hx hb d_q_analyse_172 (by decide) (fun c19 => ?_) (fun c19 => ?_)
  · rw [if_pos c19] at h
    refine lv_iconst (v := (3 : Int32)) hx hb d_q_analyse_190 (by decide) ?_
    refine lv_aload_n hx hb d_q_analyse_191 rfl (lv_at hl 0 rfl) ?_
    replace h := bs h
    obtain ⟨x20, hx20, h⟩ := h
    refine gf_q_489 hx hb hts hown hK hG hW (gI_s hx20) d_q_analyse_192 ?_
    refine lv_imul hx hb d_q_analyse_195 ?_
    refine lv_istore_n (lv' := [(2, .int ((3 : Int32) * x20)), (0, .ref (base + y0)), (1, .int y1)]) hx hb d_q_analyse_196 rfl hl (by decide) rfl (fun ls hl => ?_)
    refine lv_aload_n hx hb d_q_analyse_197 rfl (lv_at hl 1 rfl) ?_
    replace h := bs h
    obtain ⟨x21, hx21, h⟩ := h
    refine gf_q_26 hx hb hts hown hK hG hW (gN_s hx21) d_q_analyse_198 ?_
    refine lv_aload_n hx hb d_q_analyse_201 rfl (lv_at hl 1 rfl) ?_
    replace h := bs h
    obtain ⟨x22, hx22, h⟩ := h
    refine gf_q_139 hx hb hts hown hK hG hW (gN_s hx22) d_q_analyse_202 ?_
    refine lv_aload_n hx hb d_q_analyse_205 rfl (lv_at hl 1 rfl) ?_
    replace h := bs h
    obtain ⟨x23, hx23, h⟩ := h
    refine gf_q_489 hx hb hts hown hK hG hW (gI_s hx23) d_q_analyse_206 ?_
    refine lv_iconst (v := (1 : Int32)) hx hb d_q_analyse_209 (by decide) ?_
    refine lv_isub hx hb d_q_analyse_210 ?_
    replace h := bs h
    obtain ⟨x24, hx24, h⟩ := h
    refine wo_iald hx hb hK hW (t := 0) rfl hx24 d_q_analyse_211 ?_
    replace h := bs h
    obtain ⟨x25, hx25, h⟩ := h
    refine wo_iald hx hb hK hW (t := 0) rfl hx25 d_q_analyse_212 ?_
    refine lv_iconst (v := (3 : Int32)) hx hb d_q_analyse_213 (by decide) ?_
    refine lv_icmp_ne (tgt := 236) hx hb d_q_analyse_214 (by decide) (fun c26 => ?_) (fun c26 => ?_)
    · rw [if_neg c26] at h
      refine lv_aload_n hx hb d_q_analyse_236 rfl (lv_at hl 1 rfl) ?_
      refine lv_aload_n hx hb d_q_analyse_237 rfl (lv_at hl 1 rfl) ?_
      replace h := bs h
      obtain ⟨x27, hx27, h⟩ := h
      refine gf_q_139 hx hb hts hown hK hG hW (gN_s hx27) d_q_analyse_238 ?_
      refine lv_aload_n hx hb d_q_analyse_241 rfl (lv_at hl 1 rfl) ?_
      replace h := bs h
      obtain ⟨x28, hx28, h⟩ := h
      refine gf_q_489 hx hb hts hown hK hG hW (gI_s hx28) d_q_analyse_242 ?_
      refine lv_iconst (v := (1 : Int32)) hx hb d_q_analyse_245 (by decide) ?_
      refine lv_isub hx hb d_q_analyse_246 ?_
      replace h := bs h
      obtain ⟨x29, hx29, h⟩ := h
      refine wo_iald hx hb hK hW (t := 0) rfl hx29 d_q_analyse_247 ?_
      refine lv_iload_n hx hb d_q_analyse_248 rfl (lv_at hl 0 rfl) ?_
      replace h := bs2 h
      obtain ⟨x31, w30, hw30, h⟩ := h
      refine cv_q_518 (As := [.int x29, .int ((3 : Int32) * x20)]) (rest := []) hx hb hml hown hts hK hG hW (c_q_endWhile l D cA base hw30) (kb_q_endWhile hw30) ⟨Nat.le_of_ble_eq_true rfl, Nat.le_of_ble_eq_true rfl⟩ ⟨Nat.le_of_ble_eq_true rfl, Nat.le_of_ble_eq_true rfl⟩ rfl hl.1 rfl (Nat.le_of_ble_eq_true rfl) d_q_analyse_249 (fun H locs hW => ?_)
      exact j_q_analyse_252 C hk_127 y0 x31 w30 h _ _ _ hW (lv_sub hl [1] rfl)
    · rw [if_pos c26] at h
      refine lv_aload_n hx hb d_q_analyse_217 rfl (lv_at hl 1 rfl) ?_
      refine lv_aload_n hx hb d_q_analyse_218 rfl (lv_at hl 1 rfl) ?_
      replace h := bs h
      obtain ⟨x32, hx32, h⟩ := h
      refine gf_q_139 hx hb hts hown hK hG hW (gN_s hx32) d_q_analyse_219 ?_
      refine lv_aload_n hx hb d_q_analyse_222 rfl (lv_at hl 1 rfl) ?_
      replace h := bs h
      obtain ⟨x33, hx33, h⟩ := h
      refine gf_q_489 hx hb hts hown hK hG hW (gI_s hx33) d_q_analyse_223 ?_
      refine lv_iconst (v := (1 : Int32)) hx hb d_q_analyse_226 (by decide) ?_
      refine lv_isub hx hb d_q_analyse_227 ?_
      replace h := bs h
      obtain ⟨x34, hx34, h⟩ := h
      refine wo_iald hx hb hK hW (t := 0) rfl hx34 d_q_analyse_228 ?_
      refine lv_iload_n hx hb d_q_analyse_229 rfl (lv_at hl 0 rfl) ?_
      replace h := bs2 h
      obtain ⟨x36, w35, hw35, h⟩ := h
      refine cv_q_515 (As := [.int x34, .int ((3 : Int32) * x20)]) (rest := []) hx hb hml hown hts hK hG hW (c_q_endIf l D cA base hw35) (kb_q_endIf hw35) ⟨Nat.le_of_ble_eq_true rfl, Nat.le_of_ble_eq_true rfl⟩ ⟨Nat.le_of_ble_eq_true rfl, Nat.le_of_ble_eq_true rfl⟩ rfl hl.1 rfl (Nat.le_of_ble_eq_true rfl) d_q_analyse_230 (fun H locs hW => ?_)
      refine lv_goto (tgt := 252) hx hb d_q_analyse_233 (by decide) ?_
      exact j_q_analyse_252 C hk_127 y0 x36 w35 h _ _ _ hW (lv_sub hl [1] rfl)
  · rw [if_neg c19] at h
    refine lv_aload_n hx hb d_q_analyse_175 rfl (lv_at hl 0 rfl) ?_
    refine lv_iload_n hx hb d_q_analyse_176 rfl (lv_at hl 1 rfl) ?_
    replace h := bs h
    obtain ⟨w37, hw37, h⟩ := h
    refine cv_q_512 (As := [.int y1]) (rest := []) hx hb hml hown hts hK hG hW (c_q_pass l D cA base hw37) (kb_q_pass hw37) ⟨Nat.le_of_ble_eq_true rfl, Nat.le_of_ble_eq_true rfl⟩ ⟨Nat.le_of_ble_eq_true rfl, Nat.le_of_ble_eq_true rfl⟩ rfl hl.1 rfl (Nat.le_of_ble_eq_true rfl) d_q_analyse_177 (fun H locs hW => ?_)
    refine lv_aload_n hx hb d_q_analyse_180 rfl (lv_at hl 0 rfl) ?_
    replace h := bs h
    obtain ⟨x38, hx38, h⟩ := h
    refine gf_q_56 hx hb hts hown hK hG hW (gN_s hx38) d_q_analyse_181 ?_
    refine lv_iload_n hx hb d_q_analyse_184 rfl (lv_at hl 1 rfl) ?_
    replace h := bs h
    obtain ⟨x39, hx39, h⟩ := h
    refine wo_iald hx hb hK hW (t := 0) rfl hx39 d_q_analyse_185 ?_
    refine lv_istore_n (lv' := [(1, .int x39), (0, .ref (base + y0))]) hx hb d_q_analyse_186 rfl hl (by decide) rfl (fun ls hl => ?_)
    refine lv_goto (tgt := 127) hx hb d_q_analyse_187 (by decide) ?_
    exact hk_127 y0 x39 w37 h _ _ _ hW (lv_sub hl [1, 0] rfl)
set_option maxHeartbeats 4000000 in
set_option maxRecDepth 100000 in
theorem j_q_analyse_162 {p : Program} {l : Launch} {e : Env} {s : State} {m : MethodId} {args : Array Value} {below : List Frame} {meth : Method} {c : Code} {D : va_G} {cA : Nat → ClassId} {base : Nat} {r : Int32} {w' : WW} (C : cx b_q_analyse (some .int) 3 y_q_analyse.cls "analyse" p s m args meth c D cA base) {k_127 : Nat → Int32 → WW → Option (Int32 × WW)} (hk_127 : ∀ (y0 : Nat) (y1 : Int32) (w : WW), k_127 y0 y1 w = some (r, w') → ∀ (H : Heap) (locs : List Loc) (ls : Array Slot), wo_S D cls cA base s w H locs → lv_has ls 3 [(0, .ref (base + y0)), (1, .int y1)] → W p l e rm_q_analyse s m args below meth c H locs 0 0 (MQ below (wo_Q D cls cA base (some (.int r)) w') args s rm_q_analyse.cells rm_q_analyse.slots (wo_B base)) (F0 m 127 ls [])) : ∀ (y0 : Nat) (y1 : Int32) (w : WW), f_q_analyse_162 k_127 y0 y1 w = some (r, w') → ∀ (H : Heap) (locs : List Loc) (ls : Array Slot), wo_S D cls cA base s w H locs → lv_has ls 3 [(0, .ref (base + y0)), (1, .int y1)] → W p l e rm_q_analyse s m args below meth c H locs 0 0 (MQ below (wo_Q D cls cA base (some (.int r)) w') args s rm_q_analyse.cells rm_q_analyse.slots (wo_B base)) (F0 m 162 ls []) := by
  obtain ⟨hx, hb, hr, hml, hown, hts, hlk, hnm, hK, hG⟩ := id C
  intro y0 y1 w h H locs ls hW hl
  unfold f_q_analyse_162 at h
  refine lv_aload_n hx hb d_q_analyse_162 rfl (lv_at hl 0 rfl) ?_
  refine lv_iload_n hx hb d_q_analyse_163 rfl (lv_at hl 1 rfl) ?_
  replace h := bs2 h
  obtain ⟨x44, w43, hw43, h⟩ := h
  refine cv_q_509 (As := [.int y1]) (rest := []) hx hb hml hown hts hK hG hW (c_q_enter l D cA base hw43) (kb_q_enter hw43) ⟨Nat.le_of_ble_eq_true rfl, Nat.le_of_ble_eq_true rfl⟩ ⟨Nat.le_of_ble_eq_true rfl, Nat.le_of_ble_eq_true rfl⟩ rfl hl.1 rfl (Nat.le_of_ble_eq_true rfl) d_q_analyse_164 (fun H locs hW => ?_)
  refine lv_istore_n (lv' := [(1, .int x44), (0, .ref (base + y0))]) hx hb d_q_analyse_167 rfl hl (by decide) rfl (fun ls hl => ?_)
  refine lv_goto (tgt := 127) hx hb d_q_analyse_168 (by decide) ?_
  exact hk_127 y0 x44 w43 h _ _ _ hW (lv_sub hl [1, 0] rfl)
set_option maxHeartbeats 4000000 in
set_option maxRecDepth 100000 in
theorem j_q_analyse_138 {p : Program} {l : Launch} {e : Env} {s : State} {m : MethodId} {args : Array Value} {below : List Frame} {meth : Method} {c : Code} {D : va_G} {cA : Nat → ClassId} {base : Nat} {r : Int32} {w' : WW} (C : cx b_q_analyse (some .int) 3 y_q_analyse.cls "analyse" p s m args meth c D cA base) {k_127 : Nat → Int32 → WW → Option (Int32 × WW)} (hk_127 : ∀ (y0 : Nat) (y1 : Int32) (w : WW), k_127 y0 y1 w = some (r, w') → ∀ (H : Heap) (locs : List Loc) (ls : Array Slot), wo_S D cls cA base s w H locs → lv_has ls 3 [(0, .ref (base + y0)), (1, .int y1)] → W p l e rm_q_analyse s m args below meth c H locs 0 0 (MQ below (wo_Q D cls cA base (some (.int r)) w') args s rm_q_analyse.cells rm_q_analyse.slots (wo_B base)) (F0 m 127 ls [])) : ∀ (y0 : Nat) (y1 : Int32) (w : WW), f_q_analyse_138 k_127 y0 y1 w = some (r, w') → ∀ (H : Heap) (locs : List Loc) (ls : Array Slot), wo_S D cls cA base s w H locs → lv_has ls 3 [(0, .ref (base + y0)), (1, .int y1)] → W p l e rm_q_analyse s m args below meth c H locs 0 0 (MQ below (wo_Q D cls cA base (some (.int r)) w') args s rm_q_analyse.cells rm_q_analyse.slots (wo_B base)) (F0 m 138 ls []) := by
  obtain ⟨hx, hb, hr, hml, hown, hts, hlk, hnm, hK, hG⟩ := id C
  intro y0 y1 w h H locs ls hW hl
  unfold f_q_analyse_138 at h
  refine lv_iload_n hx hb d_q_analyse_138 rfl (lv_at hl 1 rfl) ?_
  refine lv_if_lt (tgt := 171) hx hb d_q_analyse_139 (by decide) (fun c18 => ?_) (fun c18 => ?_)
  · rw [if_pos c18] at h
    exact j_q_analyse_171 C hk_127 y0 y1 w h _ _ _ hW (lv_sub hl [0, 1] rfl)
  · rw [if_neg c18] at h
    refine lv_aload_n hx hb d_q_analyse_142 rfl (lv_at hl 0 rfl) ?_
    replace h := bs h
    obtain ⟨x40, hx40, h⟩ := h
    refine gf_q_26 hx hb hts hown hK hG hW (gN_s hx40) d_q_analyse_143 ?_
    refine lv_iload_n hx hb d_q_analyse_146 rfl (lv_at hl 1 rfl) ?_
    replace h := bs h
    obtain ⟨x41, hx41, h⟩ := h
    refine wo_iald hx hb hK hW (t := 0) rfl hx41 d_q_analyse_147 ?_
    refine lv_iconst (v := (3 : Int32)) hx hb d_q_analyse_148 (by decide) ?_
    refine lv_icmp_eq (tgt := 162) hx hb d_q_analyse_149 (by decide) (fun c42 => ?_) (fun c42 => ?_)
    · rw [if_pos c42] at h
      exact j_q_analyse_162 C hk_127 y0 y1 w h _ _ _ hW (lv_sub hl [0, 1] rfl)
    · rw [if_neg c42] at h
      refine lv_aload_n hx hb d_q_analyse_152 rfl (lv_at hl 0 rfl) ?_
      replace h := bs h
      obtain ⟨x45, hx45, h⟩ := h
      refine gf_q_26 hx hb hts hown hK hG hW (gN_s hx45) d_q_analyse_153 ?_
      refine lv_iload_n hx hb d_q_analyse_156 rfl (lv_at hl 1 rfl) ?_
      replace h := bs h
      obtain ⟨x46, hx46, h⟩ := h
      refine wo_iald hx hb hK hW (t := 0) rfl hx46 d_q_analyse_157 ?_
      refine lv_iconst (v := (4 : Int32)) hx hb d_q_analyse_158 (by decide) ?_
      refine lv_icmp_ne (tgt := 171) hx hb d_q_analyse_159 (by decide) (fun c47 => ?_) (fun c47 => ?_)
      · rw [if_neg c47] at h
        exact j_q_analyse_171 C hk_127 y0 y1 w h _ _ _ hW (lv_sub hl [0, 1] rfl)
      · rw [if_pos c47] at h
        exact j_q_analyse_162 C hk_127 y0 y1 w h _ _ _ hW (lv_sub hl [0, 1] rfl)
set_option maxHeartbeats 4000000 in
set_option maxRecDepth 100000 in
theorem j_q_analyse_127 {p : Program} {l : Launch} {e : Env} {s : State} {m : MethodId} {args : Array Value} {below : List Frame} {meth : Method} {c : Code} {D : va_G} {cA : Nat → ClassId} {base : Nat} {r : Int32} {w' : WW} (C : cx b_q_analyse (some .int) 3 y_q_analyse.cls "analyse" p s m args meth c D cA base)   : ∀ n : Nat, ∀ (y0 : Nat) (y1 : Int32) (w : WW), f_q_analyse_127 n y0 y1 w = some (r, w') → ∀ (H : Heap) (locs : List Loc) (ls : Array Slot), wo_S D cls cA base s w H locs → lv_has ls 3 [(0, .ref (base + y0)), (1, .int y1)] → W p l e rm_q_analyse s m args below meth c H locs 0 0 (MQ below (wo_Q D cls cA base (some (.int r)) w') args s rm_q_analyse.cells rm_q_analyse.slots (wo_B base)) (F0 m 127 ls []) := by
  obtain ⟨hx, hb, hr, hml, hown, hts, hlk, hnm, hK, hG⟩ := id C
  intro n
  induction n with
  | zero => intro y0 y1 w h; cases h
  | succ n ih =>
    intro y0 y1 w h H locs ls hW hl
    rw [f_q_analyse_127] at h
    refine lv_iload_n hx hb d_q_analyse_127 rfl (lv_at hl 1 rfl) ?_
    refine lv_if_ge (tgt := 138) hx hb d_q_analyse_128 (by decide) (fun c17 => ?_) (fun c17 => ?_)
    · rw [if_pos c17] at h
      exact j_q_analyse_138 C ih y0 y1 w h _ _ _ hW (lv_sub hl [0, 1] rfl)
    · rw [if_neg c17] at h
      refine lv_aload_n hx hb d_q_analyse_131 rfl (lv_at hl 0 rfl) ?_
      replace h := bs h
      obtain ⟨x48, hx48, h⟩ := h
      refine gf_q_489 hx hb hts hown hK hG hW (gI_s hx48) d_q_analyse_132 ?_
      refine lv_if_le (tgt := 256) hx hb d_q_analyse_135 (by decide) (fun c49 => ?_) (fun c49 => ?_)
      · rw [if_pos c49] at h
        refine lv_aload_n hx hb d_q_analyse_256 rfl (lv_at hl 0 rfl) ?_
        replace h := bs2 h
        obtain ⟨x51, w50, hw50, h⟩ := h
        refine cv_q_521 (As := []) (rest := []) hx hb hml hown hts hK hG hW (c_q_warnings l D cA base hw50) (kb_q_warnings hw50) ⟨Nat.le_of_ble_eq_true rfl, Nat.le_of_ble_eq_true rfl⟩ ⟨Nat.le_of_ble_eq_true rfl, Nat.le_of_ble_eq_true rfl⟩ rfl hl.1 rfl (Nat.le_of_ble_eq_true rfl) d_q_analyse_257 (fun H locs hW => ?_)
        cases h
        exact wo_iret hx hb hr hlk hW d_q_analyse_260
      · rw [if_neg c49] at h
        exact j_q_analyse_138 C ih y0 y1 w h _ _ _ hW (lv_sub hl [0, 1] rfl)
set_option maxHeartbeats 4000000 in
set_option maxRecDepth 100000 in
theorem j_q_analyse_96 {p : Program} {l : Launch} {e : Env} {s : State} {m : MethodId} {args : Array Value} {below : List Frame} {meth : Method} {c : Code} {D : va_G} {cA : Nat → ClassId} {base : Nat} {r : Int32} {w' : WW} (C : cx b_q_analyse (some .int) 3 y_q_analyse.cls "analyse" p s m args meth c D cA base)   : ∀ n : Nat, ∀ (y0 : Nat) (y1 : Int32) (w : WW), f_q_analyse_96 n y0 y1 w = some (r, w') → ∀ (H : Heap) (locs : List Loc) (ls : Array Slot), wo_S D cls cA base s w H locs → lv_has ls 3 [(0, .ref (base + y0)), (1, .int y1)] → W p l e rm_q_analyse s m args below meth c H locs 0 0 (MQ below (wo_Q D cls cA base (some (.int r)) w') args s rm_q_analyse.cells rm_q_analyse.slots (wo_B base)) (F0 m 96 ls []) := by
  obtain ⟨hx, hb, hr, hml, hown, hts, hlk, hnm, hK, hG⟩ := id C
  intro n
  induction n with
  | zero => intro y0 y1 w h; cases h
  | succ n ih =>
    intro y0 y1 w h H locs ls hW hl
    rw [f_q_analyse_96] at h
    refine lv_iload_n hx hb d_q_analyse_96 rfl (lv_at hl 1 rfl) ?_
    refine lv_bipush (v := (14 : Int32)) hx hb d_q_analyse_97 (by decide) ?_
    refine lv_icmp_ge (tgt := 117) hx hb d_q_analyse_99 (by decide) (fun c13 => ?_) (fun c13 => ?_)
    · rw [if_pos c13] at h
      refine lv_aload_n hx hb d_q_analyse_117 rfl (lv_at hl 0 rfl) ?_
      replace h := bs h
      obtain ⟨x14, hx14, h⟩ := h
      refine gf_q_63 hx hb hts hown hK hG hW (gN_s hx14) d_q_analyse_118 ?_
      refine lv_aload_n hx hb d_q_analyse_121 rfl (lv_at hl 0 rfl) ?_
      replace h := bs h
      obtain ⟨x15, hx15, h⟩ := h
      refine gf_q_308 hx hb hts hown hK hG hW (gI_s hx15) d_q_analyse_122 ?_
      replace h := bs h
      obtain ⟨x16, hx16, h⟩ := h
      refine wo_iald hx hb hK hW (t := 0) rfl hx16 d_q_analyse_125 ?_
      refine lv_istore_n (lv' := [(1, .int x16), (0, .ref (base + y0))]) hx hb d_q_analyse_126 rfl hl (by decide) rfl (fun ls hl => ?_)
      exact j_q_analyse_127 C KK y0 x16 w h _ _ _ hW (lv_sub hl [1, 0] rfl)
    · rw [if_neg c13] at h
      refine lv_aload_n hx hb d_q_analyse_102 rfl (lv_at hl 0 rfl) ?_
      refine lv_iload_n hx hb d_q_analyse_103 rfl (lv_at hl 1 rfl) ?_
      refine lv_lconst (v := (0 : Int64)) hx hb d_q_analyse_104 (by decide) ?_
      refine lv_lconst (v := (0 : Int64)) hx hb d_q_analyse_105 (by decide) ?_
      refine lv_lconst (v := (0 : Int64)) hx hb d_q_analyse_106 (by decide) ?_
      refine lv_lconst (v := (0 : Int64)) hx hb d_q_analyse_107 (by decide) ?_
      replace h := bs h
      obtain ⟨w52, hw52, h⟩ := h
      refine cv_q_396 (As := [.int y1, .long (0 : Int64), .long (0 : Int64), .long (0 : Int64), .long (0 : Int64)]) (rest := []) hx hb hml hown hts hK hG hW (c_q_put4 l D cA base hw52) (kb_q_put4 hw52) ⟨Nat.le_of_ble_eq_true rfl, Nat.le_of_ble_eq_true rfl⟩ ⟨Nat.le_of_ble_eq_true rfl, Nat.le_of_ble_eq_true rfl⟩ rfl hl.1 rfl (Nat.le_of_ble_eq_true rfl) d_q_analyse_108 (fun H locs hW => ?_)
      refine lv_iinc (v := (y1 + (1 : Int32))) (lv' := [(1, .int (y1 + (1 : Int32))), (0, .ref (base + y0))]) hx hb d_q_analyse_111 hl (k := 1) rfl rfl (by decide) rfl (fun ls hl => ?_)
      refine lv_goto (tgt := 96) hx hb d_q_analyse_114 (by decide) ?_
      exact ih y0 (y1 + (1 : Int32)) w52 h _ _ _ hW (lv_sub hl [1, 0] rfl)
set_option maxHeartbeats 4000000 in
set_option maxRecDepth 100000 in
theorem j_q_analyse_69 {p : Program} {l : Launch} {e : Env} {s : State} {m : MethodId} {args : Array Value} {below : List Frame} {meth : Method} {c : Code} {D : va_G} {cA : Nat → ClassId} {base : Nat} {r : Int32} {w' : WW} (C : cx b_q_analyse (some .int) 3 y_q_analyse.cls "analyse" p s m args meth c D cA base)   : ∀ n : Nat, ∀ (y0 : Nat) (y1 : Int32) (w : WW), f_q_analyse_69 n y0 y1 w = some (r, w') → ∀ (H : Heap) (locs : List Loc) (ls : Array Slot), wo_S D cls cA base s w H locs → lv_has ls 3 [(0, .ref (base + y0)), (1, .int y1)] → W p l e rm_q_analyse s m args below meth c H locs 0 0 (MQ below (wo_Q D cls cA base (some (.int r)) w') args s rm_q_analyse.cells rm_q_analyse.slots (wo_B base)) (F0 m 69 ls []) := by
  obtain ⟨hx, hb, hr, hml, hown, hts, hlk, hnm, hK, hG⟩ := id C
  intro n
  induction n with
  | zero => intro y0 y1 w h; cases h
  | succ n ih =>
    intro y0 y1 w h H locs ls hW hl
    rw [f_q_analyse_69] at h
    refine lv_iload_n hx hb d_q_analyse_69 rfl (lv_at hl 1 rfl) ?_
    refine lv_bipush (v := (6 : Int32)) hx hb d_q_analyse_70 (by decide) ?_
    refine lv_icmp_ge (tgt := 93) hx hb d_q_analyse_72 (by decide) (fun c12 => ?_) (fun c12 => ?_)
    · rw [if_pos c12] at h
      refine lv_bipush (v := (6 : Int32)) hx hb d_q_analyse_93 (by decide) ?_
      refine lv_istore_n (lv' := [(1, .int (6 : Int32)), (0, .ref (base + y0))]) hx hb d_q_analyse_95 rfl hl (by decide) rfl (fun ls hl => ?_)
      exact j_q_analyse_96 C KK y0 (6 : Int32) w h _ _ _ hW (lv_sub hl [1, 0] rfl)
    · rw [if_neg c12] at h
      refine lv_aload_n hx hb d_q_analyse_75 rfl (lv_at hl 0 rfl) ?_
      refine lv_iload_n hx hb d_q_analyse_76 rfl (lv_at hl 1 rfl) ?_
      replace h := bs h
      obtain ⟨w53, hw53, h⟩ := h
      refine cv_q_393 (As := [.int y1]) (rest := []) hx hb hml hown hts hK hG hW (c_q_none l D cA base hw53) (kb_q_none hw53) ⟨Nat.le_of_ble_eq_true rfl, Nat.le_of_ble_eq_true rfl⟩ ⟨Nat.le_of_ble_eq_true rfl, Nat.le_of_ble_eq_true rfl⟩ rfl hl.1 rfl (Nat.le_of_ble_eq_true rfl) d_q_analyse_77 (fun H locs hW => ?_)
      refine lv_aload_n hx hb d_q_analyse_80 rfl (lv_at hl 0 rfl) ?_
      replace h := bs h
      obtain ⟨x54, hx54, h⟩ := h
      refine gf_q_130 hx hb hts hown hK hG hW (gN_s hx54) d_q_analyse_81 ?_
      refine lv_iload_n hx hb d_q_analyse_84 rfl (lv_at hl 1 rfl) ?_
      refine lv_iconst (v := (1 : Int32)) hx hb d_q_analyse_85 (by decide) ?_
      replace h := bs h
      obtain ⟨w55, hw55, h⟩ := h
      refine wo_zast hx hb hK hW (t := 2) rfl hw55 d_q_analyse_86 (fun H locs hW => ?_)
      refine lv_iinc (v := (y1 + (1 : Int32))) (lv' := [(1, .int (y1 + (1 : Int32))), (0, .ref (base + y0))]) hx hb d_q_analyse_87 hl (k := 1) rfl rfl (by decide) rfl (fun ls hl => ?_)
      refine lv_goto (tgt := 69) hx hb d_q_analyse_90 (by decide) ?_
      exact ih y0 (y1 + (1 : Int32)) w55 h _ _ _ hW (lv_sub hl [1, 0] rfl)
set_option maxHeartbeats 4000000 in
set_option maxRecDepth 100000 in
theorem j_q_analyse_40 {p : Program} {l : Launch} {e : Env} {s : State} {m : MethodId} {args : Array Value} {below : List Frame} {meth : Method} {c : Code} {D : va_G} {cA : Nat → ClassId} {base : Nat} {r : Int32} {w' : WW} (C : cx b_q_analyse (some .int) 3 y_q_analyse.cls "analyse" p s m args meth c D cA base)   : ∀ n : Nat, ∀ (y0 : Nat) (y1 : Int32) (w : WW), f_q_analyse_40 n y0 y1 w = some (r, w') → ∀ (H : Heap) (locs : List Loc) (ls : Array Slot), wo_S D cls cA base s w H locs → lv_has ls 3 [(0, .ref (base + y0)), (1, .int y1)] → W p l e rm_q_analyse s m args below meth c H locs 0 0 (MQ below (wo_Q D cls cA base (some (.int r)) w') args s rm_q_analyse.cells rm_q_analyse.slots (wo_B base)) (F0 m 40 ls []) := by
  obtain ⟨hx, hb, hr, hml, hown, hts, hlk, hnm, hK, hG⟩ := id C
  intro n
  induction n with
  | zero => intro y0 y1 w h; cases h
  | succ n ih =>
    intro y0 y1 w h H locs ls hW hl
    rw [f_q_analyse_40] at h
    refine lv_iload_n hx hb d_q_analyse_40 rfl (lv_at hl 1 rfl) ?_
    refine lv_sipush (v := (1200 : Int32)) hx hb d_q_analyse_41 (by decide) ?_
    refine lv_icmp_ge (tgt := 60) hx hb d_q_analyse_44 (by decide) (fun c9 => ?_) (fun c9 => ?_)
    · rw [if_pos c9] at h
      refine lv_aload_n hx hb d_q_analyse_60 rfl (lv_at hl 0 rfl) ?_
      replace h := bs h
      obtain ⟨x10, hx10, h⟩ := h
      refine gf_q_133 hx hb hts hown hK hG hW (gN_s hx10) d_q_analyse_61 ?_
      refine lv_iconst (v := (0 : Int32)) hx hb d_q_analyse_64 (by decide) ?_
      refine lv_iconst (v := (0 : Int32)) hx hb d_q_analyse_65 (by decide) ?_
      replace h := bs h
      obtain ⟨w11, hw11, h⟩ := h
      refine wo_zast hx hb hK hW (t := 2) rfl hw11 d_q_analyse_66 (fun H locs hW => ?_)
      refine lv_iconst (v := (0 : Int32)) hx hb d_q_analyse_67 (by decide) ?_
      refine lv_istore_n (lv' := [(1, .int (0 : Int32)), (0, .ref (base + y0))]) hx hb d_q_analyse_68 rfl hl (by decide) rfl (fun ls hl => ?_)
      exact j_q_analyse_69 C KK y0 (0 : Int32) w11 h _ _ _ hW (lv_sub hl [1, 0] rfl)
    · rw [if_neg c9] at h
      refine lv_aload_n hx hb d_q_analyse_47 rfl (lv_at hl 0 rfl) ?_
      replace h := bs h
      obtain ⟨x56, hx56, h⟩ := h
      refine gf_q_136 hx hb hts hown hK hG hW (gN_s hx56) d_q_analyse_48 ?_
      refine lv_iload_n hx hb d_q_analyse_51 rfl (lv_at hl 1 rfl) ?_
      refine lv_iconst (v := (0 : Int32)) hx hb d_q_analyse_52 (by decide) ?_
      replace h := bs h
      obtain ⟨w57, hw57, h⟩ := h
      refine wo_zast hx hb hK hW (t := 2) rfl hw57 d_q_analyse_53 (fun H locs hW => ?_)
      refine lv_iinc (v := (y1 + (1 : Int32))) (lv' := [(1, .int (y1 + (1 : Int32))), (0, .ref (base + y0))]) hx hb d_q_analyse_54 hl (k := 1) rfl rfl (by decide) rfl (fun ls hl => ?_)
      refine lv_goto (tgt := 40) hx hb d_q_analyse_57 (by decide) ?_
      exact ih y0 (y1 + (1 : Int32)) w57 h _ _ _ hW (lv_sub hl [1, 0] rfl)
set_option maxHeartbeats 4000000 in
set_option maxRecDepth 100000 in
theorem c_q_analyse (l : Launch) (D : va_G) (cA : Nat → ClassId) (base : Nat) {a0 : Nat} {w w' : WW} {r : Int32} (h : f_q_analyse a0 w = some (r, w')) : mt l D cls (wo_tys cA) cA base y_q_analyse (Cond.code y_q_analyse b_q_analyse 3 (some .int) :: gt) rm_q_analyse [.ref (base + a0)] w (some (.int r)) w' rm_q_analyse.cells rm_q_analyse.slots := by
  refine mt_start (by decide) (Nat.le_of_ble_eq_true rfl) ?_
  intro p e s m below meth c ls hx hb hr hml hown hts hlk hnm hK hG hW hl
  have C : cx b_q_analyse (some .int) 3 y_q_analyse.cls "analyse" p s m [.ref (base + a0)].toArray meth c D cA base := ⟨hx, hb, hr, hml, hown, hts, hlk, hnm, hK, hG⟩
  have hl : lv_has ls 3 [(0, .ref (base + a0))] := hl
  unfold f_q_analyse at h
  replace h := its h
  obtain ⟨-, h⟩ := h
  refine lv_aload_n hx hb d_q_analyse_0 rfl (lv_at hl 0 rfl) ?_
  replace h := bs h
  obtain ⟨x1, hx1, h⟩ := h
  refine gf_q_323 hx hb hts hown hK hG hW (gI_s hx1) d_q_analyse_1 ?_
  refine lv_if_ne (tgt := 13) hx hb d_q_analyse_4 (by decide) (fun c2 => ?_) (fun c2 => ?_)
  · rw [if_neg c2] at h
    refine lv_aload_n hx hb d_q_analyse_13 rfl (lv_at hl 0 rfl) ?_
    refine lv_iconst (v := (0 : Int32)) hx hb d_q_analyse_14 (by decide) ?_
    replace h := bs h
    obtain ⟨w3, hw3, h⟩ := h
    refine pf_q_148 hx hb hts hown hK hG hW rfl rfl (pbi hw3 rfl) d_q_analyse_15 (fun H locs hW => ?_)
    refine lv_aload_n hx hb d_q_analyse_18 rfl (lv_at hl 0 rfl) ?_
    refine lv_iconst (v := (1 : Int32)) hx hb d_q_analyse_19 (by decide) ?_
    replace h := its h
    obtain ⟨c5, h⟩ := h
    replace h := bs h
    obtain ⟨w4, hw4, h⟩ := h
    refine pf_q_506 hx hb hts hown hK hG hW (z_n c5) (z_f c5) (pbi hw4 rfl) d_q_analyse_20 (fun H locs hW => ?_)
    refine lv_aload_n hx hb d_q_analyse_23 rfl (lv_at hl 0 rfl) ?_
    refine lv_iconst (v := (0 : Int32)) hx hb d_q_analyse_24 (by decide) ?_
    replace h := bs h
    obtain ⟨w6, hw6, h⟩ := h
    refine pf_q_489 hx hb hts hown hK hG hW rfl rfl (pbi hw6 rfl) d_q_analyse_25 (fun H locs hW => ?_)
    refine lv_aload_n hx hb d_q_analyse_28 rfl (lv_at hl 0 rfl) ?_
    refine lv_iconst (v := (0 : Int32)) hx hb d_q_analyse_29 (by decide) ?_
    replace h := bs h
    obtain ⟨w7, hw7, h⟩ := h
    refine pf_q_429 hx hb hts hown hK hG hW rfl rfl (pbi hw7 rfl) d_q_analyse_30 (fun H locs hW => ?_)
    refine lv_aload_n hx hb d_q_analyse_33 rfl (lv_at hl 0 rfl) ?_
    refine lv_iconst (v := (0 : Int32)) hx hb d_q_analyse_34 (by decide) ?_
    replace h := bs h
    obtain ⟨w8, hw8, h⟩ := h
    refine pf_q_496 hx hb hts hown hK hG hW rfl rfl (pbi hw8 rfl) d_q_analyse_35 (fun H locs hW => ?_)
    refine lv_iconst (v := (0 : Int32)) hx hb d_q_analyse_38 (by decide) ?_
    refine lv_istore_n (lv' := [(1, .int (0 : Int32)), (0, .ref (base + a0))]) hx hb d_q_analyse_39 rfl hl (by decide) rfl (fun ls hl => ?_)
    exact j_q_analyse_40 C KK a0 (0 : Int32) w8 h _ _ _ hW (lv_sub hl [1, 0] rfl)
  · rw [if_pos c2] at h
    refine lv_aload_n hx hb d_q_analyse_7 rfl (lv_at hl 0 rfl) ?_
    refine lv_iconst (v := (1 : Int32)) hx hb d_q_analyse_8 (by decide) ?_
    replace h := bs2 h
    obtain ⟨x59, w58, hw58, h⟩ := h
    refine cv_q_159 (As := [.int (1 : Int32)]) (rest := []) hx hb hml hown hts hK hG hW (c_q_fail l D cA base hw58) (kb_q_fail hw58) ⟨Nat.le_of_ble_eq_true rfl, Nat.le_of_ble_eq_true rfl⟩ ⟨Nat.le_of_ble_eq_true rfl, Nat.le_of_ble_eq_true rfl⟩ rfl hl.1 rfl (Nat.le_of_ble_eq_true rfl) d_q_analyse_9 (fun H locs hW => ?_)
    cases h
    exact wo_iret hx hb hr hlk hW d_q_analyse_12
