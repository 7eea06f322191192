/-! Methods as functions, and their contracts (by wip/gen/run.py). -/
abbrev b_va_takeQuotients : ByteArray := prog_9_method_23_code
def y_va_takeQuotients : MethodName := ⟨"AlarmForge$Value", "takeQuotients", "(JJJ)V"⟩
def rm_va_takeQuotients : Room := { frames := 1, cells := 0, slots := 0, locals := 23 }
theorem d_va_takeQuotients_0 : decode b_va_takeQuotients 0 = .ok (.lload 5, 2) := by decide +kernel
theorem d_va_takeQuotients_2 : decode b_va_takeQuotients 2 = .ok (.lconst 0, 1) := by decide +kernel
theorem d_va_takeQuotients_3 : decode b_va_takeQuotients 3 = .ok (.lcmp, 1) := by decide +kernel
theorem d_va_takeQuotients_4 : decode b_va_takeQuotients 4 = .ok (.ifCond .ne (4), 3) := by decide +kernel
theorem d_va_takeQuotients_7 : decode b_va_takeQuotients 7 = .ok (.return_, 1) := by decide +kernel
theorem d_va_takeQuotients_8 : decode b_va_takeQuotients 8 = .ok (.aload_n 0, 1) := by decide +kernel
theorem d_va_takeQuotients_9 : decode b_va_takeQuotients 9 = .ok (.aload_n 0, 1) := by decide +kernel
theorem d_va_takeQuotients_10 : decode b_va_takeQuotients 10 = .ok (.getfield 15, 3) := by decide +kernel
theorem d_va_takeQuotients_13 : decode b_va_takeQuotients 13 = .ok (.lload_n 1, 1) := by decide +kernel
theorem d_va_takeQuotients_14 : decode b_va_takeQuotients 14 = .ok (.lload 5, 2) := by decide +kernel
theorem d_va_takeQuotients_16 : decode b_va_takeQuotients 16 = .ok (.ldiv, 1) := by decide +kernel
theorem d_va_takeQuotients_17 : decode b_va_takeQuotients 17 = .ok (.lload_n 3, 1) := by decide +kernel
theorem d_va_takeQuotients_18 : decode b_va_takeQuotients 18 = .ok (.lload 5, 2) := by decide +kernel
theorem d_va_takeQuotients_20 : decode b_va_takeQuotients 20 = .ok (.ldiv, 1) := by decide +kernel
theorem d_va_takeQuotients_21 : decode b_va_takeQuotients 21 = .ok (.invokestatic 47, 3) := by decide +kernel
theorem d_va_takeQuotients_24 : decode b_va_takeQuotients 24 = .ok (.invokestatic 47, 3) := by decide +kernel
theorem d_va_takeQuotients_27 : decode b_va_takeQuotients 27 = .ok (.putfield 15, 3) := by decide +kernel
theorem d_va_takeQuotients_30 : decode b_va_takeQuotients 30 = .ok (.aload_n 0, 1) := by decide +kernel
theorem d_va_takeQuotients_31 : decode b_va_takeQuotients 31 = .ok (.aload_n 0, 1) := by decide +kernel
theorem d_va_takeQuotients_32 : decode b_va_takeQuotients 32 = .ok (.getfield 19, 3) := by decide +kernel
theorem d_va_takeQuotients_35 : decode b_va_takeQuotients 35 = .ok (.lload_n 1, 1) := by decide +kernel
theorem d_va_takeQuotients_36 : decode b_va_takeQuotients 36 = .ok (.lload 5, 2) := by decide +kernel
theorem d_va_takeQuotients_38 : decode b_va_takeQuotients 38 = .ok (.ldiv, 1) := by decide +kernel
theorem d_va_takeQuotients_39 : decode b_va_takeQuotients 39 = .ok (.lload_n 3, 1) := by decide +kernel
theorem d_va_takeQuotients_40 : decode b_va_takeQuotients 40 = .ok (.lload 5, 2) := by decide +kernel
theorem d_va_takeQuotients_42 : decode b_va_takeQuotients 42 = .ok (.ldiv, 1) := by decide +kernel
theorem d_va_takeQuotients_43 : decode b_va_takeQuotients 43 = .ok (.invokestatic 44, 3) := by decide +kernel
theorem d_va_takeQuotients_46 : decode b_va_takeQuotients 46 = .ok (.invokestatic 44, 3) := by decide +kernel
theorem d_va_takeQuotients_49 : decode b_va_takeQuotients 49 = .ok (.putfield 19, 3) := by decide +kernel
theorem d_va_takeQuotients_52 : decode b_va_takeQuotients 52 = .ok (.return_, 1) := by decide +kernel
theorem kb_va_takeQuotients {a0 : Nat} {a1 : Int64} {a3 : Int64} {a5 : Int64} {w : WW} {r : WW} (h : f_va_takeQuotients a0 a1 a3 a5 w = some r) : kb w a0 8 = true := (its h).1
set_option maxHeartbeats 4000000 in
set_option maxRecDepth 100000 in
theorem c_va_takeQuotients (l : Launch) (D : va_G) (cA : Nat → ClassId) (base : Nat) {a0 : Nat} {a1 : Int64} {a3 : Int64} {a5 : Int64} {w w' : WW} (h : f_va_takeQuotients a0 a1 a3 a5 w = some w') : mt l D cls (wo_tys cA) cA base y_va_takeQuotients (Cond.code y_va_takeQuotients b_va_takeQuotients 7 (none) :: gt) rm_va_takeQuotients [.ref (base + a0), .long a1, .long a3, .long a5] w none w' rm_va_takeQuotients.cells rm_va_takeQuotients.slots := by
  refine mt_start (by decide) (Nat.le_of_ble_eq_true rfl) ?_
  intro p e s m below meth c ls hx hb hr hml hown hts hlk hnm hK hG hW hl
  have C : cx b_va_takeQuotients (none) 7 y_va_takeQuotients.cls "takeQuotients" p s m [.ref (base + a0), .long a1, .long a3, .long a5].toArray meth c D cA base := ⟨hx, hb, hr, hml, hown, hts, hlk, hnm, hK, hG⟩
  have hl : lv_has ls 7 [(0, .ref (base + a0)), (1, .long a1), (3, .long a3), (5, .long a5)] := hl
  unfold f_va_takeQuotients at h
  replace h := its h
  obtain ⟨-, h⟩ := h
  refine lv_lload hx hb d_va_takeQuotients_0 (lv_at hl 3 rfl) ?_
  refine lv_lconst (v := (0 : Int64)) hx hb d_va_takeQuotients_2 (by decide) ?_
  refine lc_ne (tgt := 8) hx hb d_va_takeQuotients_3 d_va_takeQuotients_4 (by decide) (fun c1 => ?_) (fun c1 => ?_)
  · rw [if_neg c1] at h
    refine lv_aload_n hx hb d_va_takeQuotients_8 rfl (lv_at hl 0 rfl) ?_
    refine lv_aload_n hx hb d_va_takeQuotients_9 rfl (lv_at hl 0 rfl) ?_
    replace h := bs h
    obtain ⟨x2, hx2, h⟩ := h
    refine gf_va_15 hx hb hts hown hK hG hW (gL_s hx2) d_va_takeQuotients_10 ?_
    refine lv_lload_n hx hb d_va_takeQuotients_13 rfl (lv_at hl 1 rfl) ?_
    refine lv_lload hx hb d_va_takeQuotients_14 (lv_at hl 3 rfl) ?_
    replace h := its h
    obtain ⟨c3, h⟩ := h
    refine lv_ldiv hx hb d_va_takeQuotients_16 c3 ?_
    refine lv_lload_n hx hb d_va_takeQuotients_17 rfl (lv_at hl 2 rfl) ?_
    refine lv_lload hx hb d_va_takeQuotients_18 (lv_at hl 3 rfl) ?_
    replace h := its h
    obtain ⟨c4, h⟩ := h
    refine lv_ldiv hx hb d_va_takeQuotients_20 c4 ?_
    replace h := bs2 h
    obtain ⟨x6, w5, hw5, h⟩ := h
    refine cs_va_47 (As := [.long (a1 / a5), .long (a3 / a5)]) (rest := [.long x2, .ref (base + a0)]) hx hb hml hown hts hK hG hW (c_ma_min_JJ l D cA base hw5) ⟨Nat.le_of_ble_eq_true rfl, Nat.le_of_ble_eq_true rfl⟩ ⟨Nat.le_of_ble_eq_true rfl, Nat.le_of_ble_eq_true rfl⟩ rfl hl.1 rfl (Nat.le_of_ble_eq_true rfl) d_va_takeQuotients_21 (fun H locs hW => ?_)
    replace h := bs2 h
    obtain ⟨x8, w7, hw7, h⟩ := h
    refine cs_va_47 (As := [.long x2, .long x6]) (rest := [.ref (base + a0)]) hx hb hml hown hts hK hG hW (c_ma_min_JJ l D cA base hw7) ⟨Nat.le_of_ble_eq_true rfl, Nat.le_of_ble_eq_true rfl⟩ ⟨Nat.le_of_ble_eq_true rfl, Nat.le_of_ble_eq_true rfl⟩ rfl hl.1 rfl (Nat.le_of_ble_eq_true rfl) d_va_takeQuotients_24 (fun H locs hW => ?_)
    replace h := bs h
    obtain ⟨w9, hw9, h⟩ := h
    refine pf_va_15 hx hb hts hown hK hG hW rfl rfl (pbi hw9 rfl) d_va_takeQuotients_27 (fun H locs hW => ?_)
    refine lv_aload_n hx hb d_va_takeQuotients_30 rfl (lv_at hl 0 rfl) ?_
    refine lv_aload_n hx hb d_va_takeQuotients_31 rfl (lv_at hl 0 rfl) ?_
    replace h := bs h
    obtain ⟨x10, hx10, h⟩ := h
    refine gf_va_19 hx hb hts hown hK hG hW (gL_s hx10) d_va_takeQuotients_32 ?_
    refine lv_lload_n hx hb d_va_takeQuotients_35 rfl (lv_at hl 1 rfl) ?_
    refine lv_lload hx hb d_va_takeQuotients_36 (lv_at hl 3 rfl) ?_
    replace h := its h
    obtain ⟨c11, h⟩ := h
    refine lv_ldiv hx hb d_va_takeQuotients_38 c11 ?_
    refine lv_lload_n hx hb d_va_takeQuotients_39 rfl (lv_at hl 2 rfl) ?_
    refine lv_lload hx hb d_va_takeQuotients_40 (lv_at hl 3 rfl) ?_
    replace h := its h
    obtain ⟨c12, h⟩ := h
    refine lv_ldiv hx hb d_va_takeQuotients_42 c12 ?_
    replace h := bs2 h
    obtain ⟨x14, w13, hw13, h⟩ := h
    refine cs_va_44 (As := [.long (a1 / a5), .long (a3 / a5)]) (rest := [.long x10, .ref (base + a0)]) hx hb hml hown hts hK hG hW (c_ma_max_JJ l D cA base hw13) ⟨Nat.le_of_ble_eq_true rfl, Nat.le_of_ble_eq_true rfl⟩ ⟨Nat.le_of_ble_eq_true rfl, Nat.le_of_ble_eq_true rfl⟩ rfl hl.1 rfl (Nat.le_of_ble_eq_true rfl) d_va_takeQuotients_43 (fun H locs hW => ?_)
    replace h := bs2 h
    obtain ⟨x16, w15, hw15, h⟩ := h
    refine cs_va_44 (As := [.long x10, .long x14]) (rest := [.ref (base + a0)]) hx hb hml hown hts hK hG hW (c_ma_max_JJ l D cA base hw15) ⟨Nat.le_of_ble_eq_true rfl, Nat.le_of_ble_eq_true rfl⟩ ⟨Nat.le_of_ble_eq_true rfl, Nat.le_of_ble_eq_true rfl⟩ rfl hl.1 rfl (Nat.le_of_ble_eq_true rfl) d_va_takeQuotients_46 (fun H locs hW => ?_)
    replace h := bs h
    obtain ⟨w17, hw17, h⟩ := h
    refine pf_va_19 hx hb hts hown hK hG hW rfl rfl (pbi hw17 rfl) d_va_takeQuotients_49 (fun H locs hW => ?_)
    cases h
    exact wo_vret hx hb hr hlk hW d_va_takeQuotients_52
  · rw [if_pos c1] at h
    cases h
    exact wo_vret hx hb hr hlk hW d_va_takeQuotients_7
theorem cv_va_70 {p : Program} {l : Launch} {e : Env} {R : Room} {s : State} {m : MethodId} {args : Array Value} {below : List Frame} {meth : Method} {c : Code} {H : Heap} {locs : List Loc} {cells slots : Nat} {Q : State → Prop} {D : va_G} {cA : Nat → ClassId} {base : Nat} {w w' : WW} {cc : ByteArray} {pc nL : Nat} {ls : Array Slot} {rest st0 As : List Value} {ov : Option Value} {b : Nat} (hx : p.tables.exec = Jvm.exec) (hb : c.code = cc) (hml : c.maxLocals = nL) (hown : s.vm.findClass Rc_va = some m.cls) (hts : ∀ w ∈ gt, w.before args s = true) (hK : va_K D cls (wo_tys cA) s) (hG : wo_G cA base s) (hW : wo_S D cls cA base s w H locs) (hM : mt l D cls (wo_tys cA) cA base y_va_has (Cond.code y_va_has b_va_has 3 (some .boolean) :: gt) rm_va_has (.ref (base + b) :: As) w ov w' rm_va_has.cells rm_va_has.slots) (hkb : kb w b 8 = true) (hR : rm_va_has.frames + 1 ≤ R.frames ∧ 8 + (3 + 11) + rm_va_has.locals ≤ R.locals) (hf : cells + rm_va_has.cells ≤ R.cells ∧ slots + rm_va_has.slots ≤ R.slots) (hn : As.length = 1) (hsz : ls.size = nL) (hst : st0 = As.reverse ++ .ref (base + b) :: rest) (hcat : (rest.map fun v => v.category).sum ≤ 8) (hdg : decode cc pc = .ok (.invokevirtual 70, 3)) (kk : ∀ (H1 : Heap) (locs1 : List Loc), wo_S D cls cA base s w' H1 locs1 → W p l e R s m args below meth c H1 locs1 (cells + rm_va_has.cells) (slots + rm_va_has.slots) Q (F0 m (pc + 3) ls (ov.toList ++ rest))) : W p l e R s m args below meth c H locs cells slots Q (F0 m pc ls st0) :=
  wo_callV (C := Rc_va) hx hb hml hown hts hK hG hW hM hkb rfl (gt_of (i := 992) (by decide +kernel) (by decide +kernel)) (gt_of (i := 942) (by decide +kernel) (by decide +kernel)) (gt_of (i := 943) (by decide +kernel) (by decide +kernel)) (gt_of (i := 9) (by decide +kernel) (by decide +kernel)) (gt_of (i := 944) (by decide +kernel) (by decide +kernel)) (by decide +kernel) hR hf hn hsz hst hcat hdg kk
theorem cv_va_82 {p : Program} {l : Launch} {e : Env} {R : Room} {s : State} {m : MethodId} {args : Array Value} {below : List Frame} {meth : Method} {c : Code} {H : Heap} {locs : List Loc} {cells slots : Nat} {Q : State → Prop} {D : va_G} {cA : Nat → ClassId} {base : Nat} {w w' : WW} {cc : ByteArray} {pc nL : Nat} {ls : Array Slot} {rest st0 As : List Value} {ov : Option Value} {b : Nat} (hx : p.tables.exec = Jvm.exec) (hb : c.code = cc) (hml : c.maxLocals = nL) (hown : s.vm.findClass Rc_va = some m.cls) (hts : ∀ w ∈ gt, w.before args s = true) (hK : va_K D cls (wo_tys cA) s) (hG : wo_G cA base s) (hW : wo_S D cls cA base s w H locs) (hM : mt l D cls (wo_tys cA) cA base y_va_takeQuotients (Cond.code y_va_takeQuotients b_va_takeQuotients 7 (none) :: gt) rm_va_takeQuotients (.ref (base + b) :: As) w ov w' rm_va_takeQuotients.cells rm_va_takeQuotients.slots) (hkb : kb w b 8 = true) (hR : rm_va_takeQuotients.frames + 1 ≤ R.frames ∧ 8 + (7 + 11) + rm_va_takeQuotients.locals ≤ R.locals) (hf : cells + rm_va_takeQuotients.cells ≤ R.cells ∧ slots + rm_va_takeQuotients.slots ≤ R.slots) (hn : As.length = 3) (hsz : ls.size = nL) (hst : st0 = As.reverse ++ .ref (base + b) :: rest) (hcat : (rest.map fun v => v.category).sum ≤ 8) (hdg : decode cc pc = .ok (.invokevirtual 82, 3)) (kk : ∀ (H1 : Heap) (locs1 : List Loc), wo_S D cls cA base s w' H1 locs1 → W p l e R s m args below meth c H1 locs1 (cells + rm_va_takeQuotients.cells) (slots + rm_va_takeQuotients.slots) Q (F0 m (pc + 3) ls (ov.toList ++ rest))) : W p l e R s m args below meth c H locs cells slots Q (F0 m pc ls st0) :=
  wo_callV (C := Rc_va) hx hb hml hown hts hK hG hW hM hkb rfl (gt_of (i := 995) (by decide +kernel) (by decide +kernel)) (gt_of (i := 997) (by decide +kernel) (by decide +kernel)) (gt_sel (i := 44) (by decide +kernel) (by decide +kernel)) (gt_of (i := 9) (by decide +kernel) (by decide +kernel)) (gt_of (i := 998) (by decide +kernel) (by decide +kernel)) (by decide +kernel) hR hf hn hsz hst hcat hdg kk
abbrev b_va_divide : ByteArray := prog_9_method_22_code
def y_va_divide : MethodName := ⟨"AlarmForge$Value", "divide", "(LAlarmForge$Value;)Z"⟩
def rm_va_divide : Room := { frames := 2, cells := 0, slots := 0, locals := 49 }
theorem d_va_divide_0 : decode b_va_divide 0 = .ok (.aload_n 0, 1) := by decide +kernel
theorem d_va_divide_1 : decode b_va_divide 1 = .ok (.getfield 15, 3) := by decide +kernel
theorem d_va_divide_4 : decode b_va_divide 4 = .ok (.ldc2_w 28, 3) := by decide +kernel
theorem d_va_divide_7 : decode b_va_divide 7 = .ok (.lcmp, 1) := by decide +kernel
theorem d_va_divide_8 : decode b_va_divide 8 = .ok (.ifCond .ne (17), 3) := by decide +kernel
theorem d_va_divide_11 : decode b_va_divide 11 = .ok (.aload_n 1, 1) := by decide +kernel
theorem d_va_divide_12 : decode b_va_divide 12 = .ok (.ldc2_w 74, 3) := by decide +kernel
theorem d_va_divide_15 : decode b_va_divide 15 = .ok (.invokevirtual 70, 3) := by decide +kernel
theorem d_va_divide_18 : decode b_va_divide 18 = .ok (.ifCond .eq (7), 3) := by decide +kernel
theorem d_va_divide_21 : decode b_va_divide 21 = .ok (.iconst 1, 1) := by decide +kernel
theorem d_va_divide_22 : decode b_va_divide 22 = .ok (.goto (4), 3) := by decide +kernel
theorem d_va_divide_25 : decode b_va_divide 25 = .ok (.iconst 0, 1) := by decide +kernel
theorem d_va_divide_26 : decode b_va_divide 26 = .ok (.istore_n 2, 1) := by decide +kernel
theorem d_va_divide_27 : decode b_va_divide 27 = .ok (.aload_n 0, 1) := by decide +kernel
theorem d_va_divide_28 : decode b_va_divide 28 = .ok (.getfield 15, 3) := by decide +kernel
theorem d_va_divide_31 : decode b_va_divide 31 = .ok (.lstore_n 3, 1) := by decide +kernel
theorem d_va_divide_32 : decode b_va_divide 32 = .ok (.aload_n 0, 1) := by decide +kernel
theorem d_va_divide_33 : decode b_va_divide 33 = .ok (.getfield 19, 3) := by decide +kernel
theorem d_va_divide_36 : decode b_va_divide 36 = .ok (.lstore 5, 2) := by decide +kernel
theorem d_va_divide_38 : decode b_va_divide 38 = .ok (.aload_n 0, 1) := by decide +kernel
theorem d_va_divide_39 : decode b_va_divide 39 = .ok (.ldc2_w 78, 3) := by decide +kernel
theorem d_va_divide_42 : decode b_va_divide 42 = .ok (.putfield 15, 3) := by decide +kernel
theorem d_va_divide_45 : decode b_va_divide 45 = .ok (.aload_n 0, 1) := by decide +kernel
theorem d_va_divide_46 : decode b_va_divide 46 = .ok (.ldc2_w 80, 3) := by decide +kernel
theorem d_va_divide_49 : decode b_va_divide 49 = .ok (.putfield 19, 3) := by decide +kernel
theorem d_va_divide_52 : decode b_va_divide 52 = .ok (.aload_n 1, 1) := by decide +kernel
theorem d_va_divide_53 : decode b_va_divide 53 = .ok (.getfield 15, 3) := by decide +kernel
theorem d_va_divide_56 : decode b_va_divide 56 = .ok (.lconst 0, 1) := by decide +kernel
theorem d_va_divide_57 : decode b_va_divide 57 = .ok (.lcmp, 1) := by decide +kernel
theorem d_va_divide_58 : decode b_va_divide 58 = .ok (.ifCond .ge (31), 3) := by decide +kernel
theorem d_va_divide_61 : decode b_va_divide 61 = .ok (.aload_n 0, 1) := by decide +kernel
theorem d_va_divide_62 : decode b_va_divide 62 = .ok (.lload_n 3, 1) := by decide +kernel
theorem d_va_divide_63 : decode b_va_divide 63 = .ok (.lload 5, 2) := by decide +kernel
theorem d_va_divide_65 : decode b_va_divide 65 = .ok (.aload_n 1, 1) := by decide +kernel
theorem d_va_divide_66 : decode b_va_divide 66 = .ok (.getfield 15, 3) := by decide +kernel
theorem d_va_divide_69 : decode b_va_divide 69 = .ok (.invokevirtual 82, 3) := by decide +kernel
theorem d_va_divide_72 : decode b_va_divide 72 = .ok (.aload_n 0, 1) := by decide +kernel
theorem d_va_divide_73 : decode b_va_divide 73 = .ok (.lload_n 3, 1) := by decide +kernel
theorem d_va_divide_74 : decode b_va_divide 74 = .ok (.lload 5, 2) := by decide +kernel
theorem d_va_divide_76 : decode b_va_divide 76 = .ok (.aload_n 1, 1) := by decide +kernel
theorem d_va_divide_77 : decode b_va_divide 77 = .ok (.getfield 19, 3) := by decide +kernel
theorem d_va_divide_80 : decode b_va_divide 80 = .ok (.ldc2_w 74, 3) := by decide +kernel
theorem d_va_divide_83 : decode b_va_divide 83 = .ok (.invokestatic 47, 3) := by decide +kernel
theorem d_va_divide_86 : decode b_va_divide 86 = .ok (.invokevirtual 82, 3) := by decide +kernel
theorem d_va_divide_89 : decode b_va_divide 89 = .ok (.aload_n 1, 1) := by decide +kernel
theorem d_va_divide_90 : decode b_va_divide 90 = .ok (.getfield 19, 3) := by decide +kernel
theorem d_va_divide_93 : decode b_va_divide 93 = .ok (.lconst 0, 1) := by decide +kernel
theorem d_va_divide_94 : decode b_va_divide 94 = .ok (.lcmp, 1) := by decide +kernel
theorem d_va_divide_95 : decode b_va_divide 95 = .ok (.ifCond .le (29), 3) := by decide +kernel
theorem d_va_divide_98 : decode b_va_divide 98 = .ok (.aload_n 0, 1) := by decide +kernel
theorem d_va_divide_99 : decode b_va_divide 99 = .ok (.lload_n 3, 1) := by decide +kernel
theorem d_va_divide_100 : decode b_va_divide 100 = .ok (.lload 5, 2) := by decide +kernel
theorem d_va_divide_102 : decode b_va_divide 102 = .ok (.aload_n 1, 1) := by decide +kernel
theorem d_va_divide_103 : decode b_va_divide 103 = .ok (.getfield 15, 3) := by decide +kernel
theorem d_va_divide_106 : decode b_va_divide 106 = .ok (.lconst 1, 1) := by decide +kernel
theorem d_va_divide_107 : decode b_va_divide 107 = .ok (.invokestatic 44, 3) := by decide +kernel
theorem d_va_divide_110 : decode b_va_divide 110 = .ok (.invokevirtual 82, 3) := by decide +kernel
theorem d_va_divide_113 : decode b_va_divide 113 = .ok (.aload_n 0, 1) := by decide +kernel
theorem d_va_divide_114 : decode b_va_divide 114 = .ok (.lload_n 3, 1) := by decide +kernel
theorem d_va_divide_115 : decode b_va_divide 115 = .ok (.lload 5, 2) := by decide +kernel
theorem d_va_divide_117 : decode b_va_divide 117 = .ok (.aload_n 1, 1) := by decide +kernel
theorem d_va_divide_118 : decode b_va_divide 118 = .ok (.getfield 19, 3) := by decide +kernel
theorem d_va_divide_121 : decode b_va_divide 121 = .ok (.invokevirtual 82, 3) := by decide +kernel
theorem d_va_divide_124 : decode b_va_divide 124 = .ok (.aload_n 0, 1) := by decide +kernel
theorem d_va_divide_125 : decode b_va_divide 125 = .ok (.lconst 1, 1) := by decide +kernel
theorem d_va_divide_126 : decode b_va_divide 126 = .ok (.putfield 22, 3) := by decide +kernel
theorem d_va_divide_129 : decode b_va_divide 129 = .ok (.aload_n 0, 1) := by decide +kernel
theorem d_va_divide_130 : decode b_va_divide 130 = .ok (.lconst 0, 1) := by decide +kernel
theorem d_va_divide_131 : decode b_va_divide 131 = .ok (.putfield 25, 3) := by decide +kernel
theorem d_va_divide_134 : decode b_va_divide 134 = .ok (.aload_n 0, 1) := by decide +kernel
theorem d_va_divide_135 : decode b_va_divide 135 = .ok (.getfield 15, 3) := by decide +kernel
theorem d_va_divide_138 : decode b_va_divide 138 = .ok (.aload_n 0, 1) := by decide +kernel
theorem d_va_divide_139 : decode b_va_divide 139 = .ok (.getfield 19, 3) := by decide +kernel
theorem d_va_divide_142 : decode b_va_divide 142 = .ok (.lcmp, 1) := by decide +kernel
theorem d_va_divide_143 : decode b_va_divide 143 = .ok (.ifCond .le (10), 3) := by decide +kernel
theorem d_va_divide_146 : decode b_va_divide 146 = .ok (.aload_n 0, 1) := by decide +kernel
theorem d_va_divide_147 : decode b_va_divide 147 = .ok (.iconst 1, 1) := by decide +kernel
theorem d_va_divide_148 : decode b_va_divide 148 = .ok (.putfield 9, 3) := by decide +kernel
theorem d_va_divide_151 : decode b_va_divide 151 = .ok (.iload_n 2, 1) := by decide +kernel
theorem d_va_divide_152 : decode b_va_divide 152 = .ok (.ireturn, 1) := by decide +kernel
theorem d_va_divide_153 : decode b_va_divide 153 = .ok (.aload_n 0, 1) := by decide +kernel
theorem d_va_divide_154 : decode b_va_divide 154 = .ok (.invokevirtual 62, 3) := by decide +kernel
theorem d_va_divide_157 : decode b_va_divide 157 = .ok (.pop, 1) := by decide +kernel
theorem d_va_divide_158 : decode b_va_divide 158 = .ok (.iload_n 2, 1) := by decide +kernel
theorem d_va_divide_159 : decode b_va_divide 159 = .ok (.ireturn, 1) := by decide +kernel
theorem kb_va_divide {a0 a1 : Nat}  {w : WW} {r : (Int32 × WW)} (h : f_va_divide a0 a1 w = some r) : kb w a0 8 = true := (its h).1
set_option maxHeartbeats 4000000 in
set_option maxRecDepth 100000 in
theorem j_va_divide_124 {p : Program} {l : Launch} {e : Env} {s : State} {m : MethodId} {args : Array Value} {below : List Frame} {meth : Method} {c : Code} {D : va_G} {cA : Nat → ClassId} {base : Nat} {r : Int32} {w' : WW} (C : cx b_va_divide (some .boolean) 7 y_va_divide.cls "divide" p s m args meth c D cA base)   : ∀ (y0 : Nat) (y2 : Int32) (w : WW), f_va_divide_124 y0 y2 w = some (r, w') → ∀ (H : Heap) (locs : List Loc) (ls : Array Slot), wo_S D cls cA base s w H locs → lv_has ls 7 [(0, .ref (base + y0)), (2, .int y2)] → W p l e rm_va_divide s m args below meth c H locs 0 0 (MQ below (wo_Q D cls cA base (some (.int r)) w') args s rm_va_divide.cells rm_va_divide.slots (wo_B base)) (F0 m 124 ls []) := by
  obtain ⟨hx, hb, hr, hml, hown, hts, hlk, hnm, hK, hG⟩ := id C
  intro y0 y2 w h H locs ls hW hl
  unfold f_va_divide_124 at h
  refine lv_aload_n hx hb d_va_divide_124 rfl (lv_at hl 0 rfl) ?_
  refine lv_lconst (v := (1 : Int64)) hx hb d_va_divide_125 (by decide) ?_
  replace h := bs h
  obtain ⟨w11, hw11, h⟩ := h
  refine pf_va_22 hx hb hts hown hK hG hW rfl rfl (pbi hw11 rfl) d_va_divide_126 (fun H locs hW => ?_)
  refine lv_aload_n hx hb d_va_divide_129 rfl (lv_at hl 0 rfl) ?_
  refine lv_lconst (v := (0 : Int64)) hx hb d_va_divide_130 (by decide) ?_
  replace h := bs h
  obtain ⟨w12, hw12, h⟩ := h
  refine pf_va_25 hx hb hts hown hK hG hW rfl rfl (pbi hw12 rfl) d_va_divide_131 (fun H locs hW => ?_)
  refine lv_aload_n hx hb d_va_divide_134 rfl (lv_at hl 0 rfl) ?_
  replace h := bs h
  obtain ⟨x13, hx13, h⟩ := h
  refine gf_va_15 hx hb hts hown hK hG hW (gL_s hx13) d_va_divide_135 ?_
  refine lv_aload_n hx hb d_va_divide_138 rfl (lv_at hl 0 rfl) ?_
  replace h := bs h
  obtain ⟨x14, hx14, h⟩ := h
  refine gf_va_19 hx hb hts hown hK hG hW (gL_s hx14) d_va_divide_139 ?_
  refine lc_le (tgt := 153) hx hb d_va_divide_142 d_va_divide_143 (by decide) (fun c15 => ?_) (fun c15 => ?_)
  · rw [if_pos c15] at h
    refine lv_aload_n hx hb d_va_divide_153 rfl (lv_at hl 0 rfl) ?_
    replace h := bs2 h
    obtain ⟨x17, w16, hw16, h⟩ := h
    refine cv_va_62 (As := []) (rest := []) hx hb hml hown hts hK hG hW (c_va_putTight l D cA base hw16) (kb_va_putTight hw16) ⟨Nat.le_of_ble_eq_true rfl, Nat.le_of_ble_eq_true rfl⟩ ⟨Nat.le_of_ble_eq_true rfl, Nat.le_of_ble_eq_true rfl⟩ rfl hl.1 rfl (Nat.le_of_ble_eq_true rfl) d_va_divide_154 (fun H locs hW => ?_)
    refine lv_pop hx hb d_va_divide_157 rfl ?_
    refine lv_iload_n hx hb d_va_divide_158 rfl (lv_at hl 1 rfl) ?_
    replace h := its h
    obtain ⟨c18, h⟩ := h
    cases h
    exact wo_zret hx hb hr hlk hW c18 d_va_divide_159
  · rw [if_neg c15] at h
    refine lv_aload_n hx hb d_va_divide_146 rfl (lv_at hl 0 rfl) ?_
    refine lv_iconst (v := (1 : Int32)) hx hb d_va_divide_147 (by decide) ?_
    replace h := its h
    obtain ⟨c20, h⟩ := h
    replace h := bs h
    obtain ⟨w19, hw19, h⟩ := h
    refine pf_va_9 hx hb hts hown hK hG hW (z_n c20) (z_f c20) (pbi hw19 rfl) d_va_divide_148 (fun H locs hW => ?_)
    refine lv_iload_n hx hb d_va_divide_151 rfl (lv_at hl 1 rfl) ?_
    replace h := its h
    obtain ⟨c21, h⟩ := h
    cases h
    exact wo_zret hx hb hr hlk hW c21 d_va_divide_152
set_option maxHeartbeats 4000000 in
set_option maxRecDepth 100000 in
theorem j_va_divide_89 {p : Program} {l : Launch} {e : Env} {s : State} {m : MethodId} {args : Array Value} {below : List Frame} {meth : Method} {c : Code} {D : va_G} {cA : Nat → ClassId} {base : Nat} {r : Int32} {w' : WW} (C : cx b_va_divide (some .boolean) 7 y_va_divide.cls "divide" p s m args meth c D cA base)   : ∀ (y0 : Nat) (y1 : Nat) (y2 : Int32) (y3 : Int64) (y5 : Int64) (w : WW), f_va_divide_89 y0 y1 y2 y3 y5 w = some (r, w') → ∀ (H : Heap) (locs : List Loc) (ls : Array Slot), wo_S D cls cA base s w H locs → lv_has ls 7 [(0, .ref (base + y0)), (1, .ref (base + y1)), (2, .int y2), (3, .long y3), (5, .long y5)] → W p l e rm_va_divide s m args below meth c H locs 0 0 (MQ below (wo_Q D cls cA base (some (.int r)) w') args s rm_va_divide.cells rm_va_divide.slots (wo_B base)) (F0 m 89 ls []) := by
  obtain ⟨hx, hb, hr, hml, hown, hts, hlk, hnm, hK, hG⟩ := id C
  intro y0 y1 y2 y3 y5 w h H locs ls hW hl
  unfold f_va_divide_89 at h
  refine lv_aload_n hx hb d_va_divide_89 rfl (lv_at hl 1 rfl) ?_
  replace h := bs h
  obtain ⟨x9, hx9, h⟩ := h
  refine gf_va_19 hx hb hts hown hK hG hW (gL_s hx9) d_va_divide_90 ?_
  refine lv_lconst (v := (0 : Int64)) hx hb d_va_divide_93 (by decide) ?_
  refine lc_le (tgt := 124) hx hb d_va_divide_94 d_va_divide_95 (by decide) (fun c10 => ?_) (fun c10 => ?_)
  · rw [if_pos c10] at h
    exact j_va_divide_124 C y0 y2 w h _ _ _ hW (lv_sub hl [0, 2] rfl)
  · rw [if_neg c10] at h
    refine lv_aload_n hx hb d_va_divide_98 rfl (lv_at hl 0 rfl) ?_
    refine lv_lload_n hx hb d_va_divide_99 rfl (lv_at hl 3 rfl) ?_
    refine lv_lload hx hb d_va_divide_100 (lv_at hl 4 rfl) ?_
    refine lv_aload_n hx hb d_va_divide_102 rfl (lv_at hl 1 rfl) ?_
    replace h := bs h
    obtain ⟨x22, hx22, h⟩ := h
    refine gf_va_15 hx hb hts hown hK hG hW (gL_s hx22) d_va_divide_103 ?_
    refine lv_lconst (v := (1 : Int64)) hx hb d_va_divide_106 (by decide) ?_
    replace h := bs2 h
    obtain ⟨x24, w23, hw23, h⟩ := h
    refine cs_va_44 (As := [.long x22, .long (1 : Int64)]) (rest := [.long y5, .long y3, .ref (base + y0)]) hx hb hml hown hts hK hG hW (c_ma_max_JJ l D cA base hw23) ⟨Nat.le_of_ble_eq_true rfl, Nat.le_of_ble_eq_true rfl⟩ ⟨Nat.le_of_ble_eq_true rfl, Nat.le_of_ble_eq_true rfl⟩ rfl hl.1 rfl (Nat.le_of_ble_eq_true rfl) d_va_divide_107 (fun H locs hW => ?_)
    replace h := bs h
    obtain ⟨w25, hw25, h⟩ := h
    refine cv_va_82 (As := [.long y3, .long y5, .long x24]) (rest := []) hx hb hml hown hts hK hG hW (c_va_takeQuotients l D cA base hw25) (kb_va_takeQuotients hw25) ⟨Nat.le_of_ble_eq_true rfl, Nat.le_of_ble_eq_true rfl⟩ ⟨Nat.le_of_ble_eq_true rfl, Nat.le_of_ble_eq_true rfl⟩ rfl hl.1 rfl (Nat.le_of_ble_eq_true rfl) d_va_divide_110 (fun H locs hW => ?_)
    refine lv_aload_n hx hb d_va_divide_113 rfl (lv_at hl 0 rfl) ?_
    refine lv_lload_n hx hb d_va_divide_114 rfl (lv_at hl 3 rfl) ?_
    refine lv_lload hx hb d_va_divide_115 (lv_at hl 4 rfl) ?_
    refine lv_aload_n hx hb d_va_divide_117 rfl (lv_at hl 1 rfl) ?_
    replace h := bs h
    obtain ⟨x26, hx26, h⟩ := h
    refine gf_va_19 hx hb hts hown hK hG hW (gL_s hx26) d_va_divide_118 ?_
    replace h := bs h
    obtain ⟨w27, hw27, h⟩ := h
    refine cv_va_82 (As := [.long y3, .long y5, .long x26]) (rest := []) hx hb hml hown hts hK hG hW (c_va_takeQuotients l D cA base hw27) (kb_va_takeQuotients hw27) ⟨Nat.le_of_ble_eq_true rfl, Nat.le_of_ble_eq_true rfl⟩ ⟨Nat.le_of_ble_eq_true rfl, Nat.le_of_ble_eq_true rfl⟩ rfl hl.1 rfl (Nat.le_of_ble_eq_true rfl) d_va_divide_121 (fun H locs hW => ?_)
    exact j_va_divide_124 C y0 y2 w27 h _ _ _ hW (lv_sub hl [0, 2] rfl)
set_option maxHeartbeats 4000000 in
set_option maxRecDepth 100000 in
theorem j_va_divide_26 {p : Program} {l : Launch} {e : Env} {s : State} {m : MethodId} {args : Array Value} {below : List Frame} {meth : Method} {c : Code} {D : va_G} {cA : Nat → ClassId} {base : Nat} {r : Int32} {w' : WW} (C : cx b_va_divide (some .boolean) 7 y_va_divide.cls "divide" p s m args meth c D cA base)   : ∀ (y0 : Nat) (y1 : Nat) (z0 : Int32) (w : WW), f_va_divide_26 y0 y1 z0 w = some (r, w') → ∀ (H : Heap) (locs : List Loc) (ls : Array Slot), wo_S D cls cA base s w H locs → lv_has ls 7 [(0, .ref (base + y0)), (1, .ref (base + y1))] → W p l e rm_va_divide s m args below meth c H locs 0 0 (MQ below (wo_Q D cls cA base (some (.int r)) w') args s rm_va_divide.cells rm_va_divide.slots (wo_B base)) (F0 m 26 ls [.int z0]) := by
  obtain ⟨hx, hb, hr, hml, hown, hts, hlk, hnm, hK, hG⟩ := id C
  intro y0 y1 z0 w h H locs ls hW hl
  unfold f_va_divide_26 at h
  refine lv_istore_n (lv' := [(2, .int z0), (0, .ref (base + y0)), (1, .ref (base + y1))]) hx hb d_va_divide_26 rfl hl (by decide) rfl (fun ls hl => ?_)
  refine lv_aload_n hx hb d_va_divide_27 rfl (lv_at hl 1 rfl) ?_
  replace h := bs h
  obtain ⟨x3, hx3, h⟩ := h
  refine gf_va_15 hx hb hts hown hK hG hW (gL_s hx3) d_va_divide_28 ?_
  refine lv_lstore_n (lv' := [(3, .long x3), (2, .int z0), (0, .ref (base + y0)), (1, .ref (base + y1))]) hx hb d_va_divide_31 rfl hl (by decide) rfl (fun ls hl => ?_)
  refine lv_aload_n hx hb d_va_divide_32 rfl (lv_at hl 2 rfl) ?_
  replace h := bs h
  obtain ⟨x4, hx4, h⟩ := h
  refine gf_va_19 hx hb hts hown hK hG hW (gL_s hx4) d_va_divide_33 ?_
  refine lv_lstore (lv' := [(5, .long x4), (3, .long x3), (2, .int z0), (0, .ref (base + y0)), (1, .ref (base + y1))]) hx hb d_va_divide_36 hl (by decide) rfl (fun ls hl => ?_)
  refine lv_aload_n hx hb d_va_divide_38 rfl (lv_at hl 3 rfl) ?_
  refine lv_ldc2 (own := Rc_va) (v := (9223372036854775807 : Int64)) hx hb hown (hts (.constantLong "AlarmForge$Value" 78 (9223372036854775807 : Int64)) (gt_of (i := 993) (by decide +kernel) (by decide +kernel))) d_va_divide_39 ?_
  replace h := bs h
  obtain ⟨w5, hw5, h⟩ := h
  refine pf_va_15 hx hb hts hown hK hG hW rfl rfl (pbi hw5 rfl) d_va_divide_42 (fun H locs hW => ?_)
  refine lv_aload_n hx hb d_va_divide_45 rfl (lv_at hl 3 rfl) ?_
  refine lv_ldc2 (own := Rc_va) (v := (-9223372036854775808 : Int64)) hx hb hown (hts (.constantLong "AlarmForge$Value" 80 (-9223372036854775808 : Int64)) (gt_of (i := 994) (by decide +kernel) (by decide +kernel))) d_va_divide_46 ?_
  replace h := bs h
  obtain ⟨w6, hw6, h⟩ := h
  refine pf_va_19 hx hb hts hown hK hG hW rfl rfl (pbi hw6 rfl) d_va_divide_49 (fun H locs hW => ?_)
  refine lv_aload_n hx hb d_va_divide_52 rfl (lv_at hl 4 rfl) ?_
  replace h := bs h
  obtain ⟨x7, hx7, h⟩ := h
  refine gf_va_15 hx hb hts hown hK hG hW (gL_s hx7) d_va_divide_53 ?_
  refine lv_lconst (v := (0 : Int64)) hx hb d_va_divide_56 (by decide) ?_
  refine lc_ge (tgt := 89) hx hb d_va_divide_57 d_va_divide_58 (by decide) (fun c8 => ?_) (fun c8 => ?_)
  · rw [if_pos c8] at h
    exact j_va_divide_89 C y0 y1 z0 x3 x4 w6 h _ _ _ hW (lv_sub hl [3, 4, 2, 1, 0] rfl)
  · rw [if_neg c8] at h
    refine lv_aload_n hx hb d_va_divide_61 rfl (lv_at hl 3 rfl) ?_
    refine lv_lload_n hx hb d_va_divide_62 rfl (lv_at hl 1 rfl) ?_
    refine lv_lload hx hb d_va_divide_63 (lv_at hl 0 rfl) ?_
    refine lv_aload_n hx hb d_va_divide_65 rfl (lv_at hl 4 rfl) ?_
    replace h := bs h
    obtain ⟨x28, hx28, h⟩ := h
    refine gf_va_15 hx hb hts hown hK hG hW (gL_s hx28) d_va_divide_66 ?_
    replace h := bs h
    obtain ⟨w29, hw29, h⟩ := h
    refine cv_va_82 (As := [.long x3, .long x4, .long x28]) (rest := []) hx hb hml hown hts hK hG hW (c_va_takeQuotients l D cA base hw29) (kb_va_takeQuotients hw29) ⟨Nat.le_of_ble_eq_true rfl, Nat.le_of_ble_eq_true rfl⟩ ⟨Nat.le_of_ble_eq_true rfl, Nat.le_of_ble_eq_true rfl⟩ rfl hl.1 rfl (Nat.le_of_ble_eq_true rfl) d_va_divide_69 (fun H locs hW => ?_)
    refine lv_aload_n hx hb d_va_divide_72 rfl (lv_at hl 3 rfl) ?_
    refine lv_lload_n hx hb d_va_divide_73 rfl (lv_at hl 1 rfl) ?_
    refine lv_lload hx hb d_va_divide_74 (lv_at hl 0 rfl) ?_
    refine lv_aload_n hx hb d_va_divide_76 rfl (lv_at hl 4 rfl) ?_
    replace h := bs h
    obtain ⟨x30, hx30, h⟩ := h
    refine gf_va_19 hx hb hts hown hK hG hW (gL_s hx30) d_va_divide_77 ?_
    refine lv_ldc2 (own := Rc_va) (v := (-1 : Int64)) hx hb hown (hts (.constantLong "AlarmForge$Value" 74 (-1 : Int64)) (gt_of (i := 991) (by decide +kernel) (by decide +kernel))) d_va_divide_80 ?_
    replace h := bs2 h
    obtain ⟨x32, w31, hw31, h⟩ := h
    refine cs_va_47 (As := [.long x30, .long (-1 : Int64)]) (rest := [.long x4, .long x3, .ref (base + y0)]) hx hb hml hown hts hK hG hW (c_ma_min_JJ l D cA base hw31) ⟨Nat.le_of_ble_eq_true rfl, Nat.le_of_ble_eq_true rfl⟩ ⟨Nat.le_of_ble_eq_true rfl, Nat.le_of_ble_eq_true rfl⟩ rfl hl.1 rfl (Nat.le_of_ble_eq_true rfl) d_va_divide_83 (fun H locs hW => ?_)
    replace h := bs h
    obtain ⟨w33, hw33, h⟩ := h
    refine cv_va_82 (As := [.long x3, .long x4, .long x32]) (rest := []) hx hb hml hown hts hK hG hW (c_va_takeQuotients l D cA base hw33) (kb_va_takeQuotients hw33) ⟨Nat.le_of_ble_eq_true rfl, Nat.le_of_ble_eq_true rfl⟩ ⟨Nat.le_of_ble_eq_true rfl, Nat.le_of_ble_eq_true rfl⟩ rfl hl.1 rfl (Nat.le_of_ble_eq_true rfl) d_va_divide_86 (fun H locs hW => ?_)
    exact j_va_divide_89 C y0 y1 z0 x3 x4 w33 h _ _ _ hW (lv_sub hl [3, 4, 2, 1, 0] rfl)
set_option maxHeartbeats 4000000 in
set_option maxRecDepth 100000 in
theorem j_va_divide_25 {p : Program} {l : Launch} {e : Env} {s : State} {m : MethodId} {args : Array Value} {below : List Frame} {meth : Method} {c : Code} {D : va_G} {cA : Nat → ClassId} {base : Nat} {r : Int32} {w' : WW} (C : cx b_va_divide (some .boolean) 7 y_va_divide.cls "divide" p s m args meth c D cA base)   : ∀ (y0 : Nat) (y1 : Nat) (w : WW), f_va_divide_25 y0 y1 w = some (r, w') → ∀ (H : Heap) (locs : List Loc) (ls : Array Slot), wo_S D cls cA base s w H locs → lv_has ls 7 [(0, .ref (base + y0)), (1, .ref (base + y1))] → W p l e rm_va_divide s m args below meth c H locs 0 0 (MQ below (wo_Q D cls cA base (some (.int r)) w') args s rm_va_divide.cells rm_va_divide.slots (wo_B base)) (F0 m 25 ls []) := by
  obtain ⟨hx, hb, hr, hml, hown, hts, hlk, hnm, hK, hG⟩ := id C
  intro y0 y1 w h H locs ls hW hl
  unfold f_va_divide_25 at h
  refine lv_iconst (v := (0 : Int32)) hx hb d_va_divide_25 (by decide) ?_
  exact j_va_divide_26 C y0 y1 (0 : Int32) w h _ _ _ hW (lv_sub hl [0, 1] rfl)
set_option maxHeartbeats 4000000 in
set_option maxRecDepth 100000 in
theorem c_va_divide (l : Launch) (D : va_G) (cA : Nat → ClassId) (base : Nat) {a0 : Nat} {a1 : Nat} {w w' : WW} {r : Int32} (h : f_va_divide a0 a1 w = some (r, w')) : mt l D cls (wo_tys cA) cA base y_va_divide (Cond.code y_va_divide b_va_divide 7 (some .boolean) :: gt) rm_va_divide [.ref (base + a0), .ref (base + a1)] w (some (.int r)) w' rm_va_divide.cells rm_va_divide.slots := by
  refine mt_start (by decide) (Nat.le_of_ble_eq_true rfl) ?_
  intro p e s m below meth c ls hx hb hr hml hown hts hlk hnm hK hG hW hl
  have C : cx b_va_divide (some .boolean) 7 y_va_divide.cls "divide" p s m [.ref (base + a0), .ref (base + a1)].toArray meth c D cA base := ⟨hx, hb, hr, hml, hown, hts, hlk, hnm, hK, hG⟩
  have hl : lv_has ls 7 [(0, .ref (base + a0)), (1, .ref (base + a1))] := hl
  unfold f_va_divide at h
  replace h := its h
  obtain ⟨-, h⟩ := h
  refine lv_aload_n hx hb d_va_divide_0 rfl (lv_at hl 0 rfl) ?_
  replace h := bs h
  obtain ⟨x1, hx1, h⟩ := h
  refine gf_va_15 hx hb hts hown hK hG hW (gL_s hx1) d_va_divide_1 ?_
  refine lv_ldc2 (own := Rc_va) (v := (-2147483648 : Int64)) hx hb hown (hts (.constantLong "AlarmForge$Value" 28 (-2147483648 : Int64)) (gt_of (i := 972) (by decide +kernel) (by decide +kernel))) d_va_divide_4 ?_
  refine lc_ne (tgt := 25) hx hb d_va_divide_7 d_va_divide_8 (by decide) (fun c2 => ?_) (fun c2 => ?_)
  · rw [if_neg c2] at h
    exact j_va_divide_25 C a0 a1 w h _ _ _ hW (lv_sub hl [0, 1] rfl)
  · rw [if_pos c2] at h
    refine lv_aload_n hx hb d_va_divide_11 rfl (lv_at hl 1 rfl) ?_
    refine lv_ldc2 (own := Rc_va) (v := (-1 : Int64)) hx hb hown (hts (.constantLong "AlarmForge$Value" 74 (-1 : Int64)) (gt_of (i := 991) (by decide +kernel) (by decide +kernel))) d_va_divide_12 ?_
    replace h := bs2 h
    obtain ⟨x35, w34, hw34, h⟩ := h
    refine cv_va_70 (As := [.long (-1 : Int64)]) (rest := []) hx hb hml hown hts hK hG hW (c_va_has l D cA base hw34) (kb_va_has hw34) ⟨Nat.le_of_ble_eq_true rfl, Nat.le_of_ble_eq_true rfl⟩ ⟨Nat.le_of_ble_eq_true rfl, Nat.le_of_ble_eq_true rfl⟩ rfl hl.1 rfl (Nat.le_of_ble_eq_true rfl) d_va_divide_15 (fun H locs hW => ?_)
    refine lv_if_eq (tgt := 25) hx hb d_va_divide_18 (by decide) (fun c36 => ?_) (fun c36 => ?_)
    · rw [if_pos c36] at h
      exact j_va_divide_25 C a0 a1 w34 h _ _ _ hW (lv_sub hl [0, 1] rfl)
    · rw [if_neg c36] at h
      refine lv_iconst (v := (1 : Int32)) hx hb d_va_divide_21 (by decide) ?_
      refine lv_goto (tgt := 26) hx hb d_va_divide_22 (by decide) ?_
      exact j_va_divide_26 C a0 a1 (1 : Int32) w34 h _ _ _ hW (lv_sub hl [0, 1] rfl)
theorem cv_va_86 {p : Program} {l : Launch} {e : Env} {R : Room} {s : State} {m : MethodId} {args : Array Value} {below : List Frame} {meth : Method} {c : Code} {H : Heap} {locs : List Loc} {cells slots : Nat} {Q : State → Prop} {D : va_G} {cA : Nat → ClassId} {base : Nat} {w w' : WW} {cc : ByteArray} {pc nL : Nat} {ls : Array Slot} {rest st0 As : List Value} {ov : Option Value} {b : Nat} (hx : p.tables.exec = Jvm.exec) (hb : c.code = cc) (hml : c.maxLocals = nL) (hown : s.vm.findClass Rc_va = some m.cls) (hts : ∀ w ∈ gt, w.before args s = true) (hK : va_K D cls (wo_tys cA) s) (hG : wo_G cA base s) (hW : wo_S D cls cA base s w H locs) (hM : mt l D cls (wo_tys cA) cA base y_va_setOne (Cond.code y_va_setOne b_va_setOne 3 (none) :: gt) rm_va_setOne (.ref (base + b) :: As) w ov w' rm_va_setOne.cells rm_va_setOne.slots) (hkb : kb w b 8 = true) (hR : rm_va_setOne.frames + 1 ≤ R.frames ∧ 8 + (3 + 11) + rm_va_setOne.locals ≤ R.locals) (hf : cells + rm_va_setOne.cells ≤ R.cells ∧ slots + rm_va_setOne.slots ≤ R.slots) (hn : As.length = 1) (hsz : ls.size = nL) (hst : st0 = As.reverse ++ .ref (base + b) :: rest) (hcat : (rest.map fun v => v.category).sum ≤ 8) (hdg : decode cc pc = .ok (.invokevirtual 86, 3)) (kk : ∀ (H1 : Heap) (locs1 : List Loc), wo_S D cls cA base s w' H1 locs1 → W p l e R s m args below meth c H1 locs1 (cells + rm_va_setOne.cells) (slots + rm_va_setOne.slots) Q (F0 m (pc + 3) ls (ov.toList ++ rest))) : W p l e R s m args below meth c H locs cells slots Q (F0 m pc ls st0) :=
  wo_callV (C := Rc_va) hx hb hml hown hts hK hG hW hM hkb rfl (gt_of (i := 1003) (by decide +kernel) (by decide +kernel)) (gt_of (i := 902) (by decide +kernel) (by decide +kernel)) (gt_of (i := 903) (by decide +kernel) (by decide +kernel)) (gt_of (i := 9) (by decide +kernel) (by decide +kernel)) (gt_of (i := 904) (by decide +kernel) (by decide +kernel)) (by decide +kernel) hR hf hn hsz hst hcat hdg kk
abbrev b_va_remainder : ByteArray := prog_9_method_24_code
def y_va_remainder : MethodName := ⟨"AlarmForge$Value", "remainder", "(LAlarmForge$Value;)V"⟩
def rm_va_remainder : Room := { frames := 2, cells := 0, slots := 0, locals := 46 }
theorem d_va_remainder_0 : decode b_va_remainder 0 = .ok (.aload_n 1, 1) := by decide +kernel
theorem d_va_remainder_1 : decode b_va_remainder 1 = .ok (.getfield 15, 3) := by decide +kernel
theorem d_va_remainder_4 : decode b_va_remainder 4 = .ok (.lconst 0, 1) := by decide +kernel
theorem d_va_remainder_5 : decode b_va_remainder 5 = .ok (.lcmp, 1) := by decide +kernel
theorem d_va_remainder_6 : decode b_va_remainder 6 = .ok (.ifCond .ne (18), 3) := by decide +kernel
theorem d_va_remainder_9 : decode b_va_remainder 9 = .ok (.aload_n 1, 1) := by decide +kernel
theorem d_va_remainder_10 : decode b_va_remainder 10 = .ok (.getfield 19, 3) := by decide +kernel
theorem d_va_remainder_13 : decode b_va_remainder 13 = .ok (.lconst 0, 1) := by decide +kernel
theorem d_va_remainder_14 : decode b_va_remainder 14 = .ok (.lcmp, 1) := by decide +kernel
theorem d_va_remainder_15 : decode b_va_remainder 15 = .ok (.ifCond .ne (9), 3) := by decide +kernel
theorem d_va_remainder_18 : decode b_va_remainder 18 = .ok (.aload_n 0, 1) := by decide +kernel
theorem d_va_remainder_19 : decode b_va_remainder 19 = .ok (.iconst 1, 1) := by decide +kernel
theorem d_va_remainder_20 : decode b_va_remainder 20 = .ok (.putfield 9, 3) := by decide +kernel
theorem d_va_remainder_23 : decode b_va_remainder 23 = .ok (.return_, 1) := by decide +kernel
theorem d_va_remainder_24 : decode b_va_remainder 24 = .ok (.aload_n 0, 1) := by decide +kernel
theorem d_va_remainder_25 : decode b_va_remainder 25 = .ok (.getfield 22, 3) := by decide +kernel
theorem d_va_remainder_28 : decode b_va_remainder 28 = .ok (.lconst 0, 1) := by decide +kernel
theorem d_va_remainder_29 : decode b_va_remainder 29 = .ok (.lcmp, 1) := by decide +kernel
theorem d_va_remainder_30 : decode b_va_remainder 30 = .ok (.ifCond .ne (35), 3) := by decide +kernel
theorem d_va_remainder_33 : decode b_va_remainder 33 = .ok (.aload_n 1, 1) := by decide +kernel
theorem d_va_remainder_34 : decode b_va_remainder 34 = .ok (.getfield 22, 3) := by decide +kernel
theorem d_va_remainder_37 : decode b_va_remainder 37 = .ok (.lconst 0, 1) := by decide +kernel
theorem d_va_remainder_38 : decode b_va_remainder 38 = .ok (.lcmp, 1) := by decide +kernel
theorem d_va_remainder_39 : decode b_va_remainder 39 = .ok (.ifCond .ne (26), 3) := by decide +kernel
theorem d_va_remainder_42 : decode b_va_remainder 42 = .ok (.aload_n 1, 1) := by decide +kernel
theorem d_va_remainder_43 : decode b_va_remainder 43 = .ok (.getfield 25, 3) := by decide +kernel
theorem d_va_remainder_46 : decode b_va_remainder 46 = .ok (.lconst 0, 1) := by decide +kernel
theorem d_va_remainder_47 : decode b_va_remainder 47 = .ok (.lcmp, 1) := by decide +kernel
theorem d_va_remainder_48 : decode b_va_remainder 48 = .ok (.ifCond .eq (17), 3) := by decide +kernel
theorem d_va_remainder_51 : decode b_va_remainder 51 = .ok (.aload_n 0, 1) := by decide +kernel
theorem d_va_remainder_52 : decode b_va_remainder 52 = .ok (.aload_n 0, 1) := by decide +kernel
theorem d_va_remainder_53 : decode b_va_remainder 53 = .ok (.getfield 25, 3) := by decide +kernel
theorem d_va_remainder_56 : decode b_va_remainder 56 = .ok (.aload_n 1, 1) := by decide +kernel
theorem d_va_remainder_57 : decode b_va_remainder 57 = .ok (.getfield 25, 3) := by decide +kernel
theorem d_va_remainder_60 : decode b_va_remainder 60 = .ok (.lrem, 1) := by decide +kernel
theorem d_va_remainder_61 : decode b_va_remainder 61 = .ok (.invokevirtual 86, 3) := by decide +kernel
theorem d_va_remainder_64 : decode b_va_remainder 64 = .ok (.return_, 1) := by decide +kernel
theorem d_va_remainder_65 : decode b_va_remainder 65 = .ok (.aload_n 1, 1) := by decide +kernel
theorem d_va_remainder_66 : decode b_va_remainder 66 = .ok (.getfield 15, 3) := by decide +kernel
theorem d_va_remainder_69 : decode b_va_remainder 69 = .ok (.invokestatic 40, 3) := by decide +kernel
theorem d_va_remainder_72 : decode b_va_remainder 72 = .ok (.aload_n 1, 1) := by decide +kernel
theorem d_va_remainder_73 : decode b_va_remainder 73 = .ok (.getfield 19, 3) := by decide +kernel
theorem d_va_remainder_76 : decode b_va_remainder 76 = .ok (.invokestatic 40, 3) := by decide +kernel
theorem d_va_remainder_79 : decode b_va_remainder 79 = .ok (.invokestatic 44, 3) := by decide +kernel
theorem d_va_remainder_82 : decode b_va_remainder 82 = .ok (.lconst 1, 1) := by decide +kernel
theorem d_va_remainder_83 : decode b_va_remainder 83 = .ok (.lsub, 1) := by decide +kernel
theorem d_va_remainder_84 : decode b_va_remainder 84 = .ok (.lstore_n 2, 1) := by decide +kernel
theorem d_va_remainder_85 : decode b_va_remainder 85 = .ok (.aload_n 0, 1) := by decide +kernel
theorem d_va_remainder_86 : decode b_va_remainder 86 = .ok (.aload_n 0, 1) := by decide +kernel
theorem d_va_remainder_87 : decode b_va_remainder 87 = .ok (.getfield 15, 3) := by decide +kernel
theorem d_va_remainder_90 : decode b_va_remainder 90 = .ok (.lconst 0, 1) := by decide +kernel
theorem d_va_remainder_91 : decode b_va_remainder 91 = .ok (.invokestatic 47, 3) := by decide +kernel
theorem d_va_remainder_94 : decode b_va_remainder 94 = .ok (.lload_n 2, 1) := by decide +kernel
theorem d_va_remainder_95 : decode b_va_remainder 95 = .ok (.lneg, 1) := by decide +kernel
theorem d_va_remainder_96 : decode b_va_remainder 96 = .ok (.invokestatic 44, 3) := by decide +kernel
theorem d_va_remainder_99 : decode b_va_remainder 99 = .ok (.putfield 15, 3) := by decide +kernel
theorem d_va_remainder_102 : decode b_va_remainder 102 = .ok (.aload_n 0, 1) := by decide +kernel
theorem d_va_remainder_103 : decode b_va_remainder 103 = .ok (.aload_n 0, 1) := by decide +kernel
theorem d_va_remainder_104 : decode b_va_remainder 104 = .ok (.getfield 19, 3) := by decide +kernel
theorem d_va_remainder_107 : decode b_va_remainder 107 = .ok (.lconst 0, 1) := by decide +kernel
theorem d_va_remainder_108 : decode b_va_remainder 108 = .ok (.invokestatic 44, 3) := by decide +kernel
theorem d_va_remainder_111 : decode b_va_remainder 111 = .ok (.lload_n 2, 1) := by decide +kernel
theorem d_va_remainder_112 : decode b_va_remainder 112 = .ok (.invokestatic 47, 3) := by decide +kernel
theorem d_va_remainder_115 : decode b_va_remainder 115 = .ok (.putfield 19, 3) := by decide +kernel
theorem d_va_remainder_118 : decode b_va_remainder 118 = .ok (.aload_n 0, 1) := by decide +kernel
theorem d_va_remainder_119 : decode b_va_remainder 119 = .ok (.lconst 1, 1) := by decide +kernel
theorem d_va_remainder_120 : decode b_va_remainder 120 = .ok (.putfield 22, 3) := by decide +kernel
theorem d_va_remainder_123 : decode b_va_remainder 123 = .ok (.aload_n 0, 1) := by decide +kernel
theorem d_va_remainder_124 : decode b_va_remainder 124 = .ok (.lconst 0, 1) := by decide +kernel
theorem d_va_remainder_125 : decode b_va_remainder 125 = .ok (.putfield 25, 3) := by decide +kernel
theorem d_va_remainder_128 : decode b_va_remainder 128 = .ok (.aload_n 0, 1) := by decide +kernel
theorem d_va_remainder_129 : decode b_va_remainder 129 = .ok (.invokevirtual 62, 3) := by decide +kernel
theorem d_va_remainder_132 : decode b_va_remainder 132 = .ok (.pop, 1) := by decide +kernel
theorem d_va_remainder_133 : decode b_va_remainder 133 = .ok (.return_, 1) := by decide +kernel
theorem kb_va_remainder {a0 a1 : Nat}  {w : WW} {r : WW} (h : f_va_remainder a0 a1 w = some r) : kb w a0 8 = true := (its h).1
set_option maxHeartbeats 4000000 in
set_option maxRecDepth 100000 in
theorem j_va_remainder_65 {p : Program} {l : Launch} {e : Env} {s : State} {m : MethodId} {args : Array Value} {below : List Frame} {meth : Method} {c : Code} {D : va_G} {cA : Nat → ClassId} {base : Nat} {w' : WW} (C : cx b_va_remainder (none) 4 y_va_remainder.cls "remainder" p s m args meth c D cA base)   : ∀ (y0 : Nat) (y1 : Nat) (w : WW), f_va_remainder_65 y0 y1 w = some w' → ∀ (H : Heap) (locs : List Loc) (ls : Array Slot), wo_S D cls cA base s w H locs → lv_has ls 4 [(0, .ref (base + y0)), (1, .ref (base + y1))] → W p l e rm_va_remainder s m args below meth c H locs 0 0 (MQ below (wo_Q D cls cA base none w') args s rm_va_remainder.cells rm_va_remainder.slots (wo_B base)) (F0 m 65 ls []) := by
  obtain ⟨hx, hb, hr, hml, hown, hts, hlk, hnm, hK, hG⟩ := id C
  intro y0 y1 w h H locs ls hW hl
  unfold f_va_remainder_65 at h
  refine lv_aload_n hx hb d_va_remainder_65 rfl (lv_at hl 1 rfl) ?_
  replace h := bs h
  obtain ⟨x5, hx5, h⟩ := h
  refine gf_va_15 hx hb hts hown hK hG hW (gL_s hx5) d_va_remainder_66 ?_
  replace h := bs2 h
  obtain ⟨x7, w6, hw6, h⟩ := h
  refine cs_va_40 (As := [.long x5]) (rest := []) hx hb hml hown hts hK hG hW (c_ma_abs l D cA base hw6) ⟨Nat.le_of_ble_eq_true rfl, Nat.le_of_ble_eq_true rfl⟩ ⟨Nat.le_of_ble_eq_true rfl, Nat.le_of_ble_eq_true rfl⟩ rfl hl.1 rfl (Nat.le_of_ble_eq_true rfl) d_va_remainder_69 (fun H locs hW => ?_)
  refine lv_aload_n hx hb d_va_remainder_72 rfl (lv_at hl 1 rfl) ?_
  replace h := bs h
  obtain ⟨x8, hx8, h⟩ := h
  refine gf_va_19 hx hb hts hown hK hG hW (gL_s hx8) d_va_remainder_73 ?_
  replace h := bs2 h
  obtain ⟨x10, w9, hw9, h⟩ := h
  refine cs_va_40 (As := [.long x8]) (rest := [.long x7]) hx hb hml hown hts hK hG hW (c_ma_abs l D cA base hw9) ⟨Nat.le_of_ble_eq_true rfl, Nat.le_of_ble_eq_true rfl⟩ ⟨Nat.le_of_ble_eq_true rfl, Nat.le_of_ble_eq_true rfl⟩ rfl hl.1 rfl (Nat.le_of_ble_eq_true rfl) d_va_remainder_76 (fun H locs hW => ?_)
  replace h := bs2 h
  obtain ⟨x12, w11, hw11, h⟩ := h
  refine cs_va_44 (As := [.long x7, .long x10]) (rest := []) hx hb hml hown hts hK hG hW (c_ma_max_JJ l D cA base hw11) ⟨Nat.le_of_ble_eq_true rfl, Nat.le_of_ble_eq_true rfl⟩ ⟨Nat.le_of_ble_eq_true rfl, Nat.le_of_ble_eq_true rfl⟩ rfl hl.1 rfl (Nat.le_of_ble_eq_true rfl) d_va_remainder_79 (fun H locs hW => ?_)
  refine lv_lconst (v := (1 : Int64)) hx hb d_va_remainder_82 (by decide) ?_
  refine lv_lsub hx hb d_va_remainder_83 ?_
  refine lv_lstore_n (lv' := [(2, .long (x12 - (1 : Int64))), (0, .ref (base + y0)), (1, .ref (base + y1))]) hx hb d_va_remainder_84 rfl hl (by decide) rfl (fun ls hl => ?_)
  refine lv_aload_n hx hb d_va_remainder_85 rfl (lv_at hl 1 rfl) ?_
  refine lv_aload_n hx hb d_va_remainder_86 rfl (lv_at hl 1 rfl) ?_
  replace h := bs h
  obtain ⟨x13, hx13, h⟩ := h
  refine gf_va_15 hx hb hts hown hK hG hW (gL_s hx13) d_va_remainder_87 ?_
  refine lv_lconst (v := (0 : Int64)) hx hb d_va_remainder_90 (by decide) ?_
  replace h := bs2 h
  obtain ⟨x15, w14, hw14, h⟩ := h
  refine cs_va_47 (As := [.long x13, .long (0 : Int64)]) (rest := [.ref (base + y0)]) hx hb hml hown hts hK hG hW (c_ma_min_JJ l D cA base hw14) ⟨Nat.le_of_ble_eq_true rfl, Nat.le_of_ble_eq_true rfl⟩ ⟨Nat.le_of_ble_eq_true rfl, Nat.le_of_ble_eq_true rfl⟩ rfl hl.1 rfl (Nat.le_of_ble_eq_true rfl) d_va_remainder_91 (fun H locs hW => ?_)
  refine lv_lload_n hx hb d_va_remainder_94 rfl (lv_at hl 0 rfl) ?_
  refine lv_lneg hx hb d_va_remainder_95 ?_
  replace h := bs2 h
  obtain ⟨x17, w16, hw16, h⟩ := h
  refine cs_va_44 (As := [.long x15, .long (-(x12 - (1 : Int64)))]) (rest := [.ref (base + y0)]) hx hb hml hown hts hK hG hW (c_ma_max_JJ l D cA base hw16) ⟨Nat.le_of_ble_eq_true rfl, Nat.le_of_ble_eq_true rfl⟩ ⟨Nat.le_of_ble_eq_true rfl, Nat.le_of_ble_eq_true rfl⟩ rfl hl.1 rfl (Nat.le_of_ble_eq_true rfl) d_va_remainder_96 (fun H locs hW => ?_)
  replace h := bs h
  obtain ⟨w18, hw18, h⟩ := h
  refine pf_va_15 hx hb hts hown hK hG hW rfl rfl (pbi hw18 rfl) d_va_remainder_99 (fun H locs hW => ?_)
  refine lv_aload_n hx hb d_va_remainder_102 rfl (lv_at hl 1 rfl) ?_
  refine lv_aload_n hx hb d_va_remainder_103 rfl (lv_at hl 1 rfl) ?_
  replace h := bs h
  obtain ⟨x19, hx19, h⟩ := h
  refine gf_va_19 hx hb hts hown hK hG hW (gL_s hx19) d_va_remainder_104 ?_
  refine lv_lconst (v := (0 : Int64)) hx hb d_va_remainder_107 (by decide) ?_
  replace h := bs2 h
  obtain ⟨x21, w20, hw20, h⟩ := h
  refine cs_va_44 (As := [.long x19, .long (0 : Int64)]) (rest := [.ref (base + y0)]) hx hb hml hown hts hK hG hW (c_ma_max_JJ l D cA base hw20) ⟨Nat.le_of_ble_eq_true rfl, Nat.le_of_ble_eq_true rfl⟩ ⟨Nat.le_of_ble_eq_true rfl, Nat.le_of_ble_eq_true rfl⟩ rfl hl.1 rfl (Nat.le_of_ble_eq_true rfl) d_va_remainder_108 (fun H locs hW => ?_)
  refine lv_lload_n hx hb d_va_remainder_111 rfl (lv_at hl 0 rfl) ?_
  replace h := bs2 h
  obtain ⟨x23, w22, hw22, h⟩ := h
  refine cs_va_47 (As := [.long x21, .long (x12 - (1 : Int64))]) (rest := [.ref (base + y0)]) hx hb hml hown hts hK hG hW (c_ma_min_JJ l D cA base hw22) ⟨Nat.le_of_ble_eq_true rfl, Nat.le_of_ble_eq_true rfl⟩ ⟨Nat.le_of_ble_eq_true rfl, Nat.le_of_ble_eq_true rfl⟩ rfl hl.1 rfl (Nat.le_of_ble_eq_true rfl) d_va_remainder_112 (fun H locs hW => ?_)
  replace h := bs h
  obtain ⟨w24, hw24, h⟩ := h
  refine pf_va_19 hx hb hts hown hK hG hW rfl rfl (pbi hw24 rfl) d_va_remainder_115 (fun H locs hW => ?_)
  refine lv_aload_n hx hb d_va_remainder_118 rfl (lv_at hl 1 rfl) ?_
  refine lv_lconst (v := (1 : Int64)) hx hb d_va_remainder_119 (by decide) ?_
  replace h := bs h
  obtain ⟨w25, hw25, h⟩ := h
  refine pf_va_22 hx hb hts hown hK hG hW rfl rfl (pbi hw25 rfl) d_va_remainder_120 (fun H locs hW => ?_)
  refine lv_aload_n hx hb d_va_remainder_123 rfl (lv_at hl 1 rfl) ?_
  refine lv_lconst (v := (0 : Int64)) hx hb d_va_remainder_124 (by decide) ?_
  replace h := bs h
  obtain ⟨w26, hw26, h⟩ := h
  refine pf_va_25 hx hb hts hown hK hG hW rfl rfl (pbi hw26 rfl) d_va_remainder_125 (fun H locs hW => ?_)
  refine lv_aload_n hx hb d_va_remainder_128 rfl (lv_at hl 1 rfl) ?_
  replace h := bs2 h
  obtain ⟨x28, w27, hw27, h⟩ := h
  refine cv_va_62 (As := []) (rest := []) hx hb hml hown hts hK hG hW (c_va_putTight l D cA base hw27) (kb_va_putTight hw27) ⟨Nat.le_of_ble_eq_true rfl, Nat.le_of_ble_eq_true rfl⟩ ⟨Nat.le_of_ble_eq_true rfl, Nat.le_of_ble_eq_true rfl⟩ rfl hl.1 rfl (Nat.le_of_ble_eq_true rfl) d_va_remainder_129 (fun H locs hW => ?_)
  refine lv_pop hx hb d_va_remainder_132 rfl ?_
  cases h
  exact wo_vret hx hb hr hlk hW d_va_remainder_133
set_option maxHeartbeats 4000000 in
set_option maxRecDepth 100000 in
theorem j_va_remainder_24 {p : Program} {l : Launch} {e : Env} {s : State} {m : MethodId} {args : Array Value} {below : List Frame} {meth : Method} {c : Code} {D : va_G} {cA : Nat → ClassId} {base : Nat} {w' : WW} (C : cx b_va_remainder (none) 4 y_va_remainder.cls "remainder" p s m args meth c D cA base)   : ∀ (y0 : Nat) (y1 : Nat) (w : WW), f_va_remainder_24 y0 y1 w = some w' → ∀ (H : Heap) (locs : List Loc) (ls : Array Slot), wo_S D cls cA base s w H locs → lv_has ls 4 [(0, .ref (base + y0)), (1, .ref (base + y1))] → W p l e rm_va_remainder s m args below meth c H locs 0 0 (MQ below (wo_Q D cls cA base none w') args s rm_va_remainder.cells rm_va_remainder.slots (wo_B base)) (F0 m 24 ls []) := by
  obtain ⟨hx, hb, hr, hml, hown, hts, hlk, hnm, hK, hG⟩ := id C
  intro y0 y1 w h H locs ls hW hl
  unfold f_va_remainder_24 at h
  refine lv_aload_n hx hb d_va_remainder_24 rfl (lv_at hl 0 rfl) ?_
  replace h := bs h
  obtain ⟨x3, hx3, h⟩ := h
  refine gf_va_22 hx hb hts hown hK hG hW (gL_s hx3) d_va_remainder_25 ?_
  refine lv_lconst (v := (0 : Int64)) hx hb d_va_remainder_28 (by decide) ?_
  refine lc_ne (tgt := 65) hx hb d_va_remainder_29 d_va_remainder_30 (by decide) (fun c4 => ?_) (fun c4 => ?_)
  · rw [if_neg c4] at h
    exact j_va_remainder_65 C y0 y1 w h _ _ _ hW (lv_sub hl [0, 1] rfl)
  · rw [if_pos c4] at h
    refine lv_aload_n hx hb d_va_remainder_33 rfl (lv_at hl 1 rfl) ?_
    replace h := bs h
    obtain ⟨x29, hx29, h⟩ := h
    refine gf_va_22 hx hb hts hown hK hG hW (gL_s hx29) d_va_remainder_34 ?_
    refine lv_lconst (v := (0 : Int64)) hx hb d_va_remainder_37 (by decide) ?_
    refine lc_ne (tgt := 65) hx hb d_va_remainder_38 d_va_remainder_39 (by decide) (fun c30 => ?_) (fun c30 => ?_)
    · rw [if_neg c30] at h
      exact j_va_remainder_65 C y0 y1 w h _ _ _ hW (lv_sub hl [0, 1] rfl)
    · rw [if_pos c30] at h
      refine lv_aload_n hx hb d_va_remainder_42 rfl (lv_at hl 1 rfl) ?_
      replace h := bs h
      obtain ⟨x31, hx31, h⟩ := h
      refine gf_va_25 hx hb hts hown hK hG hW (gL_s hx31) d_va_remainder_43 ?_
      refine lv_lconst (v := (0 : Int64)) hx hb d_va_remainder_46 (by decide) ?_
      refine lc_eq (tgt := 65) hx hb d_va_remainder_47 d_va_remainder_48 (by decide) (fun c32 => ?_) (fun c32 => ?_)
      · rw [if_pos c32] at h
        exact j_va_remainder_65 C y0 y1 w h _ _ _ hW (lv_sub hl [0, 1] rfl)
      · rw [if_neg c32] at h
        refine lv_aload_n hx hb d_va_remainder_51 rfl (lv_at hl 0 rfl) ?_
        refine lv_aload_n hx hb d_va_remainder_52 rfl (lv_at hl 0 rfl) ?_
        replace h := bs h
        obtain ⟨x33, hx33, h⟩ := h
        refine gf_va_25 hx hb hts hown hK hG hW (gL_s hx33) d_va_remainder_53 ?_
        refine lv_aload_n hx hb d_va_remainder_56 rfl (lv_at hl 1 rfl) ?_
        replace h := bs h
        obtain ⟨x34, hx34, h⟩ := h
        refine gf_va_25 hx hb hts hown hK hG hW (gL_s hx34) d_va_remainder_57 ?_
        replace h := its h
        obtain ⟨c35, h⟩ := h
        refine lv_lrem hx hb d_va_remainder_60 c35 ?_
        replace h := bs h
        obtain ⟨w36, hw36, h⟩ := h
        refine cv_va_86 (As := [.long (x33 - x33 / x34 * x34)]) (rest := []) hx hb hml hown hts hK hG hW (c_va_setOne l D cA base hw36) (kb_va_setOne hw36) ⟨Nat.le_of_ble_eq_true rfl, Nat.le_of_ble_eq_true rfl⟩ ⟨Nat.le_of_ble_eq_true rfl, Nat.le_of_ble_eq_true rfl⟩ rfl hl.1 rfl (Nat.le_of_ble_eq_true rfl) d_va_remainder_61 (fun H locs hW => ?_)
        cases h
        exact wo_vret hx hb hr hlk hW d_va_remainder_64
set_option maxHeartbeats 4000000 in
set_option maxRecDepth 100000 in
theorem c_va_remainder (l : Launch) (D : va_G) (cA : Nat → ClassId) (base : Nat) {a0 : Nat} {a1 : Nat} {w w' : WW} (h : f_va_remainder a0 a1 w = some w') : mt l D cls (wo_tys cA) cA base y_va_remainder (Cond.code y_va_remainder b_va_remainder 4 (none) :: gt) rm_va_remainder [.ref (base + a0), .ref (base + a1)] w none w' rm_va_remainder.cells rm_va_remainder.slots := by
  refine mt_start (by decide) (Nat.le_of_ble_eq_true rfl) ?_
  intro p e s m below meth c ls hx hb hr hml hown hts hlk hnm hK hG hW hl
  have C : cx b_va_remainder (none) 4 y_va_remainder.cls "remainder" p s m [.ref (base + a0), .ref (base + a1)].toArray meth c D cA base := ⟨hx, hb, hr, hml, hown, hts, hlk, hnm, hK, hG⟩
  have hl : lv_has ls 4 [(0, .ref (base + a0)), (1, .ref (base + a1))] := hl
  unfold f_va_remainder at h
  replace h := its h
  obtain ⟨-, h⟩ := h
  refine lv_aload_n hx hb d_va_remainder_0 rfl (lv_at hl 1 rfl) ?_
  replace h := bs h
  obtain ⟨x1, hx1, h⟩ := h
  refine gf_va_15 hx hb hts hown hK hG hW (gL_s hx1) d_va_remainder_1 ?_
  refine lv_lconst (v := (0 : Int64)) hx hb d_va_remainder_4 (by decide) ?_
  refine lc_ne (tgt := 24) hx hb d_va_remainder_5 d_va_remainder_6 (by decide) (fun c2 => ?_) (fun c2 => ?_)
  · rw [if_neg c2] at h
    exact j_va_remainder_24 C a0 a1 w h _ _ _ hW (lv_sub hl [0, 1] rfl)
  · rw [if_pos c2] at h
    refine lv_aload_n hx hb d_va_remainder_9 rfl (lv_at hl 1 rfl) ?_
    replace h := bs h
    obtain ⟨x37, hx37, h⟩ := h
    refine gf_va_19 hx hb hts hown hK hG hW (gL_s hx37) d_va_remainder_10 ?_
    refine lv_lconst (v := (0 : Int64)) hx hb d_va_remainder_13 (by decide) ?_
    refine lc_ne (tgt := 24) hx hb d_va_remainder_14 d_va_remainder_15 (by decide) (fun c38 => ?_) (fun c38 => ?_)
    · rw [if_neg c38] at h
      exact j_va_remainder_24 C a0 a1 w h _ _ _ hW (lv_sub hl [0, 1] rfl)
    · rw [if_pos c38] at h
      refine lv_aload_n hx hb d_va_remainder_18 rfl (lv_at hl 0 rfl) ?_
      refine lv_iconst (v := (1 : Int32)) hx hb d_va_remainder_19 (by decide) ?_
      replace h := its h
      obtain ⟨c40, h⟩ := h
      replace h := bs h
      obtain ⟨w39, hw39, h⟩ := h
      refine pf_va_9 hx hb hts hown hK hG hW (z_n c40) (z_f c40) (pbi hw39 rfl) d_va_remainder_20 (fun H locs hW => ?_)
      cases h
      exact wo_vret hx hb hr hlk hW d_va_remainder_23
theorem cv_an_245 {p : Program} {l : Launch} {e : Env} {R : Room} {s : State} {m : MethodId} {args : Array Value} {below : List Frame} {meth : Method} {c : Code} {H : Heap} {locs : List Loc} {cells slots : Nat} {Q : State → Prop} {D : va_G} {cA : Nat → ClassId} {base : Nat} {w w' : WW} {cc : ByteArray} {pc nL : Nat} {ls : Array Slot} {rest st0 As : List Value} {ov : Option Value} {b : Nat} (hx : p.tables.exec = Jvm.exec) (hb : c.code = cc) (hml : c.maxLocals = nL) (hown : s.vm.findClass Rc_an = some m.cls) (hts : ∀ w ∈ gt, w.before args s = true) (hK : va_K D cls (wo_tys cA) s) (hG : wo_G cA base s) (hW : wo_S D cls cA base s w H locs) (hM : mt l D cls (wo_tys cA) cA base y_va_setOne (Cond.code y_va_setOne b_va_setOne 3 (none) :: gt) rm_va_setOne (.ref (base + b) :: As) w ov w' rm_va_setOne.cells rm_va_setOne.slots) (hkb : kb w b 8 = true) (hR : rm_va_setOne.frames + 1 ≤ R.frames ∧ 8 + (3 + 11) + rm_va_setOne.locals ≤ R.locals) (hf : cells + rm_va_setOne.cells ≤ R.cells ∧ slots + rm_va_setOne.slots ≤ R.slots) (hn : As.length = 1) (hsz : ls.size = nL) (hst : st0 = As.reverse ++ .ref (base + b) :: rest) (hcat : (rest.map fun v => v.category).sum ≤ 8) (hdg : decode cc pc = .ok (.invokevirtual 245, 3)) (kk : ∀ (H1 : Heap) (locs1 : List Loc), wo_S D cls cA base s w' H1 locs1 → W p l e R s m args below meth c H1 locs1 (cells + rm_va_setOne.cells) (slots + rm_va_setOne.slots) Q (F0 m (pc + 3) ls (ov.toList ++ rest))) : W p l e R s m args below meth c H locs cells slots Q (F0 m pc ls st0) :=
  wo_callV (C := Rc_va) hx hb hml hown hts hK hG hW hM hkb rfl (gt_of (i := 926) (by decide +kernel) (by decide +kernel)) (gt_of (i := 902) (by decide +kernel) (by decide +kernel)) (gt_of (i := 903) (by decide +kernel) (by decide +kernel)) (gt_of (i := 9) (by decide +kernel) (by decide +kernel)) (gt_of (i := 904) (by decide +kernel) (by decide +kernel)) (by decide +kernel) hR hf hn hsz hst hcat hdg kk
theorem cv_an_122 {p : Program} {l : Launch} {e : Env} {R : Room} {s : State} {m : MethodId} {args : Array Value} {below : List Frame} {meth : Method} {c : Code} {H : Heap} {locs : List Loc} {cells slots : Nat} {Q : State → Prop} {D : va_G} {cA : Nat → ClassId} {base : Nat} {w w' : WW} {cc : ByteArray} {pc nL : Nat} {ls : Array Slot} {rest st0 As : List Value} {ov : Option Value} {b : Nat} (hx : p.tables.exec = Jvm.exec) (hb : c.code = cc) (hml : c.maxLocals = nL) (hown : s.vm.findClass Rc_an = some m.cls) (hts : ∀ w ∈ gt, w.before args s = true) (hK : va_K D cls (wo_tys cA) s) (hG : wo_G cA base s) (hW : wo_S D cls cA base s w H locs) (hM : mt l D cls (wo_tys cA) cA base y_va_copy (Cond.code y_va_copy b_va_copy 2 (none) :: gt) rm_va_copy (.ref (base + b) :: As) w ov w' rm_va_copy.cells rm_va_copy.slots) (hkb : kb w b 8 = true) (hR : rm_va_copy.frames + 1 ≤ R.frames ∧ 8 + (2 + 11) + rm_va_copy.locals ≤ R.locals) (hf : cells + rm_va_copy.cells ≤ R.cells ∧ slots + rm_va_copy.slots ≤ R.slots) (hn : As.length = 1) (hsz : ls.size = nL) (hst : st0 = As.reverse ++ .ref (base + b) :: rest) (hcat : (rest.map fun v => v.category).sum ≤ 8) (hdg : decode cc pc = .ok (.invokevirtual 122, 3)) (kk : ∀ (H1 : Heap) (locs1 : List Loc), wo_S D cls cA base s w' H1 locs1 → W p l e R s m args below meth c H1 locs1 (cells + rm_va_copy.cells) (slots + rm_va_copy.slots) Q (F0 m (pc + 3) ls (ov.toList ++ rest))) : W p l e R s m args below meth c H locs cells slots Q (F0 m pc ls st0) :=
  wo_callV (C := Rc_va) hx hb hml hown hts hK hG hW hM hkb rfl (gt_of (i := 927) (by decide +kernel) (by decide +kernel)) (gt_of (i := 928) (by decide +kernel) (by decide +kernel)) (gt_of (i := 929) (by decide +kernel) (by decide +kernel)) (gt_of (i := 9) (by decide +kernel) (by decide +kernel)) (gt_of (i := 930) (by decide +kernel) (by decide +kernel)) (by decide +kernel) hR hf hn hsz hst hcat hdg kk
theorem cv_an_136 {p : Program} {l : Launch} {e : Env} {R : Room} {s : State} {m : MethodId} {args : Array Value} {below : List Frame} {meth : Method} {c : Code} {H : Heap} {locs : List Loc} {cells slots : Nat} {Q : State → Prop} {D : va_G} {cA : Nat → ClassId} {base : Nat} {w w' : WW} {cc : ByteArray} {pc nL : Nat} {ls : Array Slot} {rest st0 As : List Value} {ov : Option Value} {b : Nat} (hx : p.tables.exec = Jvm.exec) (hb : c.code = cc) (hml : c.maxLocals = nL) (hown : s.vm.findClass Rc_an = some m.cls) (hts : ∀ w ∈ gt, w.before args s = true) (hK : va_K D cls (wo_tys cA) s) (hG : wo_G cA base s) (hW : wo_S D cls cA base s w H locs) (hM : mt l D cls (wo_tys cA) cA base y_an_warnIf (Cond.code y_an_warnIf b_an_warnIf 5 (none) :: gt) rm_an_warnIf (.ref (base + b) :: As) w ov w' rm_an_warnIf.cells rm_an_warnIf.slots) (hkb : kb w b 6 = true) (hR : rm_an_warnIf.frames + 1 ≤ R.frames ∧ 8 + (5 + 11) + rm_an_warnIf.locals ≤ R.locals) (hf : cells + rm_an_warnIf.cells ≤ R.cells ∧ slots + rm_an_warnIf.slots ≤ R.slots) (hn : As.length = 3) (hsz : ls.size = nL) (hst : st0 = As.reverse ++ .ref (base + b) :: rest) (hcat : (rest.map fun v => v.category).sum ≤ 8) (hdg : decode cc pc = .ok (.invokevirtual 136, 3)) (kk : ∀ (H1 : Heap) (locs1 : List Loc), wo_S D cls cA base s w' H1 locs1 → W p l e R s m args below meth c H1 locs1 (cells + rm_an_warnIf.cells) (slots + rm_an_warnIf.slots) Q (F0 m (pc + 3) ls (ov.toList ++ rest))) : W p l e R s m args below meth c H locs cells slots Q (F0 m pc ls st0) :=
  wo_callV (C := Rc_an) hx hb hml hown hts hK hG hW hM hkb rfl (gt_of (i := 931) (by decide +kernel) (by decide +kernel)) (gt_of (i := 933) (by decide +kernel) (by decide +kernel)) (gt_sel (i := 42) (by decide +kernel) (by decide +kernel)) (gt_of (i := 7) (by decide +kernel) (by decide +kernel)) (gt_of (i := 934) (by decide +kernel) (by decide +kernel)) (by decide +kernel) hR hf hn hsz hst hcat hdg kk
theorem cv_an_129 {p : Program} {l : Launch} {e : Env} {R : Room} {s : State} {m : MethodId} {args : Array Value} {below : List Frame} {meth : Method} {c : Code} {H : Heap} {locs : List Loc} {cells slots : Nat} {Q : State → Prop} {D : va_G} {cA : Nat → ClassId} {base : Nat} {w w' : WW} {cc : ByteArray} {pc nL : Nat} {ls : Array Slot} {rest st0 As : List Value} {ov : Option Value} {b : Nat} (hx : p.tables.exec = Jvm.exec) (hb : c.code = cc) (hml : c.maxLocals = nL) (hown : s.vm.findClass Rc_an = some m.cls) (hts : ∀ w ∈ gt, w.before args s = true) (hK : va_K D cls (wo_tys cA) s) (hG : wo_G cA base s) (hW : wo_S D cls cA base s w H locs) (hM : mt l D cls (wo_tys cA) cA base y_va_goesBeyondCells (Cond.code y_va_goesBeyondCells b_va_goesBeyondCells 1 (some .boolean) :: gt) rm_va_goesBeyondCells (.ref (base + b) :: As) w ov w' rm_va_goesBeyondCells.cells rm_va_goesBeyondCells.slots) (hkb : kb w b 8 = true) (hR : rm_va_goesBeyondCells.frames + 1 ≤ R.frames ∧ 8 + (1 + 11) + rm_va_goesBeyondCells.locals ≤ R.locals) (hf : cells + rm_va_goesBeyondCells.cells ≤ R.cells ∧ slots + rm_va_goesBeyondCells.slots ≤ R.slots) (hn : As.length = 0) (hsz : ls.size = nL) (hst : st0 = As.reverse ++ .ref (base + b) :: rest) (hcat : (rest.map fun v => v.category).sum ≤ 8) (hdg : decode cc pc = .ok (.invokevirtual 129, 3)) (kk : ∀ (H1 : Heap) (locs1 : List Loc), wo_S D cls cA base s w' H1 locs1 → W p l e R s m args below meth c H1 locs1 (cells + rm_va_goesBeyondCells.cells) (slots + rm_va_goesBeyondCells.slots) Q (F0 m (pc + 3) ls (ov.toList ++ rest))) : W p l e R s m args below meth c H locs cells slots Q (F0 m pc ls st0) :=
  wo_callV (C := Rc_va) hx hb hml hown hts hK hG hW hM hkb rfl (gt_of (i := 935) (by decide +kernel) (by decide +kernel)) (gt_of (i := 936) (by decide +kernel) (by decide +kernel)) (gt_of (i := 937) (by decide +kernel) (by decide +kernel)) (gt_of (i := 9) (by decide +kernel) (by decide +kernel)) (gt_of (i := 938) (by decide +kernel) (by decide +kernel)) (by decide +kernel) hR hf hn hsz hst hcat hdg kk
theorem cv_an_248 {p : Program} {l : Launch} {e : Env} {R : Room} {s : State} {m : MethodId} {args : Array Value} {below : List Frame} {meth : Method} {c : Code} {H : Heap} {locs : List Loc} {cells slots : Nat} {Q : State → Prop} {D : va_G} {cA : Nat → ClassId} {base : Nat} {w w' : WW} {cc : ByteArray} {pc nL : Nat} {ls : Array Slot} {rest st0 As : List Value} {ov : Option Value} {b : Nat} (hx : p.tables.exec = Jvm.exec) (hb : c.code = cc) (hml : c.maxLocals = nL) (hown : s.vm.findClass Rc_an = some m.cls) (hts : ∀ w ∈ gt, w.before args s = true) (hK : va_K D cls (wo_tys cA) s) (hG : wo_G cA base s) (hW : wo_S D cls cA base s w H locs) (hM : mt l D cls (wo_tys cA) cA base y_va_setNothing (Cond.code y_va_setNothing b_va_setNothing 1 (none) :: gt) rm_va_setNothing (.ref (base + b) :: As) w ov w' rm_va_setNothing.cells rm_va_setNothing.slots) (hkb : kb w b 8 = true) (hR : rm_va_setNothing.frames + 1 ≤ R.frames ∧ 8 + (1 + 11) + rm_va_setNothing.locals ≤ R.locals) (hf : cells + rm_va_setNothing.cells ≤ R.cells ∧ slots + rm_va_setNothing.slots ≤ R.slots) (hn : As.length = 0) (hsz : ls.size = nL) (hst : st0 = As.reverse ++ .ref (base + b) :: rest) (hcat : (rest.map fun v => v.category).sum ≤ 8) (hdg : decode cc pc = .ok (.invokevirtual 248, 3)) (kk : ∀ (H1 : Heap) (locs1 : List Loc), wo_S D cls cA base s w' H1 locs1 → W p l e R s m args below meth c H1 locs1 (cells + rm_va_setNothing.cells) (slots + rm_va_setNothing.slots) Q (F0 m (pc + 3) ls (ov.toList ++ rest))) : W p l e R s m args below meth c H locs cells slots Q (F0 m pc ls st0) :=
  wo_callV (C := Rc_va) hx hb hml hown hts hK hG hW hM hkb rfl (gt_of (i := 940) (by decide +kernel) (by decide +kernel)) (gt_of (i := 898) (by decide +kernel) (by decide +kernel)) (gt_of (i := 899) (by decide +kernel) (by decide +kernel)) (gt_of (i := 9) (by decide +kernel) (by decide +kernel)) (gt_of (i := 900) (by decide +kernel) (by decide +kernel)) (by decide +kernel) hR hf hn hsz hst hcat hdg kk
theorem cv_an_140 {p : Program} {l : Launch} {e : Env} {R : Room} {s : State} {m : MethodId} {args : Array Value} {below : List Frame} {meth : Method} {c : Code} {H : Heap} {locs : List Loc} {cells slots : Nat} {Q : State → Prop} {D : va_G} {cA : Nat → ClassId} {base : Nat} {w w' : WW} {cc : ByteArray} {pc nL : Nat} {ls : Array Slot} {rest st0 As : List Value} {ov : Option Value} {b : Nat} (hx : p.tables.exec = Jvm.exec) (hb : c.code = cc) (hml : c.maxLocals = nL) (hown : s.vm.findClass Rc_an = some m.cls) (hts : ∀ w ∈ gt, w.before args s = true) (hK : va_K D cls (wo_tys cA) s) (hG : wo_G cA base s) (hW : wo_S D cls cA base s w H locs) (hM : mt l D cls (wo_tys cA) cA base y_va_has (Cond.code y_va_has b_va_has 3 (some .boolean) :: gt) rm_va_has (.ref (base + b) :: As) w ov w' rm_va_has.cells rm_va_has.slots) (hkb : kb w b 8 = true) (hR : rm_va_has.frames + 1 ≤ R.frames ∧ 8 + (3 + 11) + rm_va_has.locals ≤ R.locals) (hf : cells + rm_va_has.cells ≤ R.cells ∧ slots + rm_va_has.slots ≤ R.slots) (hn : As.length = 1) (hsz : ls.size = nL) (hst : st0 = As.reverse ++ .ref (base + b) :: rest) (hcat : (rest.map fun v => v.category).sum ≤ 8) (hdg : decode cc pc = .ok (.invokevirtual 140, 3)) (kk : ∀ (H1 : Heap) (locs1 : List Loc), wo_S D cls cA base s w' H1 locs1 → W p l e R s m args below meth c H1 locs1 (cells + rm_va_has.cells) (slots + rm_va_has.slots) Q (F0 m (pc + 3) ls (ov.toList ++ rest))) : W p l e R s m args below meth c H locs cells slots Q (F0 m pc ls st0) :=
  wo_callV (C := Rc_va) hx hb hml hown hts hK hG hW hM hkb rfl (gt_of (i := 941) (by decide +kernel) (by decide +kernel)) (gt_of (i := 942) (by decide +kernel) (by decide +kernel)) (gt_of (i := 943) (by decide +kernel) (by decide +kernel)) (gt_of (i := 9) (by decide +kernel) (by decide +kernel)) (gt_of (i := 944) (by decide +kernel) (by decide +kernel)) (by decide +kernel) hR hf hn hsz hst hcat hdg kk
theorem cv_an_144 {p : Program} {l : Launch} {e : Env} {R : Room} {s : State} {m : MethodId} {args : Array Value} {below : List Frame} {meth : Method} {c : Code} {H : Heap} {locs : List Loc} {cells slots : Nat} {Q : State → Prop} {D : va_G} {cA : Nat → ClassId} {base : Nat} {w w' : WW} {cc : ByteArray} {pc nL : Nat} {ls : Array Slot} {rest st0 As : List Value} {ov : Option Value} {b : Nat} (hx : p.tables.exec = Jvm.exec) (hb : c.code = cc) (hml : c.maxLocals = nL) (hown : s.vm.findClass Rc_an = some m.cls) (hts : ∀ w ∈ gt, w.before args s = true) (hK : va_K D cls (wo_tys cA) s) (hG : wo_G cA base s) (hW : wo_S D cls cA base s w H locs) (hM : mt l D cls (wo_tys cA) cA base y_va_join (Cond.code y_va_join b_va_join 2 (none) :: gt) rm_va_join (.ref (base + b) :: As) w ov w' rm_va_join.cells rm_va_join.slots) (hkb : kb w b 8 = true) (hR : rm_va_join.frames + 1 ≤ R.frames ∧ 8 + (2 + 11) + rm_va_join.locals ≤ R.locals) (hf : cells + rm_va_join.cells ≤ R.cells ∧ slots + rm_va_join.slots ≤ R.slots) (hn : As.length = 1) (hsz : ls.size = nL) (hst : st0 = As.reverse ++ .ref (base + b) :: rest) (hcat : (rest.map fun v => v.category).sum ≤ 8) (hdg : decode cc pc = .ok (.invokevirtual 144, 3)) (kk : ∀ (H1 : Heap) (locs1 : List Loc), wo_S D cls cA base s w' H1 locs1 → W p l e R s m args below meth c H1 locs1 (cells + rm_va_join.cells) (slots + rm_va_join.slots) Q (F0 m (pc + 3) ls (ov.toList ++ rest))) : W p l e R s m args below meth c H locs cells slots Q (F0 m pc ls st0) :=
  wo_callV (C := Rc_va) hx hb hml hown hts hK hG hW hM hkb rfl (gt_of (i := 948) (by decide +kernel) (by decide +kernel)) (gt_of (i := 949) (by decide +kernel) (by decide +kernel)) (gt_of (i := 950) (by decide +kernel) (by decide +kernel)) (gt_of (i := 9) (by decide +kernel) (by decide +kernel)) (gt_of (i := 951) (by decide +kernel) (by decide +kernel)) (by decide +kernel) hR hf hn hsz hst hcat hdg kk
theorem cv_an_251 {p : Program} {l : Launch} {e : Env} {R : Room} {s : State} {m : MethodId} {args : Array Value} {below : List Frame} {meth : Method} {c : Code} {H : Heap} {locs : List Loc} {cells slots : Nat} {Q : State → Prop} {D : va_G} {cA : Nat → ClassId} {base : Nat} {w w' : WW} {cc : ByteArray} {pc nL : Nat} {ls : Array Slot} {rest st0 As : List Value} {ov : Option Value} {b : Nat} (hx : p.tables.exec = Jvm.exec) (hb : c.code = cc) (hml : c.maxLocals = nL) (hown : s.vm.findClass Rc_an = some m.cls) (hts : ∀ w ∈ gt, w.before args s = true) (hK : va_K D cls (wo_tys cA) s) (hG : wo_G cA base s) (hW : wo_S D cls cA base s w H locs) (hM : mt l D cls (wo_tys cA) cA base y_va_subtract (Cond.code y_va_subtract b_va_subtract 2 (some .boolean) :: gt) rm_va_subtract (.ref (base + b) :: As) w ov w' rm_va_subtract.cells rm_va_subtract.slots) (hkb : kb w b 8 = true) (hR : rm_va_subtract.frames + 1 ≤ R.frames ∧ 8 + (2 + 11) + rm_va_subtract.locals ≤ R.locals) (hf : cells + rm_va_subtract.cells ≤ R.cells ∧ slots + rm_va_subtract.slots ≤ R.slots) (hn : As.length = 1) (hsz : ls.size = nL) (hst : st0 = As.reverse ++ .ref (base + b) :: rest) (hcat : (rest.map fun v => v.category).sum ≤ 8) (hdg : decode cc pc = .ok (.invokevirtual 251, 3)) (kk : ∀ (H1 : Heap) (locs1 : List Loc), wo_S D cls cA base s w' H1 locs1 → W p l e R s m args below meth c H1 locs1 (cells + rm_va_subtract.cells) (slots + rm_va_subtract.slots) Q (F0 m (pc + 3) ls (ov.toList ++ rest))) : W p l e R s m args below meth c H locs cells slots Q (F0 m pc ls st0) :=
  wo_callV (C := Rc_va) hx hb hml hown hts hK hG hW hM hkb rfl (gt_of (i := 975) (by decide +kernel) (by decide +kernel)) (gt_of (i := 976) (by decide +kernel) (by decide +kernel)) (gt_of (i := 977) (by decide +kernel) (by decide +kernel)) (gt_of (i := 9) (by decide +kernel) (by decide +kernel)) (gt_of (i := 978) (by decide +kernel) (by decide +kernel)) (by decide +kernel) hR hf hn hsz hst hcat hdg kk
theorem cv_an_255 {p : Program} {l : Launch} {e : Env} {R : Room} {s : State} {m : MethodId} {args : Array Value} {below : List Frame} {meth : Method} {c : Code} {H : Heap} {locs : List Loc} {cells slots : Nat} {Q : State → Prop} {D : va_G} {cA : Nat → ClassId} {base : Nat} {w w' : WW} {cc : ByteArray} {pc nL : Nat} {ls : Array Slot} {rest st0 As : List Value} {ov : Option Value} {b : Nat} (hx : p.tables.exec = Jvm.exec) (hb : c.code = cc) (hml : c.maxLocals = nL) (hown : s.vm.findClass Rc_an = some m.cls) (hts : ∀ w ∈ gt, w.before args s = true) (hK : va_K D cls (wo_tys cA) s) (hG : wo_G cA base s) (hW : wo_S D cls cA base s w H locs) (hM : mt l D cls (wo_tys cA) cA base y_va_add (Cond.code y_va_add b_va_add 2 (some .boolean) :: gt) rm_va_add (.ref (base + b) :: As) w ov w' rm_va_add.cells rm_va_add.slots) (hkb : kb w b 8 = true) (hR : rm_va_add.frames + 1 ≤ R.frames ∧ 8 + (2 + 11) + rm_va_add.locals ≤ R.locals) (hf : cells + rm_va_add.cells ≤ R.cells ∧ slots + rm_va_add.slots ≤ R.slots) (hn : As.length = 1) (hsz : ls.size = nL) (hst : st0 = As.reverse ++ .ref (base + b) :: rest) (hcat : (rest.map fun v => v.category).sum ≤ 8) (hdg : decode cc pc = .ok (.invokevirtual 255, 3)) (kk : ∀ (H1 : Heap) (locs1 : List Loc), wo_S D cls cA base s w' H1 locs1 → W p l e R s m args below meth c H1 locs1 (cells + rm_va_add.cells) (slots + rm_va_add.slots) Q (F0 m (pc + 3) ls (ov.toList ++ rest))) : W p l e R s m args below meth c H locs cells slots Q (F0 m pc ls st0) :=
  wo_callV (C := Rc_va) hx hb hml hown hts hK hG hW hM hkb rfl (gt_of (i := 979) (by decide +kernel) (by decide +kernel)) (gt_of (i := 980) (by decide +kernel) (by decide +kernel)) (gt_of (i := 981) (by decide +kernel) (by decide +kernel)) (gt_of (i := 9) (by decide +kernel) (by decide +kernel)) (gt_of (i := 982) (by decide +kernel) (by decide +kernel)) (by decide +kernel) hR hf hn hsz hst hcat hdg kk
theorem cv_an_258 {p : Program} {l : Launch} {e : Env} {R : Room} {s : State} {m : MethodId} {args : Array Value} {below : List Frame} {meth : Method} {c : Code} {H : Heap} {locs : List Loc} {cells slots : Nat} {Q : State → Prop} {D : va_G} {cA : Nat → ClassId} {base : Nat} {w w' : WW} {cc : ByteArray} {pc nL : Nat} {ls : Array Slot} {rest st0 As : List Value} {ov : Option Value} {b : Nat} (hx : p.tables.exec = Jvm.exec) (hb : c.code = cc) (hml : c.maxLocals = nL) (hown : s.vm.findClass Rc_an = some m.cls) (hts : ∀ w ∈ gt, w.before args s = true) (hK : va_K D cls (wo_tys cA) s) (hG : wo_G cA base s) (hW : wo_S D cls cA base s w H locs) (hM : mt l D cls (wo_tys cA) cA base y_va_multiply (Cond.code y_va_multiply b_va_multiply 12 (some .boolean) :: gt) rm_va_multiply (.ref (base + b) :: As) w ov w' rm_va_multiply.cells rm_va_multiply.slots) (hkb : kb w b 8 = true) (hR : rm_va_multiply.frames + 1 ≤ R.frames ∧ 8 + (12 + 11) + rm_va_multiply.locals ≤ R.locals) (hf : cells + rm_va_multiply.cells ≤ R.cells ∧ slots + rm_va_multiply.slots ≤ R.slots) (hn : As.length = 1) (hsz : ls.size = nL) (hst : st0 = As.reverse ++ .ref (base + b) :: rest) (hcat : (rest.map fun v => v.category).sum ≤ 8) (hdg : decode cc pc = .ok (.invokevirtual 258, 3)) (kk : ∀ (H1 : Heap) (locs1 : List Loc), wo_S D cls cA base s w' H1 locs1 → W p l e R s m args below meth c H1 locs1 (cells + rm_va_multiply.cells) (slots + rm_va_multiply.slots) Q (F0 m (pc + 3) ls (ov.toList ++ rest))) : W p l e R s m args below meth c H locs cells slots Q (F0 m pc ls st0) :=
  wo_callV (C := Rc_va) hx hb hml hown hts hK hG hW hM hkb rfl (gt_of (i := 983) (by decide +kernel) (by decide +kernel)) (gt_of (i := 984) (by decide +kernel) (by decide +kernel)) (gt_of (i := 985) (by decide +kernel) (by decide +kernel)) (gt_of (i := 9) (by decide +kernel) (by decide +kernel)) (gt_of (i := 986) (by decide +kernel) (by decide +kernel)) (by decide +kernel) hR hf hn hsz hst hcat hdg kk
theorem cv_an_261 {p : Program} {l : Launch} {e : Env} {R : Room} {s : State} {m : MethodId} {args : Array Value} {below : List Frame} {meth : Method} {c : Code} {H : Heap} {locs : List Loc} {cells slots : Nat} {Q : State → Prop} {D : va_G} {cA : Nat → ClassId} {base : Nat} {w w' : WW} {cc : ByteArray} {pc nL : Nat} {ls : Array Slot} {rest st0 As : List Value} {ov : Option Value} {b : Nat} (hx : p.tables.exec = Jvm.exec) (hb : c.code = cc) (hml : c.maxLocals = nL) (hown : s.vm.findClass Rc_an = some m.cls) (hts : ∀ w ∈ gt, w.before args s = true) (hK : va_K D cls (wo_tys cA) s) (hG : wo_G cA base s) (hW : wo_S D cls cA base s w H locs) (hM : mt l D cls (wo_tys cA) cA base y_va_divide (Cond.code y_va_divide b_va_divide 7 (some .boolean) :: gt) rm_va_divide (.ref (base + b) :: As) w ov w' rm_va_divide.cells rm_va_divide.slots) (hkb : kb w b 8 = true) (hR : rm_va_divide.frames + 1 ≤ R.frames ∧ 8 + (7 + 11) + rm_va_divide.locals ≤ R.locals) (hf : cells + rm_va_divide.cells ≤ R.cells ∧ slots + rm_va_divide.slots ≤ R.slots) (hn : As.length = 1) (hsz : ls.size = nL) (hst : st0 = As.reverse ++ .ref (base + b) :: rest) (hcat : (rest.map fun v => v.category).sum ≤ 8) (hdg : decode cc pc = .ok (.invokevirtual 261, 3)) (kk : ∀ (H1 : Heap) (locs1 : List Loc), wo_S D cls cA base s w' H1 locs1 → W p l e R s m args below meth c H1 locs1 (cells + rm_va_divide.cells) (slots + rm_va_divide.slots) Q (F0 m (pc + 3) ls (ov.toList ++ rest))) : W p l e R s m args below meth c H locs cells slots Q (F0 m pc ls st0) :=
  wo_callV (C := Rc_va) hx hb hml hown hts hK hG hW hM hkb rfl (gt_of (i := 987) (by decide +kernel) (by decide +kernel)) (gt_of (i := 988) (by decide +kernel) (by decide +kernel)) (gt_of (i := 989) (by decide +kernel) (by decide +kernel)) (gt_of (i := 9) (by decide +kernel) (by decide +kernel)) (gt_of (i := 990) (by decide +kernel) (by decide +kernel)) (by decide +kernel) hR hf hn hsz hst hcat hdg kk
theorem cv_an_264 {p : Program} {l : Launch} {e : Env} {R : Room} {s : State} {m : MethodId} {args : Array Value} {below : List Frame} {meth : Method} {c : Code} {H : Heap} {locs : List Loc} {cells slots : Nat} {Q : State → Prop} {D : va_G} {cA : Nat → ClassId} {base : Nat} {w w' : WW} {cc : ByteArray} {pc nL : Nat} {ls : Array Slot} {rest st0 As : List Value} {ov : Option Value} {b : Nat} (hx : p.tables.exec = Jvm.exec) (hb : c.code = cc) (hml : c.maxLocals = nL) (hown : s.vm.findClass Rc_an = some m.cls) (hts : ∀ w ∈ gt, w.before args s = true) (hK : va_K D cls (wo_tys cA) s) (hG : wo_G cA base s) (hW : wo_S D cls cA base s w H locs) (hM : mt l D cls (wo_tys cA) cA base y_va_remainder (Cond.code y_va_remainder b_va_remainder 4 (none) :: gt) rm_va_remainder (.ref (base + b) :: As) w ov w' rm_va_remainder.cells rm_va_remainder.slots) (hkb : kb w b 8 = true) (hR : rm_va_remainder.frames + 1 ≤ R.frames ∧ 8 + (4 + 11) + rm_va_remainder.locals ≤ R.locals) (hf : cells + rm_va_remainder.cells ≤ R.cells ∧ slots + rm_va_remainder.slots ≤ R.slots) (hn : As.length = 1) (hsz : ls.size = nL) (hst : st0 = As.reverse ++ .ref (base + b) :: rest) (hcat : (rest.map fun v => v.category).sum ≤ 8) (hdg : decode cc pc = .ok (.invokevirtual 264, 3)) (kk : ∀ (H1 : Heap) (locs1 : List Loc), wo_S D cls cA base s w' H1 locs1 → W p l e R s m args below meth c H1 locs1 (cells + rm_va_remainder.cells) (slots + rm_va_remainder.slots) Q (F0 m (pc + 3) ls (ov.toList ++ rest))) : W p l e R s m args below meth c H locs cells slots Q (F0 m pc ls st0) :=
  wo_callV (C := Rc_va) hx hb hml hown hts hK hG hW hM hkb rfl (gt_of (i := 999) (by decide +kernel) (by decide +kernel)) (gt_of (i := 1000) (by decide +kernel) (by decide +kernel)) (gt_of (i := 1001) (by decide +kernel) (by decide +kernel)) (gt_of (i := 9) (by decide +kernel) (by decide +kernel)) (gt_of (i := 1002) (by decide +kernel) (by decide +kernel)) (by decide +kernel) hR hf hn hsz hst hcat hdg kk
abbrev b_an_doStep : ByteArray := prog_2_method_21_code
def y_an_doStep : MethodName := ⟨"AlarmForge$Analyser", "doStep", "(ILAlarmForge$Value;LAlarmForge$Value;LAlarmForge$State;)V"⟩
def rm_an_doStep : Room := { frames := 3, cells := 0, slots := 0, locals := 82 }
theorem d_an_doStep_0 : decode b_an_doStep 0 = .ok (.aload_n 0, 1) := by decide +kernel
theorem d_an_doStep_1 : decode b_an_doStep 1 = .ok (.getfield 33, 3) := by decide +kernel
theorem d_an_doStep_4 : decode b_an_doStep 4 = .ok (.getfield 198, 3) := by decide +kernel
theorem d_an_doStep_7 : decode b_an_doStep 7 = .ok (.iload_n 1, 1) := by decide +kernel
theorem d_an_doStep_8 : decode b_an_doStep 8 = .ok (.iaload, 1) := by decide +kernel
theorem d_an_doStep_9 : decode b_an_doStep 9 = .ok (.istore 5, 2) := by decide +kernel
theorem d_an_doStep_11 : decode b_an_doStep 11 = .ok (.aload_n 0, 1) := by decide +kernel
theorem d_an_doStep_12 : decode b_an_doStep 12 = .ok (.getfield 33, 3) := by decide +kernel
theorem d_an_doStep_15 : decode b_an_doStep 15 = .ok (.getfield 242, 3) := by decide +kernel
theorem d_an_doStep_18 : decode b_an_doStep 18 = .ok (.iload_n 1, 1) := by decide +kernel
theorem d_an_doStep_19 : decode b_an_doStep 19 = .ok (.iaload, 1) := by decide +kernel
theorem d_an_doStep_20 : decode b_an_doStep 20 = .ok (.istore 6, 2) := by decide +kernel
theorem d_an_doStep_22 : decode b_an_doStep 22 = .ok (.aload_n 0, 1) := by decide +kernel
theorem d_an_doStep_23 : decode b_an_doStep 23 = .ok (.getfield 33, 3) := by decide +kernel
theorem d_an_doStep_26 : decode b_an_doStep 26 = .ok (.getfield 195, 3) := by decide +kernel
theorem d_an_doStep_29 : decode b_an_doStep 29 = .ok (.iload_n 1, 1) := by decide +kernel
theorem d_an_doStep_30 : decode b_an_doStep 30 = .ok (.iaload, 1) := by decide +kernel
theorem d_an_doStep_31 : decode b_an_doStep 31 = .ok (.lookupswitch (276) #[(1, 73), (2, 83), (3, 113), (42, 234), (43, 204), (45, 219), (47, 249), (259, 179)], 73) := by decide +kernel
theorem d_an_doStep_104 : decode b_an_doStep 104 = .ok (.aload_n 2, 1) := by decide +kernel
theorem d_an_doStep_105 : decode b_an_doStep 105 = .ok (.iload 5, 2) := by decide +kernel
theorem d_an_doStep_107 : decode b_an_doStep 107 = .ok (.i2l, 1) := by decide +kernel
theorem d_an_doStep_108 : decode b_an_doStep 108 = .ok (.invokevirtual 245, 3) := by decide +kernel
theorem d_an_doStep_111 : decode b_an_doStep 111 = .ok (.goto (213), 3) := by decide +kernel
theorem d_an_doStep_114 : decode b_an_doStep 114 = .ok (.aload_n 2, 1) := by decide +kernel
theorem d_an_doStep_115 : decode b_an_doStep 115 = .ok (.aload 4, 2) := by decide +kernel
theorem d_an_doStep_117 : decode b_an_doStep 117 = .ok (.getfield 88, 3) := by decide +kernel
theorem d_an_doStep_120 : decode b_an_doStep 120 = .ok (.iload 5, 2) := by decide +kernel
theorem d_an_doStep_122 : decode b_an_doStep 122 = .ok (.aaload, 1) := by decide +kernel
theorem d_an_doStep_123 : decode b_an_doStep 123 = .ok (.invokevirtual 122, 3) := by decide +kernel
theorem d_an_doStep_126 : decode b_an_doStep 126 = .ok (.aload_n 0, 1) := by decide +kernel
theorem d_an_doStep_127 : decode b_an_doStep 127 = .ok (.aload 4, 2) := by decide +kernel
theorem d_an_doStep_129 : decode b_an_doStep 129 = .ok (.getfield 97, 3) := by decide +kernel
theorem d_an_doStep_132 : decode b_an_doStep 132 = .ok (.iload 5, 2) := by decide +kernel
theorem d_an_doStep_134 : decode b_an_doStep 134 = .ok (.baload, 1) := by decide +kernel
theorem d_an_doStep_135 : decode b_an_doStep 135 = .ok (.iconst 1, 1) := by decide +kernel
theorem d_an_doStep_136 : decode b_an_doStep 136 = .ok (.iload 6, 2) := by decide +kernel
theorem d_an_doStep_138 : decode b_an_doStep 138 = .ok (.invokevirtual 136, 3) := by decide +kernel
theorem d_an_doStep_141 : decode b_an_doStep 141 = .ok (.goto (183), 3) := by decide +kernel
theorem d_an_doStep_144 : decode b_an_doStep 144 = .ok (.aload_n 0, 1) := by decide +kernel
theorem d_an_doStep_145 : decode b_an_doStep 145 = .ok (.aload_n 2, 1) := by decide +kernel
theorem d_an_doStep_146 : decode b_an_doStep 146 = .ok (.invokevirtual 129, 3) := by decide +kernel
theorem d_an_doStep_149 : decode b_an_doStep 149 = .ok (.iconst 2, 1) := by decide +kernel
theorem d_an_doStep_150 : decode b_an_doStep 150 = .ok (.iload 6, 2) := by decide +kernel
theorem d_an_doStep_152 : decode b_an_doStep 152 = .ok (.invokevirtual 136, 3) := by decide +kernel
theorem d_an_doStep_155 : decode b_an_doStep 155 = .ok (.aload_n 3, 1) := by decide +kernel
theorem d_an_doStep_156 : decode b_an_doStep 156 = .ok (.invokevirtual 248, 3) := by decide +kernel
theorem d_an_doStep_159 : decode b_an_doStep 159 = .ok (.iconst 0, 1) := by decide +kernel
theorem d_an_doStep_160 : decode b_an_doStep 160 = .ok (.istore 7, 2) := by decide +kernel
theorem d_an_doStep_162 : decode b_an_doStep 162 = .ok (.iload 7, 2) := by decide +kernel
theorem d_an_doStep_164 : decode b_an_doStep 164 = .ok (.iconst 4, 1) := by decide +kernel
theorem d_an_doStep_165 : decode b_an_doStep 165 = .ok (.if_icmp .ge (37), 3) := by decide +kernel
theorem d_an_doStep_168 : decode b_an_doStep 168 = .ok (.aload_n 2, 1) := by decide +kernel
theorem d_an_doStep_169 : decode b_an_doStep 169 = .ok (.iload 7, 2) := by decide +kernel
theorem d_an_doStep_171 : decode b_an_doStep 171 = .ok (.i2l, 1) := by decide +kernel
theorem d_an_doStep_172 : decode b_an_doStep 172 = .ok (.invokevirtual 140, 3) := by decide +kernel
theorem d_an_doStep_175 : decode b_an_doStep 175 = .ok (.ifCond .eq (21), 3) := by decide +kernel
theorem d_an_doStep_178 : decode b_an_doStep 178 = .ok (.aload_n 3, 1) := by decide +kernel
theorem d_an_doStep_179 : decode b_an_doStep 179 = .ok (.aload 4, 2) := by decide +kernel
theorem d_an_doStep_181 : decode b_an_doStep 181 = .ok (.getfield 88, 3) := by decide +kernel
theorem d_an_doStep_184 : decode b_an_doStep 184 = .ok (.bipush (6), 2) := by decide +kernel
theorem d_an_doStep_186 : decode b_an_doStep 186 = .ok (.iload 5, 2) := by decide +kernel
theorem d_an_doStep_188 : decode b_an_doStep 188 = .ok (.iadd, 1) := by decide +kernel
theorem d_an_doStep_189 : decode b_an_doStep 189 = .ok (.iload 7, 2) := by decide +kernel
theorem d_an_doStep_191 : decode b_an_doStep 191 = .ok (.iadd, 1) := by decide +kernel
theorem d_an_doStep_192 : decode b_an_doStep 192 = .ok (.aaload, 1) := by decide +kernel
theorem d_an_doStep_193 : decode b_an_doStep 193 = .ok (.invokevirtual 144, 3) := by decide +kernel
theorem d_an_doStep_196 : decode b_an_doStep 196 = .ok (.iinc 7 (1), 3) := by decide +kernel
theorem d_an_doStep_199 : decode b_an_doStep 199 = .ok (.goto (-37), 3) := by decide +kernel
theorem d_an_doStep_202 : decode b_an_doStep 202 = .ok (.aload_n 2, 1) := by decide +kernel
theorem d_an_doStep_203 : decode b_an_doStep 203 = .ok (.aload_n 3, 1) := by decide +kernel
theorem d_an_doStep_204 : decode b_an_doStep 204 = .ok (.invokevirtual 122, 3) := by decide +kernel
theorem d_an_doStep_207 : decode b_an_doStep 207 = .ok (.goto (117), 3) := by decide +kernel
theorem d_an_doStep_210 : decode b_an_doStep 210 = .ok (.aload_n 3, 1) := by decide +kernel
theorem d_an_doStep_211 : decode b_an_doStep 211 = .ok (.aload_n 2, 1) := by decide +kernel
theorem d_an_doStep_212 : decode b_an_doStep 212 = .ok (.invokevirtual 122, 3) := by decide +kernel
theorem d_an_doStep_215 : decode b_an_doStep 215 = .ok (.aload_n 2, 1) := by decide +kernel
theorem d_an_doStep_216 : decode b_an_doStep 216 = .ok (.lconst 0, 1) := by decide +kernel
theorem d_an_doStep_217 : decode b_an_doStep 217 = .ok (.invokevirtual 245, 3) := by decide +kernel
theorem d_an_doStep_220 : decode b_an_doStep 220 = .ok (.aload_n 0, 1) := by decide +kernel
theorem d_an_doStep_221 : decode b_an_doStep 221 = .ok (.aload_n 2, 1) := by decide +kernel
theorem d_an_doStep_222 : decode b_an_doStep 222 = .ok (.aload_n 3, 1) := by decide +kernel
theorem d_an_doStep_223 : decode b_an_doStep 223 = .ok (.invokevirtual 251, 3) := by decide +kernel
theorem d_an_doStep_226 : decode b_an_doStep 226 = .ok (.iconst 3, 1) := by decide +kernel
theorem d_an_doStep_227 : decode b_an_doStep 227 = .ok (.iload 6, 2) := by decide +kernel
theorem d_an_doStep_229 : decode b_an_doStep 229 = .ok (.invokevirtual 136, 3) := by decide +kernel
theorem d_an_doStep_232 : decode b_an_doStep 232 = .ok (.goto (92), 3) := by decide +kernel
theorem d_an_doStep_235 : decode b_an_doStep 235 = .ok (.aload_n 0, 1) := by decide +kernel
theorem d_an_doStep_236 : decode b_an_doStep 236 = .ok (.aload_n 2, 1) := by decide +kernel
theorem d_an_doStep_237 : decode b_an_doStep 237 = .ok (.aload_n 3, 1) := by decide +kernel
theorem d_an_doStep_238 : decode b_an_doStep 238 = .ok (.invokevirtual 255, 3) := by decide +kernel
theorem d_an_doStep_241 : decode b_an_doStep 241 = .ok (.iconst 3, 1) := by decide +kernel
theorem d_an_doStep_242 : decode b_an_doStep 242 = .ok (.iload 6, 2) := by decide +kernel
theorem d_an_doStep_244 : decode b_an_doStep 244 = .ok (.invokevirtual 136, 3) := by decide +kernel
theorem d_an_doStep_247 : decode b_an_doStep 247 = .ok (.goto (77), 3) := by decide +kernel
theorem d_an_doStep_250 : decode b_an_doStep 250 = .ok (.aload_n 0, 1) := by decide +kernel
theorem d_an_doStep_251 : decode b_an_doStep 251 = .ok (.aload_n 2, 1) := by decide +kernel
theorem d_an_doStep_252 : decode b_an_doStep 252 = .ok (.aload_n 3, 1) := by decide +kernel
theorem d_an_doStep_253 : decode b_an_doStep 253 = .ok (.invokevirtual 251, 3) := by decide +kernel
theorem d_an_doStep_256 : decode b_an_doStep 256 = .ok (.iconst 3, 1) := by decide +kernel
theorem d_an_doStep_257 : decode b_an_doStep 257 = .ok (.iload 6, 2) := by decide +kernel
theorem d_an_doStep_259 : decode b_an_doStep 259 = .ok (.invokevirtual 136, 3) := by decide +kernel
theorem d_an_doStep_262 : decode b_an_doStep 262 = .ok (.goto (62), 3) := by decide +kernel
theorem d_an_doStep_265 : decode b_an_doStep 265 = .ok (.aload_n 0, 1) := by decide +kernel
theorem d_an_doStep_266 : decode b_an_doStep 266 = .ok (.aload_n 2, 1) := by decide +kernel
theorem d_an_doStep_267 : decode b_an_doStep 267 = .ok (.aload_n 3, 1) := by decide +kernel
theorem d_an_doStep_268 : decode b_an_doStep 268 = .ok (.invokevirtual 258, 3) := by decide +kernel
theorem d_an_doStep_271 : decode b_an_doStep 271 = .ok (.iconst 3, 1) := by decide +kernel
theorem d_an_doStep_272 : decode b_an_doStep 272 = .ok (.iload 6, 2) := by decide +kernel
theorem d_an_doStep_274 : decode b_an_doStep 274 = .ok (.invokevirtual 136, 3) := by decide +kernel
theorem d_an_doStep_277 : decode b_an_doStep 277 = .ok (.goto (47), 3) := by decide +kernel
theorem d_an_doStep_280 : decode b_an_doStep 280 = .ok (.aload_n 0, 1) := by decide +kernel
theorem d_an_doStep_281 : decode b_an_doStep 281 = .ok (.aload_n 3, 1) := by decide +kernel
theorem d_an_doStep_282 : decode b_an_doStep 282 = .ok (.lconst 0, 1) := by decide +kernel
theorem d_an_doStep_283 : decode b_an_doStep 283 = .ok (.invokevirtual 140, 3) := by decide +kernel
theorem d_an_doStep_286 : decode b_an_doStep 286 = .ok (.iconst 4, 1) := by decide +kernel
theorem d_an_doStep_287 : decode b_an_doStep 287 = .ok (.iload 6, 2) := by decide +kernel
theorem d_an_doStep_289 : decode b_an_doStep 289 = .ok (.invokevirtual 136, 3) := by decide +kernel
theorem d_an_doStep_292 : decode b_an_doStep 292 = .ok (.aload_n 0, 1) := by decide +kernel
theorem d_an_doStep_293 : decode b_an_doStep 293 = .ok (.aload_n 2, 1) := by decide +kernel
theorem d_an_doStep_294 : decode b_an_doStep 294 = .ok (.aload_n 3, 1) := by decide +kernel
theorem d_an_doStep_295 : decode b_an_doStep 295 = .ok (.invokevirtual 261, 3) := by decide +kernel
theorem d_an_doStep_298 : decode b_an_doStep 298 = .ok (.iconst 3, 1) := by decide +kernel
theorem d_an_doStep_299 : decode b_an_doStep 299 = .ok (.iload 6, 2) := by decide +kernel
theorem d_an_doStep_301 : decode b_an_doStep 301 = .ok (.invokevirtual 136, 3) := by decide +kernel
theorem d_an_doStep_304 : decode b_an_doStep 304 = .ok (.goto (20), 3) := by decide +kernel
theorem d_an_doStep_307 : decode b_an_doStep 307 = .ok (.aload_n 0, 1) := by decide +kernel
theorem d_an_doStep_308 : decode b_an_doStep 308 = .ok (.aload_n 3, 1) := by decide +kernel
theorem d_an_doStep_309 : decode b_an_doStep 309 = .ok (.lconst 0, 1) := by decide +kernel
theorem d_an_doStep_310 : decode b_an_doStep 310 = .ok (.invokevirtual 140, 3) := by decide +kernel
theorem d_an_doStep_313 : decode b_an_doStep 313 = .ok (.iconst 4, 1) := by decide +kernel
theorem d_an_doStep_314 : decode b_an_doStep 314 = .ok (.iload 6, 2) := by decide +kernel
theorem d_an_doStep_316 : decode b_an_doStep 316 = .ok (.invokevirtual 136, 3) := by decide +kernel
theorem d_an_doStep_319 : decode b_an_doStep 319 = .ok (.aload_n 2, 1) := by decide +kernel
theorem d_an_doStep_320 : decode b_an_doStep 320 = .ok (.aload_n 3, 1) := by decide +kernel
theorem d_an_doStep_321 : decode b_an_doStep 321 = .ok (.invokevirtual 264, 3) := by decide +kernel
theorem d_an_doStep_324 : decode b_an_doStep 324 = .ok (.return_, 1) := by decide +kernel
theorem kb_an_doStep {a0 a2 a3 a4 : Nat} {a1 : Int32} {w : WW} {r : WW} (h : f_an_doStep a0 a1 a2 a3 a4 w = some r) : kb w a0 6 = true := (its h).1
set_option maxHeartbeats 4000000 in
set_option maxRecDepth 100000 in
theorem j_an_doStep_324 {p : Program} {l : Launch} {e : Env} {s : State} {m : MethodId} {args : Array Value} {below : List Frame} {meth : Method} {c : Code} {D : va_G} {cA : Nat → ClassId} {base : Nat} {w' : WW} (C : cx b_an_doStep (none) 8 y_an_doStep.cls "doStep" p s m args meth c D cA base)   : ∀  (w : WW), f_an_doStep_324  w = some w' → ∀ (H : Heap) (locs : List Loc) (ls : Array Slot), wo_S D cls cA base s w H locs → lv_has ls 8 [] → W p l e rm_an_doStep s m args below meth c H locs 0 0 (MQ below (wo_Q D cls cA base none w') args s rm_an_doStep.cells rm_an_doStep.slots (wo_B base)) (F0 m 324 ls []) := by
  obtain ⟨hx, hb, hr, hml, hown, hts, hlk, hnm, hK, hG⟩ := id C
  intro  w h H locs ls hW hl
  unfold f_an_doStep_324 at h
  cases h
  exact wo_vret hx hb hr hlk hW d_an_doStep_324
set_option maxHeartbeats 4000000 in
set_option maxRecDepth 100000 in
theorem j_an_doStep_196 {p : Program} {l : Launch} {e : Env} {s : State} {m : MethodId} {args : Array Value} {below : List Frame} {meth : Method} {c : Code} {D : va_G} {cA : Nat → ClassId} {base : Nat} {w' : WW} (C : cx b_an_doStep (none) 8 y_an_doStep.cls "doStep" p s m args meth c D cA base) {k_162 : Nat → Nat → Nat → Int32 → Int32 → WW → Option WW} (hk_162 : ∀ (y2 : Nat) (y3 : Nat) (y4 : Nat) (y5 : Int32) (y7 : Int32) (w : WW), k_162 y2 y3 y4 y5 y7 w = some w' → ∀ (H : Heap) (locs : List Loc) (ls : Array Slot), wo_S D cls cA base s w H locs → lv_has ls 8 [(2, .ref (base + y2)), (3, .ref (base + y3)), (4, .ref (base + y4)), (5, .int y5), (7, .int y7)] → W p l e rm_an_doStep s m args below meth c H locs 0 0 (MQ below (wo_Q D cls cA base none w') args s rm_an_doStep.cells rm_an_doStep.slots (wo_B base)) (F0 m 162 ls [])) : ∀ (y2 : Nat) (y3 : Nat) (y4 : Nat) (y5 : Int32) (y7 : Int32) (w : WW), f_an_doStep_196 k_162 y2 y3 y4 y5 y7 w = some w' → ∀ (H : Heap) (locs : List Loc) (ls : Array Slot), wo_S D cls cA base s w H locs → lv_has ls 8 [(2, .ref (base + y2)), (3, .ref (base + y3)), (4, .ref (base + y4)), (5, .int y5), (7, .int y7)] → W p l e rm_an_doStep s m args below meth c H locs 0 0 (MQ below (wo_Q D cls cA base none w') args s rm_an_doStep.cells rm_an_doStep.slots (wo_B base)) (F0 m 196 ls []) := by
  obtain ⟨hx, hb, hr, hml, hown, hts, hlk, hnm, hK, hG⟩ := id C
  intro y2 y3 y4 y5 y7 w h H locs ls hW hl
  unfold f_an_doStep_196 at h
  refine lv_iinc (v := (y7 + (1 : Int32))) (lv' := [(7, .int (y7 + (1 : Int32))), (2, .ref (base + y2)), (3, .ref (base + y3)), (4, .ref (base + y4)), (5, .int y5)]) hx hb d_an_doStep_196 hl (k := 4) rfl rfl (by decide) rfl (fun ls hl => ?_)
  refine lv_goto (tgt := 162) hx hb d_an_doStep_199 (by decide) ?_
  exact hk_162 y2 y3 y4 y5 (y7 + (1 : Int32)) w h _ _ _ hW (lv_sub hl [1, 2, 3, 4, 0] rfl)
set_option maxHeartbeats 4000000 in
set_option maxRecDepth 100000 in
theorem j_an_doStep_162 {p : Program} {l : Launch} {e : Env} {s : State} {m : MethodId} {args : Array Value} {below : List Frame} {meth : Method} {c : Code} {D : va_G} {cA : Nat → ClassId} {base : Nat} {w' : WW} (C : cx b_an_doStep (none) 8 y_an_doStep.cls "doStep" p s m args meth c D cA base)   : ∀ n : Nat, ∀ (y2 : Nat) (y3 : Nat) (y4 : Nat) (y5 : Int32) (y7 : Int32) (w : WW), f_an_doStep_162 n y2 y3 y4 y5 y7 w = some w' → ∀ (H : Heap) (locs : List Loc) (ls : Array Slot), wo_S D cls cA base s w H locs → lv_has ls 8 [(2, .ref (base + y2)), (3, .ref (base + y3)), (4, .ref (base + y4)), (5, .int y5), (7, .int y7)] → W p l e rm_an_doStep s m args below meth c H locs 0 0 (MQ below (wo_Q D cls cA base none w') args s rm_an_doStep.cells rm_an_doStep.slots (wo_B base)) (F0 m 162 ls []) := by
  obtain ⟨hx, hb, hr, hml, hown, hts, hlk, hnm, hK, hG⟩ := id C
  intro n
  induction n with
  | zero => intro y2 y3 y4 y5 y7 w h; cases h
  | succ n ih =>
    intro y2 y3 y4 y5 y7 w h H locs ls hW hl
    rw [f_an_doStep_162] at h
    refine lv_iload hx hb d_an_doStep_162 (lv_at hl 4 rfl) ?_
    refine lv_iconst (v := (4 : Int32)) hx hb d_an_doStep_164 (by decide) ?_
    refine lv_icmp_ge (tgt := 202) hx hb d_an_doStep_165 (by decide) (fun c27 => ?_) (fun c27 => ?_)
    · rw [if_pos c27] at h
      refine lv_aload_n hx hb d_an_doStep_202 rfl (lv_at hl 0 rfl) ?_
      refine lv_aload_n hx hb d_an_doStep_203 rfl (lv_at hl 1 rfl) ?_
      replace h := bs h
      obtain ⟨w28, hw28, h⟩ := h
      refine cv_an_122 (As := [.ref (base + y3)]) (rest := []) hx hb hml hown hts hK hG hW (c_va_copy l D cA base hw28) (kb_va_copy hw28) ⟨Nat.le_of_ble_eq_true rfl, Nat.le_of_ble_eq_true rfl⟩ ⟨Nat.le_of_ble_eq_true rfl, Nat.le_of_ble_eq_true rfl⟩ rfl hl.1 rfl (Nat.le_of_ble_eq_true rfl) d_an_doStep_204 (fun H locs hW => ?_)
      refine lv_goto (tgt := 324) hx hb d_an_doStep_207 (by decide) ?_
      exact j_an_doStep_324 C w28 h _ _ _ hW (lv_sub hl [] rfl)
    · rw [if_neg c27] at h
      refine lv_aload_n hx hb d_an_doStep_168 rfl (lv_at hl 0 rfl) ?_
      refine lv_iload hx hb d_an_doStep_169 (lv_at hl 4 rfl) ?_
      refine lv_i2l hx hb d_an_doStep_171 rfl ?_
      replace h := bs2 h
      obtain ⟨x30, w29, hw29, h⟩ := h
      refine cv_an_140 (As := [.long (Int32.toInt64 y7)]) (rest := []) hx hb hml hown hts hK hG hW (c_va_has l D cA base hw29) (kb_va_has hw29) ⟨Nat.le_of_ble_eq_true rfl, Nat.le_of_ble_eq_true rfl⟩ ⟨Nat.le_of_ble_eq_true rfl, Nat.le_of_ble_eq_true rfl⟩ rfl hl.1 rfl (Nat.le_of_ble_eq_true rfl) d_an_doStep_172 (fun H locs hW => ?_)
      refine lv_if_eq (tgt := 196) hx hb d_an_doStep_175 (by decide) (fun c31 => ?_) (fun c31 => ?_)
      · rw [if_pos c31] at h
        exact j_an_doStep_196 C ih y2 y3 y4 y5 y7 w29 h _ _ _ hW (lv_sub hl [0, 1, 2, 3, 4] rfl)
      · rw [if_neg c31] at h
        refine lv_aload_n hx hb d_an_doStep_178 rfl (lv_at hl 1 rfl) ?_
        refine lv_aload hx hb d_an_doStep_179 (lv_at hl 2 rfl) ?_
        replace h := bs h
        obtain ⟨x32, hx32, h⟩ := h
        refine gf_an_88 hx hb hts hown hK hG hW (gN_s hx32) d_an_doStep_181 ?_
        refine lv_bipush (v := (6 : Int32)) hx hb d_an_doStep_184 (by decide) ?_
        refine lv_iload hx hb d_an_doStep_186 (lv_at hl 3 rfl) ?_
        refine lv_iadd hx hb d_an_doStep_188 ?_
        refine lv_iload hx hb d_an_doStep_189 (lv_at hl 4 rfl) ?_
        refine lv_iadd hx hb d_an_doStep_191 ?_
        replace h := bs h
        obtain ⟨x33, hx33, h⟩ := h
        refine wo_aald hx hb hK hW (t := 4) rfl (rN_s hx33) d_an_doStep_192 ?_
        replace h := bs h
        obtain ⟨w34, hw34, h⟩ := h
        refine cv_an_144 (As := [.ref (base + x33)]) (rest := []) hx hb hml hown hts hK hG hW (c_va_join l D cA base hw34) (kb_va_join hw34) ⟨Nat.le_of_ble_eq_true rfl, Nat.le_of_ble_eq_true rfl⟩ ⟨Nat.le_of_ble_eq_true rfl, Nat.le_of_ble_eq_true rfl⟩ rfl hl.1 rfl (Nat.le_of_ble_eq_true rfl) d_an_doStep_193 (fun H locs hW => ?_)
        exact j_an_doStep_196 C ih y2 y3 y4 y5 y7 w34 h _ _ _ hW (lv_sub hl [0, 1, 2, 3, 4] rfl)
set_option maxHeartbeats 4000000 in
set_option maxRecDepth 100000 in
theorem c_an_doStep (l : Launch) (D : va_G) (cA : Nat → ClassId) (base : Nat) {a0 : Nat} {a1 : Int32} {a2 : Nat} {a3 : Nat} {a4 : Nat} {w w' : WW} (h : f_an_doStep a0 a1 a2 a3 a4 w = some w') : mt l D cls (wo_tys cA) cA base y_an_doStep (Cond.code y_an_doStep b_an_doStep 8 (none) :: gt) rm_an_doStep [.ref (base + a0), .int a1, .ref (base + a2), .ref (base + a3), .ref (base + a4)] w none w' rm_an_doStep.cells rm_an_doStep.slots := by
  refine mt_start (by decide) (Nat.le_of_ble_eq_true rfl) ?_
  intro p e s m below meth c ls hx hb hr hml hown hts hlk hnm hK hG hW hl
  have C : cx b_an_doStep (none) 8 y_an_doStep.cls "doStep" p s m [.ref (base + a0), .int a1, .ref (base + a2), .ref (base + a3), .ref (base + a4)].toArray meth c D cA base := ⟨hx, hb, hr, hml, hown, hts, hlk, hnm, hK, hG⟩
  have hl : lv_has ls 8 [(0, .ref (base + a0)), (1, .int a1), (2, .ref (base + a2)), (3, .ref (base + a3)), (4, .ref (base + a4))] := hl
  unfold f_an_doStep at h
  replace h := its h
  obtain ⟨-, h⟩ := h
  refine lv_aload_n hx hb d_an_doStep_0 rfl (lv_at hl 0 rfl) ?_
  replace h := bs h
  obtain ⟨x1, hx1, h⟩ := h
  refine gf_an_33 hx hb hts hown hK hG hW (gR_s hx1) d_an_doStep_1 ?_
  replace h := bs h
  obtain ⟨x2, ex2, h⟩ := h
  subst ex2
  replace h := bs h
  obtain ⟨x3, hx3, h⟩ := h
  refine gf_an_198 hx hb hts hown hK hG hW (gN_s hx3) d_an_doStep_4 ?_
  refine lv_iload_n hx hb d_an_doStep_7 rfl (lv_at hl 1 rfl) ?_
  replace h := bs h
  obtain ⟨x4, hx4, h⟩ := h
  refine wo_iald hx hb hK hW (t := 0) rfl hx4 d_an_doStep_8 ?_
  refine lv_istore (lv' := [(5, .int x4), (0, .ref (base + a0)), (1, .int a1), (2, .ref (base + a2)), (3, .ref (base + a3)), (4, .ref (base + a4))]) hx hb d_an_doStep_9 hl (by decide) rfl (fun ls hl => ?_)
  refine lv_aload_n hx hb d_an_doStep_11 rfl (lv_at hl 1 rfl) ?_
  replace h := bs h
  obtain ⟨x5, hx5, h⟩ := h
  refine gf_an_33 hx hb hts hown hK hG hW (gR_s hx5) d_an_doStep_12 ?_
  replace h := bs h
  obtain ⟨x6, ex6, h⟩ := h
  subst ex6
  replace h := bs h
  obtain ⟨x7, hx7, h⟩ := h
  refine gf_an_242 hx hb hts hown hK hG hW (gN_s hx7) d_an_doStep_15 ?_
  refine lv_iload_n hx hb d_an_doStep_18 rfl (lv_at hl 2 rfl) ?_
  replace h := bs h
  obtain ⟨x8, hx8, h⟩ := h
  refine wo_iald hx hb hK hW (t := 0) rfl hx8 d_an_doStep_19 ?_
  refine lv_istore (lv' := [(6, .int x8), (5, .int x4), (0, .ref (base + a0)), (1, .int a1), (2, .ref (base + a2)), (3, .ref (base + a3)), (4, .ref (base + a4))]) hx hb d_an_doStep_20 hl (by decide) rfl (fun ls hl => ?_)
  refine lv_aload_n hx hb d_an_doStep_22 rfl (lv_at hl 2 rfl) ?_
  replace h := bs h
  obtain ⟨x9, hx9, h⟩ := h
  refine gf_an_33 hx hb hts hown hK hG hW (gR_s hx9) d_an_doStep_23 ?_
  replace h := bs h
  obtain ⟨x10, ex10, h⟩ := h
  subst ex10
  replace h := bs h
  obtain ⟨x11, hx11, h⟩ := h
  refine gf_an_195 hx hb hts hown hK hG hW (gN_s hx11) d_an_doStep_26 ?_
  refine lv_iload_n hx hb d_an_doStep_29 rfl (lv_at hl 3 rfl) ?_
  replace h := bs h
  obtain ⟨x12, hx12, h⟩ := h
  refine wo_iald hx hb hK hW (t := 0) rfl hx12 d_an_doStep_30 ?_
  by_cases c13 : x12 = (1 : Int32)
  · rw [if_pos c13] at h
    refine lv_lookup (off := 73) (tgt := 104) hx hb d_an_doStep_31 (by decide) (by rw [c13]; rfl) (by decide) ?_
    refine lv_aload_n hx hb d_an_doStep_104 rfl (lv_at hl 4 rfl) ?_
    refine lv_iload hx hb d_an_doStep_105 (lv_at hl 1 rfl) ?_
    refine lv_i2l hx hb d_an_doStep_107 rfl ?_
    replace h := bs h
    obtain ⟨w14, hw14, h⟩ := h
    refine cv_an_245 (As := [.long (Int32.toInt64 x4)]) (rest := []) hx hb hml hown hts hK hG hW (c_va_setOne l D cA base hw14) (kb_va_setOne hw14) ⟨Nat.le_of_ble_eq_true rfl, Nat.le_of_ble_eq_true rfl⟩ ⟨Nat.le_of_ble_eq_true rfl, Nat.le_of_ble_eq_true rfl⟩ rfl hl.1 rfl (Nat.le_of_ble_eq_true rfl) d_an_doStep_108 (fun H locs hW => ?_)
    refine lv_goto (tgt := 324) hx hb d_an_doStep_111 (by decide) ?_
    exact j_an_doStep_324 C w14 h _ _ _ hW (lv_sub hl [] rfl)
  · rw [if_neg c13] at h
    by_cases c15 : x12 = (2 : Int32)
    · rw [if_pos c15] at h
      refine lv_lookup (off := 83) (tgt := 114) hx hb d_an_doStep_31 (by decide) (by rw [c15]; rfl) (by decide) ?_
      refine lv_aload_n hx hb d_an_doStep_114 rfl (lv_at hl 4 rfl) ?_
      refine lv_aload hx hb d_an_doStep_115 (lv_at hl 6 rfl) ?_
      replace h := bs h
      obtain ⟨x16, hx16, h⟩ := h
      refine gf_an_88 hx hb hts hown hK hG hW (gN_s hx16) d_an_doStep_117 ?_
      refine lv_iload hx hb d_an_doStep_120 (lv_at hl 1 rfl) ?_
      replace h := bs h
      obtain ⟨x17, hx17, h⟩ := h
      refine wo_aald hx hb hK hW (t := 4) rfl (rN_s hx17) d_an_doStep_122 ?_
      replace h := bs h
      obtain ⟨w18, hw18, h⟩ := h
      refine cv_an_122 (As := [.ref (base + x17)]) (rest := []) hx hb hml hown hts hK hG hW (c_va_copy l D cA base hw18) (kb_va_copy hw18) ⟨Nat.le_of_ble_eq_true rfl, Nat.le_of_ble_eq_true rfl⟩ ⟨Nat.le_of_ble_eq_true rfl, Nat.le_of_ble_eq_true rfl⟩ rfl hl.1 rfl (Nat.le_of_ble_eq_true rfl) d_an_doStep_123 (fun H locs hW => ?_)
      refine lv_aload_n hx hb d_an_doStep_126 rfl (lv_at hl 2 rfl) ?_
      refine lv_aload hx hb d_an_doStep_127 (lv_at hl 6 rfl) ?_
      replace h := bs h
      obtain ⟨x19, hx19, h⟩ := h
      refine gf_an_97 hx hb hts hown hK hG hW (gN_s hx19) d_an_doStep_129 ?_
      refine lv_iload hx hb d_an_doStep_132 (lv_at hl 1 rfl) ?_
      replace h := bs h
      obtain ⟨x20, hx20, h⟩ := h
      refine wo_zald hx hb hK hW (t := 2) rfl hx20 d_an_doStep_134 ?_
      refine lv_iconst (v := (1 : Int32)) hx hb d_an_doStep_135 (by decide) ?_
      refine lv_iload hx hb d_an_doStep_136 (lv_at hl 0 rfl) ?_
      replace h := bs h
      obtain ⟨w21, hw21, h⟩ := h
      refine cv_an_136 (As := [.int x20, .int (1 : Int32), .int x8]) (rest := []) hx hb hml hown hts hK hG hW (c_an_warnIf l D cA base hw21) (kb_an_warnIf hw21) ⟨Nat.le_of_ble_eq_true rfl, Nat.le_of_ble_eq_true rfl⟩ ⟨Nat.le_of_ble_eq_true rfl, Nat.le_of_ble_eq_true rfl⟩ rfl hl.1 rfl (Nat.le_of_ble_eq_true rfl) d_an_doStep_138 (fun H locs hW => ?_)
      refine lv_goto (tgt := 324) hx hb d_an_doStep_141 (by decide) ?_
      exact j_an_doStep_324 C w21 h _ _ _ hW (lv_sub hl [] rfl)
    · rw [if_neg c15] at h
      by_cases c22 : x12 = (3 : Int32)
      · rw [if_pos c22] at h
        refine lv_lookup (off := 113) (tgt := 144) hx hb d_an_doStep_31 (by decide) (by rw [c22]; rfl) (by decide) ?_
        refine lv_aload_n hx hb d_an_doStep_144 rfl (lv_at hl 2 rfl) ?_
        refine lv_aload_n hx hb d_an_doStep_145 rfl (lv_at hl 4 rfl) ?_
        replace h := bs2 h
        obtain ⟨x24, w23, hw23, h⟩ := h
        refine cv_an_129 (As := []) (rest := [.ref (base + a0)]) hx hb hml hown hts hK hG hW (c_va_goesBeyondCells l D cA base hw23) (kb_va_goesBeyondCells hw23) ⟨Nat.le_of_ble_eq_true rfl, Nat.le_of_ble_eq_true rfl⟩ ⟨Nat.le_of_ble_eq_true rfl, Nat.le_of_ble_eq_true rfl⟩ rfl hl.1 rfl (Nat.le_of_ble_eq_true rfl) d_an_doStep_146 (fun H locs hW => ?_)
        refine lv_iconst (v := (2 : Int32)) hx hb d_an_doStep_149 (by decide) ?_
        refine lv_iload hx hb d_an_doStep_150 (lv_at hl 0 rfl) ?_
        replace h := bs h
        obtain ⟨w25, hw25, h⟩ := h
        refine cv_an_136 (As := [.int x24, .int (2 : Int32), .int x8]) (rest := []) hx hb hml hown hts hK hG hW (c_an_warnIf l D cA base hw25) (kb_an_warnIf hw25) ⟨Nat.le_of_ble_eq_true rfl, Nat.le_of_ble_eq_true rfl⟩ ⟨Nat.le_of_ble_eq_true rfl, Nat.le_of_ble_eq_true rfl⟩ rfl hl.1 rfl (Nat.le_of_ble_eq_true rfl) d_an_doStep_152 (fun H locs hW => ?_)
        refine lv_aload_n hx hb d_an_doStep_155 rfl (lv_at hl 5 rfl) ?_
        replace h := bs h
        obtain ⟨w26, hw26, h⟩ := h
        refine cv_an_248 (As := []) (rest := []) hx hb hml hown hts hK hG hW (c_va_setNothing l D cA base hw26) (kb_va_setNothing hw26) ⟨Nat.le_of_ble_eq_true rfl, Nat.le_of_ble_eq_true rfl⟩ ⟨Nat.le_of_ble_eq_true rfl, Nat.le_of_ble_eq_true rfl⟩ rfl hl.1 rfl (Nat.le_of_ble_eq_true rfl) d_an_doStep_156 (fun H locs hW => ?_)
        refine lv_iconst (v := (0 : Int32)) hx hb d_an_doStep_159 (by decide) ?_
        refine lv_istore (lv' := [(7, .int (0 : Int32)), (6, .int x8), (5, .int x4), (0, .ref (base + a0)), (1, .int a1), (2, .ref (base + a2)), (3, .ref (base + a3)), (4, .ref (base + a4))]) hx hb d_an_doStep_160 hl (by decide) rfl (fun ls hl => ?_)
        exact j_an_doStep_162 C KK a2 a3 a4 x4 (0 : Int32) w26 h _ _ _ hW (lv_sub hl [5, 6, 7, 2, 0] rfl)
      · rw [if_neg c22] at h
        by_cases c35 : x12 = (42 : Int32)
        · rw [if_pos c35] at h
          refine lv_lookup (off := 234) (tgt := 265) hx hb d_an_doStep_31 (by decide) (by rw [c35]; rfl) (by decide) ?_
          refine lv_aload_n hx hb d_an_doStep_265 rfl (lv_at hl 2 rfl) ?_
          refine lv_aload_n hx hb d_an_doStep_266 rfl (lv_at hl 4 rfl) ?_
          refine lv_aload_n hx hb d_an_doStep_267 rfl (lv_at hl 5 rfl) ?_
          replace h := bs2 h
          obtain ⟨x37, w36, hw36, h⟩ := h
          refine cv_an_258 (As := [.ref (base + a3)]) (rest := [.ref (base + a0)]) hx hb hml hown hts hK hG hW (c_va_multiply l D cA base hw36) (kb_va_multiply hw36) ⟨Nat.le_of_ble_eq_true rfl, Nat.le_of_ble_eq_true rfl⟩ ⟨Nat.le_of_ble_eq_true rfl, Nat.le_of_ble_eq_true rfl⟩ rfl hl.1 rfl (Nat.le_of_ble_eq_true rfl) d_an_doStep_268 (fun H locs hW => ?_)
          refine lv_iconst (v := (3 : Int32)) hx hb d_an_doStep_271 (by decide) ?_
          refine lv_iload hx hb d_an_doStep_272 (lv_at hl 0 rfl) ?_
          replace h := bs h
          obtain ⟨w38, hw38, h⟩ := h
          refine cv_an_136 (As := [.int x37, .int (3 : Int32), .int x8]) (rest := []) hx hb hml hown hts hK hG hW (c_an_warnIf l D cA base hw38) (kb_an_warnIf hw38) ⟨Nat.le_of_ble_eq_true rfl, Nat.le_of_ble_eq_true rfl⟩ ⟨Nat.le_of_ble_eq_true rfl, Nat.le_of_ble_eq_true rfl⟩ rfl hl.1 rfl (Nat.le_of_ble_eq_true rfl) d_an_doStep_274 (fun H locs hW => ?_)
          refine lv_goto (tgt := 324) hx hb d_an_doStep_277 (by decide) ?_
          exact j_an_doStep_324 C w38 h _ _ _ hW (lv_sub hl [] rfl)
        · rw [if_neg c35] at h
          by_cases c39 : x12 = (43 : Int32)
          · rw [if_pos c39] at h
            refine lv_lookup (off := 204) (tgt := 235) hx hb d_an_doStep_31 (by decide) (by rw [c39]; rfl) (by decide) ?_
            refine lv_aload_n hx hb d_an_doStep_235 rfl (lv_at hl 2 rfl) ?_
            refine lv_aload_n hx hb d_an_doStep_236 rfl (lv_at hl 4 rfl) ?_
            refine lv_aload_n hx hb d_an_doStep_237 rfl (lv_at hl 5 rfl) ?_
            replace h := bs2 h
            obtain ⟨x41, w40, hw40, h⟩ := h
            refine cv_an_255 (As := [.ref (base + a3)]) (rest := [.ref (base + a0)]) hx hb hml hown hts hK hG hW (c_va_add l D cA base hw40) (kb_va_add hw40) ⟨Nat.le_of_ble_eq_true rfl, Nat.le_of_ble_eq_true rfl⟩ ⟨Nat.le_of_ble_eq_true rfl, Nat.le_of_ble_eq_true rfl⟩ rfl hl.1 rfl (Nat.le_of_ble_eq_true rfl) d_an_doStep_238 (fun H locs hW => ?_)
            refine lv_iconst (v := (3 : Int32)) hx hb d_an_doStep_241 (by decide) ?_
            refine lv_iload hx hb d_an_doStep_242 (lv_at hl 0 rfl) ?_
            replace h := bs h
            obtain ⟨w42, hw42, h⟩ := h
            refine cv_an_136 (As := [.int x41, .int (3 : Int32), .int x8]) (rest := []) hx hb hml hown hts hK hG hW (c_an_warnIf l D cA base hw42) (kb_an_warnIf hw42) ⟨Nat.le_of_ble_eq_true rfl, Nat.le_of_ble_eq_true rfl⟩ ⟨Nat.le_of_ble_eq_true rfl, Nat.le_of_ble_eq_true rfl⟩ rfl hl.1 rfl (Nat.le_of_ble_eq_true rfl) d_an_doStep_244 (fun H locs hW => ?_)
            refine lv_goto (tgt := 324) hx hb d_an_doStep_247 (by decide) ?_
            exact j_an_doStep_324 C w42 h _ _ _ hW (lv_sub hl [] rfl)
          · rw [if_neg c39] at h
            by_cases c43 : x12 = (45 : Int32)
            · rw [if_pos c43] at h
              refine lv_lookup (off := 219) (tgt := 250) hx hb d_an_doStep_31 (by decide) (by rw [c43]; rfl) (by decide) ?_
              refine lv_aload_n hx hb d_an_doStep_250 rfl (lv_at hl 2 rfl) ?_
              refine lv_aload_n hx hb d_an_doStep_251 rfl (lv_at hl 4 rfl) ?_
              refine lv_aload_n hx hb d_an_doStep_252 rfl (lv_at hl 5 rfl) ?_
              replace h := bs2 h
              obtain ⟨x45, w44, hw44, h⟩ := h
              refine cv_an_251 (As := [.ref (base + a3)]) (rest := [.ref (base + a0)]) hx hb hml hown hts hK hG hW (c_va_subtract l D cA base hw44) (kb_va_subtract hw44) ⟨Nat.le_of_ble_eq_true rfl, Nat.le_of_ble_eq_true rfl⟩ ⟨Nat.le_of_ble_eq_true rfl, Nat.le_of_ble_eq_true rfl⟩ rfl hl.1 rfl (Nat.le_of_ble_eq_true rfl) d_an_doStep_253 (fun H locs hW => ?_)
              refine lv_iconst (v := (3 : Int32)) hx hb d_an_doStep_256 (by decide) ?_
              refine lv_iload hx hb d_an_doStep_257 (lv_at hl 0 rfl) ?_
              replace h := bs h
              obtain ⟨w46, hw46, h⟩ := h
              refine cv_an_136 (As := [.int x45, .int (3 : Int32), .int x8]) (rest := []) hx hb hml hown hts hK hG hW (c_an_warnIf l D cA base hw46) (kb_an_warnIf hw46) ⟨Nat.le_of_ble_eq_true rfl, Nat.le_of_ble_eq_true rfl⟩ ⟨Nat.le_of_ble_eq_true rfl, Nat.le_of_ble_eq_true rfl⟩ rfl hl.1 rfl (Nat.le_of_ble_eq_true rfl) d_an_doStep_259 (fun H locs hW => ?_)
              refine lv_goto (tgt := 324) hx hb d_an_doStep_262 (by decide) ?_
              exact j_an_doStep_324 C w46 h _ _ _ hW (lv_sub hl [] rfl)
            · rw [if_neg c43] at h
              by_cases c47 : x12 = (47 : Int32)
              · rw [if_pos c47] at h
                refine lv_lookup (off := 249) (tgt := 280) hx hb d_an_doStep_31 (by decide) (by rw [c47]; rfl) (by decide) ?_
                refine lv_aload_n hx hb d_an_doStep_280 rfl (lv_at hl 2 rfl) ?_
                refine lv_aload_n hx hb d_an_doStep_281 rfl (lv_at hl 5 rfl) ?_
                refine lv_lconst (v := (0 : Int64)) hx hb d_an_doStep_282 (by decide) ?_
                replace h := bs2 h
                obtain ⟨x49, w48, hw48, h⟩ := h
                refine cv_an_140 (As := [.long (0 : Int64)]) (rest := [.ref (base + a0)]) hx hb hml hown hts hK hG hW (c_va_has l D cA base hw48) (kb_va_has hw48) ⟨Nat.le_of_ble_eq_true rfl, Nat.le_of_ble_eq_true rfl⟩ ⟨Nat.le_of_ble_eq_true rfl, Nat.le_of_ble_eq_true rfl⟩ rfl hl.1 rfl (Nat.le_of_ble_eq_true rfl) d_an_doStep_283 (fun H locs hW => ?_)
                refine lv_iconst (v := (4 : Int32)) hx hb d_an_doStep_286 (by decide) ?_
                refine lv_iload hx hb d_an_doStep_287 (lv_at hl 0 rfl) ?_
                replace h := bs h
                obtain ⟨w50, hw50, h⟩ := h
                refine cv_an_136 (As := [.int x49, .int (4 : Int32), .int x8]) (rest := []) hx hb hml hown hts hK hG hW (c_an_warnIf l D cA base hw50) (kb_an_warnIf hw50) ⟨Nat.le_of_ble_eq_true rfl, Nat.le_of_ble_eq_true rfl⟩ ⟨Nat.le_of_ble_eq_true rfl, Nat.le_of_ble_eq_true rfl⟩ rfl hl.1 rfl (Nat.le_of_ble_eq_true rfl) d_an_doStep_289 (fun H locs hW => ?_)
                refine lv_aload_n hx hb d_an_doStep_292 rfl (lv_at hl 2 rfl) ?_
                refine lv_aload_n hx hb d_an_doStep_293 rfl (lv_at hl 4 rfl) ?_
                refine lv_aload_n hx hb d_an_doStep_294 rfl (lv_at hl 5 rfl) ?_
                replace h := bs2 h
                obtain ⟨x52, w51, hw51, h⟩ := h
                refine cv_an_261 (As := [.ref (base + a3)]) (rest := [.ref (base + a0)]) hx hb hml hown hts hK hG hW (c_va_divide l D cA base hw51) (kb_va_divide hw51) ⟨Nat.le_of_ble_eq_true rfl, Nat.le_of_ble_eq_true rfl⟩ ⟨Nat.le_of_ble_eq_true rfl, Nat.le_of_ble_eq_true rfl⟩ rfl hl.1 rfl (Nat.le_of_ble_eq_true rfl) d_an_doStep_295 (fun H locs hW => ?_)
                refine lv_iconst (v := (3 : Int32)) hx hb d_an_doStep_298 (by decide) ?_
                refine lv_iload hx hb d_an_doStep_299 (lv_at hl 0 rfl) ?_
                replace h := bs h
                obtain ⟨w53, hw53, h⟩ := h
                refine cv_an_136 (As := [.int x52, .int (3 : Int32), .int x8]) (rest := []) hx hb hml hown hts hK hG hW (c_an_warnIf l D cA base hw53) (kb_an_warnIf hw53) ⟨Nat.le_of_ble_eq_true rfl, Nat.le_of_ble_eq_true rfl⟩ ⟨Nat.le_of_ble_eq_true rfl, Nat.le_of_ble_eq_true rfl⟩ rfl hl.1 rfl (Nat.le_of_ble_eq_true rfl) d_an_doStep_301 (fun H locs hW => ?_)
                refine lv_goto (tgt := 324) hx hb d_an_doStep_304 (by decide) ?_
                exact j_an_doStep_324 C w53 h _ _ _ hW (lv_sub hl [] rfl)
              · rw [if_neg c47] at h
                by_cases c54 : x12 = (259 : Int32)
                · rw [if_pos c54] at h
                  refine lv_lookup (off := 179) (tgt := 210) hx hb d_an_doStep_31 (by decide) (by rw [c54]; rfl) (by decide) ?_
                  refine lv_aload_n hx hb d_an_doStep_210 rfl (lv_at hl 5 rfl) ?_
                  refine lv_aload_n hx hb d_an_doStep_211 rfl (lv_at hl 4 rfl) ?_
                  replace h := bs h
                  obtain ⟨w55, hw55, h⟩ := h
                  refine cv_an_122 (As := [.ref (base + a2)]) (rest := []) hx hb hml hown hts hK hG hW (c_va_copy l D cA base hw55) (kb_va_copy hw55) ⟨Nat.le_of_ble_eq_true rfl, Nat.le_of_ble_eq_true rfl⟩ ⟨Nat.le_of_ble_eq_true rfl, Nat.le_of_ble_eq_true rfl⟩ rfl hl.1 rfl (Nat.le_of_ble_eq_true rfl) d_an_doStep_212 (fun H locs hW => ?_)
                  refine lv_aload_n hx hb d_an_doStep_215 rfl (lv_at hl 4 rfl) ?_
                  refine lv_lconst (v := (0 : Int64)) hx hb d_an_doStep_216 (by decide) ?_
                  replace h := bs h
                  obtain ⟨w56, hw56, h⟩ := h
                  refine cv_an_245 (As := [.long (0 : Int64)]) (rest := []) hx hb hml hown hts hK hG hW (c_va_setOne l D cA base hw56) (kb_va_setOne hw56) ⟨Nat.le_of_ble_eq_true rfl, Nat.le_of_ble_eq_true rfl⟩ ⟨Nat.le_of_ble_eq_true rfl, Nat.le_of_ble_eq_true rfl⟩ rfl hl.1 rfl (Nat.le_of_ble_eq_true rfl) d_an_doStep_217 (fun H locs hW => ?_)
                  refine lv_aload_n hx hb d_an_doStep_220 rfl (lv_at hl 2 rfl) ?_
                  refine lv_aload_n hx hb d_an_doStep_221 rfl (lv_at hl 4 rfl) ?_
                  refine lv_aload_n hx hb d_an_doStep_222 rfl (lv_at hl 5 rfl) ?_
                  replace h := bs2 h
                  obtain ⟨x58, w57, hw57, h⟩ := h
                  refine cv_an_251 (As := [.ref (base + a3)]) (rest := [.ref (base + a0)]) hx hb hml hown hts hK hG hW (c_va_subtract l D cA base hw57) (kb_va_subtract hw57) ⟨Nat.le_of_ble_eq_true rfl, Nat.le_of_ble_eq_true rfl⟩ ⟨Nat.le_of_ble_eq_true rfl, Nat.le_of_ble_eq_true rfl⟩ rfl hl.1 rfl (Nat.le_of_ble_eq_true rfl) d_an_doStep_223 (fun H locs hW => ?_)
                  refine lv_iconst (v := (3 : Int32)) hx hb d_an_doStep_226 (by decide) ?_
                  refine lv_iload hx hb d_an_doStep_227 (lv_at hl 0 rfl) ?_
                  replace h := bs h
                  obtain ⟨w59, hw59, h⟩ := h
                  refine cv_an_136 (As := [.int x58, .int (3 : Int32), .int x8]) (rest := []) hx hb hml hown hts hK hG hW (c_an_warnIf l D cA base hw59) (kb_an_warnIf hw59) ⟨Nat.le_of_ble_eq_true rfl, Nat.le_of_ble_eq_true rfl⟩ ⟨Nat.le_of_ble_eq_true rfl, Nat.le_of_ble_eq_true rfl⟩ rfl hl.1 rfl (Nat.le_of_ble_eq_true rfl) d_an_doStep_229 (fun H locs hW => ?_)
                  refine lv_goto (tgt := 324) hx hb d_an_doStep_232 (by decide) ?_
                  exact j_an_doStep_324 C w59 h _ _ _ hW (lv_sub hl [] rfl)
                · rw [if_neg c54] at h
                  refine lv_lookup (off := 276) (tgt := 307) hx hb d_an_doStep_31 (by decide) (by rw [lv_osw c13 (show (1 : Int32).toInt = 1 from rfl)]; rw [lv_osw c15 (show (2 : Int32).toInt = 2 from rfl)]; rw [lv_osw c22 (show (3 : Int32).toInt = 3 from rfl)]; rw [lv_osw c35 (show (42 : Int32).toInt = 42 from rfl)]; rw [lv_osw c39 (show (43 : Int32).toInt = 43 from rfl)]; rw [lv_osw c43 (show (45 : Int32).toInt = 45 from rfl)]; rw [lv_osw c47 (show (47 : Int32).toInt = 47 from rfl)]; rw [lv_osw c54 (show (259 : Int32).toInt = 259 from rfl)]; rfl) (by decide) ?_
                  refine lv_aload_n hx hb d_an_doStep_307 rfl (lv_at hl 2 rfl) ?_
                  refine lv_aload_n hx hb d_an_doStep_308 rfl (lv_at hl 5 rfl) ?_
                  refine lv_lconst (v := (0 : Int64)) hx hb d_an_doStep_309 (by decide) ?_
                  replace h := bs2 h
                  obtain ⟨x61, w60, hw60, h⟩ := h
                  refine cv_an_140 (As := [.long (0 : Int64)]) (rest := [.ref (base + a0)]) hx hb hml hown hts hK hG hW (c_va_has l D cA base hw60) (kb_va_has hw60) ⟨Nat.le_of_ble_eq_true rfl, Nat.le_of_ble_eq_true rfl⟩ ⟨Nat.le_of_ble_eq_true rfl, Nat.le_of_ble_eq_true rfl⟩ rfl hl.1 rfl (Nat.le_of_ble_eq_true rfl) d_an_doStep_310 (fun H locs hW => ?_)
                  refine lv_iconst (v := (4 : Int32)) hx hb d_an_doStep_313 (by decide) ?_
                  refine lv_iload hx hb d_an_doStep_314 (lv_at hl 0 rfl) ?_
                  replace h := bs h
                  obtain ⟨w62, hw62, h⟩ := h
                  refine cv_an_136 (As := [.int x61, .int (4 : Int32), .int x8]) (rest := []) hx hb hml hown hts hK hG hW (c_an_warnIf l D cA base hw62) (kb_an_warnIf hw62) ⟨Nat.le_of_ble_eq_true rfl, Nat.le_of_ble_eq_true rfl⟩ ⟨Nat.le_of_ble_eq_true rfl, Nat.le_of_ble_eq_true rfl⟩ rfl hl.1 rfl (Nat.le_of_ble_eq_true rfl) d_an_doStep_316 (fun H locs hW => ?_)
                  refine lv_aload_n hx hb d_an_doStep_319 rfl (lv_at hl 4 rfl) ?_
                  refine lv_aload_n hx hb d_an_doStep_320 rfl (lv_at hl 5 rfl) ?_
                  replace h := bs h
                  obtain ⟨w63, hw63, h⟩ := h
                  refine cv_an_264 (As := [.ref (base + a3)]) (rest := []) hx hb hml hown hts hK hG hW (c_va_remainder l D cA base hw63) (kb_va_remainder hw63) ⟨Nat.le_of_ble_eq_true rfl, Nat.le_of_ble_eq_true rfl⟩ ⟨Nat.le_of_ble_eq_true rfl, Nat.le_of_ble_eq_true rfl⟩ rfl hl.1 rfl (Nat.le_of_ble_eq_true rfl) d_an_doStep_321 (fun H locs hW => ?_)
                  exact j_an_doStep_324 C w63 h _ _ _ hW (lv_sub hl [] rfl)
