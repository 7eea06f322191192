/-! Methods as functions, and their contracts (by wip/gen/run.py). -/
theorem cv_an_54 {p : Program} {l : Launch} {e : Env} {R : Room} {s : State} {m : MethodId} {args : Array Value} {below : List Frame} {meth : Method} {c : Code} {H : Heap} {locs : List Loc} {cells slots : Nat} {Q : State → Prop} {D : va_G} {cA : Nat → ClassId} {base : Nat} {w w' : WW} {cc : ByteArray} {pc nL : Nat} {ls : Array Slot} {rest st0 As : List Value} {ov : Option Value} {b : Nat} (hx : p.tables.exec = Jvm.exec) (hb : c.code = cc) (hml : c.maxLocals = nL) (hown : s.vm.findClass Rc_an = some m.cls) (hts : ∀ w ∈ gt, w.before args s = true) (hK : va_K D cls (wo_tys cA) s) (hG : wo_G cA base s) (hW : wo_S D cls cA base s w H locs) (hM : mt l D cls (wo_tys cA) cA base y_sa_setFirst (Cond.code y_sa_setFirst b_sa_setFirst 2 (none) :: gt) rm_sa_setFirst (.ref (base + b) :: As) w ov w' rm_sa_setFirst.cells rm_sa_setFirst.slots) (hkb : kb w b 7 = true) (hR : rm_sa_setFirst.frames + 1 ≤ R.frames ∧ 8 + (2 + 11) + rm_sa_setFirst.locals ≤ R.locals) (hf : cells + rm_sa_setFirst.cells ≤ R.cells ∧ slots + rm_sa_setFirst.slots ≤ R.slots) (hn : As.length = 0) (hsz : ls.size = nL) (hst : st0 = As.reverse ++ .ref (base + b) :: rest) (hcat : (rest.map fun v => v.category).sum ≤ 8) (hdg : decode cc pc = .ok (.invokevirtual 54, 3)) (kk : ∀ (H1 : Heap) (locs1 : List Loc), wo_S D cls cA base s w' H1 locs1 → W p l e R s m args below meth c H1 locs1 (cells + rm_sa_setFirst.cells) (slots + rm_sa_setFirst.slots) Q (F0 m (pc + 3) ls (ov.toList ++ rest))) : W p l e R s m args below meth c H locs cells slots Q (F0 m pc ls st0) :=
  wo_callV (C := Rc_sa) hx hb hml hown hts hK hG hW hM hkb rfl (gt_of (i := 893) (by decide +kernel) (by decide +kernel)) (gt_of (i := 894) (by decide +kernel) (by decide +kernel)) (gt_of (i := 895) (by decide +kernel) (by decide +kernel)) (gt_of (i := 8) (by decide +kernel) (by decide +kernel)) (gt_of (i := 896) (by decide +kernel) (by decide +kernel)) (by decide +kernel) hR hf hn hsz hst hcat hdg kk
abbrev b_an_goThrough : ByteArray := prog_2_method_2_code
def y_an_goThrough : MethodName := ⟨"AlarmForge$Analyser", "goThrough", "(LAlarmForge$Program;II)V"⟩
def rm_an_goThrough : Room := { frames := 72, cells := 0, slots := 0, locals := 1938 }
theorem d_an_goThrough_0 : decode b_an_goThrough 0 = .ok (.aload_n 0, 1) := by decide +kernel
theorem d_an_goThrough_1 : decode b_an_goThrough 1 = .ok (.aload_n 1, 1) := by decide +kernel
theorem d_an_goThrough_2 : decode b_an_goThrough 2 = .ok (.putfield 33, 3) := by decide +kernel
theorem d_an_goThrough_5 : decode b_an_goThrough 5 = .ok (.aload_n 0, 1) := by decide +kernel
theorem d_an_goThrough_6 : decode b_an_goThrough 6 = .ok (.iload_n 2, 1) := by decide +kernel
theorem d_an_goThrough_7 : decode b_an_goThrough 7 = .ok (.putfield 37, 3) := by decide +kernel
theorem d_an_goThrough_10 : decode b_an_goThrough 10 = .ok (.aload_n 0, 1) := by decide +kernel
theorem d_an_goThrough_11 : decode b_an_goThrough 11 = .ok (.iload_n 3, 1) := by decide +kernel
theorem d_an_goThrough_12 : decode b_an_goThrough 12 = .ok (.putfield 41, 3) := by decide +kernel
theorem d_an_goThrough_15 : decode b_an_goThrough 15 = .ok (.iconst 0, 1) := by decide +kernel
theorem d_an_goThrough_16 : decode b_an_goThrough 16 = .ok (.istore 4, 2) := by decide +kernel
theorem d_an_goThrough_18 : decode b_an_goThrough 18 = .ok (.iload 4, 2) := by decide +kernel
theorem d_an_goThrough_20 : decode b_an_goThrough 20 = .ok (.sipush (200), 3) := by decide +kernel
theorem d_an_goThrough_23 : decode b_an_goThrough 23 = .ok (.if_icmp .ge (17), 3) := by decide +kernel
theorem d_an_goThrough_26 : decode b_an_goThrough 26 = .ok (.aload_n 0, 1) := by decide +kernel
theorem d_an_goThrough_27 : decode b_an_goThrough 27 = .ok (.getfield 29, 3) := by decide +kernel
theorem d_an_goThrough_30 : decode b_an_goThrough 30 = .ok (.iload 4, 2) := by decide +kernel
theorem d_an_goThrough_32 : decode b_an_goThrough 32 = .ok (.iconst 0, 1) := by decide +kernel
theorem d_an_goThrough_33 : decode b_an_goThrough 33 = .ok (.iastore, 1) := by decide +kernel
theorem d_an_goThrough_34 : decode b_an_goThrough 34 = .ok (.iinc 4 (1), 3) := by decide +kernel
theorem d_an_goThrough_37 : decode b_an_goThrough 37 = .ok (.goto (-19), 3) := by decide +kernel
theorem d_an_goThrough_40 : decode b_an_goThrough 40 = .ok (.aload_n 0, 1) := by decide +kernel
theorem d_an_goThrough_41 : decode b_an_goThrough 41 = .ok (.iconst 0, 1) := by decide +kernel
theorem d_an_goThrough_42 : decode b_an_goThrough 42 = .ok (.putfield 44, 3) := by decide +kernel
theorem d_an_goThrough_45 : decode b_an_goThrough 45 = .ok (.aload_n 0, 1) := by decide +kernel
theorem d_an_goThrough_46 : decode b_an_goThrough 46 = .ok (.iconst 0, 1) := by decide +kernel
theorem d_an_goThrough_47 : decode b_an_goThrough 47 = .ok (.putfield 47, 3) := by decide +kernel
theorem d_an_goThrough_50 : decode b_an_goThrough 50 = .ok (.aload_n 0, 1) := by decide +kernel
theorem d_an_goThrough_51 : decode b_an_goThrough 51 = .ok (.iconst 1, 1) := by decide +kernel
theorem d_an_goThrough_52 : decode b_an_goThrough 52 = .ok (.putfield 50, 3) := by decide +kernel
theorem d_an_goThrough_55 : decode b_an_goThrough 55 = .ok (.aload_n 0, 1) := by decide +kernel
theorem d_an_goThrough_56 : decode b_an_goThrough 56 = .ok (.getfield 12, 3) := by decide +kernel
theorem d_an_goThrough_59 : decode b_an_goThrough 59 = .ok (.invokevirtual 54, 3) := by decide +kernel
theorem d_an_goThrough_62 : decode b_an_goThrough 62 = .ok (.aload_n 0, 1) := by decide +kernel
theorem d_an_goThrough_63 : decode b_an_goThrough 63 = .ok (.aload_n 0, 1) := by decide +kernel
theorem d_an_goThrough_64 : decode b_an_goThrough 64 = .ok (.getfield 33, 3) := by decide +kernel
theorem d_an_goThrough_67 : decode b_an_goThrough 67 = .ok (.getfield 57, 3) := by decide +kernel
theorem d_an_goThrough_70 : decode b_an_goThrough 70 = .ok (.aload_n 0, 1) := by decide +kernel
theorem d_an_goThrough_71 : decode b_an_goThrough 71 = .ok (.getfield 12, 3) := by decide +kernel
theorem d_an_goThrough_74 : decode b_an_goThrough 74 = .ok (.iconst 0, 1) := by decide +kernel
theorem d_an_goThrough_75 : decode b_an_goThrough 75 = .ok (.invokevirtual 63, 3) := by decide +kernel
theorem d_an_goThrough_78 : decode b_an_goThrough 78 = .ok (.aload_n 0, 1) := by decide +kernel
theorem d_an_goThrough_79 : decode b_an_goThrough 79 = .ok (.iconst 1, 1) := by decide +kernel
theorem d_an_goThrough_80 : decode b_an_goThrough 80 = .ok (.putfield 67, 3) := by decide +kernel
theorem d_an_goThrough_83 : decode b_an_goThrough 83 = .ok (.return_, 1) := by decide +kernel
theorem kb_an_goThrough {a0 a1 : Nat} {a2 : Int32} {a3 : Int32} {w : WW} {r : WW} (h : f_an_goThrough a0 a1 a2 a3 w = some r) : kb w a0 6 = true := (its h).1
set_option maxHeartbeats 4000000 in
set_option maxRecDepth 100000 in
theorem j_an_goThrough_18 {p : Program} {l : Launch} {e : Env} {s : State} {m : MethodId} {args : Array Value} {below : List Frame} {meth : Method} {c : Code} {D : va_G} {cA : Nat → ClassId} {base : Nat} {w' : WW} (C : cx b_an_goThrough (none) 5 y_an_goThrough.cls "goThrough" p s m args meth c D cA base)   : ∀ n : Nat, ∀ (y0 : Nat) (y4 : Int32) (w : WW), f_an_goThrough_18 n y0 y4 w = some w' → ∀ (H : Heap) (locs : List Loc) (ls : Array Slot), wo_S D cls cA base s w H locs → lv_has ls 5 [(0, .ref (base + y0)), (4, .int y4)] → W p l e rm_an_goThrough s m args below meth c H locs 0 0 (MQ below (wo_Q D cls cA base none w') args s rm_an_goThrough.cells rm_an_goThrough.slots (wo_B base)) (F0 m 18 ls []) := by
  obtain ⟨hx, hb, hr, hml, hown, hts, hlk, hnm, hK, hG⟩ := id C
  intro n
  induction n with
  | zero => intro y0 y4 w h; cases h
  | succ n ih =>
    intro y0 y4 w h H locs ls hW hl
    rw [f_an_goThrough_18] at h
    refine lv_iload hx hb d_an_goThrough_18 (lv_at hl 1 rfl) ?_
    refine lv_sipush (v := (200 : Int32)) hx hb d_an_goThrough_20 (by decide) ?_
    refine lv_icmp_ge (tgt := 40) hx hb d_an_goThrough_23 (by decide) (fun c4 => ?_) (fun c4 => ?_)
    · rw [if_pos c4] at h
      refine lv_aload_n hx hb d_an_goThrough_40 rfl (lv_at hl 0 rfl) ?_
      refine lv_iconst (v := (0 : Int32)) hx hb d_an_goThrough_41 (by decide) ?_
      replace h := bs h
      obtain ⟨w5, hw5, h⟩ := h
      refine pf_an_44 hx hb hts hown hK hG hW rfl rfl (pbi hw5 rfl) d_an_goThrough_42 (fun H locs hW => ?_)
      refine lv_aload_n hx hb d_an_goThrough_45 rfl (lv_at hl 0 rfl) ?_
      refine lv_iconst (v := (0 : Int32)) hx hb d_an_goThrough_46 (by decide) ?_
      replace h := bs h
      obtain ⟨w6, hw6, h⟩ := h
      refine pf_an_47 hx hb hts hown hK hG hW rfl rfl (pbi hw6 rfl) d_an_goThrough_47 (fun H locs hW => ?_)
      refine lv_aload_n hx hb d_an_goThrough_50 rfl (lv_at hl 0 rfl) ?_
      refine lv_iconst (v := (1 : Int32)) hx hb d_an_goThrough_51 (by decide) ?_
      replace h := its h
      obtain ⟨c8, h⟩ := h
      replace h := bs h
      obtain ⟨w7, hw7, h⟩ := h
      refine pf_an_50 hx hb hts hown hK hG hW (z_n c8) (z_f c8) (pbi hw7 rfl) d_an_goThrough_52 (fun H locs hW => ?_)
      refine lv_aload_n hx hb d_an_goThrough_55 rfl (lv_at hl 0 rfl) ?_
      replace h := bs h
      obtain ⟨x9, hx9, h⟩ := h
      refine gf_an_12 hx hb hts hown hK hG hW (gN_s hx9) d_an_goThrough_56 ?_
      replace h := bs h
      obtain ⟨w10, hw10, h⟩ := h
      refine cv_an_54 (As := []) (rest := []) hx hb hml hown hts hK hG hW (c_sa_setFirst l D cA base hw10) (kb_sa_setFirst hw10) ⟨Nat.le_of_ble_eq_true rfl, Nat.le_of_ble_eq_true rfl⟩ ⟨Nat.le_of_ble_eq_true rfl, Nat.le_of_ble_eq_true rfl⟩ rfl hl.1 rfl (Nat.le_of_ble_eq_true rfl) d_an_goThrough_59 (fun H locs hW => ?_)
      refine lv_aload_n hx hb d_an_goThrough_62 rfl (lv_at hl 0 rfl) ?_
      refine lv_aload_n hx hb d_an_goThrough_63 rfl (lv_at hl 0 rfl) ?_
      replace h := bs h
      obtain ⟨x11, hx11, h⟩ := h
      refine gf_an_33 hx hb hts hown hK hG hW (gR_s hx11) d_an_goThrough_64 ?_
      replace h := bs h
      obtain ⟨x12, ex12, h⟩ := h
      subst ex12
      replace h := bs h
      obtain ⟨x13, hx13, h⟩ := h
      refine gf_an_57 hx hb hts hown hK hG hW (gR_s hx13) d_an_goThrough_67 ?_
      refine lv_aload_n hx hb d_an_goThrough_70 rfl (lv_at hl 0 rfl) ?_
      replace h := bs h
      obtain ⟨x14, hx14, h⟩ := h
      refine gf_an_12 hx hb hts hown hK hG hW (gN_s hx14) d_an_goThrough_71 ?_
      refine lv_iconst (v := (0 : Int32)) hx hb d_an_goThrough_74 (by decide) ?_
      replace h := bs h
      obtain ⟨w15, hw15, h⟩ := h
      refine cv_an_63 (As := [rb base x13, .ref (base + x14), .int (0 : Int32)]) (rest := []) hx hb hml hown hts hK hG hW (c_an_goStatements l D cA base hw15) (kb_an_goStatements hw15) ⟨Nat.le_of_ble_eq_true rfl, Nat.le_of_ble_eq_true rfl⟩ ⟨Nat.le_of_ble_eq_true rfl, Nat.le_of_ble_eq_true rfl⟩ rfl hl.1 rfl (Nat.le_of_ble_eq_true rfl) d_an_goThrough_75 (fun H locs hW => ?_)
      refine lv_aload_n hx hb d_an_goThrough_78 rfl (lv_at hl 0 rfl) ?_
      refine lv_iconst (v := (1 : Int32)) hx hb d_an_goThrough_79 (by decide) ?_
      replace h := its h
      obtain ⟨c17, h⟩ := h
      replace h := bs h
      obtain ⟨w16, hw16, h⟩ := h
      refine pf_an_67 hx hb hts hown hK hG hW (z_n c17) (z_f c17) (pbi hw16 rfl) d_an_goThrough_80 (fun H locs hW => ?_)
      cases h
      exact wo_vret hx hb hr hlk hW d_an_goThrough_83
    · rw [if_neg c4] at h
      refine lv_aload_n hx hb d_an_goThrough_26 rfl (lv_at hl 0 rfl) ?_
      replace h := bs h
      obtain ⟨x18, hx18, h⟩ := h
      refine gf_an_29 hx hb hts hown hK hG hW (gN_s hx18) d_an_goThrough_27 ?_
      refine lv_iload hx hb d_an_goThrough_30 (lv_at hl 1 rfl) ?_
      refine lv_iconst (v := (0 : Int32)) hx hb d_an_goThrough_32 (by decide) ?_
      replace h := bs h
      obtain ⟨w19, hw19, h⟩ := h
      refine wo_iast hx hb hK hW (t := 0) rfl hw19 d_an_goThrough_33 (fun H locs hW => ?_)
      refine lv_iinc (v := (y4 + (1 : Int32))) (lv' := [(4, .int (y4 + (1 : Int32))), (0, .ref (base + y0))]) hx hb d_an_goThrough_34 hl (k := 1) rfl rfl (by decide) rfl (fun ls hl => ?_)
      refine lv_goto (tgt := 18) hx hb d_an_goThrough_37 (by decide) ?_
      exact ih y0 (y4 + (1 : Int32)) w19 h _ _ _ hW (lv_sub hl [1, 0] rfl)
set_option maxHeartbeats 4000000 in
set_option maxRecDepth 100000 in
theorem c_an_goThrough (l : Launch) (D : va_G) (cA : Nat → ClassId) (base : Nat) {a0 : Nat} {a1 : Nat} {a2 : Int32} {a3 : Int32} {w w' : WW} (h : f_an_goThrough a0 a1 a2 a3 w = some w') : mt l D cls (wo_tys cA) cA base y_an_goThrough (Cond.code y_an_goThrough b_an_goThrough 5 (none) :: gt) rm_an_goThrough [.ref (base + a0), .ref (base + a1), .int a2, .int a3] w none w' rm_an_goThrough.cells rm_an_goThrough.slots := by
  refine mt_start (by decide) (Nat.le_of_ble_eq_true rfl) ?_
  intro p e s m below meth c ls hx hb hr hml hown hts hlk hnm hK hG hW hl
  have C : cx b_an_goThrough (none) 5 y_an_goThrough.cls "goThrough" p s m [.ref (base + a0), .ref (base + a1), .int a2, .int a3].toArray meth c D cA base := ⟨hx, hb, hr, hml, hown, hts, hlk, hnm, hK, hG⟩
  have hl : lv_has ls 5 [(0, .ref (base + a0)), (1, .ref (base + a1)), (2, .int a2), (3, .int a3)] := hl
  unfold f_an_goThrough at h
  replace h := its h
  obtain ⟨-, h⟩ := h
  refine lv_aload_n hx hb d_an_goThrough_0 rfl (lv_at hl 0 rfl) ?_
  refine lv_aload_n hx hb d_an_goThrough_1 rfl (lv_at hl 1 rfl) ?_
  replace h := bs h
  obtain ⟨w1, hw1, h⟩ := h
  refine pf_an_33 hx hb hts hown hK hG hW rfl rfl (pbi hw1 rfl) d_an_goThrough_2 (fun H locs hW => ?_)
  refine lv_aload_n hx hb d_an_goThrough_5 rfl (lv_at hl 0 rfl) ?_
  refine lv_iload_n hx hb d_an_goThrough_6 rfl (lv_at hl 2 rfl) ?_
  replace h := bs h
  obtain ⟨w2, hw2, h⟩ := h
  refine pf_an_37 hx hb hts hown hK hG hW rfl rfl (pbi hw2 rfl) d_an_goThrough_7 (fun H locs hW => ?_)
  refine lv_aload_n hx hb d_an_goThrough_10 rfl (lv_at hl 0 rfl) ?_
  refine lv_iload_n hx hb d_an_goThrough_11 rfl (lv_at hl 3 rfl) ?_
  replace h := bs h
  obtain ⟨w3, hw3, h⟩ := h
  refine pf_an_41 hx hb hts hown hK hG hW rfl rfl (pbi hw3 rfl) d_an_goThrough_12 (fun H locs hW => ?_)
  refine lv_iconst (v := (0 : Int32)) hx hb d_an_goThrough_15 (by decide) ?_
  refine lv_istore (lv' := [(4, .int (0 : Int32)), (0, .ref (base + a0)), (1, .ref (base + a1)), (2, .int a2), (3, .int a3)]) hx hb d_an_goThrough_16 hl (by decide) rfl (fun ls hl => ?_)
  exact j_an_goThrough_18 C KK a0 (0 : Int32) w3 h _ _ _ hW (lv_sub hl [1, 0] rfl)
theorem cv_a_122 {p : Program} {l : Launch} {e : Env} {R : Room} {s : State} {m : MethodId} {args : Array Value} {below : List Frame} {meth : Method} {c : Code} {H : Heap} {locs : List Loc} {cells slots : Nat} {Q : State → Prop} {D : va_G} {cA : Nat → ClassId} {base : Nat} {w w' : WW} {cc : ByteArray} {pc nL : Nat} {ls : Array Slot} {rest st0 As : List Value} {ov : Option Value} {b : Nat} (hx : p.tables.exec = Jvm.exec) (hb : c.code = cc) (hml : c.maxLocals = nL) (hown : s.vm.findClass Rc_a = some m.cls) (hts : ∀ w ∈ gt, w.before args s = true) (hK : va_K D cls (wo_tys cA) s) (hG : wo_G cA base s) (hW : wo_S D cls cA base s w H locs) (hM : mt l D cls (wo_tys cA) cA base y_an_goThrough (Cond.code y_an_goThrough b_an_goThrough 5 (none) :: gt) rm_an_goThrough (.ref (base + b) :: As) w ov w' rm_an_goThrough.cells rm_an_goThrough.slots) (hkb : kb w b 6 = true) (hR : rm_an_goThrough.frames + 1 ≤ R.frames ∧ 8 + (5 + 11) + rm_an_goThrough.locals ≤ R.locals) (hf : cells + rm_an_goThrough.cells ≤ R.cells ∧ slots + rm_an_goThrough.slots ≤ R.slots) (hn : As.length = 3) (hsz : ls.size = nL) (hst : st0 = As.reverse ++ .ref (base + b) :: rest) (hcat : (rest.map fun v => v.category).sum ≤ 8) (hdg : decode cc pc = .ok (.invokevirtual 122, 3)) (kk : ∀ (H1 : Heap) (locs1 : List Loc), wo_S D cls cA base s w' H1 locs1 → W p l e R s m args below meth c H1 locs1 (cells + rm_an_goThrough.cells) (slots + rm_an_goThrough.slots) Q (F0 m (pc + 3) ls (ov.toList ++ rest))) : W p l e R s m args below meth c H locs cells slots Q (F0 m pc ls st0) :=
  wo_callV (C := Rc_an) hx hb hml hown hts hK hG hW hM hkb rfl (gt_of (i := 889) (by decide +kernel) (by decide +kernel)) (gt_of (i := 890) (by decide +kernel) (by decide +kernel)) (gt_of (i := 891) (by decide +kernel) (by decide +kernel)) (gt_of (i := 7) (by decide +kernel) (by decide +kernel)) (gt_of (i := 892) (by decide +kernel) (by decide +kernel)) (by decide +kernel) hR hf hn hsz hst hcat hdg kk
abbrev b_a_analyse : ByteArray := prog_1_method_13_code
def y_a_analyse : MethodName := ⟨"AlarmForge", "analyse", "()I"⟩
def rm_a_analyse : Room := { frames := 73, cells := 0, slots := 0, locals := 1962 }
def rx_a_analyse : Room := { frames := 73, cells := 1, slots := 6, locals := 1962 }
theorem d_a_analyse_0 : decode b_a_analyse 0 = .ok (.aload_n 0, 1) := by decide +kernel
theorem d_a_analyse_1 : decode b_a_analyse 1 = .ok (.getfield 81, 3) := by decide +kernel
theorem d_a_analyse_4 : decode b_a_analyse 4 = .ok (.ifCond .ne (11), 3) := by decide +kernel
theorem d_a_analyse_7 : decode b_a_analyse 7 = .ok (.new 70, 3) := by decide +kernel
theorem d_a_analyse_10 : decode b_a_analyse 10 = .ok (.dup, 1) := by decide +kernel
theorem d_a_analyse_11 : decode b_a_analyse 11 = .ok (.invokespecial 72, 3) := by decide +kernel
theorem d_a_analyse_14 : decode b_a_analyse 14 = .ok (.athrow, 1) := by decide +kernel
theorem d_a_analyse_15 : decode b_a_analyse 15 = .ok (.aload_n 0, 1) := by decide +kernel
theorem d_a_analyse_16 : decode b_a_analyse 16 = .ok (.getfield 50, 3) := by decide +kernel
theorem d_a_analyse_19 : decode b_a_analyse 19 = .ok (.aload_n 0, 1) := by decide +kernel
theorem d_a_analyse_20 : decode b_a_analyse 20 = .ok (.getfield 33, 3) := by decide +kernel
theorem d_a_analyse_23 : decode b_a_analyse 23 = .ok (.aload_n 0, 1) := by decide +kernel
theorem d_a_analyse_24 : decode b_a_analyse 24 = .ok (.getfield 11, 3) := by decide +kernel
theorem d_a_analyse_27 : decode b_a_analyse 27 = .ok (.aload_n 0, 1) := by decide +kernel
theorem d_a_analyse_28 : decode b_a_analyse 28 = .ok (.getfield 15, 3) := by decide +kernel
theorem d_a_analyse_31 : decode b_a_analyse 31 = .ok (.invokevirtual 122, 3) := by decide +kernel
theorem d_a_analyse_34 : decode b_a_analyse 34 = .ok (.aload_n 0, 1) := by decide +kernel
theorem d_a_analyse_35 : decode b_a_analyse 35 = .ok (.getfield 50, 3) := by decide +kernel
theorem d_a_analyse_38 : decode b_a_analyse 38 = .ok (.getfield 126, 3) := by decide +kernel
theorem d_a_analyse_41 : decode b_a_analyse 41 = .ok (.ireturn, 1) := by decide +kernel
theorem kb_a_analyse {a0 : Nat}  {w : WW} {r : ((Int32 ⊕ String) × WW)} (h : f_a_analyse a0 w = some r) : kb w a0 0 = true := (its h).1
set_option maxHeartbeats 4000000 in
set_option maxRecDepth 100000 in
theorem c_a_analyse (l : Launch) (D : va_G) (cA : Nat → ClassId) (base : Nat) {a0 : Nat} {w w' : WW} {r : Int32} (h : f_a_analyse a0 w = some (.inl r, w')) : mt l D cls (wo_tys cA) cA base y_a_analyse (Cond.code y_a_analyse b_a_analyse 1 (some .int) :: gt) rm_a_analyse [.ref (base + a0)] w (some (.int r)) w' rm_a_analyse.cells rm_a_analyse.slots := by
  refine mt_start (by decide) (Nat.le_of_ble_eq_true rfl) ?_
  intro p e s m below meth c ls hx hb hr hml hown hts hlk hnm hK hG hW hl
  have C : cx b_a_analyse (some .int) 1 y_a_analyse.cls "analyse" p s m [.ref (base + a0)].toArray meth c D cA base := ⟨hx, hb, hr, hml, hown, hts, hlk, hnm, hK, hG⟩
  have hl : lv_has ls 1 [(0, .ref (base + a0))] := hl
  unfold f_a_analyse at h
  replace h := its h
  obtain ⟨-, h⟩ := h
  refine lv_aload_n hx hb d_a_analyse_0 rfl (lv_at hl 0 rfl) ?_
  replace h := bs h
  obtain ⟨x1, hx1, h⟩ := h
  refine gf_a_81 hx hb hts hown hK hG hW (gI_s hx1) d_a_analyse_1 ?_
  refine lv_if_ne (tgt := 15) hx hb d_a_analyse_4 (by decide) (fun c2 => ?_) (fun c2 => ?_)
  · rw [if_neg c2] at h
    refine lv_aload_n hx hb d_a_analyse_15 rfl (lv_at hl 0 rfl) ?_
    replace h := bs h
    obtain ⟨x3, hx3, h⟩ := h
    refine gf_a_50 hx hb hts hown hK hG hW (gN_s hx3) d_a_analyse_16 ?_
    refine lv_aload_n hx hb d_a_analyse_19 rfl (lv_at hl 0 rfl) ?_
    replace h := bs h
    obtain ⟨x4, hx4, h⟩ := h
    refine gf_a_33 hx hb hts hown hK hG hW (gN_s hx4) d_a_analyse_20 ?_
    refine lv_aload_n hx hb d_a_analyse_23 rfl (lv_at hl 0 rfl) ?_
    replace h := bs h
    obtain ⟨x5, hx5, h⟩ := h
    refine gf_a_11 hx hb hts hown hK hG hW (gI_s hx5) d_a_analyse_24 ?_
    refine lv_aload_n hx hb d_a_analyse_27 rfl (lv_at hl 0 rfl) ?_
    replace h := bs h
    obtain ⟨x6, hx6, h⟩ := h
    refine gf_a_15 hx hb hts hown hK hG hW (gI_s hx6) d_a_analyse_28 ?_
    replace h := bs h
    obtain ⟨w7, hw7, h⟩ := h
    refine cv_a_122 (As := [.ref (base + x4), .int x5, .int x6]) (rest := []) hx hb hml hown hts hK hG hW (c_an_goThrough l D cA base hw7) (kb_an_goThrough hw7) ⟨Nat.le_of_ble_eq_true rfl, Nat.le_of_ble_eq_true rfl⟩ ⟨Nat.le_of_ble_eq_true rfl, Nat.le_of_ble_eq_true rfl⟩ rfl hl.1 rfl (Nat.le_of_ble_eq_true rfl) d_a_analyse_31 (fun H locs hW => ?_)
    refine lv_aload_n hx hb d_a_analyse_34 rfl (lv_at hl 0 rfl) ?_
    replace h := bs h
    obtain ⟨x8, hx8, h⟩ := h
    refine gf_a_50 hx hb hts hown hK hG hW (gN_s hx8) d_a_analyse_35 ?_
    replace h := bs h
    obtain ⟨x9, hx9, h⟩ := h
    refine gf_a_126 hx hb hts hown hK hG hW (gI_s hx9) d_a_analyse_38 ?_
    cases h
    exact wo_iret hx hb hr hlk hW d_a_analyse_41
  · rw [if_pos c2] at h
    cases h
set_option maxHeartbeats 4000000 in
set_option maxRecDepth 100000 in
theorem x_a_analyse (l : Launch) (hst : l.stackTraces = false) (D : va_G) (cA : Nat → ClassId) (base : Nat) {a0 : Nat} {w w' : WW} {E : String} (h : f_a_analyse a0 w = some (.inr E, w')) : xt l D cls (wo_tys cA) cA base y_a_analyse (Cond.code y_a_analyse b_a_analyse 1 (some .int) :: gt) rx_a_analyse [.ref (base + a0)] w E w' rx_a_analyse.cells rx_a_analyse.slots := by
  refine xt_start (by decide) (Nat.le_of_ble_eq_true rfl) ?_
  intro p e s m below meth c ls hx hb hr hml hown hts hlk hnm hK hG hW hl hnt
  have C : cx b_a_analyse (some .int) 1 y_a_analyse.cls "analyse" p s m [.ref (base + a0)].toArray meth c D cA base ∧ (∀ x ∈ c.exceptionTable.toList, ∀ k : Nat, covers x k = false) ∧ l.stackTraces = false := ⟨⟨hx, hb, hr, hml, hown, hts, hlk, hnm, hK, hG⟩, hnt, hst⟩
  have hl : lv_has ls 1 [(0, .ref (base + a0))] := hl
  unfold f_a_analyse at h
  replace h := its h
  obtain ⟨-, h⟩ := h
  refine lv_aload_n hx hb d_a_analyse_0 rfl (lv_at hl 0 rfl) ?_
  replace h := bs h
  obtain ⟨x1, hx1, h⟩ := h
  refine gf_a_81 hx hb hts hown hK hG hW (gI_s hx1) d_a_analyse_1 ?_
  refine lv_if_ne (tgt := 15) hx hb d_a_analyse_4 (by decide) (fun c2 => ?_) (fun c2 => ?_)
  · rw [if_neg c2] at h
    refine lv_aload_n hx hb d_a_analyse_15 rfl (lv_at hl 0 rfl) ?_
    replace h := bs h
    obtain ⟨x3, hx3, h⟩ := h
    refine gf_a_50 hx hb hts hown hK hG hW (gN_s hx3) d_a_analyse_16 ?_
    refine lv_aload_n hx hb d_a_analyse_19 rfl (lv_at hl 0 rfl) ?_
    replace h := bs h
    obtain ⟨x4, hx4, h⟩ := h
    refine gf_a_33 hx hb hts hown hK hG hW (gN_s hx4) d_a_analyse_20 ?_
    refine lv_aload_n hx hb d_a_analyse_23 rfl (lv_at hl 0 rfl) ?_
    replace h := bs h
    obtain ⟨x5, hx5, h⟩ := h
    refine gf_a_11 hx hb hts hown hK hG hW (gI_s hx5) d_a_analyse_24 ?_
    refine lv_aload_n hx hb d_a_analyse_27 rfl (lv_at hl 0 rfl) ?_
    replace h := bs h
    obtain ⟨x6, hx6, h⟩ := h
    refine gf_a_15 hx hb hts hown hK hG hW (gI_s hx6) d_a_analyse_28 ?_
    replace h := bs h
    obtain ⟨w7, hw7, h⟩ := h
    refine cv_a_122 (As := [.ref (base + x4), .int x5, .int x6]) (rest := []) hx hb hml hown hts hK hG hW (c_an_goThrough l D cA base hw7) (kb_an_goThrough hw7) ⟨Nat.le_of_ble_eq_true rfl, Nat.le_of_ble_eq_true rfl⟩ ⟨Nat.le_of_ble_eq_true rfl, Nat.le_of_ble_eq_true rfl⟩ rfl hl.1 rfl (Nat.le_of_ble_eq_true rfl) d_a_analyse_31 (fun H locs hW => ?_)
    refine lv_aload_n hx hb d_a_analyse_34 rfl (lv_at hl 0 rfl) ?_
    replace h := bs h
    obtain ⟨x8, hx8, h⟩ := h
    refine gf_a_50 hx hb hts hown hK hG hW (gN_s hx8) d_a_analyse_35 ?_
    replace h := bs h
    obtain ⟨x9, hx9, h⟩ := h
    refine gf_a_126 hx hb hts hown hK hG hW (gI_s hx9) d_a_analyse_38 ?_
    cases h
  · rw [if_pos c2] at h
    cases h
    exact wo_throw (names := ["java/lang/RuntimeException", "java/lang/Exception"]) hx hb hst hown hts hG hW hnt hlk (by decide) (by decide) (gt_of (i := 460) (by decide +kernel) (by decide +kernel)) (gt_of (i := 15) (by decide +kernel) (by decide +kernel)) ow_a_72 (hl.1.trans hml.symm) d_a_analyse_7 d_a_analyse_10 d_a_analyse_11 d_a_analyse_14 (Nat.le_of_ble_eq_true rfl) (Nat.le_of_ble_eq_true rfl) (Nat.le_of_ble_eq_true rfl) (Nat.le_of_ble_eq_true rfl) (Nat.le_of_ble_eq_true rfl) (Nat.le_of_ble_eq_true rfl)
abbrev b_an_warningOf : ByteArray := prog_2_method_4_code
def y_an_warningOf : MethodName := ⟨"AlarmForge$Analyser", "warningOf", "(I)I"⟩
def rm_an_warningOf : Room := { frames := 0, cells := 0, slots := 0, locals := 0 }
theorem d_an_warningOf_0 : decode b_an_warningOf 0 = .ok (.iconst 0, 1) := by decide +kernel
theorem d_an_warningOf_1 : decode b_an_warningOf 1 = .ok (.istore_n 2, 1) := by decide +kernel
theorem d_an_warningOf_2 : decode b_an_warningOf 2 = .ok (.iconst 0, 1) := by decide +kernel
theorem d_an_warningOf_3 : decode b_an_warningOf 3 = .ok (.istore_n 3, 1) := by decide +kernel
theorem d_an_warningOf_4 : decode b_an_warningOf 4 = .ok (.iload_n 3, 1) := by decide +kernel
theorem d_an_warningOf_5 : decode b_an_warningOf 5 = .ok (.sipush (200), 3) := by decide +kernel
theorem d_an_warningOf_8 : decode b_an_warningOf 8 = .ok (.if_icmp .ge (55), 3) := by decide +kernel
theorem d_an_warningOf_11 : decode b_an_warningOf 11 = .ok (.iconst 1, 1) := by decide +kernel
theorem d_an_warningOf_12 : decode b_an_warningOf 12 = .ok (.istore 4, 2) := by decide +kernel
theorem d_an_warningOf_14 : decode b_an_warningOf 14 = .ok (.iload 4, 2) := by decide +kernel
theorem d_an_warningOf_16 : decode b_an_warningOf 16 = .ok (.iconst 5, 1) := by decide +kernel
theorem d_an_warningOf_17 : decode b_an_warningOf 17 = .ok (.if_icmp .gt (40), 3) := by decide +kernel
theorem d_an_warningOf_20 : decode b_an_warningOf 20 = .ok (.aload_n 0, 1) := by decide +kernel
theorem d_an_warningOf_21 : decode b_an_warningOf 21 = .ok (.getfield 29, 3) := by decide +kernel
theorem d_an_warningOf_24 : decode b_an_warningOf 24 = .ok (.iload_n 3, 1) := by decide +kernel
theorem d_an_warningOf_25 : decode b_an_warningOf 25 = .ok (.iaload, 1) := by decide +kernel
theorem d_an_warningOf_26 : decode b_an_warningOf 26 = .ok (.iload 4, 2) := by decide +kernel
theorem d_an_warningOf_28 : decode b_an_warningOf 28 = .ok (.ishr, 1) := by decide +kernel
theorem d_an_warningOf_29 : decode b_an_warningOf 29 = .ok (.iconst 1, 1) := by decide +kernel
theorem d_an_warningOf_30 : decode b_an_warningOf 30 = .ok (.iand, 1) := by decide +kernel
theorem d_an_warningOf_31 : decode b_an_warningOf 31 = .ok (.ifCond .eq (20), 3) := by decide +kernel
theorem d_an_warningOf_34 : decode b_an_warningOf 34 = .ok (.iload_n 2, 1) := by decide +kernel
theorem d_an_warningOf_35 : decode b_an_warningOf 35 = .ok (.iload_n 1, 1) := by decide +kernel
theorem d_an_warningOf_36 : decode b_an_warningOf 36 = .ok (.if_icmp .ne (12), 3) := by decide +kernel
theorem d_an_warningOf_39 : decode b_an_warningOf 39 = .ok (.sipush (1024), 3) := by decide +kernel
theorem d_an_warningOf_42 : decode b_an_warningOf 42 = .ok (.iload 4, 2) := by decide +kernel
theorem d_an_warningOf_44 : decode b_an_warningOf 44 = .ok (.imul, 1) := by decide +kernel
theorem d_an_warningOf_45 : decode b_an_warningOf 45 = .ok (.iload_n 3, 1) := by decide +kernel
theorem d_an_warningOf_46 : decode b_an_warningOf 46 = .ok (.iadd, 1) := by decide +kernel
theorem d_an_warningOf_47 : decode b_an_warningOf 47 = .ok (.ireturn, 1) := by decide +kernel
theorem d_an_warningOf_48 : decode b_an_warningOf 48 = .ok (.iinc 2 (1), 3) := by decide +kernel
theorem d_an_warningOf_51 : decode b_an_warningOf 51 = .ok (.iinc 4 (1), 3) := by decide +kernel
theorem d_an_warningOf_54 : decode b_an_warningOf 54 = .ok (.goto (-40), 3) := by decide +kernel
theorem d_an_warningOf_57 : decode b_an_warningOf 57 = .ok (.iinc 3 (1), 3) := by decide +kernel
theorem d_an_warningOf_60 : decode b_an_warningOf 60 = .ok (.goto (-56), 3) := by decide +kernel
theorem d_an_warningOf_63 : decode b_an_warningOf 63 = .ok (.iconst 0, 1) := by decide +kernel
theorem d_an_warningOf_64 : decode b_an_warningOf 64 = .ok (.ireturn, 1) := by decide +kernel
theorem kb_an_warningOf {a0 : Nat} {a1 : Int32} {w : WW} {r : (Int32 × WW)} (h : f_an_warningOf a0 a1 w = some r) : kb w a0 6 = true := (its h).1
set_option maxHeartbeats 4000000 in
set_option maxRecDepth 100000 in
theorem j_an_warningOf_51 {p : Program} {l : Launch} {e : Env} {s : State} {m : MethodId} {args : Array Value} {below : List Frame} {meth : Method} {c : Code} {D : va_G} {cA : Nat → ClassId} {base : Nat} {r : Int32} {w' : WW} (C : cx b_an_warningOf (some .int) 5 y_an_warningOf.cls "warningOf" p s m args meth c D cA base) {k_14 : Nat → Int32 → Int32 → Int32 → Int32 → WW → Option (Int32 × WW)} (hk_14 : ∀ (y0 : Nat) (y1 : Int32) (y2 : Int32) (y3 : Int32) (y4 : Int32) (w : WW), k_14 y0 y1 y2 y3 y4 w = some (r, w') → ∀ (H : Heap) (locs : List Loc) (ls : Array Slot), wo_S D cls cA base s w H locs → lv_has ls 5 [(0, .ref (base + y0)), (1, .int y1), (2, .int y2), (3, .int y3), (4, .int y4)] → W p l e rm_an_warningOf s m args below meth c H locs 0 0 (MQ below (wo_Q D cls cA base (some (.int r)) w') args s rm_an_warningOf.cells rm_an_warningOf.slots (wo_B base)) (F0 m 14 ls [])) : ∀ (y0 : Nat) (y1 : Int32) (y2 : Int32) (y3 : Int32) (y4 : Int32) (w : WW), f_an_warningOf_51 k_14 y0 y1 y2 y3 y4 w = some (r, w') → ∀ (H : Heap) (locs : List Loc) (ls : Array Slot), wo_S D cls cA base s w H locs → lv_has ls 5 [(0, .ref (base + y0)), (1, .int y1), (2, .int y2), (3, .int y3), (4, .int y4)] → W p l e rm_an_warningOf s m args below meth c H locs 0 0 (MQ below (wo_Q D cls cA base (some (.int r)) w') args s rm_an_warningOf.cells rm_an_warningOf.slots (wo_B base)) (F0 m 51 ls []) := by
  obtain ⟨hx, hb, hr, hml, hown, hts, hlk, hnm, hK, hG⟩ := id C
  intro y0 y1 y2 y3 y4 w h H locs ls hW hl
  unfold f_an_warningOf_51 at h
  refine lv_iinc (v := (y4 + (1 : Int32))) (lv' := [(4, .int (y4 + (1 : Int32))), (0, .ref (base + y0)), (1, .int y1), (2, .int y2), (3, .int y3)]) hx hb d_an_warningOf_51 hl (k := 4) rfl rfl (by decide) rfl (fun ls hl => ?_)
  refine lv_goto (tgt := 14) hx hb d_an_warningOf_54 (by decide) ?_
  exact hk_14 y0 y1 y2 y3 (y4 + (1 : Int32)) w h _ _ _ hW (lv_sub hl [1, 2, 3, 4, 0] rfl)
set_option maxHeartbeats 4000000 in
set_option maxRecDepth 100000 in
theorem j_an_warningOf_14 {p : Program} {l : Launch} {e : Env} {s : State} {m : MethodId} {args : Array Value} {below : List Frame} {meth : Method} {c : Code} {D : va_G} {cA : Nat → ClassId} {base : Nat} {r : Int32} {w' : WW} (C : cx b_an_warningOf (some .int) 5 y_an_warningOf.cls "warningOf" p s m args meth c D cA base) {k_4 : Nat → Int32 → Int32 → Int32 → WW → Option (Int32 × WW)} (hk_4 : ∀ (y0 : Nat) (y1 : Int32) (y2 : Int32) (y3 : Int32) (w : WW), k_4 y0 y1 y2 y3 w = some (r, w') → ∀ (H : Heap) (locs : List Loc) (ls : Array Slot), wo_S D cls cA base s w H locs → lv_has ls 5 [(0, .ref (base + y0)), (1, .int y1), (2, .int y2), (3, .int y3)] → W p l e rm_an_warningOf s m args below meth c H locs 0 0 (MQ below (wo_Q D cls cA base (some (.int r)) w') args s rm_an_warningOf.cells rm_an_warningOf.slots (wo_B base)) (F0 m 4 ls [])) : ∀ n : Nat, ∀ (y0 : Nat) (y1 : Int32) (y2 : Int32) (y3 : Int32) (y4 : Int32) (w : WW), f_an_warningOf_14 k_4 n y0 y1 y2 y3 y4 w = some (r, w') → ∀ (H : Heap) (locs : List Loc) (ls : Array Slot), wo_S D cls cA base s w H locs → lv_has ls 5 [(0, .ref (base + y0)), (1, .int y1), (2, .int y2), (3, .int y3), (4, .int y4)] → W p l e rm_an_warningOf s m args below meth c H locs 0 0 (MQ below (wo_Q D cls cA base (some (.int r)) w') args s rm_an_warningOf.cells rm_an_warningOf.slots (wo_B base)) (F0 m 14 ls []) := by
  obtain ⟨hx, hb, hr, hml, hown, hts, hlk, hnm, hK, hG⟩ := id C
  intro n
  induction n with
  | zero => intro y0 y1 y2 y3 y4 w h; cases h
  | succ n ih =>
    intro y0 y1 y2 y3 y4 w h H locs ls hW hl
    rw [f_an_warningOf_14] at h
    refine lv_iload hx hb d_an_warningOf_14 (lv_at hl 4 rfl) ?_
    refine lv_iconst (v := (5 : Int32)) hx hb d_an_warningOf_16 (by decide) ?_
    refine lv_icmp_gt (tgt := 57) hx hb d_an_warningOf_17 (by decide) (fun c2 => ?_) (fun c2 => ?_)
    · rw [if_pos c2] at h
      refine lv_iinc (v := (y3 + (1 : Int32))) (lv' := [(3, .int (y3 + (1 : Int32))), (0, .ref (base + y0)), (1, .int y1), (2, .int y2), (4, .int y4)]) hx hb d_an_warningOf_57 hl (k := 3) rfl rfl (by decide) rfl (fun ls hl => ?_)
      refine lv_goto (tgt := 4) hx hb d_an_warningOf_60 (by decide) ?_
      exact hk_4 y0 y1 y2 (y3 + (1 : Int32)) w h _ _ _ hW (lv_sub hl [1, 2, 3, 0] rfl)
    · rw [if_neg c2] at h
      refine lv_aload_n hx hb d_an_warningOf_20 rfl (lv_at hl 0 rfl) ?_
      replace h := bs h
      obtain ⟨x3, hx3, h⟩ := h
      refine gf_an_29 hx hb hts hown hK hG hW (gN_s hx3) d_an_warningOf_21 ?_
      refine lv_iload_n hx hb d_an_warningOf_24 rfl (lv_at hl 3 rfl) ?_
      replace h := bs h
      obtain ⟨x4, hx4, h⟩ := h
      refine wo_iald hx hb hK hW (t := 0) rfl hx4 d_an_warningOf_25 ?_
      refine lv_iload hx hb d_an_warningOf_26 (lv_at hl 4 rfl) ?_
      refine lv_ishr hx hb d_an_warningOf_28 ?_
      refine lv_iconst (v := (1 : Int32)) hx hb d_an_warningOf_29 (by decide) ?_
      refine lv_iand hx hb d_an_warningOf_30 ?_
      refine lv_if_eq (tgt := 51) hx hb d_an_warningOf_31 (by decide) (fun c5 => ?_) (fun c5 => ?_)
      · rw [if_pos c5] at h
        exact j_an_warningOf_51 C ih y0 y1 y2 y3 y4 w h _ _ _ hW (lv_sub hl [0, 1, 2, 3, 4] rfl)
      · rw [if_neg c5] at h
        refine lv_iload_n hx hb d_an_warningOf_34 rfl (lv_at hl 2 rfl) ?_
        refine lv_iload_n hx hb d_an_warningOf_35 rfl (lv_at hl 1 rfl) ?_
        refine lv_icmp_ne (tgt := 48) hx hb d_an_warningOf_36 (by decide) (fun c6 => ?_) (fun c6 => ?_)
        · rw [if_neg c6] at h
          refine lv_iinc (v := (y2 + (1 : Int32))) (lv' := [(2, .int (y2 + (1 : Int32))), (0, .ref (base + y0)), (1, .int y1), (3, .int y3), (4, .int y4)]) hx hb d_an_warningOf_48 hl (k := 2) rfl rfl (by decide) rfl (fun ls hl => ?_)
          exact j_an_warningOf_51 C ih y0 y1 (y2 + (1 : Int32)) y3 y4 w h _ _ _ hW (lv_sub hl [1, 2, 0, 3, 4] rfl)
        · rw [if_pos c6] at h
          refine lv_sipush (v := (1024 : Int32)) hx hb d_an_warningOf_39 (by decide) ?_
          refine lv_iload hx hb d_an_warningOf_42 (lv_at hl 4 rfl) ?_
          refine lv_imul hx hb d_an_warningOf_44 ?_
          refine lv_iload_n hx hb d_an_warningOf_45 rfl (lv_at hl 3 rfl) ?_
          refine lv_iadd hx hb d_an_warningOf_46 ?_
          cases h
          exact wo_iret hx hb hr hlk hW d_an_warningOf_47
set_option maxHeartbeats 4000000 in
set_option maxRecDepth 100000 in
theorem j_an_warningOf_4 {p : Program} {l : Launch} {e : Env} {s : State} {m : MethodId} {args : Array Value} {below : List Frame} {meth : Method} {c : Code} {D : va_G} {cA : Nat → ClassId} {base : Nat} {r : Int32} {w' : WW} (C : cx b_an_warningOf (some .int) 5 y_an_warningOf.cls "warningOf" p s m args meth c D cA base)   : ∀ n : Nat, ∀ (y0 : Nat) (y1 : Int32) (y2 : Int32) (y3 : Int32) (w : WW), f_an_warningOf_4 n y0 y1 y2 y3 w = some (r, w') → ∀ (H : Heap) (locs : List Loc) (ls : Array Slot), wo_S D cls cA base s w H locs → lv_has ls 5 [(0, .ref (base + y0)), (1, .int y1), (2, .int y2), (3, .int y3)] → W p l e rm_an_warningOf s m args below meth c H locs 0 0 (MQ below (wo_Q D cls cA base (some (.int r)) w') args s rm_an_warningOf.cells rm_an_warningOf.slots (wo_B base)) (F0 m 4 ls []) := by
  obtain ⟨hx, hb, hr, hml, hown, hts, hlk, hnm, hK, hG⟩ := id C
  intro n
  induction n with
  | zero => intro y0 y1 y2 y3 w h; cases h
  | succ n ih =>
    intro y0 y1 y2 y3 w h H locs ls hW hl
    rw [f_an_warningOf_4] at h
    refine lv_iload_n hx hb d_an_warningOf_4 rfl (lv_at hl 3 rfl) ?_
    refine lv_sipush (v := (200 : Int32)) hx hb d_an_warningOf_5 (by decide) ?_
    refine lv_icmp_ge (tgt := 63) hx hb d_an_warningOf_8 (by decide) (fun c1 => ?_) (fun c1 => ?_)
    · rw [if_pos c1] at h
      refine lv_iconst (v := (0 : Int32)) hx hb d_an_warningOf_63 (by decide) ?_
      cases h
      exact wo_iret hx hb hr hlk hW d_an_warningOf_64
    · rw [if_neg c1] at h
      refine lv_iconst (v := (1 : Int32)) hx hb d_an_warningOf_11 (by decide) ?_
      refine lv_istore (lv' := [(4, .int (1 : Int32)), (0, .ref (base + y0)), (1, .int y1), (2, .int y2), (3, .int y3)]) hx hb d_an_warningOf_12 hl (by decide) rfl (fun ls hl => ?_)
      exact j_an_warningOf_14 C ih KK y0 y1 y2 y3 (1 : Int32) w h _ _ _ hW (lv_sub hl [1, 2, 3, 4, 0] rfl)
set_option maxHeartbeats 4000000 in
set_option maxRecDepth 100000 in
theorem c_an_warningOf (l : Launch) (D : va_G) (cA : Nat → ClassId) (base : Nat) {a0 : Nat} {a1 : Int32} {w w' : WW} {r : Int32} (h : f_an_warningOf a0 a1 w = some (r, w')) : mt l D cls (wo_tys cA) cA base y_an_warningOf (Cond.code y_an_warningOf b_an_warningOf 5 (some .int) :: gt) rm_an_warningOf [.ref (base + a0), .int a1] w (some (.int r)) w' rm_an_warningOf.cells rm_an_warningOf.slots := by
  refine mt_start (by decide) (Nat.le_of_ble_eq_true rfl) ?_
  intro p e s m below meth c ls hx hb hr hml hown hts hlk hnm hK hG hW hl
  have C : cx b_an_warningOf (some .int) 5 y_an_warningOf.cls "warningOf" p s m [.ref (base + a0), .int a1].toArray meth c D cA base := ⟨hx, hb, hr, hml, hown, hts, hlk, hnm, hK, hG⟩
  have hl : lv_has ls 5 [(0, .ref (base + a0)), (1, .int a1)] := hl
  unfold f_an_warningOf at h
  replace h := its h
  obtain ⟨-, h⟩ := h
  refine lv_iconst (v := (0 : Int32)) hx hb d_an_warningOf_0 (by decide) ?_
  refine lv_istore_n (lv' := [(2, .int (0 : Int32)), (0, .ref (base + a0)), (1, .int a1)]) hx hb d_an_warningOf_1 rfl hl (by decide) rfl (fun ls hl => ?_)
  refine lv_iconst (v := (0 : Int32)) hx hb d_an_warningOf_2 (by decide) ?_
  refine lv_istore_n (lv' := [(3, .int (0 : Int32)), (2, .int (0 : Int32)), (0, .ref (base + a0)), (1, .int a1)]) hx hb d_an_warningOf_3 rfl hl (by decide) rfl (fun ls hl => ?_)
  exact j_an_warningOf_4 C KK a0 a1 (0 : Int32) (0 : Int32) w h _ _ _ hW (lv_sub hl [2, 3, 1, 0] rfl)
theorem cv_a_132 {p : Program} {l : Launch} {e : Env} {R : Room} {s : State} {m : MethodId} {args : Array Value} {below : List Frame} {meth : Method} {c : Code} {H : Heap} {locs : List Loc} {cells slots : Nat} {Q : State → Prop} {D : va_G} {cA : Nat → ClassId} {base : Nat} {w w' : WW} {cc : ByteArray} {pc nL : Nat} {ls : Array Slot} {rest st0 As : List Value} {ov : Option Value} {b : Nat} (hx : p.tables.exec = Jvm.exec) (hb : c.code = cc) (hml : c.maxLocals = nL) (hown : s.vm.findClass Rc_a = some m.cls) (hts : ∀ w ∈ gt, w.before args s = true) (hK : va_K D cls (wo_tys cA) s) (hG : wo_G cA base s) (hW : wo_S D cls cA base s w H locs) (hM : mt l D cls (wo_tys cA) cA base y_an_warningOf (Cond.code y_an_warningOf b_an_warningOf 5 (some .int) :: gt) rm_an_warningOf (.ref (base + b) :: As) w ov w' rm_an_warningOf.cells rm_an_warningOf.slots) (hkb : kb w b 6 = true) (hR : rm_an_warningOf.frames + 1 ≤ R.frames ∧ 8 + (5 + 11) + rm_an_warningOf.locals ≤ R.locals) (hf : cells + rm_an_warningOf.cells ≤ R.cells ∧ slots + rm_an_warningOf.slots ≤ R.slots) (hn : As.length = 1) (hsz : ls.size = nL) (hst : st0 = As.reverse ++ .ref (base + b) :: rest) (hcat : (rest.map fun v => v.category).sum ≤ 8) (hdg : decode cc pc = .ok (.invokevirtual 132, 3)) (kk : ∀ (H1 : Heap) (locs1 : List Loc), wo_S D cls cA base s w' H1 locs1 → W p l e R s m args below meth c H1 locs1 (cells + rm_an_warningOf.cells) (slots + rm_an_warningOf.slots) Q (F0 m (pc + 3) ls (ov.toList ++ rest))) : W p l e R s m args below meth c H locs cells slots Q (F0 m pc ls st0) :=
  wo_callV (C := Rc_an) hx hb hml hown hts hK hG hW hM hkb rfl (gt_of (i := 1129) (by decide +kernel) (by decide +kernel)) (gt_of (i := 1130) (by decide +kernel) (by decide +kernel)) (gt_of (i := 1131) (by decide +kernel) (by decide +kernel)) (gt_of (i := 7) (by decide +kernel) (by decide +kernel)) (gt_of (i := 1132) (by decide +kernel) (by decide +kernel)) (by decide +kernel) hR hf hn hsz hst hcat hdg kk
abbrev b_a_warning : ByteArray := prog_1_method_14_code
def y_a_warning : MethodName := ⟨"AlarmForge", "warning", "(I)I"⟩
def rm_a_warning : Room := { frames := 6, cells := 0, slots := 0, locals := 100 }
def rx_a_warning : Room := { frames := 6, cells := 1, slots := 6, locals := 100 }
theorem ow_a_131 : (Bundle.ownAtoms0 "AlarmForge" 131 "java/lang/IndexOutOfBoundsException" ["java/lang/RuntimeException", "java/lang/Exception"]).all ow_ok = true := by decide +kernel
theorem d_a_warning_0 : decode b_a_warning 0 = .ok (.iload_n 1, 1) := by decide +kernel
theorem d_a_warning_1 : decode b_a_warning 1 = .ok (.ifCond .lt (14), 3) := by decide +kernel
theorem d_a_warning_4 : decode b_a_warning 4 = .ok (.iload_n 1, 1) := by decide +kernel
theorem d_a_warning_5 : decode b_a_warning 5 = .ok (.aload_n 0, 1) := by decide +kernel
theorem d_a_warning_6 : decode b_a_warning 6 = .ok (.getfield 50, 3) := by decide +kernel
theorem d_a_warning_9 : decode b_a_warning 9 = .ok (.getfield 126, 3) := by decide +kernel
theorem d_a_warning_12 : decode b_a_warning 12 = .ok (.if_icmp .lt (11), 3) := by decide +kernel
theorem d_a_warning_15 : decode b_a_warning 15 = .ok (.new 129, 3) := by decide +kernel
theorem d_a_warning_18 : decode b_a_warning 18 = .ok (.dup, 1) := by decide +kernel
theorem d_a_warning_19 : decode b_a_warning 19 = .ok (.invokespecial 131, 3) := by decide +kernel
theorem d_a_warning_22 : decode b_a_warning 22 = .ok (.athrow, 1) := by decide +kernel
theorem d_a_warning_23 : decode b_a_warning 23 = .ok (.aload_n 0, 1) := by decide +kernel
theorem d_a_warning_24 : decode b_a_warning 24 = .ok (.getfield 50, 3) := by decide +kernel
theorem d_a_warning_27 : decode b_a_warning 27 = .ok (.iload_n 1, 1) := by decide +kernel
theorem d_a_warning_28 : decode b_a_warning 28 = .ok (.invokevirtual 132, 3) := by decide +kernel
theorem d_a_warning_31 : decode b_a_warning 31 = .ok (.ireturn, 1) := by decide +kernel
theorem kb_a_warning {a0 : Nat} {a1 : Int32} {w : WW} {r : ((Int32 ⊕ String) × WW)} (h : f_a_warning a0 a1 w = some r) : kb w a0 0 = true := (its h).1
set_option maxHeartbeats 4000000 in
set_option maxRecDepth 100000 in
theorem j_a_warning_15 {p : Program} {l : Launch} {e : Env} {s : State} {m : MethodId} {args : Array Value} {below : List Frame} {meth : Method} {c : Code} {D : va_G} {cA : Nat → ClassId} {base : Nat} {r : Int32} {w' : WW} (C : cx b_a_warning (some .int) 2 y_a_warning.cls "warning" p s m args meth c D cA base)   : ∀  (w : WW), f_a_warning_15  w = some (.inl r, w') → ∀ (H : Heap) (locs : List Loc) (ls : Array Slot), wo_S D cls cA base s w H locs → lv_has ls 2 [] → W p l e rm_a_warning s m args below meth c H locs 0 0 (MQ below (wo_Q D cls cA base (some (.int r)) w') args s rm_a_warning.cells rm_a_warning.slots (wo_B base)) (F0 m 15 ls []) := by
  obtain ⟨hx, hb, hr, hml, hown, hts, hlk, hnm, hK, hG⟩ := id C
  intro  w h H locs ls hW hl
  unfold f_a_warning_15 at h
  cases h
set_option maxHeartbeats 4000000 in
set_option maxRecDepth 100000 in
theorem c_a_warning (l : Launch) (D : va_G) (cA : Nat → ClassId) (base : Nat) {a0 : Nat} {a1 : Int32} {w w' : WW} {r : Int32} (h : f_a_warning a0 a1 w = some (.inl r, w')) : mt l D cls (wo_tys cA) cA base y_a_warning (Cond.code y_a_warning b_a_warning 2 (some .int) :: gt) rm_a_warning [.ref (base + a0), .int a1] w (some (.int r)) w' rm_a_warning.cells rm_a_warning.slots := by
  refine mt_start (by decide) (Nat.le_of_ble_eq_true rfl) ?_
  intro p e s m below meth c ls hx hb hr hml hown hts hlk hnm hK hG hW hl
  have C : cx b_a_warning (some .int) 2 y_a_warning.cls "warning" p s m [.ref (base + a0), .int a1].toArray meth c D cA base := ⟨hx, hb, hr, hml, hown, hts, hlk, hnm, hK, hG⟩
  have hl : lv_has ls 2 [(0, .ref (base + a0)), (1, .int a1)] := hl
  unfold f_a_warning at h
  replace h := its h
  obtain ⟨-, h⟩ := h
  refine lv_iload_n hx hb d_a_warning_0 rfl (lv_at hl 1 rfl) ?_
  refine lv_if_lt (tgt := 15) hx hb d_a_warning_1 (by decide) (fun c1 => ?_) (fun c1 => ?_)
  · rw [if_pos c1] at h
    exact j_a_warning_15 C w h _ _ _ hW (lv_sub hl [] rfl)
  · rw [if_neg c1] at h
    refine lv_iload_n hx hb d_a_warning_4 rfl (lv_at hl 1 rfl) ?_
    refine lv_aload_n hx hb d_a_warning_5 rfl (lv_at hl 0 rfl) ?_
    replace h := bs h
    obtain ⟨x2, hx2, h⟩ := h
    refine gf_a_50 hx hb hts hown hK hG hW (gN_s hx2) d_a_warning_6 ?_
    replace h := bs h
    obtain ⟨x3, hx3, h⟩ := h
    refine gf_a_126 hx hb hts hown hK hG hW (gI_s hx3) d_a_warning_9 ?_
    refine lv_icmp_lt (tgt := 23) hx hb d_a_warning_12 (by decide) (fun c4 => ?_) (fun c4 => ?_)
    · rw [if_pos c4] at h
      refine lv_aload_n hx hb d_a_warning_23 rfl (lv_at hl 0 rfl) ?_
      replace h := bs h
      obtain ⟨x5, hx5, h⟩ := h
      refine gf_a_50 hx hb hts hown hK hG hW (gN_s hx5) d_a_warning_24 ?_
      refine lv_iload_n hx hb d_a_warning_27 rfl (lv_at hl 1 rfl) ?_
      replace h := bs2 h
      obtain ⟨x7, w6, hw6, h⟩ := h
      refine cv_a_132 (As := [.int a1]) (rest := []) hx hb hml hown hts hK hG hW (c_an_warningOf l D cA base hw6) (kb_an_warningOf hw6) ⟨Nat.le_of_ble_eq_true rfl, Nat.le_of_ble_eq_true rfl⟩ ⟨Nat.le_of_ble_eq_true rfl, Nat.le_of_ble_eq_true rfl⟩ rfl hl.1 rfl (Nat.le_of_ble_eq_true rfl) d_a_warning_28 (fun H locs hW => ?_)
      cases h
      exact wo_iret hx hb hr hlk hW d_a_warning_31
    · rw [if_neg c4] at h
      exact j_a_warning_15 C w h _ _ _ hW (lv_sub hl [] rfl)
set_option maxHeartbeats 4000000 in
set_option maxRecDepth 100000 in
theorem jx_a_warning_15 {p : Program} {l : Launch} {e : Env} {s : State} {m : MethodId} {args : Array Value} {below : List Frame} {meth : Method} {c : Code} {D : va_G} {cA : Nat → ClassId} {base : Nat} {E : String} {w' : WW} (C : cx b_a_warning (some .int) 2 y_a_warning.cls "warning" p s m args meth c D cA base ∧ (∀ x ∈ c.exceptionTable.toList, ∀ k : Nat, covers x k = false) ∧ l.stackTraces = false)   : ∀  (w : WW), f_a_warning_15  w = some (.inr E, w') → ∀ (H : Heap) (locs : List Loc) (ls : Array Slot), wo_S D cls cA base s w H locs → lv_has ls 2 [] → W p l e rx_a_warning s m args below meth c H locs 0 0 (XQ below (wo_X D cls cA base E w' rx_a_warning.cells rx_a_warning.slots) args s) (F0 m 15 ls []) := by
  obtain ⟨hx, hb, hr, hml, hown, hts, hlk, hnm, hK, hG⟩ := id C.1
  have hnt := C.2.1
  have hst := C.2.2
  intro  w h H locs ls hW hl
  unfold f_a_warning_15 at h
  cases h
  exact wo_throw (names := ["java/lang/RuntimeException", "java/lang/Exception"]) hx hb hst hown hts hG hW hnt hlk (by decide) (by decide) (gt_of (i := 1127) (by decide +kernel) (by decide +kernel)) (gt_of (i := 22) (by decide +kernel) (by decide +kernel)) ow_a_131 (hl.1.trans hml.symm) d_a_warning_15 d_a_warning_18 d_a_warning_19 d_a_warning_22 (Nat.le_of_ble_eq_true rfl) (Nat.le_of_ble_eq_true rfl) (Nat.le_of_ble_eq_true rfl) (Nat.le_of_ble_eq_true rfl) (Nat.le_of_ble_eq_true rfl) (Nat.le_of_ble_eq_true rfl)
set_option maxHeartbeats 4000000 in
set_option maxRecDepth 100000 in
theorem x_a_warning (l : Launch) (hst : l.stackTraces = false) (D : va_G) (cA : Nat → ClassId) (base : Nat) {a0 : Nat} {a1 : Int32} {w w' : WW} {E : String} (h : f_a_warning a0 a1 w = some (.inr E, w')) : xt l D cls (wo_tys cA) cA base y_a_warning (Cond.code y_a_warning b_a_warning 2 (some .int) :: gt) rx_a_warning [.ref (base + a0), .int a1] w E w' rx_a_warning.cells rx_a_warning.slots := by
  refine xt_start (by decide) (Nat.le_of_ble_eq_true rfl) ?_
  intro p e s m below meth c ls hx hb hr hml hown hts hlk hnm hK hG hW hl hnt
  have C : cx b_a_warning (some .int) 2 y_a_warning.cls "warning" p s m [.ref (base + a0), .int a1].toArray meth c D cA base ∧ (∀ x ∈ c.exceptionTable.toList, ∀ k : Nat, covers x k = false) ∧ l.stackTraces = false := ⟨⟨hx, hb, hr, hml, hown, hts, hlk, hnm, hK, hG⟩, hnt, hst⟩
  have hl : lv_has ls 2 [(0, .ref (base + a0)), (1, .int a1)] := hl
  unfold f_a_warning at h
  replace h := its h
  obtain ⟨-, h⟩ := h
  refine lv_iload_n hx hb d_a_warning_0 rfl (lv_at hl 1 rfl) ?_
  refine lv_if_lt (tgt := 15) hx hb d_a_warning_1 (by decide) (fun c1 => ?_) (fun c1 => ?_)
  · rw [if_pos c1] at h
    exact jx_a_warning_15 C w h _ _ _ hW (lv_sub hl [] rfl)
  · rw [if_neg c1] at h
    refine lv_iload_n hx hb d_a_warning_4 rfl (lv_at hl 1 rfl) ?_
    refine lv_aload_n hx hb d_a_warning_5 rfl (lv_at hl 0 rfl) ?_
    replace h := bs h
    obtain ⟨x2, hx2, h⟩ := h
    refine gf_a_50 hx hb hts hown hK hG hW (gN_s hx2) d_a_warning_6 ?_
    replace h := bs h
    obtain ⟨x3, hx3, h⟩ := h
    refine gf_a_126 hx hb hts hown hK hG hW (gI_s hx3) d_a_warning_9 ?_
    refine lv_icmp_lt (tgt := 23) hx hb d_a_warning_12 (by decide) (fun c4 => ?_) (fun c4 => ?_)
    · rw [if_pos c4] at h
      refine lv_aload_n hx hb d_a_warning_23 rfl (lv_at hl 0 rfl) ?_
      replace h := bs h
      obtain ⟨x5, hx5, h⟩ := h
      refine gf_a_50 hx hb hts hown hK hG hW (gN_s hx5) d_a_warning_24 ?_
      refine lv_iload_n hx hb d_a_warning_27 rfl (lv_at hl 1 rfl) ?_
      replace h := bs2 h
      obtain ⟨x7, w6, hw6, h⟩ := h
      refine cv_a_132 (As := [.int a1]) (rest := []) hx hb hml hown hts hK hG hW (c_an_warningOf l D cA base hw6) (kb_an_warningOf hw6) ⟨Nat.le_of_ble_eq_true rfl, Nat.le_of_ble_eq_true rfl⟩ ⟨Nat.le_of_ble_eq_true rfl, Nat.le_of_ble_eq_true rfl⟩ rfl hl.1 rfl (Nat.le_of_ble_eq_true rfl) d_a_warning_28 (fun H locs hW => ?_)
      cases h
    · rw [if_neg c4] at h
      exact jx_a_warning_15 C w h _ _ _ hW (lv_sub hl [] rfl)
abbrev b_va_part : ByteArray := prog_9_method_7_code
def y_va_part : MethodName := ⟨"AlarmForge$Value", "part", "(I)I"⟩
def rm_va_part : Room := { frames := 0, cells := 0, slots := 0, locals := 0 }
theorem d_va_part_0 : decode b_va_part 0 = .ok (.iload_n 1, 1) := by decide +kernel
theorem d_va_part_1 : decode b_va_part 1 = .ok (.tableswitch (45) (0) (2) #[27, 33, 39], 27) := by decide +kernel
theorem d_va_part_28 : decode b_va_part 28 = .ok (.aload_n 0, 1) := by decide +kernel
theorem d_va_part_29 : decode b_va_part 29 = .ok (.getfield 15, 3) := by decide +kernel
theorem d_va_part_32 : decode b_va_part 32 = .ok (.l2i, 1) := by decide +kernel
theorem d_va_part_33 : decode b_va_part 33 = .ok (.ireturn, 1) := by decide +kernel
theorem d_va_part_34 : decode b_va_part 34 = .ok (.aload_n 0, 1) := by decide +kernel
theorem d_va_part_35 : decode b_va_part 35 = .ok (.getfield 19, 3) := by decide +kernel
theorem d_va_part_38 : decode b_va_part 38 = .ok (.l2i, 1) := by decide +kernel
theorem d_va_part_39 : decode b_va_part 39 = .ok (.ireturn, 1) := by decide +kernel
theorem d_va_part_40 : decode b_va_part 40 = .ok (.aload_n 0, 1) := by decide +kernel
theorem d_va_part_41 : decode b_va_part 41 = .ok (.getfield 22, 3) := by decide +kernel
theorem d_va_part_44 : decode b_va_part 44 = .ok (.l2i, 1) := by decide +kernel
theorem d_va_part_45 : decode b_va_part 45 = .ok (.ireturn, 1) := by decide +kernel
theorem d_va_part_46 : decode b_va_part 46 = .ok (.aload_n 0, 1) := by decide +kernel
theorem d_va_part_47 : decode b_va_part 47 = .ok (.getfield 25, 3) := by decide +kernel
theorem d_va_part_50 : decode b_va_part 50 = .ok (.l2i, 1) := by decide +kernel
theorem d_va_part_51 : decode b_va_part 51 = .ok (.ireturn, 1) := by decide +kernel
theorem kb_va_part {a0 : Nat} {a1 : Int32} {w : WW} {r : (Int32 × WW)} (h : f_va_part a0 a1 w = some r) : kb w a0 8 = true := (its h).1
set_option maxHeartbeats 4000000 in
set_option maxRecDepth 100000 in
theorem c_va_part (l : Launch) (D : va_G) (cA : Nat → ClassId) (base : Nat) {a0 : Nat} {a1 : Int32} {w w' : WW} {r : Int32} (h : f_va_part a0 a1 w = some (r, w')) : mt l D cls (wo_tys cA) cA base y_va_part (Cond.code y_va_part b_va_part 2 (some .int) :: gt) rm_va_part [.ref (base + a0), .int a1] w (some (.int r)) w' rm_va_part.cells rm_va_part.slots := by
  refine mt_start (by decide) (Nat.le_of_ble_eq_true rfl) ?_
  intro p e s m below meth c ls hx hb hr hml hown hts hlk hnm hK hG hW hl
  have C : cx b_va_part (some .int) 2 y_va_part.cls "part" p s m [.ref (base + a0), .int a1].toArray meth c D cA base := ⟨hx, hb, hr, hml, hown, hts, hlk, hnm, hK, hG⟩
  have hl : lv_has ls 2 [(0, .ref (base + a0)), (1, .int a1)] := hl
  unfold f_va_part at h
  replace h := its h
  obtain ⟨-, h⟩ := h
  refine lv_iload_n hx hb d_va_part_0 rfl (lv_at hl 1 rfl) ?_
  by_cases c1 : a1 = (0 : Int32)
  · rw [if_pos c1] at h
    refine lv_tableIn (off := 27) (tgt := 28) hx hb d_va_part_1 (by rw [c1]; decide) (by rw [c1]; decide) (by rw [c1]; rfl) (by decide) ?_
    refine lv_aload_n hx hb d_va_part_28 rfl (lv_at hl 0 rfl) ?_
    replace h := bs h
    obtain ⟨x2, hx2, h⟩ := h
    refine gf_va_15 hx hb hts hown hK hG hW (gL_s hx2) d_va_part_29 ?_
    refine lv_l2i hx hb d_va_part_32 rfl ?_
    cases h
    exact wo_iret hx hb hr hlk hW d_va_part_33
  · rw [if_neg c1] at h
    by_cases c3 : a1 = (1 : Int32)
    · rw [if_pos c3] at h
      refine lv_tableIn (off := 33) (tgt := 34) hx hb d_va_part_1 (by rw [c3]; decide) (by rw [c3]; decide) (by rw [c3]; rfl) (by decide) ?_
      refine lv_aload_n hx hb d_va_part_34 rfl (lv_at hl 0 rfl) ?_
      replace h := bs h
      obtain ⟨x4, hx4, h⟩ := h
      refine gf_va_19 hx hb hts hown hK hG hW (gL_s hx4) d_va_part_35 ?_
      refine lv_l2i hx hb d_va_part_38 rfl ?_
      cases h
      exact wo_iret hx hb hr hlk hW d_va_part_39
    · rw [if_neg c3] at h
      by_cases c5 : a1 = (2 : Int32)
      · rw [if_pos c5] at h
        refine lv_tableIn (off := 39) (tgt := 40) hx hb d_va_part_1 (by rw [c5]; decide) (by rw [c5]; decide) (by rw [c5]; rfl) (by decide) ?_
        refine lv_aload_n hx hb d_va_part_40 rfl (lv_at hl 0 rfl) ?_
        replace h := bs h
        obtain ⟨x6, hx6, h⟩ := h
        refine gf_va_22 hx hb hts hown hK hG hW (gL_s hx6) d_va_part_41 ?_
        refine lv_l2i hx hb d_va_part_44 rfl ?_
        cases h
        exact wo_iret hx hb hr hlk hW d_va_part_45
      · rw [if_neg c5] at h
        refine lv_tableOut (tgt := 46) hx hb d_va_part_1 (by have n0 := lv_neT c1 (show (0 : Int32).toInt = 0 from rfl); have n1 := lv_neT c3 (show (1 : Int32).toInt = 1 from rfl); have n2 := lv_neT c5 (show (2 : Int32).toInt = 2 from rfl); omega) (by decide) ?_
        refine lv_aload_n hx hb d_va_part_46 rfl (lv_at hl 0 rfl) ?_
        replace h := bs h
        obtain ⟨x7, hx7, h⟩ := h
        refine gf_va_25 hx hb hts hown hK hG hW (gL_s hx7) d_va_part_47 ?_
        refine lv_l2i hx hb d_va_part_50 rfl ?_
        cases h
        exact wo_iret hx hb hr hlk hW d_va_part_51
theorem cv_a_161 {p : Program} {l : Launch} {e : Env} {R : Room} {s : State} {m : MethodId} {args : Array Value} {below : List Frame} {meth : Method} {c : Code} {H : Heap} {locs : List Loc} {cells slots : Nat} {Q : State → Prop} {D : va_G} {cA : Nat → ClassId} {base : Nat} {w w' : WW} {cc : ByteArray} {pc nL : Nat} {ls : Array Slot} {rest st0 As : List Value} {ov : Option Value} {b : Nat} (hx : p.tables.exec = Jvm.exec) (hb : c.code = cc) (hml : c.maxLocals = nL) (hown : s.vm.findClass Rc_a = some m.cls) (hts : ∀ w ∈ gt, w.before args s = true) (hK : va_K D cls (wo_tys cA) s) (hG : wo_G cA base s) (hW : wo_S D cls cA base s w H locs) (hM : mt l D cls (wo_tys cA) cA base y_va_part (Cond.code y_va_part b_va_part 2 (some .int) :: gt) rm_va_part (.ref (base + b) :: As) w ov w' rm_va_part.cells rm_va_part.slots) (hkb : kb w b 8 = true) (hR : rm_va_part.frames + 1 ≤ R.frames ∧ 8 + (2 + 11) + rm_va_part.locals ≤ R.locals) (hf : cells + rm_va_part.cells ≤ R.cells ∧ slots + rm_va_part.slots ≤ R.slots) (hn : As.length = 1) (hsz : ls.size = nL) (hst : st0 = As.reverse ++ .ref (base + b) :: rest) (hcat : (rest.map fun v => v.category).sum ≤ 8) (hdg : decode cc pc = .ok (.invokevirtual 161, 3)) (kk : ∀ (H1 : Heap) (locs1 : List Loc), wo_S D cls cA base s w' H1 locs1 → W p l e R s m args below meth c H1 locs1 (cells + rm_va_part.cells) (slots + rm_va_part.slots) Q (F0 m (pc + 3) ls (ov.toList ++ rest))) : W p l e R s m args below meth c H locs cells slots Q (F0 m pc ls st0) :=
  wo_callV (C := Rc_va) hx hb hml hown hts hK hG hW hM hkb rfl (gt_of (i := 1142) (by decide +kernel) (by decide +kernel)) (gt_of (i := 1143) (by decide +kernel) (by decide +kernel)) (gt_of (i := 1144) (by decide +kernel) (by decide +kernel)) (gt_of (i := 9) (by decide +kernel) (by decide +kernel)) (gt_of (i := 1145) (by decide +kernel) (by decide +kernel)) (by decide +kernel) hR hf hn hsz hst hcat hdg kk
abbrev b_a_left : ByteArray := prog_1_method_15_code
def y_a_left : MethodName := ⟨"AlarmForge", "left", "(II)I"⟩
def rm_a_left : Room := { frames := 6, cells := 0, slots := 0, locals := 100 }
def rx_a_left : Room := { frames := 6, cells := 1, slots := 6, locals := 100 }
theorem ow_a_159 : (Bundle.ownAtoms0 "AlarmForge" 159 "java/lang/UnsupportedOperationException" ["java/lang/RuntimeException", "java/lang/Exception"]).all ow_ok = true := by decide +kernel
theorem d_a_left_0 : decode b_a_left 0 = .ok (.iload_n 2, 1) := by decide +kernel
theorem d_a_left_1 : decode b_a_left 1 = .ok (.ifCond .lt (8), 3) := by decide +kernel
theorem d_a_left_4 : decode b_a_left 4 = .ok (.iload_n 2, 1) := by decide +kernel
theorem d_a_left_5 : decode b_a_left 5 = .ok (.iconst 4, 1) := by decide +kernel
theorem d_a_left_6 : decode b_a_left 6 = .ok (.if_icmp .le (11), 3) := by decide +kernel
theorem d_a_left_9 : decode b_a_left 9 = .ok (.new 62, 3) := by decide +kernel
theorem d_a_left_12 : decode b_a_left 12 = .ok (.dup, 1) := by decide +kernel
theorem d_a_left_13 : decode b_a_left 13 = .ok (.invokespecial 64, 3) := by decide +kernel
theorem d_a_left_16 : decode b_a_left 16 = .ok (.athrow, 1) := by decide +kernel
theorem d_a_left_17 : decode b_a_left 17 = .ok (.iload_n 1, 1) := by decide +kernel
theorem d_a_left_18 : decode b_a_left 18 = .ok (.ifCond .lt (13), 3) := by decide +kernel
theorem d_a_left_21 : decode b_a_left 21 = .ok (.iload_n 1, 1) := by decide +kernel
theorem d_a_left_22 : decode b_a_left 22 = .ok (.bipush (6), 2) := by decide +kernel
theorem d_a_left_24 : decode b_a_left 24 = .ok (.if_icmp .ge (7), 3) := by decide +kernel
theorem d_a_left_27 : decode b_a_left 27 = .ok (.iconst 1, 1) := by decide +kernel
theorem d_a_left_28 : decode b_a_left 28 = .ok (.goto (4), 3) := by decide +kernel
theorem d_a_left_31 : decode b_a_left 31 = .ok (.iconst 0, 1) := by decide +kernel
theorem d_a_left_32 : decode b_a_left 32 = .ok (.istore_n 3, 1) := by decide +kernel
theorem d_a_left_33 : decode b_a_left 33 = .ok (.iload_n 1, 1) := by decide +kernel
theorem d_a_left_34 : decode b_a_left 34 = .ok (.bipush (10), 2) := by decide +kernel
theorem d_a_left_36 : decode b_a_left 36 = .ok (.if_icmp .lt (13), 3) := by decide +kernel
theorem d_a_left_39 : decode b_a_left 39 = .ok (.iload_n 1, 1) := by decide +kernel
theorem d_a_left_40 : decode b_a_left 40 = .ok (.bipush (18), 2) := by decide +kernel
theorem d_a_left_42 : decode b_a_left 42 = .ok (.if_icmp .ge (7), 3) := by decide +kernel
theorem d_a_left_45 : decode b_a_left 45 = .ok (.iconst 1, 1) := by decide +kernel
theorem d_a_left_46 : decode b_a_left 46 = .ok (.goto (4), 3) := by decide +kernel
theorem d_a_left_49 : decode b_a_left 49 = .ok (.iconst 0, 1) := by decide +kernel
theorem d_a_left_50 : decode b_a_left 50 = .ok (.istore 4, 2) := by decide +kernel
theorem d_a_left_52 : decode b_a_left 52 = .ok (.iload_n 3, 1) := by decide +kernel
theorem d_a_left_53 : decode b_a_left 53 = .ok (.ifCond .ne (16), 3) := by decide +kernel
theorem d_a_left_56 : decode b_a_left 56 = .ok (.iload 4, 2) := by decide +kernel
theorem d_a_left_58 : decode b_a_left 58 = .ok (.ifCond .ne (11), 3) := by decide +kernel
theorem d_a_left_61 : decode b_a_left 61 = .ok (.new 129, 3) := by decide +kernel
theorem d_a_left_64 : decode b_a_left 64 = .ok (.dup, 1) := by decide +kernel
theorem d_a_left_65 : decode b_a_left 65 = .ok (.invokespecial 131, 3) := by decide +kernel
theorem d_a_left_68 : decode b_a_left 68 = .ok (.athrow, 1) := by decide +kernel
theorem d_a_left_69 : decode b_a_left 69 = .ok (.aload_n 0, 1) := by decide +kernel
theorem d_a_left_70 : decode b_a_left 70 = .ok (.getfield 50, 3) := by decide +kernel
theorem d_a_left_73 : decode b_a_left 73 = .ok (.getfield 136, 3) := by decide +kernel
theorem d_a_left_76 : decode b_a_left 76 = .ok (.ifCond .ne (11), 3) := by decide +kernel
theorem d_a_left_79 : decode b_a_left 79 = .ok (.new 70, 3) := by decide +kernel
theorem d_a_left_82 : decode b_a_left 82 = .ok (.dup, 1) := by decide +kernel
theorem d_a_left_83 : decode b_a_left 83 = .ok (.invokespecial 72, 3) := by decide +kernel
theorem d_a_left_86 : decode b_a_left 86 = .ok (.athrow, 1) := by decide +kernel
theorem d_a_left_87 : decode b_a_left 87 = .ok (.aload_n 0, 1) := by decide +kernel
theorem d_a_left_88 : decode b_a_left 88 = .ok (.getfield 50, 3) := by decide +kernel
theorem d_a_left_91 : decode b_a_left 91 = .ok (.getfield 139, 3) := by decide +kernel
theorem d_a_left_94 : decode b_a_left 94 = .ok (.astore 5, 2) := by decide +kernel
theorem d_a_left_96 : decode b_a_left 96 = .ok (.aload 5, 2) := by decide +kernel
theorem d_a_left_98 : decode b_a_left 98 = .ok (.getfield 143, 3) := by decide +kernel
theorem d_a_left_101 : decode b_a_left 101 = .ok (.iload_n 3, 1) := by decide +kernel
theorem d_a_left_102 : decode b_a_left 102 = .ok (.ifCond .eq (7), 3) := by decide +kernel
theorem d_a_left_105 : decode b_a_left 105 = .ok (.iload_n 1, 1) := by decide +kernel
theorem d_a_left_106 : decode b_a_left 106 = .ok (.goto (10), 3) := by decide +kernel
theorem d_a_left_109 : decode b_a_left 109 = .ok (.bipush (6), 2) := by decide +kernel
theorem d_a_left_111 : decode b_a_left 111 = .ok (.iload_n 1, 1) := by decide +kernel
theorem d_a_left_112 : decode b_a_left 112 = .ok (.iadd, 1) := by decide +kernel
theorem d_a_left_113 : decode b_a_left 113 = .ok (.bipush (10), 2) := by decide +kernel
theorem d_a_left_115 : decode b_a_left 115 = .ok (.isub, 1) := by decide +kernel
theorem d_a_left_116 : decode b_a_left 116 = .ok (.aaload, 1) := by decide +kernel
theorem d_a_left_117 : decode b_a_left 117 = .ok (.astore 6, 2) := by decide +kernel
theorem d_a_left_119 : decode b_a_left 119 = .ok (.aload 5, 2) := by decide +kernel
theorem d_a_left_121 : decode b_a_left 121 = .ok (.getfield 149, 3) := by decide +kernel
theorem d_a_left_124 : decode b_a_left 124 = .ok (.ifCond .ne (16), 3) := by decide +kernel
theorem d_a_left_127 : decode b_a_left 127 = .ok (.iload_n 2, 1) := by decide +kernel
theorem d_a_left_128 : decode b_a_left 128 = .ok (.iconst 4, 1) := by decide +kernel
theorem d_a_left_129 : decode b_a_left 129 = .ok (.if_icmp .ge (19), 3) := by decide +kernel
theorem d_a_left_132 : decode b_a_left 132 = .ok (.aload 6, 2) := by decide +kernel
theorem d_a_left_134 : decode b_a_left 134 = .ok (.getfield 152, 3) := by decide +kernel
theorem d_a_left_137 : decode b_a_left 137 = .ok (.ifCond .eq (11), 3) := by decide +kernel
theorem d_a_left_140 : decode b_a_left 140 = .ok (.new 157, 3) := by decide +kernel
theorem d_a_left_143 : decode b_a_left 143 = .ok (.dup, 1) := by decide +kernel
theorem d_a_left_144 : decode b_a_left 144 = .ok (.invokespecial 159, 3) := by decide +kernel
theorem d_a_left_147 : decode b_a_left 147 = .ok (.athrow, 1) := by decide +kernel
theorem d_a_left_148 : decode b_a_left 148 = .ok (.iload_n 2, 1) := by decide +kernel
theorem d_a_left_149 : decode b_a_left 149 = .ok (.iconst 4, 1) := by decide +kernel
theorem d_a_left_150 : decode b_a_left 150 = .ok (.if_icmp .ne (23), 3) := by decide +kernel
theorem d_a_left_153 : decode b_a_left 153 = .ok (.iload_n 3, 1) := by decide +kernel
theorem d_a_left_154 : decode b_a_left 154 = .ok (.ifCond .eq (17), 3) := by decide +kernel
theorem d_a_left_157 : decode b_a_left 157 = .ok (.aload 5, 2) := by decide +kernel
theorem d_a_left_159 : decode b_a_left 159 = .ok (.getfield 160, 3) := by decide +kernel
theorem d_a_left_162 : decode b_a_left 162 = .ok (.iload_n 1, 1) := by decide +kernel
theorem d_a_left_163 : decode b_a_left 163 = .ok (.baload, 1) := by decide +kernel
theorem d_a_left_164 : decode b_a_left 164 = .ok (.ifCond .eq (7), 3) := by decide +kernel
theorem d_a_left_167 : decode b_a_left 167 = .ok (.iconst 1, 1) := by decide +kernel
theorem d_a_left_168 : decode b_a_left 168 = .ok (.goto (4), 3) := by decide +kernel
theorem d_a_left_171 : decode b_a_left 171 = .ok (.iconst 0, 1) := by decide +kernel
theorem d_a_left_172 : decode b_a_left 172 = .ok (.ireturn, 1) := by decide +kernel
theorem d_a_left_173 : decode b_a_left 173 = .ok (.aload 6, 2) := by decide +kernel
theorem d_a_left_175 : decode b_a_left 175 = .ok (.iload_n 2, 1) := by decide +kernel
theorem d_a_left_176 : decode b_a_left 176 = .ok (.invokevirtual 161, 3) := by decide +kernel
theorem d_a_left_179 : decode b_a_left 179 = .ok (.ireturn, 1) := by decide +kernel
theorem kb_a_left {a0 : Nat} {a1 : Int32} {a2 : Int32} {w : WW} {r : ((Int32 ⊕ String) × WW)} (h : f_a_left a0 a1 a2 w = some r) : kb w a0 0 = true := (its h).1
set_option maxHeartbeats 4000000 in
set_option maxRecDepth 100000 in
theorem j_a_left_9 {p : Program} {l : Launch} {e : Env} {s : State} {m : MethodId} {args : Array Value} {below : List Frame} {meth : Method} {c : Code} {D : va_G} {cA : Nat → ClassId} {base : Nat} {r : Int32} {w' : WW} (C : cx b_a_left (some .int) 7 y_a_left.cls "left" p s m args meth c D cA base)   : ∀  (w : WW), f_a_left_9  w = some (.inl r, w') → ∀ (H : Heap) (locs : List Loc) (ls : Array Slot), wo_S D cls cA base s w H locs → lv_has ls 7 [] → W p l e rm_a_left s m args below meth c H locs 0 0 (MQ below (wo_Q D cls cA base (some (.int r)) w') args s rm_a_left.cells rm_a_left.slots (wo_B base)) (F0 m 9 ls []) := by
  obtain ⟨hx, hb, hr, hml, hown, hts, hlk, hnm, hK, hG⟩ := id C
  intro  w h H locs ls hW hl
  unfold f_a_left_9 at h
  cases h
set_option maxHeartbeats 4000000 in
set_option maxRecDepth 100000 in
theorem j_a_left_140 {p : Program} {l : Launch} {e : Env} {s : State} {m : MethodId} {args : Array Value} {below : List Frame} {meth : Method} {c : Code} {D : va_G} {cA : Nat → ClassId} {base : Nat} {r : Int32} {w' : WW} (C : cx b_a_left (some .int) 7 y_a_left.cls "left" p s m args meth c D cA base)   : ∀  (w : WW), f_a_left_140  w = some (.inl r, w') → ∀ (H : Heap) (locs : List Loc) (ls : Array Slot), wo_S D cls cA base s w H locs → lv_has ls 7 [] → W p l e rm_a_left s m args below meth c H locs 0 0 (MQ below (wo_Q D cls cA base (some (.int r)) w') args s rm_a_left.cells rm_a_left.slots (wo_B base)) (F0 m 140 ls []) := by
  obtain ⟨hx, hb, hr, hml, hown, hts, hlk, hnm, hK, hG⟩ := id C
  intro  w h H locs ls hW hl
  unfold f_a_left_140 at h
  cases h
set_option maxHeartbeats 4000000 in
set_option maxRecDepth 100000 in
theorem j_a_left_172 {p : Program} {l : Launch} {e : Env} {s : State} {m : MethodId} {args : Array Value} {below : List Frame} {meth : Method} {c : Code} {D : va_G} {cA : Nat → ClassId} {base : Nat} {r : Int32} {w' : WW} (C : cx b_a_left (some .int) 7 y_a_left.cls "left" p s m args meth c D cA base)   : ∀ (z0 : Int32) (w : WW), f_a_left_172 z0 w = some (.inl r, w') → ∀ (H : Heap) (locs : List Loc) (ls : Array Slot), wo_S D cls cA base s w H locs → lv_has ls 7 [] → W p l e rm_a_left s m args below meth c H locs 0 0 (MQ below (wo_Q D cls cA base (some (.int r)) w') args s rm_a_left.cells rm_a_left.slots (wo_B base)) (F0 m 172 ls [.int z0]) := by
  obtain ⟨hx, hb, hr, hml, hown, hts, hlk, hnm, hK, hG⟩ := id C
  intro z0 w h H locs ls hW hl
  unfold f_a_left_172 at h
  cases h
  exact wo_iret hx hb hr hlk hW d_a_left_172
set_option maxHeartbeats 4000000 in
set_option maxRecDepth 100000 in
theorem j_a_left_171 {p : Program} {l : Launch} {e : Env} {s : State} {m : MethodId} {args : Array Value} {below : List Frame} {meth : Method} {c : Code} {D : va_G} {cA : Nat → ClassId} {base : Nat} {r : Int32} {w' : WW} (C : cx b_a_left (some .int) 7 y_a_left.cls "left" p s m args meth c D cA base)   : ∀  (w : WW), f_a_left_171  w = some (.inl r, w') → ∀ (H : Heap) (locs : List Loc) (ls : Array Slot), wo_S D cls cA base s w H locs → lv_has ls 7 [] → W p l e rm_a_left s m args below meth c H locs 0 0 (MQ below (wo_Q D cls cA base (some (.int r)) w') args s rm_a_left.cells rm_a_left.slots (wo_B base)) (F0 m 171 ls []) := by
  obtain ⟨hx, hb, hr, hml, hown, hts, hlk, hnm, hK, hG⟩ := id C
  intro  w h H locs ls hW hl
  unfold f_a_left_171 at h
  refine lv_iconst (v := (0 : Int32)) hx hb d_a_left_171 (by decide) ?_
  exact j_a_left_172 C (0 : Int32) w h _ _ _ hW (lv_sub hl [] rfl)
set_option maxHeartbeats 4000000 in
set_option maxRecDepth 100000 in
theorem j_a_left_148 {p : Program} {l : Launch} {e : Env} {s : State} {m : MethodId} {args : Array Value} {below : List Frame} {meth : Method} {c : Code} {D : va_G} {cA : Nat → ClassId} {base : Nat} {r : Int32} {w' : WW} (C : cx b_a_left (some .int) 7 y_a_left.cls "left" p s m args meth c D cA base)   : ∀ (y1 : Int32) (y2 : Int32) (y3 : Int32) (y5 : Nat) (y6 : Nat) (w : WW), f_a_left_148 y1 y2 y3 y5 y6 w = some (.inl r, w') → ∀ (H : Heap) (locs : List Loc) (ls : Array Slot), wo_S D cls cA base s w H locs → lv_has ls 7 [(1, .int y1), (2, .int y2), (3, .int y3), (5, .ref (base + y5)), (6, .ref (base + y6))] → W p l e rm_a_left s m args below meth c H locs 0 0 (MQ below (wo_Q D cls cA base (some (.int r)) w') args s rm_a_left.cells rm_a_left.slots (wo_B base)) (F0 m 148 ls []) := by
  obtain ⟨hx, hb, hr, hml, hown, hts, hlk, hnm, hK, hG⟩ := id C
  intro y1 y2 y3 y5 y6 w h H locs ls hW hl
  unfold f_a_left_148 at h
  refine lv_iload_n hx hb d_a_left_148 rfl (lv_at hl 1 rfl) ?_
  refine lv_iconst (v := (4 : Int32)) hx hb d_a_left_149 (by decide) ?_
  refine lv_icmp_ne (tgt := 173) hx hb d_a_left_150 (by decide) (fun c17 => ?_) (fun c17 => ?_)
  · rw [if_neg c17] at h
    refine lv_aload hx hb d_a_left_173 (lv_at hl 4 rfl) ?_
    refine lv_iload_n hx hb d_a_left_175 rfl (lv_at hl 1 rfl) ?_
    replace h := bs2 h
    obtain ⟨x19, w18, hw18, h⟩ := h
    refine cv_a_161 (As := [.int y2]) (rest := []) hx hb hml hown hts hK hG hW (c_va_part l D cA base hw18) (kb_va_part hw18) ⟨Nat.le_of_ble_eq_true rfl, Nat.le_of_ble_eq_true rfl⟩ ⟨Nat.le_of_ble_eq_true rfl, Nat.le_of_ble_eq_true rfl⟩ rfl hl.1 rfl (Nat.le_of_ble_eq_true rfl) d_a_left_176 (fun H locs hW => ?_)
    cases h
    exact wo_iret hx hb hr hlk hW d_a_left_179
  · rw [if_pos c17] at h
    refine lv_iload_n hx hb d_a_left_153 rfl (lv_at hl 2 rfl) ?_
    refine lv_if_eq (tgt := 171) hx hb d_a_left_154 (by decide) (fun c20 => ?_) (fun c20 => ?_)
    · rw [if_pos c20] at h
      exact j_a_left_171 C w h _ _ _ hW (lv_sub hl [] rfl)
    · rw [if_neg c20] at h
      refine lv_aload hx hb d_a_left_157 (lv_at hl 3 rfl) ?_
      replace h := bs h
      obtain ⟨x21, hx21, h⟩ := h
      refine gf_a_160 hx hb hts hown hK hG hW (gN_s hx21) d_a_left_159 ?_
      refine lv_iload_n hx hb d_a_left_162 rfl (lv_at hl 0 rfl) ?_
      replace h := bs h
      obtain ⟨x22, hx22, h⟩ := h
      refine wo_zald hx hb hK hW (t := 2) rfl hx22 d_a_left_163 ?_
      refine lv_if_eq (tgt := 171) hx hb d_a_left_164 (by decide) (fun c23 => ?_) (fun c23 => ?_)
      · rw [if_pos c23] at h
        exact j_a_left_171 C w h _ _ _ hW (lv_sub hl [] rfl)
      · rw [if_neg c23] at h
        refine lv_iconst (v := (1 : Int32)) hx hb d_a_left_167 (by decide) ?_
        refine lv_goto (tgt := 172) hx hb d_a_left_168 (by decide) ?_
        exact j_a_left_172 C (1 : Int32) w h _ _ _ hW (lv_sub hl [] rfl)
set_option maxHeartbeats 4000000 in
set_option maxRecDepth 100000 in
theorem j_a_left_116 {p : Program} {l : Launch} {e : Env} {s : State} {m : MethodId} {args : Array Value} {below : List Frame} {meth : Method} {c : Code} {D : va_G} {cA : Nat → ClassId} {base : Nat} {r : Int32} {w' : WW} (C : cx b_a_left (some .int) 7 y_a_left.cls "left" p s m args meth c D cA base)   : ∀ (y1 : Int32) (y2 : Int32) (y3 : Int32) (y5 : Nat) (z0 : Nat) (z1 : Int32) (w : WW), f_a_left_116 y1 y2 y3 y5 z0 z1 w = some (.inl r, w') → ∀ (H : Heap) (locs : List Loc) (ls : Array Slot), wo_S D cls cA base s w H locs → lv_has ls 7 [(1, .int y1), (2, .int y2), (3, .int y3), (5, .ref (base + y5))] → W p l e rm_a_left s m args below meth c H locs 0 0 (MQ below (wo_Q D cls cA base (some (.int r)) w') args s rm_a_left.cells rm_a_left.slots (wo_B base)) (F0 m 116 ls [.int z1, .ref (base + z0)]) := by
  obtain ⟨hx, hb, hr, hml, hown, hts, hlk, hnm, hK, hG⟩ := id C
  intro y1 y2 y3 y5 z0 z1 w h H locs ls hW hl
  unfold f_a_left_116 at h
  replace h := bs h
  obtain ⟨x13, hx13, h⟩ := h
  refine wo_aald hx hb hK hW (t := 4) rfl (rN_s hx13) d_a_left_116 ?_
  refine lv_astore (lv' := [(6, .ref (base + x13)), (1, .int y1), (2, .int y2), (3, .int y3), (5, .ref (base + y5))]) hx hb d_a_left_117 hl (by decide) rfl (fun ls hl => ?_)
  refine lv_aload hx hb d_a_left_119 (lv_at hl 4 rfl) ?_
  replace h := bs h
  obtain ⟨x14, hx14, h⟩ := h
  refine gf_a_149 hx hb hts hown hK hG hW (gI_s hx14) d_a_left_121 ?_
  refine lv_if_ne (tgt := 140) hx hb d_a_left_124 (by decide) (fun c15 => ?_) (fun c15 => ?_)
  · rw [if_neg c15] at h
    exact j_a_left_140 C w h _ _ _ hW (lv_sub hl [] rfl)
  · rw [if_pos c15] at h
    refine lv_iload_n hx hb d_a_left_127 rfl (lv_at hl 2 rfl) ?_
    refine lv_iconst (v := (4 : Int32)) hx hb d_a_left_128 (by decide) ?_
    refine lv_icmp_ge (tgt := 148) hx hb d_a_left_129 (by decide) (fun c16 => ?_) (fun c16 => ?_)
    · rw [if_pos c16] at h
      exact j_a_left_148 C y1 y2 y3 y5 x13 w h _ _ _ hW (lv_sub hl [1, 2, 3, 4, 0] rfl)
    · rw [if_neg c16] at h
      refine lv_aload hx hb d_a_left_132 (lv_at hl 0 rfl) ?_
      replace h := bs h
      obtain ⟨x24, hx24, h⟩ := h
      refine gf_a_152 hx hb hts hown hK hG hW (gI_s hx24) d_a_left_134 ?_
      refine lv_if_eq (tgt := 148) hx hb d_a_left_137 (by decide) (fun c25 => ?_) (fun c25 => ?_)
      · rw [if_pos c25] at h
        exact j_a_left_148 C y1 y2 y3 y5 x13 w h _ _ _ hW (lv_sub hl [1, 2, 3, 4, 0] rfl)
      · rw [if_neg c25] at h
        exact j_a_left_140 C w h _ _ _ hW (lv_sub hl [] rfl)
set_option maxHeartbeats 4000000 in
set_option maxRecDepth 100000 in
theorem j_a_left_69 {p : Program} {l : Launch} {e : Env} {s : State} {m : MethodId} {args : Array Value} {below : List Frame} {meth : Method} {c : Code} {D : va_G} {cA : Nat → ClassId} {base : Nat} {r : Int32} {w' : WW} (C : cx b_a_left (some .int) 7 y_a_left.cls "left" p s m args meth c D cA base)   : ∀ (y0 : Nat) (y1 : Int32) (y2 : Int32) (y3 : Int32) (w : WW), f_a_left_69 y0 y1 y2 y3 w = some (.inl r, w') → ∀ (H : Heap) (locs : List Loc) (ls : Array Slot), wo_S D cls cA base s w H locs → lv_has ls 7 [(0, .ref (base + y0)), (1, .int y1), (2, .int y2), (3, .int y3)] → W p l e rm_a_left s m args below meth c H locs 0 0 (MQ below (wo_Q D cls cA base (some (.int r)) w') args s rm_a_left.cells rm_a_left.slots (wo_B base)) (F0 m 69 ls []) := by
  obtain ⟨hx, hb, hr, hml, hown, hts, hlk, hnm, hK, hG⟩ := id C
  intro y0 y1 y2 y3 w h H locs ls hW hl
  unfold f_a_left_69 at h
  refine lv_aload_n hx hb d_a_left_69 rfl (lv_at hl 0 rfl) ?_
  replace h := bs h
  obtain ⟨x6, hx6, h⟩ := h
  refine gf_a_50 hx hb hts hown hK hG hW (gN_s hx6) d_a_left_70 ?_
  replace h := bs h
  obtain ⟨x7, hx7, h⟩ := h
  refine gf_a_136 hx hb hts hown hK hG hW (gI_s hx7) d_a_left_73 ?_
  refine lv_if_ne (tgt := 87) hx hb d_a_left_76 (by decide) (fun c8 => ?_) (fun c8 => ?_)
  · rw [if_neg c8] at h
    refine lv_aload_n hx hb d_a_left_87 rfl (lv_at hl 0 rfl) ?_
    replace h := bs h
    obtain ⟨x9, hx9, h⟩ := h
    refine gf_a_50 hx hb hts hown hK hG hW (gN_s hx9) d_a_left_88 ?_
    replace h := bs h
    obtain ⟨x10, hx10, h⟩ := h
    refine gf_a_139 hx hb hts hown hK hG hW (gN_s hx10) d_a_left_91 ?_
    refine lv_astore (lv' := [(5, .ref (base + x10)), (0, .ref (base + y0)), (1, .int y1), (2, .int y2), (3, .int y3)]) hx hb d_a_left_94 hl (by decide) rfl (fun ls hl => ?_)
    refine lv_aload hx hb d_a_left_96 (lv_at hl 0 rfl) ?_
    replace h := bs h
    obtain ⟨x11, hx11, h⟩ := h
    refine gf_a_143 hx hb hts hown hK hG hW (gN_s hx11) d_a_left_98 ?_
    refine lv_iload_n hx hb d_a_left_101 rfl (lv_at hl 4 rfl) ?_
    refine lv_if_eq (tgt := 109) hx hb d_a_left_102 (by decide) (fun c12 => ?_) (fun c12 => ?_)
    · rw [if_pos c12] at h
      refine lv_bipush (v := (6 : Int32)) hx hb d_a_left_109 (by decide) ?_
      refine lv_iload_n hx hb d_a_left_111 rfl (lv_at hl 2 rfl) ?_
      refine lv_iadd hx hb d_a_left_112 ?_
      refine lv_bipush (v := (10 : Int32)) hx hb d_a_left_113 (by decide) ?_
      refine lv_isub hx hb d_a_left_115 ?_
      exact j_a_left_116 C y1 y2 y3 x10 x11 (((6 : Int32) + y1) - (10 : Int32)) w h _ _ _ hW (lv_sub hl [2, 3, 4, 0] rfl)
    · rw [if_neg c12] at h
      refine lv_iload_n hx hb d_a_left_105 rfl (lv_at hl 2 rfl) ?_
      refine lv_goto (tgt := 116) hx hb d_a_left_106 (by decide) ?_
      exact j_a_left_116 C y1 y2 y3 x10 x11 y1 w h _ _ _ hW (lv_sub hl [2, 3, 4, 0] rfl)
  · rw [if_pos c8] at h
    cases h
set_option maxHeartbeats 4000000 in
set_option maxRecDepth 100000 in
theorem j_a_left_50 {p : Program} {l : Launch} {e : Env} {s : State} {m : MethodId} {args : Array Value} {below : List Frame} {meth : Method} {c : Code} {D : va_G} {cA : Nat → ClassId} {base : Nat} {r : Int32} {w' : WW} (C : cx b_a_left (some .int) 7 y_a_left.cls "left" p s m args meth c D cA base)   : ∀ (y0 : Nat) (y1 : Int32) (y2 : Int32) (y3 : Int32) (z0 : Int32) (w : WW), f_a_left_50 y0 y1 y2 y3 z0 w = some (.inl r, w') → ∀ (H : Heap) (locs : List Loc) (ls : Array Slot), wo_S D cls cA base s w H locs → lv_has ls 7 [(0, .ref (base + y0)), (1, .int y1), (2, .int y2), (3, .int y3)] → W p l e rm_a_left s m args below meth c H locs 0 0 (MQ below (wo_Q D cls cA base (some (.int r)) w') args s rm_a_left.cells rm_a_left.slots (wo_B base)) (F0 m 50 ls [.int z0]) := by
  obtain ⟨hx, hb, hr, hml, hown, hts, hlk, hnm, hK, hG⟩ := id C
  intro y0 y1 y2 y3 z0 w h H locs ls hW hl
  unfold f_a_left_50 at h
  refine lv_istore (lv' := [(4, .int z0), (0, .ref (base + y0)), (1, .int y1), (2, .int y2), (3, .int y3)]) hx hb d_a_left_50 hl (by decide) rfl (fun ls hl => ?_)
  refine lv_iload_n hx hb d_a_left_52 rfl (lv_at hl 4 rfl) ?_
  refine lv_if_ne (tgt := 69) hx hb d_a_left_53 (by decide) (fun c5 => ?_) (fun c5 => ?_)
  · rw [if_neg c5] at h
    exact j_a_left_69 C y0 y1 y2 y3 w h _ _ _ hW (lv_sub hl [1, 2, 3, 4] rfl)
  · rw [if_pos c5] at h
    refine lv_iload hx hb d_a_left_56 (lv_at hl 0 rfl) ?_
    refine lv_if_ne (tgt := 69) hx hb d_a_left_58 (by decide) (fun c26 => ?_) (fun c26 => ?_)
    · rw [if_neg c26] at h
      exact j_a_left_69 C y0 y1 y2 y3 w h _ _ _ hW (lv_sub hl [1, 2, 3, 4] rfl)
    · rw [if_pos c26] at h
      cases h
set_option maxHeartbeats 4000000 in
set_option maxRecDepth 100000 in
theorem j_a_left_49 {p : Program} {l : Launch} {e : Env} {s : State} {m : MethodId} {args : Array Value} {below : List Frame} {meth : Method} {c : Code} {D : va_G} {cA : Nat → ClassId} {base : Nat} {r : Int32} {w' : WW} (C : cx b_a_left (some .int) 7 y_a_left.cls "left" p s m args meth c D cA base)   : ∀ (y0 : Nat) (y1 : Int32) (y2 : Int32) (y3 : Int32) (w : WW), f_a_left_49 y0 y1 y2 y3 w = some (.inl r, w') → ∀ (H : Heap) (locs : List Loc) (ls : Array Slot), wo_S D cls cA base s w H locs → lv_has ls 7 [(0, .ref (base + y0)), (1, .int y1), (2, .int y2), (3, .int y3)] → W p l e rm_a_left s m args below meth c H locs 0 0 (MQ below (wo_Q D cls cA base (some (.int r)) w') args s rm_a_left.cells rm_a_left.slots (wo_B base)) (F0 m 49 ls []) := by
  obtain ⟨hx, hb, hr, hml, hown, hts, hlk, hnm, hK, hG⟩ := id C
  intro y0 y1 y2 y3 w h H locs ls hW hl
  unfold f_a_left_49 at h
  refine lv_iconst (v := (0 : Int32)) hx hb d_a_left_49 (by decide) ?_
  exact j_a_left_50 C y0 y1 y2 y3 (0 : Int32) w h _ _ _ hW (lv_sub hl [0, 1, 2, 3] rfl)
set_option maxHeartbeats 4000000 in
set_option maxRecDepth 100000 in
theorem j_a_left_32 {p : Program} {l : Launch} {e : Env} {s : State} {m : MethodId} {args : Array Value} {below : List Frame} {meth : Method} {c : Code} {D : va_G} {cA : Nat → ClassId} {base : Nat} {r : Int32} {w' : WW} (C : cx b_a_left (some .int) 7 y_a_left.cls "left" p s m args meth c D cA base)   : ∀ (y0 : Nat) (y1 : Int32) (y2 : Int32) (z0 : Int32) (w : WW), f_a_left_32 y0 y1 y2 z0 w = some (.inl r, w') → ∀ (H : Heap) (locs : List Loc) (ls : Array Slot), wo_S D cls cA base s w H locs → lv_has ls 7 [(0, .ref (base + y0)), (1, .int y1), (2, .int y2)] → W p l e rm_a_left s m args below meth c H locs 0 0 (MQ below (wo_Q D cls cA base (some (.int r)) w') args s rm_a_left.cells rm_a_left.slots (wo_B base)) (F0 m 32 ls [.int z0]) := by
  obtain ⟨hx, hb, hr, hml, hown, hts, hlk, hnm, hK, hG⟩ := id C
  intro y0 y1 y2 z0 w h H locs ls hW hl
  unfold f_a_left_32 at h
  refine lv_istore_n (lv' := [(3, .int z0), (0, .ref (base + y0)), (1, .int y1), (2, .int y2)]) hx hb d_a_left_32 rfl hl (by decide) rfl (fun ls hl => ?_)
  refine lv_iload_n hx hb d_a_left_33 rfl (lv_at hl 2 rfl) ?_
  refine lv_bipush (v := (10 : Int32)) hx hb d_a_left_34 (by decide) ?_
  refine lv_icmp_lt (tgt := 49) hx hb d_a_left_36 (by decide) (fun c4 => ?_) (fun c4 => ?_)
  · rw [if_pos c4] at h
    exact j_a_left_49 C y0 y1 y2 z0 w h _ _ _ hW (lv_sub hl [1, 2, 3, 0] rfl)
  · rw [if_neg c4] at h
    refine lv_iload_n hx hb d_a_left_39 rfl (lv_at hl 2 rfl) ?_
    refine lv_bipush (v := (18 : Int32)) hx hb d_a_left_40 (by decide) ?_
    refine lv_icmp_ge (tgt := 49) hx hb d_a_left_42 (by decide) (fun c27 => ?_) (fun c27 => ?_)
    · rw [if_pos c27] at h
      exact j_a_left_49 C y0 y1 y2 z0 w h _ _ _ hW (lv_sub hl [1, 2, 3, 0] rfl)
    · rw [if_neg c27] at h
      refine lv_iconst (v := (1 : Int32)) hx hb d_a_left_45 (by decide) ?_
      refine lv_goto (tgt := 50) hx hb d_a_left_46 (by decide) ?_
      exact j_a_left_50 C y0 y1 y2 z0 (1 : Int32) w h _ _ _ hW (lv_sub hl [1, 2, 3, 0] rfl)
set_option maxHeartbeats 4000000 in
set_option maxRecDepth 100000 in
theorem j_a_left_31 {p : Program} {l : Launch} {e : Env} {s : State} {m : MethodId} {args : Array Value} {below : List Frame} {meth : Method} {c : Code} {D : va_G} {cA : Nat → ClassId} {base : Nat} {r : Int32} {w' : WW} (C : cx b_a_left (some .int) 7 y_a_left.cls "left" p s m args meth c D cA base)   : ∀ (y0 : Nat) (y1 : Int32) (y2 : Int32) (w : WW), f_a_left_31 y0 y1 y2 w = some (.inl r, w') → ∀ (H : Heap) (locs : List Loc) (ls : Array Slot), wo_S D cls cA base s w H locs → lv_has ls 7 [(0, .ref (base + y0)), (1, .int y1), (2, .int y2)] → W p l e rm_a_left s m args below meth c H locs 0 0 (MQ below (wo_Q D cls cA base (some (.int r)) w') args s rm_a_left.cells rm_a_left.slots (wo_B base)) (F0 m 31 ls []) := by
  obtain ⟨hx, hb, hr, hml, hown, hts, hlk, hnm, hK, hG⟩ := id C
  intro y0 y1 y2 w h H locs ls hW hl
  unfold f_a_left_31 at h
  refine lv_iconst (v := (0 : Int32)) hx hb d_a_left_31 (by decide) ?_
  exact j_a_left_32 C y0 y1 y2 (0 : Int32) w h _ _ _ hW (lv_sub hl [0, 1, 2] rfl)
set_option maxHeartbeats 4000000 in
set_option maxRecDepth 100000 in
theorem c_a_left (l : Launch) (D : va_G) (cA : Nat → ClassId) (base : Nat) {a0 : Nat} {a1 : Int32} {a2 : Int32} {w w' : WW} {r : Int32} (h : f_a_left a0 a1 a2 w = some (.inl r, w')) : mt l D cls (wo_tys cA) cA base y_a_left (Cond.code y_a_left b_a_left 7 (some .int) :: gt) rm_a_left [.ref (base + a0), .int a1, .int a2] w (some (.int r)) w' rm_a_left.cells rm_a_left.slots := by
  refine mt_start (by decide) (Nat.le_of_ble_eq_true rfl) ?_
  intro p e s m below meth c ls hx hb hr hml hown hts hlk hnm hK hG hW hl
  have C : cx b_a_left (some .int) 7 y_a_left.cls "left" p s m [.ref (base + a0), .int a1, .int a2].toArray meth c D cA base := ⟨hx, hb, hr, hml, hown, hts, hlk, hnm, hK, hG⟩
  have hl : lv_has ls 7 [(0, .ref (base + a0)), (1, .int a1), (2, .int a2)] := hl
  unfold f_a_left at h
  replace h := its h
  obtain ⟨-, h⟩ := h
  refine lv_iload_n hx hb d_a_left_0 rfl (lv_at hl 2 rfl) ?_
  refine lv_if_lt (tgt := 9) hx hb d_a_left_1 (by decide) (fun c1 => ?_) (fun c1 => ?_)
  · rw [if_pos c1] at h
    exact j_a_left_9 C w h _ _ _ hW (lv_sub hl [] rfl)
  · rw [if_neg c1] at h
    refine lv_iload_n hx hb d_a_left_4 rfl (lv_at hl 2 rfl) ?_
    refine lv_iconst (v := (4 : Int32)) hx hb d_a_left_5 (by decide) ?_
    refine lv_icmp_le (tgt := 17) hx hb d_a_left_6 (by decide) (fun c2 => ?_) (fun c2 => ?_)
    · rw [if_pos c2] at h
      refine lv_iload_n hx hb d_a_left_17 rfl (lv_at hl 1 rfl) ?_
      refine lv_if_lt (tgt := 31) hx hb d_a_left_18 (by decide) (fun c3 => ?_) (fun c3 => ?_)
      · rw [if_pos c3] at h
        exact j_a_left_31 C a0 a1 a2 w h _ _ _ hW (lv_sub hl [0, 1, 2] rfl)
      · rw [if_neg c3] at h
        refine lv_iload_n hx hb d_a_left_21 rfl (lv_at hl 1 rfl) ?_
        refine lv_bipush (v := (6 : Int32)) hx hb d_a_left_22 (by decide) ?_
        refine lv_icmp_ge (tgt := 31) hx hb d_a_left_24 (by decide) (fun c28 => ?_) (fun c28 => ?_)
        · rw [if_pos c28] at h
          exact j_a_left_31 C a0 a1 a2 w h _ _ _ hW (lv_sub hl [0, 1, 2] rfl)
        · rw [if_neg c28] at h
          refine lv_iconst (v := (1 : Int32)) hx hb d_a_left_27 (by decide) ?_
          refine lv_goto (tgt := 32) hx hb d_a_left_28 (by decide) ?_
          exact j_a_left_32 C a0 a1 a2 (1 : Int32) w h _ _ _ hW (lv_sub hl [0, 1, 2] rfl)
    · rw [if_neg c2] at h
      exact j_a_left_9 C w h _ _ _ hW (lv_sub hl [] rfl)
set_option maxHeartbeats 4000000 in
set_option maxRecDepth 100000 in
theorem jx_a_left_9 {p : Program} {l : Launch} {e : Env} {s : State} {m : MethodId} {args : Array Value} {below : List Frame} {meth : Method} {c : Code} {D : va_G} {cA : Nat → ClassId} {base : Nat} {E : String} {w' : WW} (C : cx b_a_left (some .int) 7 y_a_left.cls "left" p s m args meth c D cA base ∧ (∀ x ∈ c.exceptionTable.toList, ∀ k : Nat, covers x k = false) ∧ l.stackTraces = false)   : ∀  (w : WW), f_a_left_9  w = some (.inr E, w') → ∀ (H : Heap) (locs : List Loc) (ls : Array Slot), wo_S D cls cA base s w H locs → lv_has ls 7 [] → W p l e rx_a_left s m args below meth c H locs 0 0 (XQ below (wo_X D cls cA base E w' rx_a_left.cells rx_a_left.slots) args s) (F0 m 9 ls []) := by
  obtain ⟨hx, hb, hr, hml, hown, hts, hlk, hnm, hK, hG⟩ := id C.1
  have hnt := C.2.1
  have hst := C.2.2
  intro  w h H locs ls hW hl
  unfold f_a_left_9 at h
  cases h
  exact wo_throw (names := ["java/lang/RuntimeException", "java/lang/Exception"]) hx hb hst hown hts hG hW hnt hlk (by decide) (by decide) (gt_of (i := 395) (by decide +kernel) (by decide +kernel)) (gt_of (i := 14) (by decide +kernel) (by decide +kernel)) ow_a_64 (hl.1.trans hml.symm) d_a_left_9 d_a_left_12 d_a_left_13 d_a_left_16 (Nat.le_of_ble_eq_true rfl) (Nat.le_of_ble_eq_true rfl) (Nat.le_of_ble_eq_true rfl) (Nat.le_of_ble_eq_true rfl) (Nat.le_of_ble_eq_true rfl) (Nat.le_of_ble_eq_true rfl)
set_option maxHeartbeats 4000000 in
set_option maxRecDepth 100000 in
theorem jx_a_left_140 {p : Program} {l : Launch} {e : Env} {s : State} {m : MethodId} {args : Array Value} {below : List Frame} {meth : Method} {c : Code} {D : va_G} {cA : Nat → ClassId} {base : Nat} {E : String} {w' : WW} (C : cx b_a_left (some .int) 7 y_a_left.cls "left" p s m args meth c D cA base ∧ (∀ x ∈ c.exceptionTable.toList, ∀ k : Nat, covers x k = false) ∧ l.stackTraces = false)   : ∀  (w : WW), f_a_left_140  w = some (.inr E, w') → ∀ (H : Heap) (locs : List Loc) (ls : Array Slot), wo_S D cls cA base s w H locs → lv_has ls 7 [] → W p l e rx_a_left s m args below meth c H locs 0 0 (XQ below (wo_X D cls cA base E w' rx_a_left.cells rx_a_left.slots) args s) (F0 m 140 ls []) := by
  obtain ⟨hx, hb, hr, hml, hown, hts, hlk, hnm, hK, hG⟩ := id C.1
  have hnt := C.2.1
  have hst := C.2.2
  intro  w h H locs ls hW hl
  unfold f_a_left_140 at h
  cases h
  exact wo_throw (names := ["java/lang/RuntimeException", "java/lang/Exception"]) hx hb hst hown hts hG hW hnt hlk (by decide) (by decide) (gt_of (i := 1140) (by decide +kernel) (by decide +kernel)) (gt_of (i := 23) (by decide +kernel) (by decide +kernel)) ow_a_159 (hl.1.trans hml.symm) d_a_left_140 d_a_left_143 d_a_left_144 d_a_left_147 (Nat.le_of_ble_eq_true rfl) (Nat.le_of_ble_eq_true rfl) (Nat.le_of_ble_eq_true rfl) (Nat.le_of_ble_eq_true rfl) (Nat.le_of_ble_eq_true rfl) (Nat.le_of_ble_eq_true rfl)
set_option maxHeartbeats 4000000 in
set_option maxRecDepth 100000 in
theorem jx_a_left_172 {p : Program} {l : Launch} {e : Env} {s : State} {m : MethodId} {args : Array Value} {below : List Frame} {meth : Method} {c : Code} {D : va_G} {cA : Nat → ClassId} {base : Nat} {E : String} {w' : WW} (C : cx b_a_left (some .int) 7 y_a_left.cls "left" p s m args meth c D cA base ∧ (∀ x ∈ c.exceptionTable.toList, ∀ k : Nat, covers x k = false) ∧ l.stackTraces = false)   : ∀ (z0 : Int32) (w : WW), f_a_left_172 z0 w = some (.inr E, w') → ∀ (H : Heap) (locs : List Loc) (ls : Array Slot), wo_S D cls cA base s w H locs → lv_has ls 7 [] → W p l e rx_a_left s m args below meth c H locs 0 0 (XQ below (wo_X D cls cA base E w' rx_a_left.cells rx_a_left.slots) args s) (F0 m 172 ls [.int z0]) := by
  obtain ⟨hx, hb, hr, hml, hown, hts, hlk, hnm, hK, hG⟩ := id C.1
  have hnt := C.2.1
  have hst := C.2.2
  intro z0 w h H locs ls hW hl
  unfold f_a_left_172 at h
  cases h
set_option maxHeartbeats 4000000 in
set_option maxRecDepth 100000 in
theorem jx_a_left_171 {p : Program} {l : Launch} {e : Env} {s : State} {m : MethodId} {args : Array Value} {below : List Frame} {meth : Method} {c : Code} {D : va_G} {cA : Nat → ClassId} {base : Nat} {E : String} {w' : WW} (C : cx b_a_left (some .int) 7 y_a_left.cls "left" p s m args meth c D cA base ∧ (∀ x ∈ c.exceptionTable.toList, ∀ k : Nat, covers x k = false) ∧ l.stackTraces = false)   : ∀  (w : WW), f_a_left_171  w = some (.inr E, w') → ∀ (H : Heap) (locs : List Loc) (ls : Array Slot), wo_S D cls cA base s w H locs → lv_has ls 7 [] → W p l e rx_a_left s m args below meth c H locs 0 0 (XQ below (wo_X D cls cA base E w' rx_a_left.cells rx_a_left.slots) args s) (F0 m 171 ls []) := by
  obtain ⟨hx, hb, hr, hml, hown, hts, hlk, hnm, hK, hG⟩ := id C.1
  have hnt := C.2.1
  have hst := C.2.2
  intro  w h H locs ls hW hl
  unfold f_a_left_171 at h
  refine lv_iconst (v := (0 : Int32)) hx hb d_a_left_171 (by decide) ?_
  exact jx_a_left_172 C (0 : Int32) w h _ _ _ hW (lv_sub hl [] rfl)
set_option maxHeartbeats 4000000 in
set_option maxRecDepth 100000 in
theorem jx_a_left_148 {p : Program} {l : Launch} {e : Env} {s : State} {m : MethodId} {args : Array Value} {below : List Frame} {meth : Method} {c : Code} {D : va_G} {cA : Nat → ClassId} {base : Nat} {E : String} {w' : WW} (C : cx b_a_left (some .int) 7 y_a_left.cls "left" p s m args meth c D cA base ∧ (∀ x ∈ c.exceptionTable.toList, ∀ k : Nat, covers x k = false) ∧ l.stackTraces = false)   : ∀ (y1 : Int32) (y2 : Int32) (y3 : Int32) (y5 : Nat) (y6 : Nat) (w : WW), f_a_left_148 y1 y2 y3 y5 y6 w = some (.inr E, w') → ∀ (H : Heap) (locs : List Loc) (ls : Array Slot), wo_S D cls cA base s w H locs → lv_has ls 7 [(1, .int y1), (2, .int y2), (3, .int y3), (5, .ref (base + y5)), (6, .ref (base + y6))] → W p l e rx_a_left s m args below meth c H locs 0 0 (XQ below (wo_X D cls cA base E w' rx_a_left.cells rx_a_left.slots) args s) (F0 m 148 ls []) := by
  obtain ⟨hx, hb, hr, hml, hown, hts, hlk, hnm, hK, hG⟩ := id C.1
  have hnt := C.2.1
  have hst := C.2.2
  intro y1 y2 y3 y5 y6 w h H locs ls hW hl
  unfold f_a_left_148 at h
  refine lv_iload_n hx hb d_a_left_148 rfl (lv_at hl 1 rfl) ?_
  refine lv_iconst (v := (4 : Int32)) hx hb d_a_left_149 (by decide) ?_
  refine lv_icmp_ne (tgt := 173) hx hb d_a_left_150 (by decide) (fun c17 => ?_) (fun c17 => ?_)
  · rw [if_neg c17] at h
    refine lv_aload hx hb d_a_left_173 (lv_at hl 4 rfl) ?_
    refine lv_iload_n hx hb d_a_left_175 rfl (lv_at hl 1 rfl) ?_
    replace h := bs2 h
    obtain ⟨x19, w18, hw18, h⟩ := h
    refine cv_a_161 (As := [.int y2]) (rest := []) hx hb hml hown hts hK hG hW (c_va_part l D cA base hw18) (kb_va_part hw18) ⟨Nat.le_of_ble_eq_true rfl, Nat.le_of_ble_eq_true rfl⟩ ⟨Nat.le_of_ble_eq_true rfl, Nat.le_of_ble_eq_true rfl⟩ rfl hl.1 rfl (Nat.le_of_ble_eq_true rfl) d_a_left_176 (fun H locs hW => ?_)
    cases h
  · rw [if_pos c17] at h
    refine lv_iload_n hx hb d_a_left_153 rfl (lv_at hl 2 rfl) ?_
    refine lv_if_eq (tgt := 171) hx hb d_a_left_154 (by decide) (fun c20 => ?_) (fun c20 => ?_)
    · rw [if_pos c20] at h
      exact jx_a_left_171 C w h _ _ _ hW (lv_sub hl [] rfl)
    · rw [if_neg c20] at h
      refine lv_aload hx hb d_a_left_157 (lv_at hl 3 rfl) ?_
      replace h := bs h
      obtain ⟨x21, hx21, h⟩ := h
      refine gf_a_160 hx hb hts hown hK hG hW (gN_s hx21) d_a_left_159 ?_
      refine lv_iload_n hx hb d_a_left_162 rfl (lv_at hl 0 rfl) ?_
      replace h := bs h
      obtain ⟨x22, hx22, h⟩ := h
      refine wo_zald hx hb hK hW (t := 2) rfl hx22 d_a_left_163 ?_
      refine lv_if_eq (tgt := 171) hx hb d_a_left_164 (by decide) (fun c23 => ?_) (fun c23 => ?_)
      · rw [if_pos c23] at h
        exact jx_a_left_171 C w h _ _ _ hW (lv_sub hl [] rfl)
      · rw [if_neg c23] at h
        refine lv_iconst (v := (1 : Int32)) hx hb d_a_left_167 (by decide) ?_
        refine lv_goto (tgt := 172) hx hb d_a_left_168 (by decide) ?_
        exact jx_a_left_172 C (1 : Int32) w h _ _ _ hW (lv_sub hl [] rfl)
set_option maxHeartbeats 4000000 in
set_option maxRecDepth 100000 in
theorem jx_a_left_116 {p : Program} {l : Launch} {e : Env} {s : State} {m : MethodId} {args : Array Value} {below : List Frame} {meth : Method} {c : Code} {D : va_G} {cA : Nat → ClassId} {base : Nat} {E : String} {w' : WW} (C : cx b_a_left (some .int) 7 y_a_left.cls "left" p s m args meth c D cA base ∧ (∀ x ∈ c.exceptionTable.toList, ∀ k : Nat, covers x k = false) ∧ l.stackTraces = false)   : ∀ (y1 : Int32) (y2 : Int32) (y3 : Int32) (y5 : Nat) (z0 : Nat) (z1 : Int32) (w : WW), f_a_left_116 y1 y2 y3 y5 z0 z1 w = some (.inr E, w') → ∀ (H : Heap) (locs : List Loc) (ls : Array Slot), wo_S D cls cA base s w H locs → lv_has ls 7 [(1, .int y1), (2, .int y2), (3, .int y3), (5, .ref (base + y5))] → W p l e rx_a_left s m args below meth c H locs 0 0 (XQ below (wo_X D cls cA base E w' rx_a_left.cells rx_a_left.slots) args s) (F0 m 116 ls [.int z1, .ref (base + z0)]) := by
  obtain ⟨hx, hb, hr, hml, hown, hts, hlk, hnm, hK, hG⟩ := id C.1
  have hnt := C.2.1
  have hst := C.2.2
  intro y1 y2 y3 y5 z0 z1 w h H locs ls hW hl
  unfold f_a_left_116 at h
  replace h := bs h
  obtain ⟨x13, hx13, h⟩ := h
  refine wo_aald hx hb hK hW (t := 4) rfl (rN_s hx13) d_a_left_116 ?_
  refine lv_astore (lv' := [(6, .ref (base + x13)), (1, .int y1), (2, .int y2), (3, .int y3), (5, .ref (base + y5))]) hx hb d_a_left_117 hl (by decide) rfl (fun ls hl => ?_)
  refine lv_aload hx hb d_a_left_119 (lv_at hl 4 rfl) ?_
  replace h := bs h
  obtain ⟨x14, hx14, h⟩ := h
  refine gf_a_149 hx hb hts hown hK hG hW (gI_s hx14) d_a_left_121 ?_
  refine lv_if_ne (tgt := 140) hx hb d_a_left_124 (by decide) (fun c15 => ?_) (fun c15 => ?_)
  · rw [if_neg c15] at h
    exact jx_a_left_140 C w h _ _ _ hW (lv_sub hl [] rfl)
  · rw [if_pos c15] at h
    refine lv_iload_n hx hb d_a_left_127 rfl (lv_at hl 2 rfl) ?_
    refine lv_iconst (v := (4 : Int32)) hx hb d_a_left_128 (by decide) ?_
    refine lv_icmp_ge (tgt := 148) hx hb d_a_left_129 (by decide) (fun c16 => ?_) (fun c16 => ?_)
    · rw [if_pos c16] at h
      exact jx_a_left_148 C y1 y2 y3 y5 x13 w h _ _ _ hW (lv_sub hl [1, 2, 3, 4, 0] rfl)
    · rw [if_neg c16] at h
      refine lv_aload hx hb d_a_left_132 (lv_at hl 0 rfl) ?_
      replace h := bs h
      obtain ⟨x24, hx24, h⟩ := h
      refine gf_a_152 hx hb hts hown hK hG hW (gI_s hx24) d_a_left_134 ?_
      refine lv_if_eq (tgt := 148) hx hb d_a_left_137 (by decide) (fun c25 => ?_) (fun c25 => ?_)
      · rw [if_pos c25] at h
        exact jx_a_left_148 C y1 y2 y3 y5 x13 w h _ _ _ hW (lv_sub hl [1, 2, 3, 4, 0] rfl)
      · rw [if_neg c25] at h
        exact jx_a_left_140 C w h _ _ _ hW (lv_sub hl [] rfl)
set_option maxHeartbeats 4000000 in
set_option maxRecDepth 100000 in
theorem jx_a_left_69 {p : Program} {l : Launch} {e : Env} {s : State} {m : MethodId} {args : Array Value} {below : List Frame} {meth : Method} {c : Code} {D : va_G} {cA : Nat → ClassId} {base : Nat} {E : String} {w' : WW} (C : cx b_a_left (some .int) 7 y_a_left.cls "left" p s m args meth c D cA base ∧ (∀ x ∈ c.exceptionTable.toList, ∀ k : Nat, covers x k = false) ∧ l.stackTraces = false)   : ∀ (y0 : Nat) (y1 : Int32) (y2 : Int32) (y3 : Int32) (w : WW), f_a_left_69 y0 y1 y2 y3 w = some (.inr E, w') → ∀ (H : Heap) (locs : List Loc) (ls : Array Slot), wo_S D cls cA base s w H locs → lv_has ls 7 [(0, .ref (base + y0)), (1, .int y1), (2, .int y2), (3, .int y3)] → W p l e rx_a_left s m args below meth c H locs 0 0 (XQ below (wo_X D cls cA base E w' rx_a_left.cells rx_a_left.slots) args s) (F0 m 69 ls []) := by
  obtain ⟨hx, hb, hr, hml, hown, hts, hlk, hnm, hK, hG⟩ := id C.1
  have hnt := C.2.1
  have hst := C.2.2
  intro y0 y1 y2 y3 w h H locs ls hW hl
  unfold f_a_left_69 at h
  refine lv_aload_n hx hb d_a_left_69 rfl (lv_at hl 0 rfl) ?_
  replace h := bs h
  obtain ⟨x6, hx6, h⟩ := h
  refine gf_a_50 hx hb hts hown hK hG hW (gN_s hx6) d_a_left_70 ?_
  replace h := bs h
  obtain ⟨x7, hx7, h⟩ := h
  refine gf_a_136 hx hb hts hown hK hG hW (gI_s hx7) d_a_left_73 ?_
  refine lv_if_ne (tgt := 87) hx hb d_a_left_76 (by decide) (fun c8 => ?_) (fun c8 => ?_)
  · rw [if_neg c8] at h
    refine lv_aload_n hx hb d_a_left_87 rfl (lv_at hl 0 rfl) ?_
    replace h := bs h
    obtain ⟨x9, hx9, h⟩ := h
    refine gf_a_50 hx hb hts hown hK hG hW (gN_s hx9) d_a_left_88 ?_
    replace h := bs h
    obtain ⟨x10, hx10, h⟩ := h
    refine gf_a_139 hx hb hts hown hK hG hW (gN_s hx10) d_a_left_91 ?_
    refine lv_astore (lv' := [(5, .ref (base + x10)), (0, .ref (base + y0)), (1, .int y1), (2, .int y2), (3, .int y3)]) hx hb d_a_left_94 hl (by decide) rfl (fun ls hl => ?_)
    refine lv_aload hx hb d_a_left_96 (lv_at hl 0 rfl) ?_
    replace h := bs h
    obtain ⟨x11, hx11, h⟩ := h
    refine gf_a_143 hx hb hts hown hK hG hW (gN_s hx11) d_a_left_98 ?_
    refine lv_iload_n hx hb d_a_left_101 rfl (lv_at hl 4 rfl) ?_
    refine lv_if_eq (tgt := 109) hx hb d_a_left_102 (by decide) (fun c12 => ?_) (fun c12 => ?_)
    · rw [if_pos c12] at h
      refine lv_bipush (v := (6 : Int32)) hx hb d_a_left_109 (by decide) ?_
      refine lv_iload_n hx hb d_a_left_111 rfl (lv_at hl 2 rfl) ?_
      refine lv_iadd hx hb d_a_left_112 ?_
      refine lv_bipush (v := (10 : Int32)) hx hb d_a_left_113 (by decide) ?_
      refine lv_isub hx hb d_a_left_115 ?_
      exact jx_a_left_116 C y1 y2 y3 x10 x11 (((6 : Int32) + y1) - (10 : Int32)) w h _ _ _ hW (lv_sub hl [2, 3, 4, 0] rfl)
    · rw [if_neg c12] at h
      refine lv_iload_n hx hb d_a_left_105 rfl (lv_at hl 2 rfl) ?_
      refine lv_goto (tgt := 116) hx hb d_a_left_106 (by decide) ?_
      exact jx_a_left_116 C y1 y2 y3 x10 x11 y1 w h _ _ _ hW (lv_sub hl [2, 3, 4, 0] rfl)
  · rw [if_pos c8] at h
    cases h
    exact wo_throw (names := ["java/lang/RuntimeException", "java/lang/Exception"]) hx hb hst hown hts hG hW hnt hlk (by decide) (by decide) (gt_of (i := 460) (by decide +kernel) (by decide +kernel)) (gt_of (i := 15) (by decide +kernel) (by decide +kernel)) ow_a_72 (hl.1.trans hml.symm) d_a_left_79 d_a_left_82 d_a_left_83 d_a_left_86 (Nat.le_of_ble_eq_true rfl) (Nat.le_of_ble_eq_true rfl) (Nat.le_of_ble_eq_true rfl) (Nat.le_of_ble_eq_true rfl) (Nat.le_of_ble_eq_true rfl) (Nat.le_of_ble_eq_true rfl)
set_option maxHeartbeats 4000000 in
set_option maxRecDepth 100000 in
theorem jx_a_left_50 {p : Program} {l : Launch} {e : Env} {s : State} {m : MethodId} {args : Array Value} {below : List Frame} {meth : Method} {c : Code} {D : va_G} {cA : Nat → ClassId} {base : Nat} {E : String} {w' : WW} (C : cx b_a_left (some .int) 7 y_a_left.cls "left" p s m args meth c D cA base ∧ (∀ x ∈ c.exceptionTable.toList, ∀ k : Nat, covers x k = false) ∧ l.stackTraces = false)   : ∀ (y0 : Nat) (y1 : Int32) (y2 : Int32) (y3 : Int32) (z0 : Int32) (w : WW), f_a_left_50 y0 y1 y2 y3 z0 w = some (.inr E, w') → ∀ (H : Heap) (locs : List Loc) (ls : Array Slot), wo_S D cls cA base s w H locs → lv_has ls 7 [(0, .ref (base + y0)), (1, .int y1), (2, .int y2), (3, .int y3)] → W p l e rx_a_left s m args below meth c H locs 0 0 (XQ below (wo_X D cls cA base E w' rx_a_left.cells rx_a_left.slots) args s) (F0 m 50 ls [.int z0]) := by
  obtain ⟨hx, hb, hr, hml, hown, hts, hlk, hnm, hK, hG⟩ := id C.1
  have hnt := C.2.1
  have hst := C.2.2
  intro y0 y1 y2 y3 z0 w h H locs ls hW hl
  unfold f_a_left_50 at h
  refine lv_istore (lv' := [(4, .int z0), (0, .ref (base + y0)), (1, .int y1), (2, .int y2), (3, .int y3)]) hx hb d_a_left_50 hl (by decide) rfl (fun ls hl => ?_)
  refine lv_iload_n hx hb d_a_left_52 rfl (lv_at hl 4 rfl) ?_
  refine lv_if_ne (tgt := 69) hx hb d_a_left_53 (by decide) (fun c5 => ?_) (fun c5 => ?_)
  · rw [if_neg c5] at h
    exact jx_a_left_69 C y0 y1 y2 y3 w h _ _ _ hW (lv_sub hl [1, 2, 3, 4] rfl)
  · rw [if_pos c5] at h
    refine lv_iload hx hb d_a_left_56 (lv_at hl 0 rfl) ?_
    refine lv_if_ne (tgt := 69) hx hb d_a_left_58 (by decide) (fun c26 => ?_) (fun c26 => ?_)
    · rw [if_neg c26] at h
      exact jx_a_left_69 C y0 y1 y2 y3 w h _ _ _ hW (lv_sub hl [1, 2, 3, 4] rfl)
    · rw [if_pos c26] at h
      cases h
      exact wo_throw (names := ["java/lang/RuntimeException", "java/lang/Exception"]) hx hb hst hown hts hG hW hnt hlk (by decide) (by decide) (gt_of (i := 1127) (by decide +kernel) (by decide +kernel)) (gt_of (i := 22) (by decide +kernel) (by decide +kernel)) ow_a_131 (hl.1.trans hml.symm) d_a_left_61 d_a_left_64 d_a_left_65 d_a_left_68 (Nat.le_of_ble_eq_true rfl) (Nat.le_of_ble_eq_true rfl) (Nat.le_of_ble_eq_true rfl) (Nat.le_of_ble_eq_true rfl) (Nat.le_of_ble_eq_true rfl) (Nat.le_of_ble_eq_true rfl)
set_option maxHeartbeats 4000000 in
set_option maxRecDepth 100000 in
theorem jx_a_left_49 {p : Program} {l : Launch} {e : Env} {s : State} {m : MethodId} {args : Array Value} {below : List Frame} {meth : Method} {c : Code} {D : va_G} {cA : Nat → ClassId} {base : Nat} {E : String} {w' : WW} (C : cx b_a_left (some .int) 7 y_a_left.cls "left" p s m args meth c D cA base ∧ (∀ x ∈ c.exceptionTable.toList, ∀ k : Nat, covers x k = false) ∧ l.stackTraces = false)   : ∀ (y0 : Nat) (y1 : Int32) (y2 : Int32) (y3 : Int32) (w : WW), f_a_left_49 y0 y1 y2 y3 w = some (.inr E, w') → ∀ (H : Heap) (locs : List Loc) (ls : Array Slot), wo_S D cls cA base s w H locs → lv_has ls 7 [(0, .ref (base + y0)), (1, .int y1), (2, .int y2), (3, .int y3)] → W p l e rx_a_left s m args below meth c H locs 0 0 (XQ below (wo_X D cls cA base E w' rx_a_left.cells rx_a_left.slots) args s) (F0 m 49 ls []) := by
  obtain ⟨hx, hb, hr, hml, hown, hts, hlk, hnm, hK, hG⟩ := id C.1
  have hnt := C.2.1
  have hst := C.2.2
  intro y0 y1 y2 y3 w h H locs ls hW hl
  unfold f_a_left_49 at h
  refine lv_iconst (v := (0 : Int32)) hx hb d_a_left_49 (by decide) ?_
  exact jx_a_left_50 C y0 y1 y2 y3 (0 : Int32) w h _ _ _ hW (lv_sub hl [0, 1, 2, 3] rfl)
set_option maxHeartbeats 4000000 in
set_option maxRecDepth 100000 in
theorem jx_a_left_32 {p : Program} {l : Launch} {e : Env} {s : State} {m : MethodId} {args : Array Value} {below : List Frame} {meth : Method} {c : Code} {D : va_G} {cA : Nat → ClassId} {base : Nat} {E : String} {w' : WW} (C : cx b_a_left (some .int) 7 y_a_left.cls "left" p s m args meth c D cA base ∧ (∀ x ∈ c.exceptionTable.toList, ∀ k : Nat, covers x k = false) ∧ l.stackTraces = false)   : ∀ (y0 : Nat) (y1 : Int32) (y2 : Int32) (z0 : Int32) (w : WW), f_a_left_32 y0 y1 y2 z0 w = some (.inr E, w') → ∀ (H : Heap) (locs : List Loc) (ls : Array Slot), wo_S D cls cA base s w H locs → lv_has ls 7 [(0, .ref (base + y0)), (1, .int y1), (2, .int y2)] → W p l e rx_a_left s m args below meth c H locs 0 0 (XQ below (wo_X D cls cA base E w' rx_a_left.cells rx_a_left.slots) args s) (F0 m 32 ls [.int z0]) := by
  obtain ⟨hx, hb, hr, hml, hown, hts, hlk, hnm, hK, hG⟩ := id C.1
  have hnt := C.2.1
  have hst := C.2.2
  intro y0 y1 y2 z0 w h H locs ls hW hl
  unfold f_a_left_32 at h
  refine lv_istore_n (lv' := [(3, .int z0), (0, .ref (base + y0)), (1, .int y1), (2, .int y2)]) hx hb d_a_left_32 rfl hl (by decide) rfl (fun ls hl => ?_)
  refine lv_iload_n hx hb d_a_left_33 rfl (lv_at hl 2 rfl) ?_
  refine lv_bipush (v := (10 : Int32)) hx hb d_a_left_34 (by decide) ?_
  refine lv_icmp_lt (tgt := 49) hx hb d_a_left_36 (by decide) (fun c4 => ?_) (fun c4 => ?_)
  · rw [if_pos c4] at h
    exact jx_a_left_49 C y0 y1 y2 z0 w h _ _ _ hW (lv_sub hl [1, 2, 3, 0] rfl)
  · rw [if_neg c4] at h
    refine lv_iload_n hx hb d_a_left_39 rfl (lv_at hl 2 rfl) ?_
    refine lv_bipush (v := (18 : Int32)) hx hb d_a_left_40 (by decide) ?_
    refine lv_icmp_ge (tgt := 49) hx hb d_a_left_42 (by decide) (fun c27 => ?_) (fun c27 => ?_)
    · rw [if_pos c27] at h
      exact jx_a_left_49 C y0 y1 y2 z0 w h _ _ _ hW (lv_sub hl [1, 2, 3, 0] rfl)
    · rw [if_neg c27] at h
      refine lv_iconst (v := (1 : Int32)) hx hb d_a_left_45 (by decide) ?_
      refine lv_goto (tgt := 50) hx hb d_a_left_46 (by decide) ?_
      exact jx_a_left_50 C y0 y1 y2 z0 (1 : Int32) w h _ _ _ hW (lv_sub hl [1, 2, 3, 0] rfl)
set_option maxHeartbeats 4000000 in
set_option maxRecDepth 100000 in
theorem jx_a_left_31 {p : Program} {l : Launch} {e : Env} {s : State} {m : MethodId} {args : Array Value} {below : List Frame} {meth : Method} {c : Code} {D : va_G} {cA : Nat → ClassId} {base : Nat} {E : String} {w' : WW} (C : cx b_a_left (some .int) 7 y_a_left.cls "left" p s m args meth c D cA base ∧ (∀ x ∈ c.exceptionTable.toList, ∀ k : Nat, covers x k = false) ∧ l.stackTraces = false)   : ∀ (y0 : Nat) (y1 : Int32) (y2 : Int32) (w : WW), f_a_left_31 y0 y1 y2 w = some (.inr E, w') → ∀ (H : Heap) (locs : List Loc) (ls : Array Slot), wo_S D cls cA base s w H locs → lv_has ls 7 [(0, .ref (base + y0)), (1, .int y1), (2, .int y2)] → W p l e rx_a_left s m args below meth c H locs 0 0 (XQ below (wo_X D cls cA base E w' rx_a_left.cells rx_a_left.slots) args s) (F0 m 31 ls []) := by
  obtain ⟨hx, hb, hr, hml, hown, hts, hlk, hnm, hK, hG⟩ := id C.1
  have hnt := C.2.1
  have hst := C.2.2
  intro y0 y1 y2 w h H locs ls hW hl
  unfold f_a_left_31 at h
  refine lv_iconst (v := (0 : Int32)) hx hb d_a_left_31 (by decide) ?_
  exact jx_a_left_32 C y0 y1 y2 (0 : Int32) w h _ _ _ hW (lv_sub hl [0, 1, 2] rfl)
set_option maxHeartbeats 4000000 in
set_option maxRecDepth 100000 in
theorem x_a_left (l : Launch) (hst : l.stackTraces = false) (D : va_G) (cA : Nat → ClassId) (base : Nat) {a0 : Nat} {a1 : Int32} {a2 : Int32} {w w' : WW} {E : String} (h : f_a_left a0 a1 a2 w = some (.inr E, w')) : xt l D cls (wo_tys cA) cA base y_a_left (Cond.code y_a_left b_a_left 7 (some .int) :: gt) rx_a_left [.ref (base + a0), .int a1, .int a2] w E w' rx_a_left.cells rx_a_left.slots := by
  refine xt_start (by decide) (Nat.le_of_ble_eq_true rfl) ?_
  intro p e s m below meth c ls hx hb hr hml hown hts hlk hnm hK hG hW hl hnt
  have C : cx b_a_left (some .int) 7 y_a_left.cls "left" p s m [.ref (base + a0), .int a1, .int a2].toArray meth c D cA base ∧ (∀ x ∈ c.exceptionTable.toList, ∀ k : Nat, covers x k = false) ∧ l.stackTraces = false := ⟨⟨hx, hb, hr, hml, hown, hts, hlk, hnm, hK, hG⟩, hnt, hst⟩
  have hl : lv_has ls 7 [(0, .ref (base + a0)), (1, .int a1), (2, .int a2)] := hl
  unfold f_a_left at h
  replace h := its h
  obtain ⟨-, h⟩ := h
  refine lv_iload_n hx hb d_a_left_0 rfl (lv_at hl 2 rfl) ?_
  refine lv_if_lt (tgt := 9) hx hb d_a_left_1 (by decide) (fun c1 => ?_) (fun c1 => ?_)
  · rw [if_pos c1] at h
    exact jx_a_left_9 C w h _ _ _ hW (lv_sub hl [] rfl)
  · rw [if_neg c1] at h
    refine lv_iload_n hx hb d_a_left_4 rfl (lv_at hl 2 rfl) ?_
    refine lv_iconst (v := (4 : Int32)) hx hb d_a_left_5 (by decide) ?_
    refine lv_icmp_le (tgt := 17) hx hb d_a_left_6 (by decide) (fun c2 => ?_) (fun c2 => ?_)
    · rw [if_pos c2] at h
      refine lv_iload_n hx hb d_a_left_17 rfl (lv_at hl 1 rfl) ?_
      refine lv_if_lt (tgt := 31) hx hb d_a_left_18 (by decide) (fun c3 => ?_) (fun c3 => ?_)
      · rw [if_pos c3] at h
        exact jx_a_left_31 C a0 a1 a2 w h _ _ _ hW (lv_sub hl [0, 1, 2] rfl)
      · rw [if_neg c3] at h
        refine lv_iload_n hx hb d_a_left_21 rfl (lv_at hl 1 rfl) ?_
        refine lv_bipush (v := (6 : Int32)) hx hb d_a_left_22 (by decide) ?_
        refine lv_icmp_ge (tgt := 31) hx hb d_a_left_24 (by decide) (fun c28 => ?_) (fun c28 => ?_)
        · rw [if_pos c28] at h
          exact jx_a_left_31 C a0 a1 a2 w h _ _ _ hW (lv_sub hl [0, 1, 2] rfl)
        · rw [if_neg c28] at h
          refine lv_iconst (v := (1 : Int32)) hx hb d_a_left_27 (by decide) ?_
          refine lv_goto (tgt := 32) hx hb d_a_left_28 (by decide) ?_
          exact jx_a_left_32 C a0 a1 a2 (1 : Int32) w h _ _ _ hW (lv_sub hl [0, 1, 2] rfl)
    · rw [if_neg c2] at h
      exact jx_a_left_9 C w h _ _ _ hW (lv_sub hl [] rfl)
abbrev b_a_count : ByteArray := prog_1_method_16_code
def y_a_count : MethodName := ⟨"AlarmForge", "count", "(I)I"⟩
def rm_a_count : Room := { frames := 6, cells := 0, slots := 0, locals := 100 }
def rx_a_count : Room := { frames := 6, cells := 1, slots := 6, locals := 100 }
theorem d_a_count_0 : decode b_a_count 0 = .ok (.iload_n 1, 1) := by decide +kernel
theorem d_a_count_1 : decode b_a_count 1 = .ok (.tableswitch (104) (0) (6) #[43, 51, 59, 78, 86, 94, 99], 43) := by decide +kernel
theorem d_a_count_44 : decode b_a_count 44 = .ok (.aload_n 0, 1) := by decide +kernel
theorem d_a_count_45 : decode b_a_count 45 = .ok (.getfield 29, 3) := by decide +kernel
theorem d_a_count_48 : decode b_a_count 48 = .ok (.getfield 65, 3) := by decide +kernel
theorem d_a_count_51 : decode b_a_count 51 = .ok (.ireturn, 1) := by decide +kernel
theorem d_a_count_52 : decode b_a_count 52 = .ok (.aload_n 0, 1) := by decide +kernel
theorem d_a_count_53 : decode b_a_count 53 = .ok (.getfield 43, 3) := by decide +kernel
theorem d_a_count_56 : decode b_a_count 56 = .ok (.getfield 91, 3) := by decide +kernel
theorem d_a_count_59 : decode b_a_count 59 = .ok (.ireturn, 1) := by decide +kernel
theorem d_a_count_60 : decode b_a_count 60 = .ok (.aload_n 0, 1) := by decide +kernel
theorem d_a_count_61 : decode b_a_count 61 = .ok (.getfield 81, 3) := by decide +kernel
theorem d_a_count_64 : decode b_a_count 64 = .ok (.ifCond .eq (13), 3) := by decide +kernel
theorem d_a_count_67 : decode b_a_count 67 = .ok (.aload_n 0, 1) := by decide +kernel
theorem d_a_count_68 : decode b_a_count 68 = .ok (.getfield 33, 3) := by decide +kernel
theorem d_a_count_71 : decode b_a_count 71 = .ok (.getfield 85, 3) := by decide +kernel
theorem d_a_count_74 : decode b_a_count 74 = .ok (.goto (4), 3) := by decide +kernel
theorem d_a_count_77 : decode b_a_count 77 = .ok (.iconst 0, 1) := by decide +kernel
theorem d_a_count_78 : decode b_a_count 78 = .ok (.ireturn, 1) := by decide +kernel
theorem d_a_count_79 : decode b_a_count 79 = .ok (.aload_n 0, 1) := by decide +kernel
theorem d_a_count_80 : decode b_a_count 80 = .ok (.getfield 50, 3) := by decide +kernel
theorem d_a_count_83 : decode b_a_count 83 = .ok (.getfield 164, 3) := by decide +kernel
theorem d_a_count_86 : decode b_a_count 86 = .ok (.ireturn, 1) := by decide +kernel
theorem d_a_count_87 : decode b_a_count 87 = .ok (.aload_n 0, 1) := by decide +kernel
theorem d_a_count_88 : decode b_a_count 88 = .ok (.getfield 50, 3) := by decide +kernel
theorem d_a_count_91 : decode b_a_count 91 = .ok (.getfield 126, 3) := by decide +kernel
theorem d_a_count_94 : decode b_a_count 94 = .ok (.ireturn, 1) := by decide +kernel
theorem d_a_count_95 : decode b_a_count 95 = .ok (.aload_n 0, 1) := by decide +kernel
theorem d_a_count_96 : decode b_a_count 96 = .ok (.getfield 11, 3) := by decide +kernel
theorem d_a_count_99 : decode b_a_count 99 = .ok (.ireturn, 1) := by decide +kernel
theorem d_a_count_100 : decode b_a_count 100 = .ok (.aload_n 0, 1) := by decide +kernel
theorem d_a_count_101 : decode b_a_count 101 = .ok (.getfield 15, 3) := by decide +kernel
theorem d_a_count_104 : decode b_a_count 104 = .ok (.ireturn, 1) := by decide +kernel
theorem d_a_count_105 : decode b_a_count 105 = .ok (.new 62, 3) := by decide +kernel
theorem d_a_count_108 : decode b_a_count 108 = .ok (.dup, 1) := by decide +kernel
theorem d_a_count_109 : decode b_a_count 109 = .ok (.invokespecial 64, 3) := by decide +kernel
theorem d_a_count_112 : decode b_a_count 112 = .ok (.athrow, 1) := by decide +kernel
theorem kb_a_count {a0 : Nat} {a1 : Int32} {w : WW} {r : ((Int32 ⊕ String) × WW)} (h : f_a_count a0 a1 w = some r) : kb w a0 0 = true := (its h).1
set_option maxHeartbeats 4000000 in
set_option maxRecDepth 100000 in
theorem j_a_count_78 {p : Program} {l : Launch} {e : Env} {s : State} {m : MethodId} {args : Array Value} {below : List Frame} {meth : Method} {c : Code} {D : va_G} {cA : Nat → ClassId} {base : Nat} {r : Int32} {w' : WW} (C : cx b_a_count (some .int) 2 y_a_count.cls "count" p s m args meth c D cA base)   : ∀ (z0 : Int32) (w : WW), f_a_count_78 z0 w = some (.inl r, w') → ∀ (H : Heap) (locs : List Loc) (ls : Array Slot), wo_S D cls cA base s w H locs → lv_has ls 2 [] → W p l e rm_a_count s m args below meth c H locs 0 0 (MQ below (wo_Q D cls cA base (some (.int r)) w') args s rm_a_count.cells rm_a_count.slots (wo_B base)) (F0 m 78 ls [.int z0]) := by
  obtain ⟨hx, hb, hr, hml, hown, hts, hlk, hnm, hK, hG⟩ := id C
  intro z0 w h H locs ls hW hl
  unfold f_a_count_78 at h
  cases h
  exact wo_iret hx hb hr hlk hW d_a_count_78
set_option maxHeartbeats 4000000 in
set_option maxRecDepth 100000 in
theorem c_a_count (l : Launch) (D : va_G) (cA : Nat → ClassId) (base : Nat) {a0 : Nat} {a1 : Int32} {w w' : WW} {r : Int32} (h : f_a_count a0 a1 w = some (.inl r, w')) : mt l D cls (wo_tys cA) cA base y_a_count (Cond.code y_a_count b_a_count 2 (some .int) :: gt) rm_a_count [.ref (base + a0), .int a1] w (some (.int r)) w' rm_a_count.cells rm_a_count.slots := by
  refine mt_start (by decide) (Nat.le_of_ble_eq_true rfl) ?_
  intro p e s m below meth c ls hx hb hr hml hown hts hlk hnm hK hG hW hl
  have C : cx b_a_count (some .int) 2 y_a_count.cls "count" p s m [.ref (base + a0), .int a1].toArray meth c D cA base := ⟨hx, hb, hr, hml, hown, hts, hlk, hnm, hK, hG⟩
  have hl : lv_has ls 2 [(0, .ref (base + a0)), (1, .int a1)] := hl
  unfold f_a_count at h
  replace h := its h
  obtain ⟨-, h⟩ := h
  refine lv_iload_n hx hb d_a_count_0 rfl (lv_at hl 1 rfl) ?_
  by_cases c1 : a1 = (0 : Int32)
  · rw [if_pos c1] at h
    refine lv_tableIn (off := 43) (tgt := 44) hx hb d_a_count_1 (by rw [c1]; decide) (by rw [c1]; decide) (by rw [c1]; rfl) (by decide) ?_
    refine lv_aload_n hx hb d_a_count_44 rfl (lv_at hl 0 rfl) ?_
    replace h := bs h
    obtain ⟨x2, hx2, h⟩ := h
    refine gf_a_29 hx hb hts hown hK hG hW (gN_s hx2) d_a_count_45 ?_
    replace h := bs h
    obtain ⟨x3, hx3, h⟩ := h
    refine gf_a_65 hx hb hts hown hK hG hW (gI_s hx3) d_a_count_48 ?_
    cases h
    exact wo_iret hx hb hr hlk hW d_a_count_51
  · rw [if_neg c1] at h
    by_cases c4 : a1 = (1 : Int32)
    · rw [if_pos c4] at h
      refine lv_tableIn (off := 51) (tgt := 52) hx hb d_a_count_1 (by rw [c4]; decide) (by rw [c4]; decide) (by rw [c4]; rfl) (by decide) ?_
      refine lv_aload_n hx hb d_a_count_52 rfl (lv_at hl 0 rfl) ?_
      replace h := bs h
      obtain ⟨x5, hx5, h⟩ := h
      refine gf_a_43 hx hb hts hown hK hG hW (gN_s hx5) d_a_count_53 ?_
      replace h := bs h
      obtain ⟨x6, hx6, h⟩ := h
      refine gf_a_91 hx hb hts hown hK hG hW (gI_s hx6) d_a_count_56 ?_
      cases h
      exact wo_iret hx hb hr hlk hW d_a_count_59
    · rw [if_neg c4] at h
      by_cases c7 : a1 = (2 : Int32)
      · rw [if_pos c7] at h
        refine lv_tableIn (off := 59) (tgt := 60) hx hb d_a_count_1 (by rw [c7]; decide) (by rw [c7]; decide) (by rw [c7]; rfl) (by decide) ?_
        refine lv_aload_n hx hb d_a_count_60 rfl (lv_at hl 0 rfl) ?_
        replace h := bs h
        obtain ⟨x8, hx8, h⟩ := h
        refine gf_a_81 hx hb hts hown hK hG hW (gI_s hx8) d_a_count_61 ?_
        refine lv_if_eq (tgt := 77) hx hb d_a_count_64 (by decide) (fun c9 => ?_) (fun c9 => ?_)
        · rw [if_pos c9] at h
          refine lv_iconst (v := (0 : Int32)) hx hb d_a_count_77 (by decide) ?_
          exact j_a_count_78 C (0 : Int32) w h _ _ _ hW (lv_sub hl [] rfl)
        · rw [if_neg c9] at h
          refine lv_aload_n hx hb d_a_count_67 rfl (lv_at hl 0 rfl) ?_
          replace h := bs h
          obtain ⟨x10, hx10, h⟩ := h
          refine gf_a_33 hx hb hts hown hK hG hW (gN_s hx10) d_a_count_68 ?_
          replace h := bs h
          obtain ⟨x11, hx11, h⟩ := h
          refine gf_a_85 hx hb hts hown hK hG hW (gI_s hx11) d_a_count_71 ?_
          refine lv_goto (tgt := 78) hx hb d_a_count_74 (by decide) ?_
          exact j_a_count_78 C x11 w h _ _ _ hW (lv_sub hl [] rfl)
      · rw [if_neg c7] at h
        by_cases c12 : a1 = (3 : Int32)
        · rw [if_pos c12] at h
          refine lv_tableIn (off := 78) (tgt := 79) hx hb d_a_count_1 (by rw [c12]; decide) (by rw [c12]; decide) (by rw [c12]; rfl) (by decide) ?_
          refine lv_aload_n hx hb d_a_count_79 rfl (lv_at hl 0 rfl) ?_
          replace h := bs h
          obtain ⟨x13, hx13, h⟩ := h
          refine gf_a_50 hx hb hts hown hK hG hW (gN_s hx13) d_a_count_80 ?_
          replace h := bs h
          obtain ⟨x14, hx14, h⟩ := h
          refine gf_a_164 hx hb hts hown hK hG hW (gI_s hx14) d_a_count_83 ?_
          cases h
          exact wo_iret hx hb hr hlk hW d_a_count_86
        · rw [if_neg c12] at h
          by_cases c15 : a1 = (4 : Int32)
          · rw [if_pos c15] at h
            refine lv_tableIn (off := 86) (tgt := 87) hx hb d_a_count_1 (by rw [c15]; decide) (by rw [c15]; decide) (by rw [c15]; rfl) (by decide) ?_
            refine lv_aload_n hx hb d_a_count_87 rfl (lv_at hl 0 rfl) ?_
            replace h := bs h
            obtain ⟨x16, hx16, h⟩ := h
            refine gf_a_50 hx hb hts hown hK hG hW (gN_s hx16) d_a_count_88 ?_
            replace h := bs h
            obtain ⟨x17, hx17, h⟩ := h
            refine gf_a_126 hx hb hts hown hK hG hW (gI_s hx17) d_a_count_91 ?_
            cases h
            exact wo_iret hx hb hr hlk hW d_a_count_94
          · rw [if_neg c15] at h
            by_cases c18 : a1 = (5 : Int32)
            · rw [if_pos c18] at h
              refine lv_tableIn (off := 94) (tgt := 95) hx hb d_a_count_1 (by rw [c18]; decide) (by rw [c18]; decide) (by rw [c18]; rfl) (by decide) ?_
              refine lv_aload_n hx hb d_a_count_95 rfl (lv_at hl 0 rfl) ?_
              replace h := bs h
              obtain ⟨x19, hx19, h⟩ := h
              refine gf_a_11 hx hb hts hown hK hG hW (gI_s hx19) d_a_count_96 ?_
              cases h
              exact wo_iret hx hb hr hlk hW d_a_count_99
            · rw [if_neg c18] at h
              by_cases c20 : a1 = (6 : Int32)
              · rw [if_pos c20] at h
                refine lv_tableIn (off := 99) (tgt := 100) hx hb d_a_count_1 (by rw [c20]; decide) (by rw [c20]; decide) (by rw [c20]; rfl) (by decide) ?_
                refine lv_aload_n hx hb d_a_count_100 rfl (lv_at hl 0 rfl) ?_
                replace h := bs h
                obtain ⟨x21, hx21, h⟩ := h
                refine gf_a_15 hx hb hts hown hK hG hW (gI_s hx21) d_a_count_101 ?_
                cases h
                exact wo_iret hx hb hr hlk hW d_a_count_104
              · rw [if_neg c20] at h
                refine lv_tableOut (tgt := 105) hx hb d_a_count_1 (by have n0 := lv_neT c1 (show (0 : Int32).toInt = 0 from rfl); have n1 := lv_neT c4 (show (1 : Int32).toInt = 1 from rfl); have n2 := lv_neT c7 (show (2 : Int32).toInt = 2 from rfl); have n3 := lv_neT c12 (show (3 : Int32).toInt = 3 from rfl); have n4 := lv_neT c15 (show (4 : Int32).toInt = 4 from rfl); have n5 := lv_neT c18 (show (5 : Int32).toInt = 5 from rfl); have n6 := lv_neT c20 (show (6 : Int32).toInt = 6 from rfl); omega) (by decide) ?_
                cases h
set_option maxHeartbeats 4000000 in
set_option maxRecDepth 100000 in
theorem jx_a_count_78 {p : Program} {l : Launch} {e : Env} {s : State} {m : MethodId} {args : Array Value} {below : List Frame} {meth : Method} {c : Code} {D : va_G} {cA : Nat → ClassId} {base : Nat} {E : String} {w' : WW} (C : cx b_a_count (some .int) 2 y_a_count.cls "count" p s m args meth c D cA base ∧ (∀ x ∈ c.exceptionTable.toList, ∀ k : Nat, covers x k = false) ∧ l.stackTraces = false)   : ∀ (z0 : Int32) (w : WW), f_a_count_78 z0 w = some (.inr E, w') → ∀ (H : Heap) (locs : List Loc) (ls : Array Slot), wo_S D cls cA base s w H locs → lv_has ls 2 [] → W p l e rx_a_count s m args below meth c H locs 0 0 (XQ below (wo_X D cls cA base E w' rx_a_count.cells rx_a_count.slots) args s) (F0 m 78 ls [.int z0]) := by
  obtain ⟨hx, hb, hr, hml, hown, hts, hlk, hnm, hK, hG⟩ := id C.1
  have hnt := C.2.1
  have hst := C.2.2
  intro z0 w h H locs ls hW hl
  unfold f_a_count_78 at h
  cases h
set_option maxHeartbeats 4000000 in
set_option maxRecDepth 100000 in
theorem x_a_count (l : Launch) (hst : l.stackTraces = false) (D : va_G) (cA : Nat → ClassId) (base : Nat) {a0 : Nat} {a1 : Int32} {w w' : WW} {E : String} (h : f_a_count a0 a1 w = some (.inr E, w')) : xt l D cls (wo_tys cA) cA base y_a_count (Cond.code y_a_count b_a_count 2 (some .int) :: gt) rx_a_count [.ref (base + a0), .int a1] w E w' rx_a_count.cells rx_a_count.slots := by
  refine xt_start (by decide) (Nat.le_of_ble_eq_true rfl) ?_
  intro p e s m below meth c ls hx hb hr hml hown hts hlk hnm hK hG hW hl hnt
  have C : cx b_a_count (some .int) 2 y_a_count.cls "count" p s m [.ref (base + a0), .int a1].toArray meth c D cA base ∧ (∀ x ∈ c.exceptionTable.toList, ∀ k : Nat, covers x k = false) ∧ l.stackTraces = false := ⟨⟨hx, hb, hr, hml, hown, hts, hlk, hnm, hK, hG⟩, hnt, hst⟩
  have hl : lv_has ls 2 [(0, .ref (base + a0)), (1, .int a1)] := hl
  unfold f_a_count at h
  replace h := its h
  obtain ⟨-, h⟩ := h
  refine lv_iload_n hx hb d_a_count_0 rfl (lv_at hl 1 rfl) ?_
  by_cases c1 : a1 = (0 : Int32)
  · rw [if_pos c1] at h
    refine lv_tableIn (off := 43) (tgt := 44) hx hb d_a_count_1 (by rw [c1]; decide) (by rw [c1]; decide) (by rw [c1]; rfl) (by decide) ?_
    refine lv_aload_n hx hb d_a_count_44 rfl (lv_at hl 0 rfl) ?_
    replace h := bs h
    obtain ⟨x2, hx2, h⟩ := h
    refine gf_a_29 hx hb hts hown hK hG hW (gN_s hx2) d_a_count_45 ?_
    replace h := bs h
    obtain ⟨x3, hx3, h⟩ := h
    refine gf_a_65 hx hb hts hown hK hG hW (gI_s hx3) d_a_count_48 ?_
    cases h
  · rw [if_neg c1] at h
    by_cases c4 : a1 = (1 : Int32)
    · rw [if_pos c4] at h
      refine lv_tableIn (off := 51) (tgt := 52) hx hb d_a_count_1 (by rw [c4]; decide) (by rw [c4]; decide) (by rw [c4]; rfl) (by decide) ?_
      refine lv_aload_n hx hb d_a_count_52 rfl (lv_at hl 0 rfl) ?_
      replace h := bs h
      obtain ⟨x5, hx5, h⟩ := h
      refine gf_a_43 hx hb hts hown hK hG hW (gN_s hx5) d_a_count_53 ?_
      replace h := bs h
      obtain ⟨x6, hx6, h⟩ := h
      refine gf_a_91 hx hb hts hown hK hG hW (gI_s hx6) d_a_count_56 ?_
      cases h
    · rw [if_neg c4] at h
      by_cases c7 : a1 = (2 : Int32)
      · rw [if_pos c7] at h
        refine lv_tableIn (off := 59) (tgt := 60) hx hb d_a_count_1 (by rw [c7]; decide) (by rw [c7]; decide) (by rw [c7]; rfl) (by decide) ?_
        refine lv_aload_n hx hb d_a_count_60 rfl (lv_at hl 0 rfl) ?_
        replace h := bs h
        obtain ⟨x8, hx8, h⟩ := h
        refine gf_a_81 hx hb hts hown hK hG hW (gI_s hx8) d_a_count_61 ?_
        refine lv_if_eq (tgt := 77) hx hb d_a_count_64 (by decide) (fun c9 => ?_) (fun c9 => ?_)
        · rw [if_pos c9] at h
          refine lv_iconst (v := (0 : Int32)) hx hb d_a_count_77 (by decide) ?_
          exact jx_a_count_78 C (0 : Int32) w h _ _ _ hW (lv_sub hl [] rfl)
        · rw [if_neg c9] at h
          refine lv_aload_n hx hb d_a_count_67 rfl (lv_at hl 0 rfl) ?_
          replace h := bs h
          obtain ⟨x10, hx10, h⟩ := h
          refine gf_a_33 hx hb hts hown hK hG hW (gN_s hx10) d_a_count_68 ?_
          replace h := bs h
          obtain ⟨x11, hx11, h⟩ := h
          refine gf_a_85 hx hb hts hown hK hG hW (gI_s hx11) d_a_count_71 ?_
          refine lv_goto (tgt := 78) hx hb d_a_count_74 (by decide) ?_
          exact jx_a_count_78 C x11 w h _ _ _ hW (lv_sub hl [] rfl)
      · rw [if_neg c7] at h
        by_cases c12 : a1 = (3 : Int32)
        · rw [if_pos c12] at h
          refine lv_tableIn (off := 78) (tgt := 79) hx hb d_a_count_1 (by rw [c12]; decide) (by rw [c12]; decide) (by rw [c12]; rfl) (by decide) ?_
          refine lv_aload_n hx hb d_a_count_79 rfl (lv_at hl 0 rfl) ?_
          replace h := bs h
          obtain ⟨x13, hx13, h⟩ := h
          refine gf_a_50 hx hb hts hown hK hG hW (gN_s hx13) d_a_count_80 ?_
          replace h := bs h
          obtain ⟨x14, hx14, h⟩ := h
          refine gf_a_164 hx hb hts hown hK hG hW (gI_s hx14) d_a_count_83 ?_
          cases h
        · rw [if_neg c12] at h
          by_cases c15 : a1 = (4 : Int32)
          · rw [if_pos c15] at h
            refine lv_tableIn (off := 86) (tgt := 87) hx hb d_a_count_1 (by rw [c15]; decide) (by rw [c15]; decide) (by rw [c15]; rfl) (by decide) ?_
            refine lv_aload_n hx hb d_a_count_87 rfl (lv_at hl 0 rfl) ?_
            replace h := bs h
            obtain ⟨x16, hx16, h⟩ := h
            refine gf_a_50 hx hb hts hown hK hG hW (gN_s hx16) d_a_count_88 ?_
            replace h := bs h
            obtain ⟨x17, hx17, h⟩ := h
            refine gf_a_126 hx hb hts hown hK hG hW (gI_s hx17) d_a_count_91 ?_
            cases h
          · rw [if_neg c15] at h
            by_cases c18 : a1 = (5 : Int32)
            · rw [if_pos c18] at h
              refine lv_tableIn (off := 94) (tgt := 95) hx hb d_a_count_1 (by rw [c18]; decide) (by rw [c18]; decide) (by rw [c18]; rfl) (by decide) ?_
              refine lv_aload_n hx hb d_a_count_95 rfl (lv_at hl 0 rfl) ?_
              replace h := bs h
              obtain ⟨x19, hx19, h⟩ := h
              refine gf_a_11 hx hb hts hown hK hG hW (gI_s hx19) d_a_count_96 ?_
              cases h
            · rw [if_neg c18] at h
              by_cases c20 : a1 = (6 : Int32)
              · rw [if_pos c20] at h
                refine lv_tableIn (off := 99) (tgt := 100) hx hb d_a_count_1 (by rw [c20]; decide) (by rw [c20]; decide) (by rw [c20]; rfl) (by decide) ?_
                refine lv_aload_n hx hb d_a_count_100 rfl (lv_at hl 0 rfl) ?_
                replace h := bs h
                obtain ⟨x21, hx21, h⟩ := h
                refine gf_a_15 hx hb hts hown hK hG hW (gI_s hx21) d_a_count_101 ?_
                cases h
              · rw [if_neg c20] at h
                refine lv_tableOut (tgt := 105) hx hb d_a_count_1 (by have n0 := lv_neT c1 (show (0 : Int32).toInt = 0 from rfl); have n1 := lv_neT c4 (show (1 : Int32).toInt = 1 from rfl); have n2 := lv_neT c7 (show (2 : Int32).toInt = 2 from rfl); have n3 := lv_neT c12 (show (3 : Int32).toInt = 3 from rfl); have n4 := lv_neT c15 (show (4 : Int32).toInt = 4 from rfl); have n5 := lv_neT c18 (show (5 : Int32).toInt = 5 from rfl); have n6 := lv_neT c20 (show (6 : Int32).toInt = 6 from rfl); omega) (by decide) ?_
                cases h
                exact wo_throw (names := ["java/lang/RuntimeException", "java/lang/Exception"]) hx hb hst hown hts hG hW hnt hlk (by decide) (by decide) (gt_of (i := 395) (by decide +kernel) (by decide +kernel)) (gt_of (i := 14) (by decide +kernel) (by decide +kernel)) ow_a_64 (hl.1.trans hml.symm) d_a_count_105 d_a_count_108 d_a_count_109 d_a_count_112 (Nat.le_of_ble_eq_true rfl) (Nat.le_of_ble_eq_true rfl) (Nat.le_of_ble_eq_true rfl) (Nat.le_of_ble_eq_true rfl) (Nat.le_of_ble_eq_true rfl) (Nat.le_of_ble_eq_true rfl)
