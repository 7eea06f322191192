/-! Methods as functions, and their contracts (by wip/gen/run.py). -/
abbrev b_va_setNothing : ByteArray := prog_9_method_2_code
def y_va_setNothing : MethodName := ⟨"AlarmForge$Value", "setNothing", "()V"⟩
def rm_va_setNothing : Room := { frames := 0, cells := 0, slots := 0, locals := 0 }
theorem d_va_setNothing_0 : decode b_va_setNothing 0 = .ok (.aload_n 0, 1) := by decide +kernel
theorem d_va_setNothing_1 : decode b_va_setNothing 1 = .ok (.iconst 1, 1) := by decide +kernel
theorem d_va_setNothing_2 : decode b_va_setNothing 2 = .ok (.putfield 9, 3) := by decide +kernel
theorem d_va_setNothing_5 : decode b_va_setNothing 5 = .ok (.return_, 1) := by decide +kernel
def f_va_setNothing (a0 : Nat) (w : WW) : Option WW :=
  if kb w a0 8 = true then
    if (1 : Int32) = 0 ∨ (1 : Int32) = 1 then
      (pv w a0 8 0 (.int (1 : Int32))).bind fun w1 =>
      some w1
    else none
  else none
theorem kb_va_setNothing {a0 : Nat}  {w : WW} {r : WW} (h : f_va_setNothing a0 w = some r) : kb w a0 8 = true := (its h).1
set_option maxHeartbeats 4000000 in
set_option maxRecDepth 100000 in
theorem c_va_setNothing (l : Launch) (D : va_G) (cA : Nat → ClassId) (base : Nat) {a0 : Nat} {w w' : WW} (h : f_va_setNothing a0 w = some w') : mt l D cls (wo_tys cA) cA base y_va_setNothing (Cond.code y_va_setNothing b_va_setNothing 1 (none) :: gt) rm_va_setNothing [.ref a0] w none w' rm_va_setNothing.cells rm_va_setNothing.slots := by
  refine mt_start (by decide) (Nat.le_of_ble_eq_true rfl) ?_
  intro p e s m below meth c ls hx hb hr hml hown hts hlk hnm hK hG hW hl
  have C : cx b_va_setNothing (none) 1 y_va_setNothing.cls "setNothing" p s m [.ref a0].toArray meth c D cA base := ⟨hx, hb, hr, hml, hown, hts, hlk, hnm, hK, hG⟩
  have hl : lv_has ls 1 [(0, .ref a0)] := hl
  unfold f_va_setNothing at h
  replace h := its h
  obtain ⟨-, h⟩ := h
  refine lv_aload_n hx hb d_va_setNothing_0 rfl (lv_at hl 0 rfl) ?_
  refine lv_iconst (v := (1 : Int32)) hx hb d_va_setNothing_1 (by decide) ?_
  replace h := its h
  obtain ⟨c2, h⟩ := h
  replace h := bs h
  obtain ⟨w1, hw1, h⟩ := h
  refine pf_va_9 hx hb hts hown hK hG hW (z_n c2) (z_f c2) hw1 d_va_setNothing_2 (fun H locs hW => ?_)
  cases h
  exact wo_vret hx hb hr hlk hW d_va_setNothing_5
abbrev b_va_setOne : ByteArray := prog_9_method_3_code
def y_va_setOne : MethodName := ⟨"AlarmForge$Value", "setOne", "(J)V"⟩
def rm_va_setOne : Room := { frames := 0, cells := 0, slots := 0, locals := 0 }
theorem d_va_setOne_0 : decode b_va_setOne 0 = .ok (.aload_n 0, 1) := by decide +kernel
theorem d_va_setOne_1 : decode b_va_setOne 1 = .ok (.iconst 0, 1) := by decide +kernel
theorem d_va_setOne_2 : decode b_va_setOne 2 = .ok (.putfield 9, 3) := by decide +kernel
theorem d_va_setOne_5 : decode b_va_setOne 5 = .ok (.aload_n 0, 1) := by decide +kernel
theorem d_va_setOne_6 : decode b_va_setOne 6 = .ok (.lload_n 1, 1) := by decide +kernel
theorem d_va_setOne_7 : decode b_va_setOne 7 = .ok (.putfield 15, 3) := by decide +kernel
theorem d_va_setOne_10 : decode b_va_setOne 10 = .ok (.aload_n 0, 1) := by decide +kernel
theorem d_va_setOne_11 : decode b_va_setOne 11 = .ok (.lload_n 1, 1) := by decide +kernel
theorem d_va_setOne_12 : decode b_va_setOne 12 = .ok (.putfield 19, 3) := by decide +kernel
theorem d_va_setOne_15 : decode b_va_setOne 15 = .ok (.aload_n 0, 1) := by decide +kernel
theorem d_va_setOne_16 : decode b_va_setOne 16 = .ok (.lconst 0, 1) := by decide +kernel
theorem d_va_setOne_17 : decode b_va_setOne 17 = .ok (.putfield 22, 3) := by decide +kernel
theorem d_va_setOne_20 : decode b_va_setOne 20 = .ok (.aload_n 0, 1) := by decide +kernel
theorem d_va_setOne_21 : decode b_va_setOne 21 = .ok (.lload_n 1, 1) := by decide +kernel
theorem d_va_setOne_22 : decode b_va_setOne 22 = .ok (.putfield 25, 3) := by decide +kernel
theorem d_va_setOne_25 : decode b_va_setOne 25 = .ok (.return_, 1) := by decide +kernel
def f_va_setOne (a0 : Nat) (a1 : Int64) (w : WW) : Option WW :=
  if kb w a0 8 = true then
    if (0 : Int32) = 0 ∨ (0 : Int32) = 1 then
      (pv w a0 8 0 (.int (0 : Int32))).bind fun w1 =>
      (pv w1 a0 8 1 (.long a1)).bind fun w3 =>
      (pv w3 a0 8 2 (.long a1)).bind fun w4 =>
      (pv w4 a0 8 3 (.long (0 : Int64))).bind fun w5 =>
      (pv w5 a0 8 4 (.long a1)).bind fun w6 =>
      some w6
    else none
  else none
theorem kb_va_setOne {a0 : Nat} {a1 : Int64} {w : WW} {r : WW} (h : f_va_setOne a0 a1 w = some r) : kb w a0 8 = true := (its h).1
set_option maxHeartbeats 4000000 in
set_option maxRecDepth 100000 in
theorem c_va_setOne (l : Launch) (D : va_G) (cA : Nat → ClassId) (base : Nat) {a0 : Nat} {a1 : Int64} {w w' : WW} (h : f_va_setOne a0 a1 w = some w') : mt l D cls (wo_tys cA) cA base y_va_setOne (Cond.code y_va_setOne b_va_setOne 3 (none) :: gt) rm_va_setOne [.ref a0, .long a1] w none w' rm_va_setOne.cells rm_va_setOne.slots := by
  refine mt_start (by decide) (Nat.le_of_ble_eq_true rfl) ?_
  intro p e s m below meth c ls hx hb hr hml hown hts hlk hnm hK hG hW hl
  have C : cx b_va_setOne (none) 3 y_va_setOne.cls "setOne" p s m [.ref a0, .long a1].toArray meth c D cA base := ⟨hx, hb, hr, hml, hown, hts, hlk, hnm, hK, hG⟩
  have hl : lv_has ls 3 [(0, .ref a0), (1, .long a1)] := hl
  unfold f_va_setOne at h
  replace h := its h
  obtain ⟨-, h⟩ := h
  refine lv_aload_n hx hb d_va_setOne_0 rfl (lv_at hl 0 rfl) ?_
  refine lv_iconst (v := (0 : Int32)) hx hb d_va_setOne_1 (by decide) ?_
  replace h := its h
  obtain ⟨c2, h⟩ := h
  replace h := bs h
  obtain ⟨w1, hw1, h⟩ := h
  refine pf_va_9 hx hb hts hown hK hG hW (z_n c2) (z_f c2) hw1 d_va_setOne_2 (fun H locs hW => ?_)
  refine lv_aload_n hx hb d_va_setOne_5 rfl (lv_at hl 0 rfl) ?_
  refine lv_lload_n hx hb d_va_setOne_6 rfl (lv_at hl 1 rfl) ?_
  replace h := bs h
  obtain ⟨w3, hw3, h⟩ := h
  refine pf_va_15 hx hb hts hown hK hG hW rfl rfl hw3 d_va_setOne_7 (fun H locs hW => ?_)
  refine lv_aload_n hx hb d_va_setOne_10 rfl (lv_at hl 0 rfl) ?_
  refine lv_lload_n hx hb d_va_setOne_11 rfl (lv_at hl 1 rfl) ?_
  replace h := bs h
  obtain ⟨w4, hw4, h⟩ := h
  refine pf_va_19 hx hb hts hown hK hG hW rfl rfl hw4 d_va_setOne_12 (fun H locs hW => ?_)
  refine lv_aload_n hx hb d_va_setOne_15 rfl (lv_at hl 0 rfl) ?_
  refine lv_lconst (v := (0 : Int64)) hx hb d_va_setOne_16 (by decide) ?_
  replace h := bs h
  obtain ⟨w5, hw5, h⟩ := h
  refine pf_va_22 hx hb hts hown hK hG hW rfl rfl hw5 d_va_setOne_17 (fun H locs hW => ?_)
  refine lv_aload_n hx hb d_va_setOne_20 rfl (lv_at hl 0 rfl) ?_
  refine lv_lload_n hx hb d_va_setOne_21 rfl (lv_at hl 1 rfl) ?_
  replace h := bs h
  obtain ⟨w6, hw6, h⟩ := h
  refine pf_va_25 hx hb hts hown hK hG hW rfl rfl hw6 d_va_setOne_22 (fun H locs hW => ?_)
  cases h
  exact wo_vret hx hb hr hlk hW d_va_setOne_25
theorem cv_sa_26 {p : Program} {l : Launch} {e : Env} {R : Room} {s : State} {m : MethodId} {args : Array Value} {below : List Frame} {meth : Method} {c : Code} {H : Heap} {locs : List Loc} {cells slots : Nat} {Q : State → Prop} {D : va_G} {cA : Nat → ClassId} {base : Nat} {w w' : WW} {cc : ByteArray} {pc nL : Nat} {ls : Array Slot} {rest st0 As : List Value} {ov : Option Value} {b : Nat} (hx : p.tables.exec = Jvm.exec) (hb : c.code = cc) (hml : c.maxLocals = nL) (hown : s.vm.findClass Rc_sa = some m.cls) (hts : ∀ w ∈ gt, w.before args s = true) (hK : va_K D cls (wo_tys cA) s) (hG : wo_G base s) (hW : wo_S D cls cA base s w H locs) (hM : mt l D cls (wo_tys cA) cA base y_va_setNothing (Cond.code y_va_setNothing b_va_setNothing 1 (none) :: gt) rm_va_setNothing (.ref b :: As) w ov w' rm_va_setNothing.cells rm_va_setNothing.slots) (hkb : kb w b 8 = true) (hR : rm_va_setNothing.frames + 1 ≤ R.frames ∧ 8 + (1 + 11) + rm_va_setNothing.locals ≤ R.locals) (hf : cells + rm_va_setNothing.cells ≤ R.cells ∧ slots + rm_va_setNothing.slots ≤ R.slots) (hn : As.length = 0) (hsz : ls.size = nL) (hst : st0 = As.reverse ++ .ref b :: rest) (hcat : (rest.map fun v => v.category).sum ≤ 8) (hdg : decode cc pc = .ok (.invokevirtual 26, 3)) (kk : ∀ (H1 : Heap) (locs1 : List Loc), wo_S D cls cA base s w' H1 locs1 → W p l e R s m args below meth c H1 locs1 (cells + rm_va_setNothing.cells) (slots + rm_va_setNothing.slots) Q (F0 m (pc + 3) ls (ov.toList ++ rest))) : W p l e R s m args below meth c H locs cells slots Q (F0 m pc ls st0) :=
  wo_callV (C := Rc_va) hx hb hml hown hts hK hG hW hM hkb rfl (gt_of (i := 897) (by decide +kernel) (by decide +kernel)) (gt_of (i := 898) (by decide +kernel) (by decide +kernel)) (gt_of (i := 899) (by decide +kernel) (by decide +kernel)) (gt_of (i := 9) (by decide +kernel) (by decide +kernel)) (gt_of (i := 900) (by decide +kernel) (by decide +kernel)) (by decide +kernel) hR hf hn hsz hst hcat hdg kk
theorem cv_sa_29 {p : Program} {l : Launch} {e : Env} {R : Room} {s : State} {m : MethodId} {args : Array Value} {below : List Frame} {meth : Method} {c : Code} {H : Heap} {locs : List Loc} {cells slots : Nat} {Q : State → Prop} {D : va_G} {cA : Nat → ClassId} {base : Nat} {w w' : WW} {cc : ByteArray} {pc nL : Nat} {ls : Array Slot} {rest st0 As : List Value} {ov : Option Value} {b : Nat} (hx : p.tables.exec = Jvm.exec) (hb : c.code = cc) (hml : c.maxLocals = nL) (hown : s.vm.findClass Rc_sa = some m.cls) (hts : ∀ w ∈ gt, w.before args s = true) (hK : va_K D cls (wo_tys cA) s) (hG : wo_G base s) (hW : wo_S D cls cA base s w H locs) (hM : mt l D cls (wo_tys cA) cA base y_va_setOne (Cond.code y_va_setOne b_va_setOne 3 (none) :: gt) rm_va_setOne (.ref b :: As) w ov w' rm_va_setOne.cells rm_va_setOne.slots) (hkb : kb w b 8 = true) (hR : rm_va_setOne.frames + 1 ≤ R.frames ∧ 8 + (3 + 11) + rm_va_setOne.locals ≤ R.locals) (hf : cells + rm_va_setOne.cells ≤ R.cells ∧ slots + rm_va_setOne.slots ≤ R.slots) (hn : As.length = 1) (hsz : ls.size = nL) (hst : st0 = As.reverse ++ .ref b :: rest) (hcat : (rest.map fun v => v.category).sum ≤ 8) (hdg : decode cc pc = .ok (.invokevirtual 29, 3)) (kk : ∀ (H1 : Heap) (locs1 : List Loc), wo_S D cls cA base s w' H1 locs1 → W p l e R s m args below meth c H1 locs1 (cells + rm_va_setOne.cells) (slots + rm_va_setOne.slots) Q (F0 m (pc + 3) ls (ov.toList ++ rest))) : W p l e R s m args below meth c H locs cells slots Q (F0 m pc ls st0) :=
  wo_callV (C := Rc_va) hx hb hml hown hts hK hG hW hM hkb rfl (gt_of (i := 901) (by decide +kernel) (by decide +kernel)) (gt_of (i := 902) (by decide +kernel) (by decide +kernel)) (gt_of (i := 903) (by decide +kernel) (by decide +kernel)) (gt_of (i := 9) (by decide +kernel) (by decide +kernel)) (gt_of (i := 904) (by decide +kernel) (by decide +kernel)) (by decide +kernel) hR hf hn hsz hst hcat hdg kk
abbrev b_sa_setFirst : ByteArray := prog_7_method_2_code
def y_sa_setFirst : MethodName := ⟨"AlarmForge$State", "setFirst", "()V"⟩
def rm_sa_setFirst : Room := { frames := 1, cells := 0, slots := 0, locals := 22 }
theorem d_sa_setFirst_0 : decode b_sa_setFirst 0 = .ok (.aload_n 0, 1) := by decide +kernel
theorem d_sa_setFirst_1 : decode b_sa_setFirst 1 = .ok (.iconst 0, 1) := by decide +kernel
theorem d_sa_setFirst_2 : decode b_sa_setFirst 2 = .ok (.putfield 22, 3) := by decide +kernel
theorem d_sa_setFirst_5 : decode b_sa_setFirst 5 = .ok (.iconst 0, 1) := by decide +kernel
theorem d_sa_setFirst_6 : decode b_sa_setFirst 6 = .ok (.istore_n 1, 1) := by decide +kernel
theorem d_sa_setFirst_7 : decode b_sa_setFirst 7 = .ok (.iload_n 1, 1) := by decide +kernel
theorem d_sa_setFirst_8 : decode b_sa_setFirst 8 = .ok (.bipush (6), 2) := by decide +kernel
theorem d_sa_setFirst_10 : decode b_sa_setFirst 10 = .ok (.if_icmp .ge (25), 3) := by decide +kernel
theorem d_sa_setFirst_13 : decode b_sa_setFirst 13 = .ok (.aload_n 0, 1) := by decide +kernel
theorem d_sa_setFirst_14 : decode b_sa_setFirst 14 = .ok (.getfield 11, 3) := by decide +kernel
theorem d_sa_setFirst_17 : decode b_sa_setFirst 17 = .ok (.iload_n 1, 1) := by decide +kernel
theorem d_sa_setFirst_18 : decode b_sa_setFirst 18 = .ok (.aaload, 1) := by decide +kernel
theorem d_sa_setFirst_19 : decode b_sa_setFirst 19 = .ok (.invokevirtual 26, 3) := by decide +kernel
theorem d_sa_setFirst_22 : decode b_sa_setFirst 22 = .ok (.aload_n 0, 1) := by decide +kernel
theorem d_sa_setFirst_23 : decode b_sa_setFirst 23 = .ok (.getfield 18, 3) := by decide +kernel
theorem d_sa_setFirst_26 : decode b_sa_setFirst 26 = .ok (.iload_n 1, 1) := by decide +kernel
theorem d_sa_setFirst_27 : decode b_sa_setFirst 27 = .ok (.iconst 1, 1) := by decide +kernel
theorem d_sa_setFirst_28 : decode b_sa_setFirst 28 = .ok (.bastore, 1) := by decide +kernel
theorem d_sa_setFirst_29 : decode b_sa_setFirst 29 = .ok (.iinc 1 (1), 3) := by decide +kernel
theorem d_sa_setFirst_32 : decode b_sa_setFirst 32 = .ok (.goto (-25), 3) := by decide +kernel
theorem d_sa_setFirst_35 : decode b_sa_setFirst 35 = .ok (.iconst 0, 1) := by decide +kernel
theorem d_sa_setFirst_36 : decode b_sa_setFirst 36 = .ok (.istore_n 1, 1) := by decide +kernel
theorem d_sa_setFirst_37 : decode b_sa_setFirst 37 = .ok (.iload_n 1, 1) := by decide +kernel
theorem d_sa_setFirst_38 : decode b_sa_setFirst 38 = .ok (.bipush (8), 2) := by decide +kernel
theorem d_sa_setFirst_40 : decode b_sa_setFirst 40 = .ok (.if_icmp .ge (22), 3) := by decide +kernel
theorem d_sa_setFirst_43 : decode b_sa_setFirst 43 = .ok (.aload_n 0, 1) := by decide +kernel
theorem d_sa_setFirst_44 : decode b_sa_setFirst 44 = .ok (.getfield 11, 3) := by decide +kernel
theorem d_sa_setFirst_47 : decode b_sa_setFirst 47 = .ok (.bipush (6), 2) := by decide +kernel
theorem d_sa_setFirst_49 : decode b_sa_setFirst 49 = .ok (.iload_n 1, 1) := by decide +kernel
theorem d_sa_setFirst_50 : decode b_sa_setFirst 50 = .ok (.iadd, 1) := by decide +kernel
theorem d_sa_setFirst_51 : decode b_sa_setFirst 51 = .ok (.aaload, 1) := by decide +kernel
theorem d_sa_setFirst_52 : decode b_sa_setFirst 52 = .ok (.lconst 0, 1) := by decide +kernel
theorem d_sa_setFirst_53 : decode b_sa_setFirst 53 = .ok (.invokevirtual 29, 3) := by decide +kernel
theorem d_sa_setFirst_56 : decode b_sa_setFirst 56 = .ok (.iinc 1 (1), 3) := by decide +kernel
theorem d_sa_setFirst_59 : decode b_sa_setFirst 59 = .ok (.goto (-22), 3) := by decide +kernel
theorem d_sa_setFirst_62 : decode b_sa_setFirst 62 = .ok (.return_, 1) := by decide +kernel
def f_sa_setFirst_37  : Nat → Nat → Int32 → WW → Option WW
  | 0, _, _, _ => none
  | n + 1, y0, y1, w =>
    if (8 : Int32) ≤ y1 then
      some w
    else
      (gN w y0 7 1).bind fun x5 =>
      (rN w x5 4 ((6 : Int32) + y1)).bind fun x6 =>
      (f_va_setOne x6 (0 : Int64) w).bind fun w7 =>
      f_sa_setFirst_37 n y0 (y1 + (1 : Int32)) w7
def f_sa_setFirst_7  : Nat → Nat → Int32 → WW → Option WW
  | 0, _, _, _ => none
  | n + 1, y0, y1, w =>
    if (6 : Int32) ≤ y1 then
      f_sa_setFirst_37 KK y0 (0 : Int32) w
    else
      (gN w y0 7 1).bind fun x8 =>
      (rN w x8 4 y1).bind fun x9 =>
      (f_va_setNothing x9 w).bind fun w10 =>
      (gN w10 y0 7 2).bind fun x11 =>
      (sI w10 x11 2 y1 (vp_nar .boolean (1 : Int32))).bind fun w12 =>
      f_sa_setFirst_7 n y0 (y1 + (1 : Int32)) w12
def f_sa_setFirst (a0 : Nat) (w : WW) : Option WW :=
  if kb w a0 7 = true then
    if (0 : Int32) = 0 ∨ (0 : Int32) = 1 then
      (pv w a0 7 0 (.int (0 : Int32))).bind fun w1 =>
      f_sa_setFirst_7 KK a0 (0 : Int32) w1
    else none
  else none
theorem kb_sa_setFirst {a0 : Nat}  {w : WW} {r : WW} (h : f_sa_setFirst a0 w = some r) : kb w a0 7 = true := (its h).1
set_option maxHeartbeats 4000000 in
set_option maxRecDepth 100000 in
theorem j_sa_setFirst_37 {p : Program} {l : Launch} {e : Env} {s : State} {m : MethodId} {args : Array Value} {below : List Frame} {meth : Method} {c : Code} {D : va_G} {cA : Nat → ClassId} {base : Nat} {w' : WW} (C : cx b_sa_setFirst (none) 2 y_sa_setFirst.cls "setFirst" p s m args meth c D cA base)   : ∀ n : Nat, ∀ (y0 : Nat) (y1 : Int32) (w : WW), f_sa_setFirst_37 n y0 y1 w = some w' → ∀ (H : Heap) (locs : List Loc) (ls : Array Slot), wo_S D cls cA base s w H locs → lv_has ls 2 [(0, .ref y0), (1, .int y1)] → W p l e rm_sa_setFirst s m args below meth c H locs 0 0 (MQ below (wo_Q D cls cA base none w') args s rm_sa_setFirst.cells rm_sa_setFirst.slots (wo_B base)) (F0 m 37 ls []) := by
  obtain ⟨hx, hb, hr, hml, hown, hts, hlk, hnm, hK, hG⟩ := id C
  intro n
  induction n with
  | zero => intro y0 y1 w h; cases h
  | succ n ih =>
    intro y0 y1 w h H locs ls hW hl
    rw [f_sa_setFirst_37] at h
    refine lv_iload_n hx hb d_sa_setFirst_37 rfl (lv_at hl 1 rfl) ?_
    refine lv_bipush (v := (8 : Int32)) hx hb d_sa_setFirst_38 (by decide) ?_
    refine lv_icmp_ge (tgt := 62) hx hb d_sa_setFirst_40 (by decide) (fun c4 => ?_) (fun c4 => ?_)
    · rw [if_pos c4] at h
      cases h
      exact wo_vret hx hb hr hlk hW d_sa_setFirst_62
    · rw [if_neg c4] at h
      refine lv_aload_n hx hb d_sa_setFirst_43 rfl (lv_at hl 0 rfl) ?_
      replace h := bs h
      obtain ⟨x5, hx5, h⟩ := h
      refine gf_sa_11 hx hb hts hown hK hG hW (gN_s hx5) d_sa_setFirst_44 ?_
      refine lv_bipush (v := (6 : Int32)) hx hb d_sa_setFirst_47 (by decide) ?_
      refine lv_iload_n hx hb d_sa_setFirst_49 rfl (lv_at hl 1 rfl) ?_
      refine lv_iadd hx hb d_sa_setFirst_50 ?_
      replace h := bs h
      obtain ⟨x6, hx6, h⟩ := h
      refine wo_aald hx hb hK hW (t := 4) rfl (rN_s hx6) d_sa_setFirst_51 ?_
      refine lv_lconst (v := (0 : Int64)) hx hb d_sa_setFirst_52 (by decide) ?_
      replace h := bs h
      obtain ⟨w7, hw7, h⟩ := h
      refine cv_sa_29 (As := [.long (0 : Int64)]) (rest := []) hx hb hml hown hts hK hG hW (c_va_setOne l D cA base hw7) (kb_va_setOne hw7) ⟨Nat.le_of_ble_eq_true rfl, Nat.le_of_ble_eq_true rfl⟩ ⟨Nat.le_of_ble_eq_true rfl, Nat.le_of_ble_eq_true rfl⟩ rfl hl.1 rfl (Nat.le_of_ble_eq_true rfl) d_sa_setFirst_53 (fun H locs hW => ?_)
      refine lv_iinc (v := (y1 + (1 : Int32))) (lv' := [(1, .int (y1 + (1 : Int32))), (0, .ref y0)]) hx hb d_sa_setFirst_56 hl (k := 1) rfl rfl (by decide) rfl (fun ls hl => ?_)
      refine lv_goto (tgt := 37) hx hb d_sa_setFirst_59 (by decide) ?_
      exact ih y0 (y1 + (1 : Int32)) w7 h _ _ _ hW (lv_sub hl [1, 0] rfl)
set_option maxHeartbeats 4000000 in
set_option maxRecDepth 100000 in
theorem j_sa_setFirst_7 {p : Program} {l : Launch} {e : Env} {s : State} {m : MethodId} {args : Array Value} {below : List Frame} {meth : Method} {c : Code} {D : va_G} {cA : Nat → ClassId} {base : Nat} {w' : WW} (C : cx b_sa_setFirst (none) 2 y_sa_setFirst.cls "setFirst" p s m args meth c D cA base)   : ∀ n : Nat, ∀ (y0 : Nat) (y1 : Int32) (w : WW), f_sa_setFirst_7 n y0 y1 w = some w' → ∀ (H : Heap) (locs : List Loc) (ls : Array Slot), wo_S D cls cA base s w H locs → lv_has ls 2 [(0, .ref y0), (1, .int y1)] → W p l e rm_sa_setFirst s m args below meth c H locs 0 0 (MQ below (wo_Q D cls cA base none w') args s rm_sa_setFirst.cells rm_sa_setFirst.slots (wo_B base)) (F0 m 7 ls []) := by
  obtain ⟨hx, hb, hr, hml, hown, hts, hlk, hnm, hK, hG⟩ := id C
  intro n
  induction n with
  | zero => intro y0 y1 w h; cases h
  | succ n ih =>
    intro y0 y1 w h H locs ls hW hl
    rw [f_sa_setFirst_7] at h
    refine lv_iload_n hx hb d_sa_setFirst_7 rfl (lv_at hl 1 rfl) ?_
    refine lv_bipush (v := (6 : Int32)) hx hb d_sa_setFirst_8 (by decide) ?_
    refine lv_icmp_ge (tgt := 35) hx hb d_sa_setFirst_10 (by decide) (fun c3 => ?_) (fun c3 => ?_)
    · rw [if_pos c3] at h
      refine lv_iconst (v := (0 : Int32)) hx hb d_sa_setFirst_35 (by decide) ?_
      refine lv_istore_n (lv' := [(1, .int (0 : Int32)), (0, .ref y0)]) hx hb d_sa_setFirst_36 rfl hl (by decide) rfl (fun ls hl => ?_)
      exact j_sa_setFirst_37 C KK y0 (0 : Int32) w h _ _ _ hW (lv_sub hl [1, 0] rfl)
    · rw [if_neg c3] at h
      refine lv_aload_n hx hb d_sa_setFirst_13 rfl (lv_at hl 0 rfl) ?_
      replace h := bs h
      obtain ⟨x8, hx8, h⟩ := h
      refine gf_sa_11 hx hb hts hown hK hG hW (gN_s hx8) d_sa_setFirst_14 ?_
      refine lv_iload_n hx hb d_sa_setFirst_17 rfl (lv_at hl 1 rfl) ?_
      replace h := bs h
      obtain ⟨x9, hx9, h⟩ := h
      refine wo_aald hx hb hK hW (t := 4) rfl (rN_s hx9) d_sa_setFirst_18 ?_
      replace h := bs h
      obtain ⟨w10, hw10, h⟩ := h
      refine cv_sa_26 (As := []) (rest := []) hx hb hml hown hts hK hG hW (c_va_setNothing l D cA base hw10) (kb_va_setNothing hw10) ⟨Nat.le_of_ble_eq_true rfl, Nat.le_of_ble_eq_true rfl⟩ ⟨Nat.le_of_ble_eq_true rfl, Nat.le_of_ble_eq_true rfl⟩ rfl hl.1 rfl (Nat.le_of_ble_eq_true rfl) d_sa_setFirst_19 (fun H locs hW => ?_)
      refine lv_aload_n hx hb d_sa_setFirst_22 rfl (lv_at hl 0 rfl) ?_
      replace h := bs h
      obtain ⟨x11, hx11, h⟩ := h
      refine gf_sa_18 hx hb hts hown hK hG hW (gN_s hx11) d_sa_setFirst_23 ?_
      refine lv_iload_n hx hb d_sa_setFirst_26 rfl (lv_at hl 1 rfl) ?_
      refine lv_iconst (v := (1 : Int32)) hx hb d_sa_setFirst_27 (by decide) ?_
      replace h := bs h
      obtain ⟨w12, hw12, h⟩ := h
      refine wo_zast hx hb hK hW (t := 2) rfl hw12 d_sa_setFirst_28 (fun H locs hW => ?_)
      refine lv_iinc (v := (y1 + (1 : Int32))) (lv' := [(1, .int (y1 + (1 : Int32))), (0, .ref y0)]) hx hb d_sa_setFirst_29 hl (k := 1) rfl rfl (by decide) rfl (fun ls hl => ?_)
      refine lv_goto (tgt := 7) hx hb d_sa_setFirst_32 (by decide) ?_
      exact ih y0 (y1 + (1 : Int32)) w12 h _ _ _ hW (lv_sub hl [1, 0] rfl)
set_option maxHeartbeats 4000000 in
set_option maxRecDepth 100000 in
theorem c_sa_setFirst (l : Launch) (D : va_G) (cA : Nat → ClassId) (base : Nat) {a0 : Nat} {w w' : WW} (h : f_sa_setFirst a0 w = some w') : mt l D cls (wo_tys cA) cA base y_sa_setFirst (Cond.code y_sa_setFirst b_sa_setFirst 2 (none) :: gt) rm_sa_setFirst [.ref a0] w none w' rm_sa_setFirst.cells rm_sa_setFirst.slots := by
  refine mt_start (by decide) (Nat.le_of_ble_eq_true rfl) ?_
  intro p e s m below meth c ls hx hb hr hml hown hts hlk hnm hK hG hW hl
  have C : cx b_sa_setFirst (none) 2 y_sa_setFirst.cls "setFirst" p s m [.ref a0].toArray meth c D cA base := ⟨hx, hb, hr, hml, hown, hts, hlk, hnm, hK, hG⟩
  have hl : lv_has ls 2 [(0, .ref a0)] := hl
  unfold f_sa_setFirst at h
  replace h := its h
  obtain ⟨-, h⟩ := h
  refine lv_aload_n hx hb d_sa_setFirst_0 rfl (lv_at hl 0 rfl) ?_
  refine lv_iconst (v := (0 : Int32)) hx hb d_sa_setFirst_1 (by decide) ?_
  replace h := its h
  obtain ⟨c2, h⟩ := h
  replace h := bs h
  obtain ⟨w1, hw1, h⟩ := h
  refine pf_sa_22 hx hb hts hown hK hG hW (z_n c2) (z_f c2) hw1 d_sa_setFirst_2 (fun H locs hW => ?_)
  refine lv_iconst (v := (0 : Int32)) hx hb d_sa_setFirst_5 (by decide) ?_
  refine lv_istore_n (lv' := [(1, .int (0 : Int32)), (0, .ref a0)]) hx hb d_sa_setFirst_6 rfl hl (by decide) rfl (fun ls hl => ?_)
  exact j_sa_setFirst_7 C KK a0 (0 : Int32) w1 h _ _ _ hW (lv_sub hl [1, 0] rfl)
abbrev b_an_goStatement : ByteArray := prog_2_method_6_code
def y_an_goStatement : MethodName := ⟨"AlarmForge$Analyser", "goStatement", "(LAlarmForge$Statement;LAlarmForge$State;I)V"⟩
def rm_an_goStatement : Room := { frames := 0, cells := 0, slots := 0, locals := 0 }
def f_an_goStatement (a0 : Nat) (a1 : Option Nat) (a2 : Nat) (a3 : Int32) (w : WW) : Option WW := none
theorem kb_an_goStatement {a0 : Nat} {a1 : Option Nat} {a2 : Nat} {a3 : Int32} {w : WW} {r : WW} (h : f_an_goStatement a0 a1 a2 a3 w = some r) : kb w a0 6 = true := by cases h
theorem c_an_goStatement (l : Launch) (D : va_G) (cA : Nat → ClassId) (base : Nat) {a0 : Nat} {a1 : Option Nat} {a2 : Nat} {a3 : Int32} {w w' : WW} (h : f_an_goStatement a0 a1 a2 a3 w = some w') : mt l D cls (wo_tys cA) cA base y_an_goStatement (Cond.code y_an_goStatement b_an_goStatement 4 (none) :: gt) rm_an_goStatement [.ref a0, va_rf a1, .ref a2, .int a3] w none w' rm_an_goStatement.cells rm_an_goStatement.slots := by
  cases h
theorem cv_an_73 {p : Program} {l : Launch} {e : Env} {R : Room} {s : State} {m : MethodId} {args : Array Value} {below : List Frame} {meth : Method} {c : Code} {H : Heap} {locs : List Loc} {cells slots : Nat} {Q : State → Prop} {D : va_G} {cA : Nat → ClassId} {base : Nat} {w w' : WW} {cc : ByteArray} {pc nL : Nat} {ls : Array Slot} {rest st0 As : List Value} {ov : Option Value} {b : Nat} (hx : p.tables.exec = Jvm.exec) (hb : c.code = cc) (hml : c.maxLocals = nL) (hown : s.vm.findClass Rc_an = some m.cls) (hts : ∀ w ∈ gt, w.before args s = true) (hK : va_K D cls (wo_tys cA) s) (hG : wo_G base s) (hW : wo_S D cls cA base s w H locs) (hM : mt l D cls (wo_tys cA) cA base y_an_goStatement (Cond.code y_an_goStatement b_an_goStatement 4 (none) :: gt) rm_an_goStatement (.ref b :: As) w ov w' rm_an_goStatement.cells rm_an_goStatement.slots) (hkb : kb w b 6 = true) (hR : rm_an_goStatement.frames + 1 ≤ R.frames ∧ 8 + (4 + 11) + rm_an_goStatement.locals ≤ R.locals) (hf : cells + rm_an_goStatement.cells ≤ R.cells ∧ slots + rm_an_goStatement.slots ≤ R.slots) (hn : As.length = 3) (hsz : ls.size = nL) (hst : st0 = As.reverse ++ .ref b :: rest) (hcat : (rest.map fun v => v.category).sum ≤ 8) (hdg : decode cc pc = .ok (.invokevirtual 73, 3)) (kk : ∀ (H1 : Heap) (locs1 : List Loc), wo_S D cls cA base s w' H1 locs1 → W p l e R s m args below meth c H1 locs1 (cells + rm_an_goStatement.cells) (slots + rm_an_goStatement.slots) Q (F0 m (pc + 3) ls (ov.toList ++ rest))) : W p l e R s m args below meth c H locs cells slots Q (F0 m pc ls st0) :=
  wo_callV (C := Rc_an) hx hb hml hown hts hK hG hW hM hkb rfl (gt_of (i := 909) (by decide +kernel) (by decide +kernel)) (gt_of (i := 911) (by decide +kernel) (by decide +kernel)) (gt_sel (i := 38) (by decide +kernel) (by decide +kernel)) (gt_of (i := 7) (by decide +kernel) (by decide +kernel)) (gt_of (i := 912) (by decide +kernel) (by decide +kernel)) (by decide +kernel) hR hf hn hsz hst hcat hdg kk
abbrev b_an_goStatements : ByteArray := prog_2_method_5_code
def y_an_goStatements : MethodName := ⟨"AlarmForge$Analyser", "goStatements", "(LAlarmForge$Statement;LAlarmForge$State;I)V"⟩
def rm_an_goStatements : Room := { frames := 1, cells := 0, slots := 0, locals := 23 }
theorem d_an_goStatements_0 : decode b_an_goStatements 0 = .ok (.iload_n 3, 1) := by decide +kernel
theorem d_an_goStatements_1 : decode b_an_goStatements 1 = .ok (.iconst 3, 1) := by decide +kernel
theorem d_an_goStatements_2 : decode b_an_goStatements 2 = .ok (.if_icmp .le (4), 3) := by decide +kernel
theorem d_an_goStatements_5 : decode b_an_goStatements 5 = .ok (.return_, 1) := by decide +kernel
theorem d_an_goStatements_6 : decode b_an_goStatements 6 = .ok (.aload_n 1, 1) := by decide +kernel
theorem d_an_goStatements_7 : decode b_an_goStatements 7 = .ok (.astore 4, 2) := by decide +kernel
theorem d_an_goStatements_9 : decode b_an_goStatements 9 = .ok (.aload 4, 2) := by decide +kernel
theorem d_an_goStatements_11 : decode b_an_goStatements 11 = .ok (.ifnull (28), 3) := by decide +kernel
theorem d_an_goStatements_14 : decode b_an_goStatements 14 = .ok (.aload_n 2, 1) := by decide +kernel
theorem d_an_goStatements_15 : decode b_an_goStatements 15 = .ok (.getfield 70, 3) := by decide +kernel
theorem d_an_goStatements_18 : decode b_an_goStatements 18 = .ok (.ifCond .ne (21), 3) := by decide +kernel
theorem d_an_goStatements_21 : decode b_an_goStatements 21 = .ok (.aload_n 0, 1) := by decide +kernel
theorem d_an_goStatements_22 : decode b_an_goStatements 22 = .ok (.aload 4, 2) := by decide +kernel
theorem d_an_goStatements_24 : decode b_an_goStatements 24 = .ok (.aload_n 2, 1) := by decide +kernel
theorem d_an_goStatements_25 : decode b_an_goStatements 25 = .ok (.iload_n 3, 1) := by decide +kernel
theorem d_an_goStatements_26 : decode b_an_goStatements 26 = .ok (.invokevirtual 73, 3) := by decide +kernel
theorem d_an_goStatements_29 : decode b_an_goStatements 29 = .ok (.aload 4, 2) := by decide +kernel
theorem d_an_goStatements_31 : decode b_an_goStatements 31 = .ok (.getfield 76, 3) := by decide +kernel
theorem d_an_goStatements_34 : decode b_an_goStatements 34 = .ok (.astore 4, 2) := by decide +kernel
theorem d_an_goStatements_36 : decode b_an_goStatements 36 = .ok (.goto (-27), 3) := by decide +kernel
theorem d_an_goStatements_39 : decode b_an_goStatements 39 = .ok (.return_, 1) := by decide +kernel
def f_an_goStatements_39   (w : WW) : Option WW :=
  some w
def f_an_goStatements_9  : Nat → Nat → Nat → Int32 → Option Nat → WW → Option WW
  | 0, _, _, _, _, _ => none
  | n + 1, y0, y2, y3, y4, w =>
    nl y4
      (f_an_goStatements_39 w)
      fun x2 =>
        (gI w y2 7 0).bind fun x3 =>
        if x3 = 0 then
          (f_an_goStatement y0 (some x2) y2 y3 w).bind fun w5 =>
          (gR w5 x2 4 9).bind fun x6 =>
          f_an_goStatements_9 n y0 y2 y3 x6 w5
        else
          f_an_goStatements_39 w
def f_an_goStatements (a0 : Nat) (a1 : Option Nat) (a2 : Nat) (a3 : Int32) (w : WW) : Option WW :=
  if kb w a0 6 = true then
    if a3 ≤ (3 : Int32) then
      f_an_goStatements_9 KK a0 a2 a3 a1 w
    else
      some w
  else none
theorem kb_an_goStatements {a0 a2 : Nat} {a1 : Option Nat} {a3 : Int32} {w : WW} {r : WW} (h : f_an_goStatements a0 a1 a2 a3 w = some r) : kb w a0 6 = true := (its h).1
set_option maxHeartbeats 4000000 in
set_option maxRecDepth 100000 in
theorem j_an_goStatements_39 {p : Program} {l : Launch} {e : Env} {s : State} {m : MethodId} {args : Array Value} {below : List Frame} {meth : Method} {c : Code} {D : va_G} {cA : Nat → ClassId} {base : Nat} {w' : WW} (C : cx b_an_goStatements (none) 5 y_an_goStatements.cls "goStatements" p s m args meth c D cA base)   : ∀  (w : WW), f_an_goStatements_39  w = some w' → ∀ (H : Heap) (locs : List Loc) (ls : Array Slot), wo_S D cls cA base s w H locs → lv_has ls 5 [] → W p l e rm_an_goStatements s m args below meth c H locs 0 0 (MQ below (wo_Q D cls cA base none w') args s rm_an_goStatements.cells rm_an_goStatements.slots (wo_B base)) (F0 m 39 ls []) := by
  obtain ⟨hx, hb, hr, hml, hown, hts, hlk, hnm, hK, hG⟩ := id C
  intro  w h H locs ls hW hl
  unfold f_an_goStatements_39 at h
  cases h
  exact wo_vret hx hb hr hlk hW d_an_goStatements_39
set_option maxHeartbeats 4000000 in
set_option maxRecDepth 100000 in
theorem j_an_goStatements_9 {p : Program} {l : Launch} {e : Env} {s : State} {m : MethodId} {args : Array Value} {below : List Frame} {meth : Method} {c : Code} {D : va_G} {cA : Nat → ClassId} {base : Nat} {w' : WW} (C : cx b_an_goStatements (none) 5 y_an_goStatements.cls "goStatements" p s m args meth c D cA base)   : ∀ n : Nat, ∀ (y0 : Nat) (y2 : Nat) (y3 : Int32) (y4 : Option Nat) (w : WW), f_an_goStatements_9 n y0 y2 y3 y4 w = some w' → ∀ (H : Heap) (locs : List Loc) (ls : Array Slot), wo_S D cls cA base s w H locs → lv_has ls 5 [(0, .ref y0), (2, .ref y2), (3, .int y3), (4, va_rf y4)] → W p l e rm_an_goStatements s m args below meth c H locs 0 0 (MQ below (wo_Q D cls cA base none w') args s rm_an_goStatements.cells rm_an_goStatements.slots (wo_B base)) (F0 m 9 ls []) := by
  obtain ⟨hx, hb, hr, hml, hown, hts, hlk, hnm, hK, hG⟩ := id C
  intro n
  induction n with
  | zero => intro y0 y2 y3 y4 w h; cases h
  | succ n ih =>
    intro y0 y2 y3 y4 w h H locs ls hW hl
    rw [f_an_goStatements_9] at h
    refine wo_aload hx hb d_an_goStatements_9 (lv_at hl 3 rfl) ?_
    refine wo_ifnull (tgt := 39) hx hb d_an_goStatements_11 (by decide) (fun ex2 => ?_) (fun x2 ex2 => ?_)
    · subst ex2
      dsimp only [nl] at h
      have hl : lv_has ls 5 [(0, .ref y0), (2, .ref y2), (3, .int y3), (4, va_rf none)] := hl
      exact j_an_goStatements_39 C w h _ _ _ hW (lv_sub hl [] rfl)
    · subst ex2
      dsimp only [nl] at h
      have hl : lv_has ls 5 [(0, .ref y0), (2, .ref y2), (3, .int y3), (4, .ref x2)] := hl
      refine lv_aload_n hx hb d_an_goStatements_14 rfl (lv_at hl 1 rfl) ?_
      replace h := bs h
      obtain ⟨x3, hx3, h⟩ := h
      refine gf_an_70 hx hb hts hown hK hG hW (gI_s hx3) d_an_goStatements_15 ?_
      refine lv_if_ne (tgt := 39) hx hb d_an_goStatements_18 (by decide) (fun c4 => ?_) (fun c4 => ?_)
      · rw [if_neg c4] at h
        exact j_an_goStatements_39 C w h _ _ _ hW (lv_sub hl [] rfl)
      · rw [if_pos c4] at h
        refine lv_aload_n hx hb d_an_goStatements_21 rfl (lv_at hl 0 rfl) ?_
        refine lv_aload hx hb d_an_goStatements_22 (lv_at hl 3 rfl) ?_
        refine lv_aload_n hx hb d_an_goStatements_24 rfl (lv_at hl 1 rfl) ?_
        refine lv_iload_n hx hb d_an_goStatements_25 rfl (lv_at hl 2 rfl) ?_
        replace h := bs h
        obtain ⟨w5, hw5, h⟩ := h
        refine cv_an_73 (As := [va_rf (some x2), .ref y2, .int y3]) (rest := []) hx hb hml hown hts hK hG hW (c_an_goStatement l D cA base hw5) (kb_an_goStatement hw5) ⟨Nat.le_of_ble_eq_true rfl, Nat.le_of_ble_eq_true rfl⟩ ⟨Nat.le_of_ble_eq_true rfl, Nat.le_of_ble_eq_true rfl⟩ rfl hl.1 rfl (Nat.le_of_ble_eq_true rfl) d_an_goStatements_26 (fun H locs hW => ?_)
        refine lv_aload hx hb d_an_goStatements_29 (lv_at hl 3 rfl) ?_
        replace h := bs h
        obtain ⟨x6, hx6, h⟩ := h
        refine gf_an_76 hx hb hts hown hK hG hW (gR_s hx6) d_an_goStatements_31 ?_
        refine wo_astore (lv' := [(4, va_rf x6), (0, .ref y0), (2, .ref y2), (3, .int y3)]) hx hb d_an_goStatements_34 hl (by decide) rfl (fun ls hl => ?_)
        refine lv_goto (tgt := 9) hx hb d_an_goStatements_36 (by decide) ?_
        exact ih y0 y2 y3 x6 w5 h _ _ _ hW (lv_sub hl [1, 2, 3, 0] rfl)
set_option maxHeartbeats 4000000 in
set_option maxRecDepth 100000 in
theorem c_an_goStatements (l : Launch) (D : va_G) (cA : Nat → ClassId) (base : Nat) {a0 : Nat} {a1 : Option Nat} {a2 : Nat} {a3 : Int32} {w w' : WW} (h : f_an_goStatements a0 a1 a2 a3 w = some w') : mt l D cls (wo_tys cA) cA base y_an_goStatements (Cond.code y_an_goStatements b_an_goStatements 5 (none) :: gt) rm_an_goStatements [.ref a0, va_rf a1, .ref a2, .int a3] w none w' rm_an_goStatements.cells rm_an_goStatements.slots := by
  refine mt_start (by decide) (by simp only [lg_sl_0, lg_sl_1, lg_sl_2, lg_sl_3, lg_sl_rf]; decide) ?_
  intro p e s m below meth c ls hx hb hr hml hown hts hlk hnm hK hG hW hl
  have C : cx b_an_goStatements (none) 5 y_an_goStatements.cls "goStatements" p s m [.ref a0, va_rf a1, .ref a2, .int a3].toArray meth c D cA base := ⟨hx, hb, hr, hml, hown, hts, hlk, hnm, hK, hG⟩
  have hl : lv_has ls 5 [(0, .ref a0), (1, va_rf a1), (2, .ref a2), (3, .int a3)] := by simp only [lv_args_0, lv_args_1, lv_args_2, lv_args_3, lv_args_rf] at hl; exact hl
  unfold f_an_goStatements at h
  replace h := its h
  obtain ⟨-, h⟩ := h
  refine lv_iload_n hx hb d_an_goStatements_0 rfl (lv_at hl 3 rfl) ?_
  refine lv_iconst (v := (3 : Int32)) hx hb d_an_goStatements_1 (by decide) ?_
  refine lv_icmp_le (tgt := 6) hx hb d_an_goStatements_2 (by decide) (fun c1 => ?_) (fun c1 => ?_)
  · rw [if_pos c1] at h
    refine wo_aload_n hx hb d_an_goStatements_6 rfl (lv_at hl 1 rfl) ?_
    refine wo_astore (lv' := [(4, va_rf a1), (0, .ref a0), (1, va_rf a1), (2, .ref a2), (3, .int a3)]) hx hb d_an_goStatements_7 hl (by decide) rfl (fun ls hl => ?_)
    exact j_an_goStatements_9 C KK a0 a2 a3 a1 w h _ _ _ hW (lv_sub hl [1, 3, 4, 0] rfl)
  · rw [if_neg c1] at h
    cases h
    exact wo_vret hx hb hr hlk hW d_an_goStatements_5
theorem cv_an_54 {p : Program} {l : Launch} {e : Env} {R : Room} {s : State} {m : MethodId} {args : Array Value} {below : List Frame} {meth : Method} {c : Code} {H : Heap} {locs : List Loc} {cells slots : Nat} {Q : State → Prop} {D : va_G} {cA : Nat → ClassId} {base : Nat} {w w' : WW} {cc : ByteArray} {pc nL : Nat} {ls : Array Slot} {rest st0 As : List Value} {ov : Option Value} {b : Nat} (hx : p.tables.exec = Jvm.exec) (hb : c.code = cc) (hml : c.maxLocals = nL) (hown : s.vm.findClass Rc_an = some m.cls) (hts : ∀ w ∈ gt, w.before args s = true) (hK : va_K D cls (wo_tys cA) s) (hG : wo_G base s) (hW : wo_S D cls cA base s w H locs) (hM : mt l D cls (wo_tys cA) cA base y_sa_setFirst (Cond.code y_sa_setFirst b_sa_setFirst 2 (none) :: gt) rm_sa_setFirst (.ref b :: As) w ov w' rm_sa_setFirst.cells rm_sa_setFirst.slots) (hkb : kb w b 7 = true) (hR : rm_sa_setFirst.frames + 1 ≤ R.frames ∧ 8 + (2 + 11) + rm_sa_setFirst.locals ≤ R.locals) (hf : cells + rm_sa_setFirst.cells ≤ R.cells ∧ slots + rm_sa_setFirst.slots ≤ R.slots) (hn : As.length = 0) (hsz : ls.size = nL) (hst : st0 = As.reverse ++ .ref b :: rest) (hcat : (rest.map fun v => v.category).sum ≤ 8) (hdg : decode cc pc = .ok (.invokevirtual 54, 3)) (kk : ∀ (H1 : Heap) (locs1 : List Loc), wo_S D cls cA base s w' H1 locs1 → W p l e R s m args below meth c H1 locs1 (cells + rm_sa_setFirst.cells) (slots + rm_sa_setFirst.slots) Q (F0 m (pc + 3) ls (ov.toList ++ rest))) : W p l e R s m args below meth c H locs cells slots Q (F0 m pc ls st0) :=
  wo_callV (C := Rc_sa) hx hb hml hown hts hK hG hW hM hkb rfl (gt_of (i := 893) (by decide +kernel) (by decide +kernel)) (gt_of (i := 894) (by decide +kernel) (by decide +kernel)) (gt_of (i := 895) (by decide +kernel) (by decide +kernel)) (gt_of (i := 8) (by decide +kernel) (by decide +kernel)) (gt_of (i := 896) (by decide +kernel) (by decide +kernel)) (by decide +kernel) hR hf hn hsz hst hcat hdg kk
theorem cv_an_63 {p : Program} {l : Launch} {e : Env} {R : Room} {s : State} {m : MethodId} {args : Array Value} {below : List Frame} {meth : Method} {c : Code} {H : Heap} {locs : List Loc} {cells slots : Nat} {Q : State → Prop} {D : va_G} {cA : Nat → ClassId} {base : Nat} {w w' : WW} {cc : ByteArray} {pc nL : Nat} {ls : Array Slot} {rest st0 As : List Value} {ov : Option Value} {b : Nat} (hx : p.tables.exec = Jvm.exec) (hb : c.code = cc) (hml : c.maxLocals = nL) (hown : s.vm.findClass Rc_an = some m.cls) (hts : ∀ w ∈ gt, w.before args s = true) (hK : va_K D cls (wo_tys cA) s) (hG : wo_G base s) (hW : wo_S D cls cA base s w H locs) (hM : mt l D cls (wo_tys cA) cA base y_an_goStatements (Cond.code y_an_goStatements b_an_goStatements 5 (none) :: gt) rm_an_goStatements (.ref b :: As) w ov w' rm_an_goStatements.cells rm_an_goStatements.slots) (hkb : kb w b 6 = true) (hR : rm_an_goStatements.frames + 1 ≤ R.frames ∧ 8 + (5 + 11) + rm_an_goStatements.locals ≤ R.locals) (hf : cells + rm_an_goStatements.cells ≤ R.cells ∧ slots + rm_an_goStatements.slots ≤ R.slots) (hn : As.length = 3) (hsz : ls.size = nL) (hst : st0 = As.reverse ++ .ref b :: rest) (hcat : (rest.map fun v => v.category).sum ≤ 8) (hdg : decode cc pc = .ok (.invokevirtual 63, 3)) (kk : ∀ (H1 : Heap) (locs1 : List Loc), wo_S D cls cA base s w' H1 locs1 → W p l e R s m args below meth c H1 locs1 (cells + rm_an_goStatements.cells) (slots + rm_an_goStatements.slots) Q (F0 m (pc + 3) ls (ov.toList ++ rest))) : W p l e R s m args below meth c H locs cells slots Q (F0 m pc ls st0) :=
  wo_callV (C := Rc_an) hx hb hml hown hts hK hG hW hM hkb rfl (gt_of (i := 905) (by decide +kernel) (by decide +kernel)) (gt_of (i := 907) (by decide +kernel) (by decide +kernel)) (gt_sel (i := 37) (by decide +kernel) (by decide +kernel)) (gt_of (i := 7) (by decide +kernel) (by decide +kernel)) (gt_of (i := 908) (by decide +kernel) (by decide +kernel)) (by decide +kernel) hR hf hn hsz hst hcat hdg kk
abbrev b_an_goThrough : ByteArray := prog_2_method_2_code
def y_an_goThrough : MethodName := ⟨"AlarmForge$Analyser", "goThrough", "(LAlarmForge$Program;II)V"⟩
def rm_an_goThrough : Room := { frames := 2, cells := 0, slots := 0, locals := 47 }
theorem d_an_goThrough_0 : decode b_an_goThrough 0 = .ok (.aload_n 0, 1) := by decide +kernel
theorem d_an_goThrough_1 : decode b_an_goThrough 1 = .ok (.aload_n 1, 1) := by decide +kernel
theorem d_an_goThrough_2 : decode b_an_goThrough 2 = .ok (.putfield 33, 3) := by decide +kernel
theorem d_an_goThrough_5 : decode b_an_goThrough 5 = .ok (.aload_n 0, 1) := by decide +kernel
theorem d_an_goThrough_6 : decode b_an_goThrough 6 = .ok (.iload_n 2, 1) := by decide +kernel
theorem d_an_goThrough_7 : decode b_an_goThrough 7 = .ok (.putfield 37, 3) := by decide +kernel
theorem d_an_goThrough_10 : decode b_an_goThrough 10 = .ok (.aload_n 0, 1) := by decide +kernel
theorem d_an_goThrough_11 : decode b_an_goThrough 11 = .ok (.iload_n 3, 1) := by decide +kernel
theorem d_an_goThrough_12 : decode b_an_goThrough 12 = .ok (.putfield 41, 3) := by decide +kernel
theorem d_an_goThrough_15 : decode b_an_goThrough 15 = .ok (.iconst 0, 1) := by decide +kernel
theorem d_an_goThrough_16 : decode b_an_goThrough 16 = .ok (.istore 4, 2) := by decide +kernel
theorem d_an_goThrough_18 : decode b_an_goThrough 18 = .ok (.iload 4, 2) := by decide +kernel
theorem d_an_goThrough_20 : decode b_an_goThrough 20 = .ok (.sipush (200), 3) := by decide +kernel
theorem d_an_goThrough_23 : decode b_an_goThrough 23 = .ok (.if_icmp .ge (17), 3) := by decide +kernel
theorem d_an_goThrough_26 : decode b_an_goThrough 26 = .ok (.aload_n 0, 1) := by decide +kernel
theorem d_an_goThrough_27 : decode b_an_goThrough 27 = .ok (.getfield 29, 3) := by decide +kernel
theorem d_an_goThrough_30 : decode b_an_goThrough 30 = .ok (.iload 4, 2) := by decide +kernel
theorem d_an_goThrough_32 : decode b_an_goThrough 32 = .ok (.iconst 0, 1) := by decide +kernel
theorem d_an_goThrough_33 : decode b_an_goThrough 33 = .ok (.iastore, 1) := by decide +kernel
theorem d_an_goThrough_34 : decode b_an_goThrough 34 = .ok (.iinc 4 (1), 3) := by decide +kernel
theorem d_an_goThrough_37 : decode b_an_goThrough 37 = .ok (.goto (-19), 3) := by decide +kernel
theorem d_an_goThrough_40 : decode b_an_goThrough 40 = .ok (.aload_n 0, 1) := by decide +kernel
theorem d_an_goThrough_41 : decode b_an_goThrough 41 = .ok (.iconst 0, 1) := by decide +kernel
theorem d_an_goThrough_42 : decode b_an_goThrough 42 = .ok (.putfield 44, 3) := by decide +kernel
theorem d_an_goThrough_45 : decode b_an_goThrough 45 = .ok (.aload_n 0, 1) := by decide +kernel
theorem d_an_goThrough_46 : decode b_an_goThrough 46 = .ok (.iconst 0, 1) := by decide +kernel
theorem d_an_goThrough_47 : decode b_an_goThrough 47 = .ok (.putfield 47, 3) := by decide +kernel
theorem d_an_goThrough_50 : decode b_an_goThrough 50 = .ok (.aload_n 0, 1) := by decide +kernel
theorem d_an_goThrough_51 : decode b_an_goThrough 51 = .ok (.iconst 1, 1) := by decide +kernel
theorem d_an_goThrough_52 : decode b_an_goThrough 52 = .ok (.putfield 50, 3) := by decide +kernel
theorem d_an_goThrough_55 : decode b_an_goThrough 55 = .ok (.aload_n 0, 1) := by decide +kernel
theorem d_an_goThrough_56 : decode b_an_goThrough 56 = .ok (.getfield 12, 3) := by decide +kernel
theorem d_an_goThrough_59 : decode b_an_goThrough 59 = .ok (.invokevirtual 54, 3) := by decide +kernel
theorem d_an_goThrough_62 : decode b_an_goThrough 62 = .ok (.aload_n 0, 1) := by decide +kernel
theorem d_an_goThrough_63 : decode b_an_goThrough 63 = .ok (.aload_n 0, 1) := by decide +kernel
theorem d_an_goThrough_64 : decode b_an_goThrough 64 = .ok (.getfield 33, 3) := by decide +kernel
theorem d_an_goThrough_67 : decode b_an_goThrough 67 = .ok (.getfield 57, 3) := by decide +kernel
theorem d_an_goThrough_70 : decode b_an_goThrough 70 = .ok (.aload_n 0, 1) := by decide +kernel
theorem d_an_goThrough_71 : decode b_an_goThrough 71 = .ok (.getfield 12, 3) := by decide +kernel
theorem d_an_goThrough_74 : decode b_an_goThrough 74 = .ok (.iconst 0, 1) := by decide +kernel
theorem d_an_goThrough_75 : decode b_an_goThrough 75 = .ok (.invokevirtual 63, 3) := by decide +kernel
theorem d_an_goThrough_78 : decode b_an_goThrough 78 = .ok (.aload_n 0, 1) := by decide +kernel
theorem d_an_goThrough_79 : decode b_an_goThrough 79 = .ok (.iconst 1, 1) := by decide +kernel
theorem d_an_goThrough_80 : decode b_an_goThrough 80 = .ok (.putfield 67, 3) := by decide +kernel
theorem d_an_goThrough_83 : decode b_an_goThrough 83 = .ok (.return_, 1) := by decide +kernel
def f_an_goThrough_18  : Nat → Nat → Int32 → WW → Option WW
  | 0, _, _, _ => none
  | n + 1, y0, y4, w =>
    if (200 : Int32) ≤ y4 then
      (pv w y0 6 9 (.int (0 : Int32))).bind fun w5 =>
      (pv w5 y0 6 10 (.int (0 : Int32))).bind fun w6 =>
      if (1 : Int32) = 0 ∨ (1 : Int32) = 1 then
        (pv w6 y0 6 7 (.int (1 : Int32))).bind fun w7 =>
        (gN w7 y0 6 0).bind fun x9 =>
        (f_sa_setFirst x9 w7).bind fun w10 =>
        (gR w10 y0 6 4).bind fun x11 =>
        x11.bind fun x12 =>
        (gR w10 x12 3 6).bind fun x13 =>
        (gN w10 y0 6 0).bind fun x14 =>
        (f_an_goStatements y0 x13 x14 (0 : Int32) w10).bind fun w15 =>
        if (1 : Int32) = 0 ∨ (1 : Int32) = 1 then
          (pv w15 y0 6 8 (.int (1 : Int32))).bind fun w16 =>
          some w16
        else none
      else none
    else
      (gN w y0 6 3).bind fun x18 =>
      (sI w x18 0 y4 (0 : Int32)).bind fun w19 =>
      f_an_goThrough_18 n y0 (y4 + (1 : Int32)) w19
def f_an_goThrough (a0 : Nat) (a1 : Nat) (a2 : Int32) (a3 : Int32) (w : WW) : Option WW :=
  if kb w a0 6 = true then
    (pv w a0 6 4 (.ref a1)).bind fun w1 =>
    (pv w1 a0 6 5 (.int a2)).bind fun w2 =>
    (pv w2 a0 6 6 (.int a3)).bind fun w3 =>
    f_an_goThrough_18 KK a0 (0 : Int32) w3
  else none
theorem kb_an_goThrough {a0 a1 : Nat} {a2 : Int32} {a3 : Int32} {w : WW} {r : WW} (h : f_an_goThrough a0 a1 a2 a3 w = some r) : kb w a0 6 = true := (its h).1
set_option maxHeartbeats 4000000 in
set_option maxRecDepth 100000 in
theorem j_an_goThrough_18 {p : Program} {l : Launch} {e : Env} {s : State} {m : MethodId} {args : Array Value} {below : List Frame} {meth : Method} {c : Code} {D : va_G} {cA : Nat → ClassId} {base : Nat} {w' : WW} (C : cx b_an_goThrough (none) 5 y_an_goThrough.cls "goThrough" p s m args meth c D cA base)   : ∀ n : Nat, ∀ (y0 : Nat) (y4 : Int32) (w : WW), f_an_goThrough_18 n y0 y4 w = some w' → ∀ (H : Heap) (locs : List Loc) (ls : Array Slot), wo_S D cls cA base s w H locs → lv_has ls 5 [(0, .ref y0), (4, .int y4)] → W p l e rm_an_goThrough s m args below meth c H locs 0 0 (MQ below (wo_Q D cls cA base none w') args s rm_an_goThrough.cells rm_an_goThrough.slots (wo_B base)) (F0 m 18 ls []) := by
  obtain ⟨hx, hb, hr, hml, hown, hts, hlk, hnm, hK, hG⟩ := id C
  intro n
  induction n with
  | zero => intro y0 y4 w h; cases h
  | succ n ih =>
    intro y0 y4 w h H locs ls hW hl
    rw [f_an_goThrough_18] at h
    refine lv_iload hx hb d_an_goThrough_18 (lv_at hl 1 rfl) ?_
    refine lv_sipush (v := (200 : Int32)) hx hb d_an_goThrough_20 (by decide) ?_
    refine lv_icmp_ge (tgt := 40) hx hb d_an_goThrough_23 (by decide) (fun c4 => ?_) (fun c4 => ?_)
    · rw [if_pos c4] at h
      refine lv_aload_n hx hb d_an_goThrough_40 rfl (lv_at hl 0 rfl) ?_
      refine lv_iconst (v := (0 : Int32)) hx hb d_an_goThrough_41 (by decide) ?_
      replace h := bs h
      obtain ⟨w5, hw5, h⟩ := h
      refine pf_an_44 hx hb hts hown hK hG hW rfl rfl hw5 d_an_goThrough_42 (fun H locs hW => ?_)
      refine lv_aload_n hx hb d_an_goThrough_45 rfl (lv_at hl 0 rfl) ?_
      refine lv_iconst (v := (0 : Int32)) hx hb d_an_goThrough_46 (by decide) ?_
      replace h := bs h
      obtain ⟨w6, hw6, h⟩ := h
      refine pf_an_47 hx hb hts hown hK hG hW rfl rfl hw6 d_an_goThrough_47 (fun H locs hW => ?_)
      refine lv_aload_n hx hb d_an_goThrough_50 rfl (lv_at hl 0 rfl) ?_
      refine lv_iconst (v := (1 : Int32)) hx hb d_an_goThrough_51 (by decide) ?_
      replace h := its h
      obtain ⟨c8, h⟩ := h
      replace h := bs h
      obtain ⟨w7, hw7, h⟩ := h
      refine pf_an_50 hx hb hts hown hK hG hW (z_n c8) (z_f c8) hw7 d_an_goThrough_52 (fun H locs hW => ?_)
      refine lv_aload_n hx hb d_an_goThrough_55 rfl (lv_at hl 0 rfl) ?_
      replace h := bs h
      obtain ⟨x9, hx9, h⟩ := h
      refine gf_an_12 hx hb hts hown hK hG hW (gN_s hx9) d_an_goThrough_56 ?_
      replace h := bs h
      obtain ⟨w10, hw10, h⟩ := h
      refine cv_an_54 (As := []) (rest := []) hx hb hml hown hts hK hG hW (c_sa_setFirst l D cA base hw10) (kb_sa_setFirst hw10) ⟨Nat.le_of_ble_eq_true rfl, Nat.le_of_ble_eq_true rfl⟩ ⟨Nat.le_of_ble_eq_true rfl, Nat.le_of_ble_eq_true rfl⟩ rfl hl.1 rfl (Nat.le_of_ble_eq_true rfl) d_an_goThrough_59 (fun H locs hW => ?_)
      refine lv_aload_n hx hb d_an_goThrough_62 rfl (lv_at hl 0 rfl) ?_
      refine lv_aload_n hx hb d_an_goThrough_63 rfl (lv_at hl 0 rfl) ?_
      replace h := bs h
      obtain ⟨x11, hx11, h⟩ := h
      refine gf_an_33 hx hb hts hown hK hG hW (gR_s hx11) d_an_goThrough_64 ?_
      replace h := bs h
      obtain ⟨x12, ex12, h⟩ := h
      subst ex12
      replace h := bs h
      obtain ⟨x13, hx13, h⟩ := h
      refine gf_an_57 hx hb hts hown hK hG hW (gR_s hx13) d_an_goThrough_67 ?_
      refine lv_aload_n hx hb d_an_goThrough_70 rfl (lv_at hl 0 rfl) ?_
      replace h := bs h
      obtain ⟨x14, hx14, h⟩ := h
      refine gf_an_12 hx hb hts hown hK hG hW (gN_s hx14) d_an_goThrough_71 ?_
      refine lv_iconst (v := (0 : Int32)) hx hb d_an_goThrough_74 (by decide) ?_
      replace h := bs h
      obtain ⟨w15, hw15, h⟩ := h
      refine cv_an_63 (As := [va_rf x13, .ref x14, .int (0 : Int32)]) (rest := []) hx hb hml hown hts hK hG hW (c_an_goStatements l D cA base hw15) (kb_an_goStatements hw15) ⟨Nat.le_of_ble_eq_true rfl, Nat.le_of_ble_eq_true rfl⟩ ⟨Nat.le_of_ble_eq_true rfl, Nat.le_of_ble_eq_true rfl⟩ rfl hl.1 rfl (Nat.le_of_ble_eq_true rfl) d_an_goThrough_75 (fun H locs hW => ?_)
      refine lv_aload_n hx hb d_an_goThrough_78 rfl (lv_at hl 0 rfl) ?_
      refine lv_iconst (v := (1 : Int32)) hx hb d_an_goThrough_79 (by decide) ?_
      replace h := its h
      obtain ⟨c17, h⟩ := h
      replace h := bs h
      obtain ⟨w16, hw16, h⟩ := h
      refine pf_an_67 hx hb hts hown hK hG hW (z_n c17) (z_f c17) hw16 d_an_goThrough_80 (fun H locs hW => ?_)
      cases h
      exact wo_vret hx hb hr hlk hW d_an_goThrough_83
    · rw [if_neg c4] at h
      refine lv_aload_n hx hb d_an_goThrough_26 rfl (lv_at hl 0 rfl) ?_
      replace h := bs h
      obtain ⟨x18, hx18, h⟩ := h
      refine gf_an_29 hx hb hts hown hK hG hW (gN_s hx18) d_an_goThrough_27 ?_
      refine lv_iload hx hb d_an_goThrough_30 (lv_at hl 1 rfl) ?_
      refine lv_iconst (v := (0 : Int32)) hx hb d_an_goThrough_32 (by decide) ?_
      replace h := bs h
      obtain ⟨w19, hw19, h⟩ := h
      refine wo_iast hx hb hK hW (t := 0) rfl hw19 d_an_goThrough_33 (fun H locs hW => ?_)
      refine lv_iinc (v := (y4 + (1 : Int32))) (lv' := [(4, .int (y4 + (1 : Int32))), (0, .ref y0)]) hx hb d_an_goThrough_34 hl (k := 1) rfl rfl (by decide) rfl (fun ls hl => ?_)
      refine lv_goto (tgt := 18) hx hb d_an_goThrough_37 (by decide) ?_
      exact ih y0 (y4 + (1 : Int32)) w19 h _ _ _ hW (lv_sub hl [1, 0] rfl)
set_option maxHeartbeats 4000000 in
set_option maxRecDepth 100000 in
theorem c_an_goThrough (l : Launch) (D : va_G) (cA : Nat → ClassId) (base : Nat) {a0 : Nat} {a1 : Nat} {a2 : Int32} {a3 : Int32} {w w' : WW} (h : f_an_goThrough a0 a1 a2 a3 w = some w') : mt l D cls (wo_tys cA) cA base y_an_goThrough (Cond.code y_an_goThrough b_an_goThrough 5 (none) :: gt) rm_an_goThrough [.ref a0, .ref a1, .int a2, .int a3] w none w' rm_an_goThrough.cells rm_an_goThrough.slots := by
  refine mt_start (by decide) (Nat.le_of_ble_eq_true rfl) ?_
  intro p e s m below meth c ls hx hb hr hml hown hts hlk hnm hK hG hW hl
  have C : cx b_an_goThrough (none) 5 y_an_goThrough.cls "goThrough" p s m [.ref a0, .ref a1, .int a2, .int a3].toArray meth c D cA base := ⟨hx, hb, hr, hml, hown, hts, hlk, hnm, hK, hG⟩
  have hl : lv_has ls 5 [(0, .ref a0), (1, .ref a1), (2, .int a2), (3, .int a3)] := hl
  unfold f_an_goThrough at h
  replace h := its h
  obtain ⟨-, h⟩ := h
  refine lv_aload_n hx hb d_an_goThrough_0 rfl (lv_at hl 0 rfl) ?_
  refine lv_aload_n hx hb d_an_goThrough_1 rfl (lv_at hl 1 rfl) ?_
  replace h := bs h
  obtain ⟨w1, hw1, h⟩ := h
  refine pf_an_33 hx hb hts hown hK hG hW rfl rfl hw1 d_an_goThrough_2 (fun H locs hW => ?_)
  refine lv_aload_n hx hb d_an_goThrough_5 rfl (lv_at hl 0 rfl) ?_
  refine lv_iload_n hx hb d_an_goThrough_6 rfl (lv_at hl 2 rfl) ?_
  replace h := bs h
  obtain ⟨w2, hw2, h⟩ := h
  refine pf_an_37 hx hb hts hown hK hG hW rfl rfl hw2 d_an_goThrough_7 (fun H locs hW => ?_)
  refine lv_aload_n hx hb d_an_goThrough_10 rfl (lv_at hl 0 rfl) ?_
  refine lv_iload_n hx hb d_an_goThrough_11 rfl (lv_at hl 3 rfl) ?_
  replace h := bs h
  obtain ⟨w3, hw3, h⟩ := h
  refine pf_an_41 hx hb hts hown hK hG hW rfl rfl hw3 d_an_goThrough_12 (fun H locs hW => ?_)
  refine lv_iconst (v := (0 : Int32)) hx hb d_an_goThrough_15 (by decide) ?_
  refine lv_istore (lv' := [(4, .int (0 : Int32)), (0, .ref a0), (1, .ref a1), (2, .int a2), (3, .int a3)]) hx hb d_an_goThrough_16 hl (by decide) rfl (fun ls hl => ?_)
  exact j_an_goThrough_18 C KK a0 (0 : Int32) w3 h _ _ _ hW (lv_sub hl [1, 0] rfl)
theorem cv_a_122 {p : Program} {l : Launch} {e : Env} {R : Room} {s : State} {m : MethodId} {args : Array Value} {below : List Frame} {meth : Method} {c : Code} {H : Heap} {locs : List Loc} {cells slots : Nat} {Q : State → Prop} {D : va_G} {cA : Nat → ClassId} {base : Nat} {w w' : WW} {cc : ByteArray} {pc nL : Nat} {ls : Array Slot} {rest st0 As : List Value} {ov : Option Value} {b : Nat} (hx : p.tables.exec = Jvm.exec) (hb : c.code = cc) (hml : c.maxLocals = nL) (hown : s.vm.findClass Rc_a = some m.cls) (hts : ∀ w ∈ gt, w.before args s = true) (hK : va_K D cls (wo_tys cA) s) (hG : wo_G base s) (hW : wo_S D cls cA base s w H locs) (hM : mt l D cls (wo_tys cA) cA base y_an_goThrough (Cond.code y_an_goThrough b_an_goThrough 5 (none) :: gt) rm_an_goThrough (.ref b :: As) w ov w' rm_an_goThrough.cells rm_an_goThrough.slots) (hkb : kb w b 6 = true) (hR : rm_an_goThrough.frames + 1 ≤ R.frames ∧ 8 + (5 + 11) + rm_an_goThrough.locals ≤ R.locals) (hf : cells + rm_an_goThrough.cells ≤ R.cells ∧ slots + rm_an_goThrough.slots ≤ R.slots) (hn : As.length = 3) (hsz : ls.size = nL) (hst : st0 = As.reverse ++ .ref b :: rest) (hcat : (rest.map fun v => v.category).sum ≤ 8) (hdg : decode cc pc = .ok (.invokevirtual 122, 3)) (kk : ∀ (H1 : Heap) (locs1 : List Loc), wo_S D cls cA base s w' H1 locs1 → W p l e R s m args below meth c H1 locs1 (cells + rm_an_goThrough.cells) (slots + rm_an_goThrough.slots) Q (F0 m (pc + 3) ls (ov.toList ++ rest))) : W p l e R s m args below meth c H locs cells slots Q (F0 m pc ls st0) :=
  wo_callV (C := Rc_an) hx hb hml hown hts hK hG hW hM hkb rfl (gt_of (i := 889) (by decide +kernel) (by decide +kernel)) (gt_of (i := 890) (by decide +kernel) (by decide +kernel)) (gt_of (i := 891) (by decide +kernel) (by decide +kernel)) (gt_of (i := 7) (by decide +kernel) (by decide +kernel)) (gt_of (i := 892) (by decide +kernel) (by decide +kernel)) (by decide +kernel) hR hf hn hsz hst hcat hdg kk
abbrev b_a_analyse : ByteArray := prog_1_method_13_code
def y_a_analyse : MethodName := ⟨"AlarmForge", "analyse", "()I"⟩
def rm_a_analyse : Room := { frames := 6, cells := 0, slots := 0, locals := 100 }
def rx_a_analyse : Room := { frames := 6, cells := 1, slots := 6, locals := 100 }
theorem d_a_analyse_0 : decode b_a_analyse 0 = .ok (.aload_n 0, 1) := by decide +kernel
theorem d_a_analyse_1 : decode b_a_analyse 1 = .ok (.getfield 81, 3) := by decide +kernel
theorem d_a_analyse_4 : decode b_a_analyse 4 = .ok (.ifCond .ne (11), 3) := by decide +kernel
theorem d_a_analyse_7 : decode b_a_analyse 7 = .ok (.new 70, 3) := by decide +kernel
theorem d_a_analyse_10 : decode b_a_analyse 10 = .ok (.dup, 1) := by decide +kernel
theorem d_a_analyse_11 : decode b_a_analyse 11 = .ok (.invokespecial 72, 3) := by decide +kernel
theorem d_a_analyse_14 : decode b_a_analyse 14 = .ok (.athrow, 1) := by decide +kernel
theorem d_a_analyse_15 : decode b_a_analyse 15 = .ok (.aload_n 0, 1) := by decide +kernel
theorem d_a_analyse_16 : decode b_a_analyse 16 = .ok (.getfield 50, 3) := by decide +kernel
theorem d_a_analyse_19 : decode b_a_analyse 19 = .ok (.aload_n 0, 1) := by decide +kernel
theorem d_a_analyse_20 : decode b_a_analyse 20 = .ok (.getfield 33, 3) := by decide +kernel
theorem d_a_analyse_23 : decode b_a_analyse 23 = .ok (.aload_n 0, 1) := by decide +kernel
theorem d_a_analyse_24 : decode b_a_analyse 24 = .ok (.getfield 11, 3) := by decide +kernel
theorem d_a_analyse_27 : decode b_a_analyse 27 = .ok (.aload_n 0, 1) := by decide +kernel
theorem d_a_analyse_28 : decode b_a_analyse 28 = .ok (.getfield 15, 3) := by decide +kernel
theorem d_a_analyse_31 : decode b_a_analyse 31 = .ok (.invokevirtual 122, 3) := by decide +kernel
theorem d_a_analyse_34 : decode b_a_analyse 34 = .ok (.aload_n 0, 1) := by decide +kernel
theorem d_a_analyse_35 : decode b_a_analyse 35 = .ok (.getfield 50, 3) := by decide +kernel
theorem d_a_analyse_38 : decode b_a_analyse 38 = .ok (.getfield 126, 3) := by decide +kernel
theorem d_a_analyse_41 : decode b_a_analyse 41 = .ok (.ireturn, 1) := by decide +kernel
def f_a_analyse (a0 : Nat) (w : WW) : Option ((Int32 ⊕ String) × WW) :=
  if kb w a0 0 = true then
    (gI w a0 0 6).bind fun x1 =>
    if x1 = 0 then
      some (.inr "java/lang/IllegalStateException", w)
    else
      (gN w a0 0 8).bind fun x3 =>
      (gN w a0 0 4).bind fun x4 =>
      (gI w a0 0 0).bind fun x5 =>
      (gI w a0 0 1).bind fun x6 =>
      (f_an_goThrough x3 x4 x5 x6 w).bind fun w7 =>
      (gN w7 a0 0 8).bind fun x8 =>
      (gI w7 x8 6 10).bind fun x9 =>
      some (.inl x9, w7)
  else none
theorem kb_a_analyse {a0 : Nat}  {w : WW} {r : ((Int32 ⊕ String) × WW)} (h : f_a_analyse a0 w = some r) : kb w a0 0 = true := (its h).1
set_option maxHeartbeats 4000000 in
set_option maxRecDepth 100000 in
theorem c_a_analyse (l : Launch) (D : va_G) (cA : Nat → ClassId) (base : Nat) {a0 : Nat} {w w' : WW} {r : Int32} (h : f_a_analyse a0 w = some (.inl r, w')) : mt l D cls (wo_tys cA) cA base y_a_analyse (Cond.code y_a_analyse b_a_analyse 1 (some .int) :: gt) rm_a_analyse [.ref a0] w (some (.int r)) w' rm_a_analyse.cells rm_a_analyse.slots := by
  refine mt_start (by decide) (Nat.le_of_ble_eq_true rfl) ?_
  intro p e s m below meth c ls hx hb hr hml hown hts hlk hnm hK hG hW hl
  have C : cx b_a_analyse (some .int) 1 y_a_analyse.cls "analyse" p s m [.ref a0].toArray meth c D cA base := ⟨hx, hb, hr, hml, hown, hts, hlk, hnm, hK, hG⟩
  have hl : lv_has ls 1 [(0, .ref a0)] := hl
  unfold f_a_analyse at h
  replace h := its h
  obtain ⟨-, h⟩ := h
  refine lv_aload_n hx hb d_a_analyse_0 rfl (lv_at hl 0 rfl) ?_
  replace h := bs h
  obtain ⟨x1, hx1, h⟩ := h
  refine gf_a_81 hx hb hts hown hK hG hW (gI_s hx1) d_a_analyse_1 ?_
  refine lv_if_ne (tgt := 15) hx hb d_a_analyse_4 (by decide) (fun c2 => ?_) (fun c2 => ?_)
  · rw [if_neg c2] at h
    refine lv_aload_n hx hb d_a_analyse_15 rfl (lv_at hl 0 rfl) ?_
    replace h := bs h
    obtain ⟨x3, hx3, h⟩ := h
    refine gf_a_50 hx hb hts hown hK hG hW (gN_s hx3) d_a_analyse_16 ?_
    refine lv_aload_n hx hb d_a_analyse_19 rfl (lv_at hl 0 rfl) ?_
    replace h := bs h
    obtain ⟨x4, hx4, h⟩ := h
    refine gf_a_33 hx hb hts hown hK hG hW (gN_s hx4) d_a_analyse_20 ?_
    refine lv_aload_n hx hb d_a_analyse_23 rfl (lv_at hl 0 rfl) ?_
    replace h := bs h
    obtain ⟨x5, hx5, h⟩ := h
    refine gf_a_11 hx hb hts hown hK hG hW (gI_s hx5) d_a_analyse_24 ?_
    refine lv_aload_n hx hb d_a_analyse_27 rfl (lv_at hl 0 rfl) ?_
    replace h := bs h
    obtain ⟨x6, hx6, h⟩ := h
    refine gf_a_15 hx hb hts hown hK hG hW (gI_s hx6) d_a_analyse_28 ?_
    replace h := bs h
    obtain ⟨w7, hw7, h⟩ := h
    refine cv_a_122 (As := [.ref x4, .int x5, .int x6]) (rest := []) hx hb hml hown hts hK hG hW (c_an_goThrough l D cA base hw7) (kb_an_goThrough hw7) ⟨Nat.le_of_ble_eq_true rfl, Nat.le_of_ble_eq_true rfl⟩ ⟨Nat.le_of_ble_eq_true rfl, Nat.le_of_ble_eq_true rfl⟩ rfl hl.1 rfl (Nat.le_of_ble_eq_true rfl) d_a_analyse_31 (fun H locs hW => ?_)
    refine lv_aload_n hx hb d_a_analyse_34 rfl (lv_at hl 0 rfl) ?_
    replace h := bs h
    obtain ⟨x8, hx8, h⟩ := h
    refine gf_a_50 hx hb hts hown hK hG hW (gN_s hx8) d_a_analyse_35 ?_
    replace h := bs h
    obtain ⟨x9, hx9, h⟩ := h
    refine gf_a_126 hx hb hts hown hK hG hW (gI_s hx9) d_a_analyse_38 ?_
    cases h
    exact wo_iret hx hb hr hlk hW d_a_analyse_41
  · rw [if_pos c2] at h
    cases h
set_option maxHeartbeats 4000000 in
set_option maxRecDepth 100000 in
theorem x_a_analyse (l : Launch) (hst : l.stackTraces = false) (D : va_G) (cA : Nat → ClassId) (base : Nat) {a0 : Nat} {w w' : WW} {E : String} (h : f_a_analyse a0 w = some (.inr E, w')) : xt l D cls (wo_tys cA) cA base y_a_analyse (Cond.code y_a_analyse b_a_analyse 1 (some .int) :: gt) rx_a_analyse [.ref a0] w E w' rx_a_analyse.cells rx_a_analyse.slots := by
  refine xt_start (by decide) (Nat.le_of_ble_eq_true rfl) ?_
  intro p e s m below meth c ls hx hb hr hml hown hts hlk hnm hK hG hW hl hnt
  have C : cx b_a_analyse (some .int) 1 y_a_analyse.cls "analyse" p s m [.ref a0].toArray meth c D cA base ∧ (∀ x ∈ c.exceptionTable.toList, ∀ k : Nat, covers x k = false) ∧ l.stackTraces = false := ⟨⟨hx, hb, hr, hml, hown, hts, hlk, hnm, hK, hG⟩, hnt, hst⟩
  have hl : lv_has ls 1 [(0, .ref a0)] := hl
  unfold f_a_analyse at h
  replace h := its h
  obtain ⟨-, h⟩ := h
  refine lv_aload_n hx hb d_a_analyse_0 rfl (lv_at hl 0 rfl) ?_
  replace h := bs h
  obtain ⟨x1, hx1, h⟩ := h
  refine gf_a_81 hx hb hts hown hK hG hW (gI_s hx1) d_a_analyse_1 ?_
  refine lv_if_ne (tgt := 15) hx hb d_a_analyse_4 (by decide) (fun c2 => ?_) (fun c2 => ?_)
  · rw [if_neg c2] at h
    refine lv_aload_n hx hb d_a_analyse_15 rfl (lv_at hl 0 rfl) ?_
    replace h := bs h
    obtain ⟨x3, hx3, h⟩ := h
    refine gf_a_50 hx hb hts hown hK hG hW (gN_s hx3) d_a_analyse_16 ?_
    refine lv_aload_n hx hb d_a_analyse_19 rfl (lv_at hl 0 rfl) ?_
    replace h := bs h
    obtain ⟨x4, hx4, h⟩ := h
    refine gf_a_33 hx hb hts hown hK hG hW (gN_s hx4) d_a_analyse_20 ?_
    refine lv_aload_n hx hb d_a_analyse_23 rfl (lv_at hl 0 rfl) ?_
    replace h := bs h
    obtain ⟨x5, hx5, h⟩ := h
    refine gf_a_11 hx hb hts hown hK hG hW (gI_s hx5) d_a_analyse_24 ?_
    refine lv_aload_n hx hb d_a_analyse_27 rfl (lv_at hl 0 rfl) ?_
    replace h := bs h
    obtain ⟨x6, hx6, h⟩ := h
    refine gf_a_15 hx hb hts hown hK hG hW (gI_s hx6) d_a_analyse_28 ?_
    replace h := bs h
    obtain ⟨w7, hw7, h⟩ := h
    refine cv_a_122 (As := [.ref x4, .int x5, .int x6]) (rest := []) hx hb hml hown hts hK hG hW (c_an_goThrough l D cA base hw7) (kb_an_goThrough hw7) ⟨Nat.le_of_ble_eq_true rfl, Nat.le_of_ble_eq_true rfl⟩ ⟨Nat.le_of_ble_eq_true rfl, Nat.le_of_ble_eq_true rfl⟩ rfl hl.1 rfl (Nat.le_of_ble_eq_true rfl) d_a_analyse_31 (fun H locs hW => ?_)
    refine lv_aload_n hx hb d_a_analyse_34 rfl (lv_at hl 0 rfl) ?_
    replace h := bs h
    obtain ⟨x8, hx8, h⟩ := h
    refine gf_a_50 hx hb hts hown hK hG hW (gN_s hx8) d_a_analyse_35 ?_
    replace h := bs h
    obtain ⟨x9, hx9, h⟩ := h
    refine gf_a_126 hx hb hts hown hK hG hW (gI_s hx9) d_a_analyse_38 ?_
    cases h
  · rw [if_pos c2] at h
    cases h
    exact wo_throw (names := ["java/lang/RuntimeException", "java/lang/Exception"]) hx hb hst hown hts hG hW hnt hlk (by decide) (by decide) (gt_of (i := 460) (by decide +kernel) (by decide +kernel)) (gt_of (i := 15) (by decide +kernel) (by decide +kernel)) ow_a_72 (hl.1.trans hml.symm) d_a_analyse_7 d_a_analyse_10 d_a_analyse_11 d_a_analyse_14 (Nat.le_of_ble_eq_true rfl) (Nat.le_of_ble_eq_true rfl) (Nat.le_of_ble_eq_true rfl) (Nat.le_of_ble_eq_true rfl) (Nat.le_of_ble_eq_true rfl) (Nat.le_of_ble_eq_true rfl)
abbrev b_va_copy : ByteArray := prog_9_method_5_code
def y_va_copy : MethodName := ⟨"AlarmForge$Value", "copy", "(LAlarmForge$Value;)V"⟩
def rm_va_copy : Room := { frames := 0, cells := 0, slots := 0, locals := 0 }
theorem d_va_copy_0 : decode b_va_copy 0 = .ok (.aload_n 0, 1) := by decide +kernel
theorem d_va_copy_1 : decode b_va_copy 1 = .ok (.aload_n 1, 1) := by decide +kernel
theorem d_va_copy_2 : decode b_va_copy 2 = .ok (.getfield 9, 3) := by decide +kernel
theorem d_va_copy_5 : decode b_va_copy 5 = .ok (.putfield 9, 3) := by decide +kernel
theorem d_va_copy_8 : decode b_va_copy 8 = .ok (.aload_n 0, 1) := by decide +kernel
theorem d_va_copy_9 : decode b_va_copy 9 = .ok (.aload_n 1, 1) := by decide +kernel
theorem d_va_copy_10 : decode b_va_copy 10 = .ok (.getfield 15, 3) := by decide +kernel
theorem d_va_copy_13 : decode b_va_copy 13 = .ok (.putfield 15, 3) := by decide +kernel
theorem d_va_copy_16 : decode b_va_copy 16 = .ok (.aload_n 0, 1) := by decide +kernel
theorem d_va_copy_17 : decode b_va_copy 17 = .ok (.aload_n 1, 1) := by decide +kernel
theorem d_va_copy_18 : decode b_va_copy 18 = .ok (.getfield 19, 3) := by decide +kernel
theorem d_va_copy_21 : decode b_va_copy 21 = .ok (.putfield 19, 3) := by decide +kernel
theorem d_va_copy_24 : decode b_va_copy 24 = .ok (.aload_n 0, 1) := by decide +kernel
theorem d_va_copy_25 : decode b_va_copy 25 = .ok (.aload_n 1, 1) := by decide +kernel
theorem d_va_copy_26 : decode b_va_copy 26 = .ok (.getfield 22, 3) := by decide +kernel
theorem d_va_copy_29 : decode b_va_copy 29 = .ok (.putfield 22, 3) := by decide +kernel
theorem d_va_copy_32 : decode b_va_copy 32 = .ok (.aload_n 0, 1) := by decide +kernel
theorem d_va_copy_33 : decode b_va_copy 33 = .ok (.aload_n 1, 1) := by decide +kernel
theorem d_va_copy_34 : decode b_va_copy 34 = .ok (.getfield 25, 3) := by decide +kernel
theorem d_va_copy_37 : decode b_va_copy 37 = .ok (.putfield 25, 3) := by decide +kernel
theorem d_va_copy_40 : decode b_va_copy 40 = .ok (.return_, 1) := by decide +kernel
def f_va_copy (a0 : Nat) (a1 : Nat) (w : WW) : Option WW :=
  if kb w a0 8 = true then
    (gI w a1 8 0).bind fun x1 =>
    if x1 = 0 ∨ x1 = 1 then
      (pv w a0 8 0 (.int x1)).bind fun w2 =>
      (gL w2 a1 8 1).bind fun x4 =>
      (pv w2 a0 8 1 (.long x4)).bind fun w5 =>
      (gL w5 a1 8 2).bind fun x6 =>
      (pv w5 a0 8 2 (.long x6)).bind fun w7 =>
      (gL w7 a1 8 3).bind fun x8 =>
      (pv w7 a0 8 3 (.long x8)).bind fun w9 =>
      (gL w9 a1 8 4).bind fun x10 =>
      (pv w9 a0 8 4 (.long x10)).bind fun w11 =>
      some w11
    else none
  else none
theorem kb_va_copy {a0 a1 : Nat}  {w : WW} {r : WW} (h : f_va_copy a0 a1 w = some r) : kb w a0 8 = true := (its h).1
set_option maxHeartbeats 4000000 in
set_option maxRecDepth 100000 in
theorem c_va_copy (l : Launch) (D : va_G) (cA : Nat → ClassId) (base : Nat) {a0 : Nat} {a1 : Nat} {w w' : WW} (h : f_va_copy a0 a1 w = some w') : mt l D cls (wo_tys cA) cA base y_va_copy (Cond.code y_va_copy b_va_copy 2 (none) :: gt) rm_va_copy [.ref a0, .ref a1] w none w' rm_va_copy.cells rm_va_copy.slots := by
  refine mt_start (by decide) (Nat.le_of_ble_eq_true rfl) ?_
  intro p e s m below meth c ls hx hb hr hml hown hts hlk hnm hK hG hW hl
  have C : cx b_va_copy (none) 2 y_va_copy.cls "copy" p s m [.ref a0, .ref a1].toArray meth c D cA base := ⟨hx, hb, hr, hml, hown, hts, hlk, hnm, hK, hG⟩
  have hl : lv_has ls 2 [(0, .ref a0), (1, .ref a1)] := hl
  unfold f_va_copy at h
  replace h := its h
  obtain ⟨-, h⟩ := h
  refine lv_aload_n hx hb d_va_copy_0 rfl (lv_at hl 0 rfl) ?_
  refine lv_aload_n hx hb d_va_copy_1 rfl (lv_at hl 1 rfl) ?_
  replace h := bs h
  obtain ⟨x1, hx1, h⟩ := h
  refine gf_va_9 hx hb hts hown hK hG hW (gI_s hx1) d_va_copy_2 ?_
  replace h := its h
  obtain ⟨c3, h⟩ := h
  replace h := bs h
  obtain ⟨w2, hw2, h⟩ := h
  refine pf_va_9 hx hb hts hown hK hG hW (z_n c3) (z_f c3) hw2 d_va_copy_5 (fun H locs hW => ?_)
  refine lv_aload_n hx hb d_va_copy_8 rfl (lv_at hl 0 rfl) ?_
  refine lv_aload_n hx hb d_va_copy_9 rfl (lv_at hl 1 rfl) ?_
  replace h := bs h
  obtain ⟨x4, hx4, h⟩ := h
  refine gf_va_15 hx hb hts hown hK hG hW (gL_s hx4) d_va_copy_10 ?_
  replace h := bs h
  obtain ⟨w5, hw5, h⟩ := h
  refine pf_va_15 hx hb hts hown hK hG hW rfl rfl hw5 d_va_copy_13 (fun H locs hW => ?_)
  refine lv_aload_n hx hb d_va_copy_16 rfl (lv_at hl 0 rfl) ?_
  refine lv_aload_n hx hb d_va_copy_17 rfl (lv_at hl 1 rfl) ?_
  replace h := bs h
  obtain ⟨x6, hx6, h⟩ := h
  refine gf_va_19 hx hb hts hown hK hG hW (gL_s hx6) d_va_copy_18 ?_
  replace h := bs h
  obtain ⟨w7, hw7, h⟩ := h
  refine pf_va_19 hx hb hts hown hK hG hW rfl rfl hw7 d_va_copy_21 (fun H locs hW => ?_)
  refine lv_aload_n hx hb d_va_copy_24 rfl (lv_at hl 0 rfl) ?_
  refine lv_aload_n hx hb d_va_copy_25 rfl (lv_at hl 1 rfl) ?_
  replace h := bs h
  obtain ⟨x8, hx8, h⟩ := h
  refine gf_va_22 hx hb hts hown hK hG hW (gL_s hx8) d_va_copy_26 ?_
  replace h := bs h
  obtain ⟨w9, hw9, h⟩ := h
  refine pf_va_22 hx hb hts hown hK hG hW rfl rfl hw9 d_va_copy_29 (fun H locs hW => ?_)
  refine lv_aload_n hx hb d_va_copy_32 rfl (lv_at hl 0 rfl) ?_
  refine lv_aload_n hx hb d_va_copy_33 rfl (lv_at hl 1 rfl) ?_
  replace h := bs h
  obtain ⟨x10, hx10, h⟩ := h
  refine gf_va_25 hx hb hts hown hK hG hW (gL_s hx10) d_va_copy_34 ?_
  replace h := bs h
  obtain ⟨w11, hw11, h⟩ := h
  refine pf_va_25 hx hb hts hown hK hG hW rfl rfl hw11 d_va_copy_37 (fun H locs hW => ?_)
  cases h
  exact wo_vret hx hb hr hlk hW d_va_copy_40
abbrev b_an_warnIf : ByteArray := prog_2_method_3_code
def y_an_warnIf : MethodName := ⟨"AlarmForge$Analyser", "warnIf", "(ZII)V"⟩
def rm_an_warnIf : Room := { frames := 0, cells := 0, slots := 0, locals := 0 }
theorem d_an_warnIf_0 : decode b_an_warnIf 0 = .ok (.iconst 1, 1) := by decide +kernel
theorem d_an_warnIf_1 : decode b_an_warnIf 1 = .ok (.iload_n 2, 1) := by decide +kernel
theorem d_an_warnIf_2 : decode b_an_warnIf 2 = .ok (.ishl, 1) := by decide +kernel
theorem d_an_warnIf_3 : decode b_an_warnIf 3 = .ok (.istore 4, 2) := by decide +kernel
theorem d_an_warnIf_5 : decode b_an_warnIf 5 = .ok (.iload_n 1, 1) := by decide +kernel
theorem d_an_warnIf_6 : decode b_an_warnIf 6 = .ok (.ifCond .eq (43), 3) := by decide +kernel
theorem d_an_warnIf_9 : decode b_an_warnIf 9 = .ok (.aload_n 0, 1) := by decide +kernel
theorem d_an_warnIf_10 : decode b_an_warnIf 10 = .ok (.getfield 50, 3) := by decide +kernel
theorem d_an_warnIf_13 : decode b_an_warnIf 13 = .ok (.ifCond .eq (36), 3) := by decide +kernel
theorem d_an_warnIf_16 : decode b_an_warnIf 16 = .ok (.aload_n 0, 1) := by decide +kernel
theorem d_an_warnIf_17 : decode b_an_warnIf 17 = .ok (.getfield 29, 3) := by decide +kernel
theorem d_an_warnIf_20 : decode b_an_warnIf 20 = .ok (.iload_n 3, 1) := by decide +kernel
theorem d_an_warnIf_21 : decode b_an_warnIf 21 = .ok (.iaload, 1) := by decide +kernel
theorem d_an_warnIf_22 : decode b_an_warnIf 22 = .ok (.iload 4, 2) := by decide +kernel
theorem d_an_warnIf_24 : decode b_an_warnIf 24 = .ok (.iand, 1) := by decide +kernel
theorem d_an_warnIf_25 : decode b_an_warnIf 25 = .ok (.ifCond .ne (24), 3) := by decide +kernel
theorem d_an_warnIf_28 : decode b_an_warnIf 28 = .ok (.aload_n 0, 1) := by decide +kernel
theorem d_an_warnIf_29 : decode b_an_warnIf 29 = .ok (.getfield 29, 3) := by decide +kernel
theorem d_an_warnIf_32 : decode b_an_warnIf 32 = .ok (.iload_n 3, 1) := by decide +kernel
theorem d_an_warnIf_33 : decode b_an_warnIf 33 = .ok (.dup2, 1) := by decide +kernel
theorem d_an_warnIf_34 : decode b_an_warnIf 34 = .ok (.iaload, 1) := by decide +kernel
theorem d_an_warnIf_35 : decode b_an_warnIf 35 = .ok (.iload 4, 2) := by decide +kernel
theorem d_an_warnIf_37 : decode b_an_warnIf 37 = .ok (.ior, 1) := by decide +kernel
theorem d_an_warnIf_38 : decode b_an_warnIf 38 = .ok (.iastore, 1) := by decide +kernel
theorem d_an_warnIf_39 : decode b_an_warnIf 39 = .ok (.aload_n 0, 1) := by decide +kernel
theorem d_an_warnIf_40 : decode b_an_warnIf 40 = .ok (.dup, 1) := by decide +kernel
theorem d_an_warnIf_41 : decode b_an_warnIf 41 = .ok (.getfield 47, 3) := by decide +kernel
theorem d_an_warnIf_44 : decode b_an_warnIf 44 = .ok (.iconst 1, 1) := by decide +kernel
theorem d_an_warnIf_45 : decode b_an_warnIf 45 = .ok (.iadd, 1) := by decide +kernel
theorem d_an_warnIf_46 : decode b_an_warnIf 46 = .ok (.putfield 47, 3) := by decide +kernel
theorem d_an_warnIf_49 : decode b_an_warnIf 49 = .ok (.return_, 1) := by decide +kernel
def f_an_warnIf_49   (w : WW) : Option WW :=
  some w
def f_an_warnIf (a0 : Nat) (a1 : Int32) (a2 : Int32) (a3 : Int32) (w : WW) : Option WW :=
  if kb w a0 6 = true then
    if a1 = 0 then
      f_an_warnIf_49 w
    else
      (gI w a0 6 7).bind fun x2 =>
      if x2 = 0 then
        f_an_warnIf_49 w
      else
        (gN w a0 6 3).bind fun x4 =>
        (rI w x4 0 a3).bind fun x5 =>
        if (x5 &&& ((1 : Int32) <<< (a2 &&& 31))) = 0 then
          (gN w a0 6 3).bind fun x7 =>
          (rI w x7 0 a3).bind fun x8 =>
          (sI w x7 0 a3 (x8 ||| ((1 : Int32) <<< (a2 &&& 31)))).bind fun w9 =>
          (gI w9 a0 6 10).bind fun x10 =>
          (pv w9 a0 6 10 (.int (x10 + (1 : Int32)))).bind fun w11 =>
          f_an_warnIf_49 w11
        else
          f_an_warnIf_49 w
  else none
theorem kb_an_warnIf {a0 : Nat} {a1 : Int32} {a2 : Int32} {a3 : Int32} {w : WW} {r : WW} (h : f_an_warnIf a0 a1 a2 a3 w = some r) : kb w a0 6 = true := (its h).1
set_option maxHeartbeats 4000000 in
set_option maxRecDepth 100000 in
theorem j_an_warnIf_49 {p : Program} {l : Launch} {e : Env} {s : State} {m : MethodId} {args : Array Value} {below : List Frame} {meth : Method} {c : Code} {D : va_G} {cA : Nat → ClassId} {base : Nat} {w' : WW} (C : cx b_an_warnIf (none) 5 y_an_warnIf.cls "warnIf" p s m args meth c D cA base)   : ∀  (w : WW), f_an_warnIf_49  w = some w' → ∀ (H : Heap) (locs : List Loc) (ls : Array Slot), wo_S D cls cA base s w H locs → lv_has ls 5 [] → W p l e rm_an_warnIf s m args below meth c H locs 0 0 (MQ below (wo_Q D cls cA base none w') args s rm_an_warnIf.cells rm_an_warnIf.slots (wo_B base)) (F0 m 49 ls []) := by
  obtain ⟨hx, hb, hr, hml, hown, hts, hlk, hnm, hK, hG⟩ := id C
  intro  w h H locs ls hW hl
  unfold f_an_warnIf_49 at h
  cases h
  exact wo_vret hx hb hr hlk hW d_an_warnIf_49
set_option maxHeartbeats 4000000 in
set_option maxRecDepth 100000 in
theorem c_an_warnIf (l : Launch) (D : va_G) (cA : Nat → ClassId) (base : Nat) {a0 : Nat} {a1 : Int32} {a2 : Int32} {a3 : Int32} {w w' : WW} (h : f_an_warnIf a0 a1 a2 a3 w = some w') : mt l D cls (wo_tys cA) cA base y_an_warnIf (Cond.code y_an_warnIf b_an_warnIf 5 (none) :: gt) rm_an_warnIf [.ref a0, .int a1, .int a2, .int a3] w none w' rm_an_warnIf.cells rm_an_warnIf.slots := by
  refine mt_start (by decide) (Nat.le_of_ble_eq_true rfl) ?_
  intro p e s m below meth c ls hx hb hr hml hown hts hlk hnm hK hG hW hl
  have C : cx b_an_warnIf (none) 5 y_an_warnIf.cls "warnIf" p s m [.ref a0, .int a1, .int a2, .int a3].toArray meth c D cA base := ⟨hx, hb, hr, hml, hown, hts, hlk, hnm, hK, hG⟩
  have hl : lv_has ls 5 [(0, .ref a0), (1, .int a1), (2, .int a2), (3, .int a3)] := hl
  unfold f_an_warnIf at h
  replace h := its h
  obtain ⟨-, h⟩ := h
  refine lv_iconst (v := (1 : Int32)) hx hb d_an_warnIf_0 (by decide) ?_
  refine lv_iload_n hx hb d_an_warnIf_1 rfl (lv_at hl 2 rfl) ?_
  refine lv_ishl hx hb d_an_warnIf_2 ?_
  refine lv_istore (lv' := [(4, .int ((1 : Int32) <<< (a2 &&& 31))), (0, .ref a0), (1, .int a1), (2, .int a2), (3, .int a3)]) hx hb d_an_warnIf_3 hl (by decide) rfl (fun ls hl => ?_)
  refine lv_iload_n hx hb d_an_warnIf_5 rfl (lv_at hl 2 rfl) ?_
  refine lv_if_eq (tgt := 49) hx hb d_an_warnIf_6 (by decide) (fun c1 => ?_) (fun c1 => ?_)
  · rw [if_pos c1] at h
    exact j_an_warnIf_49 C w h _ _ _ hW (lv_sub hl [] rfl)
  · rw [if_neg c1] at h
    refine lv_aload_n hx hb d_an_warnIf_9 rfl (lv_at hl 1 rfl) ?_
    replace h := bs h
    obtain ⟨x2, hx2, h⟩ := h
    refine gf_an_50 hx hb hts hown hK hG hW (gI_s hx2) d_an_warnIf_10 ?_
    refine lv_if_eq (tgt := 49) hx hb d_an_warnIf_13 (by decide) (fun c3 => ?_) (fun c3 => ?_)
    · rw [if_pos c3] at h
      exact j_an_warnIf_49 C w h _ _ _ hW (lv_sub hl [] rfl)
    · rw [if_neg c3] at h
      refine lv_aload_n hx hb d_an_warnIf_16 rfl (lv_at hl 1 rfl) ?_
      replace h := bs h
      obtain ⟨x4, hx4, h⟩ := h
      refine gf_an_29 hx hb hts hown hK hG hW (gN_s hx4) d_an_warnIf_17 ?_
      refine lv_iload_n hx hb d_an_warnIf_20 rfl (lv_at hl 4 rfl) ?_
      replace h := bs h
      obtain ⟨x5, hx5, h⟩ := h
      refine wo_iald hx hb hK hW (t := 0) rfl hx5 d_an_warnIf_21 ?_
      refine lv_iload hx hb d_an_warnIf_22 (lv_at hl 0 rfl) ?_
      refine lv_iand hx hb d_an_warnIf_24 ?_
      refine lv_if_ne (tgt := 49) hx hb d_an_warnIf_25 (by decide) (fun c6 => ?_) (fun c6 => ?_)
      · rw [if_neg c6] at h
        exact j_an_warnIf_49 C w h _ _ _ hW (lv_sub hl [] rfl)
      · rw [if_pos c6] at h
        refine lv_aload_n hx hb d_an_warnIf_28 rfl (lv_at hl 1 rfl) ?_
        replace h := bs h
        obtain ⟨x7, hx7, h⟩ := h
        refine gf_an_29 hx hb hts hown hK hG hW (gN_s hx7) d_an_warnIf_29 ?_
        refine lv_iload_n hx hb d_an_warnIf_32 rfl (lv_at hl 4 rfl) ?_
        refine lv_dup2_11 hx hb d_an_warnIf_33 rfl rfl ?_
        replace h := bs h
        obtain ⟨x8, hx8, h⟩ := h
        refine wo_iald hx hb hK hW (t := 0) rfl hx8 d_an_warnIf_34 ?_
        refine lv_iload hx hb d_an_warnIf_35 (lv_at hl 0 rfl) ?_
        refine lv_ior hx hb d_an_warnIf_37 ?_
        replace h := bs h
        obtain ⟨w9, hw9, h⟩ := h
        refine wo_iast hx hb hK hW (t := 0) rfl hw9 d_an_warnIf_38 (fun H locs hW => ?_)
        refine lv_aload_n hx hb d_an_warnIf_39 rfl (lv_at hl 1 rfl) ?_
        refine lv_dup hx hb d_an_warnIf_40 rfl ?_
        replace h := bs h
        obtain ⟨x10, hx10, h⟩ := h
        refine gf_an_47 hx hb hts hown hK hG hW (gI_s hx10) d_an_warnIf_41 ?_
        refine lv_iconst (v := (1 : Int32)) hx hb d_an_warnIf_44 (by decide) ?_
        refine lv_iadd hx hb d_an_warnIf_45 ?_
        replace h := bs h
        obtain ⟨w11, hw11, h⟩ := h
        refine pf_an_47 hx hb hts hown hK hG hW rfl rfl hw11 d_an_warnIf_46 (fun H locs hW => ?_)
        exact j_an_warnIf_49 C w11 h _ _ _ hW (lv_sub hl [] rfl)
abbrev b_va_goesBeyondCells : ByteArray := prog_9_method_9_code
def y_va_goesBeyondCells : MethodName := ⟨"AlarmForge$Value", "goesBeyondCells", "()Z"⟩
def rm_va_goesBeyondCells : Room := { frames := 0, cells := 0, slots := 0, locals := 0 }
theorem d_va_goesBeyondCells_0 : decode b_va_goesBeyondCells 0 = .ok (.aload_n 0, 1) := by decide +kernel
theorem d_va_goesBeyondCells_1 : decode b_va_goesBeyondCells 1 = .ok (.getfield 15, 3) := by decide +kernel
theorem d_va_goesBeyondCells_4 : decode b_va_goesBeyondCells 4 = .ok (.lconst 0, 1) := by decide +kernel
theorem d_va_goesBeyondCells_5 : decode b_va_goesBeyondCells 5 = .ok (.lcmp, 1) := by decide +kernel
theorem d_va_goesBeyondCells_6 : decode b_va_goesBeyondCells 6 = .ok (.ifCond .lt (14), 3) := by decide +kernel
theorem d_va_goesBeyondCells_9 : decode b_va_goesBeyondCells 9 = .ok (.aload_n 0, 1) := by decide +kernel
theorem d_va_goesBeyondCells_10 : decode b_va_goesBeyondCells 10 = .ok (.getfield 19, 3) := by decide +kernel
theorem d_va_goesBeyondCells_13 : decode b_va_goesBeyondCells 13 = .ok (.ldc2_w 38, 3) := by decide +kernel
theorem d_va_goesBeyondCells_16 : decode b_va_goesBeyondCells 16 = .ok (.lcmp, 1) := by decide +kernel
theorem d_va_goesBeyondCells_17 : decode b_va_goesBeyondCells 17 = .ok (.ifCond .lt (7), 3) := by decide +kernel
theorem d_va_goesBeyondCells_20 : decode b_va_goesBeyondCells 20 = .ok (.iconst 1, 1) := by decide +kernel
theorem d_va_goesBeyondCells_21 : decode b_va_goesBeyondCells 21 = .ok (.goto (4), 3) := by decide +kernel
theorem d_va_goesBeyondCells_24 : decode b_va_goesBeyondCells 24 = .ok (.iconst 0, 1) := by decide +kernel
theorem d_va_goesBeyondCells_25 : decode b_va_goesBeyondCells 25 = .ok (.ireturn, 1) := by decide +kernel
def f_va_goesBeyondCells_25  (z0 : Int32) (w : WW) : Option (Int32 × WW) :=
  if z0 = 0 ∨ z0 = 1 then some (z0, w) else none
def f_va_goesBeyondCells_20   (w : WW) : Option (Int32 × WW) :=
  f_va_goesBeyondCells_25 (1 : Int32) w
def f_va_goesBeyondCells (a0 : Nat) (w : WW) : Option (Int32 × WW) :=
  if kb w a0 8 = true then
    (gL w a0 8 1).bind fun x1 =>
    if x1 < (0 : Int64) then
      f_va_goesBeyondCells_20 w
    else
      (gL w a0 8 2).bind fun x4 =>
      if x4 < (4 : Int64) then
        f_va_goesBeyondCells_25 (0 : Int32) w
      else
        f_va_goesBeyondCells_20 w
  else none
theorem kb_va_goesBeyondCells {a0 : Nat}  {w : WW} {r : (Int32 × WW)} (h : f_va_goesBeyondCells a0 w = some r) : kb w a0 8 = true := (its h).1
set_option maxHeartbeats 4000000 in
set_option maxRecDepth 100000 in
theorem j_va_goesBeyondCells_25 {p : Program} {l : Launch} {e : Env} {s : State} {m : MethodId} {args : Array Value} {below : List Frame} {meth : Method} {c : Code} {D : va_G} {cA : Nat → ClassId} {base : Nat} {r : Int32} {w' : WW} (C : cx b_va_goesBeyondCells (some .boolean) 1 y_va_goesBeyondCells.cls "goesBeyondCells" p s m args meth c D cA base)   : ∀ (z0 : Int32) (w : WW), f_va_goesBeyondCells_25 z0 w = some (r, w') → ∀ (H : Heap) (locs : List Loc) (ls : Array Slot), wo_S D cls cA base s w H locs → lv_has ls 1 [] → W p l e rm_va_goesBeyondCells s m args below meth c H locs 0 0 (MQ below (wo_Q D cls cA base (some (.int r)) w') args s rm_va_goesBeyondCells.cells rm_va_goesBeyondCells.slots (wo_B base)) (F0 m 25 ls [.int z0]) := by
  obtain ⟨hx, hb, hr, hml, hown, hts, hlk, hnm, hK, hG⟩ := id C
  intro z0 w h H locs ls hW hl
  unfold f_va_goesBeyondCells_25 at h
  replace h := its h
  obtain ⟨c3, h⟩ := h
  cases h
  exact wo_zret hx hb hr hlk hW c3 d_va_goesBeyondCells_25
set_option maxHeartbeats 4000000 in
set_option maxRecDepth 100000 in
theorem j_va_goesBeyondCells_20 {p : Program} {l : Launch} {e : Env} {s : State} {m : MethodId} {args : Array Value} {below : List Frame} {meth : Method} {c : Code} {D : va_G} {cA : Nat → ClassId} {base : Nat} {r : Int32} {w' : WW} (C : cx b_va_goesBeyondCells (some .boolean) 1 y_va_goesBeyondCells.cls "goesBeyondCells" p s m args meth c D cA base)   : ∀  (w : WW), f_va_goesBeyondCells_20  w = some (r, w') → ∀ (H : Heap) (locs : List Loc) (ls : Array Slot), wo_S D cls cA base s w H locs → lv_has ls 1 [] → W p l e rm_va_goesBeyondCells s m args below meth c H locs 0 0 (MQ below (wo_Q D cls cA base (some (.int r)) w') args s rm_va_goesBeyondCells.cells rm_va_goesBeyondCells.slots (wo_B base)) (F0 m 20 ls []) := by
  obtain ⟨hx, hb, hr, hml, hown, hts, hlk, hnm, hK, hG⟩ := id C
  intro  w h H locs ls hW hl
  unfold f_va_goesBeyondCells_20 at h
  refine lv_iconst (v := (1 : Int32)) hx hb d_va_goesBeyondCells_20 (by decide) ?_
  refine lv_goto (tgt := 25) hx hb d_va_goesBeyondCells_21 (by decide) ?_
  exact j_va_goesBeyondCells_25 C (1 : Int32) w h _ _ _ hW (lv_sub hl [] rfl)
set_option maxHeartbeats 4000000 in
set_option maxRecDepth 100000 in
theorem c_va_goesBeyondCells (l : Launch) (D : va_G) (cA : Nat → ClassId) (base : Nat) {a0 : Nat} {w w' : WW} {r : Int32} (h : f_va_goesBeyondCells a0 w = some (r, w')) : mt l D cls (wo_tys cA) cA base y_va_goesBeyondCells (Cond.code y_va_goesBeyondCells b_va_goesBeyondCells 1 (some .boolean) :: gt) rm_va_goesBeyondCells [.ref a0] w (some (.int r)) w' rm_va_goesBeyondCells.cells rm_va_goesBeyondCells.slots := by
  refine mt_start (by decide) (Nat.le_of_ble_eq_true rfl) ?_
  intro p e s m below meth c ls hx hb hr hml hown hts hlk hnm hK hG hW hl
  have C : cx b_va_goesBeyondCells (some .boolean) 1 y_va_goesBeyondCells.cls "goesBeyondCells" p s m [.ref a0].toArray meth c D cA base := ⟨hx, hb, hr, hml, hown, hts, hlk, hnm, hK, hG⟩
  have hl : lv_has ls 1 [(0, .ref a0)] := hl
  unfold f_va_goesBeyondCells at h
  replace h := its h
  obtain ⟨-, h⟩ := h
  refine lv_aload_n hx hb d_va_goesBeyondCells_0 rfl (lv_at hl 0 rfl) ?_
  replace h := bs h
  obtain ⟨x1, hx1, h⟩ := h
  refine gf_va_15 hx hb hts hown hK hG hW (gL_s hx1) d_va_goesBeyondCells_1 ?_
  refine lv_lconst (v := (0 : Int64)) hx hb d_va_goesBeyondCells_4 (by decide) ?_
  refine lc_lt (tgt := 20) hx hb d_va_goesBeyondCells_5 d_va_goesBeyondCells_6 (by decide) (fun c2 => ?_) (fun c2 => ?_)
  · rw [if_pos c2] at h
    exact j_va_goesBeyondCells_20 C w h _ _ _ hW (lv_sub hl [] rfl)
  · rw [if_neg c2] at h
    refine lv_aload_n hx hb d_va_goesBeyondCells_9 rfl (lv_at hl 0 rfl) ?_
    replace h := bs h
    obtain ⟨x4, hx4, h⟩ := h
    refine gf_va_19 hx hb hts hown hK hG hW (gL_s hx4) d_va_goesBeyondCells_10 ?_
    refine lv_ldc2 (own := Rc_va) (v := (4 : Int64)) hx hb hown (hts (.constantLong "AlarmForge$Value" 38 (4 : Int64)) (gt_of (i := 939) (by decide +kernel) (by decide +kernel))) d_va_goesBeyondCells_13 ?_
    refine lc_lt (tgt := 24) hx hb d_va_goesBeyondCells_16 d_va_goesBeyondCells_17 (by decide) (fun c5 => ?_) (fun c5 => ?_)
    · rw [if_pos c5] at h
      refine lv_iconst (v := (0 : Int32)) hx hb d_va_goesBeyondCells_24 (by decide) ?_
      exact j_va_goesBeyondCells_25 C (0 : Int32) w h _ _ _ hW (lv_sub hl [] rfl)
    · rw [if_neg c5] at h
      exact j_va_goesBeyondCells_20 C w h _ _ _ hW (lv_sub hl [] rfl)
abbrev b_ma_floorMod : ByteArray := prog_18_method_52_code
def y_ma_floorMod : MethodName := ⟨"java/lang/Math", "floorMod", "(JJ)J"⟩
def rm_ma_floorMod : Room := { frames := 0, cells := 0, slots := 0, locals := 0 }
theorem d_ma_floorMod_0 : decode b_ma_floorMod 0 = .ok (.lload_n 0, 1) := by decide +kernel
theorem d_ma_floorMod_1 : decode b_ma_floorMod 1 = .ok (.lload_n 2, 1) := by decide +kernel
theorem d_ma_floorMod_2 : decode b_ma_floorMod 2 = .ok (.lrem, 1) := by decide +kernel
theorem d_ma_floorMod_3 : decode b_ma_floorMod 3 = .ok (.lstore 4, 2) := by decide +kernel
theorem d_ma_floorMod_5 : decode b_ma_floorMod 5 = .ok (.lload_n 0, 1) := by decide +kernel
theorem d_ma_floorMod_6 : decode b_ma_floorMod 6 = .ok (.lload_n 2, 1) := by decide +kernel
theorem d_ma_floorMod_7 : decode b_ma_floorMod 7 = .ok (.lxor, 1) := by decide +kernel
theorem d_ma_floorMod_8 : decode b_ma_floorMod 8 = .ok (.lconst 0, 1) := by decide +kernel
theorem d_ma_floorMod_9 : decode b_ma_floorMod 9 = .ok (.lcmp, 1) := by decide +kernel
theorem d_ma_floorMod_10 : decode b_ma_floorMod 10 = .ok (.ifCond .ge (15), 3) := by decide +kernel
theorem d_ma_floorMod_13 : decode b_ma_floorMod 13 = .ok (.lload 4, 2) := by decide +kernel
theorem d_ma_floorMod_15 : decode b_ma_floorMod 15 = .ok (.lconst 0, 1) := by decide +kernel
theorem d_ma_floorMod_16 : decode b_ma_floorMod 16 = .ok (.lcmp, 1) := by decide +kernel
theorem d_ma_floorMod_17 : decode b_ma_floorMod 17 = .ok (.ifCond .eq (8), 3) := by decide +kernel
theorem d_ma_floorMod_20 : decode b_ma_floorMod 20 = .ok (.lload 4, 2) := by decide +kernel
theorem d_ma_floorMod_22 : decode b_ma_floorMod 22 = .ok (.lload_n 2, 1) := by decide +kernel
theorem d_ma_floorMod_23 : decode b_ma_floorMod 23 = .ok (.ladd, 1) := by decide +kernel
theorem d_ma_floorMod_24 : decode b_ma_floorMod 24 = .ok (.lreturn, 1) := by decide +kernel
theorem d_ma_floorMod_25 : decode b_ma_floorMod 25 = .ok (.lload 4, 2) := by decide +kernel
theorem d_ma_floorMod_27 : decode b_ma_floorMod 27 = .ok (.lreturn, 1) := by decide +kernel
def f_ma_floorMod_25  (y4 : Int64) (w : WW) : Option (Int64 × WW) :=
  some (y4, w)
def f_ma_floorMod (a0 : Int64) (a2 : Int64) (w : WW) : Option (Int64 × WW) :=
  if ¬ a2 = 0 then
    if (0 : Int64) ≤ (a0 ^^^ a2) then
      f_ma_floorMod_25 (a0 - a0 / a2 * a2) w
    else
      if (a0 - a0 / a2 * a2) = (0 : Int64) then
        f_ma_floorMod_25 (a0 - a0 / a2 * a2) w
      else
        some (((a0 - a0 / a2 * a2) + a2), w)
  else none
set_option maxHeartbeats 4000000 in
set_option maxRecDepth 100000 in
theorem j_ma_floorMod_25 {p : Program} {l : Launch} {e : Env} {s : State} {m : MethodId} {args : Array Value} {below : List Frame} {meth : Method} {c : Code} {D : va_G} {cA : Nat → ClassId} {base : Nat} {r : Int64} {w' : WW} (C : cx b_ma_floorMod (some .long) 6 y_ma_floorMod.cls "floorMod" p s m args meth c D cA base)   : ∀ (y4 : Int64) (w : WW), f_ma_floorMod_25 y4 w = some (r, w') → ∀ (H : Heap) (locs : List Loc) (ls : Array Slot), wo_S D cls cA base s w H locs → lv_has ls 6 [(4, .long y4)] → W p l e rm_ma_floorMod s m args below meth c H locs 0 0 (MQ below (wo_Q D cls cA base (some (.long r)) w') args s rm_ma_floorMod.cells rm_ma_floorMod.slots (wo_B base)) (F0 m 25 ls []) := by
  obtain ⟨hx, hb, hr, hml, hown, hts, hlk, hnm, hK, hG⟩ := id C
  intro y4 w h H locs ls hW hl
  unfold f_ma_floorMod_25 at h
  refine lv_lload hx hb d_ma_floorMod_25 (lv_at hl 0 rfl) ?_
  cases h
  exact wo_lret hx hb hr hlk hW d_ma_floorMod_27
set_option maxHeartbeats 4000000 in
set_option maxRecDepth 100000 in
theorem c_ma_floorMod (l : Launch) (D : va_G) (cA : Nat → ClassId) (base : Nat) {a0 : Int64} {a2 : Int64} {w w' : WW} {r : Int64} (h : f_ma_floorMod a0 a2 w = some (r, w')) : mt l D cls (wo_tys cA) cA base y_ma_floorMod (Cond.code y_ma_floorMod b_ma_floorMod 6 (some .long) :: gt) rm_ma_floorMod [.long a0, .long a2] w (some (.long r)) w' rm_ma_floorMod.cells rm_ma_floorMod.slots := by
  refine mt_startF (by decide +kernel) (Nat.le_of_ble_eq_true rfl) ?_
  intro p e s m below meth c ls hx hb hr hml hown hts hlk hnm hK hG hW hl
  have C : cx b_ma_floorMod (some .long) 6 y_ma_floorMod.cls "floorMod" p s m [.long a0, .long a2].toArray meth c D cA base := ⟨hx, hb, hr, hml, hown, hts, hlk, hnm, hK, hG⟩
  have hl : lv_has ls 6 [(0, .long a0), (2, .long a2)] := hl
  unfold f_ma_floorMod at h
  refine lv_lload_n hx hb d_ma_floorMod_0 rfl (lv_at hl 0 rfl) ?_
  refine lv_lload_n hx hb d_ma_floorMod_1 rfl (lv_at hl 1 rfl) ?_
  replace h := its h
  obtain ⟨c1, h⟩ := h
  refine lv_lrem hx hb d_ma_floorMod_2 c1 ?_
  refine lv_lstore (lv' := [(4, .long (a0 - a0 / a2 * a2)), (0, .long a0), (2, .long a2)]) hx hb d_ma_floorMod_3 hl (by decide) rfl (fun ls hl => ?_)
  refine lv_lload_n hx hb d_ma_floorMod_5 rfl (lv_at hl 1 rfl) ?_
  refine lv_lload_n hx hb d_ma_floorMod_6 rfl (lv_at hl 2 rfl) ?_
  refine lv_lxor hx hb d_ma_floorMod_7 ?_
  refine lv_lconst (v := (0 : Int64)) hx hb d_ma_floorMod_8 (by decide) ?_
  refine lc_ge (tgt := 25) hx hb d_ma_floorMod_9 d_ma_floorMod_10 (by decide) (fun c2 => ?_) (fun c2 => ?_)
  · rw [if_pos c2] at h
    exact j_ma_floorMod_25 C (a0 - a0 / a2 * a2) w h _ _ _ hW (lv_sub hl [0] rfl)
  · rw [if_neg c2] at h
    refine lv_lload hx hb d_ma_floorMod_13 (lv_at hl 0 rfl) ?_
    refine lv_lconst (v := (0 : Int64)) hx hb d_ma_floorMod_15 (by decide) ?_
    refine lc_eq (tgt := 25) hx hb d_ma_floorMod_16 d_ma_floorMod_17 (by decide) (fun c3 => ?_) (fun c3 => ?_)
    · rw [if_pos c3] at h
      exact j_ma_floorMod_25 C (a0 - a0 / a2 * a2) w h _ _ _ hW (lv_sub hl [0] rfl)
    · rw [if_neg c3] at h
      refine lv_lload hx hb d_ma_floorMod_20 (lv_at hl 0 rfl) ?_
      refine lv_lload_n hx hb d_ma_floorMod_22 rfl (lv_at hl 2 rfl) ?_
      refine lv_ladd hx hb d_ma_floorMod_23 ?_
      cases h
      exact wo_lret hx hb hr hlk hW d_ma_floorMod_24
theorem cs_va_32 {p : Program} {l : Launch} {e : Env} {R : Room} {s : State} {m : MethodId} {args : Array Value} {below : List Frame} {meth : Method} {c : Code} {H : Heap} {locs : List Loc} {cells slots : Nat} {Q : State → Prop} {D : va_G} {cA : Nat → ClassId} {base : Nat} {w w' : WW} {cc : ByteArray} {pc nL : Nat} {ls : Array Slot} {rest st0 As : List Value} {ov : Option Value} (hx : p.tables.exec = Jvm.exec) (hb : c.code = cc) (hml : c.maxLocals = nL) (hown : s.vm.findClass Rc_va = some m.cls) (hts : ∀ w ∈ gt, w.before args s = true) (hK : va_K D cls (wo_tys cA) s) (hG : wo_G base s) (hW : wo_S D cls cA base s w H locs) (hM : mt l D cls (wo_tys cA) cA base y_ma_floorMod (Cond.code y_ma_floorMod b_ma_floorMod 6 (some .long) :: gt) rm_ma_floorMod (As) w ov w' rm_ma_floorMod.cells rm_ma_floorMod.slots) (hR : rm_ma_floorMod.frames + 1 ≤ R.frames ∧ 8 + (6 + 11) + rm_ma_floorMod.locals ≤ R.locals) (hf : cells + rm_ma_floorMod.cells ≤ R.cells ∧ slots + rm_ma_floorMod.slots ≤ R.slots) (hn : As.length = 2) (hsz : ls.size = nL) (hst : st0 = As.reverse ++ rest) (hcat : (rest.map fun v => v.category).sum ≤ 8) (hdg : decode cc pc = .ok (.invokestatic 32, 3)) (kk : ∀ (H1 : Heap) (locs1 : List Loc), wo_S D cls cA base s w' H1 locs1 → W p l e R s m args below meth c H1 locs1 (cells + rm_ma_floorMod.cells) (slots + rm_ma_floorMod.slots) Q (F0 m (pc + 3) ls (ov.toList ++ rest))) : W p l e R s m args below meth c H locs cells slots Q (F0 m pc ls st0) :=
  wo_callS hx hb hml hown hts hK hG hW hM (gt_of (i := 945) (by decide +kernel) (by decide +kernel)) (gt_of (i := 946) (by decide +kernel) (by decide +kernel)) (gt_of (i := 20) (by decide +kernel) (by decide +kernel)) (gt_of (i := 947) (by decide +kernel) (by decide +kernel)) (by decide +kernel) hR hf hn hsz hst hcat hdg kk
abbrev b_va_has : ByteArray := prog_9_method_8_code
def y_va_has : MethodName := ⟨"AlarmForge$Value", "has", "(J)Z"⟩
def rm_va_has : Room := { frames := 1, cells := 0, slots := 0, locals := 25 }
theorem d_va_has_0 : decode b_va_has 0 = .ok (.aload_n 0, 1) := by decide +kernel
theorem d_va_has_1 : decode b_va_has 1 = .ok (.getfield 9, 3) := by decide +kernel
theorem d_va_has_4 : decode b_va_has 4 = .ok (.ifCond .ne (52), 3) := by decide +kernel
theorem d_va_has_7 : decode b_va_has 7 = .ok (.lload_n 1, 1) := by decide +kernel
theorem d_va_has_8 : decode b_va_has 8 = .ok (.aload_n 0, 1) := by decide +kernel
theorem d_va_has_9 : decode b_va_has 9 = .ok (.getfield 15, 3) := by decide +kernel
theorem d_va_has_12 : decode b_va_has 12 = .ok (.lcmp, 1) := by decide +kernel
theorem d_va_has_13 : decode b_va_has 13 = .ok (.ifCond .lt (43), 3) := by decide +kernel
theorem d_va_has_16 : decode b_va_has 16 = .ok (.lload_n 1, 1) := by decide +kernel
theorem d_va_has_17 : decode b_va_has 17 = .ok (.aload_n 0, 1) := by decide +kernel
theorem d_va_has_18 : decode b_va_has 18 = .ok (.getfield 19, 3) := by decide +kernel
theorem d_va_has_21 : decode b_va_has 21 = .ok (.lcmp, 1) := by decide +kernel
theorem d_va_has_22 : decode b_va_has 22 = .ok (.ifCond .gt (34), 3) := by decide +kernel
theorem d_va_has_25 : decode b_va_has 25 = .ok (.aload_n 0, 1) := by decide +kernel
theorem d_va_has_26 : decode b_va_has 26 = .ok (.getfield 22, 3) := by decide +kernel
theorem d_va_has_29 : decode b_va_has 29 = .ok (.lconst 0, 1) := by decide +kernel
theorem d_va_has_30 : decode b_va_has 30 = .ok (.lcmp, 1) := by decide +kernel
theorem d_va_has_31 : decode b_va_has 31 = .ok (.ifCond .eq (21), 3) := by decide +kernel
theorem d_va_has_34 : decode b_va_has 34 = .ok (.lload_n 1, 1) := by decide +kernel
theorem d_va_has_35 : decode b_va_has 35 = .ok (.aload_n 0, 1) := by decide +kernel
theorem d_va_has_36 : decode b_va_has 36 = .ok (.getfield 25, 3) := by decide +kernel
theorem d_va_has_39 : decode b_va_has 39 = .ok (.lsub, 1) := by decide +kernel
theorem d_va_has_40 : decode b_va_has 40 = .ok (.aload_n 0, 1) := by decide +kernel
theorem d_va_has_41 : decode b_va_has 41 = .ok (.getfield 22, 3) := by decide +kernel
theorem d_va_has_44 : decode b_va_has 44 = .ok (.invokestatic 32, 3) := by decide +kernel
theorem d_va_has_47 : decode b_va_has 47 = .ok (.lconst 0, 1) := by decide +kernel
theorem d_va_has_48 : decode b_va_has 48 = .ok (.lcmp, 1) := by decide +kernel
theorem d_va_has_49 : decode b_va_has 49 = .ok (.ifCond .ne (7), 3) := by decide +kernel
theorem d_va_has_52 : decode b_va_has 52 = .ok (.iconst 1, 1) := by decide +kernel
theorem d_va_has_53 : decode b_va_has 53 = .ok (.goto (4), 3) := by decide +kernel
theorem d_va_has_56 : decode b_va_has 56 = .ok (.iconst 0, 1) := by decide +kernel
theorem d_va_has_57 : decode b_va_has 57 = .ok (.ireturn, 1) := by decide +kernel
def f_va_has_57  (z0 : Int32) (w : WW) : Option (Int32 × WW) :=
  if z0 = 0 ∨ z0 = 1 then some (z0, w) else none
def f_va_has_56   (w : WW) : Option (Int32 × WW) :=
  f_va_has_57 (0 : Int32) w
def f_va_has_52   (w : WW) : Option (Int32 × WW) :=
  f_va_has_57 (1 : Int32) w
def f_va_has (a0 : Nat) (a1 : Int64) (w : WW) : Option (Int32 × WW) :=
  if kb w a0 8 = true then
    (gI w a0 8 0).bind fun x1 =>
    if x1 = 0 then
      (gL w a0 8 1).bind fun x4 =>
      if a1 < x4 then
        f_va_has_56 w
      else
        (gL w a0 8 2).bind fun x6 =>
        if x6 < a1 then
          f_va_has_56 w
        else
          (gL w a0 8 3).bind fun x8 =>
          if x8 = (0 : Int64) then
            f_va_has_52 w
          else
            (gL w a0 8 4).bind fun x10 =>
            (gL w a0 8 3).bind fun x11 =>
            bd2 (f_ma_floorMod (a1 - x10) x11 w) fun x13 w12 =>
            if x13 = (0 : Int64) then
              f_va_has_52 w12
            else
              f_va_has_56 w12
    else
      f_va_has_56 w
  else none
theorem kb_va_has {a0 : Nat} {a1 : Int64} {w : WW} {r : (Int32 × WW)} (h : f_va_has a0 a1 w = some r) : kb w a0 8 = true := (its h).1
set_option maxHeartbeats 4000000 in
set_option maxRecDepth 100000 in
theorem j_va_has_57 {p : Program} {l : Launch} {e : Env} {s : State} {m : MethodId} {args : Array Value} {below : List Frame} {meth : Method} {c : Code} {D : va_G} {cA : Nat → ClassId} {base : Nat} {r : Int32} {w' : WW} (C : cx b_va_has (some .boolean) 3 y_va_has.cls "has" p s m args meth c D cA base)   : ∀ (z0 : Int32) (w : WW), f_va_has_57 z0 w = some (r, w') → ∀ (H : Heap) (locs : List Loc) (ls : Array Slot), wo_S D cls cA base s w H locs → lv_has ls 3 [] → W p l e rm_va_has s m args below meth c H locs 0 0 (MQ below (wo_Q D cls cA base (some (.int r)) w') args s rm_va_has.cells rm_va_has.slots (wo_B base)) (F0 m 57 ls [.int z0]) := by
  obtain ⟨hx, hb, hr, hml, hown, hts, hlk, hnm, hK, hG⟩ := id C
  intro z0 w h H locs ls hW hl
  unfold f_va_has_57 at h
  replace h := its h
  obtain ⟨c3, h⟩ := h
  cases h
  exact wo_zret hx hb hr hlk hW c3 d_va_has_57
set_option maxHeartbeats 4000000 in
set_option maxRecDepth 100000 in
theorem j_va_has_56 {p : Program} {l : Launch} {e : Env} {s : State} {m : MethodId} {args : Array Value} {below : List Frame} {meth : Method} {c : Code} {D : va_G} {cA : Nat → ClassId} {base : Nat} {r : Int32} {w' : WW} (C : cx b_va_has (some .boolean) 3 y_va_has.cls "has" p s m args meth c D cA base)   : ∀  (w : WW), f_va_has_56  w = some (r, w') → ∀ (H : Heap) (locs : List Loc) (ls : Array Slot), wo_S D cls cA base s w H locs → lv_has ls 3 [] → W p l e rm_va_has s m args below meth c H locs 0 0 (MQ below (wo_Q D cls cA base (some (.int r)) w') args s rm_va_has.cells rm_va_has.slots (wo_B base)) (F0 m 56 ls []) := by
  obtain ⟨hx, hb, hr, hml, hown, hts, hlk, hnm, hK, hG⟩ := id C
  intro  w h H locs ls hW hl
  unfold f_va_has_56 at h
  refine lv_iconst (v := (0 : Int32)) hx hb d_va_has_56 (by decide) ?_
  exact j_va_has_57 C (0 : Int32) w h _ _ _ hW (lv_sub hl [] rfl)
set_option maxHeartbeats 4000000 in
set_option maxRecDepth 100000 in
theorem j_va_has_52 {p : Program} {l : Launch} {e : Env} {s : State} {m : MethodId} {args : Array Value} {below : List Frame} {meth : Method} {c : Code} {D : va_G} {cA : Nat → ClassId} {base : Nat} {r : Int32} {w' : WW} (C : cx b_va_has (some .boolean) 3 y_va_has.cls "has" p s m args meth c D cA base)   : ∀  (w : WW), f_va_has_52  w = some (r, w') → ∀ (H : Heap) (locs : List Loc) (ls : Array Slot), wo_S D cls cA base s w H locs → lv_has ls 3 [] → W p l e rm_va_has s m args below meth c H locs 0 0 (MQ below (wo_Q D cls cA base (some (.int r)) w') args s rm_va_has.cells rm_va_has.slots (wo_B base)) (F0 m 52 ls []) := by
  obtain ⟨hx, hb, hr, hml, hown, hts, hlk, hnm, hK, hG⟩ := id C
  intro  w h H locs ls hW hl
  unfold f_va_has_52 at h
  refine lv_iconst (v := (1 : Int32)) hx hb d_va_has_52 (by decide) ?_
  refine lv_goto (tgt := 57) hx hb d_va_has_53 (by decide) ?_
  exact j_va_has_57 C (1 : Int32) w h _ _ _ hW (lv_sub hl [] rfl)
set_option maxHeartbeats 4000000 in
set_option maxRecDepth 100000 in
theorem c_va_has (l : Launch) (D : va_G) (cA : Nat → ClassId) (base : Nat) {a0 : Nat} {a1 : Int64} {w w' : WW} {r : Int32} (h : f_va_has a0 a1 w = some (r, w')) : mt l D cls (wo_tys cA) cA base y_va_has (Cond.code y_va_has b_va_has 3 (some .boolean) :: gt) rm_va_has [.ref a0, .long a1] w (some (.int r)) w' rm_va_has.cells rm_va_has.slots := by
  refine mt_start (by decide) (Nat.le_of_ble_eq_true rfl) ?_
  intro p e s m below meth c ls hx hb hr hml hown hts hlk hnm hK hG hW hl
  have C : cx b_va_has (some .boolean) 3 y_va_has.cls "has" p s m [.ref a0, .long a1].toArray meth c D cA base := ⟨hx, hb, hr, hml, hown, hts, hlk, hnm, hK, hG⟩
  have hl : lv_has ls 3 [(0, .ref a0), (1, .long a1)] := hl
  unfold f_va_has at h
  replace h := its h
  obtain ⟨-, h⟩ := h
  refine lv_aload_n hx hb d_va_has_0 rfl (lv_at hl 0 rfl) ?_
  replace h := bs h
  obtain ⟨x1, hx1, h⟩ := h
  refine gf_va_9 hx hb hts hown hK hG hW (gI_s hx1) d_va_has_1 ?_
  refine lv_if_ne (tgt := 56) hx hb d_va_has_4 (by decide) (fun c2 => ?_) (fun c2 => ?_)
  · rw [if_neg c2] at h
    exact j_va_has_56 C w h _ _ _ hW (lv_sub hl [] rfl)
  · rw [if_pos c2] at h
    refine lv_lload_n hx hb d_va_has_7 rfl (lv_at hl 1 rfl) ?_
    refine lv_aload_n hx hb d_va_has_8 rfl (lv_at hl 0 rfl) ?_
    replace h := bs h
    obtain ⟨x4, hx4, h⟩ := h
    refine gf_va_15 hx hb hts hown hK hG hW (gL_s hx4) d_va_has_9 ?_
    refine lc_lt (tgt := 56) hx hb d_va_has_12 d_va_has_13 (by decide) (fun c5 => ?_) (fun c5 => ?_)
    · rw [if_pos c5] at h
      exact j_va_has_56 C w h _ _ _ hW (lv_sub hl [] rfl)
    · rw [if_neg c5] at h
      refine lv_lload_n hx hb d_va_has_16 rfl (lv_at hl 1 rfl) ?_
      refine lv_aload_n hx hb d_va_has_17 rfl (lv_at hl 0 rfl) ?_
      replace h := bs h
      obtain ⟨x6, hx6, h⟩ := h
      refine gf_va_19 hx hb hts hown hK hG hW (gL_s hx6) d_va_has_18 ?_
      refine lc_gt (tgt := 56) hx hb d_va_has_21 d_va_has_22 (by decide) (fun c7 => ?_) (fun c7 => ?_)
      · rw [if_pos c7] at h
        exact j_va_has_56 C w h _ _ _ hW (lv_sub hl [] rfl)
      · rw [if_neg c7] at h
        refine lv_aload_n hx hb d_va_has_25 rfl (lv_at hl 0 rfl) ?_
        replace h := bs h
        obtain ⟨x8, hx8, h⟩ := h
        refine gf_va_22 hx hb hts hown hK hG hW (gL_s hx8) d_va_has_26 ?_
        refine lv_lconst (v := (0 : Int64)) hx hb d_va_has_29 (by decide) ?_
        refine lc_eq (tgt := 52) hx hb d_va_has_30 d_va_has_31 (by decide) (fun c9 => ?_) (fun c9 => ?_)
        · rw [if_pos c9] at h
          exact j_va_has_52 C w h _ _ _ hW (lv_sub hl [] rfl)
        · rw [if_neg c9] at h
          refine lv_lload_n hx hb d_va_has_34 rfl (lv_at hl 1 rfl) ?_
          refine lv_aload_n hx hb d_va_has_35 rfl (lv_at hl 0 rfl) ?_
          replace h := bs h
          obtain ⟨x10, hx10, h⟩ := h
          refine gf_va_25 hx hb hts hown hK hG hW (gL_s hx10) d_va_has_36 ?_
          refine lv_lsub hx hb d_va_has_39 ?_
          refine lv_aload_n hx hb d_va_has_40 rfl (lv_at hl 0 rfl) ?_
          replace h := bs h
          obtain ⟨x11, hx11, h⟩ := h
          refine gf_va_22 hx hb hts hown hK hG hW (gL_s hx11) d_va_has_41 ?_
          replace h := bs2 h
          obtain ⟨x13, w12, hw12, h⟩ := h
          refine cs_va_32 (As := [.long (a1 - x10), .long x11]) (rest := []) hx hb hml hown hts hK hG hW (c_ma_floorMod l D cA base hw12) ⟨Nat.le_of_ble_eq_true rfl, Nat.le_of_ble_eq_true rfl⟩ ⟨Nat.le_of_ble_eq_true rfl, Nat.le_of_ble_eq_true rfl⟩ rfl hl.1 rfl (Nat.le_of_ble_eq_true rfl) d_va_has_44 (fun H locs hW => ?_)
          refine lv_lconst (v := (0 : Int64)) hx hb d_va_has_47 (by decide) ?_
          refine lc_ne (tgt := 56) hx hb d_va_has_48 d_va_has_49 (by decide) (fun c14 => ?_) (fun c14 => ?_)
          · rw [if_neg c14] at h
            exact j_va_has_56 C w12 h _ _ _ hW (lv_sub hl [] rfl)
          · rw [if_pos c14] at h
            exact j_va_has_52 C w12 h _ _ _ hW (lv_sub hl [] rfl)
abbrev b_ma_min_JJ : ByteArray := prog_18_method_70_code
def y_ma_min_JJ : MethodName := ⟨"java/lang/Math", "min", "(JJ)J"⟩
def rm_ma_min_JJ : Room := { frames := 0, cells := 0, slots := 0, locals := 0 }
theorem d_ma_min_JJ_0 : decode b_ma_min_JJ 0 = .ok (.lload_n 0, 1) := by decide +kernel
theorem d_ma_min_JJ_1 : decode b_ma_min_JJ 1 = .ok (.lload_n 2, 1) := by decide +kernel
theorem d_ma_min_JJ_2 : decode b_ma_min_JJ 2 = .ok (.lcmp, 1) := by decide +kernel
theorem d_ma_min_JJ_3 : decode b_ma_min_JJ 3 = .ok (.ifCond .gt (7), 3) := by decide +kernel
theorem d_ma_min_JJ_6 : decode b_ma_min_JJ 6 = .ok (.lload_n 0, 1) := by decide +kernel
theorem d_ma_min_JJ_7 : decode b_ma_min_JJ 7 = .ok (.goto (4), 3) := by decide +kernel
theorem d_ma_min_JJ_10 : decode b_ma_min_JJ 10 = .ok (.lload_n 2, 1) := by decide +kernel
theorem d_ma_min_JJ_11 : decode b_ma_min_JJ 11 = .ok (.lreturn, 1) := by decide +kernel
def f_ma_min_JJ_11  (z0 : Int64) (w : WW) : Option (Int64 × WW) :=
  some (z0, w)
def f_ma_min_JJ (a0 : Int64) (a2 : Int64) (w : WW) : Option (Int64 × WW) :=
  if a2 < a0 then
    f_ma_min_JJ_11 a2 w
  else
    f_ma_min_JJ_11 a0 w
set_option maxHeartbeats 4000000 in
set_option maxRecDepth 100000 in
theorem j_ma_min_JJ_11 {p : Program} {l : Launch} {e : Env} {s : State} {m : MethodId} {args : Array Value} {below : List Frame} {meth : Method} {c : Code} {D : va_G} {cA : Nat → ClassId} {base : Nat} {r : Int64} {w' : WW} (C : cx b_ma_min_JJ (some .long) 4 y_ma_min_JJ.cls "min" p s m args meth c D cA base)   : ∀ (z0 : Int64) (w : WW), f_ma_min_JJ_11 z0 w = some (r, w') → ∀ (H : Heap) (locs : List Loc) (ls : Array Slot), wo_S D cls cA base s w H locs → lv_has ls 4 [] → W p l e rm_ma_min_JJ s m args below meth c H locs 0 0 (MQ below (wo_Q D cls cA base (some (.long r)) w') args s rm_ma_min_JJ.cells rm_ma_min_JJ.slots (wo_B base)) (F0 m 11 ls [.long z0]) := by
  obtain ⟨hx, hb, hr, hml, hown, hts, hlk, hnm, hK, hG⟩ := id C
  intro z0 w h H locs ls hW hl
  unfold f_ma_min_JJ_11 at h
  cases h
  exact wo_lret hx hb hr hlk hW d_ma_min_JJ_11
set_option maxHeartbeats 4000000 in
set_option maxRecDepth 100000 in
theorem c_ma_min_JJ (l : Launch) (D : va_G) (cA : Nat → ClassId) (base : Nat) {a0 : Int64} {a2 : Int64} {w w' : WW} {r : Int64} (h : f_ma_min_JJ a0 a2 w = some (r, w')) : mt l D cls (wo_tys cA) cA base y_ma_min_JJ (Cond.code y_ma_min_JJ b_ma_min_JJ 4 (some .long) :: gt) rm_ma_min_JJ [.long a0, .long a2] w (some (.long r)) w' rm_ma_min_JJ.cells rm_ma_min_JJ.slots := by
  refine mt_startF (by decide +kernel) (Nat.le_of_ble_eq_true rfl) ?_
  intro p e s m below meth c ls hx hb hr hml hown hts hlk hnm hK hG hW hl
  have C : cx b_ma_min_JJ (some .long) 4 y_ma_min_JJ.cls "min" p s m [.long a0, .long a2].toArray meth c D cA base := ⟨hx, hb, hr, hml, hown, hts, hlk, hnm, hK, hG⟩
  have hl : lv_has ls 4 [(0, .long a0), (2, .long a2)] := hl
  unfold f_ma_min_JJ at h
  refine lv_lload_n hx hb d_ma_min_JJ_0 rfl (lv_at hl 0 rfl) ?_
  refine lv_lload_n hx hb d_ma_min_JJ_1 rfl (lv_at hl 1 rfl) ?_
  refine lc_gt (tgt := 10) hx hb d_ma_min_JJ_2 d_ma_min_JJ_3 (by decide) (fun c1 => ?_) (fun c1 => ?_)
  · rw [if_pos c1] at h
    refine lv_lload_n hx hb d_ma_min_JJ_10 rfl (lv_at hl 1 rfl) ?_
    exact j_ma_min_JJ_11 C a2 w h _ _ _ hW (lv_sub hl [] rfl)
  · rw [if_neg c1] at h
    refine lv_lload_n hx hb d_ma_min_JJ_6 rfl (lv_at hl 0 rfl) ?_
    refine lv_goto (tgt := 11) hx hb d_ma_min_JJ_7 (by decide) ?_
    exact j_ma_min_JJ_11 C a0 w h _ _ _ hW (lv_sub hl [] rfl)
abbrev b_ma_max_JJ : ByteArray := prog_18_method_66_code
def y_ma_max_JJ : MethodName := ⟨"java/lang/Math", "max", "(JJ)J"⟩
def rm_ma_max_JJ : Room := { frames := 0, cells := 0, slots := 0, locals := 0 }
theorem d_ma_max_JJ_0 : decode b_ma_max_JJ 0 = .ok (.lload_n 0, 1) := by decide +kernel
theorem d_ma_max_JJ_1 : decode b_ma_max_JJ 1 = .ok (.lload_n 2, 1) := by decide +kernel
theorem d_ma_max_JJ_2 : decode b_ma_max_JJ 2 = .ok (.lcmp, 1) := by decide +kernel
theorem d_ma_max_JJ_3 : decode b_ma_max_JJ 3 = .ok (.ifCond .lt (7), 3) := by decide +kernel
theorem d_ma_max_JJ_6 : decode b_ma_max_JJ 6 = .ok (.lload_n 0, 1) := by decide +kernel
theorem d_ma_max_JJ_7 : decode b_ma_max_JJ 7 = .ok (.goto (4), 3) := by decide +kernel
theorem d_ma_max_JJ_10 : decode b_ma_max_JJ 10 = .ok (.lload_n 2, 1) := by decide +kernel
theorem d_ma_max_JJ_11 : decode b_ma_max_JJ 11 = .ok (.lreturn, 1) := by decide +kernel
def f_ma_max_JJ_11  (z0 : Int64) (w : WW) : Option (Int64 × WW) :=
  some (z0, w)
def f_ma_max_JJ (a0 : Int64) (a2 : Int64) (w : WW) : Option (Int64 × WW) :=
  if a0 < a2 then
    f_ma_max_JJ_11 a2 w
  else
    f_ma_max_JJ_11 a0 w
set_option maxHeartbeats 4000000 in
set_option maxRecDepth 100000 in
theorem j_ma_max_JJ_11 {p : Program} {l : Launch} {e : Env} {s : State} {m : MethodId} {args : Array Value} {below : List Frame} {meth : Method} {c : Code} {D : va_G} {cA : Nat → ClassId} {base : Nat} {r : Int64} {w' : WW} (C : cx b_ma_max_JJ (some .long) 4 y_ma_max_JJ.cls "max" p s m args meth c D cA base)   : ∀ (z0 : Int64) (w : WW), f_ma_max_JJ_11 z0 w = some (r, w') → ∀ (H : Heap) (locs : List Loc) (ls : Array Slot), wo_S D cls cA base s w H locs → lv_has ls 4 [] → W p l e rm_ma_max_JJ s m args below meth c H locs 0 0 (MQ below (wo_Q D cls cA base (some (.long r)) w') args s rm_ma_max_JJ.cells rm_ma_max_JJ.slots (wo_B base)) (F0 m 11 ls [.long z0]) := by
  obtain ⟨hx, hb, hr, hml, hown, hts, hlk, hnm, hK, hG⟩ := id C
  intro z0 w h H locs ls hW hl
  unfold f_ma_max_JJ_11 at h
  cases h
  exact wo_lret hx hb hr hlk hW d_ma_max_JJ_11
set_option maxHeartbeats 4000000 in
set_option maxRecDepth 100000 in
theorem c_ma_max_JJ (l : Launch) (D : va_G) (cA : Nat → ClassId) (base : Nat) {a0 : Int64} {a2 : Int64} {w w' : WW} {r : Int64} (h : f_ma_max_JJ a0 a2 w = some (r, w')) : mt l D cls (wo_tys cA) cA base y_ma_max_JJ (Cond.code y_ma_max_JJ b_ma_max_JJ 4 (some .long) :: gt) rm_ma_max_JJ [.long a0, .long a2] w (some (.long r)) w' rm_ma_max_JJ.cells rm_ma_max_JJ.slots := by
  refine mt_startF (by decide +kernel) (Nat.le_of_ble_eq_true rfl) ?_
  intro p e s m below meth c ls hx hb hr hml hown hts hlk hnm hK hG hW hl
  have C : cx b_ma_max_JJ (some .long) 4 y_ma_max_JJ.cls "max" p s m [.long a0, .long a2].toArray meth c D cA base := ⟨hx, hb, hr, hml, hown, hts, hlk, hnm, hK, hG⟩
  have hl : lv_has ls 4 [(0, .long a0), (2, .long a2)] := hl
  unfold f_ma_max_JJ at h
  refine lv_lload_n hx hb d_ma_max_JJ_0 rfl (lv_at hl 0 rfl) ?_
  refine lv_lload_n hx hb d_ma_max_JJ_1 rfl (lv_at hl 1 rfl) ?_
  refine lc_lt (tgt := 10) hx hb d_ma_max_JJ_2 d_ma_max_JJ_3 (by decide) (fun c1 => ?_) (fun c1 => ?_)
  · rw [if_pos c1] at h
    refine lv_lload_n hx hb d_ma_max_JJ_10 rfl (lv_at hl 1 rfl) ?_
    exact j_ma_max_JJ_11 C a2 w h _ _ _ hW (lv_sub hl [] rfl)
  · rw [if_neg c1] at h
    refine lv_lload_n hx hb d_ma_max_JJ_6 rfl (lv_at hl 0 rfl) ?_
    refine lv_goto (tgt := 11) hx hb d_ma_max_JJ_7 (by decide) ?_
    exact j_ma_max_JJ_11 C a0 w h _ _ _ hW (lv_sub hl [] rfl)
abbrev b_ma_abs : ByteArray := prog_18_method_61_code
def y_ma_abs : MethodName := ⟨"java/lang/Math", "abs", "(J)J"⟩
def rm_ma_abs : Room := { frames := 0, cells := 0, slots := 0, locals := 0 }
theorem d_ma_abs_0 : decode b_ma_abs 0 = .ok (.lload_n 0, 1) := by decide +kernel
theorem d_ma_abs_1 : decode b_ma_abs 1 = .ok (.lconst 0, 1) := by decide +kernel
theorem d_ma_abs_2 : decode b_ma_abs 2 = .ok (.lcmp, 1) := by decide +kernel
theorem d_ma_abs_3 : decode b_ma_abs 3 = .ok (.ifCond .ge (8), 3) := by decide +kernel
theorem d_ma_abs_6 : decode b_ma_abs 6 = .ok (.lload_n 0, 1) := by decide +kernel
theorem d_ma_abs_7 : decode b_ma_abs 7 = .ok (.lneg, 1) := by decide +kernel
theorem d_ma_abs_8 : decode b_ma_abs 8 = .ok (.goto (4), 3) := by decide +kernel
theorem d_ma_abs_11 : decode b_ma_abs 11 = .ok (.lload_n 0, 1) := by decide +kernel
theorem d_ma_abs_12 : decode b_ma_abs 12 = .ok (.lreturn, 1) := by decide +kernel
def f_ma_abs_12  (z0 : Int64) (w : WW) : Option (Int64 × WW) :=
  some (z0, w)
def f_ma_abs (a0 : Int64) (w : WW) : Option (Int64 × WW) :=
  if (0 : Int64) ≤ a0 then
    f_ma_abs_12 a0 w
  else
    f_ma_abs_12 (-a0) w
set_option maxHeartbeats 4000000 in
set_option maxRecDepth 100000 in
theorem j_ma_abs_12 {p : Program} {l : Launch} {e : Env} {s : State} {m : MethodId} {args : Array Value} {below : List Frame} {meth : Method} {c : Code} {D : va_G} {cA : Nat → ClassId} {base : Nat} {r : Int64} {w' : WW} (C : cx b_ma_abs (some .long) 2 y_ma_abs.cls "abs" p s m args meth c D cA base)   : ∀ (z0 : Int64) (w : WW), f_ma_abs_12 z0 w = some (r, w') → ∀ (H : Heap) (locs : List Loc) (ls : Array Slot), wo_S D cls cA base s w H locs → lv_has ls 2 [] → W p l e rm_ma_abs s m args below meth c H locs 0 0 (MQ below (wo_Q D cls cA base (some (.long r)) w') args s rm_ma_abs.cells rm_ma_abs.slots (wo_B base)) (F0 m 12 ls [.long z0]) := by
  obtain ⟨hx, hb, hr, hml, hown, hts, hlk, hnm, hK, hG⟩ := id C
  intro z0 w h H locs ls hW hl
  unfold f_ma_abs_12 at h
  cases h
  exact wo_lret hx hb hr hlk hW d_ma_abs_12
set_option maxHeartbeats 4000000 in
set_option maxRecDepth 100000 in
theorem c_ma_abs (l : Launch) (D : va_G) (cA : Nat → ClassId) (base : Nat) {a0 : Int64} {w w' : WW} {r : Int64} (h : f_ma_abs a0 w = some (r, w')) : mt l D cls (wo_tys cA) cA base y_ma_abs (Cond.code y_ma_abs b_ma_abs 2 (some .long) :: gt) rm_ma_abs [.long a0] w (some (.long r)) w' rm_ma_abs.cells rm_ma_abs.slots := by
  refine mt_startF (by decide +kernel) (Nat.le_of_ble_eq_true rfl) ?_
  intro p e s m below meth c ls hx hb hr hml hown hts hlk hnm hK hG hW hl
  have C : cx b_ma_abs (some .long) 2 y_ma_abs.cls "abs" p s m [.long a0].toArray meth c D cA base := ⟨hx, hb, hr, hml, hown, hts, hlk, hnm, hK, hG⟩
  have hl : lv_has ls 2 [(0, .long a0)] := hl
  unfold f_ma_abs at h
  refine lv_lload_n hx hb d_ma_abs_0 rfl (lv_at hl 0 rfl) ?_
  refine lv_lconst (v := (0 : Int64)) hx hb d_ma_abs_1 (by decide) ?_
  refine lc_ge (tgt := 11) hx hb d_ma_abs_2 d_ma_abs_3 (by decide) (fun c1 => ?_) (fun c1 => ?_)
  · rw [if_pos c1] at h
    refine lv_lload_n hx hb d_ma_abs_11 rfl (lv_at hl 0 rfl) ?_
    exact j_ma_abs_12 C a0 w h _ _ _ hW (lv_sub hl [] rfl)
  · rw [if_neg c1] at h
    refine lv_lload_n hx hb d_ma_abs_6 rfl (lv_at hl 0 rfl) ?_
    refine lv_lneg hx hb d_ma_abs_7 ?_
    refine lv_goto (tgt := 12) hx hb d_ma_abs_8 (by decide) ?_
    exact j_ma_abs_12 C (-a0) w h _ _ _ hW (lv_sub hl [] rfl)
theorem cs_va_40 {p : Program} {l : Launch} {e : Env} {R : Room} {s : State} {m : MethodId} {args : Array Value} {below : List Frame} {meth : Method} {c : Code} {H : Heap} {locs : List Loc} {cells slots : Nat} {Q : State → Prop} {D : va_G} {cA : Nat → ClassId} {base : Nat} {w w' : WW} {cc : ByteArray} {pc nL : Nat} {ls : Array Slot} {rest st0 As : List Value} {ov : Option Value} (hx : p.tables.exec = Jvm.exec) (hb : c.code = cc) (hml : c.maxLocals = nL) (hown : s.vm.findClass Rc_va = some m.cls) (hts : ∀ w ∈ gt, w.before args s = true) (hK : va_K D cls (wo_tys cA) s) (hG : wo_G base s) (hW : wo_S D cls cA base s w H locs) (hM : mt l D cls (wo_tys cA) cA base y_ma_abs (Cond.code y_ma_abs b_ma_abs 2 (some .long) :: gt) rm_ma_abs (As) w ov w' rm_ma_abs.cells rm_ma_abs.slots) (hR : rm_ma_abs.frames + 1 ≤ R.frames ∧ 8 + (2 + 11) + rm_ma_abs.locals ≤ R.locals) (hf : cells + rm_ma_abs.cells ≤ R.cells ∧ slots + rm_ma_abs.slots ≤ R.slots) (hn : As.length = 1) (hsz : ls.size = nL) (hst : st0 = As.reverse ++ rest) (hcat : (rest.map fun v => v.category).sum ≤ 8) (hdg : decode cc pc = .ok (.invokestatic 40, 3)) (kk : ∀ (H1 : Heap) (locs1 : List Loc), wo_S D cls cA base s w' H1 locs1 → W p l e R s m args below meth c H1 locs1 (cells + rm_ma_abs.cells) (slots + rm_ma_abs.slots) Q (F0 m (pc + 3) ls (ov.toList ++ rest))) : W p l e R s m args below meth c H locs cells slots Q (F0 m pc ls st0) :=
  wo_callS hx hb hml hown hts hK hG hW hM (gt_of (i := 962) (by decide +kernel) (by decide +kernel)) (gt_of (i := 963) (by decide +kernel) (by decide +kernel)) (gt_of (i := 20) (by decide +kernel) (by decide +kernel)) (gt_of (i := 964) (by decide +kernel) (by decide +kernel)) (by decide +kernel) hR hf hn hsz hst hcat hdg kk
abbrev b_va_commonDivisor : ByteArray := prog_9_method_11_code
def y_va_commonDivisor : MethodName := ⟨"AlarmForge$Value", "commonDivisor", "(JJ)J"⟩
def rm_va_commonDivisor : Room := { frames := 1, cells := 0, slots := 0, locals := 21 }
theorem d_va_commonDivisor_0 : decode b_va_commonDivisor 0 = .ok (.lload_n 0, 1) := by decide +kernel
theorem d_va_commonDivisor_1 : decode b_va_commonDivisor 1 = .ok (.invokestatic 40, 3) := by decide +kernel
theorem d_va_commonDivisor_4 : decode b_va_commonDivisor 4 = .ok (.lstore 4, 2) := by decide +kernel
theorem d_va_commonDivisor_6 : decode b_va_commonDivisor 6 = .ok (.lload_n 2, 1) := by decide +kernel
theorem d_va_commonDivisor_7 : decode b_va_commonDivisor 7 = .ok (.invokestatic 40, 3) := by decide +kernel
theorem d_va_commonDivisor_10 : decode b_va_commonDivisor 10 = .ok (.lstore 6, 2) := by decide +kernel
theorem d_va_commonDivisor_12 : decode b_va_commonDivisor 12 = .ok (.iconst 0, 1) := by decide +kernel
theorem d_va_commonDivisor_13 : decode b_va_commonDivisor 13 = .ok (.istore 8, 2) := by decide +kernel
theorem d_va_commonDivisor_15 : decode b_va_commonDivisor 15 = .ok (.iload 8, 2) := by decide +kernel
theorem d_va_commonDivisor_17 : decode b_va_commonDivisor 17 = .ok (.bipush (100), 2) := by decide +kernel
theorem d_va_commonDivisor_19 : decode b_va_commonDivisor 19 = .ok (.if_icmp .ge (31), 3) := by decide +kernel
theorem d_va_commonDivisor_22 : decode b_va_commonDivisor 22 = .ok (.lload 6, 2) := by decide +kernel
theorem d_va_commonDivisor_24 : decode b_va_commonDivisor 24 = .ok (.lconst 0, 1) := by decide +kernel
theorem d_va_commonDivisor_25 : decode b_va_commonDivisor 25 = .ok (.lcmp, 1) := by decide +kernel
theorem d_va_commonDivisor_26 : decode b_va_commonDivisor 26 = .ok (.ifCond .eq (24), 3) := by decide +kernel
theorem d_va_commonDivisor_29 : decode b_va_commonDivisor 29 = .ok (.lload 4, 2) := by decide +kernel
theorem d_va_commonDivisor_31 : decode b_va_commonDivisor 31 = .ok (.lload 6, 2) := by decide +kernel
theorem d_va_commonDivisor_33 : decode b_va_commonDivisor 33 = .ok (.lrem, 1) := by decide +kernel
theorem d_va_commonDivisor_34 : decode b_va_commonDivisor 34 = .ok (.lstore 9, 2) := by decide +kernel
theorem d_va_commonDivisor_36 : decode b_va_commonDivisor 36 = .ok (.lload 6, 2) := by decide +kernel
theorem d_va_commonDivisor_38 : decode b_va_commonDivisor 38 = .ok (.lstore 4, 2) := by decide +kernel
theorem d_va_commonDivisor_40 : decode b_va_commonDivisor 40 = .ok (.lload 9, 2) := by decide +kernel
theorem d_va_commonDivisor_42 : decode b_va_commonDivisor 42 = .ok (.lstore 6, 2) := by decide +kernel
theorem d_va_commonDivisor_44 : decode b_va_commonDivisor 44 = .ok (.iinc 8 (1), 3) := by decide +kernel
theorem d_va_commonDivisor_47 : decode b_va_commonDivisor 47 = .ok (.goto (-32), 3) := by decide +kernel
theorem d_va_commonDivisor_50 : decode b_va_commonDivisor 50 = .ok (.lload 4, 2) := by decide +kernel
theorem d_va_commonDivisor_52 : decode b_va_commonDivisor 52 = .ok (.lreturn, 1) := by decide +kernel
def f_va_commonDivisor_50  (y4 : Int64) (w : WW) : Option (Int64 × WW) :=
  some (y4, w)
def f_va_commonDivisor_15  : Nat → Int64 → Int64 → Int32 → WW → Option (Int64 × WW)
  | 0, _, _, _, _ => none
  | n + 1, y4, y6, y8, w =>
    if (100 : Int32) ≤ y8 then
      f_va_commonDivisor_50 y4 w
    else
      if y6 = (0 : Int64) then
        f_va_commonDivisor_50 y4 w
      else
        if ¬ y6 = 0 then
          f_va_commonDivisor_15 n y6 (y4 - y4 / y6 * y6) (y8 + (1 : Int32)) w
        else none
def f_va_commonDivisor (a0 : Int64) (a2 : Int64) (w : WW) : Option (Int64 × WW) :=
  bd2 (f_ma_abs a0 w) fun x2 w1 =>
  bd2 (f_ma_abs a2 w1) fun x4 w3 =>
  f_va_commonDivisor_15 KK x2 x4 (0 : Int32) w3
set_option maxHeartbeats 4000000 in
set_option maxRecDepth 100000 in
theorem j_va_commonDivisor_50 {p : Program} {l : Launch} {e : Env} {s : State} {m : MethodId} {args : Array Value} {below : List Frame} {meth : Method} {c : Code} {D : va_G} {cA : Nat → ClassId} {base : Nat} {r : Int64} {w' : WW} (C : cx b_va_commonDivisor (some .long) 11 y_va_commonDivisor.cls "commonDivisor" p s m args meth c D cA base)   : ∀ (y4 : Int64) (w : WW), f_va_commonDivisor_50 y4 w = some (r, w') → ∀ (H : Heap) (locs : List Loc) (ls : Array Slot), wo_S D cls cA base s w H locs → lv_has ls 11 [(4, .long y4)] → W p l e rm_va_commonDivisor s m args below meth c H locs 0 0 (MQ below (wo_Q D cls cA base (some (.long r)) w') args s rm_va_commonDivisor.cells rm_va_commonDivisor.slots (wo_B base)) (F0 m 50 ls []) := by
  obtain ⟨hx, hb, hr, hml, hown, hts, hlk, hnm, hK, hG⟩ := id C
  intro y4 w h H locs ls hW hl
  unfold f_va_commonDivisor_50 at h
  refine lv_lload hx hb d_va_commonDivisor_50 (lv_at hl 0 rfl) ?_
  cases h
  exact wo_lret hx hb hr hlk hW d_va_commonDivisor_52
set_option maxHeartbeats 4000000 in
set_option maxRecDepth 100000 in
theorem j_va_commonDivisor_15 {p : Program} {l : Launch} {e : Env} {s : State} {m : MethodId} {args : Array Value} {below : List Frame} {meth : Method} {c : Code} {D : va_G} {cA : Nat → ClassId} {base : Nat} {r : Int64} {w' : WW} (C : cx b_va_commonDivisor (some .long) 11 y_va_commonDivisor.cls "commonDivisor" p s m args meth c D cA base)   : ∀ n : Nat, ∀ (y4 : Int64) (y6 : Int64) (y8 : Int32) (w : WW), f_va_commonDivisor_15 n y4 y6 y8 w = some (r, w') → ∀ (H : Heap) (locs : List Loc) (ls : Array Slot), wo_S D cls cA base s w H locs → lv_has ls 11 [(4, .long y4), (6, .long y6), (8, .int y8)] → W p l e rm_va_commonDivisor s m args below meth c H locs 0 0 (MQ below (wo_Q D cls cA base (some (.long r)) w') args s rm_va_commonDivisor.cells rm_va_commonDivisor.slots (wo_B base)) (F0 m 15 ls []) := by
  obtain ⟨hx, hb, hr, hml, hown, hts, hlk, hnm, hK, hG⟩ := id C
  intro n
  induction n with
  | zero => intro y4 y6 y8 w h; cases h
  | succ n ih =>
    intro y4 y6 y8 w h H locs ls hW hl
    rw [f_va_commonDivisor_15] at h
    refine lv_iload hx hb d_va_commonDivisor_15 (lv_at hl 2 rfl) ?_
    refine lv_bipush (v := (100 : Int32)) hx hb d_va_commonDivisor_17 (by decide) ?_
    refine lv_icmp_ge (tgt := 50) hx hb d_va_commonDivisor_19 (by decide) (fun c5 => ?_) (fun c5 => ?_)
    · rw [if_pos c5] at h
      exact j_va_commonDivisor_50 C y4 w h _ _ _ hW (lv_sub hl [0] rfl)
    · rw [if_neg c5] at h
      refine lv_lload hx hb d_va_commonDivisor_22 (lv_at hl 1 rfl) ?_
      refine lv_lconst (v := (0 : Int64)) hx hb d_va_commonDivisor_24 (by decide) ?_
      refine lc_eq (tgt := 50) hx hb d_va_commonDivisor_25 d_va_commonDivisor_26 (by decide) (fun c6 => ?_) (fun c6 => ?_)
      · rw [if_pos c6] at h
        exact j_va_commonDivisor_50 C y4 w h _ _ _ hW (lv_sub hl [0] rfl)
      · rw [if_neg c6] at h
        refine lv_lload hx hb d_va_commonDivisor_29 (lv_at hl 0 rfl) ?_
        refine lv_lload hx hb d_va_commonDivisor_31 (lv_at hl 1 rfl) ?_
        replace h := its h
        obtain ⟨c7, h⟩ := h
        refine lv_lrem hx hb d_va_commonDivisor_33 c7 ?_
        refine lv_lstore (lv' := [(9, .long (y4 - y4 / y6 * y6)), (4, .long y4), (6, .long y6), (8, .int y8)]) hx hb d_va_commonDivisor_34 hl (by decide) rfl (fun ls hl => ?_)
        refine lv_lload hx hb d_va_commonDivisor_36 (lv_at hl 2 rfl) ?_
        refine lv_lstore (lv' := [(4, .long y6), (9, .long (y4 - y4 / y6 * y6)), (6, .long y6), (8, .int y8)]) hx hb d_va_commonDivisor_38 hl (by decide) rfl (fun ls hl => ?_)
        refine lv_lload hx hb d_va_commonDivisor_40 (lv_at hl 1 rfl) ?_
        refine lv_lstore (lv' := [(6, .long (y4 - y4 / y6 * y6)), (4, .long y6), (9, .long (y4 - y4 / y6 * y6)), (8, .int y8)]) hx hb d_va_commonDivisor_42 hl (by decide) rfl (fun ls hl => ?_)
        refine lv_iinc (v := (y8 + (1 : Int32))) (lv' := [(8, .int (y8 + (1 : Int32))), (6, .long (y4 - y4 / y6 * y6)), (4, .long y6), (9, .long (y4 - y4 / y6 * y6))]) hx hb d_va_commonDivisor_44 hl (k := 3) rfl rfl (by decide) rfl (fun ls hl => ?_)
        refine lv_goto (tgt := 15) hx hb d_va_commonDivisor_47 (by decide) ?_
        exact ih y6 (y4 - y4 / y6 * y6) (y8 + (1 : Int32)) w h _ _ _ hW (lv_sub hl [2, 1, 0] rfl)
set_option maxHeartbeats 4000000 in
set_option maxRecDepth 100000 in
theorem c_va_commonDivisor (l : Launch) (D : va_G) (cA : Nat → ClassId) (base : Nat) {a0 : Int64} {a2 : Int64} {w w' : WW} {r : Int64} (h : f_va_commonDivisor a0 a2 w = some (r, w')) : mt l D cls (wo_tys cA) cA base y_va_commonDivisor (Cond.code y_va_commonDivisor b_va_commonDivisor 11 (some .long) :: gt) rm_va_commonDivisor [.long a0, .long a2] w (some (.long r)) w' rm_va_commonDivisor.cells rm_va_commonDivisor.slots := by
  refine mt_start (by decide) (Nat.le_of_ble_eq_true rfl) ?_
  intro p e s m below meth c ls hx hb hr hml hown hts hlk hnm hK hG hW hl
  have C : cx b_va_commonDivisor (some .long) 11 y_va_commonDivisor.cls "commonDivisor" p s m [.long a0, .long a2].toArray meth c D cA base := ⟨hx, hb, hr, hml, hown, hts, hlk, hnm, hK, hG⟩
  have hl : lv_has ls 11 [(0, .long a0), (2, .long a2)] := hl
  unfold f_va_commonDivisor at h
  refine lv_lload_n hx hb d_va_commonDivisor_0 rfl (lv_at hl 0 rfl) ?_
  replace h := bs2 h
  obtain ⟨x2, w1, hw1, h⟩ := h
  refine cs_va_40 (As := [.long a0]) (rest := []) hx hb hml hown hts hK hG hW (c_ma_abs l D cA base hw1) ⟨Nat.le_of_ble_eq_true rfl, Nat.le_of_ble_eq_true rfl⟩ ⟨Nat.le_of_ble_eq_true rfl, Nat.le_of_ble_eq_true rfl⟩ rfl hl.1 rfl (Nat.le_of_ble_eq_true rfl) d_va_commonDivisor_1 (fun H locs hW => ?_)
  refine lv_lstore (lv' := [(4, .long x2), (0, .long a0), (2, .long a2)]) hx hb d_va_commonDivisor_4 hl (by decide) rfl (fun ls hl => ?_)
  refine lv_lload_n hx hb d_va_commonDivisor_6 rfl (lv_at hl 2 rfl) ?_
  replace h := bs2 h
  obtain ⟨x4, w3, hw3, h⟩ := h
  refine cs_va_40 (As := [.long a2]) (rest := []) hx hb hml hown hts hK hG hW (c_ma_abs l D cA base hw3) ⟨Nat.le_of_ble_eq_true rfl, Nat.le_of_ble_eq_true rfl⟩ ⟨Nat.le_of_ble_eq_true rfl, Nat.le_of_ble_eq_true rfl⟩ rfl hl.1 rfl (Nat.le_of_ble_eq_true rfl) d_va_commonDivisor_7 (fun H locs hW => ?_)
  refine lv_lstore (lv' := [(6, .long x4), (4, .long x2), (0, .long a0), (2, .long a2)]) hx hb d_va_commonDivisor_10 hl (by decide) rfl (fun ls hl => ?_)
  refine lv_iconst (v := (0 : Int32)) hx hb d_va_commonDivisor_12 (by decide) ?_
  refine lv_istore (lv' := [(8, .int (0 : Int32)), (6, .long x4), (4, .long x2), (0, .long a0), (2, .long a2)]) hx hb d_va_commonDivisor_13 hl (by decide) rfl (fun ls hl => ?_)
  exact j_va_commonDivisor_15 C KK x2 x4 (0 : Int32) w3 h _ _ _ hW (lv_sub hl [2, 1, 0] rfl)
