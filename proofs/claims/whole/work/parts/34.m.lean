/-! Methods as functions, and their contracts (by wip/gen/run.py). -/
theorem cv_ru_129 {p : Program} {l : Launch} {e : Env} {R : Room} {s : State} {m : MethodId} {args : Array Value} {below : List Frame} {meth : Method} {c : Code} {H : Heap} {locs : List Loc} {cells slots : Nat} {Q : State → Prop} {D : va_G} {cA : Nat → ClassId} {base : Nat} {w w' : WW} {cc : ByteArray} {pc nL : Nat} {ls : Array Slot} {rest st0 As : List Value} {ov : Option Value} {b : Nat} (hx : p.tables.exec = Jvm.exec) (hb : c.code = cc) (hml : c.maxLocals = nL) (hown : s.vm.findClass Rc_ru = some m.cls) (hts : ∀ w ∈ gt, w.before args s = true) (hK : va_K D cls (wo_tys cA) s) (hG : wo_G base s) (hW : wo_S D cls cA base s w H locs) (hM : mt l D cls (wo_tys cA) cA base y_pg_growthOf (Cond.code y_pg_growthOf b_pg_growthOf 3 (some .int) :: gt) rm_pg_growthOf (.ref b :: As) w ov w' rm_pg_growthOf.cells rm_pg_growthOf.slots) (hkb : kb w b 3 = true) (hR : rm_pg_growthOf.frames + 1 ≤ R.frames ∧ 8 + (3 + 11) + rm_pg_growthOf.locals ≤ R.locals) (hf : cells + rm_pg_growthOf.cells ≤ R.cells ∧ slots + rm_pg_growthOf.slots ≤ R.slots) (hn : As.length = 1) (hsz : ls.size = nL) (hst : st0 = As.reverse ++ .ref b :: rest) (hcat : (rest.map fun v => v.category).sum ≤ 8) (hdg : decode cc pc = .ok (.invokevirtual 129, 3)) (kk : ∀ (H1 : Heap) (locs1 : List Loc), wo_S D cls cA base s w' H1 locs1 → W p l e R s m args below meth c H1 locs1 (cells + rm_pg_growthOf.cells) (slots + rm_pg_growthOf.slots) Q (F0 m (pc + 3) ls (ov.toList ++ rest))) : W p l e R s m args below meth c H locs cells slots Q (F0 m pc ls st0) :=
  wo_callV (C := Rc_pg) hx hb hml hown hts hK hG hW hM hkb rfl (gt_of (i := 778) (by decide +kernel) (by decide +kernel)) (gt_of (i := 779) (by decide +kernel) (by decide +kernel)) (gt_of (i := 780) (by decide +kernel) (by decide +kernel)) (gt_of (i := 4) (by decide +kernel) (by decide +kernel)) (gt_of (i := 781) (by decide +kernel) (by decide +kernel)) (by decide +kernel) hR hf hn hsz hst hcat hdg kk
theorem xv_ru_133 {p : Program} {l : Launch} {e : Env} {R : Room} {s : State} {m : MethodId} {args : Array Value} {below : List Frame} {meth : Method} {c : Code} {H : Heap} {locs : List Loc} {cells slots : Nat} {Q : State → Prop} {D : va_G} {cA : Nat → ClassId} {base : Nat} {w w' : WW} {cc : ByteArray} {pc nL : Nat} {ls : Array Slot} {rest st0 As : List Value} {E : String} {b : Nat} (hx : p.tables.exec = Jvm.exec) (hb : c.code = cc) (hml : c.maxLocals = nL) (hown : s.vm.findClass Rc_ru = some m.cls) (hts : ∀ w ∈ gt, w.before args s = true) (hK : va_K D cls (wo_tys cA) s) (hG : wo_G base s) (hW : wo_S D cls cA base s w H locs) (hM : xt l D cls (wo_tys cA) cA base y_ru_doStep (Cond.code y_ru_doStep b_ru_doStep 7 (some .int) :: gt) rx_ru_doStep (.ref b :: As) w E w' rx_ru_doStep.cells rx_ru_doStep.slots) (hkb : kb w b 5 = true) (hR : rx_ru_doStep.frames + 1 ≤ R.frames ∧ 8 + (7 + 11) + rx_ru_doStep.locals ≤ R.locals) (hf : cells + rx_ru_doStep.cells ≤ R.cells ∧ slots + rx_ru_doStep.slots ≤ R.slots) (hn : As.length = 3) (hsz : ls.size = nL) (hst : st0 = As.reverse ++ .ref b :: rest) (hcat : (rest.map fun v => v.category).sum ≤ 8) (hdg : decode cc pc = .ok (.invokevirtual 133, 3)) (kk : ∀ (H1 : Heap) (locs1 : List Loc) (q : Addr) (ce : Cell), wo_S D cls cA base s w' H1 locs1 → H1[q]? = some ce → ce.vm = .none → s.vm.findClass E = some ce.cls → XW p l e R s m args below meth c H1 locs1 (cells + rx_ru_doStep.cells) (slots + rx_ru_doStep.slots) Q (F0 m pc ls rest) q) : W p l e R s m args below meth c H locs cells slots Q (F0 m pc ls st0) :=
  wo_xcallV (C := Rc_ru) hx hb hml hown hts hK hG hW hM hkb rfl (gt_of (i := 782) (by decide +kernel) (by decide +kernel)) (gt_of (i := 784) (by decide +kernel) (by decide +kernel)) (gt_sel (i := 26) (by decide +kernel) (by decide +kernel)) (gt_of (i := 6) (by decide +kernel) (by decide +kernel)) (gt_of (i := 785) (by decide +kernel) (by decide +kernel)) (by decide +kernel) hR hf hn hsz hst hcat hdg kk
theorem cv_ru_133 {p : Program} {l : Launch} {e : Env} {R : Room} {s : State} {m : MethodId} {args : Array Value} {below : List Frame} {meth : Method} {c : Code} {H : Heap} {locs : List Loc} {cells slots : Nat} {Q : State → Prop} {D : va_G} {cA : Nat → ClassId} {base : Nat} {w w' : WW} {cc : ByteArray} {pc nL : Nat} {ls : Array Slot} {rest st0 As : List Value} {ov : Option Value} {b : Nat} (hx : p.tables.exec = Jvm.exec) (hb : c.code = cc) (hml : c.maxLocals = nL) (hown : s.vm.findClass Rc_ru = some m.cls) (hts : ∀ w ∈ gt, w.before args s = true) (hK : va_K D cls (wo_tys cA) s) (hG : wo_G base s) (hW : wo_S D cls cA base s w H locs) (hM : mt l D cls (wo_tys cA) cA base y_ru_doStep (Cond.code y_ru_doStep b_ru_doStep 7 (some .int) :: gt) rm_ru_doStep (.ref b :: As) w ov w' rm_ru_doStep.cells rm_ru_doStep.slots) (hkb : kb w b 5 = true) (hR : rm_ru_doStep.frames + 1 ≤ R.frames ∧ 8 + (7 + 11) + rm_ru_doStep.locals ≤ R.locals) (hf : cells + rm_ru_doStep.cells ≤ R.cells ∧ slots + rm_ru_doStep.slots ≤ R.slots) (hn : As.length = 3) (hsz : ls.size = nL) (hst : st0 = As.reverse ++ .ref b :: rest) (hcat : (rest.map fun v => v.category).sum ≤ 8) (hdg : decode cc pc = .ok (.invokevirtual 133, 3)) (kk : ∀ (H1 : Heap) (locs1 : List Loc), wo_S D cls cA base s w' H1 locs1 → W p l e R s m args below meth c H1 locs1 (cells + rm_ru_doStep.cells) (slots + rm_ru_doStep.slots) Q (F0 m (pc + 3) ls (ov.toList ++ rest))) : W p l e R s m args below meth c H locs cells slots Q (F0 m pc ls st0) :=
  wo_callV (C := Rc_ru) hx hb hml hown hts hK hG hW hM hkb rfl (gt_of (i := 782) (by decide +kernel) (by decide +kernel)) (gt_of (i := 784) (by decide +kernel) (by decide +kernel)) (gt_sel (i := 26) (by decide +kernel) (by decide +kernel)) (gt_of (i := 6) (by decide +kernel) (by decide +kernel)) (gt_of (i := 785) (by decide +kernel) (by decide +kernel)) (by decide +kernel) hR hf hn hsz hst hcat hdg kk
abbrev b_ru_workOut : ByteArray := prog_6_method_14_code
def y_ru_workOut : MethodName := ⟨"AlarmForge$Runner", "workOut", "(III)I"⟩
def rm_ru_workOut : Room := { frames := 9, cells := 0, slots := 0, locals := 174 }
def rx_ru_workOut : Room := { frames := 9, cells := 1, slots := 6, locals := 174 }
theorem d_ru_workOut_0 : decode b_ru_workOut 0 = .ok (.iload_n 3, 1) := by decide +kernel
theorem d_ru_workOut_1 : decode b_ru_workOut 1 = .ok (.istore 4, 2) := by decide +kernel
theorem d_ru_workOut_3 : decode b_ru_workOut 3 = .ok (.iload_n 1, 1) := by decide +kernel
theorem d_ru_workOut_4 : decode b_ru_workOut 4 = .ok (.istore 5, 2) := by decide +kernel
theorem d_ru_workOut_6 : decode b_ru_workOut 6 = .ok (.iload 5, 2) := by decide +kernel
theorem d_ru_workOut_8 : decode b_ru_workOut 8 = .ok (.iload_n 2, 1) := by decide +kernel
theorem d_ru_workOut_9 : decode b_ru_workOut 9 = .ok (.if_icmp .ge (69), 3) := by decide +kernel
theorem d_ru_workOut_12 : decode b_ru_workOut 12 = .ok (.iload 4, 2) := by decide +kernel
theorem d_ru_workOut_14 : decode b_ru_workOut 14 = .ok (.aload_n 0, 1) := by decide +kernel
theorem d_ru_workOut_15 : decode b_ru_workOut 15 = .ok (.getfield 32, 3) := by decide +kernel
theorem d_ru_workOut_18 : decode b_ru_workOut 18 = .ok (.iload 5, 2) := by decide +kernel
theorem d_ru_workOut_20 : decode b_ru_workOut 20 = .ok (.invokevirtual 129, 3) := by decide +kernel
theorem d_ru_workOut_23 : decode b_ru_workOut 23 = .ok (.iadd, 1) := by decide +kernel
theorem d_ru_workOut_24 : decode b_ru_workOut 24 = .ok (.istore 4, 2) := by decide +kernel
theorem d_ru_workOut_26 : decode b_ru_workOut 26 = .ok (.iload 4, 2) := by decide +kernel
theorem d_ru_workOut_28 : decode b_ru_workOut 28 = .ok (.iconst 1, 1) := by decide +kernel
theorem d_ru_workOut_29 : decode b_ru_workOut 29 = .ok (.if_icmp .lt (10), 3) := by decide +kernel
theorem d_ru_workOut_32 : decode b_ru_workOut 32 = .ok (.iload 4, 2) := by decide +kernel
theorem d_ru_workOut_34 : decode b_ru_workOut 34 = .ok (.bipush (25), 2) := by decide +kernel
theorem d_ru_workOut_36 : decode b_ru_workOut 36 = .ok (.if_icmp .lt (5), 3) := by decide +kernel
theorem d_ru_workOut_39 : decode b_ru_workOut 39 = .ok (.iconst 0, 1) := by decide +kernel
theorem d_ru_workOut_40 : decode b_ru_workOut 40 = .ok (.ireturn, 1) := by decide +kernel
theorem d_ru_workOut_41 : decode b_ru_workOut 41 = .ok (.aload_n 0, 1) := by decide +kernel
theorem d_ru_workOut_42 : decode b_ru_workOut 42 = .ok (.getfield 22, 3) := by decide +kernel
theorem d_ru_workOut_45 : decode b_ru_workOut 45 = .ok (.iload 4, 2) := by decide +kernel
theorem d_ru_workOut_47 : decode b_ru_workOut 47 = .ok (.iconst 1, 1) := by decide +kernel
theorem d_ru_workOut_48 : decode b_ru_workOut 48 = .ok (.isub, 1) := by decide +kernel
theorem d_ru_workOut_49 : decode b_ru_workOut 49 = .ok (.aload_n 0, 1) := by decide +kernel
theorem d_ru_workOut_50 : decode b_ru_workOut 50 = .ok (.iload 5, 2) := by decide +kernel
theorem d_ru_workOut_52 : decode b_ru_workOut 52 = .ok (.aload_n 0, 1) := by decide +kernel
theorem d_ru_workOut_53 : decode b_ru_workOut 53 = .ok (.getfield 22, 3) := by decide +kernel
theorem d_ru_workOut_56 : decode b_ru_workOut 56 = .ok (.iload 4, 2) := by decide +kernel
theorem d_ru_workOut_58 : decode b_ru_workOut 58 = .ok (.iconst 1, 1) := by decide +kernel
theorem d_ru_workOut_59 : decode b_ru_workOut 59 = .ok (.isub, 1) := by decide +kernel
theorem d_ru_workOut_60 : decode b_ru_workOut 60 = .ok (.iaload, 1) := by decide +kernel
theorem d_ru_workOut_61 : decode b_ru_workOut 61 = .ok (.aload_n 0, 1) := by decide +kernel
theorem d_ru_workOut_62 : decode b_ru_workOut 62 = .ok (.getfield 22, 3) := by decide +kernel
theorem d_ru_workOut_65 : decode b_ru_workOut 65 = .ok (.iload 4, 2) := by decide +kernel
theorem d_ru_workOut_67 : decode b_ru_workOut 67 = .ok (.iaload, 1) := by decide +kernel
theorem d_ru_workOut_68 : decode b_ru_workOut 68 = .ok (.invokevirtual 133, 3) := by decide +kernel
theorem d_ru_workOut_71 : decode b_ru_workOut 71 = .ok (.iastore, 1) := by decide +kernel
theorem d_ru_workOut_72 : decode b_ru_workOut 72 = .ok (.iinc 5 (1), 3) := by decide +kernel
theorem d_ru_workOut_75 : decode b_ru_workOut 75 = .ok (.goto (-69), 3) := by decide +kernel
theorem d_ru_workOut_78 : decode b_ru_workOut 78 = .ok (.aload_n 0, 1) := by decide +kernel
theorem d_ru_workOut_79 : decode b_ru_workOut 79 = .ok (.getfield 22, 3) := by decide +kernel
theorem d_ru_workOut_82 : decode b_ru_workOut 82 = .ok (.iload_n 3, 1) := by decide +kernel
theorem d_ru_workOut_83 : decode b_ru_workOut 83 = .ok (.iaload, 1) := by decide +kernel
theorem d_ru_workOut_84 : decode b_ru_workOut 84 = .ok (.ireturn, 1) := by decide +kernel
def f_ru_workOut_39   (w : WW) : Option ((Int32 ⊕ String) × WW) :=
  some (.inl (0 : Int32), w)
def f_ru_workOut_6  : Nat → Nat → Int32 → Int32 → Int32 → Int32 → WW → Option ((Int32 ⊕ String) × WW)
  | 0, _, _, _, _, _, _ => none
  | n + 1, y0, y2, y3, y4, y5, w =>
    if y2 ≤ y5 then
      (gN w y0 5 3).bind fun x2 =>
      (rI w x2 0 y3).bind fun x3 =>
      some (.inl x3, w)
    else
      (gR w y0 5 6).bind fun x4 =>
      x4.bind fun x5 =>
      bd2 (f_pg_growthOf x5 y5 w) fun x7 w6 =>
      if (y4 + x7) < (1 : Int32) then
        f_ru_workOut_39 w6
      else
        if (y4 + x7) < (25 : Int32) then
          (gN w6 y0 5 3).bind fun x10 =>
          (gN w6 y0 5 3).bind fun x11 =>
          (rI w6 x11 0 ((y4 + x7) - (1 : Int32))).bind fun x12 =>
          (gN w6 y0 5 3).bind fun x13 =>
          (rI w6 x13 0 (y4 + x7)).bind fun x14 =>
          bdx (f_ru_doStep y0 y5 x12 x14 w6) fun x16 w15 =>
          (sI w15 x10 0 ((y4 + x7) - (1 : Int32)) x16).bind fun w17 =>
          f_ru_workOut_6 n y0 y2 y3 (y4 + x7) (y5 + (1 : Int32)) w17
        else
          f_ru_workOut_39 w6
def f_ru_workOut (a0 : Nat) (a1 : Int32) (a2 : Int32) (a3 : Int32) (w : WW) : Option ((Int32 ⊕ String) × WW) :=
  if kb w a0 5 = true then
    f_ru_workOut_6 KK a0 a2 a3 a3 a1 w
  else none
theorem kb_ru_workOut {a0 : Nat} {a1 : Int32} {a2 : Int32} {a3 : Int32} {w : WW} {r : ((Int32 ⊕ String) × WW)} (h : f_ru_workOut a0 a1 a2 a3 w = some r) : kb w a0 5 = true := (its h).1
set_option maxHeartbeats 4000000 in
set_option maxRecDepth 100000 in
theorem j_ru_workOut_39 {p : Program} {l : Launch} {e : Env} {s : State} {m : MethodId} {args : Array Value} {below : List Frame} {meth : Method} {c : Code} {D : va_G} {cA : Nat → ClassId} {base : Nat} {r : Int32} {w' : WW} (C : cx b_ru_workOut (some .int) 6 y_ru_workOut.cls "workOut" p s m args meth c D cA base)   : ∀  (w : WW), f_ru_workOut_39  w = some (.inl r, w') → ∀ (H : Heap) (locs : List Loc) (ls : Array Slot), wo_S D cls cA base s w H locs → lv_has ls 6 [] → W p l e rm_ru_workOut s m args below meth c H locs 0 0 (MQ below (wo_Q D cls cA base (some (.int r)) w') args s rm_ru_workOut.cells rm_ru_workOut.slots (wo_B base)) (F0 m 39 ls []) := by
  obtain ⟨hx, hb, hr, hml, hown, hts, hlk, hnm, hK, hG⟩ := id C
  intro  w h H locs ls hW hl
  unfold f_ru_workOut_39 at h
  refine lv_iconst (v := (0 : Int32)) hx hb d_ru_workOut_39 (by decide) ?_
  cases h
  exact wo_iret hx hb hr hlk hW d_ru_workOut_40
set_option maxHeartbeats 4000000 in
set_option maxRecDepth 100000 in
theorem j_ru_workOut_6 {p : Program} {l : Launch} {e : Env} {s : State} {m : MethodId} {args : Array Value} {below : List Frame} {meth : Method} {c : Code} {D : va_G} {cA : Nat → ClassId} {base : Nat} {r : Int32} {w' : WW} (C : cx b_ru_workOut (some .int) 6 y_ru_workOut.cls "workOut" p s m args meth c D cA base)   : ∀ n : Nat, ∀ (y0 : Nat) (y2 : Int32) (y3 : Int32) (y4 : Int32) (y5 : Int32) (w : WW), f_ru_workOut_6 n y0 y2 y3 y4 y5 w = some (.inl r, w') → ∀ (H : Heap) (locs : List Loc) (ls : Array Slot), wo_S D cls cA base s w H locs → lv_has ls 6 [(0, .ref y0), (2, .int y2), (3, .int y3), (4, .int y4), (5, .int y5)] → W p l e rm_ru_workOut s m args below meth c H locs 0 0 (MQ below (wo_Q D cls cA base (some (.int r)) w') args s rm_ru_workOut.cells rm_ru_workOut.slots (wo_B base)) (F0 m 6 ls []) := by
  obtain ⟨hx, hb, hr, hml, hown, hts, hlk, hnm, hK, hG⟩ := id C
  intro n
  induction n with
  | zero => intro y0 y2 y3 y4 y5 w h; cases h
  | succ n ih =>
    intro y0 y2 y3 y4 y5 w h H locs ls hW hl
    rw [f_ru_workOut_6] at h
    refine lv_iload hx hb d_ru_workOut_6 (lv_at hl 4 rfl) ?_
    refine lv_iload_n hx hb d_ru_workOut_8 rfl (lv_at hl 1 rfl) ?_
    refine lv_icmp_ge (tgt := 78) hx hb d_ru_workOut_9 (by decide) (fun c1 => ?_) (fun c1 => ?_)
    · rw [if_pos c1] at h
      refine lv_aload_n hx hb d_ru_workOut_78 rfl (lv_at hl 0 rfl) ?_
      replace h := bs h
      obtain ⟨x2, hx2, h⟩ := h
      refine gf_ru_22 hx hb hts hown hK hG hW (gN_s hx2) d_ru_workOut_79 ?_
      refine lv_iload_n hx hb d_ru_workOut_82 rfl (lv_at hl 2 rfl) ?_
      replace h := bs h
      obtain ⟨x3, hx3, h⟩ := h
      refine wo_iald hx hb hK hW (t := 0) rfl hx3 d_ru_workOut_83 ?_
      cases h
      exact wo_iret hx hb hr hlk hW d_ru_workOut_84
    · rw [if_neg c1] at h
      refine lv_iload hx hb d_ru_workOut_12 (lv_at hl 3 rfl) ?_
      refine lv_aload_n hx hb d_ru_workOut_14 rfl (lv_at hl 0 rfl) ?_
      replace h := bs h
      obtain ⟨x4, hx4, h⟩ := h
      refine gf_ru_32 hx hb hts hown hK hG hW (gR_s hx4) d_ru_workOut_15 ?_
      refine lv_iload hx hb d_ru_workOut_18 (lv_at hl 4 rfl) ?_
      replace h := bs h
      obtain ⟨x5, ex5, h⟩ := h
      subst ex5
      replace h := bs2 h
      obtain ⟨x7, w6, hw6, h⟩ := h
      refine cv_ru_129 (As := [.int y5]) (rest := [.int y4]) hx hb hml hown hts hK hG hW (c_pg_growthOf l D cA base hw6) (kb_pg_growthOf hw6) ⟨Nat.le_of_ble_eq_true rfl, Nat.le_of_ble_eq_true rfl⟩ ⟨Nat.le_of_ble_eq_true rfl, Nat.le_of_ble_eq_true rfl⟩ rfl hl.1 rfl (Nat.le_of_ble_eq_true rfl) d_ru_workOut_20 (fun H locs hW => ?_)
      refine lv_iadd hx hb d_ru_workOut_23 ?_
      refine lv_istore (lv' := [(4, .int (y4 + x7)), (0, .ref y0), (2, .int y2), (3, .int y3), (5, .int y5)]) hx hb d_ru_workOut_24 hl (by decide) rfl (fun ls hl => ?_)
      refine lv_iload hx hb d_ru_workOut_26 (lv_at hl 0 rfl) ?_
      refine lv_iconst (v := (1 : Int32)) hx hb d_ru_workOut_28 (by decide) ?_
      refine lv_icmp_lt (tgt := 39) hx hb d_ru_workOut_29 (by decide) (fun c8 => ?_) (fun c8 => ?_)
      · rw [if_pos c8] at h
        exact j_ru_workOut_39 C w6 h _ _ _ hW (lv_sub hl [] rfl)
      · rw [if_neg c8] at h
        refine lv_iload hx hb d_ru_workOut_32 (lv_at hl 0 rfl) ?_
        refine lv_bipush (v := (25 : Int32)) hx hb d_ru_workOut_34 (by decide) ?_
        refine lv_icmp_lt (tgt := 41) hx hb d_ru_workOut_36 (by decide) (fun c9 => ?_) (fun c9 => ?_)
        · rw [if_pos c9] at h
          refine lv_aload_n hx hb d_ru_workOut_41 rfl (lv_at hl 1 rfl) ?_
          replace h := bs h
          obtain ⟨x10, hx10, h⟩ := h
          refine gf_ru_22 hx hb hts hown hK hG hW (gN_s hx10) d_ru_workOut_42 ?_
          refine lv_iload hx hb d_ru_workOut_45 (lv_at hl 0 rfl) ?_
          refine lv_iconst (v := (1 : Int32)) hx hb d_ru_workOut_47 (by decide) ?_
          refine lv_isub hx hb d_ru_workOut_48 ?_
          refine lv_aload_n hx hb d_ru_workOut_49 rfl (lv_at hl 1 rfl) ?_
          refine lv_iload hx hb d_ru_workOut_50 (lv_at hl 4 rfl) ?_
          refine lv_aload_n hx hb d_ru_workOut_52 rfl (lv_at hl 1 rfl) ?_
          replace h := bs h
          obtain ⟨x11, hx11, h⟩ := h
          refine gf_ru_22 hx hb hts hown hK hG hW (gN_s hx11) d_ru_workOut_53 ?_
          refine lv_iload hx hb d_ru_workOut_56 (lv_at hl 0 rfl) ?_
          refine lv_iconst (v := (1 : Int32)) hx hb d_ru_workOut_58 (by decide) ?_
          refine lv_isub hx hb d_ru_workOut_59 ?_
          replace h := bs h
          obtain ⟨x12, hx12, h⟩ := h
          refine wo_iald hx hb hK hW (t := 0) rfl hx12 d_ru_workOut_60 ?_
          refine lv_aload_n hx hb d_ru_workOut_61 rfl (lv_at hl 1 rfl) ?_
          replace h := bs h
          obtain ⟨x13, hx13, h⟩ := h
          refine gf_ru_22 hx hb hts hown hK hG hW (gN_s hx13) d_ru_workOut_62 ?_
          refine lv_iload hx hb d_ru_workOut_65 (lv_at hl 0 rfl) ?_
          replace h := bs h
          obtain ⟨x14, hx14, h⟩ := h
          refine wo_iald hx hb hK hW (t := 0) rfl hx14 d_ru_workOut_67 ?_
          replace h := bsx h
          obtain ⟨x16, w15, hw15, h⟩ := h
          refine cv_ru_133 (As := [.int y5, .int x12, .int x14]) (rest := [.int ((y4 + x7) - (1 : Int32)), .ref x10]) hx hb hml hown hts hK hG hW (c_ru_doStep l D cA base hw15) (kb_ru_doStep hw15) ⟨Nat.le_of_ble_eq_true rfl, Nat.le_of_ble_eq_true rfl⟩ ⟨Nat.le_of_ble_eq_true rfl, Nat.le_of_ble_eq_true rfl⟩ rfl hl.1 rfl (Nat.le_of_ble_eq_true rfl) d_ru_workOut_68 (fun H locs hW => ?_)
          replace h := bs h
          obtain ⟨w17, hw17, h⟩ := h
          refine wo_iast hx hb hK hW (t := 0) rfl hw17 d_ru_workOut_71 (fun H locs hW => ?_)
          refine lv_iinc (v := (y5 + (1 : Int32))) (lv' := [(5, .int (y5 + (1 : Int32))), (4, .int (y4 + x7)), (0, .ref y0), (2, .int y2), (3, .int y3)]) hx hb d_ru_workOut_72 hl (k := 4) rfl rfl (by decide) rfl (fun ls hl => ?_)
          refine lv_goto (tgt := 6) hx hb d_ru_workOut_75 (by decide) ?_
          exact ih y0 y2 y3 (y4 + x7) (y5 + (1 : Int32)) w17 h _ _ _ hW (lv_sub hl [2, 3, 4, 1, 0] rfl)
        · rw [if_neg c9] at h
          exact j_ru_workOut_39 C w6 h _ _ _ hW (lv_sub hl [] rfl)
set_option maxHeartbeats 4000000 in
set_option maxRecDepth 100000 in
theorem c_ru_workOut (l : Launch) (D : va_G) (cA : Nat → ClassId) (base : Nat) {a0 : Nat} {a1 : Int32} {a2 : Int32} {a3 : Int32} {w w' : WW} {r : Int32} (h : f_ru_workOut a0 a1 a2 a3 w = some (.inl r, w')) : mt l D cls (wo_tys cA) cA base y_ru_workOut (Cond.code y_ru_workOut b_ru_workOut 6 (some .int) :: gt) rm_ru_workOut [.ref a0, .int a1, .int a2, .int a3] w (some (.int r)) w' rm_ru_workOut.cells rm_ru_workOut.slots := by
  refine mt_start (by decide) (Nat.le_of_ble_eq_true rfl) ?_
  intro p e s m below meth c ls hx hb hr hml hown hts hlk hnm hK hG hW hl
  have C : cx b_ru_workOut (some .int) 6 y_ru_workOut.cls "workOut" p s m [.ref a0, .int a1, .int a2, .int a3].toArray meth c D cA base := ⟨hx, hb, hr, hml, hown, hts, hlk, hnm, hK, hG⟩
  have hl : lv_has ls 6 [(0, .ref a0), (1, .int a1), (2, .int a2), (3, .int a3)] := hl
  unfold f_ru_workOut at h
  replace h := its h
  obtain ⟨-, h⟩ := h
  refine lv_iload_n hx hb d_ru_workOut_0 rfl (lv_at hl 3 rfl) ?_
  refine lv_istore (lv' := [(4, .int a3), (0, .ref a0), (1, .int a1), (2, .int a2), (3, .int a3)]) hx hb d_ru_workOut_1 hl (by decide) rfl (fun ls hl => ?_)
  refine lv_iload_n hx hb d_ru_workOut_3 rfl (lv_at hl 2 rfl) ?_
  refine lv_istore (lv' := [(5, .int a1), (4, .int a3), (0, .ref a0), (1, .int a1), (2, .int a2), (3, .int a3)]) hx hb d_ru_workOut_4 hl (by decide) rfl (fun ls hl => ?_)
  exact j_ru_workOut_6 C KK a0 a2 a3 a3 a1 w h _ _ _ hW (lv_sub hl [2, 4, 5, 1, 0] rfl)
set_option maxHeartbeats 4000000 in
set_option maxRecDepth 100000 in
theorem jx_ru_workOut_39 {p : Program} {l : Launch} {e : Env} {s : State} {m : MethodId} {args : Array Value} {below : List Frame} {meth : Method} {c : Code} {D : va_G} {cA : Nat → ClassId} {base : Nat} {E : String} {w' : WW} (C : cx b_ru_workOut (some .int) 6 y_ru_workOut.cls "workOut" p s m args meth c D cA base ∧ (∀ x ∈ c.exceptionTable.toList, ∀ k : Nat, covers x k = false) ∧ l.stackTraces = false)   : ∀  (w : WW), f_ru_workOut_39  w = some (.inr E, w') → ∀ (H : Heap) (locs : List Loc) (ls : Array Slot), wo_S D cls cA base s w H locs → lv_has ls 6 [] → W p l e rx_ru_workOut s m args below meth c H locs 0 0 (XQ below (wo_X D cls cA base E w' rx_ru_workOut.cells rx_ru_workOut.slots) args s) (F0 m 39 ls []) := by
  obtain ⟨hx, hb, hr, hml, hown, hts, hlk, hnm, hK, hG⟩ := id C.1
  have hnt := C.2.1
  have hst := C.2.2
  intro  w h H locs ls hW hl
  unfold f_ru_workOut_39 at h
  refine lv_iconst (v := (0 : Int32)) hx hb d_ru_workOut_39 (by decide) ?_
  cases h
set_option maxHeartbeats 4000000 in
set_option maxRecDepth 100000 in
theorem jx_ru_workOut_6 {p : Program} {l : Launch} {e : Env} {s : State} {m : MethodId} {args : Array Value} {below : List Frame} {meth : Method} {c : Code} {D : va_G} {cA : Nat → ClassId} {base : Nat} {E : String} {w' : WW} (C : cx b_ru_workOut (some .int) 6 y_ru_workOut.cls "workOut" p s m args meth c D cA base ∧ (∀ x ∈ c.exceptionTable.toList, ∀ k : Nat, covers x k = false) ∧ l.stackTraces = false)   : ∀ n : Nat, ∀ (y0 : Nat) (y2 : Int32) (y3 : Int32) (y4 : Int32) (y5 : Int32) (w : WW), f_ru_workOut_6 n y0 y2 y3 y4 y5 w = some (.inr E, w') → ∀ (H : Heap) (locs : List Loc) (ls : Array Slot), wo_S D cls cA base s w H locs → lv_has ls 6 [(0, .ref y0), (2, .int y2), (3, .int y3), (4, .int y4), (5, .int y5)] → W p l e rx_ru_workOut s m args below meth c H locs 0 0 (XQ below (wo_X D cls cA base E w' rx_ru_workOut.cells rx_ru_workOut.slots) args s) (F0 m 6 ls []) := by
  obtain ⟨hx, hb, hr, hml, hown, hts, hlk, hnm, hK, hG⟩ := id C.1
  have hnt := C.2.1
  have hst := C.2.2
  intro n
  induction n with
  | zero => intro y0 y2 y3 y4 y5 w h; cases h
  | succ n ih =>
    intro y0 y2 y3 y4 y5 w h H locs ls hW hl
    rw [f_ru_workOut_6] at h
    refine lv_iload hx hb d_ru_workOut_6 (lv_at hl 4 rfl) ?_
    refine lv_iload_n hx hb d_ru_workOut_8 rfl (lv_at hl 1 rfl) ?_
    refine lv_icmp_ge (tgt := 78) hx hb d_ru_workOut_9 (by decide) (fun c1 => ?_) (fun c1 => ?_)
    · rw [if_pos c1] at h
      refine lv_aload_n hx hb d_ru_workOut_78 rfl (lv_at hl 0 rfl) ?_
      replace h := bs h
      obtain ⟨x2, hx2, h⟩ := h
      refine gf_ru_22 hx hb hts hown hK hG hW (gN_s hx2) d_ru_workOut_79 ?_
      refine lv_iload_n hx hb d_ru_workOut_82 rfl (lv_at hl 2 rfl) ?_
      replace h := bs h
      obtain ⟨x3, hx3, h⟩ := h
      refine wo_iald hx hb hK hW (t := 0) rfl hx3 d_ru_workOut_83 ?_
      cases h
    · rw [if_neg c1] at h
      refine lv_iload hx hb d_ru_workOut_12 (lv_at hl 3 rfl) ?_
      refine lv_aload_n hx hb d_ru_workOut_14 rfl (lv_at hl 0 rfl) ?_
      replace h := bs h
      obtain ⟨x4, hx4, h⟩ := h
      refine gf_ru_32 hx hb hts hown hK hG hW (gR_s hx4) d_ru_workOut_15 ?_
      refine lv_iload hx hb d_ru_workOut_18 (lv_at hl 4 rfl) ?_
      replace h := bs h
      obtain ⟨x5, ex5, h⟩ := h
      subst ex5
      replace h := bs2 h
      obtain ⟨x7, w6, hw6, h⟩ := h
      refine cv_ru_129 (As := [.int y5]) (rest := [.int y4]) hx hb hml hown hts hK hG hW (c_pg_growthOf l D cA base hw6) (kb_pg_growthOf hw6) ⟨Nat.le_of_ble_eq_true rfl, Nat.le_of_ble_eq_true rfl⟩ ⟨Nat.le_of_ble_eq_true rfl, Nat.le_of_ble_eq_true rfl⟩ rfl hl.1 rfl (Nat.le_of_ble_eq_true rfl) d_ru_workOut_20 (fun H locs hW => ?_)
      refine lv_iadd hx hb d_ru_workOut_23 ?_
      refine lv_istore (lv' := [(4, .int (y4 + x7)), (0, .ref y0), (2, .int y2), (3, .int y3), (5, .int y5)]) hx hb d_ru_workOut_24 hl (by decide) rfl (fun ls hl => ?_)
      refine lv_iload hx hb d_ru_workOut_26 (lv_at hl 0 rfl) ?_
      refine lv_iconst (v := (1 : Int32)) hx hb d_ru_workOut_28 (by decide) ?_
      refine lv_icmp_lt (tgt := 39) hx hb d_ru_workOut_29 (by decide) (fun c8 => ?_) (fun c8 => ?_)
      · rw [if_pos c8] at h
        exact jx_ru_workOut_39 C w6 h _ _ _ hW (lv_sub hl [] rfl)
      · rw [if_neg c8] at h
        refine lv_iload hx hb d_ru_workOut_32 (lv_at hl 0 rfl) ?_
        refine lv_bipush (v := (25 : Int32)) hx hb d_ru_workOut_34 (by decide) ?_
        refine lv_icmp_lt (tgt := 41) hx hb d_ru_workOut_36 (by decide) (fun c9 => ?_) (fun c9 => ?_)
        · rw [if_pos c9] at h
          refine lv_aload_n hx hb d_ru_workOut_41 rfl (lv_at hl 1 rfl) ?_
          replace h := bs h
          obtain ⟨x10, hx10, h⟩ := h
          refine gf_ru_22 hx hb hts hown hK hG hW (gN_s hx10) d_ru_workOut_42 ?_
          refine lv_iload hx hb d_ru_workOut_45 (lv_at hl 0 rfl) ?_
          refine lv_iconst (v := (1 : Int32)) hx hb d_ru_workOut_47 (by decide) ?_
          refine lv_isub hx hb d_ru_workOut_48 ?_
          refine lv_aload_n hx hb d_ru_workOut_49 rfl (lv_at hl 1 rfl) ?_
          refine lv_iload hx hb d_ru_workOut_50 (lv_at hl 4 rfl) ?_
          refine lv_aload_n hx hb d_ru_workOut_52 rfl (lv_at hl 1 rfl) ?_
          replace h := bs h
          obtain ⟨x11, hx11, h⟩ := h
          refine gf_ru_22 hx hb hts hown hK hG hW (gN_s hx11) d_ru_workOut_53 ?_
          refine lv_iload hx hb d_ru_workOut_56 (lv_at hl 0 rfl) ?_
          refine lv_iconst (v := (1 : Int32)) hx hb d_ru_workOut_58 (by decide) ?_
          refine lv_isub hx hb d_ru_workOut_59 ?_
          replace h := bs h
          obtain ⟨x12, hx12, h⟩ := h
          refine wo_iald hx hb hK hW (t := 0) rfl hx12 d_ru_workOut_60 ?_
          refine lv_aload_n hx hb d_ru_workOut_61 rfl (lv_at hl 1 rfl) ?_
          replace h := bs h
          obtain ⟨x13, hx13, h⟩ := h
          refine gf_ru_22 hx hb hts hown hK hG hW (gN_s hx13) d_ru_workOut_62 ?_
          refine lv_iload hx hb d_ru_workOut_65 (lv_at hl 0 rfl) ?_
          replace h := bs h
          obtain ⟨x14, hx14, h⟩ := h
          refine wo_iald hx hb hK hW (t := 0) rfl hx14 d_ru_workOut_67 ?_
          rcases bsy h with hw15 | ⟨x16, w15, hw15, hnw15⟩
          · exact xv_ru_133 (As := [.int y5, .int x12, .int x14]) (rest := [.int ((y4 + x7) - (1 : Int32)), .ref x10]) hx hb hml hown hts hK hG hW (x_ru_doStep l hst D cA base hw15) (kb_ru_doStep hw15) ⟨Nat.le_of_ble_eq_true rfl, Nat.le_of_ble_eq_true rfl⟩ ⟨Nat.le_of_ble_eq_true rfl, Nat.le_of_ble_eq_true rfl⟩ rfl hl.1 rfl (Nat.le_of_ble_eq_true rfl) d_ru_workOut_68 (fun H locs q ce hW h1 h2 h3 => wo_xout hnt hlk hW h1 h2 h3 (Nat.le_of_ble_eq_true rfl) (Nat.le_of_ble_eq_true rfl))
          clear h
          have h := hnw15
          clear hnw15
          refine cv_ru_133 (As := [.int y5, .int x12, .int x14]) (rest := [.int ((y4 + x7) - (1 : Int32)), .ref x10]) hx hb hml hown hts hK hG hW (c_ru_doStep l D cA base hw15) (kb_ru_doStep hw15) ⟨Nat.le_of_ble_eq_true rfl, Nat.le_of_ble_eq_true rfl⟩ ⟨Nat.le_of_ble_eq_true rfl, Nat.le_of_ble_eq_true rfl⟩ rfl hl.1 rfl (Nat.le_of_ble_eq_true rfl) d_ru_workOut_68 (fun H locs hW => ?_)
          replace h := bs h
          obtain ⟨w17, hw17, h⟩ := h
          refine wo_iast hx hb hK hW (t := 0) rfl hw17 d_ru_workOut_71 (fun H locs hW => ?_)
          refine lv_iinc (v := (y5 + (1 : Int32))) (lv' := [(5, .int (y5 + (1 : Int32))), (4, .int (y4 + x7)), (0, .ref y0), (2, .int y2), (3, .int y3)]) hx hb d_ru_workOut_72 hl (k := 4) rfl rfl (by decide) rfl (fun ls hl => ?_)
          refine lv_goto (tgt := 6) hx hb d_ru_workOut_75 (by decide) ?_
          exact ih y0 y2 y3 (y4 + x7) (y5 + (1 : Int32)) w17 h _ _ _ hW (lv_sub hl [2, 3, 4, 1, 0] rfl)
        · rw [if_neg c9] at h
          exact jx_ru_workOut_39 C w6 h _ _ _ hW (lv_sub hl [] rfl)
set_option maxHeartbeats 4000000 in
set_option maxRecDepth 100000 in
theorem x_ru_workOut (l : Launch) (hst : l.stackTraces = false) (D : va_G) (cA : Nat → ClassId) (base : Nat) {a0 : Nat} {a1 : Int32} {a2 : Int32} {a3 : Int32} {w w' : WW} {E : String} (h : f_ru_workOut a0 a1 a2 a3 w = some (.inr E, w')) : xt l D cls (wo_tys cA) cA base y_ru_workOut (Cond.code y_ru_workOut b_ru_workOut 6 (some .int) :: gt) rx_ru_workOut [.ref a0, .int a1, .int a2, .int a3] w E w' rx_ru_workOut.cells rx_ru_workOut.slots := by
  refine xt_start (by decide) (Nat.le_of_ble_eq_true rfl) ?_
  intro p e s m below meth c ls hx hb hr hml hown hts hlk hnm hK hG hW hl hnt
  have C : cx b_ru_workOut (some .int) 6 y_ru_workOut.cls "workOut" p s m [.ref a0, .int a1, .int a2, .int a3].toArray meth c D cA base ∧ (∀ x ∈ c.exceptionTable.toList, ∀ k : Nat, covers x k = false) ∧ l.stackTraces = false := ⟨⟨hx, hb, hr, hml, hown, hts, hlk, hnm, hK, hG⟩, hnt, hst⟩
  have hl : lv_has ls 6 [(0, .ref a0), (1, .int a1), (2, .int a2), (3, .int a3)] := hl
  unfold f_ru_workOut at h
  replace h := its h
  obtain ⟨-, h⟩ := h
  refine lv_iload_n hx hb d_ru_workOut_0 rfl (lv_at hl 3 rfl) ?_
  refine lv_istore (lv' := [(4, .int a3), (0, .ref a0), (1, .int a1), (2, .int a2), (3, .int a3)]) hx hb d_ru_workOut_1 hl (by decide) rfl (fun ls hl => ?_)
  refine lv_iload_n hx hb d_ru_workOut_3 rfl (lv_at hl 2 rfl) ?_
  refine lv_istore (lv' := [(5, .int a1), (4, .int a3), (0, .ref a0), (1, .int a1), (2, .int a2), (3, .int a3)]) hx hb d_ru_workOut_4 hl (by decide) rfl (fun ls hl => ?_)
  exact jx_ru_workOut_6 C KK a0 a2 a3 a3 a1 w h _ _ _ hW (lv_sub hl [2, 4, 5, 1, 0] rfl)
abbrev b_ru_assign : ByteArray := prog_6_method_9_code
def y_ru_assign : MethodName := ⟨"AlarmForge$Runner", "assign", "(II)V"⟩
def rm_ru_assign : Room := { frames := 0, cells := 0, slots := 0, locals := 0 }
theorem d_ru_assign_0 : decode b_ru_assign 0 = .ok (.aload_n 0, 1) := by decide +kernel
theorem d_ru_assign_1 : decode b_ru_assign 1 = .ok (.getfield 9, 3) := by decide +kernel
theorem d_ru_assign_4 : decode b_ru_assign 4 = .ok (.iload_n 1, 1) := by decide +kernel
theorem d_ru_assign_5 : decode b_ru_assign 5 = .ok (.iload_n 2, 1) := by decide +kernel
theorem d_ru_assign_6 : decode b_ru_assign 6 = .ok (.iastore, 1) := by decide +kernel
theorem d_ru_assign_7 : decode b_ru_assign 7 = .ok (.aload_n 0, 1) := by decide +kernel
theorem d_ru_assign_8 : decode b_ru_assign 8 = .ok (.getfield 15, 3) := by decide +kernel
theorem d_ru_assign_11 : decode b_ru_assign 11 = .ok (.iload_n 1, 1) := by decide +kernel
theorem d_ru_assign_12 : decode b_ru_assign 12 = .ok (.iconst 0, 1) := by decide +kernel
theorem d_ru_assign_13 : decode b_ru_assign 13 = .ok (.bastore, 1) := by decide +kernel
theorem d_ru_assign_14 : decode b_ru_assign 14 = .ok (.return_, 1) := by decide +kernel
def f_ru_assign (a0 : Nat) (a1 : Int32) (a2 : Int32) (w : WW) : Option WW :=
  if kb w a0 5 = true then
    (gN w a0 5 0).bind fun x1 =>
    (sI w x1 0 a1 a2).bind fun w2 =>
    (gN w2 a0 5 1).bind fun x3 =>
    (sI w2 x3 2 a1 (vp_nar .boolean (0 : Int32))).bind fun w4 =>
    some w4
  else none
theorem kb_ru_assign {a0 : Nat} {a1 : Int32} {a2 : Int32} {w : WW} {r : WW} (h : f_ru_assign a0 a1 a2 w = some r) : kb w a0 5 = true := (its h).1
set_option maxHeartbeats 4000000 in
set_option maxRecDepth 100000 in
theorem c_ru_assign (l : Launch) (D : va_G) (cA : Nat → ClassId) (base : Nat) {a0 : Nat} {a1 : Int32} {a2 : Int32} {w w' : WW} (h : f_ru_assign a0 a1 a2 w = some w') : mt l D cls (wo_tys cA) cA base y_ru_assign (Cond.code y_ru_assign b_ru_assign 3 (none) :: gt) rm_ru_assign [.ref a0, .int a1, .int a2] w none w' rm_ru_assign.cells rm_ru_assign.slots := by
  refine mt_start (by decide) (Nat.le_of_ble_eq_true rfl) ?_
  intro p e s m below meth c ls hx hb hr hml hown hts hlk hnm hK hG hW hl
  have C : cx b_ru_assign (none) 3 y_ru_assign.cls "assign" p s m [.ref a0, .int a1, .int a2].toArray meth c D cA base := ⟨hx, hb, hr, hml, hown, hts, hlk, hnm, hK, hG⟩
  have hl : lv_has ls 3 [(0, .ref a0), (1, .int a1), (2, .int a2)] := hl
  unfold f_ru_assign at h
  replace h := its h
  obtain ⟨-, h⟩ := h
  refine lv_aload_n hx hb d_ru_assign_0 rfl (lv_at hl 0 rfl) ?_
  replace h := bs h
  obtain ⟨x1, hx1, h⟩ := h
  refine gf_ru_9 hx hb hts hown hK hG hW (gN_s hx1) d_ru_assign_1 ?_
  refine lv_iload_n hx hb d_ru_assign_4 rfl (lv_at hl 1 rfl) ?_
  refine lv_iload_n hx hb d_ru_assign_5 rfl (lv_at hl 2 rfl) ?_
  replace h := bs h
  obtain ⟨w2, hw2, h⟩ := h
  refine wo_iast hx hb hK hW (t := 0) rfl hw2 d_ru_assign_6 (fun H locs hW => ?_)
  refine lv_aload_n hx hb d_ru_assign_7 rfl (lv_at hl 0 rfl) ?_
  replace h := bs h
  obtain ⟨x3, hx3, h⟩ := h
  refine gf_ru_15 hx hb hts hown hK hG hW (gN_s hx3) d_ru_assign_8 ?_
  refine lv_iload_n hx hb d_ru_assign_11 rfl (lv_at hl 1 rfl) ?_
  refine lv_iconst (v := (0 : Int32)) hx hb d_ru_assign_12 (by decide) ?_
  replace h := bs h
  obtain ⟨w4, hw4, h⟩ := h
  refine wo_zast hx hb hK hW (t := 2) rfl hw4 d_ru_assign_13 (fun H locs hW => ?_)
  cases h
  exact wo_vret hx hb hr hlk hW d_ru_assign_14
abbrev b_ru_nextInput : ByteArray := prog_6_method_10_code
def y_ru_nextInput : MethodName := ⟨"AlarmForge$Runner", "nextInput", "()I"⟩
def rm_ru_nextInput : Room := { frames := 0, cells := 0, slots := 0, locals := 0 }
theorem d_ru_nextInput_0 : decode b_ru_nextInput 0 = .ok (.aload_n 0, 1) := by decide +kernel
theorem d_ru_nextInput_1 : decode b_ru_nextInput 1 = .ok (.getfield 55, 3) := by decide +kernel
theorem d_ru_nextInput_4 : decode b_ru_nextInput 4 = .ok (.aload_n 0, 1) := by decide +kernel
theorem d_ru_nextInput_5 : decode b_ru_nextInput 5 = .ok (.getfield 28, 3) := by decide +kernel
theorem d_ru_nextInput_8 : decode b_ru_nextInput 8 = .ok (.if_icmp .lt (5), 3) := by decide +kernel
theorem d_ru_nextInput_11 : decode b_ru_nextInput 11 = .ok (.iconst 0, 1) := by decide +kernel
theorem d_ru_nextInput_12 : decode b_ru_nextInput 12 = .ok (.ireturn, 1) := by decide +kernel
theorem d_ru_nextInput_13 : decode b_ru_nextInput 13 = .ok (.aload_n 0, 1) := by decide +kernel
theorem d_ru_nextInput_14 : decode b_ru_nextInput 14 = .ok (.dup, 1) := by decide +kernel
theorem d_ru_nextInput_15 : decode b_ru_nextInput 15 = .ok (.getfield 55, 3) := by decide +kernel
theorem d_ru_nextInput_18 : decode b_ru_nextInput 18 = .ok (.iconst 1, 1) := by decide +kernel
theorem d_ru_nextInput_19 : decode b_ru_nextInput 19 = .ok (.iadd, 1) := by decide +kernel
theorem d_ru_nextInput_20 : decode b_ru_nextInput 20 = .ok (.putfield 55, 3) := by decide +kernel
theorem d_ru_nextInput_23 : decode b_ru_nextInput 23 = .ok (.aload_n 0, 1) := by decide +kernel
theorem d_ru_nextInput_24 : decode b_ru_nextInput 24 = .ok (.getfield 25, 3) := by decide +kernel
theorem d_ru_nextInput_27 : decode b_ru_nextInput 27 = .ok (.aload_n 0, 1) := by decide +kernel
theorem d_ru_nextInput_28 : decode b_ru_nextInput 28 = .ok (.getfield 55, 3) := by decide +kernel
theorem d_ru_nextInput_31 : decode b_ru_nextInput 31 = .ok (.iconst 1, 1) := by decide +kernel
theorem d_ru_nextInput_32 : decode b_ru_nextInput 32 = .ok (.isub, 1) := by decide +kernel
theorem d_ru_nextInput_33 : decode b_ru_nextInput 33 = .ok (.iaload, 1) := by decide +kernel
theorem d_ru_nextInput_34 : decode b_ru_nextInput 34 = .ok (.ireturn, 1) := by decide +kernel
def f_ru_nextInput (a0 : Nat) (w : WW) : Option (Int32 × WW) :=
  if kb w a0 5 = true then
    (gI w a0 5 9).bind fun x1 =>
    (gI w a0 5 5).bind fun x2 =>
    if x1 < x2 then
      (gI w a0 5 9).bind fun x4 =>
      (pv w a0 5 9 (.int (x4 + (1 : Int32)))).bind fun w5 =>
      (gN w5 a0 5 4).bind fun x6 =>
      (gI w5 a0 5 9).bind fun x7 =>
      (rI w5 x6 0 (x7 - (1 : Int32))).bind fun x8 =>
      some (x8, w5)
    else
      some ((0 : Int32), w)
  else none
theorem kb_ru_nextInput {a0 : Nat}  {w : WW} {r : (Int32 × WW)} (h : f_ru_nextInput a0 w = some r) : kb w a0 5 = true := (its h).1
set_option maxHeartbeats 4000000 in
set_option maxRecDepth 100000 in
theorem c_ru_nextInput (l : Launch) (D : va_G) (cA : Nat → ClassId) (base : Nat) {a0 : Nat} {w w' : WW} {r : Int32} (h : f_ru_nextInput a0 w = some (r, w')) : mt l D cls (wo_tys cA) cA base y_ru_nextInput (Cond.code y_ru_nextInput b_ru_nextInput 1 (some .int) :: gt) rm_ru_nextInput [.ref a0] w (some (.int r)) w' rm_ru_nextInput.cells rm_ru_nextInput.slots := by
  refine mt_start (by decide) (Nat.le_of_ble_eq_true rfl) ?_
  intro p e s m below meth c ls hx hb hr hml hown hts hlk hnm hK hG hW hl
  have C : cx b_ru_nextInput (some .int) 1 y_ru_nextInput.cls "nextInput" p s m [.ref a0].toArray meth c D cA base := ⟨hx, hb, hr, hml, hown, hts, hlk, hnm, hK, hG⟩
  have hl : lv_has ls 1 [(0, .ref a0)] := hl
  unfold f_ru_nextInput at h
  replace h := its h
  obtain ⟨-, h⟩ := h
  refine lv_aload_n hx hb d_ru_nextInput_0 rfl (lv_at hl 0 rfl) ?_
  replace h := bs h
  obtain ⟨x1, hx1, h⟩ := h
  refine gf_ru_55 hx hb hts hown hK hG hW (gI_s hx1) d_ru_nextInput_1 ?_
  refine lv_aload_n hx hb d_ru_nextInput_4 rfl (lv_at hl 0 rfl) ?_
  replace h := bs h
  obtain ⟨x2, hx2, h⟩ := h
  refine gf_ru_28 hx hb hts hown hK hG hW (gI_s hx2) d_ru_nextInput_5 ?_
  refine lv_icmp_lt (tgt := 13) hx hb d_ru_nextInput_8 (by decide) (fun c3 => ?_) (fun c3 => ?_)
  · rw [if_pos c3] at h
    refine lv_aload_n hx hb d_ru_nextInput_13 rfl (lv_at hl 0 rfl) ?_
    refine lv_dup hx hb d_ru_nextInput_14 rfl ?_
    replace h := bs h
    obtain ⟨x4, hx4, h⟩ := h
    refine gf_ru_55 hx hb hts hown hK hG hW (gI_s hx4) d_ru_nextInput_15 ?_
    refine lv_iconst (v := (1 : Int32)) hx hb d_ru_nextInput_18 (by decide) ?_
    refine lv_iadd hx hb d_ru_nextInput_19 ?_
    replace h := bs h
    obtain ⟨w5, hw5, h⟩ := h
    refine pf_ru_55 hx hb hts hown hK hG hW rfl rfl hw5 d_ru_nextInput_20 (fun H locs hW => ?_)
    refine lv_aload_n hx hb d_ru_nextInput_23 rfl (lv_at hl 0 rfl) ?_
    replace h := bs h
    obtain ⟨x6, hx6, h⟩ := h
    refine gf_ru_25 hx hb hts hown hK hG hW (gN_s hx6) d_ru_nextInput_24 ?_
    refine lv_aload_n hx hb d_ru_nextInput_27 rfl (lv_at hl 0 rfl) ?_
    replace h := bs h
    obtain ⟨x7, hx7, h⟩ := h
    refine gf_ru_55 hx hb hts hown hK hG hW (gI_s hx7) d_ru_nextInput_28 ?_
    refine lv_iconst (v := (1 : Int32)) hx hb d_ru_nextInput_31 (by decide) ?_
    refine lv_isub hx hb d_ru_nextInput_32 ?_
    replace h := bs h
    obtain ⟨x8, hx8, h⟩ := h
    refine wo_iald hx hb hK hW (t := 0) rfl hx8 d_ru_nextInput_33 ?_
    cases h
    exact wo_iret hx hb hr hlk hW d_ru_nextInput_34
  · rw [if_neg c3] at h
    refine lv_iconst (v := (0 : Int32)) hx hb d_ru_nextInput_11 (by decide) ?_
    cases h
    exact wo_iret hx hb hr hlk hW d_ru_nextInput_12
theorem xv_ru_85 {p : Program} {l : Launch} {e : Env} {R : Room} {s : State} {m : MethodId} {args : Array Value} {below : List Frame} {meth : Method} {c : Code} {H : Heap} {locs : List Loc} {cells slots : Nat} {Q : State → Prop} {D : va_G} {cA : Nat → ClassId} {base : Nat} {w w' : WW} {cc : ByteArray} {pc nL : Nat} {ls : Array Slot} {rest st0 As : List Value} {E : String} {b : Nat} (hx : p.tables.exec = Jvm.exec) (hb : c.code = cc) (hml : c.maxLocals = nL) (hown : s.vm.findClass Rc_ru = some m.cls) (hts : ∀ w ∈ gt, w.before args s = true) (hK : va_K D cls (wo_tys cA) s) (hG : wo_G base s) (hW : wo_S D cls cA base s w H locs) (hM : xt l D cls (wo_tys cA) cA base y_ru_workOut (Cond.code y_ru_workOut b_ru_workOut 6 (some .int) :: gt) rx_ru_workOut (.ref b :: As) w E w' rx_ru_workOut.cells rx_ru_workOut.slots) (hkb : kb w b 5 = true) (hR : rx_ru_workOut.frames + 1 ≤ R.frames ∧ 8 + (6 + 11) + rx_ru_workOut.locals ≤ R.locals) (hf : cells + rx_ru_workOut.cells ≤ R.cells ∧ slots + rx_ru_workOut.slots ≤ R.slots) (hn : As.length = 3) (hsz : ls.size = nL) (hst : st0 = As.reverse ++ .ref b :: rest) (hcat : (rest.map fun v => v.category).sum ≤ 8) (hdg : decode cc pc = .ok (.invokevirtual 85, 3)) (kk : ∀ (H1 : Heap) (locs1 : List Loc) (q : Addr) (ce : Cell), wo_S D cls cA base s w' H1 locs1 → H1[q]? = some ce → ce.vm = .none → s.vm.findClass E = some ce.cls → XW p l e R s m args below meth c H1 locs1 (cells + rx_ru_workOut.cells) (slots + rx_ru_workOut.slots) Q (F0 m pc ls rest) q) : W p l e R s m args below meth c H locs cells slots Q (F0 m pc ls st0) :=
  wo_xcallV (C := Rc_ru) hx hb hml hown hts hK hG hW hM hkb rfl (gt_of (i := 774) (by decide +kernel) (by decide +kernel)) (gt_of (i := 776) (by decide +kernel) (by decide +kernel)) (gt_sel (i := 25) (by decide +kernel) (by decide +kernel)) (gt_of (i := 6) (by decide +kernel) (by decide +kernel)) (gt_of (i := 777) (by decide +kernel) (by decide +kernel)) (by decide +kernel) hR hf hn hsz hst hcat hdg kk
theorem cv_ru_85 {p : Program} {l : Launch} {e : Env} {R : Room} {s : State} {m : MethodId} {args : Array Value} {below : List Frame} {meth : Method} {c : Code} {H : Heap} {locs : List Loc} {cells slots : Nat} {Q : State → Prop} {D : va_G} {cA : Nat → ClassId} {base : Nat} {w w' : WW} {cc : ByteArray} {pc nL : Nat} {ls : Array Slot} {rest st0 As : List Value} {ov : Option Value} {b : Nat} (hx : p.tables.exec = Jvm.exec) (hb : c.code = cc) (hml : c.maxLocals = nL) (hown : s.vm.findClass Rc_ru = some m.cls) (hts : ∀ w ∈ gt, w.before args s = true) (hK : va_K D cls (wo_tys cA) s) (hG : wo_G base s) (hW : wo_S D cls cA base s w H locs) (hM : mt l D cls (wo_tys cA) cA base y_ru_workOut (Cond.code y_ru_workOut b_ru_workOut 6 (some .int) :: gt) rm_ru_workOut (.ref b :: As) w ov w' rm_ru_workOut.cells rm_ru_workOut.slots) (hkb : kb w b 5 = true) (hR : rm_ru_workOut.frames + 1 ≤ R.frames ∧ 8 + (6 + 11) + rm_ru_workOut.locals ≤ R.locals) (hf : cells + rm_ru_workOut.cells ≤ R.cells ∧ slots + rm_ru_workOut.slots ≤ R.slots) (hn : As.length = 3) (hsz : ls.size = nL) (hst : st0 = As.reverse ++ .ref b :: rest) (hcat : (rest.map fun v => v.category).sum ≤ 8) (hdg : decode cc pc = .ok (.invokevirtual 85, 3)) (kk : ∀ (H1 : Heap) (locs1 : List Loc), wo_S D cls cA base s w' H1 locs1 → W p l e R s m args below meth c H1 locs1 (cells + rm_ru_workOut.cells) (slots + rm_ru_workOut.slots) Q (F0 m (pc + 3) ls (ov.toList ++ rest))) : W p l e R s m args below meth c H locs cells slots Q (F0 m pc ls st0) :=
  wo_callV (C := Rc_ru) hx hb hml hown hts hK hG hW hM hkb rfl (gt_of (i := 774) (by decide +kernel) (by decide +kernel)) (gt_of (i := 776) (by decide +kernel) (by decide +kernel)) (gt_sel (i := 25) (by decide +kernel) (by decide +kernel)) (gt_of (i := 6) (by decide +kernel) (by decide +kernel)) (gt_of (i := 777) (by decide +kernel) (by decide +kernel)) (by decide +kernel) hR hf hn hsz hst hcat hdg kk
abbrev b_ru_store : ByteArray := prog_6_method_11_code
def y_ru_store : MethodName := ⟨"AlarmForge$Runner", "store", "(LAlarmForge$Statement;)V"⟩
def rm_ru_store : Room := { frames := 10, cells := 0, slots := 0, locals := 199 }
def rx_ru_store : Room := { frames := 10, cells := 1, slots := 6, locals := 199 }
theorem d_ru_store_0 : decode b_ru_store 0 = .ok (.aload_n 0, 1) := by decide +kernel
theorem d_ru_store_1 : decode b_ru_store 1 = .ok (.aload_n 1, 1) := by decide +kernel
theorem d_ru_store_2 : decode b_ru_store 2 = .ok (.getfield 76, 3) := by decide +kernel
theorem d_ru_store_5 : decode b_ru_store 5 = .ok (.aload_n 0, 1) := by decide +kernel
theorem d_ru_store_6 : decode b_ru_store 6 = .ok (.aload_n 1, 1) := by decide +kernel
theorem d_ru_store_7 : decode b_ru_store 7 = .ok (.getfield 79, 3) := by decide +kernel
theorem d_ru_store_10 : decode b_ru_store 10 = .ok (.aload_n 1, 1) := by decide +kernel
theorem d_ru_store_11 : decode b_ru_store 11 = .ok (.getfield 120, 3) := by decide +kernel
theorem d_ru_store_14 : decode b_ru_store 14 = .ok (.iconst 0, 1) := by decide +kernel
theorem d_ru_store_15 : decode b_ru_store 15 = .ok (.invokevirtual 85, 3) := by decide +kernel
theorem d_ru_store_18 : decode b_ru_store 18 = .ok (.aload_n 1, 1) := by decide +kernel
theorem d_ru_store_19 : decode b_ru_store 19 = .ok (.getfield 114, 3) := by decide +kernel
theorem d_ru_store_22 : decode b_ru_store 22 = .ok (.invokevirtual 123, 3) := by decide +kernel
theorem d_ru_store_25 : decode b_ru_store 25 = .ok (.istore_n 2, 1) := by decide +kernel
theorem d_ru_store_26 : decode b_ru_store 26 = .ok (.aload_n 0, 1) := by decide +kernel
theorem d_ru_store_27 : decode b_ru_store 27 = .ok (.getfield 19, 3) := by decide +kernel
theorem d_ru_store_30 : decode b_ru_store 30 = .ok (.iload_n 2, 1) := by decide +kernel
theorem d_ru_store_31 : decode b_ru_store 31 = .ok (.aload_n 0, 1) := by decide +kernel
theorem d_ru_store_32 : decode b_ru_store 32 = .ok (.aload_n 1, 1) := by decide +kernel
theorem d_ru_store_33 : decode b_ru_store 33 = .ok (.getfield 120, 3) := by decide +kernel
theorem d_ru_store_36 : decode b_ru_store 36 = .ok (.aload_n 1, 1) := by decide +kernel
theorem d_ru_store_37 : decode b_ru_store 37 = .ok (.getfield 82, 3) := by decide +kernel
theorem d_ru_store_40 : decode b_ru_store 40 = .ok (.iconst 0, 1) := by decide +kernel
theorem d_ru_store_41 : decode b_ru_store 41 = .ok (.invokevirtual 85, 3) := by decide +kernel
theorem d_ru_store_44 : decode b_ru_store 44 = .ok (.iastore, 1) := by decide +kernel
theorem d_ru_store_45 : decode b_ru_store 45 = .ok (.return_, 1) := by decide +kernel
def f_ru_store (a0 : Nat) (a1 : Option Nat) (w : WW) : Option ((Unit ⊕ String) × WW) :=
  if kb w a0 5 = true then
    a1.bind fun x1 =>
    (gI w x1 4 2).bind fun x2 =>
    (gI w x1 4 3).bind fun x3 =>
    (gI w x1 4 4).bind fun x4 =>
    bdx (f_ru_workOut a0 x3 x4 (0 : Int32) w) fun x6 w5 =>
    (gI w5 x1 4 1).bind fun x7 =>
    bdx (f_ru_cellOf a0 x2 x6 x7 w5) fun x9 w8 =>
    (gN w8 a0 5 2).bind fun x10 =>
    (gI w8 x1 4 4).bind fun x11 =>
    (gI w8 x1 4 5).bind fun x12 =>
    bdx (f_ru_workOut a0 x11 x12 (0 : Int32) w8) fun x14 w13 =>
    (sI w13 x10 0 x9 x14).bind fun w15 =>
    some (.inl (), w15)
  else none
theorem kb_ru_store {a0 : Nat} {a1 : Option Nat} {w : WW} {r : ((Unit ⊕ String) × WW)} (h : f_ru_store a0 a1 w = some r) : kb w a0 5 = true := (its h).1
set_option maxHeartbeats 4000000 in
set_option maxRecDepth 100000 in
theorem c_ru_store (l : Launch) (D : va_G) (cA : Nat → ClassId) (base : Nat) {a0 : Nat} {a1 : Option Nat} {w w' : WW} (h : f_ru_store a0 a1 w = some (.inl (), w')) : mt l D cls (wo_tys cA) cA base y_ru_store (Cond.code y_ru_store b_ru_store 3 (none) :: gt) rm_ru_store [.ref a0, va_rf a1] w none w' rm_ru_store.cells rm_ru_store.slots := by
  refine mt_start (by decide) (by simp only [lg_sl_0, lg_sl_1, lg_sl_2, lg_sl_3, lg_sl_rf]; decide) ?_
  intro p e s m below meth c ls hx hb hr hml hown hts hlk hnm hK hG hW hl
  have C : cx b_ru_store (none) 3 y_ru_store.cls "store" p s m [.ref a0, va_rf a1].toArray meth c D cA base := ⟨hx, hb, hr, hml, hown, hts, hlk, hnm, hK, hG⟩
  have hl : lv_has ls 3 [(0, .ref a0), (1, va_rf a1)] := by simp only [lv_args_0, lv_args_1, lv_args_2, lv_args_3, lv_args_rf] at hl; exact hl
  unfold f_ru_store at h
  replace h := its h
  obtain ⟨-, h⟩ := h
  refine lv_aload_n hx hb d_ru_store_0 rfl (lv_at hl 0 rfl) ?_
  refine wo_aload_n hx hb d_ru_store_1 rfl (lv_at hl 1 rfl) ?_
  replace h := bs h
  obtain ⟨x1, ex1, h⟩ := h
  subst ex1
  replace h := bs h
  obtain ⟨x2, hx2, h⟩ := h
  refine gf_ru_76 hx hb hts hown hK hG hW (gI_s hx2) d_ru_store_2 ?_
  have hl : lv_has ls 3 [(0, .ref a0), (1, .ref x1)] := hl
  refine lv_aload_n hx hb d_ru_store_5 rfl (lv_at hl 0 rfl) ?_
  refine lv_aload_n hx hb d_ru_store_6 rfl (lv_at hl 1 rfl) ?_
  replace h := bs h
  obtain ⟨x3, hx3, h⟩ := h
  refine gf_ru_79 hx hb hts hown hK hG hW (gI_s hx3) d_ru_store_7 ?_
  refine lv_aload_n hx hb d_ru_store_10 rfl (lv_at hl 1 rfl) ?_
  replace h := bs h
  obtain ⟨x4, hx4, h⟩ := h
  refine gf_ru_120 hx hb hts hown hK hG hW (gI_s hx4) d_ru_store_11 ?_
  refine lv_iconst (v := (0 : Int32)) hx hb d_ru_store_14 (by decide) ?_
  replace h := bsx h
  obtain ⟨x6, w5, hw5, h⟩ := h
  refine cv_ru_85 (As := [.int x3, .int x4, .int (0 : Int32)]) (rest := [.int x2, .ref a0]) hx hb hml hown hts hK hG hW (c_ru_workOut l D cA base hw5) (kb_ru_workOut hw5) ⟨Nat.le_of_ble_eq_true rfl, Nat.le_of_ble_eq_true rfl⟩ ⟨Nat.le_of_ble_eq_true rfl, Nat.le_of_ble_eq_true rfl⟩ rfl hl.1 rfl (Nat.le_of_ble_eq_true rfl) d_ru_store_15 (fun H locs hW => ?_)
  refine lv_aload_n hx hb d_ru_store_18 rfl (lv_at hl 1 rfl) ?_
  replace h := bs h
  obtain ⟨x7, hx7, h⟩ := h
  refine gf_ru_114 hx hb hts hown hK hG hW (gI_s hx7) d_ru_store_19 ?_
  replace h := bsx h
  obtain ⟨x9, w8, hw8, h⟩ := h
  refine cv_ru_123 (As := [.int x2, .int x6, .int x7]) (rest := []) hx hb hml hown hts hK hG hW (c_ru_cellOf l D cA base hw8) (kb_ru_cellOf hw8) ⟨Nat.le_of_ble_eq_true rfl, Nat.le_of_ble_eq_true rfl⟩ ⟨Nat.le_of_ble_eq_true rfl, Nat.le_of_ble_eq_true rfl⟩ rfl hl.1 rfl (Nat.le_of_ble_eq_true rfl) d_ru_store_22 (fun H locs hW => ?_)
  refine lv_istore_n (lv' := [(2, .int x9), (0, .ref a0), (1, .ref x1)]) hx hb d_ru_store_25 rfl hl (by decide) rfl (fun ls hl => ?_)
  refine lv_aload_n hx hb d_ru_store_26 rfl (lv_at hl 1 rfl) ?_
  replace h := bs h
  obtain ⟨x10, hx10, h⟩ := h
  refine gf_ru_19 hx hb hts hown hK hG hW (gN_s hx10) d_ru_store_27 ?_
  refine lv_iload_n hx hb d_ru_store_30 rfl (lv_at hl 0 rfl) ?_
  refine lv_aload_n hx hb d_ru_store_31 rfl (lv_at hl 1 rfl) ?_
  refine lv_aload_n hx hb d_ru_store_32 rfl (lv_at hl 2 rfl) ?_
  replace h := bs h
  obtain ⟨x11, hx11, h⟩ := h
  refine gf_ru_120 hx hb hts hown hK hG hW (gI_s hx11) d_ru_store_33 ?_
  refine lv_aload_n hx hb d_ru_store_36 rfl (lv_at hl 2 rfl) ?_
  replace h := bs h
  obtain ⟨x12, hx12, h⟩ := h
  refine gf_ru_82 hx hb hts hown hK hG hW (gI_s hx12) d_ru_store_37 ?_
  refine lv_iconst (v := (0 : Int32)) hx hb d_ru_store_40 (by decide) ?_
  replace h := bsx h
  obtain ⟨x14, w13, hw13, h⟩ := h
  refine cv_ru_85 (As := [.int x11, .int x12, .int (0 : Int32)]) (rest := [.int x9, .ref x10]) hx hb hml hown hts hK hG hW (c_ru_workOut l D cA base hw13) (kb_ru_workOut hw13) ⟨Nat.le_of_ble_eq_true rfl, Nat.le_of_ble_eq_true rfl⟩ ⟨Nat.le_of_ble_eq_true rfl, Nat.le_of_ble_eq_true rfl⟩ rfl hl.1 rfl (Nat.le_of_ble_eq_true rfl) d_ru_store_41 (fun H locs hW => ?_)
  replace h := bs h
  obtain ⟨w15, hw15, h⟩ := h
  refine wo_iast hx hb hK hW (t := 0) rfl hw15 d_ru_store_44 (fun H locs hW => ?_)
  cases h
  exact wo_vret hx hb hr hlk hW d_ru_store_45
set_option maxHeartbeats 4000000 in
set_option maxRecDepth 100000 in
theorem x_ru_store (l : Launch) (hst : l.stackTraces = false) (D : va_G) (cA : Nat → ClassId) (base : Nat) {a0 : Nat} {a1 : Option Nat} {w w' : WW} {E : String} (h : f_ru_store a0 a1 w = some (.inr E, w')) : xt l D cls (wo_tys cA) cA base y_ru_store (Cond.code y_ru_store b_ru_store 3 (none) :: gt) rx_ru_store [.ref a0, va_rf a1] w E w' rx_ru_store.cells rx_ru_store.slots := by
  refine xt_start (by decide) (by simp only [lg_sl_0, lg_sl_1, lg_sl_2, lg_sl_3, lg_sl_rf]; decide) ?_
  intro p e s m below meth c ls hx hb hr hml hown hts hlk hnm hK hG hW hl hnt
  have C : cx b_ru_store (none) 3 y_ru_store.cls "store" p s m [.ref a0, va_rf a1].toArray meth c D cA base ∧ (∀ x ∈ c.exceptionTable.toList, ∀ k : Nat, covers x k = false) ∧ l.stackTraces = false := ⟨⟨hx, hb, hr, hml, hown, hts, hlk, hnm, hK, hG⟩, hnt, hst⟩
  have hl : lv_has ls 3 [(0, .ref a0), (1, va_rf a1)] := by simp only [lv_args_0, lv_args_1, lv_args_2, lv_args_3, lv_args_rf] at hl; exact hl
  unfold f_ru_store at h
  replace h := its h
  obtain ⟨-, h⟩ := h
  refine lv_aload_n hx hb d_ru_store_0 rfl (lv_at hl 0 rfl) ?_
  refine wo_aload_n hx hb d_ru_store_1 rfl (lv_at hl 1 rfl) ?_
  replace h := bs h
  obtain ⟨x1, ex1, h⟩ := h
  subst ex1
  replace h := bs h
  obtain ⟨x2, hx2, h⟩ := h
  refine gf_ru_76 hx hb hts hown hK hG hW (gI_s hx2) d_ru_store_2 ?_
  have hl : lv_has ls 3 [(0, .ref a0), (1, .ref x1)] := hl
  refine lv_aload_n hx hb d_ru_store_5 rfl (lv_at hl 0 rfl) ?_
  refine lv_aload_n hx hb d_ru_store_6 rfl (lv_at hl 1 rfl) ?_
  replace h := bs h
  obtain ⟨x3, hx3, h⟩ := h
  refine gf_ru_79 hx hb hts hown hK hG hW (gI_s hx3) d_ru_store_7 ?_
  refine lv_aload_n hx hb d_ru_store_10 rfl (lv_at hl 1 rfl) ?_
  replace h := bs h
  obtain ⟨x4, hx4, h⟩ := h
  refine gf_ru_120 hx hb hts hown hK hG hW (gI_s hx4) d_ru_store_11 ?_
  refine lv_iconst (v := (0 : Int32)) hx hb d_ru_store_14 (by decide) ?_
  rcases bsy h with hw5 | ⟨x6, w5, hw5, hnw5⟩
  · exact xv_ru_85 (As := [.int x3, .int x4, .int (0 : Int32)]) (rest := [.int x2, .ref a0]) hx hb hml hown hts hK hG hW (x_ru_workOut l hst D cA base hw5) (kb_ru_workOut hw5) ⟨Nat.le_of_ble_eq_true rfl, Nat.le_of_ble_eq_true rfl⟩ ⟨Nat.le_of_ble_eq_true rfl, Nat.le_of_ble_eq_true rfl⟩ rfl hl.1 rfl (Nat.le_of_ble_eq_true rfl) d_ru_store_15 (fun H locs q ce hW h1 h2 h3 => wo_xout hnt hlk hW h1 h2 h3 (Nat.le_of_ble_eq_true rfl) (Nat.le_of_ble_eq_true rfl))
  clear h
  have h := hnw5
  clear hnw5
  refine cv_ru_85 (As := [.int x3, .int x4, .int (0 : Int32)]) (rest := [.int x2, .ref a0]) hx hb hml hown hts hK hG hW (c_ru_workOut l D cA base hw5) (kb_ru_workOut hw5) ⟨Nat.le_of_ble_eq_true rfl, Nat.le_of_ble_eq_true rfl⟩ ⟨Nat.le_of_ble_eq_true rfl, Nat.le_of_ble_eq_true rfl⟩ rfl hl.1 rfl (Nat.le_of_ble_eq_true rfl) d_ru_store_15 (fun H locs hW => ?_)
  refine lv_aload_n hx hb d_ru_store_18 rfl (lv_at hl 1 rfl) ?_
  replace h := bs h
  obtain ⟨x7, hx7, h⟩ := h
  refine gf_ru_114 hx hb hts hown hK hG hW (gI_s hx7) d_ru_store_19 ?_
  rcases bsy h with hw8 | ⟨x9, w8, hw8, hnw8⟩
  · exact xv_ru_123 (As := [.int x2, .int x6, .int x7]) (rest := []) hx hb hml hown hts hK hG hW (x_ru_cellOf l hst D cA base hw8) (kb_ru_cellOf hw8) ⟨Nat.le_of_ble_eq_true rfl, Nat.le_of_ble_eq_true rfl⟩ ⟨Nat.le_of_ble_eq_true rfl, Nat.le_of_ble_eq_true rfl⟩ rfl hl.1 rfl (Nat.le_of_ble_eq_true rfl) d_ru_store_22 (fun H locs q ce hW h1 h2 h3 => wo_xout hnt hlk hW h1 h2 h3 (Nat.le_of_ble_eq_true rfl) (Nat.le_of_ble_eq_true rfl))
  clear h
  have h := hnw8
  clear hnw8
  refine cv_ru_123 (As := [.int x2, .int x6, .int x7]) (rest := []) hx hb hml hown hts hK hG hW (c_ru_cellOf l D cA base hw8) (kb_ru_cellOf hw8) ⟨Nat.le_of_ble_eq_true rfl, Nat.le_of_ble_eq_true rfl⟩ ⟨Nat.le_of_ble_eq_true rfl, Nat.le_of_ble_eq_true rfl⟩ rfl hl.1 rfl (Nat.le_of_ble_eq_true rfl) d_ru_store_22 (fun H locs hW => ?_)
  refine lv_istore_n (lv' := [(2, .int x9), (0, .ref a0), (1, .ref x1)]) hx hb d_ru_store_25 rfl hl (by decide) rfl (fun ls hl => ?_)
  refine lv_aload_n hx hb d_ru_store_26 rfl (lv_at hl 1 rfl) ?_
  replace h := bs h
  obtain ⟨x10, hx10, h⟩ := h
  refine gf_ru_19 hx hb hts hown hK hG hW (gN_s hx10) d_ru_store_27 ?_
  refine lv_iload_n hx hb d_ru_store_30 rfl (lv_at hl 0 rfl) ?_
  refine lv_aload_n hx hb d_ru_store_31 rfl (lv_at hl 1 rfl) ?_
  refine lv_aload_n hx hb d_ru_store_32 rfl (lv_at hl 2 rfl) ?_
  replace h := bs h
  obtain ⟨x11, hx11, h⟩ := h
  refine gf_ru_120 hx hb hts hown hK hG hW (gI_s hx11) d_ru_store_33 ?_
  refine lv_aload_n hx hb d_ru_store_36 rfl (lv_at hl 2 rfl) ?_
  replace h := bs h
  obtain ⟨x12, hx12, h⟩ := h
  refine gf_ru_82 hx hb hts hown hK hG hW (gI_s hx12) d_ru_store_37 ?_
  refine lv_iconst (v := (0 : Int32)) hx hb d_ru_store_40 (by decide) ?_
  rcases bsy h with hw13 | ⟨x14, w13, hw13, hnw13⟩
  · exact xv_ru_85 (As := [.int x11, .int x12, .int (0 : Int32)]) (rest := [.int x9, .ref x10]) hx hb hml hown hts hK hG hW (x_ru_workOut l hst D cA base hw13) (kb_ru_workOut hw13) ⟨Nat.le_of_ble_eq_true rfl, Nat.le_of_ble_eq_true rfl⟩ ⟨Nat.le_of_ble_eq_true rfl, Nat.le_of_ble_eq_true rfl⟩ rfl hl.1 rfl (Nat.le_of_ble_eq_true rfl) d_ru_store_41 (fun H locs q ce hW h1 h2 h3 => wo_xout hnt hlk hW h1 h2 h3 (Nat.le_of_ble_eq_true rfl) (Nat.le_of_ble_eq_true rfl))
  clear h
  have h := hnw13
  clear hnw13
  refine cv_ru_85 (As := [.int x11, .int x12, .int (0 : Int32)]) (rest := [.int x9, .ref x10]) hx hb hml hown hts hK hG hW (c_ru_workOut l D cA base hw13) (kb_ru_workOut hw13) ⟨Nat.le_of_ble_eq_true rfl, Nat.le_of_ble_eq_true rfl⟩ ⟨Nat.le_of_ble_eq_true rfl, Nat.le_of_ble_eq_true rfl⟩ rfl hl.1 rfl (Nat.le_of_ble_eq_true rfl) d_ru_store_41 (fun H locs hW => ?_)
  replace h := bs h
  obtain ⟨w15, hw15, h⟩ := h
  refine wo_iast hx hb hK hW (t := 0) rfl hw15 d_ru_store_44 (fun H locs hW => ?_)
  cases h
abbrev b_ru_holds : ByteArray := prog_6_method_13_code
def y_ru_holds : MethodName := ⟨"AlarmForge$Runner", "holds", "(LAlarmForge$Statement;)Z"⟩
def rm_ru_holds : Room := { frames := 10, cells := 0, slots := 0, locals := 199 }
def rx_ru_holds : Room := { frames := 10, cells := 1, slots := 6, locals := 199 }
theorem d_ru_holds_0 : decode b_ru_holds 0 = .ok (.aload_n 0, 1) := by decide +kernel
theorem d_ru_holds_1 : decode b_ru_holds 1 = .ok (.aload_n 1, 1) := by decide +kernel
theorem d_ru_holds_2 : decode b_ru_holds 2 = .ok (.getfield 79, 3) := by decide +kernel
theorem d_ru_holds_5 : decode b_ru_holds 5 = .ok (.aload_n 1, 1) := by decide +kernel
theorem d_ru_holds_6 : decode b_ru_holds 6 = .ok (.getfield 120, 3) := by decide +kernel
theorem d_ru_holds_9 : decode b_ru_holds 9 = .ok (.iconst 0, 1) := by decide +kernel
theorem d_ru_holds_10 : decode b_ru_holds 10 = .ok (.invokevirtual 85, 3) := by decide +kernel
theorem d_ru_holds_13 : decode b_ru_holds 13 = .ok (.istore_n 2, 1) := by decide +kernel
theorem d_ru_holds_14 : decode b_ru_holds 14 = .ok (.aload_n 0, 1) := by decide +kernel
theorem d_ru_holds_15 : decode b_ru_holds 15 = .ok (.aload_n 1, 1) := by decide +kernel
theorem d_ru_holds_16 : decode b_ru_holds 16 = .ok (.getfield 120, 3) := by decide +kernel
theorem d_ru_holds_19 : decode b_ru_holds 19 = .ok (.aload_n 1, 1) := by decide +kernel
theorem d_ru_holds_20 : decode b_ru_holds 20 = .ok (.getfield 82, 3) := by decide +kernel
theorem d_ru_holds_23 : decode b_ru_holds 23 = .ok (.iconst 1, 1) := by decide +kernel
theorem d_ru_holds_24 : decode b_ru_holds 24 = .ok (.invokevirtual 85, 3) := by decide +kernel
theorem d_ru_holds_27 : decode b_ru_holds 27 = .ok (.istore_n 3, 1) := by decide +kernel
theorem d_ru_holds_28 : decode b_ru_holds 28 = .ok (.aload_n 1, 1) := by decide +kernel
theorem d_ru_holds_29 : decode b_ru_holds 29 = .ok (.getfield 126, 3) := by decide +kernel
theorem d_ru_holds_32 : decode b_ru_holds 32 = .ok (.lookupswitch (69) #[(60, 58), (256, 36), (257, 47)], 36) := by decide +kernel
theorem d_ru_holds_68 : decode b_ru_holds 68 = .ok (.iload_n 2, 1) := by decide +kernel
theorem d_ru_holds_69 : decode b_ru_holds 69 = .ok (.iload_n 3, 1) := by decide +kernel
theorem d_ru_holds_70 : decode b_ru_holds 70 = .ok (.if_icmp .ne (7), 3) := by decide +kernel
theorem d_ru_holds_73 : decode b_ru_holds 73 = .ok (.iconst 1, 1) := by decide +kernel
theorem d_ru_holds_74 : decode b_ru_holds 74 = .ok (.goto (4), 3) := by decide +kernel
theorem d_ru_holds_77 : decode b_ru_holds 77 = .ok (.iconst 0, 1) := by decide +kernel
theorem d_ru_holds_78 : decode b_ru_holds 78 = .ok (.ireturn, 1) := by decide +kernel
theorem d_ru_holds_79 : decode b_ru_holds 79 = .ok (.iload_n 2, 1) := by decide +kernel
theorem d_ru_holds_80 : decode b_ru_holds 80 = .ok (.iload_n 3, 1) := by decide +kernel
theorem d_ru_holds_81 : decode b_ru_holds 81 = .ok (.if_icmp .eq (7), 3) := by decide +kernel
theorem d_ru_holds_84 : decode b_ru_holds 84 = .ok (.iconst 1, 1) := by decide +kernel
theorem d_ru_holds_85 : decode b_ru_holds 85 = .ok (.goto (4), 3) := by decide +kernel
theorem d_ru_holds_88 : decode b_ru_holds 88 = .ok (.iconst 0, 1) := by decide +kernel
theorem d_ru_holds_89 : decode b_ru_holds 89 = .ok (.ireturn, 1) := by decide +kernel
theorem d_ru_holds_90 : decode b_ru_holds 90 = .ok (.iload_n 2, 1) := by decide +kernel
theorem d_ru_holds_91 : decode b_ru_holds 91 = .ok (.iload_n 3, 1) := by decide +kernel
theorem d_ru_holds_92 : decode b_ru_holds 92 = .ok (.if_icmp .ge (7), 3) := by decide +kernel
theorem d_ru_holds_95 : decode b_ru_holds 95 = .ok (.iconst 1, 1) := by decide +kernel
theorem d_ru_holds_96 : decode b_ru_holds 96 = .ok (.goto (4), 3) := by decide +kernel
theorem d_ru_holds_99 : decode b_ru_holds 99 = .ok (.iconst 0, 1) := by decide +kernel
theorem d_ru_holds_100 : decode b_ru_holds 100 = .ok (.ireturn, 1) := by decide +kernel
theorem d_ru_holds_101 : decode b_ru_holds 101 = .ok (.iload_n 2, 1) := by decide +kernel
theorem d_ru_holds_102 : decode b_ru_holds 102 = .ok (.iload_n 3, 1) := by decide +kernel
theorem d_ru_holds_103 : decode b_ru_holds 103 = .ok (.if_icmp .gt (7), 3) := by decide +kernel
theorem d_ru_holds_106 : decode b_ru_holds 106 = .ok (.iconst 1, 1) := by decide +kernel
theorem d_ru_holds_107 : decode b_ru_holds 107 = .ok (.goto (4), 3) := by decide +kernel
theorem d_ru_holds_110 : decode b_ru_holds 110 = .ok (.iconst 0, 1) := by decide +kernel
theorem d_ru_holds_111 : decode b_ru_holds 111 = .ok (.ireturn, 1) := by decide +kernel
def f_ru_holds_100  (z0 : Int32) (w : WW) : Option ((Int32 ⊕ String) × WW) :=
  if z0 = 0 ∨ z0 = 1 then some (.inl z0, w) else none
def f_ru_holds_78  (z0 : Int32) (w : WW) : Option ((Int32 ⊕ String) × WW) :=
  if z0 = 0 ∨ z0 = 1 then some (.inl z0, w) else none
def f_ru_holds_89  (z0 : Int32) (w : WW) : Option ((Int32 ⊕ String) × WW) :=
  if z0 = 0 ∨ z0 = 1 then some (.inl z0, w) else none
def f_ru_holds_111  (z0 : Int32) (w : WW) : Option ((Int32 ⊕ String) × WW) :=
  if z0 = 0 ∨ z0 = 1 then some (.inl z0, w) else none
def f_ru_holds (a0 : Nat) (a1 : Option Nat) (w : WW) : Option ((Int32 ⊕ String) × WW) :=
  if kb w a0 5 = true then
    a1.bind fun x1 =>
    (gI w x1 4 3).bind fun x2 =>
    (gI w x1 4 4).bind fun x3 =>
    bdx (f_ru_workOut a0 x2 x3 (0 : Int32) w) fun x5 w4 =>
    (gI w4 x1 4 4).bind fun x6 =>
    (gI w4 x1 4 5).bind fun x7 =>
    bdx (f_ru_workOut a0 x6 x7 (1 : Int32) w4) fun x9 w8 =>
    (gI w8 x1 4 6).bind fun x10 =>
    if x10 = (60 : Int32) then
      if x9 ≤ x5 then
        f_ru_holds_100 (0 : Int32) w8
      else
        f_ru_holds_100 (1 : Int32) w8
    else
      if x10 = (256 : Int32) then
        if x5 = x9 then
          f_ru_holds_78 (1 : Int32) w8
        else
          f_ru_holds_78 (0 : Int32) w8
      else
        if x10 = (257 : Int32) then
          if x5 = x9 then
            f_ru_holds_89 (0 : Int32) w8
          else
            f_ru_holds_89 (1 : Int32) w8
        else
          if x9 < x5 then
            f_ru_holds_111 (0 : Int32) w8
          else
            f_ru_holds_111 (1 : Int32) w8
  else none
theorem kb_ru_holds {a0 : Nat} {a1 : Option Nat} {w : WW} {r : ((Int32 ⊕ String) × WW)} (h : f_ru_holds a0 a1 w = some r) : kb w a0 5 = true := (its h).1
set_option maxHeartbeats 4000000 in
set_option maxRecDepth 100000 in
theorem j_ru_holds_100 {p : Program} {l : Launch} {e : Env} {s : State} {m : MethodId} {args : Array Value} {below : List Frame} {meth : Method} {c : Code} {D : va_G} {cA : Nat → ClassId} {base : Nat} {r : Int32} {w' : WW} (C : cx b_ru_holds (some .boolean) 4 y_ru_holds.cls "holds" p s m args meth c D cA base)   : ∀ (z0 : Int32) (w : WW), f_ru_holds_100 z0 w = some (.inl r, w') → ∀ (H : Heap) (locs : List Loc) (ls : Array Slot), wo_S D cls cA base s w H locs → lv_has ls 4 [] → W p l e rm_ru_holds s m args below meth c H locs 0 0 (MQ below (wo_Q D cls cA base (some (.int r)) w') args s rm_ru_holds.cells rm_ru_holds.slots (wo_B base)) (F0 m 100 ls [.int z0]) := by
  obtain ⟨hx, hb, hr, hml, hown, hts, hlk, hnm, hK, hG⟩ := id C
  intro z0 w h H locs ls hW hl
  unfold f_ru_holds_100 at h
  replace h := its h
  obtain ⟨c13, h⟩ := h
  cases h
  exact wo_zret hx hb hr hlk hW c13 d_ru_holds_100
set_option maxHeartbeats 4000000 in
set_option maxRecDepth 100000 in
theorem j_ru_holds_78 {p : Program} {l : Launch} {e : Env} {s : State} {m : MethodId} {args : Array Value} {below : List Frame} {meth : Method} {c : Code} {D : va_G} {cA : Nat → ClassId} {base : Nat} {r : Int32} {w' : WW} (C : cx b_ru_holds (some .boolean) 4 y_ru_holds.cls "holds" p s m args meth c D cA base)   : ∀ (z0 : Int32) (w : WW), f_ru_holds_78 z0 w = some (.inl r, w') → ∀ (H : Heap) (locs : List Loc) (ls : Array Slot), wo_S D cls cA base s w H locs → lv_has ls 4 [] → W p l e rm_ru_holds s m args below meth c H locs 0 0 (MQ below (wo_Q D cls cA base (some (.int r)) w') args s rm_ru_holds.cells rm_ru_holds.slots (wo_B base)) (F0 m 78 ls [.int z0]) := by
  obtain ⟨hx, hb, hr, hml, hown, hts, hlk, hnm, hK, hG⟩ := id C
  intro z0 w h H locs ls hW hl
  unfold f_ru_holds_78 at h
  replace h := its h
  obtain ⟨c16, h⟩ := h
  cases h
  exact wo_zret hx hb hr hlk hW c16 d_ru_holds_78
set_option maxHeartbeats 4000000 in
set_option maxRecDepth 100000 in
theorem j_ru_holds_89 {p : Program} {l : Launch} {e : Env} {s : State} {m : MethodId} {args : Array Value} {below : List Frame} {meth : Method} {c : Code} {D : va_G} {cA : Nat → ClassId} {base : Nat} {r : Int32} {w' : WW} (C : cx b_ru_holds (some .boolean) 4 y_ru_holds.cls "holds" p s m args meth c D cA base)   : ∀ (z0 : Int32) (w : WW), f_ru_holds_89 z0 w = some (.inl r, w') → ∀ (H : Heap) (locs : List Loc) (ls : Array Slot), wo_S D cls cA base s w H locs → lv_has ls 4 [] → W p l e rm_ru_holds s m args below meth c H locs 0 0 (MQ below (wo_Q D cls cA base (some (.int r)) w') args s rm_ru_holds.cells rm_ru_holds.slots (wo_B base)) (F0 m 89 ls [.int z0]) := by
  obtain ⟨hx, hb, hr, hml, hown, hts, hlk, hnm, hK, hG⟩ := id C
  intro z0 w h H locs ls hW hl
  unfold f_ru_holds_89 at h
  replace h := its h
  obtain ⟨c19, h⟩ := h
  cases h
  exact wo_zret hx hb hr hlk hW c19 d_ru_holds_89
set_option maxHeartbeats 4000000 in
set_option maxRecDepth 100000 in
theorem j_ru_holds_111 {p : Program} {l : Launch} {e : Env} {s : State} {m : MethodId} {args : Array Value} {below : List Frame} {meth : Method} {c : Code} {D : va_G} {cA : Nat → ClassId} {base : Nat} {r : Int32} {w' : WW} (C : cx b_ru_holds (some .boolean) 4 y_ru_holds.cls "holds" p s m args meth c D cA base)   : ∀ (z0 : Int32) (w : WW), f_ru_holds_111 z0 w = some (.inl r, w') → ∀ (H : Heap) (locs : List Loc) (ls : Array Slot), wo_S D cls cA base s w H locs → lv_has ls 4 [] → W p l e rm_ru_holds s m args below meth c H locs 0 0 (MQ below (wo_Q D cls cA base (some (.int r)) w') args s rm_ru_holds.cells rm_ru_holds.slots (wo_B base)) (F0 m 111 ls [.int z0]) := by
  obtain ⟨hx, hb, hr, hml, hown, hts, hlk, hnm, hK, hG⟩ := id C
  intro z0 w h H locs ls hW hl
  unfold f_ru_holds_111 at h
  replace h := its h
  obtain ⟨c21, h⟩ := h
  cases h
  exact wo_zret hx hb hr hlk hW c21 d_ru_holds_111
set_option maxHeartbeats 4000000 in
set_option maxRecDepth 100000 in
theorem c_ru_holds (l : Launch) (D : va_G) (cA : Nat → ClassId) (base : Nat) {a0 : Nat} {a1 : Option Nat} {w w' : WW} {r : Int32} (h : f_ru_holds a0 a1 w = some (.inl r, w')) : mt l D cls (wo_tys cA) cA base y_ru_holds (Cond.code y_ru_holds b_ru_holds 4 (some .boolean) :: gt) rm_ru_holds [.ref a0, va_rf a1] w (some (.int r)) w' rm_ru_holds.cells rm_ru_holds.slots := by
  refine mt_start (by decide) (by simp only [lg_sl_0, lg_sl_1, lg_sl_2, lg_sl_3, lg_sl_rf]; decide) ?_
  intro p e s m below meth c ls hx hb hr hml hown hts hlk hnm hK hG hW hl
  have C : cx b_ru_holds (some .boolean) 4 y_ru_holds.cls "holds" p s m [.ref a0, va_rf a1].toArray meth c D cA base := ⟨hx, hb, hr, hml, hown, hts, hlk, hnm, hK, hG⟩
  have hl : lv_has ls 4 [(0, .ref a0), (1, va_rf a1)] := by simp only [lv_args_0, lv_args_1, lv_args_2, lv_args_3, lv_args_rf] at hl; exact hl
  unfold f_ru_holds at h
  replace h := its h
  obtain ⟨-, h⟩ := h
  refine lv_aload_n hx hb d_ru_holds_0 rfl (lv_at hl 0 rfl) ?_
  refine wo_aload_n hx hb d_ru_holds_1 rfl (lv_at hl 1 rfl) ?_
  replace h := bs h
  obtain ⟨x1, ex1, h⟩ := h
  subst ex1
  replace h := bs h
  obtain ⟨x2, hx2, h⟩ := h
  refine gf_ru_79 hx hb hts hown hK hG hW (gI_s hx2) d_ru_holds_2 ?_
  have hl : lv_has ls 4 [(0, .ref a0), (1, .ref x1)] := hl
  refine lv_aload_n hx hb d_ru_holds_5 rfl (lv_at hl 1 rfl) ?_
  replace h := bs h
  obtain ⟨x3, hx3, h⟩ := h
  refine gf_ru_120 hx hb hts hown hK hG hW (gI_s hx3) d_ru_holds_6 ?_
  refine lv_iconst (v := (0 : Int32)) hx hb d_ru_holds_9 (by decide) ?_
  replace h := bsx h
  obtain ⟨x5, w4, hw4, h⟩ := h
  refine cv_ru_85 (As := [.int x2, .int x3, .int (0 : Int32)]) (rest := []) hx hb hml hown hts hK hG hW (c_ru_workOut l D cA base hw4) (kb_ru_workOut hw4) ⟨Nat.le_of_ble_eq_true rfl, Nat.le_of_ble_eq_true rfl⟩ ⟨Nat.le_of_ble_eq_true rfl, Nat.le_of_ble_eq_true rfl⟩ rfl hl.1 rfl (Nat.le_of_ble_eq_true rfl) d_ru_holds_10 (fun H locs hW => ?_)
  refine lv_istore_n (lv' := [(2, .int x5), (0, .ref a0), (1, .ref x1)]) hx hb d_ru_holds_13 rfl hl (by decide) rfl (fun ls hl => ?_)
  refine lv_aload_n hx hb d_ru_holds_14 rfl (lv_at hl 1 rfl) ?_
  refine lv_aload_n hx hb d_ru_holds_15 rfl (lv_at hl 2 rfl) ?_
  replace h := bs h
  obtain ⟨x6, hx6, h⟩ := h
  refine gf_ru_120 hx hb hts hown hK hG hW (gI_s hx6) d_ru_holds_16 ?_
  refine lv_aload_n hx hb d_ru_holds_19 rfl (lv_at hl 2 rfl) ?_
  replace h := bs h
  obtain ⟨x7, hx7, h⟩ := h
  refine gf_ru_82 hx hb hts hown hK hG hW (gI_s hx7) d_ru_holds_20 ?_
  refine lv_iconst (v := (1 : Int32)) hx hb d_ru_holds_23 (by decide) ?_
  replace h := bsx h
  obtain ⟨x9, w8, hw8, h⟩ := h
  refine cv_ru_85 (As := [.int x6, .int x7, .int (1 : Int32)]) (rest := []) hx hb hml hown hts hK hG hW (c_ru_workOut l D cA base hw8) (kb_ru_workOut hw8) ⟨Nat.le_of_ble_eq_true rfl, Nat.le_of_ble_eq_true rfl⟩ ⟨Nat.le_of_ble_eq_true rfl, Nat.le_of_ble_eq_true rfl⟩ rfl hl.1 rfl (Nat.le_of_ble_eq_true rfl) d_ru_holds_24 (fun H locs hW => ?_)
  refine lv_istore_n (lv' := [(3, .int x9), (2, .int x5), (0, .ref a0), (1, .ref x1)]) hx hb d_ru_holds_27 rfl hl (by decide) rfl (fun ls hl => ?_)
  refine lv_aload_n hx hb d_ru_holds_28 rfl (lv_at hl 3 rfl) ?_
  replace h := bs h
  obtain ⟨x10, hx10, h⟩ := h
  refine gf_ru_126 hx hb hts hown hK hG hW (gI_s hx10) d_ru_holds_29 ?_
  by_cases c11 : x10 = (60 : Int32)
  · rw [if_pos c11] at h
    refine lv_lookup (off := 58) (tgt := 90) hx hb d_ru_holds_32 (by decide) (by rw [c11]; rfl) (by decide) ?_
    refine lv_iload_n hx hb d_ru_holds_90 rfl (lv_at hl 1 rfl) ?_
    refine lv_iload_n hx hb d_ru_holds_91 rfl (lv_at hl 0 rfl) ?_
    refine lv_icmp_ge (tgt := 99) hx hb d_ru_holds_92 (by decide) (fun c12 => ?_) (fun c12 => ?_)
    · rw [if_pos c12] at h
      refine lv_iconst (v := (0 : Int32)) hx hb d_ru_holds_99 (by decide) ?_
      exact j_ru_holds_100 C (0 : Int32) w8 h _ _ _ hW (lv_sub hl [] rfl)
    · rw [if_neg c12] at h
      refine lv_iconst (v := (1 : Int32)) hx hb d_ru_holds_95 (by decide) ?_
      refine lv_goto (tgt := 100) hx hb d_ru_holds_96 (by decide) ?_
      exact j_ru_holds_100 C (1 : Int32) w8 h _ _ _ hW (lv_sub hl [] rfl)
  · rw [if_neg c11] at h
    by_cases c14 : x10 = (256 : Int32)
    · rw [if_pos c14] at h
      refine lv_lookup (off := 36) (tgt := 68) hx hb d_ru_holds_32 (by decide) (by rw [c14]; rfl) (by decide) ?_
      refine lv_iload_n hx hb d_ru_holds_68 rfl (lv_at hl 1 rfl) ?_
      refine lv_iload_n hx hb d_ru_holds_69 rfl (lv_at hl 0 rfl) ?_
      refine lv_icmp_ne (tgt := 77) hx hb d_ru_holds_70 (by decide) (fun c15 => ?_) (fun c15 => ?_)
      · rw [if_neg c15] at h
        refine lv_iconst (v := (0 : Int32)) hx hb d_ru_holds_77 (by decide) ?_
        exact j_ru_holds_78 C (0 : Int32) w8 h _ _ _ hW (lv_sub hl [] rfl)
      · rw [if_pos c15] at h
        refine lv_iconst (v := (1 : Int32)) hx hb d_ru_holds_73 (by decide) ?_
        refine lv_goto (tgt := 78) hx hb d_ru_holds_74 (by decide) ?_
        exact j_ru_holds_78 C (1 : Int32) w8 h _ _ _ hW (lv_sub hl [] rfl)
    · rw [if_neg c14] at h
      by_cases c17 : x10 = (257 : Int32)
      · rw [if_pos c17] at h
        refine lv_lookup (off := 47) (tgt := 79) hx hb d_ru_holds_32 (by decide) (by rw [c17]; rfl) (by decide) ?_
        refine lv_iload_n hx hb d_ru_holds_79 rfl (lv_at hl 1 rfl) ?_
        refine lv_iload_n hx hb d_ru_holds_80 rfl (lv_at hl 0 rfl) ?_
        refine lv_icmp_eq (tgt := 88) hx hb d_ru_holds_81 (by decide) (fun c18 => ?_) (fun c18 => ?_)
        · rw [if_pos c18] at h
          refine lv_iconst (v := (0 : Int32)) hx hb d_ru_holds_88 (by decide) ?_
          exact j_ru_holds_89 C (0 : Int32) w8 h _ _ _ hW (lv_sub hl [] rfl)
        · rw [if_neg c18] at h
          refine lv_iconst (v := (1 : Int32)) hx hb d_ru_holds_84 (by decide) ?_
          refine lv_goto (tgt := 89) hx hb d_ru_holds_85 (by decide) ?_
          exact j_ru_holds_89 C (1 : Int32) w8 h _ _ _ hW (lv_sub hl [] rfl)
      · rw [if_neg c17] at h
        refine lv_lookup (off := 69) (tgt := 101) hx hb d_ru_holds_32 (by decide) (by rw [lv_osw c11 (show (60 : Int32).toInt = 60 from rfl)]; rw [lv_osw c14 (show (256 : Int32).toInt = 256 from rfl)]; rw [lv_osw c17 (show (257 : Int32).toInt = 257 from rfl)]; rfl) (by decide) ?_
        refine lv_iload_n hx hb d_ru_holds_101 rfl (lv_at hl 1 rfl) ?_
        refine lv_iload_n hx hb d_ru_holds_102 rfl (lv_at hl 0 rfl) ?_
        refine lv_icmp_gt (tgt := 110) hx hb d_ru_holds_103 (by decide) (fun c20 => ?_) (fun c20 => ?_)
        · rw [if_pos c20] at h
          refine lv_iconst (v := (0 : Int32)) hx hb d_ru_holds_110 (by decide) ?_
          exact j_ru_holds_111 C (0 : Int32) w8 h _ _ _ hW (lv_sub hl [] rfl)
        · rw [if_neg c20] at h
          refine lv_iconst (v := (1 : Int32)) hx hb d_ru_holds_106 (by decide) ?_
          refine lv_goto (tgt := 111) hx hb d_ru_holds_107 (by decide) ?_
          exact j_ru_holds_111 C (1 : Int32) w8 h _ _ _ hW (lv_sub hl [] rfl)
set_option maxHeartbeats 4000000 in
set_option maxRecDepth 100000 in
theorem jx_ru_holds_100 {p : Program} {l : Launch} {e : Env} {s : State} {m : MethodId} {args : Array Value} {below : List Frame} {meth : Method} {c : Code} {D : va_G} {cA : Nat → ClassId} {base : Nat} {E : String} {w' : WW} (C : cx b_ru_holds (some .boolean) 4 y_ru_holds.cls "holds" p s m args meth c D cA base ∧ (∀ x ∈ c.exceptionTable.toList, ∀ k : Nat, covers x k = false) ∧ l.stackTraces = false)   : ∀ (z0 : Int32) (w : WW), f_ru_holds_100 z0 w = some (.inr E, w') → ∀ (H : Heap) (locs : List Loc) (ls : Array Slot), wo_S D cls cA base s w H locs → lv_has ls 4 [] → W p l e rx_ru_holds s m args below meth c H locs 0 0 (XQ below (wo_X D cls cA base E w' rx_ru_holds.cells rx_ru_holds.slots) args s) (F0 m 100 ls [.int z0]) := by
  obtain ⟨hx, hb, hr, hml, hown, hts, hlk, hnm, hK, hG⟩ := id C.1
  have hnt := C.2.1
  have hst := C.2.2
  intro z0 w h H locs ls hW hl
  unfold f_ru_holds_100 at h
  replace h := its h
  obtain ⟨c13, h⟩ := h
  cases h
set_option maxHeartbeats 4000000 in
set_option maxRecDepth 100000 in
theorem jx_ru_holds_78 {p : Program} {l : Launch} {e : Env} {s : State} {m : MethodId} {args : Array Value} {below : List Frame} {meth : Method} {c : Code} {D : va_G} {cA : Nat → ClassId} {base : Nat} {E : String} {w' : WW} (C : cx b_ru_holds (some .boolean) 4 y_ru_holds.cls "holds" p s m args meth c D cA base ∧ (∀ x ∈ c.exceptionTable.toList, ∀ k : Nat, covers x k = false) ∧ l.stackTraces = false)   : ∀ (z0 : Int32) (w : WW), f_ru_holds_78 z0 w = some (.inr E, w') → ∀ (H : Heap) (locs : List Loc) (ls : Array Slot), wo_S D cls cA base s w H locs → lv_has ls 4 [] → W p l e rx_ru_holds s m args below meth c H locs 0 0 (XQ below (wo_X D cls cA base E w' rx_ru_holds.cells rx_ru_holds.slots) args s) (F0 m 78 ls [.int z0]) := by
  obtain ⟨hx, hb, hr, hml, hown, hts, hlk, hnm, hK, hG⟩ := id C.1
  have hnt := C.2.1
  have hst := C.2.2
  intro z0 w h H locs ls hW hl
  unfold f_ru_holds_78 at h
  replace h := its h
  obtain ⟨c16, h⟩ := h
  cases h
set_option maxHeartbeats 4000000 in
set_option maxRecDepth 100000 in
theorem jx_ru_holds_89 {p : Program} {l : Launch} {e : Env} {s : State} {m : MethodId} {args : Array Value} {below : List Frame} {meth : Method} {c : Code} {D : va_G} {cA : Nat → ClassId} {base : Nat} {E : String} {w' : WW} (C : cx b_ru_holds (some .boolean) 4 y_ru_holds.cls "holds" p s m args meth c D cA base ∧ (∀ x ∈ c.exceptionTable.toList, ∀ k : Nat, covers x k = false) ∧ l.stackTraces = false)   : ∀ (z0 : Int32) (w : WW), f_ru_holds_89 z0 w = some (.inr E, w') → ∀ (H : Heap) (locs : List Loc) (ls : Array Slot), wo_S D cls cA base s w H locs → lv_has ls 4 [] → W p l e rx_ru_holds s m args below meth c H locs 0 0 (XQ below (wo_X D cls cA base E w' rx_ru_holds.cells rx_ru_holds.slots) args s) (F0 m 89 ls [.int z0]) := by
  obtain ⟨hx, hb, hr, hml, hown, hts, hlk, hnm, hK, hG⟩ := id C.1
  have hnt := C.2.1
  have hst := C.2.2
  intro z0 w h H locs ls hW hl
  unfold f_ru_holds_89 at h
  replace h := its h
  obtain ⟨c19, h⟩ := h
  cases h
set_option maxHeartbeats 4000000 in
set_option maxRecDepth 100000 in
theorem jx_ru_holds_111 {p : Program} {l : Launch} {e : Env} {s : State} {m : MethodId} {args : Array Value} {below : List Frame} {meth : Method} {c : Code} {D : va_G} {cA : Nat → ClassId} {base : Nat} {E : String} {w' : WW} (C : cx b_ru_holds (some .boolean) 4 y_ru_holds.cls "holds" p s m args meth c D cA base ∧ (∀ x ∈ c.exceptionTable.toList, ∀ k : Nat, covers x k = false) ∧ l.stackTraces = false)   : ∀ (z0 : Int32) (w : WW), f_ru_holds_111 z0 w = some (.inr E, w') → ∀ (H : Heap) (locs : List Loc) (ls : Array Slot), wo_S D cls cA base s w H locs → lv_has ls 4 [] → W p l e rx_ru_holds s m args below meth c H locs 0 0 (XQ below (wo_X D cls cA base E w' rx_ru_holds.cells rx_ru_holds.slots) args s) (F0 m 111 ls [.int z0]) := by
  obtain ⟨hx, hb, hr, hml, hown, hts, hlk, hnm, hK, hG⟩ := id C.1
  have hnt := C.2.1
  have hst := C.2.2
  intro z0 w h H locs ls hW hl
  unfold f_ru_holds_111 at h
  replace h := its h
  obtain ⟨c21, h⟩ := h
  cases h
set_option maxHeartbeats 4000000 in
set_option maxRecDepth 100000 in
theorem x_ru_holds (l : Launch) (hst : l.stackTraces = false) (D : va_G) (cA : Nat → ClassId) (base : Nat) {a0 : Nat} {a1 : Option Nat} {w w' : WW} {E : String} (h : f_ru_holds a0 a1 w = some (.inr E, w')) : xt l D cls (wo_tys cA) cA base y_ru_holds (Cond.code y_ru_holds b_ru_holds 4 (some .boolean) :: gt) rx_ru_holds [.ref a0, va_rf a1] w E w' rx_ru_holds.cells rx_ru_holds.slots := by
  refine xt_start (by decide) (by simp only [lg_sl_0, lg_sl_1, lg_sl_2, lg_sl_3, lg_sl_rf]; decide) ?_
  intro p e s m below meth c ls hx hb hr hml hown hts hlk hnm hK hG hW hl hnt
  have C : cx b_ru_holds (some .boolean) 4 y_ru_holds.cls "holds" p s m [.ref a0, va_rf a1].toArray meth c D cA base ∧ (∀ x ∈ c.exceptionTable.toList, ∀ k : Nat, covers x k = false) ∧ l.stackTraces = false := ⟨⟨hx, hb, hr, hml, hown, hts, hlk, hnm, hK, hG⟩, hnt, hst⟩
  have hl : lv_has ls 4 [(0, .ref a0), (1, va_rf a1)] := by simp only [lv_args_0, lv_args_1, lv_args_2, lv_args_3, lv_args_rf] at hl; exact hl
  unfold f_ru_holds at h
  replace h := its h
  obtain ⟨-, h⟩ := h
  refine lv_aload_n hx hb d_ru_holds_0 rfl (lv_at hl 0 rfl) ?_
  refine wo_aload_n hx hb d_ru_holds_1 rfl (lv_at hl 1 rfl) ?_
  replace h := bs h
  obtain ⟨x1, ex1, h⟩ := h
  subst ex1
  replace h := bs h
  obtain ⟨x2, hx2, h⟩ := h
  refine gf_ru_79 hx hb hts hown hK hG hW (gI_s hx2) d_ru_holds_2 ?_
  have hl : lv_has ls 4 [(0, .ref a0), (1, .ref x1)] := hl
  refine lv_aload_n hx hb d_ru_holds_5 rfl (lv_at hl 1 rfl) ?_
  replace h := bs h
  obtain ⟨x3, hx3, h⟩ := h
  refine gf_ru_120 hx hb hts hown hK hG hW (gI_s hx3) d_ru_holds_6 ?_
  refine lv_iconst (v := (0 : Int32)) hx hb d_ru_holds_9 (by decide) ?_
  rcases bsy h with hw4 | ⟨x5, w4, hw4, hnw4⟩
  · exact xv_ru_85 (As := [.int x2, .int x3, .int (0 : Int32)]) (rest := []) hx hb hml hown hts hK hG hW (x_ru_workOut l hst D cA base hw4) (kb_ru_workOut hw4) ⟨Nat.le_of_ble_eq_true rfl, Nat.le_of_ble_eq_true rfl⟩ ⟨Nat.le_of_ble_eq_true rfl, Nat.le_of_ble_eq_true rfl⟩ rfl hl.1 rfl (Nat.le_of_ble_eq_true rfl) d_ru_holds_10 (fun H locs q ce hW h1 h2 h3 => wo_xout hnt hlk hW h1 h2 h3 (Nat.le_of_ble_eq_true rfl) (Nat.le_of_ble_eq_true rfl))
  clear h
  have h := hnw4
  clear hnw4
  refine cv_ru_85 (As := [.int x2, .int x3, .int (0 : Int32)]) (rest := []) hx hb hml hown hts hK hG hW (c_ru_workOut l D cA base hw4) (kb_ru_workOut hw4) ⟨Nat.le_of_ble_eq_true rfl, Nat.le_of_ble_eq_true rfl⟩ ⟨Nat.le_of_ble_eq_true rfl, Nat.le_of_ble_eq_true rfl⟩ rfl hl.1 rfl (Nat.le_of_ble_eq_true rfl) d_ru_holds_10 (fun H locs hW => ?_)
  refine lv_istore_n (lv' := [(2, .int x5), (0, .ref a0), (1, .ref x1)]) hx hb d_ru_holds_13 rfl hl (by decide) rfl (fun ls hl => ?_)
  refine lv_aload_n hx hb d_ru_holds_14 rfl (lv_at hl 1 rfl) ?_
  refine lv_aload_n hx hb d_ru_holds_15 rfl (lv_at hl 2 rfl) ?_
  replace h := bs h
  obtain ⟨x6, hx6, h⟩ := h
  refine gf_ru_120 hx hb hts hown hK hG hW (gI_s hx6) d_ru_holds_16 ?_
  refine lv_aload_n hx hb d_ru_holds_19 rfl (lv_at hl 2 rfl) ?_
  replace h := bs h
  obtain ⟨x7, hx7, h⟩ := h
  refine gf_ru_82 hx hb hts hown hK hG hW (gI_s hx7) d_ru_holds_20 ?_
  refine lv_iconst (v := (1 : Int32)) hx hb d_ru_holds_23 (by decide) ?_
  rcases bsy h with hw8 | ⟨x9, w8, hw8, hnw8⟩
  · exact xv_ru_85 (As := [.int x6, .int x7, .int (1 : Int32)]) (rest := []) hx hb hml hown hts hK hG hW (x_ru_workOut l hst D cA base hw8) (kb_ru_workOut hw8) ⟨Nat.le_of_ble_eq_true rfl, Nat.le_of_ble_eq_true rfl⟩ ⟨Nat.le_of_ble_eq_true rfl, Nat.le_of_ble_eq_true rfl⟩ rfl hl.1 rfl (Nat.le_of_ble_eq_true rfl) d_ru_holds_24 (fun H locs q ce hW h1 h2 h3 => wo_xout hnt hlk hW h1 h2 h3 (Nat.le_of_ble_eq_true rfl) (Nat.le_of_ble_eq_true rfl))
  clear h
  have h := hnw8
  clear hnw8
  refine cv_ru_85 (As := [.int x6, .int x7, .int (1 : Int32)]) (rest := []) hx hb hml hown hts hK hG hW (c_ru_workOut l D cA base hw8) (kb_ru_workOut hw8) ⟨Nat.le_of_ble_eq_true rfl, Nat.le_of_ble_eq_true rfl⟩ ⟨Nat.le_of_ble_eq_true rfl, Nat.le_of_ble_eq_true rfl⟩ rfl hl.1 rfl (Nat.le_of_ble_eq_true rfl) d_ru_holds_24 (fun H locs hW => ?_)
  refine lv_istore_n (lv' := [(3, .int x9), (2, .int x5), (0, .ref a0), (1, .ref x1)]) hx hb d_ru_holds_27 rfl hl (by decide) rfl (fun ls hl => ?_)
  refine lv_aload_n hx hb d_ru_holds_28 rfl (lv_at hl 3 rfl) ?_
  replace h := bs h
  obtain ⟨x10, hx10, h⟩ := h
  refine gf_ru_126 hx hb hts hown hK hG hW (gI_s hx10) d_ru_holds_29 ?_
  by_cases c11 : x10 = (60 : Int32)
  · rw [if_pos c11] at h
    refine lv_lookup (off := 58) (tgt := 90) hx hb d_ru_holds_32 (by decide) (by rw [c11]; rfl) (by decide) ?_
    refine lv_iload_n hx hb d_ru_holds_90 rfl (lv_at hl 1 rfl) ?_
    refine lv_iload_n hx hb d_ru_holds_91 rfl (lv_at hl 0 rfl) ?_
    refine lv_icmp_ge (tgt := 99) hx hb d_ru_holds_92 (by decide) (fun c12 => ?_) (fun c12 => ?_)
    · rw [if_pos c12] at h
      refine lv_iconst (v := (0 : Int32)) hx hb d_ru_holds_99 (by decide) ?_
      exact jx_ru_holds_100 C (0 : Int32) w8 h _ _ _ hW (lv_sub hl [] rfl)
    · rw [if_neg c12] at h
      refine lv_iconst (v := (1 : Int32)) hx hb d_ru_holds_95 (by decide) ?_
      refine lv_goto (tgt := 100) hx hb d_ru_holds_96 (by decide) ?_
      exact jx_ru_holds_100 C (1 : Int32) w8 h _ _ _ hW (lv_sub hl [] rfl)
  · rw [if_neg c11] at h
    by_cases c14 : x10 = (256 : Int32)
    · rw [if_pos c14] at h
      refine lv_lookup (off := 36) (tgt := 68) hx hb d_ru_holds_32 (by decide) (by rw [c14]; rfl) (by decide) ?_
      refine lv_iload_n hx hb d_ru_holds_68 rfl (lv_at hl 1 rfl) ?_
      refine lv_iload_n hx hb d_ru_holds_69 rfl (lv_at hl 0 rfl) ?_
      refine lv_icmp_ne (tgt := 77) hx hb d_ru_holds_70 (by decide) (fun c15 => ?_) (fun c15 => ?_)
      · rw [if_neg c15] at h
        refine lv_iconst (v := (0 : Int32)) hx hb d_ru_holds_77 (by decide) ?_
        exact jx_ru_holds_78 C (0 : Int32) w8 h _ _ _ hW (lv_sub hl [] rfl)
      · rw [if_pos c15] at h
        refine lv_iconst (v := (1 : Int32)) hx hb d_ru_holds_73 (by decide) ?_
        refine lv_goto (tgt := 78) hx hb d_ru_holds_74 (by decide) ?_
        exact jx_ru_holds_78 C (1 : Int32) w8 h _ _ _ hW (lv_sub hl [] rfl)
    · rw [if_neg c14] at h
      by_cases c17 : x10 = (257 : Int32)
      · rw [if_pos c17] at h
        refine lv_lookup (off := 47) (tgt := 79) hx hb d_ru_holds_32 (by decide) (by rw [c17]; rfl) (by decide) ?_
        refine lv_iload_n hx hb d_ru_holds_79 rfl (lv_at hl 1 rfl) ?_
        refine lv_iload_n hx hb d_ru_holds_80 rfl (lv_at hl 0 rfl) ?_
        refine lv_icmp_eq (tgt := 88) hx hb d_ru_holds_81 (by decide) (fun c18 => ?_) (fun c18 => ?_)
        · rw [if_pos c18] at h
          refine lv_iconst (v := (0 : Int32)) hx hb d_ru_holds_88 (by decide) ?_
          exact jx_ru_holds_89 C (0 : Int32) w8 h _ _ _ hW (lv_sub hl [] rfl)
        · rw [if_neg c18] at h
          refine lv_iconst (v := (1 : Int32)) hx hb d_ru_holds_84 (by decide) ?_
          refine lv_goto (tgt := 89) hx hb d_ru_holds_85 (by decide) ?_
          exact jx_ru_holds_89 C (1 : Int32) w8 h _ _ _ hW (lv_sub hl [] rfl)
      · rw [if_neg c17] at h
        refine lv_lookup (off := 69) (tgt := 101) hx hb d_ru_holds_32 (by decide) (by rw [lv_osw c11 (show (60 : Int32).toInt = 60 from rfl)]; rw [lv_osw c14 (show (256 : Int32).toInt = 256 from rfl)]; rw [lv_osw c17 (show (257 : Int32).toInt = 257 from rfl)]; rfl) (by decide) ?_
        refine lv_iload_n hx hb d_ru_holds_101 rfl (lv_at hl 1 rfl) ?_
        refine lv_iload_n hx hb d_ru_holds_102 rfl (lv_at hl 0 rfl) ?_
        refine lv_icmp_gt (tgt := 110) hx hb d_ru_holds_103 (by decide) (fun c20 => ?_) (fun c20 => ?_)
        · rw [if_pos c20] at h
          refine lv_iconst (v := (0 : Int32)) hx hb d_ru_holds_110 (by decide) ?_
          exact jx_ru_holds_111 C (0 : Int32) w8 h _ _ _ hW (lv_sub hl [] rfl)
        · rw [if_neg c20] at h
          refine lv_iconst (v := (1 : Int32)) hx hb d_ru_holds_106 (by decide) ?_
          refine lv_goto (tgt := 111) hx hb d_ru_holds_107 (by decide) ?_
          exact jx_ru_holds_111 C (1 : Int32) w8 h _ _ _ hW (lv_sub hl [] rfl)
theorem xv_ru_101 {p : Program} {l : Launch} {e : Env} {R : Room} {s : State} {m : MethodId} {args : Array Value} {below : List Frame} {meth : Method} {c : Code} {H : Heap} {locs : List Loc} {cells slots : Nat} {Q : State → Prop} {D : va_G} {cA : Nat → ClassId} {base : Nat} {w w' : WW} {cc : ByteArray} {pc nL : Nat} {ls : Array Slot} {rest st0 As : List Value} {E : String} {b : Nat} (hx : p.tables.exec = Jvm.exec) (hb : c.code = cc) (hml : c.maxLocals = nL) (hown : s.vm.findClass Rc_ru = some m.cls) (hts : ∀ w ∈ gt, w.before args s = true) (hK : va_K D cls (wo_tys cA) s) (hG : wo_G base s) (hW : wo_S D cls cA base s w H locs) (hM : xt l D cls (wo_tys cA) cA base y_ru_holds (Cond.code y_ru_holds b_ru_holds 4 (some .boolean) :: gt) rx_ru_holds (.ref b :: As) w E w' rx_ru_holds.cells rx_ru_holds.slots) (hkb : kb w b 5 = true) (hR : rx_ru_holds.frames + 1 ≤ R.frames ∧ 8 + (4 + 11) + rx_ru_holds.locals ≤ R.locals) (hf : cells + rx_ru_holds.cells ≤ R.cells ∧ slots + rx_ru_holds.slots ≤ R.slots) (hn : As.length = 1) (hsz : ls.size = nL) (hst : st0 = As.reverse ++ .ref b :: rest) (hcat : (rest.map fun v => v.category).sum ≤ 8) (hdg : decode cc pc = .ok (.invokevirtual 101, 3)) (kk : ∀ (H1 : Heap) (locs1 : List Loc) (q : Addr) (ce : Cell), wo_S D cls cA base s w' H1 locs1 → H1[q]? = some ce → ce.vm = .none → s.vm.findClass E = some ce.cls → XW p l e R s m args below meth c H1 locs1 (cells + rx_ru_holds.cells) (slots + rx_ru_holds.slots) Q (F0 m pc ls rest) q) : W p l e R s m args below meth c H locs cells slots Q (F0 m pc ls st0) :=
  wo_xcallV (C := Rc_ru) hx hb hml hown hts hK hG hW hM hkb rfl (gt_of (i := 867) (by decide +kernel) (by decide +kernel)) (gt_of (i := 869) (by decide +kernel) (by decide +kernel)) (gt_sel (i := 35) (by decide +kernel) (by decide +kernel)) (gt_of (i := 6) (by decide +kernel) (by decide +kernel)) (gt_of (i := 870) (by decide +kernel) (by decide +kernel)) (by decide +kernel) hR hf hn hsz hst hcat hdg kk
theorem cv_ru_101 {p : Program} {l : Launch} {e : Env} {R : Room} {s : State} {m : MethodId} {args : Array Value} {below : List Frame} {meth : Method} {c : Code} {H : Heap} {locs : List Loc} {cells slots : Nat} {Q : State → Prop} {D : va_G} {cA : Nat → ClassId} {base : Nat} {w w' : WW} {cc : ByteArray} {pc nL : Nat} {ls : Array Slot} {rest st0 As : List Value} {ov : Option Value} {b : Nat} (hx : p.tables.exec = Jvm.exec) (hb : c.code = cc) (hml : c.maxLocals = nL) (hown : s.vm.findClass Rc_ru = some m.cls) (hts : ∀ w ∈ gt, w.before args s = true) (hK : va_K D cls (wo_tys cA) s) (hG : wo_G base s) (hW : wo_S D cls cA base s w H locs) (hM : mt l D cls (wo_tys cA) cA base y_ru_holds (Cond.code y_ru_holds b_ru_holds 4 (some .boolean) :: gt) rm_ru_holds (.ref b :: As) w ov w' rm_ru_holds.cells rm_ru_holds.slots) (hkb : kb w b 5 = true) (hR : rm_ru_holds.frames + 1 ≤ R.frames ∧ 8 + (4 + 11) + rm_ru_holds.locals ≤ R.locals) (hf : cells + rm_ru_holds.cells ≤ R.cells ∧ slots + rm_ru_holds.slots ≤ R.slots) (hn : As.length = 1) (hsz : ls.size = nL) (hst : st0 = As.reverse ++ .ref b :: rest) (hcat : (rest.map fun v => v.category).sum ≤ 8) (hdg : decode cc pc = .ok (.invokevirtual 101, 3)) (kk : ∀ (H1 : Heap) (locs1 : List Loc), wo_S D cls cA base s w' H1 locs1 → W p l e R s m args below meth c H1 locs1 (cells + rm_ru_holds.cells) (slots + rm_ru_holds.slots) Q (F0 m (pc + 3) ls (ov.toList ++ rest))) : W p l e R s m args below meth c H locs cells slots Q (F0 m pc ls st0) :=
  wo_callV (C := Rc_ru) hx hb hml hown hts hK hG hW hM hkb rfl (gt_of (i := 867) (by decide +kernel) (by decide +kernel)) (gt_of (i := 869) (by decide +kernel) (by decide +kernel)) (gt_sel (i := 35) (by decide +kernel) (by decide +kernel)) (gt_of (i := 6) (by decide +kernel) (by decide +kernel)) (gt_of (i := 870) (by decide +kernel) (by decide +kernel)) (by decide +kernel) hR hf hn hsz hst hcat hdg kk
abbrev b_ru_doWhile : ByteArray := prog_6_method_8_code
def y_ru_doWhile : MethodName := ⟨"AlarmForge$Runner", "doWhile", "(LAlarmForge$Statement;I)Z"⟩
def rm_ru_doWhile : Room := { frames := 11, cells := 0, slots := 0, locals := 222 }
def rx_ru_doWhile : Room := { frames := 11, cells := 1, slots := 6, locals := 222 }
theorem d_ru_doWhile_0 : decode b_ru_doWhile 0 = .ok (.iconst 0, 1) := by decide +kernel
theorem d_ru_doWhile_1 : decode b_ru_doWhile 1 = .ok (.istore_n 3, 1) := by decide +kernel
theorem d_ru_doWhile_2 : decode b_ru_doWhile 2 = .ok (.iload_n 3, 1) := by decide +kernel
theorem d_ru_doWhile_3 : decode b_ru_doWhile 3 = .ok (.sipush (500), 3) := by decide +kernel
theorem d_ru_doWhile_6 : decode b_ru_doWhile 6 = .ok (.if_icmp .gt (42), 3) := by decide +kernel
theorem d_ru_doWhile_9 : decode b_ru_doWhile 9 = .ok (.aload_n 0, 1) := by decide +kernel
theorem d_ru_doWhile_10 : decode b_ru_doWhile 10 = .ok (.aload_n 1, 1) := by decide +kernel
theorem d_ru_doWhile_11 : decode b_ru_doWhile 11 = .ok (.invokevirtual 101, 3) := by decide +kernel
theorem d_ru_doWhile_14 : decode b_ru_doWhile 14 = .ok (.ifCond .ne (5), 3) := by decide +kernel
theorem d_ru_doWhile_17 : decode b_ru_doWhile 17 = .ok (.iconst 1, 1) := by decide +kernel
theorem d_ru_doWhile_18 : decode b_ru_doWhile 18 = .ok (.ireturn, 1) := by decide +kernel
theorem d_ru_doWhile_19 : decode b_ru_doWhile 19 = .ok (.aload_n 0, 1) := by decide +kernel
theorem d_ru_doWhile_20 : decode b_ru_doWhile 20 = .ok (.aload_n 1, 1) := by decide +kernel
theorem d_ru_doWhile_21 : decode b_ru_doWhile 21 = .ok (.getfield 105, 3) := by decide +kernel
theorem d_ru_doWhile_24 : decode b_ru_doWhile 24 = .ok (.iload_n 2, 1) := by decide +kernel
theorem d_ru_doWhile_25 : decode b_ru_doWhile 25 = .ok (.iconst 1, 1) := by decide +kernel
theorem d_ru_doWhile_26 : decode b_ru_doWhile 26 = .ok (.iadd, 1) := by decide +kernel
theorem d_ru_doWhile_27 : decode b_ru_doWhile 27 = .ok (.invokevirtual 48, 3) := by decide +kernel
theorem d_ru_doWhile_30 : decode b_ru_doWhile 30 = .ok (.ifCond .eq (10), 3) := by decide +kernel
theorem d_ru_doWhile_33 : decode b_ru_doWhile 33 = .ok (.aload_n 0, 1) := by decide +kernel
theorem d_ru_doWhile_34 : decode b_ru_doWhile 34 = .ok (.invokevirtual 61, 3) := by decide +kernel
theorem d_ru_doWhile_37 : decode b_ru_doWhile 37 = .ok (.ifCond .ne (5), 3) := by decide +kernel
theorem d_ru_doWhile_40 : decode b_ru_doWhile 40 = .ok (.iconst 0, 1) := by decide +kernel
theorem d_ru_doWhile_41 : decode b_ru_doWhile 41 = .ok (.ireturn, 1) := by decide +kernel
theorem d_ru_doWhile_42 : decode b_ru_doWhile 42 = .ok (.iinc 3 (1), 3) := by decide +kernel
theorem d_ru_doWhile_45 : decode b_ru_doWhile 45 = .ok (.goto (-43), 3) := by decide +kernel
theorem d_ru_doWhile_48 : decode b_ru_doWhile 48 = .ok (.iconst 0, 1) := by decide +kernel
theorem d_ru_doWhile_49 : decode b_ru_doWhile 49 = .ok (.ireturn, 1) := by decide +kernel
def f_ru_doWhile_40   (w : WW) : Option ((Int32 ⊕ String) × WW) :=
  if (0 : Int32) = 0 ∨ (0 : Int32) = 1 then some (.inl (0 : Int32), w) else none
def f_ru_doWhile_2  : Nat → Nat → Option Nat → Int32 → Int32 → WW → Option ((Int32 ⊕ String) × WW)
  | 0, _, _, _, _, _ => none
  | n + 1, y0, y1, y2, y3, w =>
    if (500 : Int32) < y3 then
      if (0 : Int32) = 0 ∨ (0 : Int32) = 1 then some (.inl (0 : Int32), w) else none
    else
      bdx (f_ru_holds y0 y1 w) fun x4 w3 =>
      if x4 = 0 then
        if (1 : Int32) = 0 ∨ (1 : Int32) = 1 then some (.inl (1 : Int32), w3) else none
      else
        y1.bind fun x6 =>
        (gR w3 x6 4 7).bind fun x7 =>
        bdx (f_ru_doStatements y0 x7 (y2 + (1 : Int32)) w3) fun x9 w8 =>
        if x9 = 0 then
          f_ru_doWhile_40 w8
        else
          bd2 (f_ru_mayBegin y0 w8) fun x13 w12 =>
          if x13 = 0 then
            f_ru_doWhile_40 w12
          else
            f_ru_doWhile_2 n y0 (some x6) y2 (y3 + (1 : Int32)) w12
def f_ru_doWhile (a0 : Nat) (a1 : Option Nat) (a2 : Int32) (w : WW) : Option ((Int32 ⊕ String) × WW) :=
  if kb w a0 5 = true then
    f_ru_doWhile_2 KK a0 a1 a2 (0 : Int32) w
  else none
theorem kb_ru_doWhile {a0 : Nat} {a1 : Option Nat} {a2 : Int32} {w : WW} {r : ((Int32 ⊕ String) × WW)} (h : f_ru_doWhile a0 a1 a2 w = some r) : kb w a0 5 = true := (its h).1
set_option maxHeartbeats 4000000 in
set_option maxRecDepth 100000 in
theorem j_ru_doWhile_40 {p : Program} {l : Launch} {e : Env} {s : State} {m : MethodId} {args : Array Value} {below : List Frame} {meth : Method} {c : Code} {D : va_G} {cA : Nat → ClassId} {base : Nat} {r : Int32} {w' : WW} (C : cx b_ru_doWhile (some .boolean) 4 y_ru_doWhile.cls "doWhile" p s m args meth c D cA base)   : ∀  (w : WW), f_ru_doWhile_40  w = some (.inl r, w') → ∀ (H : Heap) (locs : List Loc) (ls : Array Slot), wo_S D cls cA base s w H locs → lv_has ls 4 [] → W p l e rm_ru_doWhile s m args below meth c H locs 0 0 (MQ below (wo_Q D cls cA base (some (.int r)) w') args s rm_ru_doWhile.cells rm_ru_doWhile.slots (wo_B base)) (F0 m 40 ls []) := by
  obtain ⟨hx, hb, hr, hml, hown, hts, hlk, hnm, hK, hG⟩ := id C
  intro  w h H locs ls hW hl
  unfold f_ru_doWhile_40 at h
  refine lv_iconst (v := (0 : Int32)) hx hb d_ru_doWhile_40 (by decide) ?_
  replace h := its h
  obtain ⟨c11, h⟩ := h
  cases h
  exact wo_zret hx hb hr hlk hW c11 d_ru_doWhile_41
set_option maxHeartbeats 4000000 in
set_option maxRecDepth 100000 in
theorem j_ru_doWhile_2 {p : Program} {l : Launch} {e : Env} {s : State} {m : MethodId} {args : Array Value} {below : List Frame} {meth : Method} {c : Code} {D : va_G} {cA : Nat → ClassId} {base : Nat} {r : Int32} {w' : WW} (C : cx b_ru_doWhile (some .boolean) 4 y_ru_doWhile.cls "doWhile" p s m args meth c D cA base)   : ∀ n : Nat, ∀ (y0 : Nat) (y1 : Option Nat) (y2 : Int32) (y3 : Int32) (w : WW), f_ru_doWhile_2 n y0 y1 y2 y3 w = some (.inl r, w') → ∀ (H : Heap) (locs : List Loc) (ls : Array Slot), wo_S D cls cA base s w H locs → lv_has ls 4 [(0, .ref y0), (1, va_rf y1), (2, .int y2), (3, .int y3)] → W p l e rm_ru_doWhile s m args below meth c H locs 0 0 (MQ below (wo_Q D cls cA base (some (.int r)) w') args s rm_ru_doWhile.cells rm_ru_doWhile.slots (wo_B base)) (F0 m 2 ls []) := by
  obtain ⟨hx, hb, hr, hml, hown, hts, hlk, hnm, hK, hG⟩ := id C
  intro n
  induction n with
  | zero => intro y0 y1 y2 y3 w h; cases h
  | succ n ih =>
    intro y0 y1 y2 y3 w h H locs ls hW hl
    rw [f_ru_doWhile_2] at h
    refine lv_iload_n hx hb d_ru_doWhile_2 rfl (lv_at hl 3 rfl) ?_
    refine lv_sipush (v := (500 : Int32)) hx hb d_ru_doWhile_3 (by decide) ?_
    refine lv_icmp_gt (tgt := 48) hx hb d_ru_doWhile_6 (by decide) (fun c1 => ?_) (fun c1 => ?_)
    · rw [if_pos c1] at h
      refine lv_iconst (v := (0 : Int32)) hx hb d_ru_doWhile_48 (by decide) ?_
      replace h := its h
      obtain ⟨c2, h⟩ := h
      cases h
      exact wo_zret hx hb hr hlk hW c2 d_ru_doWhile_49
    · rw [if_neg c1] at h
      refine lv_aload_n hx hb d_ru_doWhile_9 rfl (lv_at hl 0 rfl) ?_
      refine wo_aload_n hx hb d_ru_doWhile_10 rfl (lv_at hl 1 rfl) ?_
      replace h := bsx h
      obtain ⟨x4, w3, hw3, h⟩ := h
      refine cv_ru_101 (As := [va_rf y1]) (rest := []) hx hb hml hown hts hK hG hW (c_ru_holds l D cA base hw3) (kb_ru_holds hw3) ⟨Nat.le_of_ble_eq_true rfl, Nat.le_of_ble_eq_true rfl⟩ ⟨Nat.le_of_ble_eq_true rfl, Nat.le_of_ble_eq_true rfl⟩ rfl hl.1 rfl (Nat.le_of_ble_eq_true rfl) d_ru_doWhile_11 (fun H locs hW => ?_)
      refine lv_if_ne (tgt := 19) hx hb d_ru_doWhile_14 (by decide) (fun c5 => ?_) (fun c5 => ?_)
      · rw [if_neg c5] at h
        refine lv_aload_n hx hb d_ru_doWhile_19 rfl (lv_at hl 0 rfl) ?_
        refine wo_aload_n hx hb d_ru_doWhile_20 rfl (lv_at hl 1 rfl) ?_
        replace h := bs h
        obtain ⟨x6, ex6, h⟩ := h
        subst ex6
        replace h := bs h
        obtain ⟨x7, hx7, h⟩ := h
        refine gf_ru_105 hx hb hts hown hK hG hW (gR_s hx7) d_ru_doWhile_21 ?_
        have hl : lv_has ls 4 [(0, .ref y0), (1, .ref x6), (2, .int y2), (3, .int y3)] := hl
        refine lv_iload_n hx hb d_ru_doWhile_24 rfl (lv_at hl 2 rfl) ?_
        refine lv_iconst (v := (1 : Int32)) hx hb d_ru_doWhile_25 (by decide) ?_
        refine lv_iadd hx hb d_ru_doWhile_26 ?_
        replace h := bsx h
        obtain ⟨x9, w8, hw8, h⟩ := h
        refine cv_ru_48 (As := [va_rf x7, .int (y2 + (1 : Int32))]) (rest := []) hx hb hml hown hts hK hG hW (c_ru_doStatements l D cA base hw8) (kb_ru_doStatements hw8) ⟨Nat.le_of_ble_eq_true rfl, Nat.le_of_ble_eq_true rfl⟩ ⟨Nat.le_of_ble_eq_true rfl, Nat.le_of_ble_eq_true rfl⟩ rfl hl.1 rfl (Nat.le_of_ble_eq_true rfl) d_ru_doWhile_27 (fun H locs hW => ?_)
        refine lv_if_eq (tgt := 40) hx hb d_ru_doWhile_30 (by decide) (fun c10 => ?_) (fun c10 => ?_)
        · rw [if_pos c10] at h
          exact j_ru_doWhile_40 C w8 h _ _ _ hW (lv_sub hl [] rfl)
        · rw [if_neg c10] at h
          refine lv_aload_n hx hb d_ru_doWhile_33 rfl (lv_at hl 0 rfl) ?_
          replace h := bs2 h
          obtain ⟨x13, w12, hw12, h⟩ := h
          refine cv_ru_61 (As := []) (rest := []) hx hb hml hown hts hK hG hW (c_ru_mayBegin l D cA base hw12) (kb_ru_mayBegin hw12) ⟨Nat.le_of_ble_eq_true rfl, Nat.le_of_ble_eq_true rfl⟩ ⟨Nat.le_of_ble_eq_true rfl, Nat.le_of_ble_eq_true rfl⟩ rfl hl.1 rfl (Nat.le_of_ble_eq_true rfl) d_ru_doWhile_34 (fun H locs hW => ?_)
          refine lv_if_ne (tgt := 42) hx hb d_ru_doWhile_37 (by decide) (fun c14 => ?_) (fun c14 => ?_)
          · rw [if_neg c14] at h
            refine lv_iinc (v := (y3 + (1 : Int32))) (lv' := [(3, .int (y3 + (1 : Int32))), (0, .ref y0), (1, .ref x6), (2, .int y2)]) hx hb d_ru_doWhile_42 hl (k := 3) rfl rfl (by decide) rfl (fun ls hl => ?_)
            refine lv_goto (tgt := 2) hx hb d_ru_doWhile_45 (by decide) ?_
            exact ih y0 (some x6) y2 (y3 + (1 : Int32)) w12 h _ _ _ hW (lv_sub hl [1, 2, 3, 0] rfl)
          · rw [if_pos c14] at h
            exact j_ru_doWhile_40 C w12 h _ _ _ hW (lv_sub hl [] rfl)
      · rw [if_pos c5] at h
        refine lv_iconst (v := (1 : Int32)) hx hb d_ru_doWhile_17 (by decide) ?_
        replace h := its h
        obtain ⟨c15, h⟩ := h
        cases h
        exact wo_zret hx hb hr hlk hW c15 d_ru_doWhile_18
set_option maxHeartbeats 4000000 in
set_option maxRecDepth 100000 in
theorem c_ru_doWhile (l : Launch) (D : va_G) (cA : Nat → ClassId) (base : Nat) {a0 : Nat} {a1 : Option Nat} {a2 : Int32} {w w' : WW} {r : Int32} (h : f_ru_doWhile a0 a1 a2 w = some (.inl r, w')) : mt l D cls (wo_tys cA) cA base y_ru_doWhile (Cond.code y_ru_doWhile b_ru_doWhile 4 (some .boolean) :: gt) rm_ru_doWhile [.ref a0, va_rf a1, .int a2] w (some (.int r)) w' rm_ru_doWhile.cells rm_ru_doWhile.slots := by
  refine mt_start (by decide) (by simp only [lg_sl_0, lg_sl_1, lg_sl_2, lg_sl_3, lg_sl_rf]; decide) ?_
  intro p e s m below meth c ls hx hb hr hml hown hts hlk hnm hK hG hW hl
  have C : cx b_ru_doWhile (some .boolean) 4 y_ru_doWhile.cls "doWhile" p s m [.ref a0, va_rf a1, .int a2].toArray meth c D cA base := ⟨hx, hb, hr, hml, hown, hts, hlk, hnm, hK, hG⟩
  have hl : lv_has ls 4 [(0, .ref a0), (1, va_rf a1), (2, .int a2)] := by simp only [lv_args_0, lv_args_1, lv_args_2, lv_args_3, lv_args_rf] at hl; exact hl
  unfold f_ru_doWhile at h
  replace h := its h
  obtain ⟨-, h⟩ := h
  refine lv_iconst (v := (0 : Int32)) hx hb d_ru_doWhile_0 (by decide) ?_
  refine lv_istore_n (lv' := [(3, .int (0 : Int32)), (0, .ref a0), (1, va_rf a1), (2, .int a2)]) hx hb d_ru_doWhile_1 rfl hl (by decide) rfl (fun ls hl => ?_)
  exact j_ru_doWhile_2 C KK a0 a1 a2 (0 : Int32) w h _ _ _ hW (lv_sub hl [1, 2, 3, 0] rfl)
set_option maxHeartbeats 4000000 in
set_option maxRecDepth 100000 in
theorem jx_ru_doWhile_40 {p : Program} {l : Launch} {e : Env} {s : State} {m : MethodId} {args : Array Value} {below : List Frame} {meth : Method} {c : Code} {D : va_G} {cA : Nat → ClassId} {base : Nat} {E : String} {w' : WW} (C : cx b_ru_doWhile (some .boolean) 4 y_ru_doWhile.cls "doWhile" p s m args meth c D cA base ∧ (∀ x ∈ c.exceptionTable.toList, ∀ k : Nat, covers x k = false) ∧ l.stackTraces = false)   : ∀  (w : WW), f_ru_doWhile_40  w = some (.inr E, w') → ∀ (H : Heap) (locs : List Loc) (ls : Array Slot), wo_S D cls cA base s w H locs → lv_has ls 4 [] → W p l e rx_ru_doWhile s m args below meth c H locs 0 0 (XQ below (wo_X D cls cA base E w' rx_ru_doWhile.cells rx_ru_doWhile.slots) args s) (F0 m 40 ls []) := by
  obtain ⟨hx, hb, hr, hml, hown, hts, hlk, hnm, hK, hG⟩ := id C.1
  have hnt := C.2.1
  have hst := C.2.2
  intro  w h H locs ls hW hl
  unfold f_ru_doWhile_40 at h
  refine lv_iconst (v := (0 : Int32)) hx hb d_ru_doWhile_40 (by decide) ?_
  replace h := its h
  obtain ⟨c11, h⟩ := h
  cases h
set_option maxHeartbeats 4000000 in
set_option maxRecDepth 100000 in
theorem jx_ru_doWhile_2 {p : Program} {l : Launch} {e : Env} {s : State} {m : MethodId} {args : Array Value} {below : List Frame} {meth : Method} {c : Code} {D : va_G} {cA : Nat → ClassId} {base : Nat} {E : String} {w' : WW} (C : cx b_ru_doWhile (some .boolean) 4 y_ru_doWhile.cls "doWhile" p s m args meth c D cA base ∧ (∀ x ∈ c.exceptionTable.toList, ∀ k : Nat, covers x k = false) ∧ l.stackTraces = false)   : ∀ n : Nat, ∀ (y0 : Nat) (y1 : Option Nat) (y2 : Int32) (y3 : Int32) (w : WW), f_ru_doWhile_2 n y0 y1 y2 y3 w = some (.inr E, w') → ∀ (H : Heap) (locs : List Loc) (ls : Array Slot), wo_S D cls cA base s w H locs → lv_has ls 4 [(0, .ref y0), (1, va_rf y1), (2, .int y2), (3, .int y3)] → W p l e rx_ru_doWhile s m args below meth c H locs 0 0 (XQ below (wo_X D cls cA base E w' rx_ru_doWhile.cells rx_ru_doWhile.slots) args s) (F0 m 2 ls []) := by
  obtain ⟨hx, hb, hr, hml, hown, hts, hlk, hnm, hK, hG⟩ := id C.1
  have hnt := C.2.1
  have hst := C.2.2
  intro n
  induction n with
  | zero => intro y0 y1 y2 y3 w h; cases h
  | succ n ih =>
    intro y0 y1 y2 y3 w h H locs ls hW hl
    rw [f_ru_doWhile_2] at h
    refine lv_iload_n hx hb d_ru_doWhile_2 rfl (lv_at hl 3 rfl) ?_
    refine lv_sipush (v := (500 : Int32)) hx hb d_ru_doWhile_3 (by decide) ?_
    refine lv_icmp_gt (tgt := 48) hx hb d_ru_doWhile_6 (by decide) (fun c1 => ?_) (fun c1 => ?_)
    · rw [if_pos c1] at h
      refine lv_iconst (v := (0 : Int32)) hx hb d_ru_doWhile_48 (by decide) ?_
      replace h := its h
      obtain ⟨c2, h⟩ := h
      cases h
    · rw [if_neg c1] at h
      refine lv_aload_n hx hb d_ru_doWhile_9 rfl (lv_at hl 0 rfl) ?_
      refine wo_aload_n hx hb d_ru_doWhile_10 rfl (lv_at hl 1 rfl) ?_
      rcases bsy h with hw3 | ⟨x4, w3, hw3, hnw3⟩
      · exact xv_ru_101 (As := [va_rf y1]) (rest := []) hx hb hml hown hts hK hG hW (x_ru_holds l hst D cA base hw3) (kb_ru_holds hw3) ⟨Nat.le_of_ble_eq_true rfl, Nat.le_of_ble_eq_true rfl⟩ ⟨Nat.le_of_ble_eq_true rfl, Nat.le_of_ble_eq_true rfl⟩ rfl hl.1 rfl (Nat.le_of_ble_eq_true rfl) d_ru_doWhile_11 (fun H locs q ce hW h1 h2 h3 => wo_xout hnt hlk hW h1 h2 h3 (Nat.le_of_ble_eq_true rfl) (Nat.le_of_ble_eq_true rfl))
      clear h
      have h := hnw3
      clear hnw3
      refine cv_ru_101 (As := [va_rf y1]) (rest := []) hx hb hml hown hts hK hG hW (c_ru_holds l D cA base hw3) (kb_ru_holds hw3) ⟨Nat.le_of_ble_eq_true rfl, Nat.le_of_ble_eq_true rfl⟩ ⟨Nat.le_of_ble_eq_true rfl, Nat.le_of_ble_eq_true rfl⟩ rfl hl.1 rfl (Nat.le_of_ble_eq_true rfl) d_ru_doWhile_11 (fun H locs hW => ?_)
      refine lv_if_ne (tgt := 19) hx hb d_ru_doWhile_14 (by decide) (fun c5 => ?_) (fun c5 => ?_)
      · rw [if_neg c5] at h
        refine lv_aload_n hx hb d_ru_doWhile_19 rfl (lv_at hl 0 rfl) ?_
        refine wo_aload_n hx hb d_ru_doWhile_20 rfl (lv_at hl 1 rfl) ?_
        replace h := bs h
        obtain ⟨x6, ex6, h⟩ := h
        subst ex6
        replace h := bs h
        obtain ⟨x7, hx7, h⟩ := h
        refine gf_ru_105 hx hb hts hown hK hG hW (gR_s hx7) d_ru_doWhile_21 ?_
        have hl : lv_has ls 4 [(0, .ref y0), (1, .ref x6), (2, .int y2), (3, .int y3)] := hl
        refine lv_iload_n hx hb d_ru_doWhile_24 rfl (lv_at hl 2 rfl) ?_
        refine lv_iconst (v := (1 : Int32)) hx hb d_ru_doWhile_25 (by decide) ?_
        refine lv_iadd hx hb d_ru_doWhile_26 ?_
        rcases bsy h with hw8 | ⟨x9, w8, hw8, hnw8⟩
        · exact xv_ru_48 (As := [va_rf x7, .int (y2 + (1 : Int32))]) (rest := []) hx hb hml hown hts hK hG hW (x_ru_doStatements l hst D cA base hw8) (kb_ru_doStatements hw8) ⟨Nat.le_of_ble_eq_true rfl, Nat.le_of_ble_eq_true rfl⟩ ⟨Nat.le_of_ble_eq_true rfl, Nat.le_of_ble_eq_true rfl⟩ rfl hl.1 rfl (Nat.le_of_ble_eq_true rfl) d_ru_doWhile_27 (fun H locs q ce hW h1 h2 h3 => wo_xout hnt hlk hW h1 h2 h3 (Nat.le_of_ble_eq_true rfl) (Nat.le_of_ble_eq_true rfl))
        clear h
        have h := hnw8
        clear hnw8
        refine cv_ru_48 (As := [va_rf x7, .int (y2 + (1 : Int32))]) (rest := []) hx hb hml hown hts hK hG hW (c_ru_doStatements l D cA base hw8) (kb_ru_doStatements hw8) ⟨Nat.le_of_ble_eq_true rfl, Nat.le_of_ble_eq_true rfl⟩ ⟨Nat.le_of_ble_eq_true rfl, Nat.le_of_ble_eq_true rfl⟩ rfl hl.1 rfl (Nat.le_of_ble_eq_true rfl) d_ru_doWhile_27 (fun H locs hW => ?_)
        refine lv_if_eq (tgt := 40) hx hb d_ru_doWhile_30 (by decide) (fun c10 => ?_) (fun c10 => ?_)
        · rw [if_pos c10] at h
          exact jx_ru_doWhile_40 C w8 h _ _ _ hW (lv_sub hl [] rfl)
        · rw [if_neg c10] at h
          refine lv_aload_n hx hb d_ru_doWhile_33 rfl (lv_at hl 0 rfl) ?_
          replace h := bs2 h
          obtain ⟨x13, w12, hw12, h⟩ := h
          refine cv_ru_61 (As := []) (rest := []) hx hb hml hown hts hK hG hW (c_ru_mayBegin l D cA base hw12) (kb_ru_mayBegin hw12) ⟨Nat.le_of_ble_eq_true rfl, Nat.le_of_ble_eq_true rfl⟩ ⟨Nat.le_of_ble_eq_true rfl, Nat.le_of_ble_eq_true rfl⟩ rfl hl.1 rfl (Nat.le_of_ble_eq_true rfl) d_ru_doWhile_34 (fun H locs hW => ?_)
          refine lv_if_ne (tgt := 42) hx hb d_ru_doWhile_37 (by decide) (fun c14 => ?_) (fun c14 => ?_)
          · rw [if_neg c14] at h
            refine lv_iinc (v := (y3 + (1 : Int32))) (lv' := [(3, .int (y3 + (1 : Int32))), (0, .ref y0), (1, .ref x6), (2, .int y2)]) hx hb d_ru_doWhile_42 hl (k := 3) rfl rfl (by decide) rfl (fun ls hl => ?_)
            refine lv_goto (tgt := 2) hx hb d_ru_doWhile_45 (by decide) ?_
            exact ih y0 (some x6) y2 (y3 + (1 : Int32)) w12 h _ _ _ hW (lv_sub hl [1, 2, 3, 0] rfl)
          · rw [if_pos c14] at h
            exact jx_ru_doWhile_40 C w12 h _ _ _ hW (lv_sub hl [] rfl)
      · rw [if_pos c5] at h
        refine lv_iconst (v := (1 : Int32)) hx hb d_ru_doWhile_17 (by decide) ?_
        replace h := its h
        obtain ⟨c15, h⟩ := h
        cases h
set_option maxHeartbeats 4000000 in
set_option maxRecDepth 100000 in
theorem x_ru_doWhile (l : Launch) (hst : l.stackTraces = false) (D : va_G) (cA : Nat → ClassId) (base : Nat) {a0 : Nat} {a1 : Option Nat} {a2 : Int32} {w w' : WW} {E : String} (h : f_ru_doWhile a0 a1 a2 w = some (.inr E, w')) : xt l D cls (wo_tys cA) cA base y_ru_doWhile (Cond.code y_ru_doWhile b_ru_doWhile 4 (some .boolean) :: gt) rx_ru_doWhile [.ref a0, va_rf a1, .int a2] w E w' rx_ru_doWhile.cells rx_ru_doWhile.slots := by
  refine xt_start (by decide) (by simp only [lg_sl_0, lg_sl_1, lg_sl_2, lg_sl_3, lg_sl_rf]; decide) ?_
  intro p e s m below meth c ls hx hb hr hml hown hts hlk hnm hK hG hW hl hnt
  have C : cx b_ru_doWhile (some .boolean) 4 y_ru_doWhile.cls "doWhile" p s m [.ref a0, va_rf a1, .int a2].toArray meth c D cA base ∧ (∀ x ∈ c.exceptionTable.toList, ∀ k : Nat, covers x k = false) ∧ l.stackTraces = false := ⟨⟨hx, hb, hr, hml, hown, hts, hlk, hnm, hK, hG⟩, hnt, hst⟩
  have hl : lv_has ls 4 [(0, .ref a0), (1, va_rf a1), (2, .int a2)] := by simp only [lv_args_0, lv_args_1, lv_args_2, lv_args_3, lv_args_rf] at hl; exact hl
  unfold f_ru_doWhile at h
  replace h := its h
  obtain ⟨-, h⟩ := h
  refine lv_iconst (v := (0 : Int32)) hx hb d_ru_doWhile_0 (by decide) ?_
  refine lv_istore_n (lv' := [(3, .int (0 : Int32)), (0, .ref a0), (1, va_rf a1), (2, .int a2)]) hx hb d_ru_doWhile_1 rfl hl (by decide) rfl (fun ls hl => ?_)
  exact jx_ru_doWhile_2 C KK a0 a1 a2 (0 : Int32) w h _ _ _ hW (lv_sub hl [1, 2, 3, 0] rfl)
abbrev b_a_ran : ByteArray := prog_1_method_12_code
def y_a_ran : MethodName := ⟨"AlarmForge", "ran", "(I)I"⟩
def rm_a_ran : Room := { frames := 6, cells := 0, slots := 0, locals := 100 }
def rx_a_ran : Room := { frames := 6, cells := 1, slots := 6, locals := 100 }
theorem d_a_ran_0 : decode b_a_ran 0 = .ok (.iload_n 1, 1) := by decide +kernel
theorem d_a_ran_1 : decode b_a_ran 1 = .ok (.ifCond .ne (11), 3) := by decide +kernel
theorem d_a_ran_4 : decode b_a_ran 4 = .ok (.aload_n 0, 1) := by decide +kernel
theorem d_a_ran_5 : decode b_a_ran 5 = .ok (.getfield 43, 3) := by decide +kernel
theorem d_a_ran_8 : decode b_a_ran 8 = .ok (.getfield 102, 3) := by decide +kernel
theorem d_a_ran_11 : decode b_a_ran 11 = .ok (.ireturn, 1) := by decide +kernel
theorem d_a_ran_12 : decode b_a_ran 12 = .ok (.iload_n 1, 1) := by decide +kernel
theorem d_a_ran_13 : decode b_a_ran 13 = .ok (.iconst 1, 1) := by decide +kernel
theorem d_a_ran_14 : decode b_a_ran 14 = .ok (.if_icmp .ne (11), 3) := by decide +kernel
theorem d_a_ran_17 : decode b_a_ran 17 = .ok (.aload_n 0, 1) := by decide +kernel
theorem d_a_ran_18 : decode b_a_ran 18 = .ok (.getfield 43, 3) := by decide +kernel
theorem d_a_ran_21 : decode b_a_ran 21 = .ok (.getfield 105, 3) := by decide +kernel
theorem d_a_ran_24 : decode b_a_ran 24 = .ok (.ireturn, 1) := by decide +kernel
theorem d_a_ran_25 : decode b_a_ran 25 = .ok (.iload_n 1, 1) := by decide +kernel
theorem d_a_ran_26 : decode b_a_ran 26 = .ok (.iconst 2, 1) := by decide +kernel
theorem d_a_ran_27 : decode b_a_ran 27 = .ok (.if_icmp .ne (11), 3) := by decide +kernel
theorem d_a_ran_30 : decode b_a_ran 30 = .ok (.aload_n 0, 1) := by decide +kernel
theorem d_a_ran_31 : decode b_a_ran 31 = .ok (.getfield 43, 3) := by decide +kernel
theorem d_a_ran_34 : decode b_a_ran 34 = .ok (.getfield 108, 3) := by decide +kernel
theorem d_a_ran_37 : decode b_a_ran 37 = .ok (.ireturn, 1) := by decide +kernel
theorem d_a_ran_38 : decode b_a_ran 38 = .ok (.iload_n 1, 1) := by decide +kernel
theorem d_a_ran_39 : decode b_a_ran 39 = .ok (.bipush (10), 2) := by decide +kernel
theorem d_a_ran_41 : decode b_a_ran 41 = .ok (.if_icmp .lt (22), 3) := by decide +kernel
theorem d_a_ran_44 : decode b_a_ran 44 = .ok (.iload_n 1, 1) := by decide +kernel
theorem d_a_ran_45 : decode b_a_ran 45 = .ok (.bipush (16), 2) := by decide +kernel
theorem d_a_ran_47 : decode b_a_ran 47 = .ok (.if_icmp .ge (16), 3) := by decide +kernel
theorem d_a_ran_50 : decode b_a_ran 50 = .ok (.aload_n 0, 1) := by decide +kernel
theorem d_a_ran_51 : decode b_a_ran 51 = .ok (.getfield 43, 3) := by decide +kernel
theorem d_a_ran_54 : decode b_a_ran 54 = .ok (.getfield 111, 3) := by decide +kernel
theorem d_a_ran_57 : decode b_a_ran 57 = .ok (.iload_n 1, 1) := by decide +kernel
theorem d_a_ran_58 : decode b_a_ran 58 = .ok (.bipush (10), 2) := by decide +kernel
theorem d_a_ran_60 : decode b_a_ran 60 = .ok (.isub, 1) := by decide +kernel
theorem d_a_ran_61 : decode b_a_ran 61 = .ok (.iaload, 1) := by decide +kernel
theorem d_a_ran_62 : decode b_a_ran 62 = .ok (.ireturn, 1) := by decide +kernel
theorem d_a_ran_63 : decode b_a_ran 63 = .ok (.iload_n 1, 1) := by decide +kernel
theorem d_a_ran_64 : decode b_a_ran 64 = .ok (.bipush (20), 2) := by decide +kernel
theorem d_a_ran_66 : decode b_a_ran 66 = .ok (.if_icmp .lt (22), 3) := by decide +kernel
theorem d_a_ran_69 : decode b_a_ran 69 = .ok (.iload_n 1, 1) := by decide +kernel
theorem d_a_ran_70 : decode b_a_ran 70 = .ok (.bipush (28), 2) := by decide +kernel
theorem d_a_ran_72 : decode b_a_ran 72 = .ok (.if_icmp .ge (16), 3) := by decide +kernel
theorem d_a_ran_75 : decode b_a_ran 75 = .ok (.aload_n 0, 1) := by decide +kernel
theorem d_a_ran_76 : decode b_a_ran 76 = .ok (.getfield 43, 3) := by decide +kernel
theorem d_a_ran_79 : decode b_a_ran 79 = .ok (.getfield 115, 3) := by decide +kernel
theorem d_a_ran_82 : decode b_a_ran 82 = .ok (.iload_n 1, 1) := by decide +kernel
theorem d_a_ran_83 : decode b_a_ran 83 = .ok (.bipush (20), 2) := by decide +kernel
theorem d_a_ran_85 : decode b_a_ran 85 = .ok (.isub, 1) := by decide +kernel
theorem d_a_ran_86 : decode b_a_ran 86 = .ok (.iaload, 1) := by decide +kernel
theorem d_a_ran_87 : decode b_a_ran 87 = .ok (.ireturn, 1) := by decide +kernel
theorem d_a_ran_88 : decode b_a_ran 88 = .ok (.iload_n 1, 1) := by decide +kernel
theorem d_a_ran_89 : decode b_a_ran 89 = .ok (.bipush (30), 2) := by decide +kernel
theorem d_a_ran_91 : decode b_a_ran 91 = .ok (.if_icmp .lt (30), 3) := by decide +kernel
theorem d_a_ran_94 : decode b_a_ran 94 = .ok (.iload_n 1, 1) := by decide +kernel
theorem d_a_ran_95 : decode b_a_ran 95 = .ok (.bipush (36), 2) := by decide +kernel
theorem d_a_ran_97 : decode b_a_ran 97 = .ok (.if_icmp .ge (24), 3) := by decide +kernel
theorem d_a_ran_100 : decode b_a_ran 100 = .ok (.aload_n 0, 1) := by decide +kernel
theorem d_a_ran_101 : decode b_a_ran 101 = .ok (.getfield 43, 3) := by decide +kernel
theorem d_a_ran_104 : decode b_a_ran 104 = .ok (.getfield 118, 3) := by decide +kernel
theorem d_a_ran_107 : decode b_a_ran 107 = .ok (.iload_n 1, 1) := by decide +kernel
theorem d_a_ran_108 : decode b_a_ran 108 = .ok (.bipush (30), 2) := by decide +kernel
theorem d_a_ran_110 : decode b_a_ran 110 = .ok (.isub, 1) := by decide +kernel
theorem d_a_ran_111 : decode b_a_ran 111 = .ok (.baload, 1) := by decide +kernel
theorem d_a_ran_112 : decode b_a_ran 112 = .ok (.ifCond .eq (7), 3) := by decide +kernel
theorem d_a_ran_115 : decode b_a_ran 115 = .ok (.iconst 1, 1) := by decide +kernel
theorem d_a_ran_116 : decode b_a_ran 116 = .ok (.goto (4), 3) := by decide +kernel
theorem d_a_ran_119 : decode b_a_ran 119 = .ok (.iconst 0, 1) := by decide +kernel
theorem d_a_ran_120 : decode b_a_ran 120 = .ok (.ireturn, 1) := by decide +kernel
theorem d_a_ran_121 : decode b_a_ran 121 = .ok (.new 62, 3) := by decide +kernel
theorem d_a_ran_124 : decode b_a_ran 124 = .ok (.dup, 1) := by decide +kernel
theorem d_a_ran_125 : decode b_a_ran 125 = .ok (.invokespecial 64, 3) := by decide +kernel
theorem d_a_ran_128 : decode b_a_ran 128 = .ok (.athrow, 1) := by decide +kernel
def f_a_ran_121   (w : WW) : Option ((Int32 ⊕ String) × WW) :=
  some (.inr "java/lang/IllegalArgumentException", w)
def f_a_ran_120  (z0 : Int32) (w : WW) : Option ((Int32 ⊕ String) × WW) :=
  some (.inl z0, w)
def f_a_ran_88  (y0 : Nat) (y1 : Int32) (w : WW) : Option ((Int32 ⊕ String) × WW) :=
  if y1 < (30 : Int32) then
    f_a_ran_121 w
  else
    if (36 : Int32) ≤ y1 then
      f_a_ran_121 w
    else
      (gN w y0 0 7).bind fun x8 =>
      (gN w x8 5 1).bind fun x9 =>
      (rI w x9 2 (y1 - (30 : Int32))).bind fun x10 =>
      if x10 = 0 then
        f_a_ran_120 (0 : Int32) w
      else
        f_a_ran_120 (1 : Int32) w
def f_a_ran_63  (y0 : Nat) (y1 : Int32) (w : WW) : Option ((Int32 ⊕ String) × WW) :=
  if y1 < (20 : Int32) then
    f_a_ran_88 y0 y1 w
  else
    if (28 : Int32) ≤ y1 then
      f_a_ran_88 y0 y1 w
    else
      (gN w y0 0 7).bind fun x13 =>
      (gN w x13 5 2).bind fun x14 =>
      (rI w x14 0 (y1 - (20 : Int32))).bind fun x15 =>
      some (.inl x15, w)
def f_a_ran (a0 : Nat) (a1 : Int32) (w : WW) : Option ((Int32 ⊕ String) × WW) :=
  if kb w a0 0 = true then
    if a1 = 0 then
      (gN w a0 0 7).bind fun x24 =>
      (gI w x24 5 10).bind fun x25 =>
      some (.inl x25, w)
    else
      if a1 = (1 : Int32) then
        (gN w a0 0 7).bind fun x22 =>
        (gI w x22 5 8).bind fun x23 =>
        some (.inl x23, w)
      else
        if a1 = (2 : Int32) then
          (gN w a0 0 7).bind fun x20 =>
          (gI w x20 5 9).bind fun x21 =>
          some (.inl x21, w)
        else
          if a1 < (10 : Int32) then
            f_a_ran_63 a0 a1 w
          else
            if (16 : Int32) ≤ a1 then
              f_a_ran_63 a0 a1 w
            else
              (gN w a0 0 7).bind fun x17 =>
              (gN w x17 5 0).bind fun x18 =>
              (rI w x18 0 (a1 - (10 : Int32))).bind fun x19 =>
              some (.inl x19, w)
  else none
theorem kb_a_ran {a0 : Nat} {a1 : Int32} {w : WW} {r : ((Int32 ⊕ String) × WW)} (h : f_a_ran a0 a1 w = some r) : kb w a0 0 = true := (its h).1
set_option maxHeartbeats 4000000 in
set_option maxRecDepth 100000 in
theorem j_a_ran_121 {p : Program} {l : Launch} {e : Env} {s : State} {m : MethodId} {args : Array Value} {below : List Frame} {meth : Method} {c : Code} {D : va_G} {cA : Nat → ClassId} {base : Nat} {r : Int32} {w' : WW} (C : cx b_a_ran (some .int) 2 y_a_ran.cls "ran" p s m args meth c D cA base)   : ∀  (w : WW), f_a_ran_121  w = some (.inl r, w') → ∀ (H : Heap) (locs : List Loc) (ls : Array Slot), wo_S D cls cA base s w H locs → lv_has ls 2 [] → W p l e rm_a_ran s m args below meth c H locs 0 0 (MQ below (wo_Q D cls cA base (some (.int r)) w') args s rm_a_ran.cells rm_a_ran.slots (wo_B base)) (F0 m 121 ls []) := by
  obtain ⟨hx, hb, hr, hml, hown, hts, hlk, hnm, hK, hG⟩ := id C
  intro  w h H locs ls hW hl
  unfold f_a_ran_121 at h
  cases h
set_option maxHeartbeats 4000000 in
set_option maxRecDepth 100000 in
theorem j_a_ran_120 {p : Program} {l : Launch} {e : Env} {s : State} {m : MethodId} {args : Array Value} {below : List Frame} {meth : Method} {c : Code} {D : va_G} {cA : Nat → ClassId} {base : Nat} {r : Int32} {w' : WW} (C : cx b_a_ran (some .int) 2 y_a_ran.cls "ran" p s m args meth c D cA base)   : ∀ (z0 : Int32) (w : WW), f_a_ran_120 z0 w = some (.inl r, w') → ∀ (H : Heap) (locs : List Loc) (ls : Array Slot), wo_S D cls cA base s w H locs → lv_has ls 2 [] → W p l e rm_a_ran s m args below meth c H locs 0 0 (MQ below (wo_Q D cls cA base (some (.int r)) w') args s rm_a_ran.cells rm_a_ran.slots (wo_B base)) (F0 m 120 ls [.int z0]) := by
  obtain ⟨hx, hb, hr, hml, hown, hts, hlk, hnm, hK, hG⟩ := id C
  intro z0 w h H locs ls hW hl
  unfold f_a_ran_120 at h
  cases h
  exact wo_iret hx hb hr hlk hW d_a_ran_120
set_option maxHeartbeats 4000000 in
set_option maxRecDepth 100000 in
theorem j_a_ran_88 {p : Program} {l : Launch} {e : Env} {s : State} {m : MethodId} {args : Array Value} {below : List Frame} {meth : Method} {c : Code} {D : va_G} {cA : Nat → ClassId} {base : Nat} {r : Int32} {w' : WW} (C : cx b_a_ran (some .int) 2 y_a_ran.cls "ran" p s m args meth c D cA base)   : ∀ (y0 : Nat) (y1 : Int32) (w : WW), f_a_ran_88 y0 y1 w = some (.inl r, w') → ∀ (H : Heap) (locs : List Loc) (ls : Array Slot), wo_S D cls cA base s w H locs → lv_has ls 2 [(0, .ref y0), (1, .int y1)] → W p l e rm_a_ran s m args below meth c H locs 0 0 (MQ below (wo_Q D cls cA base (some (.int r)) w') args s rm_a_ran.cells rm_a_ran.slots (wo_B base)) (F0 m 88 ls []) := by
  obtain ⟨hx, hb, hr, hml, hown, hts, hlk, hnm, hK, hG⟩ := id C
  intro y0 y1 w h H locs ls hW hl
  unfold f_a_ran_88 at h
  refine lv_iload_n hx hb d_a_ran_88 rfl (lv_at hl 1 rfl) ?_
  refine lv_bipush (v := (30 : Int32)) hx hb d_a_ran_89 (by decide) ?_
  refine lv_icmp_lt (tgt := 121) hx hb d_a_ran_91 (by decide) (fun c6 => ?_) (fun c6 => ?_)
  · rw [if_pos c6] at h
    exact j_a_ran_121 C w h _ _ _ hW (lv_sub hl [] rfl)
  · rw [if_neg c6] at h
    refine lv_iload_n hx hb d_a_ran_94 rfl (lv_at hl 1 rfl) ?_
    refine lv_bipush (v := (36 : Int32)) hx hb d_a_ran_95 (by decide) ?_
    refine lv_icmp_ge (tgt := 121) hx hb d_a_ran_97 (by decide) (fun c7 => ?_) (fun c7 => ?_)
    · rw [if_pos c7] at h
      exact j_a_ran_121 C w h _ _ _ hW (lv_sub hl [] rfl)
    · rw [if_neg c7] at h
      refine lv_aload_n hx hb d_a_ran_100 rfl (lv_at hl 0 rfl) ?_
      replace h := bs h
      obtain ⟨x8, hx8, h⟩ := h
      refine gf_a_43 hx hb hts hown hK hG hW (gN_s hx8) d_a_ran_101 ?_
      replace h := bs h
      obtain ⟨x9, hx9, h⟩ := h
      refine gf_a_118 hx hb hts hown hK hG hW (gN_s hx9) d_a_ran_104 ?_
      refine lv_iload_n hx hb d_a_ran_107 rfl (lv_at hl 1 rfl) ?_
      refine lv_bipush (v := (30 : Int32)) hx hb d_a_ran_108 (by decide) ?_
      refine lv_isub hx hb d_a_ran_110 ?_
      replace h := bs h
      obtain ⟨x10, hx10, h⟩ := h
      refine wo_zald hx hb hK hW (t := 2) rfl hx10 d_a_ran_111 ?_
      refine lv_if_eq (tgt := 119) hx hb d_a_ran_112 (by decide) (fun c11 => ?_) (fun c11 => ?_)
      · rw [if_pos c11] at h
        refine lv_iconst (v := (0 : Int32)) hx hb d_a_ran_119 (by decide) ?_
        exact j_a_ran_120 C (0 : Int32) w h _ _ _ hW (lv_sub hl [] rfl)
      · rw [if_neg c11] at h
        refine lv_iconst (v := (1 : Int32)) hx hb d_a_ran_115 (by decide) ?_
        refine lv_goto (tgt := 120) hx hb d_a_ran_116 (by decide) ?_
        exact j_a_ran_120 C (1 : Int32) w h _ _ _ hW (lv_sub hl [] rfl)
set_option maxHeartbeats 4000000 in
set_option maxRecDepth 100000 in
theorem j_a_ran_63 {p : Program} {l : Launch} {e : Env} {s : State} {m : MethodId} {args : Array Value} {below : List Frame} {meth : Method} {c : Code} {D : va_G} {cA : Nat → ClassId} {base : Nat} {r : Int32} {w' : WW} (C : cx b_a_ran (some .int) 2 y_a_ran.cls "ran" p s m args meth c D cA base)   : ∀ (y0 : Nat) (y1 : Int32) (w : WW), f_a_ran_63 y0 y1 w = some (.inl r, w') → ∀ (H : Heap) (locs : List Loc) (ls : Array Slot), wo_S D cls cA base s w H locs → lv_has ls 2 [(0, .ref y0), (1, .int y1)] → W p l e rm_a_ran s m args below meth c H locs 0 0 (MQ below (wo_Q D cls cA base (some (.int r)) w') args s rm_a_ran.cells rm_a_ran.slots (wo_B base)) (F0 m 63 ls []) := by
  obtain ⟨hx, hb, hr, hml, hown, hts, hlk, hnm, hK, hG⟩ := id C
  intro y0 y1 w h H locs ls hW hl
  unfold f_a_ran_63 at h
  refine lv_iload_n hx hb d_a_ran_63 rfl (lv_at hl 1 rfl) ?_
  refine lv_bipush (v := (20 : Int32)) hx hb d_a_ran_64 (by decide) ?_
  refine lv_icmp_lt (tgt := 88) hx hb d_a_ran_66 (by decide) (fun c5 => ?_) (fun c5 => ?_)
  · rw [if_pos c5] at h
    exact j_a_ran_88 C y0 y1 w h _ _ _ hW (lv_sub hl [0, 1] rfl)
  · rw [if_neg c5] at h
    refine lv_iload_n hx hb d_a_ran_69 rfl (lv_at hl 1 rfl) ?_
    refine lv_bipush (v := (28 : Int32)) hx hb d_a_ran_70 (by decide) ?_
    refine lv_icmp_ge (tgt := 88) hx hb d_a_ran_72 (by decide) (fun c12 => ?_) (fun c12 => ?_)
    · rw [if_pos c12] at h
      exact j_a_ran_88 C y0 y1 w h _ _ _ hW (lv_sub hl [0, 1] rfl)
    · rw [if_neg c12] at h
      refine lv_aload_n hx hb d_a_ran_75 rfl (lv_at hl 0 rfl) ?_
      replace h := bs h
      obtain ⟨x13, hx13, h⟩ := h
      refine gf_a_43 hx hb hts hown hK hG hW (gN_s hx13) d_a_ran_76 ?_
      replace h := bs h
      obtain ⟨x14, hx14, h⟩ := h
      refine gf_a_115 hx hb hts hown hK hG hW (gN_s hx14) d_a_ran_79 ?_
      refine lv_iload_n hx hb d_a_ran_82 rfl (lv_at hl 1 rfl) ?_
      refine lv_bipush (v := (20 : Int32)) hx hb d_a_ran_83 (by decide) ?_
      refine lv_isub hx hb d_a_ran_85 ?_
      replace h := bs h
      obtain ⟨x15, hx15, h⟩ := h
      refine wo_iald hx hb hK hW (t := 0) rfl hx15 d_a_ran_86 ?_
      cases h
      exact wo_iret hx hb hr hlk hW d_a_ran_87
set_option maxHeartbeats 4000000 in
set_option maxRecDepth 100000 in
theorem c_a_ran (l : Launch) (D : va_G) (cA : Nat → ClassId) (base : Nat) {a0 : Nat} {a1 : Int32} {w w' : WW} {r : Int32} (h : f_a_ran a0 a1 w = some (.inl r, w')) : mt l D cls (wo_tys cA) cA base y_a_ran (Cond.code y_a_ran b_a_ran 2 (some .int) :: gt) rm_a_ran [.ref a0, .int a1] w (some (.int r)) w' rm_a_ran.cells rm_a_ran.slots := by
  refine mt_start (by decide) (Nat.le_of_ble_eq_true rfl) ?_
  intro p e s m below meth c ls hx hb hr hml hown hts hlk hnm hK hG hW hl
  have C : cx b_a_ran (some .int) 2 y_a_ran.cls "ran" p s m [.ref a0, .int a1].toArray meth c D cA base := ⟨hx, hb, hr, hml, hown, hts, hlk, hnm, hK, hG⟩
  have hl : lv_has ls 2 [(0, .ref a0), (1, .int a1)] := hl
  unfold f_a_ran at h
  replace h := its h
  obtain ⟨-, h⟩ := h
  refine lv_iload_n hx hb d_a_ran_0 rfl (lv_at hl 1 rfl) ?_
  refine lv_if_ne (tgt := 12) hx hb d_a_ran_1 (by decide) (fun c1 => ?_) (fun c1 => ?_)
  · rw [if_neg c1] at h
    refine lv_iload_n hx hb d_a_ran_12 rfl (lv_at hl 1 rfl) ?_
    refine lv_iconst (v := (1 : Int32)) hx hb d_a_ran_13 (by decide) ?_
    refine lv_icmp_ne (tgt := 25) hx hb d_a_ran_14 (by decide) (fun c2 => ?_) (fun c2 => ?_)
    · rw [if_neg c2] at h
      refine lv_iload_n hx hb d_a_ran_25 rfl (lv_at hl 1 rfl) ?_
      refine lv_iconst (v := (2 : Int32)) hx hb d_a_ran_26 (by decide) ?_
      refine lv_icmp_ne (tgt := 38) hx hb d_a_ran_27 (by decide) (fun c3 => ?_) (fun c3 => ?_)
      · rw [if_neg c3] at h
        refine lv_iload_n hx hb d_a_ran_38 rfl (lv_at hl 1 rfl) ?_
        refine lv_bipush (v := (10 : Int32)) hx hb d_a_ran_39 (by decide) ?_
        refine lv_icmp_lt (tgt := 63) hx hb d_a_ran_41 (by decide) (fun c4 => ?_) (fun c4 => ?_)
        · rw [if_pos c4] at h
          exact j_a_ran_63 C a0 a1 w h _ _ _ hW (lv_sub hl [0, 1] rfl)
        · rw [if_neg c4] at h
          refine lv_iload_n hx hb d_a_ran_44 rfl (lv_at hl 1 rfl) ?_
          refine lv_bipush (v := (16 : Int32)) hx hb d_a_ran_45 (by decide) ?_
          refine lv_icmp_ge (tgt := 63) hx hb d_a_ran_47 (by decide) (fun c16 => ?_) (fun c16 => ?_)
          · rw [if_pos c16] at h
            exact j_a_ran_63 C a0 a1 w h _ _ _ hW (lv_sub hl [0, 1] rfl)
          · rw [if_neg c16] at h
            refine lv_aload_n hx hb d_a_ran_50 rfl (lv_at hl 0 rfl) ?_
            replace h := bs h
            obtain ⟨x17, hx17, h⟩ := h
            refine gf_a_43 hx hb hts hown hK hG hW (gN_s hx17) d_a_ran_51 ?_
            replace h := bs h
            obtain ⟨x18, hx18, h⟩ := h
            refine gf_a_111 hx hb hts hown hK hG hW (gN_s hx18) d_a_ran_54 ?_
            refine lv_iload_n hx hb d_a_ran_57 rfl (lv_at hl 1 rfl) ?_
            refine lv_bipush (v := (10 : Int32)) hx hb d_a_ran_58 (by decide) ?_
            refine lv_isub hx hb d_a_ran_60 ?_
            replace h := bs h
            obtain ⟨x19, hx19, h⟩ := h
            refine wo_iald hx hb hK hW (t := 0) rfl hx19 d_a_ran_61 ?_
            cases h
            exact wo_iret hx hb hr hlk hW d_a_ran_62
      · rw [if_pos c3] at h
        refine lv_aload_n hx hb d_a_ran_30 rfl (lv_at hl 0 rfl) ?_
        replace h := bs h
        obtain ⟨x20, hx20, h⟩ := h
        refine gf_a_43 hx hb hts hown hK hG hW (gN_s hx20) d_a_ran_31 ?_
        replace h := bs h
        obtain ⟨x21, hx21, h⟩ := h
        refine gf_a_108 hx hb hts hown hK hG hW (gI_s hx21) d_a_ran_34 ?_
        cases h
        exact wo_iret hx hb hr hlk hW d_a_ran_37
    · rw [if_pos c2] at h
      refine lv_aload_n hx hb d_a_ran_17 rfl (lv_at hl 0 rfl) ?_
      replace h := bs h
      obtain ⟨x22, hx22, h⟩ := h
      refine gf_a_43 hx hb hts hown hK hG hW (gN_s hx22) d_a_ran_18 ?_
      replace h := bs h
      obtain ⟨x23, hx23, h⟩ := h
      refine gf_a_105 hx hb hts hown hK hG hW (gI_s hx23) d_a_ran_21 ?_
      cases h
      exact wo_iret hx hb hr hlk hW d_a_ran_24
  · rw [if_pos c1] at h
    refine lv_aload_n hx hb d_a_ran_4 rfl (lv_at hl 0 rfl) ?_
    replace h := bs h
    obtain ⟨x24, hx24, h⟩ := h
    refine gf_a_43 hx hb hts hown hK hG hW (gN_s hx24) d_a_ran_5 ?_
    replace h := bs h
    obtain ⟨x25, hx25, h⟩ := h
    refine gf_a_102 hx hb hts hown hK hG hW (gI_s hx25) d_a_ran_8 ?_
    cases h
    exact wo_iret hx hb hr hlk hW d_a_ran_11
set_option maxHeartbeats 4000000 in
set_option maxRecDepth 100000 in
theorem jx_a_ran_121 {p : Program} {l : Launch} {e : Env} {s : State} {m : MethodId} {args : Array Value} {below : List Frame} {meth : Method} {c : Code} {D : va_G} {cA : Nat → ClassId} {base : Nat} {E : String} {w' : WW} (C : cx b_a_ran (some .int) 2 y_a_ran.cls "ran" p s m args meth c D cA base ∧ (∀ x ∈ c.exceptionTable.toList, ∀ k : Nat, covers x k = false) ∧ l.stackTraces = false)   : ∀  (w : WW), f_a_ran_121  w = some (.inr E, w') → ∀ (H : Heap) (locs : List Loc) (ls : Array Slot), wo_S D cls cA base s w H locs → lv_has ls 2 [] → W p l e rx_a_ran s m args below meth c H locs 0 0 (XQ below (wo_X D cls cA base E w' rx_a_ran.cells rx_a_ran.slots) args s) (F0 m 121 ls []) := by
  obtain ⟨hx, hb, hr, hml, hown, hts, hlk, hnm, hK, hG⟩ := id C.1
  have hnt := C.2.1
  have hst := C.2.2
  intro  w h H locs ls hW hl
  unfold f_a_ran_121 at h
  cases h
  exact wo_throw (names := ["java/lang/RuntimeException", "java/lang/Exception"]) hx hb hst hown hts hG hW hnt hlk (by decide) (by decide) (gt_of (i := 395) (by decide +kernel) (by decide +kernel)) (gt_of (i := 14) (by decide +kernel) (by decide +kernel)) ow_a_64 (hl.1.trans hml.symm) d_a_ran_121 d_a_ran_124 d_a_ran_125 d_a_ran_128 (Nat.le_of_ble_eq_true rfl) (Nat.le_of_ble_eq_true rfl) (Nat.le_of_ble_eq_true rfl) (Nat.le_of_ble_eq_true rfl) (Nat.le_of_ble_eq_true rfl) (Nat.le_of_ble_eq_true rfl)
set_option maxHeartbeats 4000000 in
set_option maxRecDepth 100000 in
theorem jx_a_ran_120 {p : Program} {l : Launch} {e : Env} {s : State} {m : MethodId} {args : Array Value} {below : List Frame} {meth : Method} {c : Code} {D : va_G} {cA : Nat → ClassId} {base : Nat} {E : String} {w' : WW} (C : cx b_a_ran (some .int) 2 y_a_ran.cls "ran" p s m args meth c D cA base ∧ (∀ x ∈ c.exceptionTable.toList, ∀ k : Nat, covers x k = false) ∧ l.stackTraces = false)   : ∀ (z0 : Int32) (w : WW), f_a_ran_120 z0 w = some (.inr E, w') → ∀ (H : Heap) (locs : List Loc) (ls : Array Slot), wo_S D cls cA base s w H locs → lv_has ls 2 [] → W p l e rx_a_ran s m args below meth c H locs 0 0 (XQ below (wo_X D cls cA base E w' rx_a_ran.cells rx_a_ran.slots) args s) (F0 m 120 ls [.int z0]) := by
  obtain ⟨hx, hb, hr, hml, hown, hts, hlk, hnm, hK, hG⟩ := id C.1
  have hnt := C.2.1
  have hst := C.2.2
  intro z0 w h H locs ls hW hl
  unfold f_a_ran_120 at h
  cases h
set_option maxHeartbeats 4000000 in
set_option maxRecDepth 100000 in
theorem jx_a_ran_88 {p : Program} {l : Launch} {e : Env} {s : State} {m : MethodId} {args : Array Value} {below : List Frame} {meth : Method} {c : Code} {D : va_G} {cA : Nat → ClassId} {base : Nat} {E : String} {w' : WW} (C : cx b_a_ran (some .int) 2 y_a_ran.cls "ran" p s m args meth c D cA base ∧ (∀ x ∈ c.exceptionTable.toList, ∀ k : Nat, covers x k = false) ∧ l.stackTraces = false)   : ∀ (y0 : Nat) (y1 : Int32) (w : WW), f_a_ran_88 y0 y1 w = some (.inr E, w') → ∀ (H : Heap) (locs : List Loc) (ls : Array Slot), wo_S D cls cA base s w H locs → lv_has ls 2 [(0, .ref y0), (1, .int y1)] → W p l e rx_a_ran s m args below meth c H locs 0 0 (XQ below (wo_X D cls cA base E w' rx_a_ran.cells rx_a_ran.slots) args s) (F0 m 88 ls []) := by
  obtain ⟨hx, hb, hr, hml, hown, hts, hlk, hnm, hK, hG⟩ := id C.1
  have hnt := C.2.1
  have hst := C.2.2
  intro y0 y1 w h H locs ls hW hl
  unfold f_a_ran_88 at h
  refine lv_iload_n hx hb d_a_ran_88 rfl (lv_at hl 1 rfl) ?_
  refine lv_bipush (v := (30 : Int32)) hx hb d_a_ran_89 (by decide) ?_
  refine lv_icmp_lt (tgt := 121) hx hb d_a_ran_91 (by decide) (fun c6 => ?_) (fun c6 => ?_)
  · rw [if_pos c6] at h
    exact jx_a_ran_121 C w h _ _ _ hW (lv_sub hl [] rfl)
  · rw [if_neg c6] at h
    refine lv_iload_n hx hb d_a_ran_94 rfl (lv_at hl 1 rfl) ?_
    refine lv_bipush (v := (36 : Int32)) hx hb d_a_ran_95 (by decide) ?_
    refine lv_icmp_ge (tgt := 121) hx hb d_a_ran_97 (by decide) (fun c7 => ?_) (fun c7 => ?_)
    · rw [if_pos c7] at h
      exact jx_a_ran_121 C w h _ _ _ hW (lv_sub hl [] rfl)
    · rw [if_neg c7] at h
      refine lv_aload_n hx hb d_a_ran_100 rfl (lv_at hl 0 rfl) ?_
      replace h := bs h
      obtain ⟨x8, hx8, h⟩ := h
      refine gf_a_43 hx hb hts hown hK hG hW (gN_s hx8) d_a_ran_101 ?_
      replace h := bs h
      obtain ⟨x9, hx9, h⟩ := h
      refine gf_a_118 hx hb hts hown hK hG hW (gN_s hx9) d_a_ran_104 ?_
      refine lv_iload_n hx hb d_a_ran_107 rfl (lv_at hl 1 rfl) ?_
      refine lv_bipush (v := (30 : Int32)) hx hb d_a_ran_108 (by decide) ?_
      refine lv_isub hx hb d_a_ran_110 ?_
      replace h := bs h
      obtain ⟨x10, hx10, h⟩ := h
      refine wo_zald hx hb hK hW (t := 2) rfl hx10 d_a_ran_111 ?_
      refine lv_if_eq (tgt := 119) hx hb d_a_ran_112 (by decide) (fun c11 => ?_) (fun c11 => ?_)
      · rw [if_pos c11] at h
        refine lv_iconst (v := (0 : Int32)) hx hb d_a_ran_119 (by decide) ?_
        exact jx_a_ran_120 C (0 : Int32) w h _ _ _ hW (lv_sub hl [] rfl)
      · rw [if_neg c11] at h
        refine lv_iconst (v := (1 : Int32)) hx hb d_a_ran_115 (by decide) ?_
        refine lv_goto (tgt := 120) hx hb d_a_ran_116 (by decide) ?_
        exact jx_a_ran_120 C (1 : Int32) w h _ _ _ hW (lv_sub hl [] rfl)
set_option maxHeartbeats 4000000 in
set_option maxRecDepth 100000 in
theorem jx_a_ran_63 {p : Program} {l : Launch} {e : Env} {s : State} {m : MethodId} {args : Array Value} {below : List Frame} {meth : Method} {c : Code} {D : va_G} {cA : Nat → ClassId} {base : Nat} {E : String} {w' : WW} (C : cx b_a_ran (some .int) 2 y_a_ran.cls "ran" p s m args meth c D cA base ∧ (∀ x ∈ c.exceptionTable.toList, ∀ k : Nat, covers x k = false) ∧ l.stackTraces = false)   : ∀ (y0 : Nat) (y1 : Int32) (w : WW), f_a_ran_63 y0 y1 w = some (.inr E, w') → ∀ (H : Heap) (locs : List Loc) (ls : Array Slot), wo_S D cls cA base s w H locs → lv_has ls 2 [(0, .ref y0), (1, .int y1)] → W p l e rx_a_ran s m args below meth c H locs 0 0 (XQ below (wo_X D cls cA base E w' rx_a_ran.cells rx_a_ran.slots) args s) (F0 m 63 ls []) := by
  obtain ⟨hx, hb, hr, hml, hown, hts, hlk, hnm, hK, hG⟩ := id C.1
  have hnt := C.2.1
  have hst := C.2.2
  intro y0 y1 w h H locs ls hW hl
  unfold f_a_ran_63 at h
  refine lv_iload_n hx hb d_a_ran_63 rfl (lv_at hl 1 rfl) ?_
  refine lv_bipush (v := (20 : Int32)) hx hb d_a_ran_64 (by decide) ?_
  refine lv_icmp_lt (tgt := 88) hx hb d_a_ran_66 (by decide) (fun c5 => ?_) (fun c5 => ?_)
  · rw [if_pos c5] at h
    exact jx_a_ran_88 C y0 y1 w h _ _ _ hW (lv_sub hl [0, 1] rfl)
  · rw [if_neg c5] at h
    refine lv_iload_n hx hb d_a_ran_69 rfl (lv_at hl 1 rfl) ?_
    refine lv_bipush (v := (28 : Int32)) hx hb d_a_ran_70 (by decide) ?_
    refine lv_icmp_ge (tgt := 88) hx hb d_a_ran_72 (by decide) (fun c12 => ?_) (fun c12 => ?_)
    · rw [if_pos c12] at h
      exact jx_a_ran_88 C y0 y1 w h _ _ _ hW (lv_sub hl [0, 1] rfl)
    · rw [if_neg c12] at h
      refine lv_aload_n hx hb d_a_ran_75 rfl (lv_at hl 0 rfl) ?_
      replace h := bs h
      obtain ⟨x13, hx13, h⟩ := h
      refine gf_a_43 hx hb hts hown hK hG hW (gN_s hx13) d_a_ran_76 ?_
      replace h := bs h
      obtain ⟨x14, hx14, h⟩ := h
      refine gf_a_115 hx hb hts hown hK hG hW (gN_s hx14) d_a_ran_79 ?_
      refine lv_iload_n hx hb d_a_ran_82 rfl (lv_at hl 1 rfl) ?_
      refine lv_bipush (v := (20 : Int32)) hx hb d_a_ran_83 (by decide) ?_
      refine lv_isub hx hb d_a_ran_85 ?_
      replace h := bs h
      obtain ⟨x15, hx15, h⟩ := h
      refine wo_iald hx hb hK hW (t := 0) rfl hx15 d_a_ran_86 ?_
      cases h
set_option maxHeartbeats 4000000 in
set_option maxRecDepth 100000 in
theorem x_a_ran (l : Launch) (hst : l.stackTraces = false) (D : va_G) (cA : Nat → ClassId) (base : Nat) {a0 : Nat} {a1 : Int32} {w w' : WW} {E : String} (h : f_a_ran a0 a1 w = some (.inr E, w')) : xt l D cls (wo_tys cA) cA base y_a_ran (Cond.code y_a_ran b_a_ran 2 (some .int) :: gt) rx_a_ran [.ref a0, .int a1] w E w' rx_a_ran.cells rx_a_ran.slots := by
  refine xt_start (by decide) (Nat.le_of_ble_eq_true rfl) ?_
  intro p e s m below meth c ls hx hb hr hml hown hts hlk hnm hK hG hW hl hnt
  have C : cx b_a_ran (some .int) 2 y_a_ran.cls "ran" p s m [.ref a0, .int a1].toArray meth c D cA base ∧ (∀ x ∈ c.exceptionTable.toList, ∀ k : Nat, covers x k = false) ∧ l.stackTraces = false := ⟨⟨hx, hb, hr, hml, hown, hts, hlk, hnm, hK, hG⟩, hnt, hst⟩
  have hl : lv_has ls 2 [(0, .ref a0), (1, .int a1)] := hl
  unfold f_a_ran at h
  replace h := its h
  obtain ⟨-, h⟩ := h
  refine lv_iload_n hx hb d_a_ran_0 rfl (lv_at hl 1 rfl) ?_
  refine lv_if_ne (tgt := 12) hx hb d_a_ran_1 (by decide) (fun c1 => ?_) (fun c1 => ?_)
  · rw [if_neg c1] at h
    refine lv_iload_n hx hb d_a_ran_12 rfl (lv_at hl 1 rfl) ?_
    refine lv_iconst (v := (1 : Int32)) hx hb d_a_ran_13 (by decide) ?_
    refine lv_icmp_ne (tgt := 25) hx hb d_a_ran_14 (by decide) (fun c2 => ?_) (fun c2 => ?_)
    · rw [if_neg c2] at h
      refine lv_iload_n hx hb d_a_ran_25 rfl (lv_at hl 1 rfl) ?_
      refine lv_iconst (v := (2 : Int32)) hx hb d_a_ran_26 (by decide) ?_
      refine lv_icmp_ne (tgt := 38) hx hb d_a_ran_27 (by decide) (fun c3 => ?_) (fun c3 => ?_)
      · rw [if_neg c3] at h
        refine lv_iload_n hx hb d_a_ran_38 rfl (lv_at hl 1 rfl) ?_
        refine lv_bipush (v := (10 : Int32)) hx hb d_a_ran_39 (by decide) ?_
        refine lv_icmp_lt (tgt := 63) hx hb d_a_ran_41 (by decide) (fun c4 => ?_) (fun c4 => ?_)
        · rw [if_pos c4] at h
          exact jx_a_ran_63 C a0 a1 w h _ _ _ hW (lv_sub hl [0, 1] rfl)
        · rw [if_neg c4] at h
          refine lv_iload_n hx hb d_a_ran_44 rfl (lv_at hl 1 rfl) ?_
          refine lv_bipush (v := (16 : Int32)) hx hb d_a_ran_45 (by decide) ?_
          refine lv_icmp_ge (tgt := 63) hx hb d_a_ran_47 (by decide) (fun c16 => ?_) (fun c16 => ?_)
          · rw [if_pos c16] at h
            exact jx_a_ran_63 C a0 a1 w h _ _ _ hW (lv_sub hl [0, 1] rfl)
          · rw [if_neg c16] at h
            refine lv_aload_n hx hb d_a_ran_50 rfl (lv_at hl 0 rfl) ?_
            replace h := bs h
            obtain ⟨x17, hx17, h⟩ := h
            refine gf_a_43 hx hb hts hown hK hG hW (gN_s hx17) d_a_ran_51 ?_
            replace h := bs h
            obtain ⟨x18, hx18, h⟩ := h
            refine gf_a_111 hx hb hts hown hK hG hW (gN_s hx18) d_a_ran_54 ?_
            refine lv_iload_n hx hb d_a_ran_57 rfl (lv_at hl 1 rfl) ?_
            refine lv_bipush (v := (10 : Int32)) hx hb d_a_ran_58 (by decide) ?_
            refine lv_isub hx hb d_a_ran_60 ?_
            replace h := bs h
            obtain ⟨x19, hx19, h⟩ := h
            refine wo_iald hx hb hK hW (t := 0) rfl hx19 d_a_ran_61 ?_
            cases h
      · rw [if_pos c3] at h
        refine lv_aload_n hx hb d_a_ran_30 rfl (lv_at hl 0 rfl) ?_
        replace h := bs h
        obtain ⟨x20, hx20, h⟩ := h
        refine gf_a_43 hx hb hts hown hK hG hW (gN_s hx20) d_a_ran_31 ?_
        replace h := bs h
        obtain ⟨x21, hx21, h⟩ := h
        refine gf_a_108 hx hb hts hown hK hG hW (gI_s hx21) d_a_ran_34 ?_
        cases h
    · rw [if_pos c2] at h
      refine lv_aload_n hx hb d_a_ran_17 rfl (lv_at hl 0 rfl) ?_
      replace h := bs h
      obtain ⟨x22, hx22, h⟩ := h
      refine gf_a_43 hx hb hts hown hK hG hW (gN_s hx22) d_a_ran_18 ?_
      replace h := bs h
      obtain ⟨x23, hx23, h⟩ := h
      refine gf_a_105 hx hb hts hown hK hG hW (gI_s hx23) d_a_ran_21 ?_
      cases h
  · rw [if_pos c1] at h
    refine lv_aload_n hx hb d_a_ran_4 rfl (lv_at hl 0 rfl) ?_
    replace h := bs h
    obtain ⟨x24, hx24, h⟩ := h
    refine gf_a_43 hx hb hts hown hK hG hW (gN_s hx24) d_a_ran_5 ?_
    replace h := bs h
    obtain ⟨x25, hx25, h⟩ := h
    refine gf_a_102 hx hb hts hown hK hG hW (gI_s hx25) d_a_ran_8 ?_
    cases h
