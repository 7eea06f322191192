/-! Methods as functions, and their contracts (by wip/gen/run.py). -/
abbrev b_q_isOperator : ByteArray := prog_11_method_14_code
def y_q_isOperator : MethodName := ⟨"AlarmForgeModel", "isOperator", "(I)Z"⟩
def rm_q_isOperator : Room := { frames := 0, cells := 0, slots := 0, locals := 0 }
theorem d_q_isOperator_0 : decode b_q_isOperator 0 = .ok (.iload_n 0, 1) := by decide +kernel
theorem d_q_isOperator_1 : decode b_q_isOperator 1 = .ok (.bipush (43), 2) := by decide +kernel
theorem d_q_isOperator_3 : decode b_q_isOperator 3 = .ok (.if_icmp .eq (27), 3) := by decide +kernel
theorem d_q_isOperator_6 : decode b_q_isOperator 6 = .ok (.iload_n 0, 1) := by decide +kernel
theorem d_q_isOperator_7 : decode b_q_isOperator 7 = .ok (.bipush (45), 2) := by decide +kernel
theorem d_q_isOperator_9 : decode b_q_isOperator 9 = .ok (.if_icmp .eq (21), 3) := by decide +kernel
theorem d_q_isOperator_12 : decode b_q_isOperator 12 = .ok (.iload_n 0, 1) := by decide +kernel
theorem d_q_isOperator_13 : decode b_q_isOperator 13 = .ok (.bipush (42), 2) := by decide +kernel
theorem d_q_isOperator_15 : decode b_q_isOperator 15 = .ok (.if_icmp .eq (15), 3) := by decide +kernel
theorem d_q_isOperator_18 : decode b_q_isOperator 18 = .ok (.iload_n 0, 1) := by decide +kernel
theorem d_q_isOperator_19 : decode b_q_isOperator 19 = .ok (.bipush (47), 2) := by decide +kernel
theorem d_q_isOperator_21 : decode b_q_isOperator 21 = .ok (.if_icmp .eq (9), 3) := by decide +kernel
theorem d_q_isOperator_24 : decode b_q_isOperator 24 = .ok (.iload_n 0, 1) := by decide +kernel
theorem d_q_isOperator_25 : decode b_q_isOperator 25 = .ok (.bipush (37), 2) := by decide +kernel
theorem d_q_isOperator_27 : decode b_q_isOperator 27 = .ok (.if_icmp .ne (7), 3) := by decide +kernel
theorem d_q_isOperator_30 : decode b_q_isOperator 30 = .ok (.iconst 1, 1) := by decide +kernel
theorem d_q_isOperator_31 : decode b_q_isOperator 31 = .ok (.goto (4), 3) := by decide +kernel
theorem d_q_isOperator_34 : decode b_q_isOperator 34 = .ok (.iconst 0, 1) := by decide +kernel
theorem d_q_isOperator_35 : decode b_q_isOperator 35 = .ok (.ireturn, 1) := by decide +kernel
set_option maxHeartbeats 4000000 in
set_option maxRecDepth 100000 in
theorem j_q_isOperator_35 {p : Program} {l : Launch} {e : Env} {s : State} {m : MethodId} {args : Array Value} {below : List Frame} {meth : Method} {c : Code} {D : va_G} {cA : Nat → ClassId} {base : Nat} {r : Int32} {w' : WW} (C : cx b_q_isOperator (some .boolean) 1 y_q_isOperator.cls "isOperator" p s m args meth c D cA base)   : ∀ (z0 : Int32) (w : WW), f_q_isOperator_35 z0 w = some (r, w') → ∀ (H : Heap) (locs : List Loc) (ls : Array Slot), wo_S D cls cA base s w H locs → lv_has ls 1 [] → W p l e rm_q_isOperator s m args below meth c H locs 0 0 (MQ below (wo_Q D cls cA base (some (.int r)) w') args s rm_q_isOperator.cells rm_q_isOperator.slots (wo_B base)) (F0 m 35 ls [.int z0]) := by
  obtain ⟨hx, hb, hr, hml, hown, hts, hlk, hnm, hK, hG⟩ := id C
  intro z0 w h H locs ls hW hl
  unfold f_q_isOperator_35 at h
  replace h := its h
  obtain ⟨c2, h⟩ := h
  cases h
  exact wo_zret hx hb hr hlk hW c2 d_q_isOperator_35
set_option maxHeartbeats 4000000 in
set_option maxRecDepth 100000 in
theorem j_q_isOperator_30 {p : Program} {l : Launch} {e : Env} {s : State} {m : MethodId} {args : Array Value} {below : List Frame} {meth : Method} {c : Code} {D : va_G} {cA : Nat → ClassId} {base : Nat} {r : Int32} {w' : WW} (C : cx b_q_isOperator (some .boolean) 1 y_q_isOperator.cls "isOperator" p s m args meth c D cA base)   : ∀  (w : WW), f_q_isOperator_30  w = some (r, w') → ∀ (H : Heap) (locs : List Loc) (ls : Array Slot), wo_S D cls cA base s w H locs → lv_has ls 1 [] → W p l e rm_q_isOperator s m args below meth c H locs 0 0 (MQ below (wo_Q D cls cA base (some (.int r)) w') args s rm_q_isOperator.cells rm_q_isOperator.slots (wo_B base)) (F0 m 30 ls []) := by
  obtain ⟨hx, hb, hr, hml, hown, hts, hlk, hnm, hK, hG⟩ := id C
  intro  w h H locs ls hW hl
  unfold f_q_isOperator_30 at h
  refine lv_iconst (v := (1 : Int32)) hx hb d_q_isOperator_30 (by decide) ?_
  refine lv_goto (tgt := 35) hx hb d_q_isOperator_31 (by decide) ?_
  exact j_q_isOperator_35 C (1 : Int32) w h _ _ _ hW (lv_sub hl [] rfl)
set_option maxHeartbeats 4000000 in
set_option maxRecDepth 100000 in
theorem c_q_isOperator (l : Launch) (D : va_G) (cA : Nat → ClassId) (base : Nat) {a0 : Int32} {w w' : WW} {r : Int32} (h : f_q_isOperator a0 w = some (r, w')) : mt l D cls (wo_tys cA) cA base y_q_isOperator (Cond.code y_q_isOperator b_q_isOperator 1 (some .boolean) :: gt) rm_q_isOperator [.int a0] w (some (.int r)) w' rm_q_isOperator.cells rm_q_isOperator.slots := by
  refine mt_start (by decide) (Nat.le_of_ble_eq_true rfl) ?_
  intro p e s m below meth c ls hx hb hr hml hown hts hlk hnm hK hG hW hl
  have C : cx b_q_isOperator (some .boolean) 1 y_q_isOperator.cls "isOperator" p s m [.int a0].toArray meth c D cA base := ⟨hx, hb, hr, hml, hown, hts, hlk, hnm, hK, hG⟩
  have hl : lv_has ls 1 [(0, .int a0)] := hl
  unfold f_q_isOperator at h
  refine lv_iload_n hx hb d_q_isOperator_0 rfl (lv_at hl 0 rfl) ?_
  refine lv_bipush (v := (43 : Int32)) hx hb d_q_isOperator_1 (by decide) ?_
  refine lv_icmp_eq (tgt := 30) hx hb d_q_isOperator_3 (by decide) (fun c1 => ?_) (fun c1 => ?_)
  · rw [if_pos c1] at h
    exact j_q_isOperator_30 C w h _ _ _ hW (lv_sub hl [] rfl)
  · rw [if_neg c1] at h
    refine lv_iload_n hx hb d_q_isOperator_6 rfl (lv_at hl 0 rfl) ?_
    refine lv_bipush (v := (45 : Int32)) hx hb d_q_isOperator_7 (by decide) ?_
    refine lv_icmp_eq (tgt := 30) hx hb d_q_isOperator_9 (by decide) (fun c3 => ?_) (fun c3 => ?_)
    · rw [if_pos c3] at h
      exact j_q_isOperator_30 C w h _ _ _ hW (lv_sub hl [] rfl)
    · rw [if_neg c3] at h
      refine lv_iload_n hx hb d_q_isOperator_12 rfl (lv_at hl 0 rfl) ?_
      refine lv_bipush (v := (42 : Int32)) hx hb d_q_isOperator_13 (by decide) ?_
      refine lv_icmp_eq (tgt := 30) hx hb d_q_isOperator_15 (by decide) (fun c4 => ?_) (fun c4 => ?_)
      · rw [if_pos c4] at h
        exact j_q_isOperator_30 C w h _ _ _ hW (lv_sub hl [] rfl)
      · rw [if_neg c4] at h
        refine lv_iload_n hx hb d_q_isOperator_18 rfl (lv_at hl 0 rfl) ?_
        refine lv_bipush (v := (47 : Int32)) hx hb d_q_isOperator_19 (by decide) ?_
        refine lv_icmp_eq (tgt := 30) hx hb d_q_isOperator_21 (by decide) (fun c5 => ?_) (fun c5 => ?_)
        · rw [if_pos c5] at h
          exact j_q_isOperator_30 C w h _ _ _ hW (lv_sub hl [] rfl)
        · rw [if_neg c5] at h
          refine lv_iload_n hx hb d_q_isOperator_24 rfl (lv_at hl 0 rfl) ?_
          refine lv_bipush (v := (37 : Int32)) hx hb d_q_isOperator_25 (by decide) ?_
          refine lv_icmp_ne (tgt := 34) hx hb d_q_isOperator_27 (by decide) (fun c6 => ?_) (fun c6 => ?_)
          · rw [if_neg c6] at h
            refine lv_iconst (v := (0 : Int32)) hx hb d_q_isOperator_34 (by decide) ?_
            exact j_q_isOperator_35 C (0 : Int32) w h _ _ _ hW (lv_sub hl [] rfl)
          · rw [if_pos c6] at h
            exact j_q_isOperator_30 C w h _ _ _ hW (lv_sub hl [] rfl)
theorem cs_q_217 {p : Program} {l : Launch} {e : Env} {R : Room} {s : State} {m : MethodId} {args : Array Value} {below : List Frame} {meth : Method} {c : Code} {H : Heap} {locs : List Loc} {cells slots : Nat} {Q : State → Prop} {D : va_G} {cA : Nat → ClassId} {base : Nat} {w w' : WW} {cc : ByteArray} {pc nL : Nat} {ls : Array Slot} {rest st0 As : List Value} {ov : Option Value} (hx : p.tables.exec = Jvm.exec) (hb : c.code = cc) (hml : c.maxLocals = nL) (hown : s.vm.findClass Rc_q = some m.cls) (hts : ∀ w ∈ gt, w.before args s = true) (hK : va_K D cls (wo_tys cA) s) (hG : wo_G cA base s) (hW : wo_S D cls cA base s w H locs) (hM : mt l D cls (wo_tys cA) cA base y_q_isDigit (Cond.code y_q_isDigit b_q_isDigit 1 (some .boolean) :: gt) rm_q_isDigit (As) w ov w' rm_q_isDigit.cells rm_q_isDigit.slots) (hR : rm_q_isDigit.frames + 1 ≤ R.frames ∧ 8 + (1 + 11) + rm_q_isDigit.locals ≤ R.locals) (hf : cells + rm_q_isDigit.cells ≤ R.cells ∧ slots + rm_q_isDigit.slots ≤ R.slots) (hn : As.length = 1) (hsz : ls.size = nL) (hst : st0 = As.reverse ++ rest) (hcat : (rest.map fun v => v.category).sum ≤ 8) (hdg : decode cc pc = .ok (.invokestatic 217, 3)) (kk : ∀ (H1 : Heap) (locs1 : List Loc), wo_S D cls cA base s w' H1 locs1 → W p l e R s m args below meth c H1 locs1 (cells + rm_q_isDigit.cells) (slots + rm_q_isDigit.slots) Q (F0 m (pc + 3) ls (ov.toList ++ rest))) : W p l e R s m args below meth c H locs cells slots Q (F0 m pc ls st0) :=
  wo_callS hx hb hml hown hts hK hG hW hM (gt_of (i := 1394) (by decide +kernel) (by decide +kernel)) (gt_of (i := 1395) (by decide +kernel) (by decide +kernel)) (gt_of (i := 10) (by decide +kernel) (by decide +kernel)) (gt_of (i := 1396) (by decide +kernel) (by decide +kernel)) (by decide +kernel) hR hf hn hsz hst hcat hdg kk
theorem cv_q_220 {p : Program} {l : Launch} {e : Env} {R : Room} {s : State} {m : MethodId} {args : Array Value} {below : List Frame} {meth : Method} {c : Code} {H : Heap} {locs : List Loc} {cells slots : Nat} {Q : State → Prop} {D : va_G} {cA : Nat → ClassId} {base : Nat} {w w' : WW} {cc : ByteArray} {pc nL : Nat} {ls : Array Slot} {rest st0 As : List Value} {ov : Option Value} {b : Nat} (hx : p.tables.exec = Jvm.exec) (hb : c.code = cc) (hml : c.maxLocals = nL) (hown : s.vm.findClass Rc_q = some m.cls) (hts : ∀ w ∈ gt, w.before args s = true) (hK : va_K D cls (wo_tys cA) s) (hG : wo_G cA base s) (hW : wo_S D cls cA base s w H locs) (hM : mt l D cls (wo_tys cA) cA base y_q_word (Cond.code y_q_word b_q_word 8 (none) :: gt) rm_q_word (.ref (base + b) :: As) w ov w' rm_q_word.cells rm_q_word.slots) (hkb : kb w b 9 = true) (hR : rm_q_word.frames + 1 ≤ R.frames ∧ 8 + (8 + 11) + rm_q_word.locals ≤ R.locals) (hf : cells + rm_q_word.cells ≤ R.cells ∧ slots + rm_q_word.slots ≤ R.slots) (hn : As.length = 0) (hsz : ls.size = nL) (hst : st0 = As.reverse ++ .ref (base + b) :: rest) (hcat : (rest.map fun v => v.category).sum ≤ 8) (hdg : decode cc pc = .ok (.invokevirtual 220, 3)) (kk : ∀ (H1 : Heap) (locs1 : List Loc), wo_S D cls cA base s w' H1 locs1 → W p l e R s m args below meth c H1 locs1 (cells + rm_q_word.cells) (slots + rm_q_word.slots) Q (F0 m (pc + 3) ls (ov.toList ++ rest))) : W p l e R s m args below meth c H locs cells slots Q (F0 m pc ls st0) :=
  wo_callV (C := Rc_q) hx hb hml hown hts hK hG hW hM hkb rfl (gt_of (i := 1410) (by decide +kernel) (by decide +kernel)) (gt_of (i := 1412) (by decide +kernel) (by decide +kernel)) (gt_sel (i := 61) (by decide +kernel) (by decide +kernel)) (gt_of (i := 10) (by decide +kernel) (by decide +kernel)) (gt_of (i := 1413) (by decide +kernel) (by decide +kernel)) (by decide +kernel) hR hf hn hsz hst hcat hdg kk
theorem cs_q_223 {p : Program} {l : Launch} {e : Env} {R : Room} {s : State} {m : MethodId} {args : Array Value} {below : List Frame} {meth : Method} {c : Code} {H : Heap} {locs : List Loc} {cells slots : Nat} {Q : State → Prop} {D : va_G} {cA : Nat → ClassId} {base : Nat} {w w' : WW} {cc : ByteArray} {pc nL : Nat} {ls : Array Slot} {rest st0 As : List Value} {ov : Option Value} (hx : p.tables.exec = Jvm.exec) (hb : c.code = cc) (hml : c.maxLocals = nL) (hown : s.vm.findClass Rc_q = some m.cls) (hts : ∀ w ∈ gt, w.before args s = true) (hK : va_K D cls (wo_tys cA) s) (hG : wo_G cA base s) (hW : wo_S D cls cA base s w H locs) (hM : mt l D cls (wo_tys cA) cA base y_q_isOperator (Cond.code y_q_isOperator b_q_isOperator 1 (some .boolean) :: gt) rm_q_isOperator (As) w ov w' rm_q_isOperator.cells rm_q_isOperator.slots) (hR : rm_q_isOperator.frames + 1 ≤ R.frames ∧ 8 + (1 + 11) + rm_q_isOperator.locals ≤ R.locals) (hf : cells + rm_q_isOperator.cells ≤ R.cells ∧ slots + rm_q_isOperator.slots ≤ R.slots) (hn : As.length = 1) (hsz : ls.size = nL) (hst : st0 = As.reverse ++ rest) (hcat : (rest.map fun v => v.category).sum ≤ 8) (hdg : decode cc pc = .ok (.invokestatic 223, 3)) (kk : ∀ (H1 : Heap) (locs1 : List Loc), wo_S D cls cA base s w' H1 locs1 → W p l e R s m args below meth c H1 locs1 (cells + rm_q_isOperator.cells) (slots + rm_q_isOperator.slots) Q (F0 m (pc + 3) ls (ov.toList ++ rest))) : W p l e R s m args below meth c H locs cells slots Q (F0 m pc ls st0) :=
  wo_callS hx hb hml hown hts hK hG hW hM (gt_of (i := 1427) (by decide +kernel) (by decide +kernel)) (gt_of (i := 1428) (by decide +kernel) (by decide +kernel)) (gt_of (i := 10) (by decide +kernel) (by decide +kernel)) (gt_of (i := 1429) (by decide +kernel) (by decide +kernel)) (by decide +kernel) hR hf hn hsz hst hcat hdg kk
abbrev b_q_read : ByteArray := prog_11_method_13_code
def y_q_read : MethodName := ⟨"AlarmForgeModel", "read", "()V"⟩
def rm_q_read : Room := { frames := 3, cells := 0, slots := 0, locals := 72 }
theorem d_q_read_0 : decode b_q_read 0 = .ok (.aload_n 0, 1) := by decide +kernel
theorem d_q_read_1 : decode b_q_read 1 = .ok (.getfield 178, 3) := by decide +kernel
theorem d_q_read_4 : decode b_q_read 4 = .ok (.aload_n 0, 1) := by decide +kernel
theorem d_q_read_5 : decode b_q_read 5 = .ok (.getfield 163, 3) := by decide +kernel
theorem d_q_read_8 : decode b_q_read 8 = .ok (.if_icmp .ge (44), 3) := by decide +kernel
theorem d_q_read_11 : decode b_q_read 11 = .ok (.aload_n 0, 1) := by decide +kernel
theorem d_q_read_12 : decode b_q_read 12 = .ok (.getfield 7, 3) := by decide +kernel
theorem d_q_read_15 : decode b_q_read 15 = .ok (.aload_n 0, 1) := by decide +kernel
theorem d_q_read_16 : decode b_q_read 16 = .ok (.getfield 178, 3) := by decide +kernel
theorem d_q_read_19 : decode b_q_read 19 = .ok (.iaload, 1) := by decide +kernel
theorem d_q_read_20 : decode b_q_read 20 = .ok (.bipush (32), 2) := by decide +kernel
theorem d_q_read_22 : decode b_q_read 22 = .ok (.if_icmp .eq (17), 3) := by decide +kernel
theorem d_q_read_25 : decode b_q_read 25 = .ok (.aload_n 0, 1) := by decide +kernel
theorem d_q_read_26 : decode b_q_read 26 = .ok (.getfield 7, 3) := by decide +kernel
theorem d_q_read_29 : decode b_q_read 29 = .ok (.aload_n 0, 1) := by decide +kernel
theorem d_q_read_30 : decode b_q_read 30 = .ok (.getfield 178, 3) := by decide +kernel
theorem d_q_read_33 : decode b_q_read 33 = .ok (.iaload, 1) := by decide +kernel
theorem d_q_read_34 : decode b_q_read 34 = .ok (.bipush (10), 2) := by decide +kernel
theorem d_q_read_36 : decode b_q_read 36 = .ok (.if_icmp .ne (16), 3) := by decide +kernel
theorem d_q_read_39 : decode b_q_read 39 = .ok (.aload_n 0, 1) := by decide +kernel
theorem d_q_read_40 : decode b_q_read 40 = .ok (.dup, 1) := by decide +kernel
theorem d_q_read_41 : decode b_q_read 41 = .ok (.getfield 178, 3) := by decide +kernel
theorem d_q_read_44 : decode b_q_read 44 = .ok (.iconst 1, 1) := by decide +kernel
theorem d_q_read_45 : decode b_q_read 45 = .ok (.iadd, 1) := by decide +kernel
theorem d_q_read_46 : decode b_q_read 46 = .ok (.putfield 178, 3) := by decide +kernel
theorem d_q_read_49 : decode b_q_read 49 = .ok (.goto (-49), 3) := by decide +kernel
theorem d_q_read_52 : decode b_q_read 52 = .ok (.aload_n 0, 1) := by decide +kernel
theorem d_q_read_53 : decode b_q_read 53 = .ok (.aload_n 0, 1) := by decide +kernel
theorem d_q_read_54 : decode b_q_read 54 = .ok (.getfield 178, 3) := by decide +kernel
theorem d_q_read_57 : decode b_q_read 57 = .ok (.putfield 181, 3) := by decide +kernel
theorem d_q_read_60 : decode b_q_read 60 = .ok (.aload_n 0, 1) := by decide +kernel
theorem d_q_read_61 : decode b_q_read 61 = .ok (.iconst 0, 1) := by decide +kernel
theorem d_q_read_62 : decode b_q_read 62 = .ok (.putfield 195, 3) := by decide +kernel
theorem d_q_read_65 : decode b_q_read 65 = .ok (.aload_n 0, 1) := by decide +kernel
theorem d_q_read_66 : decode b_q_read 66 = .ok (.iconst 0, 1) := by decide +kernel
theorem d_q_read_67 : decode b_q_read 67 = .ok (.putfield 198, 3) := by decide +kernel
theorem d_q_read_70 : decode b_q_read 70 = .ok (.aload_n 0, 1) := by decide +kernel
theorem d_q_read_71 : decode b_q_read 71 = .ok (.getfield 178, 3) := by decide +kernel
theorem d_q_read_74 : decode b_q_read 74 = .ok (.aload_n 0, 1) := by decide +kernel
theorem d_q_read_75 : decode b_q_read 75 = .ok (.getfield 163, 3) := by decide +kernel
theorem d_q_read_78 : decode b_q_read 78 = .ok (.if_icmp .ne (4), 3) := by decide +kernel
theorem d_q_read_81 : decode b_q_read 81 = .ok (.return_, 1) := by decide +kernel
theorem d_q_read_82 : decode b_q_read 82 = .ok (.aload_n 0, 1) := by decide +kernel
theorem d_q_read_83 : decode b_q_read 83 = .ok (.getfield 7, 3) := by decide +kernel
theorem d_q_read_86 : decode b_q_read 86 = .ok (.aload_n 0, 1) := by decide +kernel
theorem d_q_read_87 : decode b_q_read 87 = .ok (.getfield 178, 3) := by decide +kernel
theorem d_q_read_90 : decode b_q_read 90 = .ok (.iaload, 1) := by decide +kernel
theorem d_q_read_91 : decode b_q_read 91 = .ok (.istore_n 1, 1) := by decide +kernel
theorem d_q_read_92 : decode b_q_read 92 = .ok (.iload_n 1, 1) := by decide +kernel
theorem d_q_read_93 : decode b_q_read 93 = .ok (.invokestatic 217, 3) := by decide +kernel
theorem d_q_read_96 : decode b_q_read 96 = .ok (.ifCond .eq (73), 3) := by decide +kernel
theorem d_q_read_99 : decode b_q_read 99 = .ok (.aload_n 0, 1) := by decide +kernel
theorem d_q_read_100 : decode b_q_read 100 = .ok (.iconst 1, 1) := by decide +kernel
theorem d_q_read_101 : decode b_q_read 101 = .ok (.putfield 195, 3) := by decide +kernel
theorem d_q_read_104 : decode b_q_read 104 = .ok (.aload_n 0, 1) := by decide +kernel
theorem d_q_read_105 : decode b_q_read 105 = .ok (.aload_n 0, 1) := by decide +kernel
theorem d_q_read_106 : decode b_q_read 106 = .ok (.getfield 178, 3) := by decide +kernel
theorem d_q_read_109 : decode b_q_read 109 = .ok (.invokevirtual 186, 3) := by decide +kernel
theorem d_q_read_112 : decode b_q_read 112 = .ok (.invokestatic 217, 3) := by decide +kernel
theorem d_q_read_115 : decode b_q_read 115 = .ok (.ifCond .eq (241), 3) := by decide +kernel
theorem d_q_read_118 : decode b_q_read 118 = .ok (.aload_n 0, 1) := by decide +kernel
theorem d_q_read_119 : decode b_q_read 119 = .ok (.getfield 178, 3) := by decide +kernel
theorem d_q_read_122 : decode b_q_read 122 = .ok (.aload_n 0, 1) := by decide +kernel
theorem d_q_read_123 : decode b_q_read 123 = .ok (.getfield 181, 3) := by decide +kernel
theorem d_q_read_126 : decode b_q_read 126 = .ok (.bipush (9), 2) := by decide +kernel
theorem d_q_read_128 : decode b_q_read 128 = .ok (.iadd, 1) := by decide +kernel
theorem d_q_read_129 : decode b_q_read 129 = .ok (.if_icmp .ge (227), 3) := by decide +kernel
theorem d_q_read_132 : decode b_q_read 132 = .ok (.aload_n 0, 1) := by decide +kernel
theorem d_q_read_133 : decode b_q_read 133 = .ok (.bipush (10), 2) := by decide +kernel
theorem d_q_read_135 : decode b_q_read 135 = .ok (.aload_n 0, 1) := by decide +kernel
theorem d_q_read_136 : decode b_q_read 136 = .ok (.getfield 198, 3) := by decide +kernel
theorem d_q_read_139 : decode b_q_read 139 = .ok (.imul, 1) := by decide +kernel
theorem d_q_read_140 : decode b_q_read 140 = .ok (.aload_n 0, 1) := by decide +kernel
theorem d_q_read_141 : decode b_q_read 141 = .ok (.getfield 7, 3) := by decide +kernel
theorem d_q_read_144 : decode b_q_read 144 = .ok (.aload_n 0, 1) := by decide +kernel
theorem d_q_read_145 : decode b_q_read 145 = .ok (.getfield 178, 3) := by decide +kernel
theorem d_q_read_148 : decode b_q_read 148 = .ok (.iaload, 1) := by decide +kernel
theorem d_q_read_149 : decode b_q_read 149 = .ok (.iadd, 1) := by decide +kernel
theorem d_q_read_150 : decode b_q_read 150 = .ok (.bipush (48), 2) := by decide +kernel
theorem d_q_read_152 : decode b_q_read 152 = .ok (.isub, 1) := by decide +kernel
theorem d_q_read_153 : decode b_q_read 153 = .ok (.putfield 198, 3) := by decide +kernel
theorem d_q_read_156 : decode b_q_read 156 = .ok (.aload_n 0, 1) := by decide +kernel
theorem d_q_read_157 : decode b_q_read 157 = .ok (.dup, 1) := by decide +kernel
theorem d_q_read_158 : decode b_q_read 158 = .ok (.getfield 178, 3) := by decide +kernel
theorem d_q_read_161 : decode b_q_read 161 = .ok (.iconst 1, 1) := by decide +kernel
theorem d_q_read_162 : decode b_q_read 162 = .ok (.iadd, 1) := by decide +kernel
theorem d_q_read_163 : decode b_q_read 163 = .ok (.putfield 178, 3) := by decide +kernel
theorem d_q_read_166 : decode b_q_read 166 = .ok (.goto (-62), 3) := by decide +kernel
theorem d_q_read_169 : decode b_q_read 169 = .ok (.iload_n 1, 1) := by decide +kernel
theorem d_q_read_170 : decode b_q_read 170 = .ok (.invokestatic 189, 3) := by decide +kernel
theorem d_q_read_173 : decode b_q_read 173 = .ok (.ifCond .eq (10), 3) := by decide +kernel
theorem d_q_read_176 : decode b_q_read 176 = .ok (.aload_n 0, 1) := by decide +kernel
theorem d_q_read_177 : decode b_q_read 177 = .ok (.invokevirtual 220, 3) := by decide +kernel
theorem d_q_read_180 : decode b_q_read 180 = .ok (.goto (176), 3) := by decide +kernel
theorem d_q_read_183 : decode b_q_read 183 = .ok (.iload_n 1, 1) := by decide +kernel
theorem d_q_read_184 : decode b_q_read 184 = .ok (.bipush (61), 2) := by decide +kernel
theorem d_q_read_186 : decode b_q_read 186 = .ok (.if_icmp .eq (15), 3) := by decide +kernel
theorem d_q_read_189 : decode b_q_read 189 = .ok (.iload_n 1, 1) := by decide +kernel
theorem d_q_read_190 : decode b_q_read 190 = .ok (.bipush (33), 2) := by decide +kernel
theorem d_q_read_192 : decode b_q_read 192 = .ok (.if_icmp .eq (9), 3) := by decide +kernel
theorem d_q_read_195 : decode b_q_read 195 = .ok (.iload_n 1, 1) := by decide +kernel
theorem d_q_read_196 : decode b_q_read 196 = .ok (.bipush (60), 2) := by decide +kernel
theorem d_q_read_198 : decode b_q_read 198 = .ok (.if_icmp .ne (22), 3) := by decide +kernel
theorem d_q_read_201 : decode b_q_read 201 = .ok (.aload_n 0, 1) := by decide +kernel
theorem d_q_read_202 : decode b_q_read 202 = .ok (.aload_n 0, 1) := by decide +kernel
theorem d_q_read_203 : decode b_q_read 203 = .ok (.getfield 178, 3) := by decide +kernel
theorem d_q_read_206 : decode b_q_read 206 = .ok (.iconst 1, 1) := by decide +kernel
theorem d_q_read_207 : decode b_q_read 207 = .ok (.iadd, 1) := by decide +kernel
theorem d_q_read_208 : decode b_q_read 208 = .ok (.invokevirtual 186, 3) := by decide +kernel
theorem d_q_read_211 : decode b_q_read 211 = .ok (.bipush (61), 2) := by decide +kernel
theorem d_q_read_213 : decode b_q_read 213 = .ok (.if_icmp .ne (7), 3) := by decide +kernel
theorem d_q_read_216 : decode b_q_read 216 = .ok (.iconst 1, 1) := by decide +kernel
theorem d_q_read_217 : decode b_q_read 217 = .ok (.goto (4), 3) := by decide +kernel
theorem d_q_read_220 : decode b_q_read 220 = .ok (.iconst 0, 1) := by decide +kernel
theorem d_q_read_221 : decode b_q_read 221 = .ok (.istore_n 2, 1) := by decide +kernel
theorem d_q_read_222 : decode b_q_read 222 = .ok (.aload_n 0, 1) := by decide +kernel
theorem d_q_read_223 : decode b_q_read 223 = .ok (.iload_n 2, 1) := by decide +kernel
theorem d_q_read_224 : decode b_q_read 224 = .ok (.ifCond .ne (7), 3) := by decide +kernel
theorem d_q_read_227 : decode b_q_read 227 = .ok (.iload_n 1, 1) := by decide +kernel
theorem d_q_read_228 : decode b_q_read 228 = .ok (.goto (30), 3) := by decide +kernel
theorem d_q_read_231 : decode b_q_read 231 = .ok (.iload_n 1, 1) := by decide +kernel
theorem d_q_read_232 : decode b_q_read 232 = .ok (.bipush (61), 2) := by decide +kernel
theorem d_q_read_234 : decode b_q_read 234 = .ok (.if_icmp .ne (9), 3) := by decide +kernel
theorem d_q_read_237 : decode b_q_read 237 = .ok (.sipush (1000), 3) := by decide +kernel
theorem d_q_read_240 : decode b_q_read 240 = .ok (.goto (18), 3) := by decide +kernel
theorem d_q_read_243 : decode b_q_read 243 = .ok (.iload_n 1, 1) := by decide +kernel
theorem d_q_read_244 : decode b_q_read 244 = .ok (.bipush (33), 2) := by decide +kernel
theorem d_q_read_246 : decode b_q_read 246 = .ok (.if_icmp .ne (9), 3) := by decide +kernel
theorem d_q_read_249 : decode b_q_read 249 = .ok (.sipush (1001), 3) := by decide +kernel
theorem d_q_read_252 : decode b_q_read 252 = .ok (.goto (6), 3) := by decide +kernel
theorem d_q_read_255 : decode b_q_read 255 = .ok (.sipush (1002), 3) := by decide +kernel
theorem d_q_read_258 : decode b_q_read 258 = .ok (.putfield 198, 3) := by decide +kernel
theorem d_q_read_261 : decode b_q_read 261 = .ok (.aload_n 0, 1) := by decide +kernel
theorem d_q_read_262 : decode b_q_read 262 = .ok (.iload_n 2, 1) := by decide +kernel
theorem d_q_read_263 : decode b_q_read 263 = .ok (.ifCond .ne (66), 3) := by decide +kernel
theorem d_q_read_266 : decode b_q_read 266 = .ok (.iload_n 1, 1) := by decide +kernel
theorem d_q_read_267 : decode b_q_read 267 = .ok (.invokestatic 223, 3) := by decide +kernel
theorem d_q_read_270 : decode b_q_read 270 = .ok (.ifCond .ne (59), 3) := by decide +kernel
theorem d_q_read_273 : decode b_q_read 273 = .ok (.iload_n 1, 1) := by decide +kernel
theorem d_q_read_274 : decode b_q_read 274 = .ok (.i2l, 1) := by decide +kernel
theorem d_q_read_275 : decode b_q_read 275 = .ok (.ldc2_w 226, 3) := by decide +kernel
theorem d_q_read_278 : decode b_q_read 278 = .ok (.ldc2_w 228, 3) := by decide +kernel
theorem d_q_read_281 : decode b_q_read 281 = .ok (.invokestatic 155, 3) := by decide +kernel
theorem d_q_read_284 : decode b_q_read 284 = .ok (.ifCond .ne (45), 3) := by decide +kernel
theorem d_q_read_287 : decode b_q_read 287 = .ok (.iload_n 1, 1) := by decide +kernel
theorem d_q_read_288 : decode b_q_read 288 = .ok (.bipush (91), 2) := by decide +kernel
theorem d_q_read_290 : decode b_q_read 290 = .ok (.if_icmp .eq (39), 3) := by decide +kernel
theorem d_q_read_293 : decode b_q_read 293 = .ok (.iload_n 1, 1) := by decide +kernel
theorem d_q_read_294 : decode b_q_read 294 = .ok (.bipush (93), 2) := by decide +kernel
theorem d_q_read_296 : decode b_q_read 296 = .ok (.if_icmp .eq (33), 3) := by decide +kernel
theorem d_q_read_299 : decode b_q_read 299 = .ok (.iload_n 1, 1) := by decide +kernel
theorem d_q_read_300 : decode b_q_read 300 = .ok (.bipush (123), 2) := by decide +kernel
theorem d_q_read_302 : decode b_q_read 302 = .ok (.if_icmp .eq (27), 3) := by decide +kernel
theorem d_q_read_305 : decode b_q_read 305 = .ok (.iload_n 1, 1) := by decide +kernel
theorem d_q_read_306 : decode b_q_read 306 = .ok (.bipush (125), 2) := by decide +kernel
theorem d_q_read_308 : decode b_q_read 308 = .ok (.if_icmp .eq (21), 3) := by decide +kernel
theorem d_q_read_311 : decode b_q_read 311 = .ok (.iload_n 1, 1) := by decide +kernel
theorem d_q_read_312 : decode b_q_read 312 = .ok (.bipush (59), 2) := by decide +kernel
theorem d_q_read_314 : decode b_q_read 314 = .ok (.if_icmp .eq (15), 3) := by decide +kernel
theorem d_q_read_317 : decode b_q_read 317 = .ok (.iload_n 1, 1) := by decide +kernel
theorem d_q_read_318 : decode b_q_read 318 = .ok (.bipush (61), 2) := by decide +kernel
theorem d_q_read_320 : decode b_q_read 320 = .ok (.if_icmp .eq (9), 3) := by decide +kernel
theorem d_q_read_323 : decode b_q_read 323 = .ok (.iload_n 1, 1) := by decide +kernel
theorem d_q_read_324 : decode b_q_read 324 = .ok (.bipush (60), 2) := by decide +kernel
theorem d_q_read_326 : decode b_q_read 326 = .ok (.if_icmp .ne (7), 3) := by decide +kernel
theorem d_q_read_329 : decode b_q_read 329 = .ok (.iconst 5, 1) := by decide +kernel
theorem d_q_read_330 : decode b_q_read 330 = .ok (.goto (5), 3) := by decide +kernel
theorem d_q_read_333 : decode b_q_read 333 = .ok (.bipush (6), 2) := by decide +kernel
theorem d_q_read_335 : decode b_q_read 335 = .ok (.putfield 195, 3) := by decide +kernel
theorem d_q_read_338 : decode b_q_read 338 = .ok (.aload_n 0, 1) := by decide +kernel
theorem d_q_read_339 : decode b_q_read 339 = .ok (.dup, 1) := by decide +kernel
theorem d_q_read_340 : decode b_q_read 340 = .ok (.getfield 178, 3) := by decide +kernel
theorem d_q_read_343 : decode b_q_read 343 = .ok (.iload_n 2, 1) := by decide +kernel
theorem d_q_read_344 : decode b_q_read 344 = .ok (.ifCond .eq (7), 3) := by decide +kernel
theorem d_q_read_347 : decode b_q_read 347 = .ok (.iconst 2, 1) := by decide +kernel
theorem d_q_read_348 : decode b_q_read 348 = .ok (.goto (4), 3) := by decide +kernel
theorem d_q_read_351 : decode b_q_read 351 = .ok (.iconst 1, 1) := by decide +kernel
theorem d_q_read_352 : decode b_q_read 352 = .ok (.iadd, 1) := by decide +kernel
theorem d_q_read_353 : decode b_q_read 353 = .ok (.putfield 178, 3) := by decide +kernel
theorem d_q_read_356 : decode b_q_read 356 = .ok (.return_, 1) := by decide +kernel
theorem kb_q_read {a0 : Nat}  {w : WW} {r : WW} (h : f_q_read a0 w = some r) : kb w a0 9 = true := (its h).1
set_option maxHeartbeats 4000000 in
set_option maxRecDepth 100000 in
theorem j_q_read_356 {p : Program} {l : Launch} {e : Env} {s : State} {m : MethodId} {args : Array Value} {below : List Frame} {meth : Method} {c : Code} {D : va_G} {cA : Nat → ClassId} {base : Nat} {w' : WW} (C : cx b_q_read (none) 3 y_q_read.cls "read" p s m args meth c D cA base)   : ∀  (w : WW), f_q_read_356  w = some w' → ∀ (H : Heap) (locs : List Loc) (ls : Array Slot), wo_S D cls cA base s w H locs → lv_has ls 3 [] → W p l e rm_q_read s m args below meth c H locs 0 0 (MQ below (wo_Q D cls cA base none w') args s rm_q_read.cells rm_q_read.slots (wo_B base)) (F0 m 356 ls []) := by
  obtain ⟨hx, hb, hr, hml, hown, hts, hlk, hnm, hK, hG⟩ := id C
  intro  w h H locs ls hW hl
  unfold f_q_read_356 at h
  cases h
  exact wo_vret hx hb hr hlk hW d_q_read_356
set_option maxHeartbeats 4000000 in
set_option maxRecDepth 100000 in
theorem j_q_read_352 {p : Program} {l : Launch} {e : Env} {s : State} {m : MethodId} {args : Array Value} {below : List Frame} {meth : Method} {c : Code} {D : va_G} {cA : Nat → ClassId} {base : Nat} {w' : WW} (C : cx b_q_read (none) 3 y_q_read.cls "read" p s m args meth c D cA base)   : ∀ (z0 : Nat) (z1 : Int32) (z2 : Int32) (w : WW), f_q_read_352 z0 z1 z2 w = some w' → ∀ (H : Heap) (locs : List Loc) (ls : Array Slot), wo_S D cls cA base s w H locs → lv_has ls 3 [] → W p l e rm_q_read s m args below meth c H locs 0 0 (MQ below (wo_Q D cls cA base none w') args s rm_q_read.cells rm_q_read.slots (wo_B base)) (F0 m 352 ls [.int z2, .int z1, .ref (base + z0)]) := by
  obtain ⟨hx, hb, hr, hml, hown, hts, hlk, hnm, hK, hG⟩ := id C
  intro z0 z1 z2 w h H locs ls hW hl
  unfold f_q_read_352 at h
  refine lv_iadd hx hb d_q_read_352 ?_
  replace h := bs h
  obtain ⟨w33, hw33, h⟩ := h
  refine pf_q_178 hx hb hts hown hK hG hW rfl rfl (pbi hw33 rfl) d_q_read_353 (fun H locs hW => ?_)
  exact j_q_read_356 C w33 h _ _ _ hW (lv_sub hl [] rfl)
set_option maxHeartbeats 4000000 in
set_option maxRecDepth 100000 in
theorem j_q_read_335 {p : Program} {l : Launch} {e : Env} {s : State} {m : MethodId} {args : Array Value} {below : List Frame} {meth : Method} {c : Code} {D : va_G} {cA : Nat → ClassId} {base : Nat} {w' : WW} (C : cx b_q_read (none) 3 y_q_read.cls "read" p s m args meth c D cA base)   : ∀ (y0 : Nat) (y2 : Int32) (z0 : Nat) (z1 : Int32) (w : WW), f_q_read_335 y0 y2 z0 z1 w = some w' → ∀ (H : Heap) (locs : List Loc) (ls : Array Slot), wo_S D cls cA base s w H locs → lv_has ls 3 [(0, .ref (base + y0)), (2, .int y2)] → W p l e rm_q_read s m args below meth c H locs 0 0 (MQ below (wo_Q D cls cA base none w') args s rm_q_read.cells rm_q_read.slots (wo_B base)) (F0 m 335 ls [.int z1, .ref (base + z0)]) := by
  obtain ⟨hx, hb, hr, hml, hown, hts, hlk, hnm, hK, hG⟩ := id C
  intro y0 y2 z0 z1 w h H locs ls hW hl
  unfold f_q_read_335 at h
  replace h := bs h
  obtain ⟨w30, hw30, h⟩ := h
  refine pf_q_195 hx hb hts hown hK hG hW rfl rfl (pbi hw30 rfl) d_q_read_335 (fun H locs hW => ?_)
  refine lv_aload_n hx hb d_q_read_338 rfl (lv_at hl 0 rfl) ?_
  refine lv_dup hx hb d_q_read_339 rfl ?_
  replace h := bs h
  obtain ⟨x31, hx31, h⟩ := h
  refine gf_q_178 hx hb hts hown hK hG hW (gI_s hx31) d_q_read_340 ?_
  refine lv_iload_n hx hb d_q_read_343 rfl (lv_at hl 1 rfl) ?_
  refine lv_if_eq (tgt := 351) hx hb d_q_read_344 (by decide) (fun c32 => ?_) (fun c32 => ?_)
  · rw [if_pos c32] at h
    refine lv_iconst (v := (1 : Int32)) hx hb d_q_read_351 (by decide) ?_
    exact j_q_read_352 C y0 x31 (1 : Int32) w30 h _ _ _ hW (lv_sub hl [] rfl)
  · rw [if_neg c32] at h
    refine lv_iconst (v := (2 : Int32)) hx hb d_q_read_347 (by decide) ?_
    refine lv_goto (tgt := 352) hx hb d_q_read_348 (by decide) ?_
    exact j_q_read_352 C y0 x31 (2 : Int32) w30 h _ _ _ hW (lv_sub hl [] rfl)
set_option maxHeartbeats 4000000 in
set_option maxRecDepth 100000 in
theorem j_q_read_329 {p : Program} {l : Launch} {e : Env} {s : State} {m : MethodId} {args : Array Value} {below : List Frame} {meth : Method} {c : Code} {D : va_G} {cA : Nat → ClassId} {base : Nat} {w' : WW} (C : cx b_q_read (none) 3 y_q_read.cls "read" p s m args meth c D cA base)   : ∀ (y0 : Nat) (y2 : Int32) (z0 : Nat) (w : WW), f_q_read_329 y0 y2 z0 w = some w' → ∀ (H : Heap) (locs : List Loc) (ls : Array Slot), wo_S D cls cA base s w H locs → lv_has ls 3 [(0, .ref (base + y0)), (2, .int y2)] → W p l e rm_q_read s m args below meth c H locs 0 0 (MQ below (wo_Q D cls cA base none w') args s rm_q_read.cells rm_q_read.slots (wo_B base)) (F0 m 329 ls [.ref (base + z0)]) := by
  obtain ⟨hx, hb, hr, hml, hown, hts, hlk, hnm, hK, hG⟩ := id C
  intro y0 y2 z0 w h H locs ls hW hl
  unfold f_q_read_329 at h
  refine lv_iconst (v := (5 : Int32)) hx hb d_q_read_329 (by decide) ?_
  refine lv_goto (tgt := 335) hx hb d_q_read_330 (by decide) ?_
  exact j_q_read_335 C y0 y2 z0 (5 : Int32) w h _ _ _ hW (lv_sub hl [0, 1] rfl)
set_option maxHeartbeats 4000000 in
set_option maxRecDepth 100000 in
theorem j_q_read_258 {p : Program} {l : Launch} {e : Env} {s : State} {m : MethodId} {args : Array Value} {below : List Frame} {meth : Method} {c : Code} {D : va_G} {cA : Nat → ClassId} {base : Nat} {w' : WW} (C : cx b_q_read (none) 3 y_q_read.cls "read" p s m args meth c D cA base)   : ∀ (y0 : Nat) (y1 : Int32) (y2 : Int32) (z0 : Nat) (z1 : Int32) (w : WW), f_q_read_258 y0 y1 y2 z0 z1 w = some w' → ∀ (H : Heap) (locs : List Loc) (ls : Array Slot), wo_S D cls cA base s w H locs → lv_has ls 3 [(0, .ref (base + y0)), (1, .int y1), (2, .int y2)] → W p l e rm_q_read s m args below meth c H locs 0 0 (MQ below (wo_Q D cls cA base none w') args s rm_q_read.cells rm_q_read.slots (wo_B base)) (F0 m 258 ls [.int z1, .ref (base + z0)]) := by
  obtain ⟨hx, hb, hr, hml, hown, hts, hlk, hnm, hK, hG⟩ := id C
  intro y0 y1 y2 z0 z1 w h H locs ls hW hl
  unfold f_q_read_258 at h
  replace h := bs h
  obtain ⟨w28, hw28, h⟩ := h
  refine pf_q_198 hx hb hts hown hK hG hW rfl rfl (pbi hw28 rfl) d_q_read_258 (fun H locs hW => ?_)
  refine lv_aload_n hx hb d_q_read_261 rfl (lv_at hl 0 rfl) ?_
  refine lv_iload_n hx hb d_q_read_262 rfl (lv_at hl 2 rfl) ?_
  refine lv_if_ne (tgt := 329) hx hb d_q_read_263 (by decide) (fun c29 => ?_) (fun c29 => ?_)
  · rw [if_neg c29] at h
    exact j_q_read_329 C y0 y2 y0 w28 h _ _ _ hW (lv_sub hl [0, 2] rfl)
  · rw [if_pos c29] at h
    refine lv_iload_n hx hb d_q_read_266 rfl (lv_at hl 1 rfl) ?_
    replace h := bs2 h
    obtain ⟨x35, w34, hw34, h⟩ := h
    refine cs_q_223 (As := [.int y1]) (rest := [.ref (base + y0)]) hx hb hml hown hts hK hG hW (c_q_isOperator l D cA base hw34) ⟨Nat.le_of_ble_eq_true rfl, Nat.le_of_ble_eq_true rfl⟩ ⟨Nat.le_of_ble_eq_true rfl, Nat.le_of_ble_eq_true rfl⟩ rfl hl.1 rfl (Nat.le_of_ble_eq_true rfl) d_q_read_267 (fun H locs hW => ?_)
    refine lv_if_ne (tgt := 329) hx hb d_q_read_270 (by decide) (fun c36 => ?_) (fun c36 => ?_)
    · rw [if_neg c36] at h
      exact j_q_read_329 C y0 y2 y0 w34 h _ _ _ hW (lv_sub hl [0, 2] rfl)
    · rw [if_pos c36] at h
      refine lv_iload_n hx hb d_q_read_273 rfl (lv_at hl 1 rfl) ?_
      refine lv_i2l hx hb d_q_read_274 rfl ?_
      refine lv_ldc2 (own := Rc_q) (v := (40 : Int64)) hx hb hown (hts (.constantLong "AlarmForgeModel" 226 (40 : Int64)) (gt_of (i := 1430) (by decide +kernel) (by decide +kernel))) d_q_read_275 ?_
      refine lv_ldc2 (own := Rc_q) (v := (41 : Int64)) hx hb hown (hts (.constantLong "AlarmForgeModel" 228 (41 : Int64)) (gt_of (i := 1431) (by decide +kernel) (by decide +kernel))) d_q_read_278 ?_
      replace h := bs2 h
      obtain ⟨x38, w37, hw37, h⟩ := h
      refine cs_q_155 (As := [.long (Int32.toInt64 y1), .long (40 : Int64), .long (41 : Int64)]) (rest := [.ref (base + y0)]) hx hb hml hown hts hK hG hW (c_q_in l D cA base hw37) ⟨Nat.le_of_ble_eq_true rfl, Nat.le_of_ble_eq_true rfl⟩ ⟨Nat.le_of_ble_eq_true rfl, Nat.le_of_ble_eq_true rfl⟩ rfl hl.1 rfl (Nat.le_of_ble_eq_true rfl) d_q_read_281 (fun H locs hW => ?_)
      refine lv_if_ne (tgt := 329) hx hb d_q_read_284 (by decide) (fun c39 => ?_) (fun c39 => ?_)
      · rw [if_neg c39] at h
        exact j_q_read_329 C y0 y2 y0 w37 h _ _ _ hW (lv_sub hl [0, 2] rfl)
      · rw [if_pos c39] at h
        refine lv_iload_n hx hb d_q_read_287 rfl (lv_at hl 1 rfl) ?_
        refine lv_bipush (v := (91 : Int32)) hx hb d_q_read_288 (by decide) ?_
        refine lv_icmp_eq (tgt := 329) hx hb d_q_read_290 (by decide) (fun c40 => ?_) (fun c40 => ?_)
        · rw [if_pos c40] at h
          exact j_q_read_329 C y0 y2 y0 w37 h _ _ _ hW (lv_sub hl [0, 2] rfl)
        · rw [if_neg c40] at h
          refine lv_iload_n hx hb d_q_read_293 rfl (lv_at hl 1 rfl) ?_
          refine lv_bipush (v := (93 : Int32)) hx hb d_q_read_294 (by decide) ?_
          refine lv_icmp_eq (tgt := 329) hx hb d_q_read_296 (by decide) (fun c41 => ?_) (fun c41 => ?_)
          · rw [if_pos c41] at h
            exact j_q_read_329 C y0 y2 y0 w37 h _ _ _ hW (lv_sub hl [0, 2] rfl)
          · rw [if_neg c41] at h
            refine lv_iload_n hx hb d_q_read_299 rfl (lv_at hl 1 rfl) ?_
            refine lv_bipush (v := (123 : Int32)) hx hb d_q_read_300 (by decide) ?_
            refine lv_icmp_eq (tgt := 329) hx hb d_q_read_302 (by decide) (fun c42 => ?_) (fun c42 => ?_)
            · rw [if_pos c42] at h
              exact j_q_read_329 C y0 y2 y0 w37 h _ _ _ hW (lv_sub hl [0, 2] rfl)
            · rw [if_neg c42] at h
              refine lv_iload_n hx hb d_q_read_305 rfl (lv_at hl 1 rfl) ?_
              refine lv_bipush (v := (125 : Int32)) hx hb d_q_read_306 (by decide) ?_
              refine lv_icmp_eq (tgt := 329) hx hb d_q_read_308 (by decide) (fun c43 => ?_) (fun c43 => ?_)
              · rw [if_pos c43] at h
                exact j_q_read_329 C y0 y2 y0 w37 h _ _ _ hW (lv_sub hl [0, 2] rfl)
              · rw [if_neg c43] at h
                refine lv_iload_n hx hb d_q_read_311 rfl (lv_at hl 1 rfl) ?_
                refine lv_bipush (v := (59 : Int32)) hx hb d_q_read_312 (by decide) ?_
                refine lv_icmp_eq (tgt := 329) hx hb d_q_read_314 (by decide) (fun c44 => ?_) (fun c44 => ?_)
                · rw [if_pos c44] at h
                  exact j_q_read_329 C y0 y2 y0 w37 h _ _ _ hW (lv_sub hl [0, 2] rfl)
                · rw [if_neg c44] at h
                  refine lv_iload_n hx hb d_q_read_317 rfl (lv_at hl 1 rfl) ?_
                  refine lv_bipush (v := (61 : Int32)) hx hb d_q_read_318 (by decide) ?_
                  refine lv_icmp_eq (tgt := 329) hx hb d_q_read_320 (by decide) (fun c45 => ?_) (fun c45 => ?_)
                  · rw [if_pos c45] at h
                    exact j_q_read_329 C y0 y2 y0 w37 h _ _ _ hW (lv_sub hl [0, 2] rfl)
                  · rw [if_neg c45] at h
                    refine lv_iload_n hx hb d_q_read_323 rfl (lv_at hl 1 rfl) ?_
                    refine lv_bipush (v := (60 : Int32)) hx hb d_q_read_324 (by decide) ?_
                    refine lv_icmp_ne (tgt := 333) hx hb d_q_read_326 (by decide) (fun c46 => ?_) (fun c46 => ?_)
                    · rw [if_neg c46] at h
                      refine lv_bipush (v := (6 : Int32)) hx hb d_q_read_333 (by decide) ?_
                      exact j_q_read_335 C y0 y2 y0 (6 : Int32) w37 h _ _ _ hW (lv_sub hl [0, 2] rfl)
                    · rw [if_pos c46] at h
                      exact j_q_read_329 C y0 y2 y0 w37 h _ _ _ hW (lv_sub hl [0, 2] rfl)
set_option maxHeartbeats 4000000 in
set_option maxRecDepth 100000 in
theorem j_q_read_221 {p : Program} {l : Launch} {e : Env} {s : State} {m : MethodId} {args : Array Value} {below : List Frame} {meth : Method} {c : Code} {D : va_G} {cA : Nat → ClassId} {base : Nat} {w' : WW} (C : cx b_q_read (none) 3 y_q_read.cls "read" p s m args meth c D cA base)   : ∀ (y0 : Nat) (y1 : Int32) (z0 : Int32) (w : WW), f_q_read_221 y0 y1 z0 w = some w' → ∀ (H : Heap) (locs : List Loc) (ls : Array Slot), wo_S D cls cA base s w H locs → lv_has ls 3 [(0, .ref (base + y0)), (1, .int y1)] → W p l e rm_q_read s m args below meth c H locs 0 0 (MQ below (wo_Q D cls cA base none w') args s rm_q_read.cells rm_q_read.slots (wo_B base)) (F0 m 221 ls [.int z0]) := by
  obtain ⟨hx, hb, hr, hml, hown, hts, hlk, hnm, hK, hG⟩ := id C
  intro y0 y1 z0 w h H locs ls hW hl
  unfold f_q_read_221 at h
  refine lv_istore_n (lv' := [(2, .int z0), (0, .ref (base + y0)), (1, .int y1)]) hx hb d_q_read_221 rfl hl (by decide) rfl (fun ls hl => ?_)
  refine lv_aload_n hx hb d_q_read_222 rfl (lv_at hl 1 rfl) ?_
  refine lv_iload_n hx hb d_q_read_223 rfl (lv_at hl 0 rfl) ?_
  refine lv_if_ne (tgt := 231) hx hb d_q_read_224 (by decide) (fun c25 => ?_) (fun c25 => ?_)
  · rw [if_neg c25] at h
    refine lv_iload_n hx hb d_q_read_231 rfl (lv_at hl 2 rfl) ?_
    refine lv_bipush (v := (61 : Int32)) hx hb d_q_read_232 (by decide) ?_
    refine lv_icmp_ne (tgt := 243) hx hb d_q_read_234 (by decide) (fun c26 => ?_) (fun c26 => ?_)
    · rw [if_neg c26] at h
      refine lv_iload_n hx hb d_q_read_243 rfl (lv_at hl 2 rfl) ?_
      refine lv_bipush (v := (33 : Int32)) hx hb d_q_read_244 (by decide) ?_
      refine lv_icmp_ne (tgt := 255) hx hb d_q_read_246 (by decide) (fun c27 => ?_) (fun c27 => ?_)
      · rw [if_neg c27] at h
        refine lv_sipush (v := (1002 : Int32)) hx hb d_q_read_255 (by decide) ?_
        exact j_q_read_258 C y0 y1 z0 y0 (1002 : Int32) w h _ _ _ hW (lv_sub hl [1, 2, 0] rfl)
      · rw [if_pos c27] at h
        refine lv_sipush (v := (1001 : Int32)) hx hb d_q_read_249 (by decide) ?_
        refine lv_goto (tgt := 258) hx hb d_q_read_252 (by decide) ?_
        exact j_q_read_258 C y0 y1 z0 y0 (1001 : Int32) w h _ _ _ hW (lv_sub hl [1, 2, 0] rfl)
    · rw [if_pos c26] at h
      refine lv_sipush (v := (1000 : Int32)) hx hb d_q_read_237 (by decide) ?_
      refine lv_goto (tgt := 258) hx hb d_q_read_240 (by decide) ?_
      exact j_q_read_258 C y0 y1 z0 y0 (1000 : Int32) w h _ _ _ hW (lv_sub hl [1, 2, 0] rfl)
  · rw [if_pos c25] at h
    refine lv_iload_n hx hb d_q_read_227 rfl (lv_at hl 2 rfl) ?_
    refine lv_goto (tgt := 258) hx hb d_q_read_228 (by decide) ?_
    exact j_q_read_258 C y0 y1 z0 y0 y1 w h _ _ _ hW (lv_sub hl [1, 2, 0] rfl)
set_option maxHeartbeats 4000000 in
set_option maxRecDepth 100000 in
theorem j_q_read_220 {p : Program} {l : Launch} {e : Env} {s : State} {m : MethodId} {args : Array Value} {below : List Frame} {meth : Method} {c : Code} {D : va_G} {cA : Nat → ClassId} {base : Nat} {w' : WW} (C : cx b_q_read (none) 3 y_q_read.cls "read" p s m args meth c D cA base)   : ∀ (y0 : Nat) (y1 : Int32) (w : WW), f_q_read_220 y0 y1 w = some w' → ∀ (H : Heap) (locs : List Loc) (ls : Array Slot), wo_S D cls cA base s w H locs → lv_has ls 3 [(0, .ref (base + y0)), (1, .int y1)] → W p l e rm_q_read s m args below meth c H locs 0 0 (MQ below (wo_Q D cls cA base none w') args s rm_q_read.cells rm_q_read.slots (wo_B base)) (F0 m 220 ls []) := by
  obtain ⟨hx, hb, hr, hml, hown, hts, hlk, hnm, hK, hG⟩ := id C
  intro y0 y1 w h H locs ls hW hl
  unfold f_q_read_220 at h
  refine lv_iconst (v := (0 : Int32)) hx hb d_q_read_220 (by decide) ?_
  exact j_q_read_221 C y0 y1 (0 : Int32) w h _ _ _ hW (lv_sub hl [0, 1] rfl)
set_option maxHeartbeats 4000000 in
set_option maxRecDepth 100000 in
theorem j_q_read_201 {p : Program} {l : Launch} {e : Env} {s : State} {m : MethodId} {args : Array Value} {below : List Frame} {meth : Method} {c : Code} {D : va_G} {cA : Nat → ClassId} {base : Nat} {w' : WW} (C : cx b_q_read (none) 3 y_q_read.cls "read" p s m args meth c D cA base)   : ∀ (y0 : Nat) (y1 : Int32) (w : WW), f_q_read_201 y0 y1 w = some w' → ∀ (H : Heap) (locs : List Loc) (ls : Array Slot), wo_S D cls cA base s w H locs → lv_has ls 3 [(0, .ref (base + y0)), (1, .int y1)] → W p l e rm_q_read s m args below meth c H locs 0 0 (MQ below (wo_Q D cls cA base none w') args s rm_q_read.cells rm_q_read.slots (wo_B base)) (F0 m 201 ls []) := by
  obtain ⟨hx, hb, hr, hml, hown, hts, hlk, hnm, hK, hG⟩ := id C
  intro y0 y1 w h H locs ls hW hl
  unfold f_q_read_201 at h
  refine lv_aload_n hx hb d_q_read_201 rfl (lv_at hl 0 rfl) ?_
  refine lv_aload_n hx hb d_q_read_202 rfl (lv_at hl 0 rfl) ?_
  replace h := bs h
  obtain ⟨x21, hx21, h⟩ := h
  refine gf_q_178 hx hb hts hown hK hG hW (gI_s hx21) d_q_read_203 ?_
  refine lv_iconst (v := (1 : Int32)) hx hb d_q_read_206 (by decide) ?_
  refine lv_iadd hx hb d_q_read_207 ?_
  replace h := bs2 h
  obtain ⟨x23, w22, hw22, h⟩ := h
  refine cv_q_186 (As := [.int (x21 + (1 : Int32))]) (rest := []) hx hb hml hown hts hK hG hW (c_q_charAt l D cA base hw22) (kb_q_charAt hw22) ⟨Nat.le_of_ble_eq_true rfl, Nat.le_of_ble_eq_true rfl⟩ ⟨Nat.le_of_ble_eq_true rfl, Nat.le_of_ble_eq_true rfl⟩ rfl hl.1 rfl (Nat.le_of_ble_eq_true rfl) d_q_read_208 (fun H locs hW => ?_)
  refine lv_bipush (v := (61 : Int32)) hx hb d_q_read_211 (by decide) ?_
  refine lv_icmp_ne (tgt := 220) hx hb d_q_read_213 (by decide) (fun c24 => ?_) (fun c24 => ?_)
  · rw [if_neg c24] at h
    exact j_q_read_220 C y0 y1 w22 h _ _ _ hW (lv_sub hl [0, 1] rfl)
  · rw [if_pos c24] at h
    refine lv_iconst (v := (1 : Int32)) hx hb d_q_read_216 (by decide) ?_
    refine lv_goto (tgt := 221) hx hb d_q_read_217 (by decide) ?_
    exact j_q_read_221 C y0 y1 (1 : Int32) w22 h _ _ _ hW (lv_sub hl [0, 1] rfl)
set_option maxHeartbeats 4000000 in
set_option maxRecDepth 100000 in
theorem j_q_read_104 {p : Program} {l : Launch} {e : Env} {s : State} {m : MethodId} {args : Array Value} {below : List Frame} {meth : Method} {c : Code} {D : va_G} {cA : Nat → ClassId} {base : Nat} {w' : WW} (C : cx b_q_read (none) 3 y_q_read.cls "read" p s m args meth c D cA base)   : ∀ n : Nat, ∀ (y0 : Nat) (w : WW), f_q_read_104 n y0 w = some w' → ∀ (H : Heap) (locs : List Loc) (ls : Array Slot), wo_S D cls cA base s w H locs → lv_has ls 3 [(0, .ref (base + y0))] → W p l e rm_q_read s m args below meth c H locs 0 0 (MQ below (wo_Q D cls cA base none w') args s rm_q_read.cells rm_q_read.slots (wo_B base)) (F0 m 104 ls []) := by
  obtain ⟨hx, hb, hr, hml, hown, hts, hlk, hnm, hK, hG⟩ := id C
  intro n
  induction n with
  | zero => intro y0 w h; cases h
  | succ n ih =>
    intro y0 w h H locs ls hW hl
    rw [f_q_read_104] at h
    refine lv_aload_n hx hb d_q_read_104 rfl (lv_at hl 0 rfl) ?_
    refine lv_aload_n hx hb d_q_read_105 rfl (lv_at hl 0 rfl) ?_
    replace h := bs h
    obtain ⟨x51, hx51, h⟩ := h
    refine gf_q_178 hx hb hts hown hK hG hW (gI_s hx51) d_q_read_106 ?_
    replace h := bs2 h
    obtain ⟨x53, w52, hw52, h⟩ := h
    refine cv_q_186 (As := [.int x51]) (rest := []) hx hb hml hown hts hK hG hW (c_q_charAt l D cA base hw52) (kb_q_charAt hw52) ⟨Nat.le_of_ble_eq_true rfl, Nat.le_of_ble_eq_true rfl⟩ ⟨Nat.le_of_ble_eq_true rfl, Nat.le_of_ble_eq_true rfl⟩ rfl hl.1 rfl (Nat.le_of_ble_eq_true rfl) d_q_read_109 (fun H locs hW => ?_)
    replace h := bs2 h
    obtain ⟨x55, w54, hw54, h⟩ := h
    refine cs_q_217 (As := [.int x53]) (rest := []) hx hb hml hown hts hK hG hW (c_q_isDigit l D cA base hw54) ⟨Nat.le_of_ble_eq_true rfl, Nat.le_of_ble_eq_true rfl⟩ ⟨Nat.le_of_ble_eq_true rfl, Nat.le_of_ble_eq_true rfl⟩ rfl hl.1 rfl (Nat.le_of_ble_eq_true rfl) d_q_read_112 (fun H locs hW => ?_)
    refine lv_if_eq (tgt := 356) hx hb d_q_read_115 (by decide) (fun c56 => ?_) (fun c56 => ?_)
    · rw [if_pos c56] at h
      exact j_q_read_356 C w54 h _ _ _ hW (lv_sub hl [] rfl)
    · rw [if_neg c56] at h
      refine lv_aload_n hx hb d_q_read_118 rfl (lv_at hl 0 rfl) ?_
      replace h := bs h
      obtain ⟨x57, hx57, h⟩ := h
      refine gf_q_178 hx hb hts hown hK hG hW (gI_s hx57) d_q_read_119 ?_
      refine lv_aload_n hx hb d_q_read_122 rfl (lv_at hl 0 rfl) ?_
      replace h := bs h
      obtain ⟨x58, hx58, h⟩ := h
      refine gf_q_181 hx hb hts hown hK hG hW (gI_s hx58) d_q_read_123 ?_
      refine lv_bipush (v := (9 : Int32)) hx hb d_q_read_126 (by decide) ?_
      refine lv_iadd hx hb d_q_read_128 ?_
      refine lv_icmp_ge (tgt := 356) hx hb d_q_read_129 (by decide) (fun c59 => ?_) (fun c59 => ?_)
      · rw [if_pos c59] at h
        exact j_q_read_356 C w54 h _ _ _ hW (lv_sub hl [] rfl)
      · rw [if_neg c59] at h
        refine lv_aload_n hx hb d_q_read_132 rfl (lv_at hl 0 rfl) ?_
        refine lv_bipush (v := (10 : Int32)) hx hb d_q_read_133 (by decide) ?_
        refine lv_aload_n hx hb d_q_read_135 rfl (lv_at hl 0 rfl) ?_
        replace h := bs h
        obtain ⟨x60, hx60, h⟩ := h
        refine gf_q_198 hx hb hts hown hK hG hW (gI_s hx60) d_q_read_136 ?_
        refine lv_imul hx hb d_q_read_139 ?_
        refine lv_aload_n hx hb d_q_read_140 rfl (lv_at hl 0 rfl) ?_
        replace h := bs h
        obtain ⟨x61, hx61, h⟩ := h
        refine gf_q_7 hx hb hts hown hK hG hW (gN_s hx61) d_q_read_141 ?_
        refine lv_aload_n hx hb d_q_read_144 rfl (lv_at hl 0 rfl) ?_
        replace h := bs h
        obtain ⟨x62, hx62, h⟩ := h
        refine gf_q_178 hx hb hts hown hK hG hW (gI_s hx62) d_q_read_145 ?_
        replace h := bs h
        obtain ⟨x63, hx63, h⟩ := h
        refine wo_iald hx hb hK hW (t := 0) rfl hx63 d_q_read_148 ?_
        refine lv_iadd hx hb d_q_read_149 ?_
        refine lv_bipush (v := (48 : Int32)) hx hb d_q_read_150 (by decide) ?_
        refine lv_isub hx hb d_q_read_152 ?_
        replace h := bs h
        obtain ⟨w64, hw64, h⟩ := h
        refine pf_q_198 hx hb hts hown hK hG hW rfl rfl (pbi hw64 rfl) d_q_read_153 (fun H locs hW => ?_)
        refine lv_aload_n hx hb d_q_read_156 rfl (lv_at hl 0 rfl) ?_
        refine lv_dup hx hb d_q_read_157 rfl ?_
        replace h := bs h
        obtain ⟨x65, hx65, h⟩ := h
        refine gf_q_178 hx hb hts hown hK hG hW (gI_s hx65) d_q_read_158 ?_
        refine lv_iconst (v := (1 : Int32)) hx hb d_q_read_161 (by decide) ?_
        refine lv_iadd hx hb d_q_read_162 ?_
        replace h := bs h
        obtain ⟨w66, hw66, h⟩ := h
        refine pf_q_178 hx hb hts hown hK hG hW rfl rfl (pbi hw66 rfl) d_q_read_163 (fun H locs hW => ?_)
        refine lv_goto (tgt := 104) hx hb d_q_read_166 (by decide) ?_
        exact ih y0 w66 h _ _ _ hW (lv_sub hl [0] rfl)
set_option maxHeartbeats 4000000 in
set_option maxRecDepth 100000 in
theorem j_q_read_52 {p : Program} {l : Launch} {e : Env} {s : State} {m : MethodId} {args : Array Value} {below : List Frame} {meth : Method} {c : Code} {D : va_G} {cA : Nat → ClassId} {base : Nat} {w' : WW} (C : cx b_q_read (none) 3 y_q_read.cls "read" p s m args meth c D cA base)   : ∀ (y0 : Nat) (w : WW), f_q_read_52 y0 w = some w' → ∀ (H : Heap) (locs : List Loc) (ls : Array Slot), wo_S D cls cA base s w H locs → lv_has ls 3 [(0, .ref (base + y0))] → W p l e rm_q_read s m args below meth c H locs 0 0 (MQ below (wo_Q D cls cA base none w') args s rm_q_read.cells rm_q_read.slots (wo_B base)) (F0 m 52 ls []) := by
  obtain ⟨hx, hb, hr, hml, hown, hts, hlk, hnm, hK, hG⟩ := id C
  intro y0 w h H locs ls hW hl
  unfold f_q_read_52 at h
  refine lv_aload_n hx hb d_q_read_52 rfl (lv_at hl 0 rfl) ?_
  refine lv_aload_n hx hb d_q_read_53 rfl (lv_at hl 0 rfl) ?_
  replace h := bs h
  obtain ⟨x4, hx4, h⟩ := h
  refine gf_q_178 hx hb hts hown hK hG hW (gI_s hx4) d_q_read_54 ?_
  replace h := bs h
  obtain ⟨w5, hw5, h⟩ := h
  refine pf_q_181 hx hb hts hown hK hG hW rfl rfl (pbi hw5 rfl) d_q_read_57 (fun H locs hW => ?_)
  refine lv_aload_n hx hb d_q_read_60 rfl (lv_at hl 0 rfl) ?_
  refine lv_iconst (v := (0 : Int32)) hx hb d_q_read_61 (by decide) ?_
  replace h := bs h
  obtain ⟨w6, hw6, h⟩ := h
  refine pf_q_195 hx hb hts hown hK hG hW rfl rfl (pbi hw6 rfl) d_q_read_62 (fun H locs hW => ?_)
  refine lv_aload_n hx hb d_q_read_65 rfl (lv_at hl 0 rfl) ?_
  refine lv_iconst (v := (0 : Int32)) hx hb d_q_read_66 (by decide) ?_
  replace h := bs h
  obtain ⟨w7, hw7, h⟩ := h
  refine pf_q_198 hx hb hts hown hK hG hW rfl rfl (pbi hw7 rfl) d_q_read_67 (fun H locs hW => ?_)
  refine lv_aload_n hx hb d_q_read_70 rfl (lv_at hl 0 rfl) ?_
  replace h := bs h
  obtain ⟨x8, hx8, h⟩ := h
  refine gf_q_178 hx hb hts hown hK hG hW (gI_s hx8) d_q_read_71 ?_
  refine lv_aload_n hx hb d_q_read_74 rfl (lv_at hl 0 rfl) ?_
  replace h := bs h
  obtain ⟨x9, hx9, h⟩ := h
  refine gf_q_163 hx hb hts hown hK hG hW (gI_s hx9) d_q_read_75 ?_
  refine lv_icmp_ne (tgt := 82) hx hb d_q_read_78 (by decide) (fun c10 => ?_) (fun c10 => ?_)
  · rw [if_neg c10] at h
    refine lv_aload_n hx hb d_q_read_82 rfl (lv_at hl 0 rfl) ?_
    replace h := bs h
    obtain ⟨x11, hx11, h⟩ := h
    refine gf_q_7 hx hb hts hown hK hG hW (gN_s hx11) d_q_read_83 ?_
    refine lv_aload_n hx hb d_q_read_86 rfl (lv_at hl 0 rfl) ?_
    replace h := bs h
    obtain ⟨x12, hx12, h⟩ := h
    refine gf_q_178 hx hb hts hown hK hG hW (gI_s hx12) d_q_read_87 ?_
    replace h := bs h
    obtain ⟨x13, hx13, h⟩ := h
    refine wo_iald hx hb hK hW (t := 0) rfl hx13 d_q_read_90 ?_
    refine lv_istore_n (lv' := [(1, .int x13), (0, .ref (base + y0))]) hx hb d_q_read_91 rfl hl (by decide) rfl (fun ls hl => ?_)
    refine lv_iload_n hx hb d_q_read_92 rfl (lv_at hl 0 rfl) ?_
    replace h := bs2 h
    obtain ⟨x15, w14, hw14, h⟩ := h
    refine cs_q_217 (As := [.int x13]) (rest := []) hx hb hml hown hts hK hG hW (c_q_isDigit l D cA base hw14) ⟨Nat.le_of_ble_eq_true rfl, Nat.le_of_ble_eq_true rfl⟩ ⟨Nat.le_of_ble_eq_true rfl, Nat.le_of_ble_eq_true rfl⟩ rfl hl.1 rfl (Nat.le_of_ble_eq_true rfl) d_q_read_93 (fun H locs hW => ?_)
    refine lv_if_eq (tgt := 169) hx hb d_q_read_96 (by decide) (fun c16 => ?_) (fun c16 => ?_)
    · rw [if_pos c16] at h
      refine lv_iload_n hx hb d_q_read_169 rfl (lv_at hl 0 rfl) ?_
      replace h := bs2 h
      obtain ⟨x18, w17, hw17, h⟩ := h
      refine cs_q_189 (As := [.int x13]) (rest := []) hx hb hml hown hts hK hG hW (c_q_isLetter l D cA base hw17) ⟨Nat.le_of_ble_eq_true rfl, Nat.le_of_ble_eq_true rfl⟩ ⟨Nat.le_of_ble_eq_true rfl, Nat.le_of_ble_eq_true rfl⟩ rfl hl.1 rfl (Nat.le_of_ble_eq_true rfl) d_q_read_170 (fun H locs hW => ?_)
      refine lv_if_eq (tgt := 183) hx hb d_q_read_173 (by decide) (fun c19 => ?_) (fun c19 => ?_)
      · rw [if_pos c19] at h
        refine lv_iload_n hx hb d_q_read_183 rfl (lv_at hl 0 rfl) ?_
        refine lv_bipush (v := (61 : Int32)) hx hb d_q_read_184 (by decide) ?_
        refine lv_icmp_eq (tgt := 201) hx hb d_q_read_186 (by decide) (fun c20 => ?_) (fun c20 => ?_)
        · rw [if_pos c20] at h
          exact j_q_read_201 C y0 x13 w17 h _ _ _ hW (lv_sub hl [1, 0] rfl)
        · rw [if_neg c20] at h
          refine lv_iload_n hx hb d_q_read_189 rfl (lv_at hl 0 rfl) ?_
          refine lv_bipush (v := (33 : Int32)) hx hb d_q_read_190 (by decide) ?_
          refine lv_icmp_eq (tgt := 201) hx hb d_q_read_192 (by decide) (fun c47 => ?_) (fun c47 => ?_)
          · rw [if_pos c47] at h
            exact j_q_read_201 C y0 x13 w17 h _ _ _ hW (lv_sub hl [1, 0] rfl)
          · rw [if_neg c47] at h
            refine lv_iload_n hx hb d_q_read_195 rfl (lv_at hl 0 rfl) ?_
            refine lv_bipush (v := (60 : Int32)) hx hb d_q_read_196 (by decide) ?_
            refine lv_icmp_ne (tgt := 220) hx hb d_q_read_198 (by decide) (fun c48 => ?_) (fun c48 => ?_)
            · rw [if_neg c48] at h
              exact j_q_read_220 C y0 x13 w17 h _ _ _ hW (lv_sub hl [1, 0] rfl)
            · rw [if_pos c48] at h
              exact j_q_read_201 C y0 x13 w17 h _ _ _ hW (lv_sub hl [1, 0] rfl)
      · rw [if_neg c19] at h
        refine lv_aload_n hx hb d_q_read_176 rfl (lv_at hl 1 rfl) ?_
        replace h := bs h
        obtain ⟨w49, hw49, h⟩ := h
        refine cv_q_220 (As := []) (rest := []) hx hb hml hown hts hK hG hW (c_q_word l D cA base hw49) (kb_q_word hw49) ⟨Nat.le_of_ble_eq_true rfl, Nat.le_of_ble_eq_true rfl⟩ ⟨Nat.le_of_ble_eq_true rfl, Nat.le_of_ble_eq_true rfl⟩ rfl hl.1 rfl (Nat.le_of_ble_eq_true rfl) d_q_read_177 (fun H locs hW => ?_)
        refine lv_goto (tgt := 356) hx hb d_q_read_180 (by decide) ?_
        exact j_q_read_356 C w49 h _ _ _ hW (lv_sub hl [] rfl)
    · rw [if_neg c16] at h
      refine lv_aload_n hx hb d_q_read_99 rfl (lv_at hl 1 rfl) ?_
      refine lv_iconst (v := (1 : Int32)) hx hb d_q_read_100 (by decide) ?_
      replace h := bs h
      obtain ⟨w50, hw50, h⟩ := h
      refine pf_q_195 hx hb hts hown hK hG hW rfl rfl (pbi hw50 rfl) d_q_read_101 (fun H locs hW => ?_)
      exact j_q_read_104 C KK y0 w50 h _ _ _ hW (lv_sub hl [1] rfl)
  · rw [if_pos c10] at h
    cases h
    exact wo_vret hx hb hr hlk hW d_q_read_81
set_option maxHeartbeats 4000000 in
set_option maxRecDepth 100000 in
theorem j_q_read_39 {p : Program} {l : Launch} {e : Env} {s : State} {m : MethodId} {args : Array Value} {below : List Frame} {meth : Method} {c : Code} {D : va_G} {cA : Nat → ClassId} {base : Nat} {w' : WW} (C : cx b_q_read (none) 3 y_q_read.cls "read" p s m args meth c D cA base) {k_0 : Nat → WW → Option WW} (hk_0 : ∀ (y0 : Nat) (w : WW), k_0 y0 w = some w' → ∀ (H : Heap) (locs : List Loc) (ls : Array Slot), wo_S D cls cA base s w H locs → lv_has ls 3 [(0, .ref (base + y0))] → W p l e rm_q_read s m args below meth c H locs 0 0 (MQ below (wo_Q D cls cA base none w') args s rm_q_read.cells rm_q_read.slots (wo_B base)) (F0 m 0 ls [])) : ∀ (y0 : Nat) (w : WW), f_q_read_39 k_0 y0 w = some w' → ∀ (H : Heap) (locs : List Loc) (ls : Array Slot), wo_S D cls cA base s w H locs → lv_has ls 3 [(0, .ref (base + y0))] → W p l e rm_q_read s m args below meth c H locs 0 0 (MQ below (wo_Q D cls cA base none w') args s rm_q_read.cells rm_q_read.slots (wo_B base)) (F0 m 39 ls []) := by
  obtain ⟨hx, hb, hr, hml, hown, hts, hlk, hnm, hK, hG⟩ := id C
  intro y0 w h H locs ls hW hl
  unfold f_q_read_39 at h
  refine lv_aload_n hx hb d_q_read_39 rfl (lv_at hl 0 rfl) ?_
  refine lv_dup hx hb d_q_read_40 rfl ?_
  replace h := bs h
  obtain ⟨x71, hx71, h⟩ := h
  refine gf_q_178 hx hb hts hown hK hG hW (gI_s hx71) d_q_read_41 ?_
  refine lv_iconst (v := (1 : Int32)) hx hb d_q_read_44 (by decide) ?_
  refine lv_iadd hx hb d_q_read_45 ?_
  replace h := bs h
  obtain ⟨w72, hw72, h⟩ := h
  refine pf_q_178 hx hb hts hown hK hG hW rfl rfl (pbi hw72 rfl) d_q_read_46 (fun H locs hW => ?_)
  refine lv_goto (tgt := 0) hx hb d_q_read_49 (by decide) ?_
  exact hk_0 y0 w72 h _ _ _ hW (lv_sub hl [0] rfl)
set_option maxHeartbeats 4000000 in
set_option maxRecDepth 100000 in
theorem j_q_read_0 {p : Program} {l : Launch} {e : Env} {s : State} {m : MethodId} {args : Array Value} {below : List Frame} {meth : Method} {c : Code} {D : va_G} {cA : Nat → ClassId} {base : Nat} {w' : WW} (C : cx b_q_read (none) 3 y_q_read.cls "read" p s m args meth c D cA base)   : ∀ n : Nat, ∀ (y0 : Nat) (w : WW), f_q_read_0 n y0 w = some w' → ∀ (H : Heap) (locs : List Loc) (ls : Array Slot), wo_S D cls cA base s w H locs → lv_has ls 3 [(0, .ref (base + y0))] → W p l e rm_q_read s m args below meth c H locs 0 0 (MQ below (wo_Q D cls cA base none w') args s rm_q_read.cells rm_q_read.slots (wo_B base)) (F0 m 0 ls []) := by
  obtain ⟨hx, hb, hr, hml, hown, hts, hlk, hnm, hK, hG⟩ := id C
  intro n
  induction n with
  | zero => intro y0 w h; cases h
  | succ n ih =>
    intro y0 w h H locs ls hW hl
    rw [f_q_read_0] at h
    refine lv_aload_n hx hb d_q_read_0 rfl (lv_at hl 0 rfl) ?_
    replace h := bs h
    obtain ⟨x1, hx1, h⟩ := h
    refine gf_q_178 hx hb hts hown hK hG hW (gI_s hx1) d_q_read_1 ?_
    refine lv_aload_n hx hb d_q_read_4 rfl (lv_at hl 0 rfl) ?_
    replace h := bs h
    obtain ⟨x2, hx2, h⟩ := h
    refine gf_q_163 hx hb hts hown hK hG hW (gI_s hx2) d_q_read_5 ?_
    refine lv_icmp_ge (tgt := 52) hx hb d_q_read_8 (by decide) (fun c3 => ?_) (fun c3 => ?_)
    · rw [if_pos c3] at h
      exact j_q_read_52 C y0 w h _ _ _ hW (lv_sub hl [0] rfl)
    · rw [if_neg c3] at h
      refine lv_aload_n hx hb d_q_read_11 rfl (lv_at hl 0 rfl) ?_
      replace h := bs h
      obtain ⟨x67, hx67, h⟩ := h
      refine gf_q_7 hx hb hts hown hK hG hW (gN_s hx67) d_q_read_12 ?_
      refine lv_aload_n hx hb d_q_read_15 rfl (lv_at hl 0 rfl) ?_
      replace h := bs h
      obtain ⟨x68, hx68, h⟩ := h
      refine gf_q_178 hx hb hts hown hK hG hW (gI_s hx68) d_q_read_16 ?_
      replace h := bs h
      obtain ⟨x69, hx69, h⟩ := h
      refine wo_iald hx hb hK hW (t := 0) rfl hx69 d_q_read_19 ?_
      refine lv_bipush (v := (32 : Int32)) hx hb d_q_read_20 (by decide) ?_
      refine lv_icmp_eq (tgt := 39) hx hb d_q_read_22 (by decide) (fun c70 => ?_) (fun c70 => ?_)
      · rw [if_pos c70] at h
        exact j_q_read_39 C ih y0 w h _ _ _ hW (lv_sub hl [0] rfl)
      · rw [if_neg c70] at h
        refine lv_aload_n hx hb d_q_read_25 rfl (lv_at hl 0 rfl) ?_
        replace h := bs h
        obtain ⟨x73, hx73, h⟩ := h
        refine gf_q_7 hx hb hts hown hK hG hW (gN_s hx73) d_q_read_26 ?_
        refine lv_aload_n hx hb d_q_read_29 rfl (lv_at hl 0 rfl) ?_
        replace h := bs h
        obtain ⟨x74, hx74, h⟩ := h
        refine gf_q_178 hx hb hts hown hK hG hW (gI_s hx74) d_q_read_30 ?_
        replace h := bs h
        obtain ⟨x75, hx75, h⟩ := h
        refine wo_iald hx hb hK hW (t := 0) rfl hx75 d_q_read_33 ?_
        refine lv_bipush (v := (10 : Int32)) hx hb d_q_read_34 (by decide) ?_
        refine lv_icmp_ne (tgt := 52) hx hb d_q_read_36 (by decide) (fun c76 => ?_) (fun c76 => ?_)
        · rw [if_neg c76] at h
          exact j_q_read_52 C y0 w h _ _ _ hW (lv_sub hl [0] rfl)
        · rw [if_pos c76] at h
          exact j_q_read_39 C ih y0 w h _ _ _ hW (lv_sub hl [0] rfl)
set_option maxHeartbeats 4000000 in
set_option maxRecDepth 100000 in
theorem c_q_read (l : Launch) (D : va_G) (cA : Nat → ClassId) (base : Nat) {a0 : Nat} {w w' : WW} (h : f_q_read a0 w = some w') : mt l D cls (wo_tys cA) cA base y_q_read (Cond.code y_q_read b_q_read 3 (none) :: gt) rm_q_read [.ref (base + a0)] w none w' rm_q_read.cells rm_q_read.slots := by
  refine mt_start (by decide) (Nat.le_of_ble_eq_true rfl) ?_
  intro p e s m below meth c ls hx hb hr hml hown hts hlk hnm hK hG hW hl
  have C : cx b_q_read (none) 3 y_q_read.cls "read" p s m [.ref (base + a0)].toArray meth c D cA base := ⟨hx, hb, hr, hml, hown, hts, hlk, hnm, hK, hG⟩
  have hl : lv_has ls 3 [(0, .ref (base + a0))] := hl
  unfold f_q_read at h
  replace h := its h
  obtain ⟨-, h⟩ := h
  exact j_q_read_0 C KK a0 w h _ _ _ hW (lv_sub hl [0] rfl)
abbrev b_q_is : ByteArray := prog_11_method_15_code
def y_q_is : MethodName := ⟨"AlarmForgeModel", "is", "(I)Z"⟩
def rm_q_is : Room := { frames := 0, cells := 0, slots := 0, locals := 0 }
theorem d_q_is_0 : decode b_q_is 0 = .ok (.aload_n 0, 1) := by decide +kernel
theorem d_q_is_1 : decode b_q_is 1 = .ok (.getfield 195, 3) := by decide +kernel
theorem d_q_is_4 : decode b_q_is 4 = .ok (.iconst 5, 1) := by decide +kernel
theorem d_q_is_5 : decode b_q_is 5 = .ok (.if_icmp .ne (15), 3) := by decide +kernel
theorem d_q_is_8 : decode b_q_is 8 = .ok (.aload_n 0, 1) := by decide +kernel
theorem d_q_is_9 : decode b_q_is 9 = .ok (.getfield 198, 3) := by decide +kernel
theorem d_q_is_12 : decode b_q_is 12 = .ok (.iload_n 1, 1) := by decide +kernel
theorem d_q_is_13 : decode b_q_is 13 = .ok (.if_icmp .ne (7), 3) := by decide +kernel
theorem d_q_is_16 : decode b_q_is 16 = .ok (.iconst 1, 1) := by decide +kernel
theorem d_q_is_17 : decode b_q_is 17 = .ok (.goto (4), 3) := by decide +kernel
theorem d_q_is_20 : decode b_q_is 20 = .ok (.iconst 0, 1) := by decide +kernel
theorem d_q_is_21 : decode b_q_is 21 = .ok (.ireturn, 1) := by decide +kernel
theorem kb_q_is {a0 : Nat} {a1 : Int32} {w : WW} {r : (Int32 × WW)} (h : f_q_is a0 a1 w = some r) : kb w a0 9 = true := (its h).1
set_option maxHeartbeats 4000000 in
set_option maxRecDepth 100000 in
theorem j_q_is_21 {p : Program} {l : Launch} {e : Env} {s : State} {m : MethodId} {args : Array Value} {below : List Frame} {meth : Method} {c : Code} {D : va_G} {cA : Nat → ClassId} {base : Nat} {r : Int32} {w' : WW} (C : cx b_q_is (some .boolean) 2 y_q_is.cls "is" p s m args meth c D cA base)   : ∀ (z0 : Int32) (w : WW), f_q_is_21 z0 w = some (r, w') → ∀ (H : Heap) (locs : List Loc) (ls : Array Slot), wo_S D cls cA base s w H locs → lv_has ls 2 [] → W p l e rm_q_is s m args below meth c H locs 0 0 (MQ below (wo_Q D cls cA base (some (.int r)) w') args s rm_q_is.cells rm_q_is.slots (wo_B base)) (F0 m 21 ls [.int z0]) := by
  obtain ⟨hx, hb, hr, hml, hown, hts, hlk, hnm, hK, hG⟩ := id C
  intro z0 w h H locs ls hW hl
  unfold f_q_is_21 at h
  replace h := its h
  obtain ⟨c3, h⟩ := h
  cases h
  exact wo_zret hx hb hr hlk hW c3 d_q_is_21
set_option maxHeartbeats 4000000 in
set_option maxRecDepth 100000 in
theorem j_q_is_20 {p : Program} {l : Launch} {e : Env} {s : State} {m : MethodId} {args : Array Value} {below : List Frame} {meth : Method} {c : Code} {D : va_G} {cA : Nat → ClassId} {base : Nat} {r : Int32} {w' : WW} (C : cx b_q_is (some .boolean) 2 y_q_is.cls "is" p s m args meth c D cA base)   : ∀  (w : WW), f_q_is_20  w = some (r, w') → ∀ (H : Heap) (locs : List Loc) (ls : Array Slot), wo_S D cls cA base s w H locs → lv_has ls 2 [] → W p l e rm_q_is s m args below meth c H locs 0 0 (MQ below (wo_Q D cls cA base (some (.int r)) w') args s rm_q_is.cells rm_q_is.slots (wo_B base)) (F0 m 20 ls []) := by
  obtain ⟨hx, hb, hr, hml, hown, hts, hlk, hnm, hK, hG⟩ := id C
  intro  w h H locs ls hW hl
  unfold f_q_is_20 at h
  refine lv_iconst (v := (0 : Int32)) hx hb d_q_is_20 (by decide) ?_
  exact j_q_is_21 C (0 : Int32) w h _ _ _ hW (lv_sub hl [] rfl)
set_option maxHeartbeats 4000000 in
set_option maxRecDepth 100000 in
theorem c_q_is (l : Launch) (D : va_G) (cA : Nat → ClassId) (base : Nat) {a0 : Nat} {a1 : Int32} {w w' : WW} {r : Int32} (h : f_q_is a0 a1 w = some (r, w')) : mt l D cls (wo_tys cA) cA base y_q_is (Cond.code y_q_is b_q_is 2 (some .boolean) :: gt) rm_q_is [.ref (base + a0), .int a1] w (some (.int r)) w' rm_q_is.cells rm_q_is.slots := by
  refine mt_start (by decide) (Nat.le_of_ble_eq_true rfl) ?_
  intro p e s m below meth c ls hx hb hr hml hown hts hlk hnm hK hG hW hl
  have C : cx b_q_is (some .boolean) 2 y_q_is.cls "is" p s m [.ref (base + a0), .int a1].toArray meth c D cA base := ⟨hx, hb, hr, hml, hown, hts, hlk, hnm, hK, hG⟩
  have hl : lv_has ls 2 [(0, .ref (base + a0)), (1, .int a1)] := hl
  unfold f_q_is at h
  replace h := its h
  obtain ⟨-, h⟩ := h
  refine lv_aload_n hx hb d_q_is_0 rfl (lv_at hl 0 rfl) ?_
  replace h := bs h
  obtain ⟨x1, hx1, h⟩ := h
  refine gf_q_195 hx hb hts hown hK hG hW (gI_s hx1) d_q_is_1 ?_
  refine lv_iconst (v := (5 : Int32)) hx hb d_q_is_4 (by decide) ?_
  refine lv_icmp_ne (tgt := 20) hx hb d_q_is_5 (by decide) (fun c2 => ?_) (fun c2 => ?_)
  · rw [if_neg c2] at h
    exact j_q_is_20 C w h _ _ _ hW (lv_sub hl [] rfl)
  · rw [if_pos c2] at h
    refine lv_aload_n hx hb d_q_is_8 rfl (lv_at hl 0 rfl) ?_
    replace h := bs h
    obtain ⟨x4, hx4, h⟩ := h
    refine gf_q_198 hx hb hts hown hK hG hW (gI_s hx4) d_q_is_9 ?_
    refine lv_iload_n hx hb d_q_is_12 rfl (lv_at hl 1 rfl) ?_
    refine lv_icmp_ne (tgt := 20) hx hb d_q_is_13 (by decide) (fun c5 => ?_) (fun c5 => ?_)
    · rw [if_neg c5] at h
      exact j_q_is_20 C w h _ _ _ hW (lv_sub hl [] rfl)
    · rw [if_pos c5] at h
      refine lv_iconst (v := (1 : Int32)) hx hb d_q_is_16 (by decide) ?_
      refine lv_goto (tgt := 21) hx hb d_q_is_17 (by decide) ?_
      exact j_q_is_21 C (1 : Int32) w h _ _ _ hW (lv_sub hl [] rfl)
abbrev b_q_wrong : ByteArray := prog_11_method_16_code
def y_q_wrong : MethodName := ⟨"AlarmForgeModel", "wrong", "()V"⟩
def rm_q_wrong : Room := { frames := 0, cells := 0, slots := 0, locals := 0 }
theorem d_q_wrong_0 : decode b_q_wrong 0 = .ok (.aload_n 0, 1) := by decide +kernel
theorem d_q_wrong_1 : decode b_q_wrong 1 = .ok (.getfield 230, 3) := by decide +kernel
theorem d_q_wrong_4 : decode b_q_wrong 4 = .ok (.ifCond .ne (11), 3) := by decide +kernel
theorem d_q_wrong_7 : decode b_q_wrong 7 = .ok (.aload_n 0, 1) := by decide +kernel
theorem d_q_wrong_8 : decode b_q_wrong 8 = .ok (.aload_n 0, 1) := by decide +kernel
theorem d_q_wrong_9 : decode b_q_wrong 9 = .ok (.getfield 181, 3) := by decide +kernel
theorem d_q_wrong_12 : decode b_q_wrong 12 = .ok (.putfield 16, 3) := by decide +kernel
theorem d_q_wrong_15 : decode b_q_wrong 15 = .ok (.aload_n 0, 1) := by decide +kernel
theorem d_q_wrong_16 : decode b_q_wrong 16 = .ok (.iconst 1, 1) := by decide +kernel
theorem d_q_wrong_17 : decode b_q_wrong 17 = .ok (.putfield 230, 3) := by decide +kernel
theorem d_q_wrong_20 : decode b_q_wrong 20 = .ok (.return_, 1) := by decide +kernel
theorem kb_q_wrong {a0 : Nat}  {w : WW} {r : WW} (h : f_q_wrong a0 w = some r) : kb w a0 9 = true := (its h).1
set_option maxHeartbeats 4000000 in
set_option maxRecDepth 100000 in
theorem j_q_wrong_15 {p : Program} {l : Launch} {e : Env} {s : State} {m : MethodId} {args : Array Value} {below : List Frame} {meth : Method} {c : Code} {D : va_G} {cA : Nat → ClassId} {base : Nat} {w' : WW} (C : cx b_q_wrong (none) 1 y_q_wrong.cls "wrong" p s m args meth c D cA base)   : ∀ (y0 : Nat) (w : WW), f_q_wrong_15 y0 w = some w' → ∀ (H : Heap) (locs : List Loc) (ls : Array Slot), wo_S D cls cA base s w H locs → lv_has ls 1 [(0, .ref (base + y0))] → W p l e rm_q_wrong s m args below meth c H locs 0 0 (MQ below (wo_Q D cls cA base none w') args s rm_q_wrong.cells rm_q_wrong.slots (wo_B base)) (F0 m 15 ls []) := by
  obtain ⟨hx, hb, hr, hml, hown, hts, hlk, hnm, hK, hG⟩ := id C
  intro y0 w h H locs ls hW hl
  unfold f_q_wrong_15 at h
  refine lv_aload_n hx hb d_q_wrong_15 rfl (lv_at hl 0 rfl) ?_
  refine lv_iconst (v := (1 : Int32)) hx hb d_q_wrong_16 (by decide) ?_
  replace h := its h
  obtain ⟨c4, h⟩ := h
  replace h := bs h
  obtain ⟨w3, hw3, h⟩ := h
  refine pf_q_230 hx hb hts hown hK hG hW (z_n c4) (z_f c4) (pbi hw3 rfl) d_q_wrong_17 (fun H locs hW => ?_)
  cases h
  exact wo_vret hx hb hr hlk hW d_q_wrong_20
set_option maxHeartbeats 4000000 in
set_option maxRecDepth 100000 in
theorem c_q_wrong (l : Launch) (D : va_G) (cA : Nat → ClassId) (base : Nat) {a0 : Nat} {w w' : WW} (h : f_q_wrong a0 w = some w') : mt l D cls (wo_tys cA) cA base y_q_wrong (Cond.code y_q_wrong b_q_wrong 1 (none) :: gt) rm_q_wrong [.ref (base + a0)] w none w' rm_q_wrong.cells rm_q_wrong.slots := by
  refine mt_start (by decide) (Nat.le_of_ble_eq_true rfl) ?_
  intro p e s m below meth c ls hx hb hr hml hown hts hlk hnm hK hG hW hl
  have C : cx b_q_wrong (none) 1 y_q_wrong.cls "wrong" p s m [.ref (base + a0)].toArray meth c D cA base := ⟨hx, hb, hr, hml, hown, hts, hlk, hnm, hK, hG⟩
  have hl : lv_has ls 1 [(0, .ref (base + a0))] := hl
  unfold f_q_wrong at h
  replace h := its h
  obtain ⟨-, h⟩ := h
  refine lv_aload_n hx hb d_q_wrong_0 rfl (lv_at hl 0 rfl) ?_
  replace h := bs h
  obtain ⟨x1, hx1, h⟩ := h
  refine gf_q_230 hx hb hts hown hK hG hW (gI_s hx1) d_q_wrong_1 ?_
  refine lv_if_ne (tgt := 15) hx hb d_q_wrong_4 (by decide) (fun c2 => ?_) (fun c2 => ?_)
  · rw [if_neg c2] at h
    exact j_q_wrong_15 C a0 w h _ _ _ hW (lv_sub hl [0] rfl)
  · rw [if_pos c2] at h
    refine lv_aload_n hx hb d_q_wrong_7 rfl (lv_at hl 0 rfl) ?_
    refine lv_aload_n hx hb d_q_wrong_8 rfl (lv_at hl 0 rfl) ?_
    replace h := bs h
    obtain ⟨x5, hx5, h⟩ := h
    refine gf_q_181 hx hb hts hown hK hG hW (gI_s hx5) d_q_wrong_9 ?_
    replace h := bs h
    obtain ⟨w6, hw6, h⟩ := h
    refine pf_q_16 hx hb hts hown hK hG hW rfl rfl (pbi hw6 rfl) d_q_wrong_12 (fun H locs hW => ?_)
    exact j_q_wrong_15 C a0 w6 h _ _ _ hW (lv_sub hl [0] rfl)
theorem cv_q_234 {p : Program} {l : Launch} {e : Env} {R : Room} {s : State} {m : MethodId} {args : Array Value} {below : List Frame} {meth : Method} {c : Code} {H : Heap} {locs : List Loc} {cells slots : Nat} {Q : State → Prop} {D : va_G} {cA : Nat → ClassId} {base : Nat} {w w' : WW} {cc : ByteArray} {pc nL : Nat} {ls : Array Slot} {rest st0 As : List Value} {ov : Option Value} {b : Nat} (hx : p.tables.exec = Jvm.exec) (hb : c.code = cc) (hml : c.maxLocals = nL) (hown : s.vm.findClass Rc_q = some m.cls) (hts : ∀ w ∈ gt, w.before args s = true) (hK : va_K D cls (wo_tys cA) s) (hG : wo_G cA base s) (hW : wo_S D cls cA base s w H locs) (hM : mt l D cls (wo_tys cA) cA base y_q_is (Cond.code y_q_is b_q_is 2 (some .boolean) :: gt) rm_q_is (.ref (base + b) :: As) w ov w' rm_q_is.cells rm_q_is.slots) (hkb : kb w b 9 = true) (hR : rm_q_is.frames + 1 ≤ R.frames ∧ 8 + (2 + 11) + rm_q_is.locals ≤ R.locals) (hf : cells + rm_q_is.cells ≤ R.cells ∧ slots + rm_q_is.slots ≤ R.slots) (hn : As.length = 1) (hsz : ls.size = nL) (hst : st0 = As.reverse ++ .ref (base + b) :: rest) (hcat : (rest.map fun v => v.category).sum ≤ 8) (hdg : decode cc pc = .ok (.invokevirtual 234, 3)) (kk : ∀ (H1 : Heap) (locs1 : List Loc), wo_S D cls cA base s w' H1 locs1 → W p l e R s m args below meth c H1 locs1 (cells + rm_q_is.cells) (slots + rm_q_is.slots) Q (F0 m (pc + 3) ls (ov.toList ++ rest))) : W p l e R s m args below meth c H locs cells slots Q (F0 m pc ls st0) :=
  wo_callV (C := Rc_q) hx hb hml hown hts hK hG hW hM hkb rfl (gt_of (i := 1432) (by decide +kernel) (by decide +kernel)) (gt_of (i := 1434) (by decide +kernel) (by decide +kernel)) (gt_sel (i := 63) (by decide +kernel) (by decide +kernel)) (gt_of (i := 10) (by decide +kernel) (by decide +kernel)) (gt_of (i := 1435) (by decide +kernel) (by decide +kernel)) (by decide +kernel) hR hf hn hsz hst hcat hdg kk
theorem cv_q_240 {p : Program} {l : Launch} {e : Env} {R : Room} {s : State} {m : MethodId} {args : Array Value} {below : List Frame} {meth : Method} {c : Code} {H : Heap} {locs : List Loc} {cells slots : Nat} {Q : State → Prop} {D : va_G} {cA : Nat → ClassId} {base : Nat} {w w' : WW} {cc : ByteArray} {pc nL : Nat} {ls : Array Slot} {rest st0 As : List Value} {ov : Option Value} {b : Nat} (hx : p.tables.exec = Jvm.exec) (hb : c.code = cc) (hml : c.maxLocals = nL) (hown : s.vm.findClass Rc_q = some m.cls) (hts : ∀ w ∈ gt, w.before args s = true) (hK : va_K D cls (wo_tys cA) s) (hG : wo_G cA base s) (hW : wo_S D cls cA base s w H locs) (hM : mt l D cls (wo_tys cA) cA base y_q_wrong (Cond.code y_q_wrong b_q_wrong 1 (none) :: gt) rm_q_wrong (.ref (base + b) :: As) w ov w' rm_q_wrong.cells rm_q_wrong.slots) (hkb : kb w b 9 = true) (hR : rm_q_wrong.frames + 1 ≤ R.frames ∧ 8 + (1 + 11) + rm_q_wrong.locals ≤ R.locals) (hf : cells + rm_q_wrong.cells ≤ R.cells ∧ slots + rm_q_wrong.slots ≤ R.slots) (hn : As.length = 0) (hsz : ls.size = nL) (hst : st0 = As.reverse ++ .ref (base + b) :: rest) (hcat : (rest.map fun v => v.category).sum ≤ 8) (hdg : decode cc pc = .ok (.invokevirtual 240, 3)) (kk : ∀ (H1 : Heap) (locs1 : List Loc), wo_S D cls cA base s w' H1 locs1 → W p l e R s m args below meth c H1 locs1 (cells + rm_q_wrong.cells) (slots + rm_q_wrong.slots) Q (F0 m (pc + 3) ls (ov.toList ++ rest))) : W p l e R s m args below meth c H locs cells slots Q (F0 m pc ls st0) :=
  wo_callV (C := Rc_q) hx hb hml hown hts hK hG hW hM hkb rfl (gt_of (i := 1440) (by decide +kernel) (by decide +kernel)) (gt_of (i := 1442) (by decide +kernel) (by decide +kernel)) (gt_sel (i := 65) (by decide +kernel) (by decide +kernel)) (gt_of (i := 10) (by decide +kernel) (by decide +kernel)) (gt_of (i := 1443) (by decide +kernel) (by decide +kernel)) (by decide +kernel) hR hf hn hsz hst hcat hdg kk
theorem cv_q_237 {p : Program} {l : Launch} {e : Env} {R : Room} {s : State} {m : MethodId} {args : Array Value} {below : List Frame} {meth : Method} {c : Code} {H : Heap} {locs : List Loc} {cells slots : Nat} {Q : State → Prop} {D : va_G} {cA : Nat → ClassId} {base : Nat} {w w' : WW} {cc : ByteArray} {pc nL : Nat} {ls : Array Slot} {rest st0 As : List Value} {ov : Option Value} {b : Nat} (hx : p.tables.exec = Jvm.exec) (hb : c.code = cc) (hml : c.maxLocals = nL) (hown : s.vm.findClass Rc_q = some m.cls) (hts : ∀ w ∈ gt, w.before args s = true) (hK : va_K D cls (wo_tys cA) s) (hG : wo_G cA base s) (hW : wo_S D cls cA base s w H locs) (hM : mt l D cls (wo_tys cA) cA base y_q_read (Cond.code y_q_read b_q_read 3 (none) :: gt) rm_q_read (.ref (base + b) :: As) w ov w' rm_q_read.cells rm_q_read.slots) (hkb : kb w b 9 = true) (hR : rm_q_read.frames + 1 ≤ R.frames ∧ 8 + (3 + 11) + rm_q_read.locals ≤ R.locals) (hf : cells + rm_q_read.cells ≤ R.cells ∧ slots + rm_q_read.slots ≤ R.slots) (hn : As.length = 0) (hsz : ls.size = nL) (hst : st0 = As.reverse ++ .ref (base + b) :: rest) (hcat : (rest.map fun v => v.category).sum ≤ 8) (hdg : decode cc pc = .ok (.invokevirtual 237, 3)) (kk : ∀ (H1 : Heap) (locs1 : List Loc), wo_S D cls cA base s w' H1 locs1 → W p l e R s m args below meth c H1 locs1 (cells + rm_q_read.cells) (slots + rm_q_read.slots) Q (F0 m (pc + 3) ls (ov.toList ++ rest))) : W p l e R s m args below meth c H locs cells slots Q (F0 m pc ls st0) :=
  wo_callV (C := Rc_q) hx hb hml hown hts hK hG hW hM hkb rfl (gt_of (i := 1390) (by decide +kernel) (by decide +kernel)) (gt_of (i := 1392) (by decide +kernel) (by decide +kernel)) (gt_sel (i := 59) (by decide +kernel) (by decide +kernel)) (gt_of (i := 10) (by decide +kernel) (by decide +kernel)) (gt_of (i := 1393) (by decide +kernel) (by decide +kernel)) (by decide +kernel) hR hf hn hsz hst hcat hdg kk
abbrev b_q_openBlock : ByteArray := prog_11_method_30_code
def y_q_openBlock : MethodName := ⟨"AlarmForgeModel", "openBlock", "(II)V"⟩
def rm_q_openBlock : Room := { frames := 4, cells := 0, slots := 0, locals := 94 }
theorem d_q_openBlock_0 : decode b_q_openBlock 0 = .ok (.aload_n 0, 1) := by decide +kernel
theorem d_q_openBlock_1 : decode b_q_openBlock 1 = .ok (.getfield 230, 3) := by decide +kernel
theorem d_q_openBlock_4 : decode b_q_openBlock 4 = .ok (.ifCond .eq (4), 3) := by decide +kernel
theorem d_q_openBlock_7 : decode b_q_openBlock 7 = .ok (.return_, 1) := by decide +kernel
theorem d_q_openBlock_8 : decode b_q_openBlock 8 = .ok (.aload_n 0, 1) := by decide +kernel
theorem d_q_openBlock_9 : decode b_q_openBlock 9 = .ok (.bipush (123), 2) := by decide +kernel
theorem d_q_openBlock_11 : decode b_q_openBlock 11 = .ok (.invokevirtual 234, 3) := by decide +kernel
theorem d_q_openBlock_14 : decode b_q_openBlock 14 = .ok (.ifCond .eq (11), 3) := by decide +kernel
theorem d_q_openBlock_17 : decode b_q_openBlock 17 = .ok (.aload_n 0, 1) := by decide +kernel
theorem d_q_openBlock_18 : decode b_q_openBlock 18 = .ok (.getfield 295, 3) := by decide +kernel
theorem d_q_openBlock_21 : decode b_q_openBlock 21 = .ok (.iconst 3, 1) := by decide +kernel
theorem d_q_openBlock_22 : decode b_q_openBlock 22 = .ok (.if_icmp .ne (8), 3) := by decide +kernel
theorem d_q_openBlock_25 : decode b_q_openBlock 25 = .ok (.aload_n 0, 1) := by decide +kernel
theorem d_q_openBlock_26 : decode b_q_openBlock 26 = .ok (.invokevirtual 240, 3) := by decide +kernel
theorem d_q_openBlock_29 : decode b_q_openBlock 29 = .ok (.return_, 1) := by decide +kernel
theorem d_q_openBlock_30 : decode b_q_openBlock 30 = .ok (.aload_n 0, 1) := by decide +kernel
theorem d_q_openBlock_31 : decode b_q_openBlock 31 = .ok (.invokevirtual 237, 3) := by decide +kernel
theorem d_q_openBlock_34 : decode b_q_openBlock 34 = .ok (.aload_n 0, 1) := by decide +kernel
theorem d_q_openBlock_35 : decode b_q_openBlock 35 = .ok (.dup, 1) := by decide +kernel
theorem d_q_openBlock_36 : decode b_q_openBlock 36 = .ok (.getfield 295, 3) := by decide +kernel
theorem d_q_openBlock_39 : decode b_q_openBlock 39 = .ok (.iconst 1, 1) := by decide +kernel
theorem d_q_openBlock_40 : decode b_q_openBlock 40 = .ok (.iadd, 1) := by decide +kernel
theorem d_q_openBlock_41 : decode b_q_openBlock 41 = .ok (.putfield 295, 3) := by decide +kernel
theorem d_q_openBlock_44 : decode b_q_openBlock 44 = .ok (.aload_n 0, 1) := by decide +kernel
theorem d_q_openBlock_45 : decode b_q_openBlock 45 = .ok (.getfield 81, 3) := by decide +kernel
theorem d_q_openBlock_48 : decode b_q_openBlock 48 = .ok (.aload_n 0, 1) := by decide +kernel
theorem d_q_openBlock_49 : decode b_q_openBlock 49 = .ok (.getfield 295, 3) := by decide +kernel
theorem d_q_openBlock_52 : decode b_q_openBlock 52 = .ok (.iload_n 1, 1) := by decide +kernel
theorem d_q_openBlock_53 : decode b_q_openBlock 53 = .ok (.iastore, 1) := by decide +kernel
theorem d_q_openBlock_54 : decode b_q_openBlock 54 = .ok (.aload_n 0, 1) := by decide +kernel
theorem d_q_openBlock_55 : decode b_q_openBlock 55 = .ok (.getfield 84, 3) := by decide +kernel
theorem d_q_openBlock_58 : decode b_q_openBlock 58 = .ok (.aload_n 0, 1) := by decide +kernel
theorem d_q_openBlock_59 : decode b_q_openBlock 59 = .ok (.getfield 295, 3) := by decide +kernel
theorem d_q_openBlock_62 : decode b_q_openBlock 62 = .ok (.iload_n 2, 1) := by decide +kernel
theorem d_q_openBlock_63 : decode b_q_openBlock 63 = .ok (.iastore, 1) := by decide +kernel
theorem d_q_openBlock_64 : decode b_q_openBlock 64 = .ok (.aload_n 0, 1) := by decide +kernel
theorem d_q_openBlock_65 : decode b_q_openBlock 65 = .ok (.getfield 87, 3) := by decide +kernel
theorem d_q_openBlock_68 : decode b_q_openBlock 68 = .ok (.aload_n 0, 1) := by decide +kernel
theorem d_q_openBlock_69 : decode b_q_openBlock 69 = .ok (.getfield 295, 3) := by decide +kernel
theorem d_q_openBlock_72 : decode b_q_openBlock 72 = .ok (.iconst (-1), 1) := by decide +kernel
theorem d_q_openBlock_73 : decode b_q_openBlock 73 = .ok (.iastore, 1) := by decide +kernel
theorem d_q_openBlock_74 : decode b_q_openBlock 74 = .ok (.iload_n 2, 1) := by decide +kernel
theorem d_q_openBlock_75 : decode b_q_openBlock 75 = .ok (.ifCond .ne (13), 3) := by decide +kernel
theorem d_q_openBlock_78 : decode b_q_openBlock 78 = .ok (.aload_n 0, 1) := by decide +kernel
theorem d_q_openBlock_79 : decode b_q_openBlock 79 = .ok (.getfield 50, 3) := by decide +kernel
theorem d_q_openBlock_82 : decode b_q_openBlock 82 = .ok (.iload_n 1, 1) := by decide +kernel
theorem d_q_openBlock_83 : decode b_q_openBlock 83 = .ok (.iconst (-1), 1) := by decide +kernel
theorem d_q_openBlock_84 : decode b_q_openBlock 84 = .ok (.iastore, 1) := by decide +kernel
theorem d_q_openBlock_85 : decode b_q_openBlock 85 = .ok (.goto (10), 3) := by decide +kernel
theorem d_q_openBlock_88 : decode b_q_openBlock 88 = .ok (.aload_n 0, 1) := by decide +kernel
theorem d_q_openBlock_89 : decode b_q_openBlock 89 = .ok (.getfield 53, 3) := by decide +kernel
theorem d_q_openBlock_92 : decode b_q_openBlock 92 = .ok (.iload_n 1, 1) := by decide +kernel
theorem d_q_openBlock_93 : decode b_q_openBlock 93 = .ok (.iconst (-1), 1) := by decide +kernel
theorem d_q_openBlock_94 : decode b_q_openBlock 94 = .ok (.iastore, 1) := by decide +kernel
theorem d_q_openBlock_95 : decode b_q_openBlock 95 = .ok (.return_, 1) := by decide +kernel
theorem kb_q_openBlock {a0 : Nat} {a1 : Int32} {a2 : Int32} {w : WW} {r : WW} (h : f_q_openBlock a0 a1 a2 w = some r) : kb w a0 9 = true := (its h).1
set_option maxHeartbeats 4000000 in
set_option maxRecDepth 100000 in
theorem j_q_openBlock_25 {p : Program} {l : Launch} {e : Env} {s : State} {m : MethodId} {args : Array Value} {below : List Frame} {meth : Method} {c : Code} {D : va_G} {cA : Nat → ClassId} {base : Nat} {w' : WW} (C : cx b_q_openBlock (none) 3 y_q_openBlock.cls "openBlock" p s m args meth c D cA base)   : ∀ (y0 : Nat) (w : WW), f_q_openBlock_25 y0 w = some w' → ∀ (H : Heap) (locs : List Loc) (ls : Array Slot), wo_S D cls cA base s w H locs → lv_has ls 3 [(0, .ref (base + y0))] → W p l e rm_q_openBlock s m args below meth c H locs 0 0 (MQ below (wo_Q D cls cA base none w') args s rm_q_openBlock.cells rm_q_openBlock.slots (wo_B base)) (F0 m 25 ls []) := by
  obtain ⟨hx, hb, hr, hml, hown, hts, hlk, hnm, hK, hG⟩ := id C
  intro y0 w h H locs ls hW hl
  unfold f_q_openBlock_25 at h
  refine lv_aload_n hx hb d_q_openBlock_25 rfl (lv_at hl 0 rfl) ?_
  replace h := bs h
  obtain ⟨w6, hw6, h⟩ := h
  refine cv_q_240 (As := []) (rest := []) hx hb hml hown hts hK hG hW (c_q_wrong l D cA base hw6) (kb_q_wrong hw6) ⟨Nat.le_of_ble_eq_true rfl, Nat.le_of_ble_eq_true rfl⟩ ⟨Nat.le_of_ble_eq_true rfl, Nat.le_of_ble_eq_true rfl⟩ rfl hl.1 rfl (Nat.le_of_ble_eq_true rfl) d_q_openBlock_26 (fun H locs hW => ?_)
  cases h
  exact wo_vret hx hb hr hlk hW d_q_openBlock_29
set_option maxHeartbeats 4000000 in
set_option maxRecDepth 100000 in
theorem j_q_openBlock_95 {p : Program} {l : Launch} {e : Env} {s : State} {m : MethodId} {args : Array Value} {below : List Frame} {meth : Method} {c : Code} {D : va_G} {cA : Nat → ClassId} {base : Nat} {w' : WW} (C : cx b_q_openBlock (none) 3 y_q_openBlock.cls "openBlock" p s m args meth c D cA base)   : ∀  (w : WW), f_q_openBlock_95  w = some w' → ∀ (H : Heap) (locs : List Loc) (ls : Array Slot), wo_S D cls cA base s w H locs → lv_has ls 3 [] → W p l e rm_q_openBlock s m args below meth c H locs 0 0 (MQ below (wo_Q D cls cA base none w') args s rm_q_openBlock.cells rm_q_openBlock.slots (wo_B base)) (F0 m 95 ls []) := by
  obtain ⟨hx, hb, hr, hml, hown, hts, hlk, hnm, hK, hG⟩ := id C
  intro  w h H locs ls hW hl
  unfold f_q_openBlock_95 at h
  cases h
  exact wo_vret hx hb hr hlk hW d_q_openBlock_95
set_option maxHeartbeats 4000000 in
set_option maxRecDepth 100000 in
theorem c_q_openBlock (l : Launch) (D : va_G) (cA : Nat → ClassId) (base : Nat) {a0 : Nat} {a1 : Int32} {a2 : Int32} {w w' : WW} (h : f_q_openBlock a0 a1 a2 w = some w') : mt l D cls (wo_tys cA) cA base y_q_openBlock (Cond.code y_q_openBlock b_q_openBlock 3 (none) :: gt) rm_q_openBlock [.ref (base + a0), .int a1, .int a2] w none w' rm_q_openBlock.cells rm_q_openBlock.slots := by
  refine mt_start (by decide) (Nat.le_of_ble_eq_true rfl) ?_
  intro p e s m below meth c ls hx hb hr hml hown hts hlk hnm hK hG hW hl
  have C : cx b_q_openBlock (none) 3 y_q_openBlock.cls "openBlock" p s m [.ref (base + a0), .int a1, .int a2].toArray meth c D cA base := ⟨hx, hb, hr, hml, hown, hts, hlk, hnm, hK, hG⟩
  have hl : lv_has ls 3 [(0, .ref (base + a0)), (1, .int a1), (2, .int a2)] := hl
  unfold f_q_openBlock at h
  replace h := its h
  obtain ⟨-, h⟩ := h
  refine lv_aload_n hx hb d_q_openBlock_0 rfl (lv_at hl 0 rfl) ?_
  replace h := bs h
  obtain ⟨x1, hx1, h⟩ := h
  refine gf_q_230 hx hb hts hown hK hG hW (gI_s hx1) d_q_openBlock_1 ?_
  refine lv_if_eq (tgt := 8) hx hb d_q_openBlock_4 (by decide) (fun c2 => ?_) (fun c2 => ?_)
  · rw [if_pos c2] at h
    refine lv_aload_n hx hb d_q_openBlock_8 rfl (lv_at hl 0 rfl) ?_
    refine lv_bipush (v := (123 : Int32)) hx hb d_q_openBlock_9 (by decide) ?_
    replace h := bs2 h
    obtain ⟨x4, w3, hw3, h⟩ := h
    refine cv_q_234 (As := [.int (123 : Int32)]) (rest := []) hx hb hml hown hts hK hG hW (c_q_is l D cA base hw3) (kb_q_is hw3) ⟨Nat.le_of_ble_eq_true rfl, Nat.le_of_ble_eq_true rfl⟩ ⟨Nat.le_of_ble_eq_true rfl, Nat.le_of_ble_eq_true rfl⟩ rfl hl.1 rfl (Nat.le_of_ble_eq_true rfl) d_q_openBlock_11 (fun H locs hW => ?_)
    refine lv_if_eq (tgt := 25) hx hb d_q_openBlock_14 (by decide) (fun c5 => ?_) (fun c5 => ?_)
    · rw [if_pos c5] at h
      exact j_q_openBlock_25 C a0 w3 h _ _ _ hW (lv_sub hl [0] rfl)
    · rw [if_neg c5] at h
      refine lv_aload_n hx hb d_q_openBlock_17 rfl (lv_at hl 0 rfl) ?_
      replace h := bs h
      obtain ⟨x7, hx7, h⟩ := h
      refine gf_q_295 hx hb hts hown hK hG hW (gI_s hx7) d_q_openBlock_18 ?_
      refine lv_iconst (v := (3 : Int32)) hx hb d_q_openBlock_21 (by decide) ?_
      refine lv_icmp_ne (tgt := 30) hx hb d_q_openBlock_22 (by decide) (fun c8 => ?_) (fun c8 => ?_)
      · rw [if_neg c8] at h
        refine lv_aload_n hx hb d_q_openBlock_30 rfl (lv_at hl 0 rfl) ?_
        replace h := bs h
        obtain ⟨w9, hw9, h⟩ := h
        refine cv_q_237 (As := []) (rest := []) hx hb hml hown hts hK hG hW (c_q_read l D cA base hw9) (kb_q_read hw9) ⟨Nat.le_of_ble_eq_true rfl, Nat.le_of_ble_eq_true rfl⟩ ⟨Nat.le_of_ble_eq_true rfl, Nat.le_of_ble_eq_true rfl⟩ rfl hl.1 rfl (Nat.le_of_ble_eq_true rfl) d_q_openBlock_31 (fun H locs hW => ?_)
        refine lv_aload_n hx hb d_q_openBlock_34 rfl (lv_at hl 0 rfl) ?_
        refine lv_dup hx hb d_q_openBlock_35 rfl ?_
        replace h := bs h
        obtain ⟨x10, hx10, h⟩ := h
        refine gf_q_295 hx hb hts hown hK hG hW (gI_s hx10) d_q_openBlock_36 ?_
        refine lv_iconst (v := (1 : Int32)) hx hb d_q_openBlock_39 (by decide) ?_
        refine lv_iadd hx hb d_q_openBlock_40 ?_
        replace h := bs h
        obtain ⟨w11, hw11, h⟩ := h
        refine pf_q_295 hx hb hts hown hK hG hW rfl rfl (pbi hw11 rfl) d_q_openBlock_41 (fun H locs hW => ?_)
        refine lv_aload_n hx hb d_q_openBlock_44 rfl (lv_at hl 0 rfl) ?_
        replace h := bs h
        obtain ⟨x12, hx12, h⟩ := h
        refine gf_q_81 hx hb hts hown hK hG hW (gN_s hx12) d_q_openBlock_45 ?_
        refine lv_aload_n hx hb d_q_openBlock_48 rfl (lv_at hl 0 rfl) ?_
        replace h := bs h
        obtain ⟨x13, hx13, h⟩ := h
        refine gf_q_295 hx hb hts hown hK hG hW (gI_s hx13) d_q_openBlock_49 ?_
        refine lv_iload_n hx hb d_q_openBlock_52 rfl (lv_at hl 1 rfl) ?_
        replace h := bs h
        obtain ⟨w14, hw14, h⟩ := h
        refine wo_iast hx hb hK hW (t := 0) rfl hw14 d_q_openBlock_53 (fun H locs hW => ?_)
        refine lv_aload_n hx hb d_q_openBlock_54 rfl (lv_at hl 0 rfl) ?_
        replace h := bs h
        obtain ⟨x15, hx15, h⟩ := h
        refine gf_q_84 hx hb hts hown hK hG hW (gN_s hx15) d_q_openBlock_55 ?_
        refine lv_aload_n hx hb d_q_openBlock_58 rfl (lv_at hl 0 rfl) ?_
        replace h := bs h
        obtain ⟨x16, hx16, h⟩ := h
        refine gf_q_295 hx hb hts hown hK hG hW (gI_s hx16) d_q_openBlock_59 ?_
        refine lv_iload_n hx hb d_q_openBlock_62 rfl (lv_at hl 2 rfl) ?_
        replace h := bs h
        obtain ⟨w17, hw17, h⟩ := h
        refine wo_iast hx hb hK hW (t := 0) rfl hw17 d_q_openBlock_63 (fun H locs hW => ?_)
        refine lv_aload_n hx hb d_q_openBlock_64 rfl (lv_at hl 0 rfl) ?_
        replace h := bs h
        obtain ⟨x18, hx18, h⟩ := h
        refine gf_q_87 hx hb hts hown hK hG hW (gN_s hx18) d_q_openBlock_65 ?_
        refine lv_aload_n hx hb d_q_openBlock_68 rfl (lv_at hl 0 rfl) ?_
        replace h := bs h
        obtain ⟨x19, hx19, h⟩ := h
        refine gf_q_295 hx hb hts hown hK hG hW (gI_s hx19) d_q_openBlock_69 ?_
        refine lv_iconst (v := (-1 : Int32)) hx hb d_q_openBlock_72 (by decide) ?_
        replace h := bs h
        obtain ⟨w20, hw20, h⟩ := h
        refine wo_iast hx hb hK hW (t := 0) rfl hw20 d_q_openBlock_73 (fun H locs hW => ?_)
        refine lv_iload_n hx hb d_q_openBlock_74 rfl (lv_at hl 2 rfl) ?_
        refine lv_if_ne (tgt := 88) hx hb d_q_openBlock_75 (by decide) (fun c21 => ?_) (fun c21 => ?_)
        · rw [if_neg c21] at h
          refine lv_aload_n hx hb d_q_openBlock_88 rfl (lv_at hl 0 rfl) ?_
          replace h := bs h
          obtain ⟨x22, hx22, h⟩ := h
          refine gf_q_53 hx hb hts hown hK hG hW (gN_s hx22) d_q_openBlock_89 ?_
          refine lv_iload_n hx hb d_q_openBlock_92 rfl (lv_at hl 1 rfl) ?_
          refine lv_iconst (v := (-1 : Int32)) hx hb d_q_openBlock_93 (by decide) ?_
          replace h := bs h
          obtain ⟨w23, hw23, h⟩ := h
          refine wo_iast hx hb hK hW (t := 0) rfl hw23 d_q_openBlock_94 (fun H locs hW => ?_)
          exact j_q_openBlock_95 C w23 h _ _ _ hW (lv_sub hl [] rfl)
        · rw [if_pos c21] at h
          refine lv_aload_n hx hb d_q_openBlock_78 rfl (lv_at hl 0 rfl) ?_
          replace h := bs h
          obtain ⟨x24, hx24, h⟩ := h
          refine gf_q_50 hx hb hts hown hK hG hW (gN_s hx24) d_q_openBlock_79 ?_
          refine lv_iload_n hx hb d_q_openBlock_82 rfl (lv_at hl 1 rfl) ?_
          refine lv_iconst (v := (-1 : Int32)) hx hb d_q_openBlock_83 (by decide) ?_
          replace h := bs h
          obtain ⟨w25, hw25, h⟩ := h
          refine wo_iast hx hb hK hW (t := 0) rfl hw25 d_q_openBlock_84 (fun H locs hW => ?_)
          refine lv_goto (tgt := 95) hx hb d_q_openBlock_85 (by decide) ?_
          exact j_q_openBlock_95 C w25 h _ _ _ hW (lv_sub hl [] rfl)
      · rw [if_pos c8] at h
        exact j_q_openBlock_25 C a0 w3 h _ _ _ hW (lv_sub hl [0] rfl)
  · rw [if_neg c2] at h
    cases h
    exact wo_vret hx hb hr hlk hW d_q_openBlock_7
theorem cv_q_304 {p : Program} {l : Launch} {e : Env} {R : Room} {s : State} {m : MethodId} {args : Array Value} {below : List Frame} {meth : Method} {c : Code} {H : Heap} {locs : List Loc} {cells slots : Nat} {Q : State → Prop} {D : va_G} {cA : Nat → ClassId} {base : Nat} {w w' : WW} {cc : ByteArray} {pc nL : Nat} {ls : Array Slot} {rest st0 As : List Value} {ov : Option Value} {b : Nat} (hx : p.tables.exec = Jvm.exec) (hb : c.code = cc) (hml : c.maxLocals = nL) (hown : s.vm.findClass Rc_q = some m.cls) (hts : ∀ w ∈ gt, w.before args s = true) (hK : va_K D cls (wo_tys cA) s) (hG : wo_G cA base s) (hW : wo_S D cls cA base s w H locs) (hM : mt l D cls (wo_tys cA) cA base y_q_openBlock (Cond.code y_q_openBlock b_q_openBlock 3 (none) :: gt) rm_q_openBlock (.ref (base + b) :: As) w ov w' rm_q_openBlock.cells rm_q_openBlock.slots) (hkb : kb w b 9 = true) (hR : rm_q_openBlock.frames + 1 ≤ R.frames ∧ 8 + (3 + 11) + rm_q_openBlock.locals ≤ R.locals) (hf : cells + rm_q_openBlock.cells ≤ R.cells ∧ slots + rm_q_openBlock.slots ≤ R.slots) (hn : As.length = 2) (hsz : ls.size = nL) (hst : st0 = As.reverse ++ .ref (base + b) :: rest) (hcat : (rest.map fun v => v.category).sum ≤ 8) (hdg : decode cc pc = .ok (.invokevirtual 304, 3)) (kk : ∀ (H1 : Heap) (locs1 : List Loc), wo_S D cls cA base s w' H1 locs1 → W p l e R s m args below meth c H1 locs1 (cells + rm_q_openBlock.cells) (slots + rm_q_openBlock.slots) Q (F0 m (pc + 3) ls (ov.toList ++ rest))) : W p l e R s m args below meth c H locs cells slots Q (F0 m pc ls st0) :=
  wo_callV (C := Rc_q) hx hb hml hown hts hK hG hW hM hkb rfl (gt_of (i := 1444) (by decide +kernel) (by decide +kernel)) (gt_of (i := 1446) (by decide +kernel) (by decide +kernel)) (gt_sel (i := 66) (by decide +kernel) (by decide +kernel)) (gt_of (i := 10) (by decide +kernel) (by decide +kernel)) (gt_of (i := 1447) (by decide +kernel) (by decide +kernel)) (by decide +kernel) hR hf hn hsz hst hcat hdg kk
abbrev b_q_endBlock : ByteArray := prog_11_method_35_code
def y_q_endBlock : MethodName := ⟨"AlarmForgeModel", "endBlock", "()V"⟩
def rm_q_endBlock : Room := { frames := 5, cells := 0, slots := 0, locals := 116 }
theorem d_q_endBlock_0 : decode b_q_endBlock 0 = .ok (.aload_n 0, 1) := by decide +kernel
theorem d_q_endBlock_1 : decode b_q_endBlock 1 = .ok (.getfield 81, 3) := by decide +kernel
theorem d_q_endBlock_4 : decode b_q_endBlock 4 = .ok (.aload_n 0, 1) := by decide +kernel
theorem d_q_endBlock_5 : decode b_q_endBlock 5 = .ok (.getfield 295, 3) := by decide +kernel
theorem d_q_endBlock_8 : decode b_q_endBlock 8 = .ok (.iaload, 1) := by decide +kernel
theorem d_q_endBlock_9 : decode b_q_endBlock 9 = .ok (.istore_n 1, 1) := by decide +kernel
theorem d_q_endBlock_10 : decode b_q_endBlock 10 = .ok (.aload_n 0, 1) := by decide +kernel
theorem d_q_endBlock_11 : decode b_q_endBlock 11 = .ok (.getfield 84, 3) := by decide +kernel
theorem d_q_endBlock_14 : decode b_q_endBlock 14 = .ok (.aload_n 0, 1) := by decide +kernel
theorem d_q_endBlock_15 : decode b_q_endBlock 15 = .ok (.getfield 295, 3) := by decide +kernel
theorem d_q_endBlock_18 : decode b_q_endBlock 18 = .ok (.iaload, 1) := by decide +kernel
theorem d_q_endBlock_19 : decode b_q_endBlock 19 = .ok (.istore_n 2, 1) := by decide +kernel
theorem d_q_endBlock_20 : decode b_q_endBlock 20 = .ok (.aload_n 0, 1) := by decide +kernel
theorem d_q_endBlock_21 : decode b_q_endBlock 21 = .ok (.getfield 295, 3) := by decide +kernel
theorem d_q_endBlock_24 : decode b_q_endBlock 24 = .ok (.ifCond .ne (8), 3) := by decide +kernel
theorem d_q_endBlock_27 : decode b_q_endBlock 27 = .ok (.aload_n 0, 1) := by decide +kernel
theorem d_q_endBlock_28 : decode b_q_endBlock 28 = .ok (.invokevirtual 240, 3) := by decide +kernel
theorem d_q_endBlock_31 : decode b_q_endBlock 31 = .ok (.return_, 1) := by decide +kernel
theorem d_q_endBlock_32 : decode b_q_endBlock 32 = .ok (.aload_n 0, 1) := by decide +kernel
theorem d_q_endBlock_33 : decode b_q_endBlock 33 = .ok (.dup, 1) := by decide +kernel
theorem d_q_endBlock_34 : decode b_q_endBlock 34 = .ok (.getfield 295, 3) := by decide +kernel
theorem d_q_endBlock_37 : decode b_q_endBlock 37 = .ok (.iconst 1, 1) := by decide +kernel
theorem d_q_endBlock_38 : decode b_q_endBlock 38 = .ok (.isub, 1) := by decide +kernel
theorem d_q_endBlock_39 : decode b_q_endBlock 39 = .ok (.putfield 295, 3) := by decide +kernel
theorem d_q_endBlock_42 : decode b_q_endBlock 42 = .ok (.aload_n 0, 1) := by decide +kernel
theorem d_q_endBlock_43 : decode b_q_endBlock 43 = .ok (.invokevirtual 237, 3) := by decide +kernel
theorem d_q_endBlock_46 : decode b_q_endBlock 46 = .ok (.aload_n 0, 1) := by decide +kernel
theorem d_q_endBlock_47 : decode b_q_endBlock 47 = .ok (.getfield 26, 3) := by decide +kernel
theorem d_q_endBlock_50 : decode b_q_endBlock 50 = .ok (.iload_n 1, 1) := by decide +kernel
theorem d_q_endBlock_51 : decode b_q_endBlock 51 = .ok (.iaload, 1) := by decide +kernel
theorem d_q_endBlock_52 : decode b_q_endBlock 52 = .ok (.iconst 3, 1) := by decide +kernel
theorem d_q_endBlock_53 : decode b_q_endBlock 53 = .ok (.if_icmp .ne (40), 3) := by decide +kernel
theorem d_q_endBlock_56 : decode b_q_endBlock 56 = .ok (.iload_n 2, 1) := by decide +kernel
theorem d_q_endBlock_57 : decode b_q_endBlock 57 = .ok (.ifCond .ne (36), 3) := by decide +kernel
theorem d_q_endBlock_60 : decode b_q_endBlock 60 = .ok (.aload_n 0, 1) := by decide +kernel
theorem d_q_endBlock_61 : decode b_q_endBlock 61 = .ok (.getfield 195, 3) := by decide +kernel
theorem d_q_endBlock_64 : decode b_q_endBlock 64 = .ok (.iconst 4, 1) := by decide +kernel
theorem d_q_endBlock_65 : decode b_q_endBlock 65 = .ok (.if_icmp .ne (28), 3) := by decide +kernel
theorem d_q_endBlock_68 : decode b_q_endBlock 68 = .ok (.aload_n 0, 1) := by decide +kernel
theorem d_q_endBlock_69 : decode b_q_endBlock 69 = .ok (.getfield 198, 3) := by decide +kernel
theorem d_q_endBlock_72 : decode b_q_endBlock 72 = .ok (.iconst 1, 1) := by decide +kernel
theorem d_q_endBlock_73 : decode b_q_endBlock 73 = .ok (.if_icmp .ne (20), 3) := by decide +kernel
theorem d_q_endBlock_76 : decode b_q_endBlock 76 = .ok (.aload_n 0, 1) := by decide +kernel
theorem d_q_endBlock_77 : decode b_q_endBlock 77 = .ok (.invokevirtual 237, 3) := by decide +kernel
theorem d_q_endBlock_80 : decode b_q_endBlock 80 = .ok (.aload_n 0, 1) := by decide +kernel
theorem d_q_endBlock_81 : decode b_q_endBlock 81 = .ok (.getfield 59, 3) := by decide +kernel
theorem d_q_endBlock_84 : decode b_q_endBlock 84 = .ok (.iload_n 1, 1) := by decide +kernel
theorem d_q_endBlock_85 : decode b_q_endBlock 85 = .ok (.iconst 1, 1) := by decide +kernel
theorem d_q_endBlock_86 : decode b_q_endBlock 86 = .ok (.bastore, 1) := by decide +kernel
theorem d_q_endBlock_87 : decode b_q_endBlock 87 = .ok (.aload_n 0, 1) := by decide +kernel
theorem d_q_endBlock_88 : decode b_q_endBlock 88 = .ok (.iload_n 1, 1) := by decide +kernel
theorem d_q_endBlock_89 : decode b_q_endBlock 89 = .ok (.iconst 1, 1) := by decide +kernel
theorem d_q_endBlock_90 : decode b_q_endBlock 90 = .ok (.invokevirtual 304, 3) := by decide +kernel
theorem d_q_endBlock_93 : decode b_q_endBlock 93 = .ok (.return_, 1) := by decide +kernel
theorem kb_q_endBlock {a0 : Nat}  {w : WW} {r : WW} (h : f_q_endBlock a0 w = some r) : kb w a0 9 = true := (its h).1
set_option maxHeartbeats 4000000 in
set_option maxRecDepth 100000 in
theorem j_q_endBlock_93 {p : Program} {l : Launch} {e : Env} {s : State} {m : MethodId} {args : Array Value} {below : List Frame} {meth : Method} {c : Code} {D : va_G} {cA : Nat → ClassId} {base : Nat} {w' : WW} (C : cx b_q_endBlock (none) 3 y_q_endBlock.cls "endBlock" p s m args meth c D cA base)   : ∀  (w : WW), f_q_endBlock_93  w = some w' → ∀ (H : Heap) (locs : List Loc) (ls : Array Slot), wo_S D cls cA base s w H locs → lv_has ls 3 [] → W p l e rm_q_endBlock s m args below meth c H locs 0 0 (MQ below (wo_Q D cls cA base none w') args s rm_q_endBlock.cells rm_q_endBlock.slots (wo_B base)) (F0 m 93 ls []) := by
  obtain ⟨hx, hb, hr, hml, hown, hts, hlk, hnm, hK, hG⟩ := id C
  intro  w h H locs ls hW hl
  unfold f_q_endBlock_93 at h
  cases h
  exact wo_vret hx hb hr hlk hW d_q_endBlock_93
set_option maxHeartbeats 4000000 in
set_option maxRecDepth 100000 in
theorem c_q_endBlock (l : Launch) (D : va_G) (cA : Nat → ClassId) (base : Nat) {a0 : Nat} {w w' : WW} (h : f_q_endBlock a0 w = some w') : mt l D cls (wo_tys cA) cA base y_q_endBlock (Cond.code y_q_endBlock b_q_endBlock 3 (none) :: gt) rm_q_endBlock [.ref (base + a0)] w none w' rm_q_endBlock.cells rm_q_endBlock.slots := by
  refine mt_start (by decide) (Nat.le_of_ble_eq_true rfl) ?_
  intro p e s m below meth c ls hx hb hr hml hown hts hlk hnm hK hG hW hl
  have C : cx b_q_endBlock (none) 3 y_q_endBlock.cls "endBlock" p s m [.ref (base + a0)].toArray meth c D cA base := ⟨hx, hb, hr, hml, hown, hts, hlk, hnm, hK, hG⟩
  have hl : lv_has ls 3 [(0, .ref (base + a0))] := hl
  unfold f_q_endBlock at h
  replace h := its h
  obtain ⟨-, h⟩ := h
  refine lv_aload_n hx hb d_q_endBlock_0 rfl (lv_at hl 0 rfl) ?_
  replace h := bs h
  obtain ⟨x1, hx1, h⟩ := h
  refine gf_q_81 hx hb hts hown hK hG hW (gN_s hx1) d_q_endBlock_1 ?_
  refine lv_aload_n hx hb d_q_endBlock_4 rfl (lv_at hl 0 rfl) ?_
  replace h := bs h
  obtain ⟨x2, hx2, h⟩ := h
  refine gf_q_295 hx hb hts hown hK hG hW (gI_s hx2) d_q_endBlock_5 ?_
  replace h := bs h
  obtain ⟨x3, hx3, h⟩ := h
  refine wo_iald hx hb hK hW (t := 0) rfl hx3 d_q_endBlock_8 ?_
  refine lv_istore_n (lv' := [(1, .int x3), (0, .ref (base + a0))]) hx hb d_q_endBlock_9 rfl hl (by decide) rfl (fun ls hl => ?_)
  refine lv_aload_n hx hb d_q_endBlock_10 rfl (lv_at hl 1 rfl) ?_
  replace h := bs h
  obtain ⟨x4, hx4, h⟩ := h
  refine gf_q_84 hx hb hts hown hK hG hW (gN_s hx4) d_q_endBlock_11 ?_
  refine lv_aload_n hx hb d_q_endBlock_14 rfl (lv_at hl 1 rfl) ?_
  replace h := bs h
  obtain ⟨x5, hx5, h⟩ := h
  refine gf_q_295 hx hb hts hown hK hG hW (gI_s hx5) d_q_endBlock_15 ?_
  replace h := bs h
  obtain ⟨x6, hx6, h⟩ := h
  refine wo_iald hx hb hK hW (t := 0) rfl hx6 d_q_endBlock_18 ?_
  refine lv_istore_n (lv' := [(2, .int x6), (1, .int x3), (0, .ref (base + a0))]) hx hb d_q_endBlock_19 rfl hl (by decide) rfl (fun ls hl => ?_)
  refine lv_aload_n hx hb d_q_endBlock_20 rfl (lv_at hl 2 rfl) ?_
  replace h := bs h
  obtain ⟨x7, hx7, h⟩ := h
  refine gf_q_295 hx hb hts hown hK hG hW (gI_s hx7) d_q_endBlock_21 ?_
  refine lv_if_ne (tgt := 32) hx hb d_q_endBlock_24 (by decide) (fun c8 => ?_) (fun c8 => ?_)
  · rw [if_neg c8] at h
    refine lv_aload_n hx hb d_q_endBlock_32 rfl (lv_at hl 2 rfl) ?_
    refine lv_dup hx hb d_q_endBlock_33 rfl ?_
    replace h := bs h
    obtain ⟨x9, hx9, h⟩ := h
    refine gf_q_295 hx hb hts hown hK hG hW (gI_s hx9) d_q_endBlock_34 ?_
    refine lv_iconst (v := (1 : Int32)) hx hb d_q_endBlock_37 (by decide) ?_
    refine lv_isub hx hb d_q_endBlock_38 ?_
    replace h := bs h
    obtain ⟨w10, hw10, h⟩ := h
    refine pf_q_295 hx hb hts hown hK hG hW rfl rfl (pbi hw10 rfl) d_q_endBlock_39 (fun H locs hW => ?_)
    refine lv_aload_n hx hb d_q_endBlock_42 rfl (lv_at hl 2 rfl) ?_
    replace h := bs h
    obtain ⟨w11, hw11, h⟩ := h
    refine cv_q_237 (As := []) (rest := []) hx hb hml hown hts hK hG hW (c_q_read l D cA base hw11) (kb_q_read hw11) ⟨Nat.le_of_ble_eq_true rfl, Nat.le_of_ble_eq_true rfl⟩ ⟨Nat.le_of_ble_eq_true rfl, Nat.le_of_ble_eq_true rfl⟩ rfl hl.1 rfl (Nat.le_of_ble_eq_true rfl) d_q_endBlock_43 (fun H locs hW => ?_)
    refine lv_aload_n hx hb d_q_endBlock_46 rfl (lv_at hl 2 rfl) ?_
    replace h := bs h
    obtain ⟨x12, hx12, h⟩ := h
    refine gf_q_26 hx hb hts hown hK hG hW (gN_s hx12) d_q_endBlock_47 ?_
    refine lv_iload_n hx hb d_q_endBlock_50 rfl (lv_at hl 1 rfl) ?_
    replace h := bs h
    obtain ⟨x13, hx13, h⟩ := h
    refine wo_iald hx hb hK hW (t := 0) rfl hx13 d_q_endBlock_51 ?_
    refine lv_iconst (v := (3 : Int32)) hx hb d_q_endBlock_52 (by decide) ?_
    refine lv_icmp_ne (tgt := 93) hx hb d_q_endBlock_53 (by decide) (fun c14 => ?_) (fun c14 => ?_)
    · rw [if_neg c14] at h
      exact j_q_endBlock_93 C w11 h _ _ _ hW (lv_sub hl [] rfl)
    · rw [if_pos c14] at h
      refine lv_iload_n hx hb d_q_endBlock_56 rfl (lv_at hl 0 rfl) ?_
      refine lv_if_ne (tgt := 93) hx hb d_q_endBlock_57 (by decide) (fun c15 => ?_) (fun c15 => ?_)
      · rw [if_neg c15] at h
        exact j_q_endBlock_93 C w11 h _ _ _ hW (lv_sub hl [] rfl)
      · rw [if_pos c15] at h
        refine lv_aload_n hx hb d_q_endBlock_60 rfl (lv_at hl 2 rfl) ?_
        replace h := bs h
        obtain ⟨x16, hx16, h⟩ := h
        refine gf_q_195 hx hb hts hown hK hG hW (gI_s hx16) d_q_endBlock_61 ?_
        refine lv_iconst (v := (4 : Int32)) hx hb d_q_endBlock_64 (by decide) ?_
        refine lv_icmp_ne (tgt := 93) hx hb d_q_endBlock_65 (by decide) (fun c17 => ?_) (fun c17 => ?_)
        · rw [if_neg c17] at h
          exact j_q_endBlock_93 C w11 h _ _ _ hW (lv_sub hl [] rfl)
        · rw [if_pos c17] at h
          refine lv_aload_n hx hb d_q_endBlock_68 rfl (lv_at hl 2 rfl) ?_
          replace h := bs h
          obtain ⟨x18, hx18, h⟩ := h
          refine gf_q_198 hx hb hts hown hK hG hW (gI_s hx18) d_q_endBlock_69 ?_
          refine lv_iconst (v := (1 : Int32)) hx hb d_q_endBlock_72 (by decide) ?_
          refine lv_icmp_ne (tgt := 93) hx hb d_q_endBlock_73 (by decide) (fun c19 => ?_) (fun c19 => ?_)
          · rw [if_neg c19] at h
            exact j_q_endBlock_93 C w11 h _ _ _ hW (lv_sub hl [] rfl)
          · rw [if_pos c19] at h
            refine lv_aload_n hx hb d_q_endBlock_76 rfl (lv_at hl 2 rfl) ?_
            replace h := bs h
            obtain ⟨w20, hw20, h⟩ := h
            refine cv_q_237 (As := []) (rest := []) hx hb hml hown hts hK hG hW (c_q_read l D cA base hw20) (kb_q_read hw20) ⟨Nat.le_of_ble_eq_true rfl, Nat.le_of_ble_eq_true rfl⟩ ⟨Nat.le_of_ble_eq_true rfl, Nat.le_of_ble_eq_true rfl⟩ rfl hl.1 rfl (Nat.le_of_ble_eq_true rfl) d_q_endBlock_77 (fun H locs hW => ?_)
            refine lv_aload_n hx hb d_q_endBlock_80 rfl (lv_at hl 2 rfl) ?_
            replace h := bs h
            obtain ⟨x21, hx21, h⟩ := h
            refine gf_q_59 hx hb hts hown hK hG hW (gN_s hx21) d_q_endBlock_81 ?_
            refine lv_iload_n hx hb d_q_endBlock_84 rfl (lv_at hl 1 rfl) ?_
            refine lv_iconst (v := (1 : Int32)) hx hb d_q_endBlock_85 (by decide) ?_
            replace h := bs h
            obtain ⟨w22, hw22, h⟩ := h
            refine wo_zast hx hb hK hW (t := 2) rfl hw22 d_q_endBlock_86 (fun H locs hW => ?_)
            refine lv_aload_n hx hb d_q_endBlock_87 rfl (lv_at hl 2 rfl) ?_
            refine lv_iload_n hx hb d_q_endBlock_88 rfl (lv_at hl 1 rfl) ?_
            refine lv_iconst (v := (1 : Int32)) hx hb d_q_endBlock_89 (by decide) ?_
            replace h := bs h
            obtain ⟨w23, hw23, h⟩ := h
            refine cv_q_304 (As := [.int x3, .int (1 : Int32)]) (rest := []) hx hb hml hown hts hK hG hW (c_q_openBlock l D cA base hw23) (kb_q_openBlock hw23) ⟨Nat.le_of_ble_eq_true rfl, Nat.le_of_ble_eq_true rfl⟩ ⟨Nat.le_of_ble_eq_true rfl, Nat.le_of_ble_eq_true rfl⟩ rfl hl.1 rfl (Nat.le_of_ble_eq_true rfl) d_q_endBlock_90 (fun H locs hW => ?_)
            exact j_q_endBlock_93 C w23 h _ _ _ hW (lv_sub hl [] rfl)
  · rw [if_pos c8] at h
    refine lv_aload_n hx hb d_q_endBlock_27 rfl (lv_at hl 2 rfl) ?_
    replace h := bs h
    obtain ⟨w24, hw24, h⟩ := h
    refine cv_q_240 (As := []) (rest := []) hx hb hml hown hts hK hG hW (c_q_wrong l D cA base hw24) (kb_q_wrong hw24) ⟨Nat.le_of_ble_eq_true rfl, Nat.le_of_ble_eq_true rfl⟩ ⟨Nat.le_of_ble_eq_true rfl, Nat.le_of_ble_eq_true rfl⟩ rfl hl.1 rfl (Nat.le_of_ble_eq_true rfl) d_q_endBlock_28 (fun H locs hW => ?_)
    cases h
    exact wo_vret hx hb hr hlk hW d_q_endBlock_31
abbrev b_q_statement : ByteArray := prog_11_method_31_code
def y_q_statement : MethodName := ⟨"AlarmForgeModel", "statement", "(I)I"⟩
def rm_q_statement : Room := { frames := 4, cells := 0, slots := 0, locals := 94 }
theorem d_q_statement_0 : decode b_q_statement 0 = .ok (.bipush (80), 2) := by decide +kernel
theorem d_q_statement_2 : decode b_q_statement 2 = .ok (.aload_n 0, 1) := by decide +kernel
theorem d_q_statement_3 : decode b_q_statement 3 = .ok (.getfield 243, 3) := by decide +kernel
theorem d_q_statement_6 : decode b_q_statement 6 = .ok (.imul, 1) := by decide +kernel
theorem d_q_statement_7 : decode b_q_statement 7 = .ok (.aload_n 0, 1) := by decide +kernel
theorem d_q_statement_8 : decode b_q_statement 8 = .ok (.getfield 66, 3) := by decide +kernel
theorem d_q_statement_11 : decode b_q_statement 11 = .ok (.aload_n 0, 1) := by decide +kernel
theorem d_q_statement_12 : decode b_q_statement 12 = .ok (.getfield 243, 3) := by decide +kernel
theorem d_q_statement_15 : decode b_q_statement 15 = .ok (.iaload, 1) := by decide +kernel
theorem d_q_statement_16 : decode b_q_statement 16 = .ok (.iadd, 1) := by decide +kernel
theorem d_q_statement_17 : decode b_q_statement 17 = .ok (.istore_n 2, 1) := by decide +kernel
theorem d_q_statement_18 : decode b_q_statement 18 = .ok (.aload_n 0, 1) := by decide +kernel
theorem d_q_statement_19 : decode b_q_statement 19 = .ok (.getfield 66, 3) := by decide +kernel
theorem d_q_statement_22 : decode b_q_statement 22 = .ok (.aload_n 0, 1) := by decide +kernel
theorem d_q_statement_23 : decode b_q_statement 23 = .ok (.getfield 243, 3) := by decide +kernel
theorem d_q_statement_26 : decode b_q_statement 26 = .ok (.dup2, 1) := by decide +kernel
theorem d_q_statement_27 : decode b_q_statement 27 = .ok (.iaload, 1) := by decide +kernel
theorem d_q_statement_28 : decode b_q_statement 28 = .ok (.iconst 1, 1) := by decide +kernel
theorem d_q_statement_29 : decode b_q_statement 29 = .ok (.iadd, 1) := by decide +kernel
theorem d_q_statement_30 : decode b_q_statement 30 = .ok (.iastore, 1) := by decide +kernel
theorem d_q_statement_31 : decode b_q_statement 31 = .ok (.aload_n 0, 1) := by decide +kernel
theorem d_q_statement_32 : decode b_q_statement 32 = .ok (.getfield 26, 3) := by decide +kernel
theorem d_q_statement_35 : decode b_q_statement 35 = .ok (.iload_n 2, 1) := by decide +kernel
theorem d_q_statement_36 : decode b_q_statement 36 = .ok (.iload_n 1, 1) := by decide +kernel
theorem d_q_statement_37 : decode b_q_statement 37 = .ok (.iastore, 1) := by decide +kernel
theorem d_q_statement_38 : decode b_q_statement 38 = .ok (.aload_n 0, 1) := by decide +kernel
theorem d_q_statement_39 : decode b_q_statement 39 = .ok (.getfield 56, 3) := by decide +kernel
theorem d_q_statement_42 : decode b_q_statement 42 = .ok (.iload_n 2, 1) := by decide +kernel
theorem d_q_statement_43 : decode b_q_statement 43 = .ok (.iconst (-1), 1) := by decide +kernel
theorem d_q_statement_44 : decode b_q_statement 44 = .ok (.iastore, 1) := by decide +kernel
theorem d_q_statement_45 : decode b_q_statement 45 = .ok (.aload_n 0, 1) := by decide +kernel
theorem d_q_statement_46 : decode b_q_statement 46 = .ok (.getfield 59, 3) := by decide +kernel
theorem d_q_statement_49 : decode b_q_statement 49 = .ok (.iload_n 2, 1) := by decide +kernel
theorem d_q_statement_50 : decode b_q_statement 50 = .ok (.iconst 0, 1) := by decide +kernel
theorem d_q_statement_51 : decode b_q_statement 51 = .ok (.bastore, 1) := by decide +kernel
theorem d_q_statement_52 : decode b_q_statement 52 = .ok (.aload_n 0, 1) := by decide +kernel
theorem d_q_statement_53 : decode b_q_statement 53 = .ok (.getfield 32, 3) := by decide +kernel
theorem d_q_statement_56 : decode b_q_statement 56 = .ok (.iload_n 2, 1) := by decide +kernel
theorem d_q_statement_57 : decode b_q_statement 57 = .ok (.aload_n 0, 1) := by decide +kernel
theorem d_q_statement_58 : decode b_q_statement 58 = .ok (.getfield 181, 3) := by decide +kernel
theorem d_q_statement_61 : decode b_q_statement 61 = .ok (.iastore, 1) := by decide +kernel
theorem d_q_statement_62 : decode b_q_statement 62 = .ok (.aload_n 0, 1) := by decide +kernel
theorem d_q_statement_63 : decode b_q_statement 63 = .ok (.getfield 29, 3) := by decide +kernel
theorem d_q_statement_66 : decode b_q_statement 66 = .ok (.iload_n 2, 1) := by decide +kernel
theorem d_q_statement_67 : decode b_q_statement 67 = .ok (.aload_n 0, 1) := by decide +kernel
theorem d_q_statement_68 : decode b_q_statement 68 = .ok (.getfield 198, 3) := by decide +kernel
theorem d_q_statement_71 : decode b_q_statement 71 = .ok (.iastore, 1) := by decide +kernel
theorem d_q_statement_72 : decode b_q_statement 72 = .ok (.aload_n 0, 1) := by decide +kernel
theorem d_q_statement_73 : decode b_q_statement 73 = .ok (.getfield 87, 3) := by decide +kernel
theorem d_q_statement_76 : decode b_q_statement 76 = .ok (.aload_n 0, 1) := by decide +kernel
theorem d_q_statement_77 : decode b_q_statement 77 = .ok (.getfield 295, 3) := by decide +kernel
theorem d_q_statement_80 : decode b_q_statement 80 = .ok (.iaload, 1) := by decide +kernel
theorem d_q_statement_81 : decode b_q_statement 81 = .ok (.ifCond .lt (21), 3) := by decide +kernel
theorem d_q_statement_84 : decode b_q_statement 84 = .ok (.aload_n 0, 1) := by decide +kernel
theorem d_q_statement_85 : decode b_q_statement 85 = .ok (.getfield 56, 3) := by decide +kernel
theorem d_q_statement_88 : decode b_q_statement 88 = .ok (.aload_n 0, 1) := by decide +kernel
theorem d_q_statement_89 : decode b_q_statement 89 = .ok (.getfield 87, 3) := by decide +kernel
theorem d_q_statement_92 : decode b_q_statement 92 = .ok (.aload_n 0, 1) := by decide +kernel
theorem d_q_statement_93 : decode b_q_statement 93 = .ok (.getfield 295, 3) := by decide +kernel
theorem d_q_statement_96 : decode b_q_statement 96 = .ok (.iaload, 1) := by decide +kernel
theorem d_q_statement_97 : decode b_q_statement 97 = .ok (.iload_n 2, 1) := by decide +kernel
theorem d_q_statement_98 : decode b_q_statement 98 = .ok (.iastore, 1) := by decide +kernel
theorem d_q_statement_99 : decode b_q_statement 99 = .ok (.goto (68), 3) := by decide +kernel
theorem d_q_statement_102 : decode b_q_statement 102 = .ok (.aload_n 0, 1) := by decide +kernel
theorem d_q_statement_103 : decode b_q_statement 103 = .ok (.getfield 295, 3) := by decide +kernel
theorem d_q_statement_106 : decode b_q_statement 106 = .ok (.ifCond .ne (16), 3) := by decide +kernel
theorem d_q_statement_109 : decode b_q_statement 109 = .ok (.aload_n 0, 1) := by decide +kernel
theorem d_q_statement_110 : decode b_q_statement 110 = .ok (.getfield 63, 3) := by decide +kernel
theorem d_q_statement_113 : decode b_q_statement 113 = .ok (.aload_n 0, 1) := by decide +kernel
theorem d_q_statement_114 : decode b_q_statement 114 = .ok (.getfield 243, 3) := by decide +kernel
theorem d_q_statement_117 : decode b_q_statement 117 = .ok (.iload_n 2, 1) := by decide +kernel
theorem d_q_statement_118 : decode b_q_statement 118 = .ok (.iastore, 1) := by decide +kernel
theorem d_q_statement_119 : decode b_q_statement 119 = .ok (.goto (48), 3) := by decide +kernel
theorem d_q_statement_122 : decode b_q_statement 122 = .ok (.aload_n 0, 1) := by decide +kernel
theorem d_q_statement_123 : decode b_q_statement 123 = .ok (.getfield 84, 3) := by decide +kernel
theorem d_q_statement_126 : decode b_q_statement 126 = .ok (.aload_n 0, 1) := by decide +kernel
theorem d_q_statement_127 : decode b_q_statement 127 = .ok (.getfield 295, 3) := by decide +kernel
theorem d_q_statement_130 : decode b_q_statement 130 = .ok (.iaload, 1) := by decide +kernel
theorem d_q_statement_131 : decode b_q_statement 131 = .ok (.ifCond .ne (21), 3) := by decide +kernel
theorem d_q_statement_134 : decode b_q_statement 134 = .ok (.aload_n 0, 1) := by decide +kernel
theorem d_q_statement_135 : decode b_q_statement 135 = .ok (.getfield 50, 3) := by decide +kernel
theorem d_q_statement_138 : decode b_q_statement 138 = .ok (.aload_n 0, 1) := by decide +kernel
theorem d_q_statement_139 : decode b_q_statement 139 = .ok (.getfield 81, 3) := by decide +kernel
theorem d_q_statement_142 : decode b_q_statement 142 = .ok (.aload_n 0, 1) := by decide +kernel
theorem d_q_statement_143 : decode b_q_statement 143 = .ok (.getfield 295, 3) := by decide +kernel
theorem d_q_statement_146 : decode b_q_statement 146 = .ok (.iaload, 1) := by decide +kernel
theorem d_q_statement_147 : decode b_q_statement 147 = .ok (.iload_n 2, 1) := by decide +kernel
theorem d_q_statement_148 : decode b_q_statement 148 = .ok (.iastore, 1) := by decide +kernel
theorem d_q_statement_149 : decode b_q_statement 149 = .ok (.goto (18), 3) := by decide +kernel
theorem d_q_statement_152 : decode b_q_statement 152 = .ok (.aload_n 0, 1) := by decide +kernel
theorem d_q_statement_153 : decode b_q_statement 153 = .ok (.getfield 53, 3) := by decide +kernel
theorem d_q_statement_156 : decode b_q_statement 156 = .ok (.aload_n 0, 1) := by decide +kernel
theorem d_q_statement_157 : decode b_q_statement 157 = .ok (.getfield 81, 3) := by decide +kernel
theorem d_q_statement_160 : decode b_q_statement 160 = .ok (.aload_n 0, 1) := by decide +kernel
theorem d_q_statement_161 : decode b_q_statement 161 = .ok (.getfield 295, 3) := by decide +kernel
theorem d_q_statement_164 : decode b_q_statement 164 = .ok (.iaload, 1) := by decide +kernel
theorem d_q_statement_165 : decode b_q_statement 165 = .ok (.iload_n 2, 1) := by decide +kernel
theorem d_q_statement_166 : decode b_q_statement 166 = .ok (.iastore, 1) := by decide +kernel
theorem d_q_statement_167 : decode b_q_statement 167 = .ok (.aload_n 0, 1) := by decide +kernel
theorem d_q_statement_168 : decode b_q_statement 168 = .ok (.getfield 87, 3) := by decide +kernel
theorem d_q_statement_171 : decode b_q_statement 171 = .ok (.aload_n 0, 1) := by decide +kernel
theorem d_q_statement_172 : decode b_q_statement 172 = .ok (.getfield 295, 3) := by decide +kernel
theorem d_q_statement_175 : decode b_q_statement 175 = .ok (.iload_n 2, 1) := by decide +kernel
theorem d_q_statement_176 : decode b_q_statement 176 = .ok (.iastore, 1) := by decide +kernel
theorem d_q_statement_177 : decode b_q_statement 177 = .ok (.aload_n 0, 1) := by decide +kernel
theorem d_q_statement_178 : decode b_q_statement 178 = .ok (.invokevirtual 237, 3) := by decide +kernel
theorem d_q_statement_181 : decode b_q_statement 181 = .ok (.iload_n 2, 1) := by decide +kernel
theorem d_q_statement_182 : decode b_q_statement 182 = .ok (.ireturn, 1) := by decide +kernel
theorem kb_q_statement {a0 : Nat} {a1 : Int32} {w : WW} {r : (Int32 × WW)} (h : f_q_statement a0 a1 w = some r) : kb w a0 9 = true := (its h).1
set_option maxHeartbeats 4000000 in
set_option maxRecDepth 100000 in
theorem j_q_statement_167 {p : Program} {l : Launch} {e : Env} {s : State} {m : MethodId} {args : Array Value} {below : List Frame} {meth : Method} {c : Code} {D : va_G} {cA : Nat → ClassId} {base : Nat} {r : Int32} {w' : WW} (C : cx b_q_statement (some .int) 3 y_q_statement.cls "statement" p s m args meth c D cA base)   : ∀ (y0 : Nat) (y2 : Int32) (w : WW), f_q_statement_167 y0 y2 w = some (r, w') → ∀ (H : Heap) (locs : List Loc) (ls : Array Slot), wo_S D cls cA base s w H locs → lv_has ls 3 [(0, .ref (base + y0)), (2, .int y2)] → W p l e rm_q_statement s m args below meth c H locs 0 0 (MQ below (wo_Q D cls cA base (some (.int r)) w') args s rm_q_statement.cells rm_q_statement.slots (wo_B base)) (F0 m 167 ls []) := by
  obtain ⟨hx, hb, hr, hml, hown, hts, hlk, hnm, hK, hG⟩ := id C
  intro y0 y2 w h H locs ls hW hl
  unfold f_q_statement_167 at h
  refine lv_aload_n hx hb d_q_statement_167 rfl (lv_at hl 0 rfl) ?_
  replace h := bs h
  obtain ⟨x36, hx36, h⟩ := h
  refine gf_q_87 hx hb hts hown hK hG hW (gN_s hx36) d_q_statement_168 ?_
  refine lv_aload_n hx hb d_q_statement_171 rfl (lv_at hl 0 rfl) ?_
  replace h := bs h
  obtain ⟨x37, hx37, h⟩ := h
  refine gf_q_295 hx hb hts hown hK hG hW (gI_s hx37) d_q_statement_172 ?_
  refine lv_iload_n hx hb d_q_statement_175 rfl (lv_at hl 1 rfl) ?_
  replace h := bs h
  obtain ⟨w38, hw38, h⟩ := h
  refine wo_iast hx hb hK hW (t := 0) rfl hw38 d_q_statement_176 (fun H locs hW => ?_)
  refine lv_aload_n hx hb d_q_statement_177 rfl (lv_at hl 0 rfl) ?_
  replace h := bs h
  obtain ⟨w39, hw39, h⟩ := h
  refine cv_q_237 (As := []) (rest := []) hx hb hml hown hts hK hG hW (c_q_read l D cA base hw39) (kb_q_read hw39) ⟨Nat.le_of_ble_eq_true rfl, Nat.le_of_ble_eq_true rfl⟩ ⟨Nat.le_of_ble_eq_true rfl, Nat.le_of_ble_eq_true rfl⟩ rfl hl.1 rfl (Nat.le_of_ble_eq_true rfl) d_q_statement_178 (fun H locs hW => ?_)
  refine lv_iload_n hx hb d_q_statement_181 rfl (lv_at hl 1 rfl) ?_
  cases h
  exact wo_iret hx hb hr hlk hW d_q_statement_182
set_option maxHeartbeats 4000000 in
set_option maxRecDepth 100000 in
theorem c_q_statement (l : Launch) (D : va_G) (cA : Nat → ClassId) (base : Nat) {a0 : Nat} {a1 : Int32} {w w' : WW} {r : Int32} (h : f_q_statement a0 a1 w = some (r, w')) : mt l D cls (wo_tys cA) cA base y_q_statement (Cond.code y_q_statement b_q_statement 3 (some .int) :: gt) rm_q_statement [.ref (base + a0), .int a1] w (some (.int r)) w' rm_q_statement.cells rm_q_statement.slots := by
  refine mt_start (by decide) (Nat.le_of_ble_eq_true rfl) ?_
  intro p e s m below meth c ls hx hb hr hml hown hts hlk hnm hK hG hW hl
  have C : cx b_q_statement (some .int) 3 y_q_statement.cls "statement" p s m [.ref (base + a0), .int a1].toArray meth c D cA base := ⟨hx, hb, hr, hml, hown, hts, hlk, hnm, hK, hG⟩
  have hl : lv_has ls 3 [(0, .ref (base + a0)), (1, .int a1)] := hl
  unfold f_q_statement at h
  replace h := its h
  obtain ⟨-, h⟩ := h
  refine lv_bipush (v := (80 : Int32)) hx hb d_q_statement_0 (by decide) ?_
  refine lv_aload_n hx hb d_q_statement_2 rfl (lv_at hl 0 rfl) ?_
  replace h := bs h
  obtain ⟨x1, hx1, h⟩ := h
  refine gf_q_243 hx hb hts hown hK hG hW (gI_s hx1) d_q_statement_3 ?_
  refine lv_imul hx hb d_q_statement_6 ?_
  refine lv_aload_n hx hb d_q_statement_7 rfl (lv_at hl 0 rfl) ?_
  replace h := bs h
  obtain ⟨x2, hx2, h⟩ := h
  refine gf_q_66 hx hb hts hown hK hG hW (gN_s hx2) d_q_statement_8 ?_
  refine lv_aload_n hx hb d_q_statement_11 rfl (lv_at hl 0 rfl) ?_
  replace h := bs h
  obtain ⟨x3, hx3, h⟩ := h
  refine gf_q_243 hx hb hts hown hK hG hW (gI_s hx3) d_q_statement_12 ?_
  replace h := bs h
  obtain ⟨x4, hx4, h⟩ := h
  refine wo_iald hx hb hK hW (t := 0) rfl hx4 d_q_statement_15 ?_
  refine lv_iadd hx hb d_q_statement_16 ?_
  refine lv_istore_n (lv' := [(2, .int (((80 : Int32) * x1) + x4)), (0, .ref (base + a0)), (1, .int a1)]) hx hb d_q_statement_17 rfl hl (by decide) rfl (fun ls hl => ?_)
  refine lv_aload_n hx hb d_q_statement_18 rfl (lv_at hl 1 rfl) ?_
  replace h := bs h
  obtain ⟨x5, hx5, h⟩ := h
  refine gf_q_66 hx hb hts hown hK hG hW (gN_s hx5) d_q_statement_19 ?_
  refine lv_aload_n hx hb d_q_statement_22 rfl (lv_at hl 1 rfl) ?_
  replace h := bs h
  obtain ⟨x6, hx6, h⟩ := h
  refine gf_q_243 hx hb hts hown hK hG hW (gI_s hx6) d_q_statement_23 ?_
  refine lv_dup2_11 hx hb d_q_statement_26 rfl rfl ?_
  replace h := bs h
  obtain ⟨x7, hx7, h⟩ := h
  refine wo_iald hx hb hK hW (t := 0) rfl hx7 d_q_statement_27 ?_
  refine lv_iconst (v := (1 : Int32)) hx hb d_q_statement_28 (by decide) ?_
  refine lv_iadd hx hb d_q_statement_29 ?_
  replace h := bs h
  obtain ⟨w8, hw8, h⟩ := h
  refine wo_iast hx hb hK hW (t := 0) rfl hw8 d_q_statement_30 (fun H locs hW => ?_)
  refine lv_aload_n hx hb d_q_statement_31 rfl (lv_at hl 1 rfl) ?_
  replace h := bs h
  obtain ⟨x9, hx9, h⟩ := h
  refine gf_q_26 hx hb hts hown hK hG hW (gN_s hx9) d_q_statement_32 ?_
  refine lv_iload_n hx hb d_q_statement_35 rfl (lv_at hl 0 rfl) ?_
  refine lv_iload_n hx hb d_q_statement_36 rfl (lv_at hl 2 rfl) ?_
  replace h := bs h
  obtain ⟨w10, hw10, h⟩ := h
  refine wo_iast hx hb hK hW (t := 0) rfl hw10 d_q_statement_37 (fun H locs hW => ?_)
  refine lv_aload_n hx hb d_q_statement_38 rfl (lv_at hl 1 rfl) ?_
  replace h := bs h
  obtain ⟨x11, hx11, h⟩ := h
  refine gf_q_56 hx hb hts hown hK hG hW (gN_s hx11) d_q_statement_39 ?_
  refine lv_iload_n hx hb d_q_statement_42 rfl (lv_at hl 0 rfl) ?_
  refine lv_iconst (v := (-1 : Int32)) hx hb d_q_statement_43 (by decide) ?_
  replace h := bs h
  obtain ⟨w12, hw12, h⟩ := h
  refine wo_iast hx hb hK hW (t := 0) rfl hw12 d_q_statement_44 (fun H locs hW => ?_)
  refine lv_aload_n hx hb d_q_statement_45 rfl (lv_at hl 1 rfl) ?_
  replace h := bs h
  obtain ⟨x13, hx13, h⟩ := h
  refine gf_q_59 hx hb hts hown hK hG hW (gN_s hx13) d_q_statement_46 ?_
  refine lv_iload_n hx hb d_q_statement_49 rfl (lv_at hl 0 rfl) ?_
  refine lv_iconst (v := (0 : Int32)) hx hb d_q_statement_50 (by decide) ?_
  replace h := bs h
  obtain ⟨w14, hw14, h⟩ := h
  refine wo_zast hx hb hK hW (t := 2) rfl hw14 d_q_statement_51 (fun H locs hW => ?_)
  refine lv_aload_n hx hb d_q_statement_52 rfl (lv_at hl 1 rfl) ?_
  replace h := bs h
  obtain ⟨x15, hx15, h⟩ := h
  refine gf_q_32 hx hb hts hown hK hG hW (gN_s hx15) d_q_statement_53 ?_
  refine lv_iload_n hx hb d_q_statement_56 rfl (lv_at hl 0 rfl) ?_
  refine lv_aload_n hx hb d_q_statement_57 rfl (lv_at hl 1 rfl) ?_
  replace h := bs h
  obtain ⟨x16, hx16, h⟩ := h
  refine gf_q_181 hx hb hts hown hK hG hW (gI_s hx16) d_q_statement_58 ?_
  replace h := bs h
  obtain ⟨w17, hw17, h⟩ := h
  refine wo_iast hx hb hK hW (t := 0) rfl hw17 d_q_statement_61 (fun H locs hW => ?_)
  refine lv_aload_n hx hb d_q_statement_62 rfl (lv_at hl 1 rfl) ?_
  replace h := bs h
  obtain ⟨x18, hx18, h⟩ := h
  refine gf_q_29 hx hb hts hown hK hG hW (gN_s hx18) d_q_statement_63 ?_
  refine lv_iload_n hx hb d_q_statement_66 rfl (lv_at hl 0 rfl) ?_
  refine lv_aload_n hx hb d_q_statement_67 rfl (lv_at hl 1 rfl) ?_
  replace h := bs h
  obtain ⟨x19, hx19, h⟩ := h
  refine gf_q_198 hx hb hts hown hK hG hW (gI_s hx19) d_q_statement_68 ?_
  replace h := bs h
  obtain ⟨w20, hw20, h⟩ := h
  refine wo_iast hx hb hK hW (t := 0) rfl hw20 d_q_statement_71 (fun H locs hW => ?_)
  refine lv_aload_n hx hb d_q_statement_72 rfl (lv_at hl 1 rfl) ?_
  replace h := bs h
  obtain ⟨x21, hx21, h⟩ := h
  refine gf_q_87 hx hb hts hown hK hG hW (gN_s hx21) d_q_statement_73 ?_
  refine lv_aload_n hx hb d_q_statement_76 rfl (lv_at hl 1 rfl) ?_
  replace h := bs h
  obtain ⟨x22, hx22, h⟩ := h
  refine gf_q_295 hx hb hts hown hK hG hW (gI_s hx22) d_q_statement_77 ?_
  replace h := bs h
  obtain ⟨x23, hx23, h⟩ := h
  refine wo_iald hx hb hK hW (t := 0) rfl hx23 d_q_statement_80 ?_
  refine lv_if_lt (tgt := 102) hx hb d_q_statement_81 (by decide) (fun c24 => ?_) (fun c24 => ?_)
  · rw [if_pos c24] at h
    refine lv_aload_n hx hb d_q_statement_102 rfl (lv_at hl 1 rfl) ?_
    replace h := bs h
    obtain ⟨x25, hx25, h⟩ := h
    refine gf_q_295 hx hb hts hown hK hG hW (gI_s hx25) d_q_statement_103 ?_
    refine lv_if_ne (tgt := 122) hx hb d_q_statement_106 (by decide) (fun c26 => ?_) (fun c26 => ?_)
    · rw [if_neg c26] at h
      refine lv_aload_n hx hb d_q_statement_122 rfl (lv_at hl 1 rfl) ?_
      replace h := bs h
      obtain ⟨x27, hx27, h⟩ := h
      refine gf_q_84 hx hb hts hown hK hG hW (gN_s hx27) d_q_statement_123 ?_
      refine lv_aload_n hx hb d_q_statement_126 rfl (lv_at hl 1 rfl) ?_
      replace h := bs h
      obtain ⟨x28, hx28, h⟩ := h
      refine gf_q_295 hx hb hts hown hK hG hW (gI_s hx28) d_q_statement_127 ?_
      replace h := bs h
      obtain ⟨x29, hx29, h⟩ := h
      refine wo_iald hx hb hK hW (t := 0) rfl hx29 d_q_statement_130 ?_
      refine lv_if_ne (tgt := 152) hx hb d_q_statement_131 (by decide) (fun c30 => ?_) (fun c30 => ?_)
      · rw [if_neg c30] at h
        refine lv_aload_n hx hb d_q_statement_152 rfl (lv_at hl 1 rfl) ?_
        replace h := bs h
        obtain ⟨x31, hx31, h⟩ := h
        refine gf_q_53 hx hb hts hown hK hG hW (gN_s hx31) d_q_statement_153 ?_
        refine lv_aload_n hx hb d_q_statement_156 rfl (lv_at hl 1 rfl) ?_
        replace h := bs h
        obtain ⟨x32, hx32, h⟩ := h
        refine gf_q_81 hx hb hts hown hK hG hW (gN_s hx32) d_q_statement_157 ?_
        refine lv_aload_n hx hb d_q_statement_160 rfl (lv_at hl 1 rfl) ?_
        replace h := bs h
        obtain ⟨x33, hx33, h⟩ := h
        refine gf_q_295 hx hb hts hown hK hG hW (gI_s hx33) d_q_statement_161 ?_
        replace h := bs h
        obtain ⟨x34, hx34, h⟩ := h
        refine wo_iald hx hb hK hW (t := 0) rfl hx34 d_q_statement_164 ?_
        refine lv_iload_n hx hb d_q_statement_165 rfl (lv_at hl 0 rfl) ?_
        replace h := bs h
        obtain ⟨w35, hw35, h⟩ := h
        refine wo_iast hx hb hK hW (t := 0) rfl hw35 d_q_statement_166 (fun H locs hW => ?_)
        exact j_q_statement_167 C a0 (((80 : Int32) * x1) + x4) w35 h _ _ _ hW (lv_sub hl [1, 0] rfl)
      · rw [if_pos c30] at h
        refine lv_aload_n hx hb d_q_statement_134 rfl (lv_at hl 1 rfl) ?_
        replace h := bs h
        obtain ⟨x40, hx40, h⟩ := h
        refine gf_q_50 hx hb hts hown hK hG hW (gN_s hx40) d_q_statement_135 ?_
        refine lv_aload_n hx hb d_q_statement_138 rfl (lv_at hl 1 rfl) ?_
        replace h := bs h
        obtain ⟨x41, hx41, h⟩ := h
        refine gf_q_81 hx hb hts hown hK hG hW (gN_s hx41) d_q_statement_139 ?_
        refine lv_aload_n hx hb d_q_statement_142 rfl (lv_at hl 1 rfl) ?_
        replace h := bs h
        obtain ⟨x42, hx42, h⟩ := h
        refine gf_q_295 hx hb hts hown hK hG hW (gI_s hx42) d_q_statement_143 ?_
        replace h := bs h
        obtain ⟨x43, hx43, h⟩ := h
        refine wo_iald hx hb hK hW (t := 0) rfl hx43 d_q_statement_146 ?_
        refine lv_iload_n hx hb d_q_statement_147 rfl (lv_at hl 0 rfl) ?_
        replace h := bs h
        obtain ⟨w44, hw44, h⟩ := h
        refine wo_iast hx hb hK hW (t := 0) rfl hw44 d_q_statement_148 (fun H locs hW => ?_)
        refine lv_goto (tgt := 167) hx hb d_q_statement_149 (by decide) ?_
        exact j_q_statement_167 C a0 (((80 : Int32) * x1) + x4) w44 h _ _ _ hW (lv_sub hl [1, 0] rfl)
    · rw [if_pos c26] at h
      refine lv_aload_n hx hb d_q_statement_109 rfl (lv_at hl 1 rfl) ?_
      replace h := bs h
      obtain ⟨x45, hx45, h⟩ := h
      refine gf_q_63 hx hb hts hown hK hG hW (gN_s hx45) d_q_statement_110 ?_
      refine lv_aload_n hx hb d_q_statement_113 rfl (lv_at hl 1 rfl) ?_
      replace h := bs h
      obtain ⟨x46, hx46, h⟩ := h
      refine gf_q_243 hx hb hts hown hK hG hW (gI_s hx46) d_q_statement_114 ?_
      refine lv_iload_n hx hb d_q_statement_117 rfl (lv_at hl 0 rfl) ?_
      replace h := bs h
      obtain ⟨w47, hw47, h⟩ := h
      refine wo_iast hx hb hK hW (t := 0) rfl hw47 d_q_statement_118 (fun H locs hW => ?_)
      refine lv_goto (tgt := 167) hx hb d_q_statement_119 (by decide) ?_
      exact j_q_statement_167 C a0 (((80 : Int32) * x1) + x4) w47 h _ _ _ hW (lv_sub hl [1, 0] rfl)
  · rw [if_neg c24] at h
    refine lv_aload_n hx hb d_q_statement_84 rfl (lv_at hl 1 rfl) ?_
    replace h := bs h
    obtain ⟨x48, hx48, h⟩ := h
    refine gf_q_56 hx hb hts hown hK hG hW (gN_s hx48) d_q_statement_85 ?_
    refine lv_aload_n hx hb d_q_statement_88 rfl (lv_at hl 1 rfl) ?_
    replace h := bs h
    obtain ⟨x49, hx49, h⟩ := h
    refine gf_q_87 hx hb hts hown hK hG hW (gN_s hx49) d_q_statement_89 ?_
    refine lv_aload_n hx hb d_q_statement_92 rfl (lv_at hl 1 rfl) ?_
    replace h := bs h
    obtain ⟨x50, hx50, h⟩ := h
    refine gf_q_295 hx hb hts hown hK hG hW (gI_s hx50) d_q_statement_93 ?_
    replace h := bs h
    obtain ⟨x51, hx51, h⟩ := h
    refine wo_iald hx hb hK hW (t := 0) rfl hx51 d_q_statement_96 ?_
    refine lv_iload_n hx hb d_q_statement_97 rfl (lv_at hl 0 rfl) ?_
    replace h := bs h
    obtain ⟨w52, hw52, h⟩ := h
    refine wo_iast hx hb hK hW (t := 0) rfl hw52 d_q_statement_98 (fun H locs hW => ?_)
    refine lv_goto (tgt := 167) hx hb d_q_statement_99 (by decide) ?_
    exact j_q_statement_167 C a0 (((80 : Int32) * x1) + x4) w52 h _ _ _ hW (lv_sub hl [1, 0] rfl)
