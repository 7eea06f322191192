/-! Methods as functions, and their contracts (by wip/gen/run.py). -/
abbrev b_q_holds : ByteArray := prog_11_method_43_code
def y_q_holds : MethodName := ⟨"AlarmForgeModel", "holds", "(III)Z"⟩
def rm_q_holds : Room := { frames := 0, cells := 0, slots := 0, locals := 0 }
theorem d_q_holds_0 : decode b_q_holds 0 = .ok (.iload_n 0, 1) := by decide +kernel
theorem d_q_holds_1 : decode b_q_holds 1 = .ok (.ifCond .ne (16), 3) := by decide +kernel
theorem d_q_holds_4 : decode b_q_holds 4 = .ok (.iload_n 1, 1) := by decide +kernel
theorem d_q_holds_5 : decode b_q_holds 5 = .ok (.iload_n 2, 1) := by decide +kernel
theorem d_q_holds_6 : decode b_q_holds 6 = .ok (.if_icmp .ne (7), 3) := by decide +kernel
theorem d_q_holds_9 : decode b_q_holds 9 = .ok (.iconst 1, 1) := by decide +kernel
theorem d_q_holds_10 : decode b_q_holds 10 = .ok (.goto (53), 3) := by decide +kernel
theorem d_q_holds_13 : decode b_q_holds 13 = .ok (.iconst 0, 1) := by decide +kernel
theorem d_q_holds_14 : decode b_q_holds 14 = .ok (.goto (49), 3) := by decide +kernel
theorem d_q_holds_17 : decode b_q_holds 17 = .ok (.iload_n 0, 1) := by decide +kernel
theorem d_q_holds_18 : decode b_q_holds 18 = .ok (.iconst 1, 1) := by decide +kernel
theorem d_q_holds_19 : decode b_q_holds 19 = .ok (.if_icmp .ne (16), 3) := by decide +kernel
theorem d_q_holds_22 : decode b_q_holds 22 = .ok (.iload_n 1, 1) := by decide +kernel
theorem d_q_holds_23 : decode b_q_holds 23 = .ok (.iload_n 2, 1) := by decide +kernel
theorem d_q_holds_24 : decode b_q_holds 24 = .ok (.if_icmp .eq (7), 3) := by decide +kernel
theorem d_q_holds_27 : decode b_q_holds 27 = .ok (.iconst 1, 1) := by decide +kernel
theorem d_q_holds_28 : decode b_q_holds 28 = .ok (.goto (35), 3) := by decide +kernel
theorem d_q_holds_31 : decode b_q_holds 31 = .ok (.iconst 0, 1) := by decide +kernel
theorem d_q_holds_32 : decode b_q_holds 32 = .ok (.goto (31), 3) := by decide +kernel
theorem d_q_holds_35 : decode b_q_holds 35 = .ok (.iload_n 0, 1) := by decide +kernel
theorem d_q_holds_36 : decode b_q_holds 36 = .ok (.iconst 2, 1) := by decide +kernel
theorem d_q_holds_37 : decode b_q_holds 37 = .ok (.if_icmp .ne (16), 3) := by decide +kernel
theorem d_q_holds_40 : decode b_q_holds 40 = .ok (.iload_n 1, 1) := by decide +kernel
theorem d_q_holds_41 : decode b_q_holds 41 = .ok (.iload_n 2, 1) := by decide +kernel
theorem d_q_holds_42 : decode b_q_holds 42 = .ok (.if_icmp .ge (7), 3) := by decide +kernel
theorem d_q_holds_45 : decode b_q_holds 45 = .ok (.iconst 1, 1) := by decide +kernel
theorem d_q_holds_46 : decode b_q_holds 46 = .ok (.goto (17), 3) := by decide +kernel
theorem d_q_holds_49 : decode b_q_holds 49 = .ok (.iconst 0, 1) := by decide +kernel
theorem d_q_holds_50 : decode b_q_holds 50 = .ok (.goto (13), 3) := by decide +kernel
theorem d_q_holds_53 : decode b_q_holds 53 = .ok (.iload_n 1, 1) := by decide +kernel
theorem d_q_holds_54 : decode b_q_holds 54 = .ok (.iload_n 2, 1) := by decide +kernel
theorem d_q_holds_55 : decode b_q_holds 55 = .ok (.if_icmp .gt (7), 3) := by decide +kernel
theorem d_q_holds_58 : decode b_q_holds 58 = .ok (.iconst 1, 1) := by decide +kernel
theorem d_q_holds_59 : decode b_q_holds 59 = .ok (.goto (4), 3) := by decide +kernel
theorem d_q_holds_62 : decode b_q_holds 62 = .ok (.iconst 0, 1) := by decide +kernel
theorem d_q_holds_63 : decode b_q_holds 63 = .ok (.ireturn, 1) := by decide +kernel
set_option maxHeartbeats 4000000 in
set_option maxRecDepth 100000 in
theorem j_q_holds_63 {p : Program} {l : Launch} {e : Env} {s : State} {m : MethodId} {args : Array Value} {below : List Frame} {meth : Method} {c : Code} {D : va_G} {cA : Nat → ClassId} {base : Nat} {r : Int32} {w' : WW} (C : cx b_q_holds (some .boolean) 3 y_q_holds.cls "holds" p s m args meth c D cA base)   : ∀ (z0 : Int32) (w : WW), f_q_holds_63 z0 w = some (r, w') → ∀ (H : Heap) (locs : List Loc) (ls : Array Slot), wo_S D cls cA base s w H locs → lv_has ls 3 [] → W p l e rm_q_holds s m args below meth c H locs 0 0 (MQ below (wo_Q D cls cA base (some (.int r)) w') args s rm_q_holds.cells rm_q_holds.slots (wo_B base)) (F0 m 63 ls [.int z0]) := by
  obtain ⟨hx, hb, hr, hml, hown, hts, hlk, hnm, hK, hG⟩ := id C
  intro z0 w h H locs ls hW hl
  unfold f_q_holds_63 at h
  replace h := its h
  obtain ⟨c5, h⟩ := h
  cases h
  exact wo_zret hx hb hr hlk hW c5 d_q_holds_63
set_option maxHeartbeats 4000000 in
set_option maxRecDepth 100000 in
theorem c_q_holds (l : Launch) (D : va_G) (cA : Nat → ClassId) (base : Nat) {a0 : Int32} {a1 : Int32} {a2 : Int32} {w w' : WW} {r : Int32} (h : f_q_holds a0 a1 a2 w = some (r, w')) : mt l D cls (wo_tys cA) cA base y_q_holds (Cond.code y_q_holds b_q_holds 3 (some .boolean) :: gt) rm_q_holds [.int a0, .int a1, .int a2] w (some (.int r)) w' rm_q_holds.cells rm_q_holds.slots := by
  refine mt_start (by decide) (Nat.le_of_ble_eq_true rfl) ?_
  intro p e s m below meth c ls hx hb hr hml hown hts hlk hnm hK hG hW hl
  have C : cx b_q_holds (some .boolean) 3 y_q_holds.cls "holds" p s m [.int a0, .int a1, .int a2].toArray meth c D cA base := ⟨hx, hb, hr, hml, hown, hts, hlk, hnm, hK, hG⟩
  have hl : lv_has ls 3 [(0, .int a0), (1, .int a1), (2, .int a2)] := hl
  unfold f_q_holds at h
  refine lv_iload_n hx hb d_q_holds_0 rfl (lv_at hl 0 rfl) ?_
  refine lv_if_ne (tgt := 17) hx hb d_q_holds_1 (by decide) (fun c1 => ?_) (fun c1 => ?_)
  · rw [if_neg c1] at h
    refine lv_iload_n hx hb d_q_holds_17 rfl (lv_at hl 0 rfl) ?_
    refine lv_iconst (v := (1 : Int32)) hx hb d_q_holds_18 (by decide) ?_
    refine lv_icmp_ne (tgt := 35) hx hb d_q_holds_19 (by decide) (fun c2 => ?_) (fun c2 => ?_)
    · rw [if_neg c2] at h
      refine lv_iload_n hx hb d_q_holds_35 rfl (lv_at hl 0 rfl) ?_
      refine lv_iconst (v := (2 : Int32)) hx hb d_q_holds_36 (by decide) ?_
      refine lv_icmp_ne (tgt := 53) hx hb d_q_holds_37 (by decide) (fun c3 => ?_) (fun c3 => ?_)
      · rw [if_neg c3] at h
        refine lv_iload_n hx hb d_q_holds_53 rfl (lv_at hl 1 rfl) ?_
        refine lv_iload_n hx hb d_q_holds_54 rfl (lv_at hl 2 rfl) ?_
        refine lv_icmp_gt (tgt := 62) hx hb d_q_holds_55 (by decide) (fun c4 => ?_) (fun c4 => ?_)
        · rw [if_pos c4] at h
          refine lv_iconst (v := (0 : Int32)) hx hb d_q_holds_62 (by decide) ?_
          exact j_q_holds_63 C (0 : Int32) w h _ _ _ hW (lv_sub hl [] rfl)
        · rw [if_neg c4] at h
          refine lv_iconst (v := (1 : Int32)) hx hb d_q_holds_58 (by decide) ?_
          refine lv_goto (tgt := 63) hx hb d_q_holds_59 (by decide) ?_
          exact j_q_holds_63 C (1 : Int32) w h _ _ _ hW (lv_sub hl [] rfl)
      · rw [if_pos c3] at h
        refine lv_iload_n hx hb d_q_holds_40 rfl (lv_at hl 1 rfl) ?_
        refine lv_iload_n hx hb d_q_holds_41 rfl (lv_at hl 2 rfl) ?_
        refine lv_icmp_ge (tgt := 49) hx hb d_q_holds_42 (by decide) (fun c6 => ?_) (fun c6 => ?_)
        · rw [if_pos c6] at h
          refine lv_iconst (v := (0 : Int32)) hx hb d_q_holds_49 (by decide) ?_
          refine lv_goto (tgt := 63) hx hb d_q_holds_50 (by decide) ?_
          exact j_q_holds_63 C (0 : Int32) w h _ _ _ hW (lv_sub hl [] rfl)
        · rw [if_neg c6] at h
          refine lv_iconst (v := (1 : Int32)) hx hb d_q_holds_45 (by decide) ?_
          refine lv_goto (tgt := 63) hx hb d_q_holds_46 (by decide) ?_
          exact j_q_holds_63 C (1 : Int32) w h _ _ _ hW (lv_sub hl [] rfl)
    · rw [if_pos c2] at h
      refine lv_iload_n hx hb d_q_holds_22 rfl (lv_at hl 1 rfl) ?_
      refine lv_iload_n hx hb d_q_holds_23 rfl (lv_at hl 2 rfl) ?_
      refine lv_icmp_eq (tgt := 31) hx hb d_q_holds_24 (by decide) (fun c7 => ?_) (fun c7 => ?_)
      · rw [if_pos c7] at h
        refine lv_iconst (v := (0 : Int32)) hx hb d_q_holds_31 (by decide) ?_
        refine lv_goto (tgt := 63) hx hb d_q_holds_32 (by decide) ?_
        exact j_q_holds_63 C (0 : Int32) w h _ _ _ hW (lv_sub hl [] rfl)
      · rw [if_neg c7] at h
        refine lv_iconst (v := (1 : Int32)) hx hb d_q_holds_27 (by decide) ?_
        refine lv_goto (tgt := 63) hx hb d_q_holds_28 (by decide) ?_
        exact j_q_holds_63 C (1 : Int32) w h _ _ _ hW (lv_sub hl [] rfl)
  · rw [if_pos c1] at h
    refine lv_iload_n hx hb d_q_holds_4 rfl (lv_at hl 1 rfl) ?_
    refine lv_iload_n hx hb d_q_holds_5 rfl (lv_at hl 2 rfl) ?_
    refine lv_icmp_ne (tgt := 13) hx hb d_q_holds_6 (by decide) (fun c8 => ?_) (fun c8 => ?_)
    · rw [if_neg c8] at h
      refine lv_iconst (v := (0 : Int32)) hx hb d_q_holds_13 (by decide) ?_
      refine lv_goto (tgt := 63) hx hb d_q_holds_14 (by decide) ?_
      exact j_q_holds_63 C (0 : Int32) w h _ _ _ hW (lv_sub hl [] rfl)
    · rw [if_pos c8] at h
      refine lv_iconst (v := (1 : Int32)) hx hb d_q_holds_9 (by decide) ?_
      refine lv_goto (tgt := 63) hx hb d_q_holds_10 (by decide) ?_
      exact j_q_holds_63 C (1 : Int32) w h _ _ _ hW (lv_sub hl [] rfl)
theorem cv_q_347 {p : Program} {l : Launch} {e : Env} {R : Room} {s : State} {m : MethodId} {args : Array Value} {below : List Frame} {meth : Method} {c : Code} {H : Heap} {locs : List Loc} {cells slots : Nat} {Q : State → Prop} {D : va_G} {cA : Nat → ClassId} {base : Nat} {w w' : WW} {cc : ByteArray} {pc nL : Nat} {ls : Array Slot} {rest st0 As : List Value} {ov : Option Value} {b : Nat} (hx : p.tables.exec = Jvm.exec) (hb : c.code = cc) (hml : c.maxLocals = nL) (hown : s.vm.findClass Rc_q = some m.cls) (hts : ∀ w ∈ gt, w.before args s = true) (hK : va_K D cls (wo_tys cA) s) (hG : wo_G cA base s) (hW : wo_S D cls cA base s w H locs) (hM : mt l D cls (wo_tys cA) cA base y_q_work (Cond.code y_q_work b_q_work 13 (some .boolean) :: gt) rm_q_work (.ref (base + b) :: As) w ov w' rm_q_work.cells rm_q_work.slots) (hkb : kb w b 9 = true) (hR : rm_q_work.frames + 1 ≤ R.frames ∧ 8 + (13 + 11) + rm_q_work.locals ≤ R.locals) (hf : cells + rm_q_work.cells ≤ R.cells ∧ slots + rm_q_work.slots ≤ R.slots) (hn : As.length = 2) (hsz : ls.size = nL) (hst : st0 = As.reverse ++ .ref (base + b) :: rest) (hcat : (rest.map fun v => v.category).sum ≤ 8) (hdg : decode cc pc = .ok (.invokevirtual 347, 3)) (kk : ∀ (H1 : Heap) (locs1 : List Loc), wo_S D cls cA base s w' H1 locs1 → W p l e R s m args below meth c H1 locs1 (cells + rm_q_work.cells) (slots + rm_q_work.slots) Q (F0 m (pc + 3) ls (ov.toList ++ rest))) : W p l e R s m args below meth c H locs cells slots Q (F0 m pc ls st0) :=
  wo_callV (C := Rc_q) hx hb hml hown hts hK hG hW hM hkb rfl (gt_of (i := 1544) (by decide +kernel) (by decide +kernel)) (gt_of (i := 1546) (by decide +kernel) (by decide +kernel)) (gt_sel (i := 84) (by decide +kernel) (by decide +kernel)) (gt_of (i := 10) (by decide +kernel) (by decide +kernel)) (gt_of (i := 1547) (by decide +kernel) (by decide +kernel)) (by decide +kernel) hR hf hn hsz hst hcat hdg kk
theorem cs_q_350 {p : Program} {l : Launch} {e : Env} {R : Room} {s : State} {m : MethodId} {args : Array Value} {below : List Frame} {meth : Method} {c : Code} {H : Heap} {locs : List Loc} {cells slots : Nat} {Q : State → Prop} {D : va_G} {cA : Nat → ClassId} {base : Nat} {w w' : WW} {cc : ByteArray} {pc nL : Nat} {ls : Array Slot} {rest st0 As : List Value} {ov : Option Value} (hx : p.tables.exec = Jvm.exec) (hb : c.code = cc) (hml : c.maxLocals = nL) (hown : s.vm.findClass Rc_q = some m.cls) (hts : ∀ w ∈ gt, w.before args s = true) (hK : va_K D cls (wo_tys cA) s) (hG : wo_G cA base s) (hW : wo_S D cls cA base s w H locs) (hM : mt l D cls (wo_tys cA) cA base y_q_holds (Cond.code y_q_holds b_q_holds 3 (some .boolean) :: gt) rm_q_holds (As) w ov w' rm_q_holds.cells rm_q_holds.slots) (hR : rm_q_holds.frames + 1 ≤ R.frames ∧ 8 + (3 + 11) + rm_q_holds.locals ≤ R.locals) (hf : cells + rm_q_holds.cells ≤ R.cells ∧ slots + rm_q_holds.slots ≤ R.slots) (hn : As.length = 3) (hsz : ls.size = nL) (hst : st0 = As.reverse ++ rest) (hcat : (rest.map fun v => v.category).sum ≤ 8) (hdg : decode cc pc = .ok (.invokestatic 350, 3)) (kk : ∀ (H1 : Heap) (locs1 : List Loc), wo_S D cls cA base s w' H1 locs1 → W p l e R s m args below meth c H1 locs1 (cells + rm_q_holds.cells) (slots + rm_q_holds.slots) Q (F0 m (pc + 3) ls (ov.toList ++ rest))) : W p l e R s m args below meth c H locs cells slots Q (F0 m pc ls st0) :=
  wo_callS hx hb hml hown hts hK hG hW hM (gt_of (i := 1555) (by decide +kernel) (by decide +kernel)) (gt_of (i := 1556) (by decide +kernel) (by decide +kernel)) (gt_of (i := 10) (by decide +kernel) (by decide +kernel)) (gt_of (i := 1557) (by decide +kernel) (by decide +kernel)) (by decide +kernel) hR hf hn hsz hst hcat hdg kk
abbrev b_q_ask : ByteArray := prog_11_method_44_code
def y_q_ask : MethodName := ⟨"AlarmForgeModel", "ask", "(I)I"⟩
def rm_q_ask : Room := { frames := 2, cells := 0, slots := 0, locals := 57 }
theorem d_q_ask_0 : decode b_q_ask 0 = .ok (.aload_n 0, 1) := by decide +kernel
theorem d_q_ask_1 : decode b_q_ask 1 = .ok (.aload_n 0, 1) := by decide +kernel
theorem d_q_ask_2 : decode b_q_ask 2 = .ok (.getfield 35, 3) := by decide +kernel
theorem d_q_ask_5 : decode b_q_ask 5 = .ok (.iload_n 1, 1) := by decide +kernel
theorem d_q_ask_6 : decode b_q_ask 6 = .ok (.iaload, 1) := by decide +kernel
theorem d_q_ask_7 : decode b_q_ask 7 = .ok (.aload_n 0, 1) := by decide +kernel
theorem d_q_ask_8 : decode b_q_ask 8 = .ok (.getfield 38, 3) := by decide +kernel
theorem d_q_ask_11 : decode b_q_ask 11 = .ok (.iload_n 1, 1) := by decide +kernel
theorem d_q_ask_12 : decode b_q_ask 12 = .ok (.iaload, 1) := by decide +kernel
theorem d_q_ask_13 : decode b_q_ask 13 = .ok (.invokevirtual 347, 3) := by decide +kernel
theorem d_q_ask_16 : decode b_q_ask 16 = .ok (.istore_n 2, 1) := by decide +kernel
theorem d_q_ask_17 : decode b_q_ask 17 = .ok (.aload_n 0, 1) := by decide +kernel
theorem d_q_ask_18 : decode b_q_ask 18 = .ok (.getfield 344, 3) := by decide +kernel
theorem d_q_ask_21 : decode b_q_ask 21 = .ok (.istore_n 3, 1) := by decide +kernel
theorem d_q_ask_22 : decode b_q_ask 22 = .ok (.iload_n 2, 1) := by decide +kernel
theorem d_q_ask_23 : decode b_q_ask 23 = .ok (.ifCond .eq (26), 3) := by decide +kernel
theorem d_q_ask_26 : decode b_q_ask 26 = .ok (.aload_n 0, 1) := by decide +kernel
theorem d_q_ask_27 : decode b_q_ask 27 = .ok (.aload_n 0, 1) := by decide +kernel
theorem d_q_ask_28 : decode b_q_ask 28 = .ok (.getfield 41, 3) := by decide +kernel
theorem d_q_ask_31 : decode b_q_ask 31 = .ok (.iload_n 1, 1) := by decide +kernel
theorem d_q_ask_32 : decode b_q_ask 32 = .ok (.iaload, 1) := by decide +kernel
theorem d_q_ask_33 : decode b_q_ask 33 = .ok (.aload_n 0, 1) := by decide +kernel
theorem d_q_ask_34 : decode b_q_ask 34 = .ok (.getfield 44, 3) := by decide +kernel
theorem d_q_ask_37 : decode b_q_ask 37 = .ok (.iload_n 1, 1) := by decide +kernel
theorem d_q_ask_38 : decode b_q_ask 38 = .ok (.iaload, 1) := by decide +kernel
theorem d_q_ask_39 : decode b_q_ask 39 = .ok (.invokevirtual 347, 3) := by decide +kernel
theorem d_q_ask_42 : decode b_q_ask 42 = .ok (.ifCond .eq (7), 3) := by decide +kernel
theorem d_q_ask_45 : decode b_q_ask 45 = .ok (.iconst 1, 1) := by decide +kernel
theorem d_q_ask_46 : decode b_q_ask 46 = .ok (.goto (4), 3) := by decide +kernel
theorem d_q_ask_49 : decode b_q_ask 49 = .ok (.iconst 0, 1) := by decide +kernel
theorem d_q_ask_50 : decode b_q_ask 50 = .ok (.istore_n 2, 1) := by decide +kernel
theorem d_q_ask_51 : decode b_q_ask 51 = .ok (.iload_n 2, 1) := by decide +kernel
theorem d_q_ask_52 : decode b_q_ask 52 = .ok (.ifCond .ne (7), 3) := by decide +kernel
theorem d_q_ask_55 : decode b_q_ask 55 = .ok (.iconst (-1), 1) := by decide +kernel
theorem d_q_ask_56 : decode b_q_ask 56 = .ok (.goto (25), 3) := by decide +kernel
theorem d_q_ask_59 : decode b_q_ask 59 = .ok (.aload_n 0, 1) := by decide +kernel
theorem d_q_ask_60 : decode b_q_ask 60 = .ok (.getfield 47, 3) := by decide +kernel
theorem d_q_ask_63 : decode b_q_ask 63 = .ok (.iload_n 1, 1) := by decide +kernel
theorem d_q_ask_64 : decode b_q_ask 64 = .ok (.iaload, 1) := by decide +kernel
theorem d_q_ask_65 : decode b_q_ask 65 = .ok (.iload_n 3, 1) := by decide +kernel
theorem d_q_ask_66 : decode b_q_ask 66 = .ok (.aload_n 0, 1) := by decide +kernel
theorem d_q_ask_67 : decode b_q_ask 67 = .ok (.getfield 344, 3) := by decide +kernel
theorem d_q_ask_70 : decode b_q_ask 70 = .ok (.invokestatic 350, 3) := by decide +kernel
theorem d_q_ask_73 : decode b_q_ask 73 = .ok (.ifCond .eq (7), 3) := by decide +kernel
theorem d_q_ask_76 : decode b_q_ask 76 = .ok (.iconst 1, 1) := by decide +kernel
theorem d_q_ask_77 : decode b_q_ask 77 = .ok (.goto (4), 3) := by decide +kernel
theorem d_q_ask_80 : decode b_q_ask 80 = .ok (.iconst 0, 1) := by decide +kernel
theorem d_q_ask_81 : decode b_q_ask 81 = .ok (.ireturn, 1) := by decide +kernel
theorem kb_q_ask {a0 : Nat} {a1 : Int32} {w : WW} {r : (Int32 × WW)} (h : f_q_ask a0 a1 w = some r) : kb w a0 9 = true := (its h).1
set_option maxHeartbeats 4000000 in
set_option maxRecDepth 100000 in
theorem j_q_ask_81 {p : Program} {l : Launch} {e : Env} {s : State} {m : MethodId} {args : Array Value} {below : List Frame} {meth : Method} {c : Code} {D : va_G} {cA : Nat → ClassId} {base : Nat} {r : Int32} {w' : WW} (C : cx b_q_ask (some .int) 4 y_q_ask.cls "ask" p s m args meth c D cA base)   : ∀ (z0 : Int32) (w : WW), f_q_ask_81 z0 w = some (r, w') → ∀ (H : Heap) (locs : List Loc) (ls : Array Slot), wo_S D cls cA base s w H locs → lv_has ls 4 [] → W p l e rm_q_ask s m args below meth c H locs 0 0 (MQ below (wo_Q D cls cA base (some (.int r)) w') args s rm_q_ask.cells rm_q_ask.slots (wo_B base)) (F0 m 81 ls [.int z0]) := by
  obtain ⟨hx, hb, hr, hml, hown, hts, hlk, hnm, hK, hG⟩ := id C
  intro z0 w h H locs ls hW hl
  unfold f_q_ask_81 at h
  cases h
  exact wo_iret hx hb hr hlk hW d_q_ask_81
set_option maxHeartbeats 4000000 in
set_option maxRecDepth 100000 in
theorem j_q_ask_50 {p : Program} {l : Launch} {e : Env} {s : State} {m : MethodId} {args : Array Value} {below : List Frame} {meth : Method} {c : Code} {D : va_G} {cA : Nat → ClassId} {base : Nat} {r : Int32} {w' : WW} (C : cx b_q_ask (some .int) 4 y_q_ask.cls "ask" p s m args meth c D cA base)   : ∀ (y0 : Nat) (y1 : Int32) (y3 : Int32) (z0 : Int32) (w : WW), f_q_ask_50 y0 y1 y3 z0 w = some (r, w') → ∀ (H : Heap) (locs : List Loc) (ls : Array Slot), wo_S D cls cA base s w H locs → lv_has ls 4 [(0, .ref (base + y0)), (1, .int y1), (3, .int y3)] → W p l e rm_q_ask s m args below meth c H locs 0 0 (MQ below (wo_Q D cls cA base (some (.int r)) w') args s rm_q_ask.cells rm_q_ask.slots (wo_B base)) (F0 m 50 ls [.int z0]) := by
  obtain ⟨hx, hb, hr, hml, hown, hts, hlk, hnm, hK, hG⟩ := id C
  intro y0 y1 y3 z0 w h H locs ls hW hl
  unfold f_q_ask_50 at h
  refine lv_istore_n (lv' := [(2, .int z0), (0, .ref (base + y0)), (1, .int y1), (3, .int y3)]) hx hb d_q_ask_50 rfl hl (by decide) rfl (fun ls hl => ?_)
  refine lv_iload_n hx hb d_q_ask_51 rfl (lv_at hl 0 rfl) ?_
  refine lv_if_ne (tgt := 59) hx hb d_q_ask_52 (by decide) (fun c9 => ?_) (fun c9 => ?_)
  · rw [if_neg c9] at h
    refine lv_aload_n hx hb d_q_ask_59 rfl (lv_at hl 1 rfl) ?_
    replace h := bs h
    obtain ⟨x10, hx10, h⟩ := h
    refine gf_q_47 hx hb hts hown hK hG hW (gN_s hx10) d_q_ask_60 ?_
    refine lv_iload_n hx hb d_q_ask_63 rfl (lv_at hl 2 rfl) ?_
    replace h := bs h
    obtain ⟨x11, hx11, h⟩ := h
    refine wo_iald hx hb hK hW (t := 0) rfl hx11 d_q_ask_64 ?_
    refine lv_iload_n hx hb d_q_ask_65 rfl (lv_at hl 3 rfl) ?_
    refine lv_aload_n hx hb d_q_ask_66 rfl (lv_at hl 1 rfl) ?_
    replace h := bs h
    obtain ⟨x12, hx12, h⟩ := h
    refine gf_q_344 hx hb hts hown hK hG hW (gI_s hx12) d_q_ask_67 ?_
    replace h := bs2 h
    obtain ⟨x14, w13, hw13, h⟩ := h
    refine cs_q_350 (As := [.int x11, .int y3, .int x12]) (rest := []) hx hb hml hown hts hK hG hW (c_q_holds l D cA base hw13) ⟨Nat.le_of_ble_eq_true rfl, Nat.le_of_ble_eq_true rfl⟩ ⟨Nat.le_of_ble_eq_true rfl, Nat.le_of_ble_eq_true rfl⟩ rfl hl.1 rfl (Nat.le_of_ble_eq_true rfl) d_q_ask_70 (fun H locs hW => ?_)
    refine lv_if_eq (tgt := 80) hx hb d_q_ask_73 (by decide) (fun c15 => ?_) (fun c15 => ?_)
    · rw [if_pos c15] at h
      refine lv_iconst (v := (0 : Int32)) hx hb d_q_ask_80 (by decide) ?_
      exact j_q_ask_81 C (0 : Int32) w13 h _ _ _ hW (lv_sub hl [] rfl)
    · rw [if_neg c15] at h
      refine lv_iconst (v := (1 : Int32)) hx hb d_q_ask_76 (by decide) ?_
      refine lv_goto (tgt := 81) hx hb d_q_ask_77 (by decide) ?_
      exact j_q_ask_81 C (1 : Int32) w13 h _ _ _ hW (lv_sub hl [] rfl)
  · rw [if_pos c9] at h
    refine lv_iconst (v := (-1 : Int32)) hx hb d_q_ask_55 (by decide) ?_
    refine lv_goto (tgt := 81) hx hb d_q_ask_56 (by decide) ?_
    exact j_q_ask_81 C (-1 : Int32) w h _ _ _ hW (lv_sub hl [] rfl)
set_option maxHeartbeats 4000000 in
set_option maxRecDepth 100000 in
theorem j_q_ask_49 {p : Program} {l : Launch} {e : Env} {s : State} {m : MethodId} {args : Array Value} {below : List Frame} {meth : Method} {c : Code} {D : va_G} {cA : Nat → ClassId} {base : Nat} {r : Int32} {w' : WW} (C : cx b_q_ask (some .int) 4 y_q_ask.cls "ask" p s m args meth c D cA base)   : ∀ (y0 : Nat) (y1 : Int32) (y3 : Int32) (w : WW), f_q_ask_49 y0 y1 y3 w = some (r, w') → ∀ (H : Heap) (locs : List Loc) (ls : Array Slot), wo_S D cls cA base s w H locs → lv_has ls 4 [(0, .ref (base + y0)), (1, .int y1), (3, .int y3)] → W p l e rm_q_ask s m args below meth c H locs 0 0 (MQ below (wo_Q D cls cA base (some (.int r)) w') args s rm_q_ask.cells rm_q_ask.slots (wo_B base)) (F0 m 49 ls []) := by
  obtain ⟨hx, hb, hr, hml, hown, hts, hlk, hnm, hK, hG⟩ := id C
  intro y0 y1 y3 w h H locs ls hW hl
  unfold f_q_ask_49 at h
  refine lv_iconst (v := (0 : Int32)) hx hb d_q_ask_49 (by decide) ?_
  exact j_q_ask_50 C y0 y1 y3 (0 : Int32) w h _ _ _ hW (lv_sub hl [0, 1, 2] rfl)
set_option maxHeartbeats 4000000 in
set_option maxRecDepth 100000 in
theorem c_q_ask (l : Launch) (D : va_G) (cA : Nat → ClassId) (base : Nat) {a0 : Nat} {a1 : Int32} {w w' : WW} {r : Int32} (h : f_q_ask a0 a1 w = some (r, w')) : mt l D cls (wo_tys cA) cA base y_q_ask (Cond.code y_q_ask b_q_ask 4 (some .int) :: gt) rm_q_ask [.ref (base + a0), .int a1] w (some (.int r)) w' rm_q_ask.cells rm_q_ask.slots := by
  refine mt_start (by decide) (Nat.le_of_ble_eq_true rfl) ?_
  intro p e s m below meth c ls hx hb hr hml hown hts hlk hnm hK hG hW hl
  have C : cx b_q_ask (some .int) 4 y_q_ask.cls "ask" p s m [.ref (base + a0), .int a1].toArray meth c D cA base := ⟨hx, hb, hr, hml, hown, hts, hlk, hnm, hK, hG⟩
  have hl : lv_has ls 4 [(0, .ref (base + a0)), (1, .int a1)] := hl
  unfold f_q_ask at h
  replace h := its h
  obtain ⟨-, h⟩ := h
  refine lv_aload_n hx hb d_q_ask_0 rfl (lv_at hl 0 rfl) ?_
  refine lv_aload_n hx hb d_q_ask_1 rfl (lv_at hl 0 rfl) ?_
  replace h := bs h
  obtain ⟨x1, hx1, h⟩ := h
  refine gf_q_35 hx hb hts hown hK hG hW (gN_s hx1) d_q_ask_2 ?_
  refine lv_iload_n hx hb d_q_ask_5 rfl (lv_at hl 1 rfl) ?_
  replace h := bs h
  obtain ⟨x2, hx2, h⟩ := h
  refine wo_iald hx hb hK hW (t := 0) rfl hx2 d_q_ask_6 ?_
  refine lv_aload_n hx hb d_q_ask_7 rfl (lv_at hl 0 rfl) ?_
  replace h := bs h
  obtain ⟨x3, hx3, h⟩ := h
  refine gf_q_38 hx hb hts hown hK hG hW (gN_s hx3) d_q_ask_8 ?_
  refine lv_iload_n hx hb d_q_ask_11 rfl (lv_at hl 1 rfl) ?_
  replace h := bs h
  obtain ⟨x4, hx4, h⟩ := h
  refine wo_iald hx hb hK hW (t := 0) rfl hx4 d_q_ask_12 ?_
  replace h := bs2 h
  obtain ⟨x6, w5, hw5, h⟩ := h
  refine cv_q_347 (As := [.int x2, .int x4]) (rest := []) hx hb hml hown hts hK hG hW (c_q_work l D cA base hw5) (kb_q_work hw5) ⟨Nat.le_of_ble_eq_true rfl, Nat.le_of_ble_eq_true rfl⟩ ⟨Nat.le_of_ble_eq_true rfl, Nat.le_of_ble_eq_true rfl⟩ rfl hl.1 rfl (Nat.le_of_ble_eq_true rfl) d_q_ask_13 (fun H locs hW => ?_)
  refine lv_istore_n (lv' := [(2, .int x6), (0, .ref (base + a0)), (1, .int a1)]) hx hb d_q_ask_16 rfl hl (by decide) rfl (fun ls hl => ?_)
  refine lv_aload_n hx hb d_q_ask_17 rfl (lv_at hl 1 rfl) ?_
  replace h := bs h
  obtain ⟨x7, hx7, h⟩ := h
  refine gf_q_344 hx hb hts hown hK hG hW (gI_s hx7) d_q_ask_18 ?_
  refine lv_istore_n (lv' := [(3, .int x7), (2, .int x6), (0, .ref (base + a0)), (1, .int a1)]) hx hb d_q_ask_21 rfl hl (by decide) rfl (fun ls hl => ?_)
  refine lv_iload_n hx hb d_q_ask_22 rfl (lv_at hl 1 rfl) ?_
  refine lv_if_eq (tgt := 49) hx hb d_q_ask_23 (by decide) (fun c8 => ?_) (fun c8 => ?_)
  · rw [if_pos c8] at h
    exact j_q_ask_49 C a0 a1 x7 w5 h _ _ _ hW (lv_sub hl [2, 3, 0] rfl)
  · rw [if_neg c8] at h
    refine lv_aload_n hx hb d_q_ask_26 rfl (lv_at hl 2 rfl) ?_
    refine lv_aload_n hx hb d_q_ask_27 rfl (lv_at hl 2 rfl) ?_
    replace h := bs h
    obtain ⟨x16, hx16, h⟩ := h
    refine gf_q_41 hx hb hts hown hK hG hW (gN_s hx16) d_q_ask_28 ?_
    refine lv_iload_n hx hb d_q_ask_31 rfl (lv_at hl 3 rfl) ?_
    replace h := bs h
    obtain ⟨x17, hx17, h⟩ := h
    refine wo_iald hx hb hK hW (t := 0) rfl hx17 d_q_ask_32 ?_
    refine lv_aload_n hx hb d_q_ask_33 rfl (lv_at hl 2 rfl) ?_
    replace h := bs h
    obtain ⟨x18, hx18, h⟩ := h
    refine gf_q_44 hx hb hts hown hK hG hW (gN_s hx18) d_q_ask_34 ?_
    refine lv_iload_n hx hb d_q_ask_37 rfl (lv_at hl 3 rfl) ?_
    replace h := bs h
    obtain ⟨x19, hx19, h⟩ := h
    refine wo_iald hx hb hK hW (t := 0) rfl hx19 d_q_ask_38 ?_
    replace h := bs2 h
    obtain ⟨x21, w20, hw20, h⟩ := h
    refine cv_q_347 (As := [.int x17, .int x19]) (rest := []) hx hb hml hown hts hK hG hW (c_q_work l D cA base hw20) (kb_q_work hw20) ⟨Nat.le_of_ble_eq_true rfl, Nat.le_of_ble_eq_true rfl⟩ ⟨Nat.le_of_ble_eq_true rfl, Nat.le_of_ble_eq_true rfl⟩ rfl hl.1 rfl (Nat.le_of_ble_eq_true rfl) d_q_ask_39 (fun H locs hW => ?_)
    refine lv_if_eq (tgt := 49) hx hb d_q_ask_42 (by decide) (fun c22 => ?_) (fun c22 => ?_)
    · rw [if_pos c22] at h
      exact j_q_ask_49 C a0 a1 x7 w20 h _ _ _ hW (lv_sub hl [2, 3, 0] rfl)
    · rw [if_neg c22] at h
      refine lv_iconst (v := (1 : Int32)) hx hb d_q_ask_45 (by decide) ?_
      refine lv_goto (tgt := 50) hx hb d_q_ask_46 (by decide) ?_
      exact j_q_ask_50 C a0 a1 x7 (1 : Int32) w20 h _ _ _ hW (lv_sub hl [2, 3, 0] rfl)
theorem cv_q_357 {p : Program} {l : Launch} {e : Env} {R : Room} {s : State} {m : MethodId} {args : Array Value} {below : List Frame} {meth : Method} {c : Code} {H : Heap} {locs : List Loc} {cells slots : Nat} {Q : State → Prop} {D : va_G} {cA : Nat → ClassId} {base : Nat} {w w' : WW} {cc : ByteArray} {pc nL : Nat} {ls : Array Slot} {rest st0 As : List Value} {ov : Option Value} {b : Nat} (hx : p.tables.exec = Jvm.exec) (hb : c.code = cc) (hml : c.maxLocals = nL) (hown : s.vm.findClass Rc_q = some m.cls) (hts : ∀ w ∈ gt, w.before args s = true) (hK : va_K D cls (wo_tys cA) s) (hG : wo_G cA base s) (hW : wo_S D cls cA base s w H locs) (hM : mt l D cls (wo_tys cA) cA base y_q_ask (Cond.code y_q_ask b_q_ask 4 (some .int) :: gt) rm_q_ask (.ref (base + b) :: As) w ov w' rm_q_ask.cells rm_q_ask.slots) (hkb : kb w b 9 = true) (hR : rm_q_ask.frames + 1 ≤ R.frames ∧ 8 + (4 + 11) + rm_q_ask.locals ≤ R.locals) (hf : cells + rm_q_ask.cells ≤ R.cells ∧ slots + rm_q_ask.slots ≤ R.slots) (hn : As.length = 1) (hsz : ls.size = nL) (hst : st0 = As.reverse ++ .ref (base + b) :: rest) (hcat : (rest.map fun v => v.category).sum ≤ 8) (hdg : decode cc pc = .ok (.invokevirtual 357, 3)) (kk : ∀ (H1 : Heap) (locs1 : List Loc), wo_S D cls cA base s w' H1 locs1 → W p l e R s m args below meth c H1 locs1 (cells + rm_q_ask.cells) (slots + rm_q_ask.slots) Q (F0 m (pc + 3) ls (ov.toList ++ rest))) : W p l e R s m args below meth c H locs cells slots Q (F0 m pc ls st0) :=
  wo_callV (C := Rc_q) hx hb hml hown hts hK hG hW hM hkb rfl (gt_of (i := 1540) (by decide +kernel) (by decide +kernel)) (gt_of (i := 1542) (by decide +kernel) (by decide +kernel)) (gt_sel (i := 83) (by decide +kernel) (by decide +kernel)) (gt_of (i := 10) (by decide +kernel) (by decide +kernel)) (gt_of (i := 1543) (by decide +kernel) (by decide +kernel)) (by decide +kernel) hR hf hn hsz hst hcat hdg kk
abbrev b_q_simple : ByteArray := prog_11_method_45_code
def y_q_simple : MethodName := ⟨"AlarmForgeModel", "simple", "(I)Z"⟩
def rm_q_simple : Room := { frames := 3, cells := 0, slots := 0, locals := 80 }
theorem d_q_simple_0 : decode b_q_simple 0 = .ok (.aload_n 0, 1) := by decide +kernel
theorem d_q_simple_1 : decode b_q_simple 1 = .ok (.getfield 26, 3) := by decide +kernel
theorem d_q_simple_4 : decode b_q_simple 4 = .ok (.iload_n 1, 1) := by decide +kernel
theorem d_q_simple_5 : decode b_q_simple 5 = .ok (.iaload, 1) := by decide +kernel
theorem d_q_simple_6 : decode b_q_simple 6 = .ok (.iconst 1, 1) := by decide +kernel
theorem d_q_simple_7 : decode b_q_simple 7 = .ok (.if_icmp .ne (73), 3) := by decide +kernel
theorem d_q_simple_10 : decode b_q_simple 10 = .ok (.aload_n 0, 1) := by decide +kernel
theorem d_q_simple_11 : decode b_q_simple 11 = .ok (.getfield 102, 3) := by decide +kernel
theorem d_q_simple_14 : decode b_q_simple 14 = .ok (.aload_n 0, 1) := by decide +kernel
theorem d_q_simple_15 : decode b_q_simple 15 = .ok (.getfield 29, 3) := by decide +kernel
theorem d_q_simple_18 : decode b_q_simple 18 = .ok (.iload_n 1, 1) := by decide +kernel
theorem d_q_simple_19 : decode b_q_simple 19 = .ok (.iaload, 1) := by decide +kernel
theorem d_q_simple_20 : decode b_q_simple 20 = .ok (.aload_n 0, 1) := by decide +kernel
theorem d_q_simple_21 : decode b_q_simple 21 = .ok (.getfield 354, 3) := by decide +kernel
theorem d_q_simple_24 : decode b_q_simple 24 = .ok (.aload_n 0, 1) := by decide +kernel
theorem d_q_simple_25 : decode b_q_simple 25 = .ok (.getfield 328, 3) := by decide +kernel
theorem d_q_simple_28 : decode b_q_simple 28 = .ok (.if_icmp .ge (15), 3) := by decide +kernel
theorem d_q_simple_31 : decode b_q_simple 31 = .ok (.aload_n 0, 1) := by decide +kernel
theorem d_q_simple_32 : decode b_q_simple 32 = .ok (.getfield 13, 3) := by decide +kernel
theorem d_q_simple_35 : decode b_q_simple 35 = .ok (.aload_n 0, 1) := by decide +kernel
theorem d_q_simple_36 : decode b_q_simple 36 = .ok (.getfield 354, 3) := by decide +kernel
theorem d_q_simple_39 : decode b_q_simple 39 = .ok (.iaload, 1) := by decide +kernel
theorem d_q_simple_40 : decode b_q_simple 40 = .ok (.goto (4), 3) := by decide +kernel
theorem d_q_simple_43 : decode b_q_simple 43 = .ok (.iconst 0, 1) := by decide +kernel
theorem d_q_simple_44 : decode b_q_simple 44 = .ok (.iastore, 1) := by decide +kernel
theorem d_q_simple_45 : decode b_q_simple 45 = .ok (.aload_n 0, 1) := by decide +kernel
theorem d_q_simple_46 : decode b_q_simple 46 = .ok (.getfield 354, 3) := by decide +kernel
theorem d_q_simple_49 : decode b_q_simple 49 = .ok (.aload_n 0, 1) := by decide +kernel
theorem d_q_simple_50 : decode b_q_simple 50 = .ok (.getfield 328, 3) := by decide +kernel
theorem d_q_simple_53 : decode b_q_simple 53 = .ok (.if_icmp .ge (13), 3) := by decide +kernel
theorem d_q_simple_56 : decode b_q_simple 56 = .ok (.aload_n 0, 1) := by decide +kernel
theorem d_q_simple_57 : decode b_q_simple 57 = .ok (.dup, 1) := by decide +kernel
theorem d_q_simple_58 : decode b_q_simple 58 = .ok (.getfield 354, 3) := by decide +kernel
theorem d_q_simple_61 : decode b_q_simple 61 = .ok (.iconst 1, 1) := by decide +kernel
theorem d_q_simple_62 : decode b_q_simple 62 = .ok (.iadd, 1) := by decide +kernel
theorem d_q_simple_63 : decode b_q_simple 63 = .ok (.putfield 354, 3) := by decide +kernel
theorem d_q_simple_66 : decode b_q_simple 66 = .ok (.aload_n 0, 1) := by decide +kernel
theorem d_q_simple_67 : decode b_q_simple 67 = .ok (.getfield 114, 3) := by decide +kernel
theorem d_q_simple_70 : decode b_q_simple 70 = .ok (.aload_n 0, 1) := by decide +kernel
theorem d_q_simple_71 : decode b_q_simple 71 = .ok (.getfield 29, 3) := by decide +kernel
theorem d_q_simple_74 : decode b_q_simple 74 = .ok (.iload_n 1, 1) := by decide +kernel
theorem d_q_simple_75 : decode b_q_simple 75 = .ok (.iaload, 1) := by decide +kernel
theorem d_q_simple_76 : decode b_q_simple 76 = .ok (.iconst 1, 1) := by decide +kernel
theorem d_q_simple_77 : decode b_q_simple 77 = .ok (.bastore, 1) := by decide +kernel
theorem d_q_simple_78 : decode b_q_simple 78 = .ok (.iconst 1, 1) := by decide +kernel
theorem d_q_simple_79 : decode b_q_simple 79 = .ok (.ireturn, 1) := by decide +kernel
theorem d_q_simple_80 : decode b_q_simple 80 = .ok (.aload_n 0, 1) := by decide +kernel
theorem d_q_simple_81 : decode b_q_simple 81 = .ok (.getfield 26, 3) := by decide +kernel
theorem d_q_simple_84 : decode b_q_simple 84 = .ok (.iload_n 1, 1) := by decide +kernel
theorem d_q_simple_85 : decode b_q_simple 85 = .ok (.iaload, 1) := by decide +kernel
theorem d_q_simple_86 : decode b_q_simple 86 = .ok (.iconst 5, 1) := by decide +kernel
theorem d_q_simple_87 : decode b_q_simple 87 = .ok (.if_icmp .ne (37), 3) := by decide +kernel
theorem d_q_simple_90 : decode b_q_simple 90 = .ok (.aload_n 0, 1) := by decide +kernel
theorem d_q_simple_91 : decode b_q_simple 91 = .ok (.iload_n 1, 1) := by decide +kernel
theorem d_q_simple_92 : decode b_q_simple 92 = .ok (.invokevirtual 357, 3) := by decide +kernel
theorem d_q_simple_95 : decode b_q_simple 95 = .ok (.istore_n 2, 1) := by decide +kernel
theorem d_q_simple_96 : decode b_q_simple 96 = .ok (.iload_n 2, 1) := by decide +kernel
theorem d_q_simple_97 : decode b_q_simple 97 = .ok (.ifCond .ne (17), 3) := by decide +kernel
theorem d_q_simple_100 : decode b_q_simple 100 = .ok (.aload_n 0, 1) := by decide +kernel
theorem d_q_simple_101 : decode b_q_simple 101 = .ok (.iconst 5, 1) := by decide +kernel
theorem d_q_simple_102 : decode b_q_simple 102 = .ok (.aload_n 0, 1) := by decide +kernel
theorem d_q_simple_103 : decode b_q_simple 103 = .ok (.getfield 32, 3) := by decide +kernel
theorem d_q_simple_106 : decode b_q_simple 106 = .ok (.iload_n 1, 1) := by decide +kernel
theorem d_q_simple_107 : decode b_q_simple 107 = .ok (.iaload, 1) := by decide +kernel
theorem d_q_simple_108 : decode b_q_simple 108 = .ok (.invokevirtual 334, 3) := by decide +kernel
theorem d_q_simple_111 : decode b_q_simple 111 = .ok (.goto (12), 3) := by decide +kernel
theorem d_q_simple_114 : decode b_q_simple 114 = .ok (.iload_n 2, 1) := by decide +kernel
theorem d_q_simple_115 : decode b_q_simple 115 = .ok (.ifCond .le (7), 3) := by decide +kernel
theorem d_q_simple_118 : decode b_q_simple 118 = .ok (.iconst 1, 1) := by decide +kernel
theorem d_q_simple_119 : decode b_q_simple 119 = .ok (.goto (4), 3) := by decide +kernel
theorem d_q_simple_122 : decode b_q_simple 122 = .ok (.iconst 0, 1) := by decide +kernel
theorem d_q_simple_123 : decode b_q_simple 123 = .ok (.ireturn, 1) := by decide +kernel
theorem d_q_simple_124 : decode b_q_simple 124 = .ok (.aload_n 0, 1) := by decide +kernel
theorem d_q_simple_125 : decode b_q_simple 125 = .ok (.aload_n 0, 1) := by decide +kernel
theorem d_q_simple_126 : decode b_q_simple 126 = .ok (.getfield 35, 3) := by decide +kernel
theorem d_q_simple_129 : decode b_q_simple 129 = .ok (.iload_n 1, 1) := by decide +kernel
theorem d_q_simple_130 : decode b_q_simple 130 = .ok (.iaload, 1) := by decide +kernel
theorem d_q_simple_131 : decode b_q_simple 131 = .ok (.aload_n 0, 1) := by decide +kernel
theorem d_q_simple_132 : decode b_q_simple 132 = .ok (.getfield 38, 3) := by decide +kernel
theorem d_q_simple_135 : decode b_q_simple 135 = .ok (.iload_n 1, 1) := by decide +kernel
theorem d_q_simple_136 : decode b_q_simple 136 = .ok (.iaload, 1) := by decide +kernel
theorem d_q_simple_137 : decode b_q_simple 137 = .ok (.invokevirtual 347, 3) := by decide +kernel
theorem d_q_simple_140 : decode b_q_simple 140 = .ok (.istore_n 2, 1) := by decide +kernel
theorem d_q_simple_141 : decode b_q_simple 141 = .ok (.iload_n 2, 1) := by decide +kernel
theorem d_q_simple_142 : decode b_q_simple 142 = .ok (.ifCond .ne (5), 3) := by decide +kernel
theorem d_q_simple_145 : decode b_q_simple 145 = .ok (.iconst 0, 1) := by decide +kernel
theorem d_q_simple_146 : decode b_q_simple 146 = .ok (.ireturn, 1) := by decide +kernel
theorem d_q_simple_147 : decode b_q_simple 147 = .ok (.aload_n 0, 1) := by decide +kernel
theorem d_q_simple_148 : decode b_q_simple 148 = .ok (.getfield 26, 3) := by decide +kernel
theorem d_q_simple_151 : decode b_q_simple 151 = .ok (.iload_n 1, 1) := by decide +kernel
theorem d_q_simple_152 : decode b_q_simple 152 = .ok (.iaload, 1) := by decide +kernel
theorem d_q_simple_153 : decode b_q_simple 153 = .ok (.ifCond .ne (32), 3) := by decide +kernel
theorem d_q_simple_156 : decode b_q_simple 156 = .ok (.aload_n 0, 1) := by decide +kernel
theorem d_q_simple_157 : decode b_q_simple 157 = .ok (.getfield 102, 3) := by decide +kernel
theorem d_q_simple_160 : decode b_q_simple 160 = .ok (.aload_n 0, 1) := by decide +kernel
theorem d_q_simple_161 : decode b_q_simple 161 = .ok (.getfield 29, 3) := by decide +kernel
theorem d_q_simple_164 : decode b_q_simple 164 = .ok (.iload_n 1, 1) := by decide +kernel
theorem d_q_simple_165 : decode b_q_simple 165 = .ok (.iaload, 1) := by decide +kernel
theorem d_q_simple_166 : decode b_q_simple 166 = .ok (.aload_n 0, 1) := by decide +kernel
theorem d_q_simple_167 : decode b_q_simple 167 = .ok (.getfield 344, 3) := by decide +kernel
theorem d_q_simple_170 : decode b_q_simple 170 = .ok (.iastore, 1) := by decide +kernel
theorem d_q_simple_171 : decode b_q_simple 171 = .ok (.aload_n 0, 1) := by decide +kernel
theorem d_q_simple_172 : decode b_q_simple 172 = .ok (.getfield 114, 3) := by decide +kernel
theorem d_q_simple_175 : decode b_q_simple 175 = .ok (.aload_n 0, 1) := by decide +kernel
theorem d_q_simple_176 : decode b_q_simple 176 = .ok (.getfield 29, 3) := by decide +kernel
theorem d_q_simple_179 : decode b_q_simple 179 = .ok (.iload_n 1, 1) := by decide +kernel
theorem d_q_simple_180 : decode b_q_simple 180 = .ok (.iaload, 1) := by decide +kernel
theorem d_q_simple_181 : decode b_q_simple 181 = .ok (.iconst 1, 1) := by decide +kernel
theorem d_q_simple_182 : decode b_q_simple 182 = .ok (.bastore, 1) := by decide +kernel
theorem d_q_simple_183 : decode b_q_simple 183 = .ok (.iconst 1, 1) := by decide +kernel
theorem d_q_simple_184 : decode b_q_simple 184 = .ok (.ireturn, 1) := by decide +kernel
theorem d_q_simple_185 : decode b_q_simple 185 = .ok (.aload_n 0, 1) := by decide +kernel
theorem d_q_simple_186 : decode b_q_simple 186 = .ok (.getfield 344, 3) := by decide +kernel
theorem d_q_simple_189 : decode b_q_simple 189 = .ok (.istore_n 3, 1) := by decide +kernel
theorem d_q_simple_190 : decode b_q_simple 190 = .ok (.iload_n 3, 1) := by decide +kernel
theorem d_q_simple_191 : decode b_q_simple 191 = .ok (.i2l, 1) := by decide +kernel
theorem d_q_simple_192 : decode b_q_simple 192 = .ok (.lconst 0, 1) := by decide +kernel
theorem d_q_simple_193 : decode b_q_simple 193 = .ok (.ldc2_w 338, 3) := by decide +kernel
theorem d_q_simple_196 : decode b_q_simple 196 = .ok (.invokestatic 155, 3) := by decide +kernel
theorem d_q_simple_199 : decode b_q_simple 199 = .ok (.ifCond .ne (15), 3) := by decide +kernel
theorem d_q_simple_202 : decode b_q_simple 202 = .ok (.aload_n 0, 1) := by decide +kernel
theorem d_q_simple_203 : decode b_q_simple 203 = .ok (.iconst 2, 1) := by decide +kernel
theorem d_q_simple_204 : decode b_q_simple 204 = .ok (.aload_n 0, 1) := by decide +kernel
theorem d_q_simple_205 : decode b_q_simple 205 = .ok (.getfield 32, 3) := by decide +kernel
theorem d_q_simple_208 : decode b_q_simple 208 = .ok (.iload_n 1, 1) := by decide +kernel
theorem d_q_simple_209 : decode b_q_simple 209 = .ok (.iaload, 1) := by decide +kernel
theorem d_q_simple_210 : decode b_q_simple 210 = .ok (.invokevirtual 334, 3) := by decide +kernel
theorem d_q_simple_213 : decode b_q_simple 213 = .ok (.ireturn, 1) := by decide +kernel
theorem d_q_simple_214 : decode b_q_simple 214 = .ok (.aload_n 0, 1) := by decide +kernel
theorem d_q_simple_215 : decode b_q_simple 215 = .ok (.aload_n 0, 1) := by decide +kernel
theorem d_q_simple_216 : decode b_q_simple 216 = .ok (.getfield 41, 3) := by decide +kernel
theorem d_q_simple_219 : decode b_q_simple 219 = .ok (.iload_n 1, 1) := by decide +kernel
theorem d_q_simple_220 : decode b_q_simple 220 = .ok (.iaload, 1) := by decide +kernel
theorem d_q_simple_221 : decode b_q_simple 221 = .ok (.aload_n 0, 1) := by decide +kernel
theorem d_q_simple_222 : decode b_q_simple 222 = .ok (.getfield 44, 3) := by decide +kernel
theorem d_q_simple_225 : decode b_q_simple 225 = .ok (.iload_n 1, 1) := by decide +kernel
theorem d_q_simple_226 : decode b_q_simple 226 = .ok (.iaload, 1) := by decide +kernel
theorem d_q_simple_227 : decode b_q_simple 227 = .ok (.invokevirtual 347, 3) := by decide +kernel
theorem d_q_simple_230 : decode b_q_simple 230 = .ok (.istore_n 2, 1) := by decide +kernel
theorem d_q_simple_231 : decode b_q_simple 231 = .ok (.iload_n 2, 1) := by decide +kernel
theorem d_q_simple_232 : decode b_q_simple 232 = .ok (.ifCond .eq (22), 3) := by decide +kernel
theorem d_q_simple_235 : decode b_q_simple 235 = .ok (.aload_n 0, 1) := by decide +kernel
theorem d_q_simple_236 : decode b_q_simple 236 = .ok (.getfield 105, 3) := by decide +kernel
theorem d_q_simple_239 : decode b_q_simple 239 = .ok (.iconst 4, 1) := by decide +kernel
theorem d_q_simple_240 : decode b_q_simple 240 = .ok (.aload_n 0, 1) := by decide +kernel
theorem d_q_simple_241 : decode b_q_simple 241 = .ok (.getfield 29, 3) := by decide +kernel
theorem d_q_simple_244 : decode b_q_simple 244 = .ok (.iload_n 1, 1) := by decide +kernel
theorem d_q_simple_245 : decode b_q_simple 245 = .ok (.iaload, 1) := by decide +kernel
theorem d_q_simple_246 : decode b_q_simple 246 = .ok (.imul, 1) := by decide +kernel
theorem d_q_simple_247 : decode b_q_simple 247 = .ok (.iload_n 3, 1) := by decide +kernel
theorem d_q_simple_248 : decode b_q_simple 248 = .ok (.iadd, 1) := by decide +kernel
theorem d_q_simple_249 : decode b_q_simple 249 = .ok (.aload_n 0, 1) := by decide +kernel
theorem d_q_simple_250 : decode b_q_simple 250 = .ok (.getfield 344, 3) := by decide +kernel
theorem d_q_simple_253 : decode b_q_simple 253 = .ok (.iastore, 1) := by decide +kernel
theorem d_q_simple_254 : decode b_q_simple 254 = .ok (.iload_n 2, 1) := by decide +kernel
theorem d_q_simple_255 : decode b_q_simple 255 = .ok (.ireturn, 1) := by decide +kernel
theorem kb_q_simple {a0 : Nat} {a1 : Int32} {w : WW} {r : (Int32 × WW)} (h : f_q_simple a0 a1 w = some r) : kb w a0 9 = true := (its h).1
set_option maxHeartbeats 4000000 in
set_option maxRecDepth 100000 in
theorem j_q_simple_254 {p : Program} {l : Launch} {e : Env} {s : State} {m : MethodId} {args : Array Value} {below : List Frame} {meth : Method} {c : Code} {D : va_G} {cA : Nat → ClassId} {base : Nat} {r : Int32} {w' : WW} (C : cx b_q_simple (some .boolean) 4 y_q_simple.cls "simple" p s m args meth c D cA base)   : ∀ (y2 : Int32) (w : WW), f_q_simple_254 y2 w = some (r, w') → ∀ (H : Heap) (locs : List Loc) (ls : Array Slot), wo_S D cls cA base s w H locs → lv_has ls 4 [(2, .int y2)] → W p l e rm_q_simple s m args below meth c H locs 0 0 (MQ below (wo_Q D cls cA base (some (.int r)) w') args s rm_q_simple.cells rm_q_simple.slots (wo_B base)) (F0 m 254 ls []) := by
  obtain ⟨hx, hb, hr, hml, hown, hts, hlk, hnm, hK, hG⟩ := id C
  intro y2 w h H locs ls hW hl
  unfold f_q_simple_254 at h
  refine lv_iload_n hx hb d_q_simple_254 rfl (lv_at hl 0 rfl) ?_
  replace h := its h
  obtain ⟨c28, h⟩ := h
  cases h
  exact wo_zret hx hb hr hlk hW c28 d_q_simple_255
set_option maxHeartbeats 4000000 in
set_option maxRecDepth 100000 in
theorem j_q_simple_123 {p : Program} {l : Launch} {e : Env} {s : State} {m : MethodId} {args : Array Value} {below : List Frame} {meth : Method} {c : Code} {D : va_G} {cA : Nat → ClassId} {base : Nat} {r : Int32} {w' : WW} (C : cx b_q_simple (some .boolean) 4 y_q_simple.cls "simple" p s m args meth c D cA base)   : ∀ (z0 : Int32) (w : WW), f_q_simple_123 z0 w = some (r, w') → ∀ (H : Heap) (locs : List Loc) (ls : Array Slot), wo_S D cls cA base s w H locs → lv_has ls 4 [] → W p l e rm_q_simple s m args below meth c H locs 0 0 (MQ below (wo_Q D cls cA base (some (.int r)) w') args s rm_q_simple.cells rm_q_simple.slots (wo_B base)) (F0 m 123 ls [.int z0]) := by
  obtain ⟨hx, hb, hr, hml, hown, hts, hlk, hnm, hK, hG⟩ := id C
  intro z0 w h H locs ls hW hl
  unfold f_q_simple_123 at h
  replace h := its h
  obtain ⟨c54, h⟩ := h
  cases h
  exact wo_zret hx hb hr hlk hW c54 d_q_simple_123
set_option maxHeartbeats 4000000 in
set_option maxRecDepth 100000 in
theorem j_q_simple_66 {p : Program} {l : Launch} {e : Env} {s : State} {m : MethodId} {args : Array Value} {below : List Frame} {meth : Method} {c : Code} {D : va_G} {cA : Nat → ClassId} {base : Nat} {r : Int32} {w' : WW} (C : cx b_q_simple (some .boolean) 4 y_q_simple.cls "simple" p s m args meth c D cA base)   : ∀ (y0 : Nat) (y1 : Int32) (w : WW), f_q_simple_66 y0 y1 w = some (r, w') → ∀ (H : Heap) (locs : List Loc) (ls : Array Slot), wo_S D cls cA base s w H locs → lv_has ls 4 [(0, .ref (base + y0)), (1, .int y1)] → W p l e rm_q_simple s m args below meth c H locs 0 0 (MQ below (wo_Q D cls cA base (some (.int r)) w') args s rm_q_simple.cells rm_q_simple.slots (wo_B base)) (F0 m 66 ls []) := by
  obtain ⟨hx, hb, hr, hml, hown, hts, hlk, hnm, hK, hG⟩ := id C
  intro y0 y1 w h H locs ls hW hl
  unfold f_q_simple_66 at h
  refine lv_aload_n hx hb d_q_simple_66 rfl (lv_at hl 0 rfl) ?_
  replace h := bs h
  obtain ⟨x69, hx69, h⟩ := h
  refine gf_q_114 hx hb hts hown hK hG hW (gN_s hx69) d_q_simple_67 ?_
  refine lv_aload_n hx hb d_q_simple_70 rfl (lv_at hl 0 rfl) ?_
  replace h := bs h
  obtain ⟨x70, hx70, h⟩ := h
  refine gf_q_29 hx hb hts hown hK hG hW (gN_s hx70) d_q_simple_71 ?_
  refine lv_iload_n hx hb d_q_simple_74 rfl (lv_at hl 1 rfl) ?_
  replace h := bs h
  obtain ⟨x71, hx71, h⟩ := h
  refine wo_iald hx hb hK hW (t := 0) rfl hx71 d_q_simple_75 ?_
  refine lv_iconst (v := (1 : Int32)) hx hb d_q_simple_76 (by decide) ?_
  replace h := bs h
  obtain ⟨w72, hw72, h⟩ := h
  refine wo_zast hx hb hK hW (t := 2) rfl hw72 d_q_simple_77 (fun H locs hW => ?_)
  refine lv_iconst (v := (1 : Int32)) hx hb d_q_simple_78 (by decide) ?_
  replace h := its h
  obtain ⟨c73, h⟩ := h
  cases h
  exact wo_zret hx hb hr hlk hW c73 d_q_simple_79
set_option maxHeartbeats 4000000 in
set_option maxRecDepth 100000 in
theorem j_q_simple_44 {p : Program} {l : Launch} {e : Env} {s : State} {m : MethodId} {args : Array Value} {below : List Frame} {meth : Method} {c : Code} {D : va_G} {cA : Nat → ClassId} {base : Nat} {r : Int32} {w' : WW} (C : cx b_q_simple (some .boolean) 4 y_q_simple.cls "simple" p s m args meth c D cA base)   : ∀ (y0 : Nat) (y1 : Int32) (z0 : Nat) (z1 : Int32) (z2 : Int32) (w : WW), f_q_simple_44 y0 y1 z0 z1 z2 w = some (r, w') → ∀ (H : Heap) (locs : List Loc) (ls : Array Slot), wo_S D cls cA base s w H locs → lv_has ls 4 [(0, .ref (base + y0)), (1, .int y1)] → W p l e rm_q_simple s m args below meth c H locs 0 0 (MQ below (wo_Q D cls cA base (some (.int r)) w') args s rm_q_simple.cells rm_q_simple.slots (wo_B base)) (F0 m 44 ls [.int z2, .int z1, .ref (base + z0)]) := by
  obtain ⟨hx, hb, hr, hml, hown, hts, hlk, hnm, hK, hG⟩ := id C
  intro y0 y1 z0 z1 z2 w h H locs ls hW hl
  unfold f_q_simple_44 at h
  replace h := bs h
  obtain ⟨w65, hw65, h⟩ := h
  refine wo_iast hx hb hK hW (t := 0) rfl hw65 d_q_simple_44 (fun H locs hW => ?_)
  refine lv_aload_n hx hb d_q_simple_45 rfl (lv_at hl 0 rfl) ?_
  replace h := bs h
  obtain ⟨x66, hx66, h⟩ := h
  refine gf_q_354 hx hb hts hown hK hG hW (gI_s hx66) d_q_simple_46 ?_
  refine lv_aload_n hx hb d_q_simple_49 rfl (lv_at hl 0 rfl) ?_
  replace h := bs h
  obtain ⟨x67, hx67, h⟩ := h
  refine gf_q_328 hx hb hts hown hK hG hW (gI_s hx67) d_q_simple_50 ?_
  refine lv_icmp_ge (tgt := 66) hx hb d_q_simple_53 (by decide) (fun c68 => ?_) (fun c68 => ?_)
  · rw [if_pos c68] at h
    exact j_q_simple_66 C y0 y1 w65 h _ _ _ hW (lv_sub hl [0, 1] rfl)
  · rw [if_neg c68] at h
    refine lv_aload_n hx hb d_q_simple_56 rfl (lv_at hl 0 rfl) ?_
    refine lv_dup hx hb d_q_simple_57 rfl ?_
    replace h := bs h
    obtain ⟨x74, hx74, h⟩ := h
    refine gf_q_354 hx hb hts hown hK hG hW (gI_s hx74) d_q_simple_58 ?_
    refine lv_iconst (v := (1 : Int32)) hx hb d_q_simple_61 (by decide) ?_
    refine lv_iadd hx hb d_q_simple_62 ?_
    replace h := bs h
    obtain ⟨w75, hw75, h⟩ := h
    refine pf_q_354 hx hb hts hown hK hG hW rfl rfl (pbi hw75 rfl) d_q_simple_63 (fun H locs hW => ?_)
    exact j_q_simple_66 C y0 y1 w75 h _ _ _ hW (lv_sub hl [0, 1] rfl)
set_option maxHeartbeats 4000000 in
set_option maxRecDepth 100000 in
theorem c_q_simple (l : Launch) (D : va_G) (cA : Nat → ClassId) (base : Nat) {a0 : Nat} {a1 : Int32} {w w' : WW} {r : Int32} (h : f_q_simple a0 a1 w = some (r, w')) : mt l D cls (wo_tys cA) cA base y_q_simple (Cond.code y_q_simple b_q_simple 4 (some .boolean) :: gt) rm_q_simple [.ref (base + a0), .int a1] w (some (.int r)) w' rm_q_simple.cells rm_q_simple.slots := by
  refine mt_start (by decide) (Nat.le_of_ble_eq_true rfl) ?_
  intro p e s m below meth c ls hx hb hr hml hown hts hlk hnm hK hG hW hl
  have C : cx b_q_simple (some .boolean) 4 y_q_simple.cls "simple" p s m [.ref (base + a0), .int a1].toArray meth c D cA base := ⟨hx, hb, hr, hml, hown, hts, hlk, hnm, hK, hG⟩
  have hl : lv_has ls 4 [(0, .ref (base + a0)), (1, .int a1)] := hl
  unfold f_q_simple at h
  replace h := its h
  obtain ⟨-, h⟩ := h
  refine lv_aload_n hx hb d_q_simple_0 rfl (lv_at hl 0 rfl) ?_
  replace h := bs h
  obtain ⟨x1, hx1, h⟩ := h
  refine gf_q_26 hx hb hts hown hK hG hW (gN_s hx1) d_q_simple_1 ?_
  refine lv_iload_n hx hb d_q_simple_4 rfl (lv_at hl 1 rfl) ?_
  replace h := bs h
  obtain ⟨x2, hx2, h⟩ := h
  refine wo_iald hx hb hK hW (t := 0) rfl hx2 d_q_simple_5 ?_
  refine lv_iconst (v := (1 : Int32)) hx hb d_q_simple_6 (by decide) ?_
  refine lv_icmp_ne (tgt := 80) hx hb d_q_simple_7 (by decide) (fun c3 => ?_) (fun c3 => ?_)
  · rw [if_neg c3] at h
    refine lv_aload_n hx hb d_q_simple_80 rfl (lv_at hl 0 rfl) ?_
    replace h := bs h
    obtain ⟨x4, hx4, h⟩ := h
    refine gf_q_26 hx hb hts hown hK hG hW (gN_s hx4) d_q_simple_81 ?_
    refine lv_iload_n hx hb d_q_simple_84 rfl (lv_at hl 1 rfl) ?_
    replace h := bs h
    obtain ⟨x5, hx5, h⟩ := h
    refine wo_iald hx hb hK hW (t := 0) rfl hx5 d_q_simple_85 ?_
    refine lv_iconst (v := (5 : Int32)) hx hb d_q_simple_86 (by decide) ?_
    refine lv_icmp_ne (tgt := 124) hx hb d_q_simple_87 (by decide) (fun c6 => ?_) (fun c6 => ?_)
    · rw [if_neg c6] at h
      refine lv_aload_n hx hb d_q_simple_124 rfl (lv_at hl 0 rfl) ?_
      refine lv_aload_n hx hb d_q_simple_125 rfl (lv_at hl 0 rfl) ?_
      replace h := bs h
      obtain ⟨x7, hx7, h⟩ := h
      refine gf_q_35 hx hb hts hown hK hG hW (gN_s hx7) d_q_simple_126 ?_
      refine lv_iload_n hx hb d_q_simple_129 rfl (lv_at hl 1 rfl) ?_
      replace h := bs h
      obtain ⟨x8, hx8, h⟩ := h
      refine wo_iald hx hb hK hW (t := 0) rfl hx8 d_q_simple_130 ?_
      refine lv_aload_n hx hb d_q_simple_131 rfl (lv_at hl 0 rfl) ?_
      replace h := bs h
      obtain ⟨x9, hx9, h⟩ := h
      refine gf_q_38 hx hb hts hown hK hG hW (gN_s hx9) d_q_simple_132 ?_
      refine lv_iload_n hx hb d_q_simple_135 rfl (lv_at hl 1 rfl) ?_
      replace h := bs h
      obtain ⟨x10, hx10, h⟩ := h
      refine wo_iald hx hb hK hW (t := 0) rfl hx10 d_q_simple_136 ?_
      replace h := bs2 h
      obtain ⟨x12, w11, hw11, h⟩ := h
      refine cv_q_347 (As := [.int x8, .int x10]) (rest := []) hx hb hml hown hts hK hG hW (c_q_work l D cA base hw11) (kb_q_work hw11) ⟨Nat.le_of_ble_eq_true rfl, Nat.le_of_ble_eq_true rfl⟩ ⟨Nat.le_of_ble_eq_true rfl, Nat.le_of_ble_eq_true rfl⟩ rfl hl.1 rfl (Nat.le_of_ble_eq_true rfl) d_q_simple_137 (fun H locs hW => ?_)
      refine lv_istore_n (lv' := [(2, .int x12), (0, .ref (base + a0)), (1, .int a1)]) hx hb d_q_simple_140 rfl hl (by decide) rfl (fun ls hl => ?_)
      refine lv_iload_n hx hb d_q_simple_141 rfl (lv_at hl 0 rfl) ?_
      refine lv_if_ne (tgt := 147) hx hb d_q_simple_142 (by decide) (fun c13 => ?_) (fun c13 => ?_)
      · rw [if_neg c13] at h
        refine lv_aload_n hx hb d_q_simple_147 rfl (lv_at hl 1 rfl) ?_
        replace h := bs h
        obtain ⟨x14, hx14, h⟩ := h
        refine gf_q_26 hx hb hts hown hK hG hW (gN_s hx14) d_q_simple_148 ?_
        refine lv_iload_n hx hb d_q_simple_151 rfl (lv_at hl 2 rfl) ?_
        replace h := bs h
        obtain ⟨x15, hx15, h⟩ := h
        refine wo_iald hx hb hK hW (t := 0) rfl hx15 d_q_simple_152 ?_
        refine lv_if_ne (tgt := 185) hx hb d_q_simple_153 (by decide) (fun c16 => ?_) (fun c16 => ?_)
        · rw [if_neg c16] at h
          refine lv_aload_n hx hb d_q_simple_185 rfl (lv_at hl 1 rfl) ?_
          replace h := bs h
          obtain ⟨x17, hx17, h⟩ := h
          refine gf_q_344 hx hb hts hown hK hG hW (gI_s hx17) d_q_simple_186 ?_
          refine lv_istore_n (lv' := [(3, .int x17), (2, .int x12), (0, .ref (base + a0)), (1, .int a1)]) hx hb d_q_simple_189 rfl hl (by decide) rfl (fun ls hl => ?_)
          refine lv_iload_n hx hb d_q_simple_190 rfl (lv_at hl 0 rfl) ?_
          refine lv_i2l hx hb d_q_simple_191 rfl ?_
          refine lv_lconst (v := (0 : Int64)) hx hb d_q_simple_192 (by decide) ?_
          refine lv_ldc2 (own := Rc_q) (v := (3 : Int64)) hx hb hown (hts (.constantLong "AlarmForgeModel" 338 (3 : Int64)) (gt_of (i := 1552) (by decide +kernel) (by decide +kernel))) d_q_simple_193 ?_
          replace h := bs2 h
          obtain ⟨x19, w18, hw18, h⟩ := h
          refine cs_q_155 (As := [.long (Int32.toInt64 x17), .long (0 : Int64), .long (3 : Int64)]) (rest := []) hx hb hml hown hts hK hG hW (c_q_in l D cA base hw18) ⟨Nat.le_of_ble_eq_true rfl, Nat.le_of_ble_eq_true rfl⟩ ⟨Nat.le_of_ble_eq_true rfl, Nat.le_of_ble_eq_true rfl⟩ rfl hl.1 rfl (Nat.le_of_ble_eq_true rfl) d_q_simple_196 (fun H locs hW => ?_)
          refine lv_if_ne (tgt := 214) hx hb d_q_simple_199 (by decide) (fun c20 => ?_) (fun c20 => ?_)
          · rw [if_neg c20] at h
            refine lv_aload_n hx hb d_q_simple_214 rfl (lv_at hl 2 rfl) ?_
            refine lv_aload_n hx hb d_q_simple_215 rfl (lv_at hl 2 rfl) ?_
            replace h := bs h
            obtain ⟨x21, hx21, h⟩ := h
            refine gf_q_41 hx hb hts hown hK hG hW (gN_s hx21) d_q_simple_216 ?_
            refine lv_iload_n hx hb d_q_simple_219 rfl (lv_at hl 3 rfl) ?_
            replace h := bs h
            obtain ⟨x22, hx22, h⟩ := h
            refine wo_iald hx hb hK hW (t := 0) rfl hx22 d_q_simple_220 ?_
            refine lv_aload_n hx hb d_q_simple_221 rfl (lv_at hl 2 rfl) ?_
            replace h := bs h
            obtain ⟨x23, hx23, h⟩ := h
            refine gf_q_44 hx hb hts hown hK hG hW (gN_s hx23) d_q_simple_222 ?_
            refine lv_iload_n hx hb d_q_simple_225 rfl (lv_at hl 3 rfl) ?_
            replace h := bs h
            obtain ⟨x24, hx24, h⟩ := h
            refine wo_iald hx hb hK hW (t := 0) rfl hx24 d_q_simple_226 ?_
            replace h := bs2 h
            obtain ⟨x26, w25, hw25, h⟩ := h
            refine cv_q_347 (As := [.int x22, .int x24]) (rest := []) hx hb hml hown hts hK hG hW (c_q_work l D cA base hw25) (kb_q_work hw25) ⟨Nat.le_of_ble_eq_true rfl, Nat.le_of_ble_eq_true rfl⟩ ⟨Nat.le_of_ble_eq_true rfl, Nat.le_of_ble_eq_true rfl⟩ rfl hl.1 rfl (Nat.le_of_ble_eq_true rfl) d_q_simple_227 (fun H locs hW => ?_)
            refine lv_istore_n (lv' := [(2, .int x26), (3, .int x17), (0, .ref (base + a0)), (1, .int a1)]) hx hb d_q_simple_230 rfl hl (by decide) rfl (fun ls hl => ?_)
            refine lv_iload_n hx hb d_q_simple_231 rfl (lv_at hl 0 rfl) ?_
            refine lv_if_eq (tgt := 254) hx hb d_q_simple_232 (by decide) (fun c27 => ?_) (fun c27 => ?_)
            · rw [if_pos c27] at h
              exact j_q_simple_254 C x26 w25 h _ _ _ hW (lv_sub hl [0] rfl)
            · rw [if_neg c27] at h
              refine lv_aload_n hx hb d_q_simple_235 rfl (lv_at hl 2 rfl) ?_
              replace h := bs h
              obtain ⟨x29, hx29, h⟩ := h
              refine gf_q_105 hx hb hts hown hK hG hW (gN_s hx29) d_q_simple_236 ?_
              refine lv_iconst (v := (4 : Int32)) hx hb d_q_simple_239 (by decide) ?_
              refine lv_aload_n hx hb d_q_simple_240 rfl (lv_at hl 2 rfl) ?_
              replace h := bs h
              obtain ⟨x30, hx30, h⟩ := h
              refine gf_q_29 hx hb hts hown hK hG hW (gN_s hx30) d_q_simple_241 ?_
              refine lv_iload_n hx hb d_q_simple_244 rfl (lv_at hl 3 rfl) ?_
              replace h := bs h
              obtain ⟨x31, hx31, h⟩ := h
              refine wo_iald hx hb hK hW (t := 0) rfl hx31 d_q_simple_245 ?_
              refine lv_imul hx hb d_q_simple_246 ?_
              refine lv_iload_n hx hb d_q_simple_247 rfl (lv_at hl 1 rfl) ?_
              refine lv_iadd hx hb d_q_simple_248 ?_
              refine lv_aload_n hx hb d_q_simple_249 rfl (lv_at hl 2 rfl) ?_
              replace h := bs h
              obtain ⟨x32, hx32, h⟩ := h
              refine gf_q_344 hx hb hts hown hK hG hW (gI_s hx32) d_q_simple_250 ?_
              replace h := bs h
              obtain ⟨w33, hw33, h⟩ := h
              refine wo_iast hx hb hK hW (t := 0) rfl hw33 d_q_simple_253 (fun H locs hW => ?_)
              exact j_q_simple_254 C x26 w33 h _ _ _ hW (lv_sub hl [0] rfl)
          · rw [if_pos c20] at h
            refine lv_aload_n hx hb d_q_simple_202 rfl (lv_at hl 2 rfl) ?_
            refine lv_iconst (v := (2 : Int32)) hx hb d_q_simple_203 (by decide) ?_
            refine lv_aload_n hx hb d_q_simple_204 rfl (lv_at hl 2 rfl) ?_
            replace h := bs h
            obtain ⟨x34, hx34, h⟩ := h
            refine gf_q_32 hx hb hts hown hK hG hW (gN_s hx34) d_q_simple_205 ?_
            refine lv_iload_n hx hb d_q_simple_208 rfl (lv_at hl 3 rfl) ?_
            replace h := bs h
            obtain ⟨x35, hx35, h⟩ := h
            refine wo_iald hx hb hK hW (t := 0) rfl hx35 d_q_simple_209 ?_
            replace h := bs2 h
            obtain ⟨x37, w36, hw36, h⟩ := h
            refine cv_q_334 (As := [.int (2 : Int32), .int x35]) (rest := []) hx hb hml hown hts hK hG hW (c_q_stop l D cA base hw36) (kb_q_stop hw36) ⟨Nat.le_of_ble_eq_true rfl, Nat.le_of_ble_eq_true rfl⟩ ⟨Nat.le_of_ble_eq_true rfl, Nat.le_of_ble_eq_true rfl⟩ rfl hl.1 rfl (Nat.le_of_ble_eq_true rfl) d_q_simple_210 (fun H locs hW => ?_)
            replace h := its h
            obtain ⟨c38, h⟩ := h
            cases h
            exact wo_zret hx hb hr hlk hW c38 d_q_simple_213
        · rw [if_pos c16] at h
          refine lv_aload_n hx hb d_q_simple_156 rfl (lv_at hl 1 rfl) ?_
          replace h := bs h
          obtain ⟨x39, hx39, h⟩ := h
          refine gf_q_102 hx hb hts hown hK hG hW (gN_s hx39) d_q_simple_157 ?_
          refine lv_aload_n hx hb d_q_simple_160 rfl (lv_at hl 1 rfl) ?_
          replace h := bs h
          obtain ⟨x40, hx40, h⟩ := h
          refine gf_q_29 hx hb hts hown hK hG hW (gN_s hx40) d_q_simple_161 ?_
          refine lv_iload_n hx hb d_q_simple_164 rfl (lv_at hl 2 rfl) ?_
          replace h := bs h
          obtain ⟨x41, hx41, h⟩ := h
          refine wo_iald hx hb hK hW (t := 0) rfl hx41 d_q_simple_165 ?_
          refine lv_aload_n hx hb d_q_simple_166 rfl (lv_at hl 1 rfl) ?_
          replace h := bs h
          obtain ⟨x42, hx42, h⟩ := h
          refine gf_q_344 hx hb hts hown hK hG hW (gI_s hx42) d_q_simple_167 ?_
          replace h := bs h
          obtain ⟨w43, hw43, h⟩ := h
          refine wo_iast hx hb hK hW (t := 0) rfl hw43 d_q_simple_170 (fun H locs hW => ?_)
          refine lv_aload_n hx hb d_q_simple_171 rfl (lv_at hl 1 rfl) ?_
          replace h := bs h
          obtain ⟨x44, hx44, h⟩ := h
          refine gf_q_114 hx hb hts hown hK hG hW (gN_s hx44) d_q_simple_172 ?_
          refine lv_aload_n hx hb d_q_simple_175 rfl (lv_at hl 1 rfl) ?_
          replace h := bs h
          obtain ⟨x45, hx45, h⟩ := h
          refine gf_q_29 hx hb hts hown hK hG hW (gN_s hx45) d_q_simple_176 ?_
          refine lv_iload_n hx hb d_q_simple_179 rfl (lv_at hl 2 rfl) ?_
          replace h := bs h
          obtain ⟨x46, hx46, h⟩ := h
          refine wo_iald hx hb hK hW (t := 0) rfl hx46 d_q_simple_180 ?_
          refine lv_iconst (v := (1 : Int32)) hx hb d_q_simple_181 (by decide) ?_
          replace h := bs h
          obtain ⟨w47, hw47, h⟩ := h
          refine wo_zast hx hb hK hW (t := 2) rfl hw47 d_q_simple_182 (fun H locs hW => ?_)
          refine lv_iconst (v := (1 : Int32)) hx hb d_q_simple_183 (by decide) ?_
          replace h := its h
          obtain ⟨c48, h⟩ := h
          cases h
          exact wo_zret hx hb hr hlk hW c48 d_q_simple_184
      · rw [if_pos c13] at h
        refine lv_iconst (v := (0 : Int32)) hx hb d_q_simple_145 (by decide) ?_
        replace h := its h
        obtain ⟨c49, h⟩ := h
        cases h
        exact wo_zret hx hb hr hlk hW c49 d_q_simple_146
    · rw [if_pos c6] at h
      refine lv_aload_n hx hb d_q_simple_90 rfl (lv_at hl 0 rfl) ?_
      refine lv_iload_n hx hb d_q_simple_91 rfl (lv_at hl 1 rfl) ?_
      replace h := bs2 h
      obtain ⟨x51, w50, hw50, h⟩ := h
      refine cv_q_357 (As := [.int a1]) (rest := []) hx hb hml hown hts hK hG hW (c_q_ask l D cA base hw50) (kb_q_ask hw50) ⟨Nat.le_of_ble_eq_true rfl, Nat.le_of_ble_eq_true rfl⟩ ⟨Nat.le_of_ble_eq_true rfl, Nat.le_of_ble_eq_true rfl⟩ rfl hl.1 rfl (Nat.le_of_ble_eq_true rfl) d_q_simple_92 (fun H locs hW => ?_)
      refine lv_istore_n (lv' := [(2, .int x51), (0, .ref (base + a0)), (1, .int a1)]) hx hb d_q_simple_95 rfl hl (by decide) rfl (fun ls hl => ?_)
      refine lv_iload_n hx hb d_q_simple_96 rfl (lv_at hl 0 rfl) ?_
      refine lv_if_ne (tgt := 114) hx hb d_q_simple_97 (by decide) (fun c52 => ?_) (fun c52 => ?_)
      · rw [if_neg c52] at h
        refine lv_iload_n hx hb d_q_simple_114 rfl (lv_at hl 0 rfl) ?_
        refine lv_if_le (tgt := 122) hx hb d_q_simple_115 (by decide) (fun c53 => ?_) (fun c53 => ?_)
        · rw [if_pos c53] at h
          refine lv_iconst (v := (0 : Int32)) hx hb d_q_simple_122 (by decide) ?_
          exact j_q_simple_123 C (0 : Int32) w50 h _ _ _ hW (lv_sub hl [] rfl)
        · rw [if_neg c53] at h
          refine lv_iconst (v := (1 : Int32)) hx hb d_q_simple_118 (by decide) ?_
          refine lv_goto (tgt := 123) hx hb d_q_simple_119 (by decide) ?_
          exact j_q_simple_123 C (1 : Int32) w50 h _ _ _ hW (lv_sub hl [] rfl)
      · rw [if_pos c52] at h
        refine lv_aload_n hx hb d_q_simple_100 rfl (lv_at hl 1 rfl) ?_
        refine lv_iconst (v := (5 : Int32)) hx hb d_q_simple_101 (by decide) ?_
        refine lv_aload_n hx hb d_q_simple_102 rfl (lv_at hl 1 rfl) ?_
        replace h := bs h
        obtain ⟨x55, hx55, h⟩ := h
        refine gf_q_32 hx hb hts hown hK hG hW (gN_s hx55) d_q_simple_103 ?_
        refine lv_iload_n hx hb d_q_simple_106 rfl (lv_at hl 2 rfl) ?_
        replace h := bs h
        obtain ⟨x56, hx56, h⟩ := h
        refine wo_iald hx hb hK hW (t := 0) rfl hx56 d_q_simple_107 ?_
        replace h := bs2 h
        obtain ⟨x58, w57, hw57, h⟩ := h
        refine cv_q_334 (As := [.int (5 : Int32), .int x56]) (rest := []) hx hb hml hown hts hK hG hW (c_q_stop l D cA base hw57) (kb_q_stop hw57) ⟨Nat.le_of_ble_eq_true rfl, Nat.le_of_ble_eq_true rfl⟩ ⟨Nat.le_of_ble_eq_true rfl, Nat.le_of_ble_eq_true rfl⟩ rfl hl.1 rfl (Nat.le_of_ble_eq_true rfl) d_q_simple_108 (fun H locs hW => ?_)
        refine lv_goto (tgt := 123) hx hb d_q_simple_111 (by decide) ?_
        exact j_q_simple_123 C x58 w57 h _ _ _ hW (lv_sub hl [] rfl)
  · rw [if_pos c3] at h
    refine lv_aload_n hx hb d_q_simple_10 rfl (lv_at hl 0 rfl) ?_
    replace h := bs h
    obtain ⟨x59, hx59, h⟩ := h
    refine gf_q_102 hx hb hts hown hK hG hW (gN_s hx59) d_q_simple_11 ?_
    refine lv_aload_n hx hb d_q_simple_14 rfl (lv_at hl 0 rfl) ?_
    replace h := bs h
    obtain ⟨x60, hx60, h⟩ := h
    refine gf_q_29 hx hb hts hown hK hG hW (gN_s hx60) d_q_simple_15 ?_
    refine lv_iload_n hx hb d_q_simple_18 rfl (lv_at hl 1 rfl) ?_
    replace h := bs h
    obtain ⟨x61, hx61, h⟩ := h
    refine wo_iald hx hb hK hW (t := 0) rfl hx61 d_q_simple_19 ?_
    refine lv_aload_n hx hb d_q_simple_20 rfl (lv_at hl 0 rfl) ?_
    replace h := bs h
    obtain ⟨x62, hx62, h⟩ := h
    refine gf_q_354 hx hb hts hown hK hG hW (gI_s hx62) d_q_simple_21 ?_
    refine lv_aload_n hx hb d_q_simple_24 rfl (lv_at hl 0 rfl) ?_
    replace h := bs h
    obtain ⟨x63, hx63, h⟩ := h
    refine gf_q_328 hx hb hts hown hK hG hW (gI_s hx63) d_q_simple_25 ?_
    refine lv_icmp_ge (tgt := 43) hx hb d_q_simple_28 (by decide) (fun c64 => ?_) (fun c64 => ?_)
    · rw [if_pos c64] at h
      refine lv_iconst (v := (0 : Int32)) hx hb d_q_simple_43 (by decide) ?_
      exact j_q_simple_44 C a0 a1 x59 x61 (0 : Int32) w h _ _ _ hW (lv_sub hl [0, 1] rfl)
    · rw [if_neg c64] at h
      refine lv_aload_n hx hb d_q_simple_31 rfl (lv_at hl 0 rfl) ?_
      replace h := bs h
      obtain ⟨x76, hx76, h⟩ := h
      refine gf_q_13 hx hb hts hown hK hG hW (gN_s hx76) d_q_simple_32 ?_
      refine lv_aload_n hx hb d_q_simple_35 rfl (lv_at hl 0 rfl) ?_
      replace h := bs h
      obtain ⟨x77, hx77, h⟩ := h
      refine gf_q_354 hx hb hts hown hK hG hW (gI_s hx77) d_q_simple_36 ?_
      replace h := bs h
      obtain ⟨x78, hx78, h⟩ := h
      refine wo_iald hx hb hK hW (t := 0) rfl hx78 d_q_simple_39 ?_
      refine lv_goto (tgt := 44) hx hb d_q_simple_40 (by decide) ?_
      exact j_q_simple_44 C a0 a1 x59 x61 x78 w h _ _ _ hW (lv_sub hl [0, 1] rfl)
theorem cv_q_363 {p : Program} {l : Launch} {e : Env} {R : Room} {s : State} {m : MethodId} {args : Array Value} {below : List Frame} {meth : Method} {c : Code} {H : Heap} {locs : List Loc} {cells slots : Nat} {Q : State → Prop} {D : va_G} {cA : Nat → ClassId} {base : Nat} {w w' : WW} {cc : ByteArray} {pc nL : Nat} {ls : Array Slot} {rest st0 As : List Value} {ov : Option Value} {b : Nat} (hx : p.tables.exec = Jvm.exec) (hb : c.code = cc) (hml : c.maxLocals = nL) (hown : s.vm.findClass Rc_q = some m.cls) (hts : ∀ w ∈ gt, w.before args s = true) (hK : va_K D cls (wo_tys cA) s) (hG : wo_G cA base s) (hW : wo_S D cls cA base s w H locs) (hM : mt l D cls (wo_tys cA) cA base y_q_simple (Cond.code y_q_simple b_q_simple 4 (some .boolean) :: gt) rm_q_simple (.ref (base + b) :: As) w ov w' rm_q_simple.cells rm_q_simple.slots) (hkb : kb w b 9 = true) (hR : rm_q_simple.frames + 1 ≤ R.frames ∧ 8 + (4 + 11) + rm_q_simple.locals ≤ R.locals) (hf : cells + rm_q_simple.cells ≤ R.cells ∧ slots + rm_q_simple.slots ≤ R.slots) (hn : As.length = 1) (hsz : ls.size = nL) (hst : st0 = As.reverse ++ .ref (base + b) :: rest) (hcat : (rest.map fun v => v.category).sum ≤ 8) (hdg : decode cc pc = .ok (.invokevirtual 363, 3)) (kk : ∀ (H1 : Heap) (locs1 : List Loc), wo_S D cls cA base s w' H1 locs1 → W p l e R s m args below meth c H1 locs1 (cells + rm_q_simple.cells) (slots + rm_q_simple.slots) Q (F0 m (pc + 3) ls (ov.toList ++ rest))) : W p l e R s m args below meth c H locs cells slots Q (F0 m pc ls st0) :=
  wo_callV (C := Rc_q) hx hb hml hown hts hK hG hW hM hkb rfl (gt_of (i := 1558) (by decide +kernel) (by decide +kernel)) (gt_of (i := 1560) (by decide +kernel) (by decide +kernel)) (gt_sel (i := 86) (by decide +kernel) (by decide +kernel)) (gt_of (i := 10) (by decide +kernel) (by decide +kernel)) (gt_of (i := 1561) (by decide +kernel) (by decide +kernel)) (by decide +kernel) hR hf hn hsz hst hcat hdg kk
abbrev b_q_go : ByteArray := prog_11_method_46_code
def y_q_go : MethodName := ⟨"AlarmForgeModel", "go", "(I)I"⟩
def rm_q_go : Room := { frames := 4, cells := 0, slots := 0, locals := 103 }
theorem d_q_go_0 : decode b_q_go 0 = .ok (.iconst 0, 1) := by decide +kernel
theorem d_q_go_1 : decode b_q_go 1 = .ok (.istore_n 2, 1) := by decide +kernel
theorem d_q_go_2 : decode b_q_go 2 = .ok (.iload_n 2, 1) := by decide +kernel
theorem d_q_go_3 : decode b_q_go 3 = .ok (.bipush (6), 2) := by decide +kernel
theorem d_q_go_5 : decode b_q_go 5 = .ok (.if_icmp .ge (23), 3) := by decide +kernel
theorem d_q_go_8 : decode b_q_go 8 = .ok (.aload_n 0, 1) := by decide +kernel
theorem d_q_go_9 : decode b_q_go 9 = .ok (.getfield 114, 3) := by decide +kernel
theorem d_q_go_12 : decode b_q_go 12 = .ok (.iload_n 2, 1) := by decide +kernel
theorem d_q_go_13 : decode b_q_go 13 = .ok (.iconst 0, 1) := by decide +kernel
theorem d_q_go_14 : decode b_q_go 14 = .ok (.bastore, 1) := by decide +kernel
theorem d_q_go_15 : decode b_q_go 15 = .ok (.aload_n 0, 1) := by decide +kernel
theorem d_q_go_16 : decode b_q_go 16 = .ok (.getfield 102, 3) := by decide +kernel
theorem d_q_go_19 : decode b_q_go 19 = .ok (.iload_n 2, 1) := by decide +kernel
theorem d_q_go_20 : decode b_q_go 20 = .ok (.iconst 0, 1) := by decide +kernel
theorem d_q_go_21 : decode b_q_go 21 = .ok (.iastore, 1) := by decide +kernel
theorem d_q_go_22 : decode b_q_go 22 = .ok (.iinc 2 (1), 3) := by decide +kernel
theorem d_q_go_25 : decode b_q_go 25 = .ok (.goto (-23), 3) := by decide +kernel
theorem d_q_go_28 : decode b_q_go 28 = .ok (.iconst 0, 1) := by decide +kernel
theorem d_q_go_29 : decode b_q_go 29 = .ok (.istore_n 2, 1) := by decide +kernel
theorem d_q_go_30 : decode b_q_go 30 = .ok (.iload_n 2, 1) := by decide +kernel
theorem d_q_go_31 : decode b_q_go 31 = .ok (.bipush (8), 2) := by decide +kernel
theorem d_q_go_33 : decode b_q_go 33 = .ok (.if_icmp .ge (16), 3) := by decide +kernel
theorem d_q_go_36 : decode b_q_go 36 = .ok (.aload_n 0, 1) := by decide +kernel
theorem d_q_go_37 : decode b_q_go 37 = .ok (.getfield 105, 3) := by decide +kernel
theorem d_q_go_40 : decode b_q_go 40 = .ok (.iload_n 2, 1) := by decide +kernel
theorem d_q_go_41 : decode b_q_go 41 = .ok (.iconst 0, 1) := by decide +kernel
theorem d_q_go_42 : decode b_q_go 42 = .ok (.iastore, 1) := by decide +kernel
theorem d_q_go_43 : decode b_q_go 43 = .ok (.iinc 2 (1), 3) := by decide +kernel
theorem d_q_go_46 : decode b_q_go 46 = .ok (.goto (-16), 3) := by decide +kernel
theorem d_q_go_49 : decode b_q_go 49 = .ok (.aload_n 0, 1) := by decide +kernel
theorem d_q_go_50 : decode b_q_go 50 = .ok (.iconst 0, 1) := by decide +kernel
theorem d_q_go_51 : decode b_q_go 51 = .ok (.putfield 360, 3) := by decide +kernel
theorem d_q_go_54 : decode b_q_go 54 = .ok (.aload_n 0, 1) := by decide +kernel
theorem d_q_go_55 : decode b_q_go 55 = .ok (.iconst 0, 1) := by decide +kernel
theorem d_q_go_56 : decode b_q_go 56 = .ok (.putfield 354, 3) := by decide +kernel
theorem d_q_go_59 : decode b_q_go 59 = .ok (.aload_n 0, 1) := by decide +kernel
theorem d_q_go_60 : decode b_q_go 60 = .ok (.iconst 0, 1) := by decide +kernel
theorem d_q_go_61 : decode b_q_go 61 = .ok (.putfield 331, 3) := by decide +kernel
theorem d_q_go_64 : decode b_q_go 64 = .ok (.aload_n 0, 1) := by decide +kernel
theorem d_q_go_65 : decode b_q_go 65 = .ok (.getfield 63, 3) := by decide +kernel
theorem d_q_go_68 : decode b_q_go 68 = .ok (.aload_n 0, 1) := by decide +kernel
theorem d_q_go_69 : decode b_q_go 69 = .ok (.getfield 308, 3) := by decide +kernel
theorem d_q_go_72 : decode b_q_go 72 = .ok (.iaload, 1) := by decide +kernel
theorem d_q_go_73 : decode b_q_go 73 = .ok (.istore_n 2, 1) := by decide +kernel
theorem d_q_go_74 : decode b_q_go 74 = .ok (.iconst 0, 1) := by decide +kernel
theorem d_q_go_75 : decode b_q_go 75 = .ok (.istore_n 3, 1) := by decide +kernel
theorem d_q_go_76 : decode b_q_go 76 = .ok (.iconst 1, 1) := by decide +kernel
theorem d_q_go_77 : decode b_q_go 77 = .ok (.istore 4, 2) := by decide +kernel
theorem d_q_go_79 : decode b_q_go 79 = .ok (.iload 4, 2) := by decide +kernel
theorem d_q_go_81 : decode b_q_go 81 = .ok (.ifCond .eq (195), 3) := by decide +kernel
theorem d_q_go_84 : decode b_q_go 84 = .ok (.iload_n 2, 1) := by decide +kernel
theorem d_q_go_85 : decode b_q_go 85 = .ok (.ifCond .ge (51), 3) := by decide +kernel
theorem d_q_go_88 : decode b_q_go 88 = .ok (.iload_n 3, 1) := by decide +kernel
theorem d_q_go_89 : decode b_q_go 89 = .ok (.ifCond .ne (5), 3) := by decide +kernel
theorem d_q_go_92 : decode b_q_go 92 = .ok (.iconst 0, 1) := by decide +kernel
theorem d_q_go_93 : decode b_q_go 93 = .ok (.ireturn, 1) := by decide +kernel
theorem d_q_go_94 : decode b_q_go 94 = .ok (.iinc 3 (-1), 3) := by decide +kernel
theorem d_q_go_97 : decode b_q_go 97 = .ok (.aload_n 0, 1) := by decide +kernel
theorem d_q_go_98 : decode b_q_go 98 = .ok (.getfield 26, 3) := by decide +kernel
theorem d_q_go_101 : decode b_q_go 101 = .ok (.aload_n 0, 1) := by decide +kernel
theorem d_q_go_102 : decode b_q_go 102 = .ok (.getfield 111, 3) := by decide +kernel
theorem d_q_go_105 : decode b_q_go 105 = .ok (.iload_n 3, 1) := by decide +kernel
theorem d_q_go_106 : decode b_q_go 106 = .ok (.iaload, 1) := by decide +kernel
theorem d_q_go_107 : decode b_q_go 107 = .ok (.iaload, 1) := by decide +kernel
theorem d_q_go_108 : decode b_q_go 108 = .ok (.iconst 4, 1) := by decide +kernel
theorem d_q_go_109 : decode b_q_go 109 = .ok (.if_icmp .ne (12), 3) := by decide +kernel
theorem d_q_go_112 : decode b_q_go 112 = .ok (.aload_n 0, 1) := by decide +kernel
theorem d_q_go_113 : decode b_q_go 113 = .ok (.getfield 111, 3) := by decide +kernel
theorem d_q_go_116 : decode b_q_go 116 = .ok (.iload_n 3, 1) := by decide +kernel
theorem d_q_go_117 : decode b_q_go 117 = .ok (.iaload, 1) := by decide +kernel
theorem d_q_go_118 : decode b_q_go 118 = .ok (.goto (14), 3) := by decide +kernel
theorem d_q_go_121 : decode b_q_go 121 = .ok (.aload_n 0, 1) := by decide +kernel
theorem d_q_go_122 : decode b_q_go 122 = .ok (.getfield 56, 3) := by decide +kernel
theorem d_q_go_125 : decode b_q_go 125 = .ok (.aload_n 0, 1) := by decide +kernel
theorem d_q_go_126 : decode b_q_go 126 = .ok (.getfield 111, 3) := by decide +kernel
theorem d_q_go_129 : decode b_q_go 129 = .ok (.iload_n 3, 1) := by decide +kernel
theorem d_q_go_130 : decode b_q_go 130 = .ok (.iaload, 1) := by decide +kernel
theorem d_q_go_131 : decode b_q_go 131 = .ok (.iaload, 1) := by decide +kernel
theorem d_q_go_132 : decode b_q_go 132 = .ok (.istore_n 2, 1) := by decide +kernel
theorem d_q_go_133 : decode b_q_go 133 = .ok (.goto (-54), 3) := by decide +kernel
theorem d_q_go_136 : decode b_q_go 136 = .ok (.aload_n 0, 1) := by decide +kernel
theorem d_q_go_137 : decode b_q_go 137 = .ok (.getfield 360, 3) := by decide +kernel
theorem d_q_go_140 : decode b_q_go 140 = .ok (.iload_n 1, 1) := by decide +kernel
theorem d_q_go_141 : decode b_q_go 141 = .ok (.if_icmp .ne (6), 3) := by decide +kernel
theorem d_q_go_144 : decode b_q_go 144 = .ok (.bipush (-5), 2) := by decide +kernel
theorem d_q_go_146 : decode b_q_go 146 = .ok (.ireturn, 1) := by decide +kernel
theorem d_q_go_147 : decode b_q_go 147 = .ok (.aload_n 0, 1) := by decide +kernel
theorem d_q_go_148 : decode b_q_go 148 = .ok (.dup, 1) := by decide +kernel
theorem d_q_go_149 : decode b_q_go 149 = .ok (.getfield 360, 3) := by decide +kernel
theorem d_q_go_152 : decode b_q_go 152 = .ok (.iconst 1, 1) := by decide +kernel
theorem d_q_go_153 : decode b_q_go 153 = .ok (.iadd, 1) := by decide +kernel
theorem d_q_go_154 : decode b_q_go 154 = .ok (.putfield 360, 3) := by decide +kernel
theorem d_q_go_157 : decode b_q_go 157 = .ok (.aload_n 0, 1) := by decide +kernel
theorem d_q_go_158 : decode b_q_go 158 = .ok (.getfield 26, 3) := by decide +kernel
theorem d_q_go_161 : decode b_q_go 161 = .ok (.iload_n 2, 1) := by decide +kernel
theorem d_q_go_162 : decode b_q_go 162 = .ok (.iaload, 1) := by decide +kernel
theorem d_q_go_163 : decode b_q_go 163 = .ok (.iconst 3, 1) := by decide +kernel
theorem d_q_go_164 : decode b_q_go 164 = .ok (.if_icmp .eq (13), 3) := by decide +kernel
theorem d_q_go_167 : decode b_q_go 167 = .ok (.aload_n 0, 1) := by decide +kernel
theorem d_q_go_168 : decode b_q_go 168 = .ok (.getfield 26, 3) := by decide +kernel
theorem d_q_go_171 : decode b_q_go 171 = .ok (.iload_n 2, 1) := by decide +kernel
theorem d_q_go_172 : decode b_q_go 172 = .ok (.iaload, 1) := by decide +kernel
theorem d_q_go_173 : decode b_q_go 173 = .ok (.iconst 4, 1) := by decide +kernel
theorem d_q_go_174 : decode b_q_go 174 = .ok (.if_icmp .ne (85), 3) := by decide +kernel
theorem d_q_go_177 : decode b_q_go 177 = .ok (.aload_n 0, 1) := by decide +kernel
theorem d_q_go_178 : decode b_q_go 178 = .ok (.iload_n 2, 1) := by decide +kernel
theorem d_q_go_179 : decode b_q_go 179 = .ok (.invokevirtual 357, 3) := by decide +kernel
theorem d_q_go_182 : decode b_q_go 182 = .ok (.istore 5, 2) := by decide +kernel
theorem d_q_go_184 : decode b_q_go 184 = .ok (.iload 5, 2) := by decide +kernel
theorem d_q_go_186 : decode b_q_go 186 = .ok (.ifCond .lt (7), 3) := by decide +kernel
theorem d_q_go_189 : decode b_q_go 189 = .ok (.iconst 1, 1) := by decide +kernel
theorem d_q_go_190 : decode b_q_go 190 = .ok (.goto (4), 3) := by decide +kernel
theorem d_q_go_193 : decode b_q_go 193 = .ok (.iconst 0, 1) := by decide +kernel
theorem d_q_go_194 : decode b_q_go 194 = .ok (.istore 4, 2) := by decide +kernel
theorem d_q_go_196 : decode b_q_go 196 = .ok (.iload 5, 2) := by decide +kernel
theorem d_q_go_198 : decode b_q_go 198 = .ok (.ifCond .gt (17), 3) := by decide +kernel
theorem d_q_go_201 : decode b_q_go 201 = .ok (.iload 5, 2) := by decide +kernel
theorem d_q_go_203 : decode b_q_go 203 = .ok (.ifCond .ne (46), 3) := by decide +kernel
theorem d_q_go_206 : decode b_q_go 206 = .ok (.aload_n 0, 1) := by decide +kernel
theorem d_q_go_207 : decode b_q_go 207 = .ok (.getfield 59, 3) := by decide +kernel
theorem d_q_go_210 : decode b_q_go 210 = .ok (.iload_n 2, 1) := by decide +kernel
theorem d_q_go_211 : decode b_q_go 211 = .ok (.baload, 1) := by decide +kernel
theorem d_q_go_212 : decode b_q_go 212 = .ok (.ifCond .eq (37), 3) := by decide +kernel
theorem d_q_go_215 : decode b_q_go 215 = .ok (.aload_n 0, 1) := by decide +kernel
theorem d_q_go_216 : decode b_q_go 216 = .ok (.getfield 111, 3) := by decide +kernel
theorem d_q_go_219 : decode b_q_go 219 = .ok (.iload_n 3, 1) := by decide +kernel
theorem d_q_go_220 : decode b_q_go 220 = .ok (.iload_n 2, 1) := by decide +kernel
theorem d_q_go_221 : decode b_q_go 221 = .ok (.iastore, 1) := by decide +kernel
theorem d_q_go_222 : decode b_q_go 222 = .ok (.iinc 3 (1), 3) := by decide +kernel
theorem d_q_go_225 : decode b_q_go 225 = .ok (.iload 5, 2) := by decide +kernel
theorem d_q_go_227 : decode b_q_go 227 = .ok (.ifCond .le (12), 3) := by decide +kernel
theorem d_q_go_230 : decode b_q_go 230 = .ok (.aload_n 0, 1) := by decide +kernel
theorem d_q_go_231 : decode b_q_go 231 = .ok (.getfield 50, 3) := by decide +kernel
theorem d_q_go_234 : decode b_q_go 234 = .ok (.iload_n 2, 1) := by decide +kernel
theorem d_q_go_235 : decode b_q_go 235 = .ok (.iaload, 1) := by decide +kernel
theorem d_q_go_236 : decode b_q_go 236 = .ok (.goto (9), 3) := by decide +kernel
theorem d_q_go_239 : decode b_q_go 239 = .ok (.aload_n 0, 1) := by decide +kernel
theorem d_q_go_240 : decode b_q_go 240 = .ok (.getfield 53, 3) := by decide +kernel
theorem d_q_go_243 : decode b_q_go 243 = .ok (.iload_n 2, 1) := by decide +kernel
theorem d_q_go_244 : decode b_q_go 244 = .ok (.iaload, 1) := by decide +kernel
theorem d_q_go_245 : decode b_q_go 245 = .ok (.istore_n 2, 1) := by decide +kernel
theorem d_q_go_246 : decode b_q_go 246 = .ok (.goto (10), 3) := by decide +kernel
theorem d_q_go_249 : decode b_q_go 249 = .ok (.aload_n 0, 1) := by decide +kernel
theorem d_q_go_250 : decode b_q_go 250 = .ok (.getfield 56, 3) := by decide +kernel
theorem d_q_go_253 : decode b_q_go 253 = .ok (.iload_n 2, 1) := by decide +kernel
theorem d_q_go_254 : decode b_q_go 254 = .ok (.iaload, 1) := by decide +kernel
theorem d_q_go_255 : decode b_q_go 255 = .ok (.istore_n 2, 1) := by decide +kernel
theorem d_q_go_256 : decode b_q_go 256 = .ok (.goto (-177), 3) := by decide +kernel
theorem d_q_go_259 : decode b_q_go 259 = .ok (.aload_n 0, 1) := by decide +kernel
theorem d_q_go_260 : decode b_q_go 260 = .ok (.iload_n 2, 1) := by decide +kernel
theorem d_q_go_261 : decode b_q_go 261 = .ok (.invokevirtual 363, 3) := by decide +kernel
theorem d_q_go_264 : decode b_q_go 264 = .ok (.istore 4, 2) := by decide +kernel
theorem d_q_go_266 : decode b_q_go 266 = .ok (.aload_n 0, 1) := by decide +kernel
theorem d_q_go_267 : decode b_q_go 267 = .ok (.getfield 56, 3) := by decide +kernel
theorem d_q_go_270 : decode b_q_go 270 = .ok (.iload_n 2, 1) := by decide +kernel
theorem d_q_go_271 : decode b_q_go 271 = .ok (.iaload, 1) := by decide +kernel
theorem d_q_go_272 : decode b_q_go 272 = .ok (.istore_n 2, 1) := by decide +kernel
theorem d_q_go_273 : decode b_q_go 273 = .ok (.goto (-194), 3) := by decide +kernel
theorem d_q_go_276 : decode b_q_go 276 = .ok (.aload_n 0, 1) := by decide +kernel
theorem d_q_go_277 : decode b_q_go 277 = .ok (.getfield 331, 3) := by decide +kernel
theorem d_q_go_280 : decode b_q_go 280 = .ok (.sipush (1024), 3) := by decide +kernel
theorem d_q_go_283 : decode b_q_go 283 = .ok (.idiv, 1) := by decide +kernel
theorem d_q_go_284 : decode b_q_go 284 = .ok (.istore 5, 2) := by decide +kernel
theorem d_q_go_286 : decode b_q_go 286 = .ok (.aload_n 0, 1) := by decide +kernel
theorem d_q_go_287 : decode b_q_go 287 = .ok (.iload 5, 2) := by decide +kernel
theorem d_q_go_289 : decode b_q_go 289 = .ok (.iconst 1, 1) := by decide +kernel
theorem d_q_go_290 : decode b_q_go 290 = .ok (.if_icmp .ne (7), 3) := by decide +kernel
theorem d_q_go_293 : decode b_q_go 293 = .ok (.iconst 2, 1) := by decide +kernel
theorem d_q_go_294 : decode b_q_go 294 = .ok (.goto (24), 3) := by decide +kernel
theorem d_q_go_297 : decode b_q_go 297 = .ok (.iload 5, 2) := by decide +kernel
theorem d_q_go_299 : decode b_q_go 299 = .ok (.iconst 2, 1) := by decide +kernel
theorem d_q_go_300 : decode b_q_go 300 = .ok (.if_icmp .ne (7), 3) := by decide +kernel
theorem d_q_go_303 : decode b_q_go 303 = .ok (.iconst 3, 1) := by decide +kernel
theorem d_q_go_304 : decode b_q_go 304 = .ok (.goto (14), 3) := by decide +kernel
theorem d_q_go_307 : decode b_q_go 307 = .ok (.iload 5, 2) := by decide +kernel
theorem d_q_go_309 : decode b_q_go 309 = .ok (.iconst 5, 1) := by decide +kernel
theorem d_q_go_310 : decode b_q_go 310 = .ok (.if_icmp .ne (7), 3) := by decide +kernel
theorem d_q_go_313 : decode b_q_go 313 = .ok (.iconst 5, 1) := by decide +kernel
theorem d_q_go_314 : decode b_q_go 314 = .ok (.goto (4), 3) := by decide +kernel
theorem d_q_go_317 : decode b_q_go 317 = .ok (.iconst 4, 1) := by decide +kernel
theorem d_q_go_318 : decode b_q_go 318 = .ok (.putfield 148, 3) := by decide +kernel
theorem d_q_go_321 : decode b_q_go 321 = .ok (.iconst 0, 1) := by decide +kernel
theorem d_q_go_322 : decode b_q_go 322 = .ok (.ireturn, 1) := by decide +kernel
theorem kb_q_go {a0 : Nat} {a1 : Int32} {w : WW} {r : (Int32 × WW)} (h : f_q_go a0 a1 w = some r) : kb w a0 9 = true := (its h).1
set_option maxHeartbeats 4000000 in
set_option maxRecDepth 100000 in
theorem j_q_go_318 {p : Program} {l : Launch} {e : Env} {s : State} {m : MethodId} {args : Array Value} {below : List Frame} {meth : Method} {c : Code} {D : va_G} {cA : Nat → ClassId} {base : Nat} {r : Int32} {w' : WW} (C : cx b_q_go (some .int) 6 y_q_go.cls "go" p s m args meth c D cA base)   : ∀ (z0 : Nat) (z1 : Int32) (w : WW), f_q_go_318 z0 z1 w = some (r, w') → ∀ (H : Heap) (locs : List Loc) (ls : Array Slot), wo_S D cls cA base s w H locs → lv_has ls 6 [] → W p l e rm_q_go s m args below meth c H locs 0 0 (MQ below (wo_Q D cls cA base (some (.int r)) w') args s rm_q_go.cells rm_q_go.slots (wo_B base)) (F0 m 318 ls [.int z1, .ref (base + z0)]) := by
  obtain ⟨hx, hb, hr, hml, hown, hts, hlk, hnm, hK, hG⟩ := id C
  intro z0 z1 w h H locs ls hW hl
  unfold f_q_go_318 at h
  replace h := bs h
  obtain ⟨w15, hw15, h⟩ := h
  refine pf_q_148 hx hb hts hown hK hG hW rfl rfl (pbi hw15 rfl) d_q_go_318 (fun H locs hW => ?_)
  refine lv_iconst (v := (0 : Int32)) hx hb d_q_go_321 (by decide) ?_
  cases h
  exact wo_iret hx hb hr hlk hW d_q_go_322
set_option maxHeartbeats 4000000 in
set_option maxRecDepth 100000 in
theorem j_q_go_256 {p : Program} {l : Launch} {e : Env} {s : State} {m : MethodId} {args : Array Value} {below : List Frame} {meth : Method} {c : Code} {D : va_G} {cA : Nat → ClassId} {base : Nat} {r : Int32} {w' : WW} (C : cx b_q_go (some .int) 6 y_q_go.cls "go" p s m args meth c D cA base) {k_79 : Nat → Int32 → Int32 → Int32 → Int32 → WW → Option (Int32 × WW)} (hk_79 : ∀ (y0 : Nat) (y1 : Int32) (y2 : Int32) (y3 : Int32) (y4 : Int32) (w : WW), k_79 y0 y1 y2 y3 y4 w = some (r, w') → ∀ (H : Heap) (locs : List Loc) (ls : Array Slot), wo_S D cls cA base s w H locs → lv_has ls 6 [(0, .ref (base + y0)), (1, .int y1), (2, .int y2), (3, .int y3), (4, .int y4)] → W p l e rm_q_go s m args below meth c H locs 0 0 (MQ below (wo_Q D cls cA base (some (.int r)) w') args s rm_q_go.cells rm_q_go.slots (wo_B base)) (F0 m 79 ls [])) : ∀ (y0 : Nat) (y1 : Int32) (y2 : Int32) (y3 : Int32) (y4 : Int32) (w : WW), f_q_go_256 k_79 y0 y1 y2 y3 y4 w = some (r, w') → ∀ (H : Heap) (locs : List Loc) (ls : Array Slot), wo_S D cls cA base s w H locs → lv_has ls 6 [(0, .ref (base + y0)), (1, .int y1), (2, .int y2), (3, .int y3), (4, .int y4)] → W p l e rm_q_go s m args below meth c H locs 0 0 (MQ below (wo_Q D cls cA base (some (.int r)) w') args s rm_q_go.cells rm_q_go.slots (wo_B base)) (F0 m 256 ls []) := by
  obtain ⟨hx, hb, hr, hml, hown, hts, hlk, hnm, hK, hG⟩ := id C
  intro y0 y1 y2 y3 y4 w h H locs ls hW hl
  unfold f_q_go_256 at h
  refine lv_goto (tgt := 79) hx hb d_q_go_256 (by decide) ?_
  exact hk_79 y0 y1 y2 y3 y4 w h _ _ _ hW (lv_sub hl [0, 1, 2, 3, 4] rfl)
set_option maxHeartbeats 4000000 in
set_option maxRecDepth 100000 in
theorem j_q_go_245 {p : Program} {l : Launch} {e : Env} {s : State} {m : MethodId} {args : Array Value} {below : List Frame} {meth : Method} {c : Code} {D : va_G} {cA : Nat → ClassId} {base : Nat} {r : Int32} {w' : WW} (C : cx b_q_go (some .int) 6 y_q_go.cls "go" p s m args meth c D cA base) {k_79 : Nat → Int32 → Int32 → Int32 → Int32 → WW → Option (Int32 × WW)} (hk_79 : ∀ (y0 : Nat) (y1 : Int32) (y2 : Int32) (y3 : Int32) (y4 : Int32) (w : WW), k_79 y0 y1 y2 y3 y4 w = some (r, w') → ∀ (H : Heap) (locs : List Loc) (ls : Array Slot), wo_S D cls cA base s w H locs → lv_has ls 6 [(0, .ref (base + y0)), (1, .int y1), (2, .int y2), (3, .int y3), (4, .int y4)] → W p l e rm_q_go s m args below meth c H locs 0 0 (MQ below (wo_Q D cls cA base (some (.int r)) w') args s rm_q_go.cells rm_q_go.slots (wo_B base)) (F0 m 79 ls [])) : ∀ (y0 : Nat) (y1 : Int32) (y3 : Int32) (y4 : Int32) (z0 : Int32) (w : WW), f_q_go_245 k_79 y0 y1 y3 y4 z0 w = some (r, w') → ∀ (H : Heap) (locs : List Loc) (ls : Array Slot), wo_S D cls cA base s w H locs → lv_has ls 6 [(0, .ref (base + y0)), (1, .int y1), (3, .int y3), (4, .int y4)] → W p l e rm_q_go s m args below meth c H locs 0 0 (MQ below (wo_Q D cls cA base (some (.int r)) w') args s rm_q_go.cells rm_q_go.slots (wo_B base)) (F0 m 245 ls [.int z0]) := by
  obtain ⟨hx, hb, hr, hml, hown, hts, hlk, hnm, hK, hG⟩ := id C
  intro y0 y1 y3 y4 z0 w h H locs ls hW hl
  unfold f_q_go_245 at h
  refine lv_istore_n (lv' := [(2, .int z0), (0, .ref (base + y0)), (1, .int y1), (3, .int y3), (4, .int y4)]) hx hb d_q_go_245 rfl hl (by decide) rfl (fun ls hl => ?_)
  refine lv_goto (tgt := 256) hx hb d_q_go_246 (by decide) ?_
  exact j_q_go_256 C hk_79 y0 y1 z0 y3 y4 w h _ _ _ hW (lv_sub hl [1, 2, 0, 3, 4] rfl)
set_option maxHeartbeats 4000000 in
set_option maxRecDepth 100000 in
theorem j_q_go_215 {p : Program} {l : Launch} {e : Env} {s : State} {m : MethodId} {args : Array Value} {below : List Frame} {meth : Method} {c : Code} {D : va_G} {cA : Nat → ClassId} {base : Nat} {r : Int32} {w' : WW} (C : cx b_q_go (some .int) 6 y_q_go.cls "go" p s m args meth c D cA base) {k_79 : Nat → Int32 → Int32 → Int32 → Int32 → WW → Option (Int32 × WW)} (hk_79 : ∀ (y0 : Nat) (y1 : Int32) (y2 : Int32) (y3 : Int32) (y4 : Int32) (w : WW), k_79 y0 y1 y2 y3 y4 w = some (r, w') → ∀ (H : Heap) (locs : List Loc) (ls : Array Slot), wo_S D cls cA base s w H locs → lv_has ls 6 [(0, .ref (base + y0)), (1, .int y1), (2, .int y2), (3, .int y3), (4, .int y4)] → W p l e rm_q_go s m args below meth c H locs 0 0 (MQ below (wo_Q D cls cA base (some (.int r)) w') args s rm_q_go.cells rm_q_go.slots (wo_B base)) (F0 m 79 ls [])) : ∀ (y0 : Nat) (y1 : Int32) (y2 : Int32) (y3 : Int32) (y4 : Int32) (y5 : Int32) (w : WW), f_q_go_215 k_79 y0 y1 y2 y3 y4 y5 w = some (r, w') → ∀ (H : Heap) (locs : List Loc) (ls : Array Slot), wo_S D cls cA base s w H locs → lv_has ls 6 [(0, .ref (base + y0)), (1, .int y1), (2, .int y2), (3, .int y3), (4, .int y4), (5, .int y5)] → W p l e rm_q_go s m args below meth c H locs 0 0 (MQ below (wo_Q D cls cA base (some (.int r)) w') args s rm_q_go.cells rm_q_go.slots (wo_B base)) (F0 m 215 ls []) := by
  obtain ⟨hx, hb, hr, hml, hown, hts, hlk, hnm, hK, hG⟩ := id C
  intro y0 y1 y2 y3 y4 y5 w h H locs ls hW hl
  unfold f_q_go_215 at h
  refine lv_aload_n hx hb d_q_go_215 rfl (lv_at hl 0 rfl) ?_
  replace h := bs h
  obtain ⟨x28, hx28, h⟩ := h
  refine gf_q_111 hx hb hts hown hK hG hW (gN_s hx28) d_q_go_216 ?_
  refine lv_iload_n hx hb d_q_go_219 rfl (lv_at hl 3 rfl) ?_
  refine lv_iload_n hx hb d_q_go_220 rfl (lv_at hl 2 rfl) ?_
  replace h := bs h
  obtain ⟨w29, hw29, h⟩ := h
  refine wo_iast hx hb hK hW (t := 0) rfl hw29 d_q_go_221 (fun H locs hW => ?_)
  refine lv_iinc (v := (y3 + (1 : Int32))) (lv' := [(3, .int (y3 + (1 : Int32))), (0, .ref (base + y0)), (1, .int y1), (2, .int y2), (4, .int y4), (5, .int y5)]) hx hb d_q_go_222 hl (k := 3) rfl rfl (by decide) rfl (fun ls hl => ?_)
  refine lv_iload hx hb d_q_go_225 (lv_at hl 5 rfl) ?_
  refine lv_if_le (tgt := 239) hx hb d_q_go_227 (by decide) (fun c30 => ?_) (fun c30 => ?_)
  · rw [if_pos c30] at h
    refine lv_aload_n hx hb d_q_go_239 rfl (lv_at hl 1 rfl) ?_
    replace h := bs h
    obtain ⟨x31, hx31, h⟩ := h
    refine gf_q_53 hx hb hts hown hK hG hW (gN_s hx31) d_q_go_240 ?_
    refine lv_iload_n hx hb d_q_go_243 rfl (lv_at hl 3 rfl) ?_
    replace h := bs h
    obtain ⟨x32, hx32, h⟩ := h
    refine wo_iald hx hb hK hW (t := 0) rfl hx32 d_q_go_244 ?_
    exact j_q_go_245 C hk_79 y0 y1 (y3 + (1 : Int32)) y4 x32 w29 h _ _ _ hW (lv_sub hl [1, 2, 0, 4] rfl)
  · rw [if_neg c30] at h
    refine lv_aload_n hx hb d_q_go_230 rfl (lv_at hl 1 rfl) ?_
    replace h := bs h
    obtain ⟨x33, hx33, h⟩ := h
    refine gf_q_50 hx hb hts hown hK hG hW (gN_s hx33) d_q_go_231 ?_
    refine lv_iload_n hx hb d_q_go_234 rfl (lv_at hl 3 rfl) ?_
    replace h := bs h
    obtain ⟨x34, hx34, h⟩ := h
    refine wo_iald hx hb hK hW (t := 0) rfl hx34 d_q_go_235 ?_
    refine lv_goto (tgt := 245) hx hb d_q_go_236 (by decide) ?_
    exact j_q_go_245 C hk_79 y0 y1 (y3 + (1 : Int32)) y4 x34 w29 h _ _ _ hW (lv_sub hl [1, 2, 0, 4] rfl)
set_option maxHeartbeats 4000000 in
set_option maxRecDepth 100000 in
theorem j_q_go_249 {p : Program} {l : Launch} {e : Env} {s : State} {m : MethodId} {args : Array Value} {below : List Frame} {meth : Method} {c : Code} {D : va_G} {cA : Nat → ClassId} {base : Nat} {r : Int32} {w' : WW} (C : cx b_q_go (some .int) 6 y_q_go.cls "go" p s m args meth c D cA base) {k_79 : Nat → Int32 → Int32 → Int32 → Int32 → WW → Option (Int32 × WW)} (hk_79 : ∀ (y0 : Nat) (y1 : Int32) (y2 : Int32) (y3 : Int32) (y4 : Int32) (w : WW), k_79 y0 y1 y2 y3 y4 w = some (r, w') → ∀ (H : Heap) (locs : List Loc) (ls : Array Slot), wo_S D cls cA base s w H locs → lv_has ls 6 [(0, .ref (base + y0)), (1, .int y1), (2, .int y2), (3, .int y3), (4, .int y4)] → W p l e rm_q_go s m args below meth c H locs 0 0 (MQ below (wo_Q D cls cA base (some (.int r)) w') args s rm_q_go.cells rm_q_go.slots (wo_B base)) (F0 m 79 ls [])) : ∀ (y0 : Nat) (y1 : Int32) (y2 : Int32) (y3 : Int32) (y4 : Int32) (w : WW), f_q_go_249 k_79 y0 y1 y2 y3 y4 w = some (r, w') → ∀ (H : Heap) (locs : List Loc) (ls : Array Slot), wo_S D cls cA base s w H locs → lv_has ls 6 [(0, .ref (base + y0)), (1, .int y1), (2, .int y2), (3, .int y3), (4, .int y4)] → W p l e rm_q_go s m args below meth c H locs 0 0 (MQ below (wo_Q D cls cA base (some (.int r)) w') args s rm_q_go.cells rm_q_go.slots (wo_B base)) (F0 m 249 ls []) := by
  obtain ⟨hx, hb, hr, hml, hown, hts, hlk, hnm, hK, hG⟩ := id C
  intro y0 y1 y2 y3 y4 w h H locs ls hW hl
  unfold f_q_go_249 at h
  refine lv_aload_n hx hb d_q_go_249 rfl (lv_at hl 0 rfl) ?_
  replace h := bs h
  obtain ⟨x36, hx36, h⟩ := h
  refine gf_q_56 hx hb hts hown hK hG hW (gN_s hx36) d_q_go_250 ?_
  refine lv_iload_n hx hb d_q_go_253 rfl (lv_at hl 2 rfl) ?_
  replace h := bs h
  obtain ⟨x37, hx37, h⟩ := h
  refine wo_iald hx hb hK hW (t := 0) rfl hx37 d_q_go_254 ?_
  refine lv_istore_n (lv' := [(2, .int x37), (0, .ref (base + y0)), (1, .int y1), (3, .int y3), (4, .int y4)]) hx hb d_q_go_255 rfl hl (by decide) rfl (fun ls hl => ?_)
  exact j_q_go_256 C hk_79 y0 y1 x37 y3 y4 w h _ _ _ hW (lv_sub hl [1, 2, 0, 3, 4] rfl)
set_option maxHeartbeats 4000000 in
set_option maxRecDepth 100000 in
theorem j_q_go_194 {p : Program} {l : Launch} {e : Env} {s : State} {m : MethodId} {args : Array Value} {below : List Frame} {meth : Method} {c : Code} {D : va_G} {cA : Nat → ClassId} {base : Nat} {r : Int32} {w' : WW} (C : cx b_q_go (some .int) 6 y_q_go.cls "go" p s m args meth c D cA base) {k_79 : Nat → Int32 → Int32 → Int32 → Int32 → WW → Option (Int32 × WW)} (hk_79 : ∀ (y0 : Nat) (y1 : Int32) (y2 : Int32) (y3 : Int32) (y4 : Int32) (w : WW), k_79 y0 y1 y2 y3 y4 w = some (r, w') → ∀ (H : Heap) (locs : List Loc) (ls : Array Slot), wo_S D cls cA base s w H locs → lv_has ls 6 [(0, .ref (base + y0)), (1, .int y1), (2, .int y2), (3, .int y3), (4, .int y4)] → W p l e rm_q_go s m args below meth c H locs 0 0 (MQ below (wo_Q D cls cA base (some (.int r)) w') args s rm_q_go.cells rm_q_go.slots (wo_B base)) (F0 m 79 ls [])) : ∀ (y0 : Nat) (y1 : Int32) (y2 : Int32) (y3 : Int32) (y5 : Int32) (z0 : Int32) (w : WW), f_q_go_194 k_79 y0 y1 y2 y3 y5 z0 w = some (r, w') → ∀ (H : Heap) (locs : List Loc) (ls : Array Slot), wo_S D cls cA base s w H locs → lv_has ls 6 [(0, .ref (base + y0)), (1, .int y1), (2, .int y2), (3, .int y3), (5, .int y5)] → W p l e rm_q_go s m args below meth c H locs 0 0 (MQ below (wo_Q D cls cA base (some (.int r)) w') args s rm_q_go.cells rm_q_go.slots (wo_B base)) (F0 m 194 ls [.int z0]) := by
  obtain ⟨hx, hb, hr, hml, hown, hts, hlk, hnm, hK, hG⟩ := id C
  intro y0 y1 y2 y3 y5 z0 w h H locs ls hW hl
  unfold f_q_go_194 at h
  refine lv_istore (lv' := [(4, .int z0), (0, .ref (base + y0)), (1, .int y1), (2, .int y2), (3, .int y3), (5, .int y5)]) hx hb d_q_go_194 hl (by decide) rfl (fun ls hl => ?_)
  refine lv_iload hx hb d_q_go_196 (lv_at hl 5 rfl) ?_
  refine lv_if_gt (tgt := 215) hx hb d_q_go_198 (by decide) (fun c27 => ?_) (fun c27 => ?_)
  · rw [if_pos c27] at h
    exact j_q_go_215 C hk_79 y0 y1 y2 y3 z0 y5 w h _ _ _ hW (lv_sub hl [1, 2, 3, 4, 0, 5] rfl)
  · rw [if_neg c27] at h
    refine lv_iload hx hb d_q_go_201 (lv_at hl 5 rfl) ?_
    refine lv_if_ne (tgt := 249) hx hb d_q_go_203 (by decide) (fun c35 => ?_) (fun c35 => ?_)
    · rw [if_neg c35] at h
      exact j_q_go_249 C hk_79 y0 y1 y2 y3 z0 w h _ _ _ hW (lv_sub hl [1, 2, 3, 4, 0] rfl)
    · rw [if_pos c35] at h
      refine lv_aload_n hx hb d_q_go_206 rfl (lv_at hl 1 rfl) ?_
      replace h := bs h
      obtain ⟨x38, hx38, h⟩ := h
      refine gf_q_59 hx hb hts hown hK hG hW (gN_s hx38) d_q_go_207 ?_
      refine lv_iload_n hx hb d_q_go_210 rfl (lv_at hl 3 rfl) ?_
      replace h := bs h
      obtain ⟨x39, hx39, h⟩ := h
      refine wo_zald hx hb hK hW (t := 2) rfl hx39 d_q_go_211 ?_
      refine lv_if_eq (tgt := 249) hx hb d_q_go_212 (by decide) (fun c40 => ?_) (fun c40 => ?_)
      · rw [if_pos c40] at h
        exact j_q_go_249 C hk_79 y0 y1 y2 y3 z0 w h _ _ _ hW (lv_sub hl [1, 2, 3, 4, 0] rfl)
      · rw [if_neg c40] at h
        exact j_q_go_215 C hk_79 y0 y1 y2 y3 z0 y5 w h _ _ _ hW (lv_sub hl [1, 2, 3, 4, 0, 5] rfl)
set_option maxHeartbeats 4000000 in
set_option maxRecDepth 100000 in
theorem j_q_go_177 {p : Program} {l : Launch} {e : Env} {s : State} {m : MethodId} {args : Array Value} {below : List Frame} {meth : Method} {c : Code} {D : va_G} {cA : Nat → ClassId} {base : Nat} {r : Int32} {w' : WW} (C : cx b_q_go (some .int) 6 y_q_go.cls "go" p s m args meth c D cA base) {k_79 : Nat → Int32 → Int32 → Int32 → Int32 → WW → Option (Int32 × WW)} (hk_79 : ∀ (y0 : Nat) (y1 : Int32) (y2 : Int32) (y3 : Int32) (y4 : Int32) (w : WW), k_79 y0 y1 y2 y3 y4 w = some (r, w') → ∀ (H : Heap) (locs : List Loc) (ls : Array Slot), wo_S D cls cA base s w H locs → lv_has ls 6 [(0, .ref (base + y0)), (1, .int y1), (2, .int y2), (3, .int y3), (4, .int y4)] → W p l e rm_q_go s m args below meth c H locs 0 0 (MQ below (wo_Q D cls cA base (some (.int r)) w') args s rm_q_go.cells rm_q_go.slots (wo_B base)) (F0 m 79 ls [])) : ∀ (y0 : Nat) (y1 : Int32) (y2 : Int32) (y3 : Int32) (w : WW), f_q_go_177 k_79 y0 y1 y2 y3 w = some (r, w') → ∀ (H : Heap) (locs : List Loc) (ls : Array Slot), wo_S D cls cA base s w H locs → lv_has ls 6 [(0, .ref (base + y0)), (1, .int y1), (2, .int y2), (3, .int y3)] → W p l e rm_q_go s m args below meth c H locs 0 0 (MQ below (wo_Q D cls cA base (some (.int r)) w') args s rm_q_go.cells rm_q_go.slots (wo_B base)) (F0 m 177 ls []) := by
  obtain ⟨hx, hb, hr, hml, hown, hts, hlk, hnm, hK, hG⟩ := id C
  intro y0 y1 y2 y3 w h H locs ls hW hl
  unfold f_q_go_177 at h
  refine lv_aload_n hx hb d_q_go_177 rfl (lv_at hl 0 rfl) ?_
  refine lv_iload_n hx hb d_q_go_178 rfl (lv_at hl 2 rfl) ?_
  replace h := bs2 h
  obtain ⟨x25, w24, hw24, h⟩ := h
  refine cv_q_357 (As := [.int y2]) (rest := []) hx hb hml hown hts hK hG hW (c_q_ask l D cA base hw24) (kb_q_ask hw24) ⟨Nat.le_of_ble_eq_true rfl, Nat.le_of_ble_eq_true rfl⟩ ⟨Nat.le_of_ble_eq_true rfl, Nat.le_of_ble_eq_true rfl⟩ rfl hl.1 rfl (Nat.le_of_ble_eq_true rfl) d_q_go_179 (fun H locs hW => ?_)
  refine lv_istore (lv' := [(5, .int x25), (0, .ref (base + y0)), (1, .int y1), (2, .int y2), (3, .int y3)]) hx hb d_q_go_182 hl (by decide) rfl (fun ls hl => ?_)
  refine lv_iload hx hb d_q_go_184 (lv_at hl 0 rfl) ?_
  refine lv_if_lt (tgt := 193) hx hb d_q_go_186 (by decide) (fun c26 => ?_) (fun c26 => ?_)
  · rw [if_pos c26] at h
    refine lv_iconst (v := (0 : Int32)) hx hb d_q_go_193 (by decide) ?_
    exact j_q_go_194 C hk_79 y0 y1 y2 y3 x25 (0 : Int32) w24 h _ _ _ hW (lv_sub hl [1, 2, 3, 4, 0] rfl)
  · rw [if_neg c26] at h
    refine lv_iconst (v := (1 : Int32)) hx hb d_q_go_189 (by decide) ?_
    refine lv_goto (tgt := 194) hx hb d_q_go_190 (by decide) ?_
    exact j_q_go_194 C hk_79 y0 y1 y2 y3 x25 (1 : Int32) w24 h _ _ _ hW (lv_sub hl [1, 2, 3, 4, 0] rfl)
set_option maxHeartbeats 4000000 in
set_option maxRecDepth 100000 in
theorem j_q_go_132 {p : Program} {l : Launch} {e : Env} {s : State} {m : MethodId} {args : Array Value} {below : List Frame} {meth : Method} {c : Code} {D : va_G} {cA : Nat → ClassId} {base : Nat} {r : Int32} {w' : WW} (C : cx b_q_go (some .int) 6 y_q_go.cls "go" p s m args meth c D cA base) {k_79 : Nat → Int32 → Int32 → Int32 → Int32 → WW → Option (Int32 × WW)} (hk_79 : ∀ (y0 : Nat) (y1 : Int32) (y2 : Int32) (y3 : Int32) (y4 : Int32) (w : WW), k_79 y0 y1 y2 y3 y4 w = some (r, w') → ∀ (H : Heap) (locs : List Loc) (ls : Array Slot), wo_S D cls cA base s w H locs → lv_has ls 6 [(0, .ref (base + y0)), (1, .int y1), (2, .int y2), (3, .int y3), (4, .int y4)] → W p l e rm_q_go s m args below meth c H locs 0 0 (MQ below (wo_Q D cls cA base (some (.int r)) w') args s rm_q_go.cells rm_q_go.slots (wo_B base)) (F0 m 79 ls [])) : ∀ (y0 : Nat) (y1 : Int32) (y3 : Int32) (y4 : Int32) (z0 : Int32) (w : WW), f_q_go_132 k_79 y0 y1 y3 y4 z0 w = some (r, w') → ∀ (H : Heap) (locs : List Loc) (ls : Array Slot), wo_S D cls cA base s w H locs → lv_has ls 6 [(0, .ref (base + y0)), (1, .int y1), (3, .int y3), (4, .int y4)] → W p l e rm_q_go s m args below meth c H locs 0 0 (MQ below (wo_Q D cls cA base (some (.int r)) w') args s rm_q_go.cells rm_q_go.slots (wo_B base)) (F0 m 132 ls [.int z0]) := by
  obtain ⟨hx, hb, hr, hml, hown, hts, hlk, hnm, hK, hG⟩ := id C
  intro y0 y1 y3 y4 z0 w h H locs ls hW hl
  unfold f_q_go_132 at h
  refine lv_istore_n (lv' := [(2, .int z0), (0, .ref (base + y0)), (1, .int y1), (3, .int y3), (4, .int y4)]) hx hb d_q_go_132 rfl hl (by decide) rfl (fun ls hl => ?_)
  refine lv_goto (tgt := 79) hx hb d_q_go_133 (by decide) ?_
  exact hk_79 y0 y1 z0 y3 y4 w h _ _ _ hW (lv_sub hl [1, 2, 0, 3, 4] rfl)
set_option maxHeartbeats 4000000 in
set_option maxRecDepth 100000 in
theorem j_q_go_79 {p : Program} {l : Launch} {e : Env} {s : State} {m : MethodId} {args : Array Value} {below : List Frame} {meth : Method} {c : Code} {D : va_G} {cA : Nat → ClassId} {base : Nat} {r : Int32} {w' : WW} (C : cx b_q_go (some .int) 6 y_q_go.cls "go" p s m args meth c D cA base)   : ∀ n : Nat, ∀ (y0 : Nat) (y1 : Int32) (y2 : Int32) (y3 : Int32) (y4 : Int32) (w : WW), f_q_go_79 n y0 y1 y2 y3 y4 w = some (r, w') → ∀ (H : Heap) (locs : List Loc) (ls : Array Slot), wo_S D cls cA base s w H locs → lv_has ls 6 [(0, .ref (base + y0)), (1, .int y1), (2, .int y2), (3, .int y3), (4, .int y4)] → W p l e rm_q_go s m args below meth c H locs 0 0 (MQ below (wo_Q D cls cA base (some (.int r)) w') args s rm_q_go.cells rm_q_go.slots (wo_B base)) (F0 m 79 ls []) := by
  obtain ⟨hx, hb, hr, hml, hown, hts, hlk, hnm, hK, hG⟩ := id C
  intro n
  induction n with
  | zero => intro y0 y1 y2 y3 y4 w h; cases h
  | succ n ih =>
    intro y0 y1 y2 y3 y4 w h H locs ls hW hl
    rw [f_q_go_79] at h
    refine lv_iload hx hb d_q_go_79 (lv_at hl 4 rfl) ?_
    refine lv_if_eq (tgt := 276) hx hb d_q_go_81 (by decide) (fun c9 => ?_) (fun c9 => ?_)
    · rw [if_pos c9] at h
      refine lv_aload_n hx hb d_q_go_276 rfl (lv_at hl 0 rfl) ?_
      replace h := bs h
      obtain ⟨x10, hx10, h⟩ := h
      refine gf_q_331 hx hb hts hown hK hG hW (gI_s hx10) d_q_go_277 ?_
      refine lv_sipush (v := (1024 : Int32)) hx hb d_q_go_280 (by decide) ?_
      replace h := its h
      obtain ⟨c11, h⟩ := h
      refine lv_idiv hx hb d_q_go_283 c11 ?_
      refine lv_istore (lv' := [(5, .int (x10 / (1024 : Int32))), (0, .ref (base + y0)), (1, .int y1), (2, .int y2), (3, .int y3), (4, .int y4)]) hx hb d_q_go_284 hl (by decide) rfl (fun ls hl => ?_)
      refine lv_aload_n hx hb d_q_go_286 rfl (lv_at hl 1 rfl) ?_
      refine lv_iload hx hb d_q_go_287 (lv_at hl 0 rfl) ?_
      refine lv_iconst (v := (1 : Int32)) hx hb d_q_go_289 (by decide) ?_
      refine lv_icmp_ne (tgt := 297) hx hb d_q_go_290 (by decide) (fun c12 => ?_) (fun c12 => ?_)
      · rw [if_neg c12] at h
        refine lv_iload hx hb d_q_go_297 (lv_at hl 0 rfl) ?_
        refine lv_iconst (v := (2 : Int32)) hx hb d_q_go_299 (by decide) ?_
        refine lv_icmp_ne (tgt := 307) hx hb d_q_go_300 (by decide) (fun c13 => ?_) (fun c13 => ?_)
        · rw [if_neg c13] at h
          refine lv_iload hx hb d_q_go_307 (lv_at hl 0 rfl) ?_
          refine lv_iconst (v := (5 : Int32)) hx hb d_q_go_309 (by decide) ?_
          refine lv_icmp_ne (tgt := 317) hx hb d_q_go_310 (by decide) (fun c14 => ?_) (fun c14 => ?_)
          · rw [if_neg c14] at h
            refine lv_iconst (v := (4 : Int32)) hx hb d_q_go_317 (by decide) ?_
            exact j_q_go_318 C y0 (4 : Int32) w h _ _ _ hW (lv_sub hl [] rfl)
          · rw [if_pos c14] at h
            refine lv_iconst (v := (5 : Int32)) hx hb d_q_go_313 (by decide) ?_
            refine lv_goto (tgt := 318) hx hb d_q_go_314 (by decide) ?_
            exact j_q_go_318 C y0 (5 : Int32) w h _ _ _ hW (lv_sub hl [] rfl)
        · rw [if_pos c13] at h
          refine lv_iconst (v := (3 : Int32)) hx hb d_q_go_303 (by decide) ?_
          refine lv_goto (tgt := 318) hx hb d_q_go_304 (by decide) ?_
          exact j_q_go_318 C y0 (3 : Int32) w h _ _ _ hW (lv_sub hl [] rfl)
      · rw [if_pos c12] at h
        refine lv_iconst (v := (2 : Int32)) hx hb d_q_go_293 (by decide) ?_
        refine lv_goto (tgt := 318) hx hb d_q_go_294 (by decide) ?_
        exact j_q_go_318 C y0 (2 : Int32) w h _ _ _ hW (lv_sub hl [] rfl)
    · rw [if_neg c9] at h
      refine lv_iload_n hx hb d_q_go_84 rfl (lv_at hl 2 rfl) ?_
      refine lv_if_ge (tgt := 136) hx hb d_q_go_85 (by decide) (fun c16 => ?_) (fun c16 => ?_)
      · rw [if_pos c16] at h
        refine lv_aload_n hx hb d_q_go_136 rfl (lv_at hl 0 rfl) ?_
        replace h := bs h
        obtain ⟨x17, hx17, h⟩ := h
        refine gf_q_360 hx hb hts hown hK hG hW (gI_s hx17) d_q_go_137 ?_
        refine lv_iload_n hx hb d_q_go_140 rfl (lv_at hl 1 rfl) ?_
        refine lv_icmp_ne (tgt := 147) hx hb d_q_go_141 (by decide) (fun c18 => ?_) (fun c18 => ?_)
        · rw [if_neg c18] at h
          refine lv_aload_n hx hb d_q_go_147 rfl (lv_at hl 0 rfl) ?_
          refine lv_dup hx hb d_q_go_148 rfl ?_
          replace h := bs h
          obtain ⟨x19, hx19, h⟩ := h
          refine gf_q_360 hx hb hts hown hK hG hW (gI_s hx19) d_q_go_149 ?_
          refine lv_iconst (v := (1 : Int32)) hx hb d_q_go_152 (by decide) ?_
          refine lv_iadd hx hb d_q_go_153 ?_
          replace h := bs h
          obtain ⟨w20, hw20, h⟩ := h
          refine pf_q_360 hx hb hts hown hK hG hW rfl rfl (pbi hw20 rfl) d_q_go_154 (fun H locs hW => ?_)
          refine lv_aload_n hx hb d_q_go_157 rfl (lv_at hl 0 rfl) ?_
          replace h := bs h
          obtain ⟨x21, hx21, h⟩ := h
          refine gf_q_26 hx hb hts hown hK hG hW (gN_s hx21) d_q_go_158 ?_
          refine lv_iload_n hx hb d_q_go_161 rfl (lv_at hl 2 rfl) ?_
          replace h := bs h
          obtain ⟨x22, hx22, h⟩ := h
          refine wo_iald hx hb hK hW (t := 0) rfl hx22 d_q_go_162 ?_
          refine lv_iconst (v := (3 : Int32)) hx hb d_q_go_163 (by decide) ?_
          refine lv_icmp_eq (tgt := 177) hx hb d_q_go_164 (by decide) (fun c23 => ?_) (fun c23 => ?_)
          · rw [if_pos c23] at h
            exact j_q_go_177 C ih y0 y1 y2 y3 w20 h _ _ _ hW (lv_sub hl [0, 1, 2, 3] rfl)
          · rw [if_neg c23] at h
            refine lv_aload_n hx hb d_q_go_167 rfl (lv_at hl 0 rfl) ?_
            replace h := bs h
            obtain ⟨x41, hx41, h⟩ := h
            refine gf_q_26 hx hb hts hown hK hG hW (gN_s hx41) d_q_go_168 ?_
            refine lv_iload_n hx hb d_q_go_171 rfl (lv_at hl 2 rfl) ?_
            replace h := bs h
            obtain ⟨x42, hx42, h⟩ := h
            refine wo_iald hx hb hK hW (t := 0) rfl hx42 d_q_go_172 ?_
            refine lv_iconst (v := (4 : Int32)) hx hb d_q_go_173 (by decide) ?_
            refine lv_icmp_ne (tgt := 259) hx hb d_q_go_174 (by decide) (fun c43 => ?_) (fun c43 => ?_)
            · rw [if_neg c43] at h
              refine lv_aload_n hx hb d_q_go_259 rfl (lv_at hl 0 rfl) ?_
              refine lv_iload_n hx hb d_q_go_260 rfl (lv_at hl 2 rfl) ?_
              replace h := bs2 h
              obtain ⟨x45, w44, hw44, h⟩ := h
              refine cv_q_363 (As := [.int y2]) (rest := []) hx hb hml hown hts hK hG hW (c_q_simple l D cA base hw44) (kb_q_simple hw44) ⟨Nat.le_of_ble_eq_true rfl, Nat.le_of_ble_eq_true rfl⟩ ⟨Nat.le_of_ble_eq_true rfl, Nat.le_of_ble_eq_true rfl⟩ rfl hl.1 rfl (Nat.le_of_ble_eq_true rfl) d_q_go_261 (fun H locs hW => ?_)
              refine lv_istore (lv' := [(4, .int x45), (0, .ref (base + y0)), (1, .int y1), (2, .int y2), (3, .int y3)]) hx hb d_q_go_264 hl (by decide) rfl (fun ls hl => ?_)
              refine lv_aload_n hx hb d_q_go_266 rfl (lv_at hl 1 rfl) ?_
              replace h := bs h
              obtain ⟨x46, hx46, h⟩ := h
              refine gf_q_56 hx hb hts hown hK hG hW (gN_s hx46) d_q_go_267 ?_
              refine lv_iload_n hx hb d_q_go_270 rfl (lv_at hl 3 rfl) ?_
              replace h := bs h
              obtain ⟨x47, hx47, h⟩ := h
              refine wo_iald hx hb hK hW (t := 0) rfl hx47 d_q_go_271 ?_
              refine lv_istore_n (lv' := [(2, .int x47), (4, .int x45), (0, .ref (base + y0)), (1, .int y1), (3, .int y3)]) hx hb d_q_go_272 rfl hl (by decide) rfl (fun ls hl => ?_)
              refine lv_goto (tgt := 79) hx hb d_q_go_273 (by decide) ?_
              exact ih y0 y1 x47 y3 x45 w44 h _ _ _ hW (lv_sub hl [2, 3, 0, 4, 1] rfl)
            · rw [if_pos c43] at h
              exact j_q_go_177 C ih y0 y1 y2 y3 w20 h _ _ _ hW (lv_sub hl [0, 1, 2, 3] rfl)
        · rw [if_pos c18] at h
          refine lv_bipush (v := (-5 : Int32)) hx hb d_q_go_144 (by decide) ?_
          cases h
          exact wo_iret hx hb hr hlk hW d_q_go_146
      · rw [if_neg c16] at h
        refine lv_iload_n hx hb d_q_go_88 rfl (lv_at hl 3 rfl) ?_
        refine lv_if_ne (tgt := 94) hx hb d_q_go_89 (by decide) (fun c48 => ?_) (fun c48 => ?_)
        · rw [if_neg c48] at h
          refine lv_iinc (v := (y3 + (-1 : Int32))) (lv' := [(3, .int (y3 + (-1 : Int32))), (0, .ref (base + y0)), (1, .int y1), (2, .int y2), (4, .int y4)]) hx hb d_q_go_94 hl (k := 3) rfl rfl (by decide) rfl (fun ls hl => ?_)
          refine lv_aload_n hx hb d_q_go_97 rfl (lv_at hl 1 rfl) ?_
          replace h := bs h
          obtain ⟨x49, hx49, h⟩ := h
          refine gf_q_26 hx hb hts hown hK hG hW (gN_s hx49) d_q_go_98 ?_
          refine lv_aload_n hx hb d_q_go_101 rfl (lv_at hl 1 rfl) ?_
          replace h := bs h
          obtain ⟨x50, hx50, h⟩ := h
          refine gf_q_111 hx hb hts hown hK hG hW (gN_s hx50) d_q_go_102 ?_
          refine lv_iload_n hx hb d_q_go_105 rfl (lv_at hl 0 rfl) ?_
          replace h := bs h
          obtain ⟨x51, hx51, h⟩ := h
          refine wo_iald hx hb hK hW (t := 0) rfl hx51 d_q_go_106 ?_
          replace h := bs h
          obtain ⟨x52, hx52, h⟩ := h
          refine wo_iald hx hb hK hW (t := 0) rfl hx52 d_q_go_107 ?_
          refine lv_iconst (v := (4 : Int32)) hx hb d_q_go_108 (by decide) ?_
          refine lv_icmp_ne (tgt := 121) hx hb d_q_go_109 (by decide) (fun c53 => ?_) (fun c53 => ?_)
          · rw [if_neg c53] at h
            refine lv_aload_n hx hb d_q_go_121 rfl (lv_at hl 1 rfl) ?_
            replace h := bs h
            obtain ⟨x54, hx54, h⟩ := h
            refine gf_q_56 hx hb hts hown hK hG hW (gN_s hx54) d_q_go_122 ?_
            refine lv_aload_n hx hb d_q_go_125 rfl (lv_at hl 1 rfl) ?_
            replace h := bs h
            obtain ⟨x55, hx55, h⟩ := h
            refine gf_q_111 hx hb hts hown hK hG hW (gN_s hx55) d_q_go_126 ?_
            refine lv_iload_n hx hb d_q_go_129 rfl (lv_at hl 0 rfl) ?_
            replace h := bs h
            obtain ⟨x56, hx56, h⟩ := h
            refine wo_iald hx hb hK hW (t := 0) rfl hx56 d_q_go_130 ?_
            replace h := bs h
            obtain ⟨x57, hx57, h⟩ := h
            refine wo_iald hx hb hK hW (t := 0) rfl hx57 d_q_go_131 ?_
            exact j_q_go_132 C ih y0 y1 (y3 + (-1 : Int32)) y4 x57 w h _ _ _ hW (lv_sub hl [1, 2, 0, 4] rfl)
          · rw [if_pos c53] at h
            refine lv_aload_n hx hb d_q_go_112 rfl (lv_at hl 1 rfl) ?_
            replace h := bs h
            obtain ⟨x58, hx58, h⟩ := h
            refine gf_q_111 hx hb hts hown hK hG hW (gN_s hx58) d_q_go_113 ?_
            refine lv_iload_n hx hb d_q_go_116 rfl (lv_at hl 0 rfl) ?_
            replace h := bs h
            obtain ⟨x59, hx59, h⟩ := h
            refine wo_iald hx hb hK hW (t := 0) rfl hx59 d_q_go_117 ?_
            refine lv_goto (tgt := 132) hx hb d_q_go_118 (by decide) ?_
            exact j_q_go_132 C ih y0 y1 (y3 + (-1 : Int32)) y4 x59 w h _ _ _ hW (lv_sub hl [1, 2, 0, 4] rfl)
        · rw [if_pos c48] at h
          refine lv_iconst (v := (0 : Int32)) hx hb d_q_go_92 (by decide) ?_
          cases h
          exact wo_iret hx hb hr hlk hW d_q_go_93
set_option maxHeartbeats 4000000 in
set_option maxRecDepth 100000 in
theorem j_q_go_30 {p : Program} {l : Launch} {e : Env} {s : State} {m : MethodId} {args : Array Value} {below : List Frame} {meth : Method} {c : Code} {D : va_G} {cA : Nat → ClassId} {base : Nat} {r : Int32} {w' : WW} (C : cx b_q_go (some .int) 6 y_q_go.cls "go" p s m args meth c D cA base)   : ∀ n : Nat, ∀ (y0 : Nat) (y1 : Int32) (y2 : Int32) (w : WW), f_q_go_30 n y0 y1 y2 w = some (r, w') → ∀ (H : Heap) (locs : List Loc) (ls : Array Slot), wo_S D cls cA base s w H locs → lv_has ls 6 [(0, .ref (base + y0)), (1, .int y1), (2, .int y2)] → W p l e rm_q_go s m args below meth c H locs 0 0 (MQ below (wo_Q D cls cA base (some (.int r)) w') args s rm_q_go.cells rm_q_go.slots (wo_B base)) (F0 m 30 ls []) := by
  obtain ⟨hx, hb, hr, hml, hown, hts, hlk, hnm, hK, hG⟩ := id C
  intro n
  induction n with
  | zero => intro y0 y1 y2 w h; cases h
  | succ n ih =>
    intro y0 y1 y2 w h H locs ls hW hl
    rw [f_q_go_30] at h
    refine lv_iload_n hx hb d_q_go_30 rfl (lv_at hl 2 rfl) ?_
    refine lv_bipush (v := (8 : Int32)) hx hb d_q_go_31 (by decide) ?_
    refine lv_icmp_ge (tgt := 49) hx hb d_q_go_33 (by decide) (fun c2 => ?_) (fun c2 => ?_)
    · rw [if_pos c2] at h
      refine lv_aload_n hx hb d_q_go_49 rfl (lv_at hl 0 rfl) ?_
      refine lv_iconst (v := (0 : Int32)) hx hb d_q_go_50 (by decide) ?_
      replace h := bs h
      obtain ⟨w3, hw3, h⟩ := h
      refine pf_q_360 hx hb hts hown hK hG hW rfl rfl (pbi hw3 rfl) d_q_go_51 (fun H locs hW => ?_)
      refine lv_aload_n hx hb d_q_go_54 rfl (lv_at hl 0 rfl) ?_
      refine lv_iconst (v := (0 : Int32)) hx hb d_q_go_55 (by decide) ?_
      replace h := bs h
      obtain ⟨w4, hw4, h⟩ := h
      refine pf_q_354 hx hb hts hown hK hG hW rfl rfl (pbi hw4 rfl) d_q_go_56 (fun H locs hW => ?_)
      refine lv_aload_n hx hb d_q_go_59 rfl (lv_at hl 0 rfl) ?_
      refine lv_iconst (v := (0 : Int32)) hx hb d_q_go_60 (by decide) ?_
      replace h := bs h
      obtain ⟨w5, hw5, h⟩ := h
      refine pf_q_331 hx hb hts hown hK hG hW rfl rfl (pbi hw5 rfl) d_q_go_61 (fun H locs hW => ?_)
      refine lv_aload_n hx hb d_q_go_64 rfl (lv_at hl 0 rfl) ?_
      replace h := bs h
      obtain ⟨x6, hx6, h⟩ := h
      refine gf_q_63 hx hb hts hown hK hG hW (gN_s hx6) d_q_go_65 ?_
      refine lv_aload_n hx hb d_q_go_68 rfl (lv_at hl 0 rfl) ?_
      replace h := bs h
      obtain ⟨x7, hx7, h⟩ := h
      refine gf_q_308 hx hb hts hown hK hG hW (gI_s hx7) d_q_go_69 ?_
      replace h := bs h
      obtain ⟨x8, hx8, h⟩ := h
      refine wo_iald hx hb hK hW (t := 0) rfl hx8 d_q_go_72 ?_
      refine lv_istore_n (lv' := [(2, .int x8), (0, .ref (base + y0)), (1, .int y1)]) hx hb d_q_go_73 rfl hl (by decide) rfl (fun ls hl => ?_)
      refine lv_iconst (v := (0 : Int32)) hx hb d_q_go_74 (by decide) ?_
      refine lv_istore_n (lv' := [(3, .int (0 : Int32)), (2, .int x8), (0, .ref (base + y0)), (1, .int y1)]) hx hb d_q_go_75 rfl hl (by decide) rfl (fun ls hl => ?_)
      refine lv_iconst (v := (1 : Int32)) hx hb d_q_go_76 (by decide) ?_
      refine lv_istore (lv' := [(4, .int (1 : Int32)), (3, .int (0 : Int32)), (2, .int x8), (0, .ref (base + y0)), (1, .int y1)]) hx hb d_q_go_77 hl (by decide) rfl (fun ls hl => ?_)
      exact j_q_go_79 C KK y0 y1 x8 (0 : Int32) (1 : Int32) w5 h _ _ _ hW (lv_sub hl [3, 4, 2, 1, 0] rfl)
    · rw [if_neg c2] at h
      refine lv_aload_n hx hb d_q_go_36 rfl (lv_at hl 0 rfl) ?_
      replace h := bs h
      obtain ⟨x60, hx60, h⟩ := h
      refine gf_q_105 hx hb hts hown hK hG hW (gN_s hx60) d_q_go_37 ?_
      refine lv_iload_n hx hb d_q_go_40 rfl (lv_at hl 2 rfl) ?_
      refine lv_iconst (v := (0 : Int32)) hx hb d_q_go_41 (by decide) ?_
      replace h := bs h
      obtain ⟨w61, hw61, h⟩ := h
      refine wo_iast hx hb hK hW (t := 0) rfl hw61 d_q_go_42 (fun H locs hW => ?_)
      refine lv_iinc (v := (y2 + (1 : Int32))) (lv' := [(2, .int (y2 + (1 : Int32))), (0, .ref (base + y0)), (1, .int y1)]) hx hb d_q_go_43 hl (k := 2) rfl rfl (by decide) rfl (fun ls hl => ?_)
      refine lv_goto (tgt := 30) hx hb d_q_go_46 (by decide) ?_
      exact ih y0 y1 (y2 + (1 : Int32)) w61 h _ _ _ hW (lv_sub hl [1, 2, 0] rfl)
set_option maxHeartbeats 4000000 in
set_option maxRecDepth 100000 in
theorem j_q_go_2 {p : Program} {l : Launch} {e : Env} {s : State} {m : MethodId} {args : Array Value} {below : List Frame} {meth : Method} {c : Code} {D : va_G} {cA : Nat → ClassId} {base : Nat} {r : Int32} {w' : WW} (C : cx b_q_go (some .int) 6 y_q_go.cls "go" p s m args meth c D cA base)   : ∀ n : Nat, ∀ (y0 : Nat) (y1 : Int32) (y2 : Int32) (w : WW), f_q_go_2 n y0 y1 y2 w = some (r, w') → ∀ (H : Heap) (locs : List Loc) (ls : Array Slot), wo_S D cls cA base s w H locs → lv_has ls 6 [(0, .ref (base + y0)), (1, .int y1), (2, .int y2)] → W p l e rm_q_go s m args below meth c H locs 0 0 (MQ below (wo_Q D cls cA base (some (.int r)) w') args s rm_q_go.cells rm_q_go.slots (wo_B base)) (F0 m 2 ls []) := by
  obtain ⟨hx, hb, hr, hml, hown, hts, hlk, hnm, hK, hG⟩ := id C
  intro n
  induction n with
  | zero => intro y0 y1 y2 w h; cases h
  | succ n ih =>
    intro y0 y1 y2 w h H locs ls hW hl
    rw [f_q_go_2] at h
    refine lv_iload_n hx hb d_q_go_2 rfl (lv_at hl 2 rfl) ?_
    refine lv_bipush (v := (6 : Int32)) hx hb d_q_go_3 (by decide) ?_
    refine lv_icmp_ge (tgt := 28) hx hb d_q_go_5 (by decide) (fun c1 => ?_) (fun c1 => ?_)
    · rw [if_pos c1] at h
      refine lv_iconst (v := (0 : Int32)) hx hb d_q_go_28 (by decide) ?_
      refine lv_istore_n (lv' := [(2, .int (0 : Int32)), (0, .ref (base + y0)), (1, .int y1)]) hx hb d_q_go_29 rfl hl (by decide) rfl (fun ls hl => ?_)
      exact j_q_go_30 C KK y0 y1 (0 : Int32) w h _ _ _ hW (lv_sub hl [1, 2, 0] rfl)
    · rw [if_neg c1] at h
      refine lv_aload_n hx hb d_q_go_8 rfl (lv_at hl 0 rfl) ?_
      replace h := bs h
      obtain ⟨x62, hx62, h⟩ := h
      refine gf_q_114 hx hb hts hown hK hG hW (gN_s hx62) d_q_go_9 ?_
      refine lv_iload_n hx hb d_q_go_12 rfl (lv_at hl 2 rfl) ?_
      refine lv_iconst (v := (0 : Int32)) hx hb d_q_go_13 (by decide) ?_
      replace h := bs h
      obtain ⟨w63, hw63, h⟩ := h
      refine wo_zast hx hb hK hW (t := 2) rfl hw63 d_q_go_14 (fun H locs hW => ?_)
      refine lv_aload_n hx hb d_q_go_15 rfl (lv_at hl 0 rfl) ?_
      replace h := bs h
      obtain ⟨x64, hx64, h⟩ := h
      refine gf_q_102 hx hb hts hown hK hG hW (gN_s hx64) d_q_go_16 ?_
      refine lv_iload_n hx hb d_q_go_19 rfl (lv_at hl 2 rfl) ?_
      refine lv_iconst (v := (0 : Int32)) hx hb d_q_go_20 (by decide) ?_
      replace h := bs h
      obtain ⟨w65, hw65, h⟩ := h
      refine wo_iast hx hb hK hW (t := 0) rfl hw65 d_q_go_21 (fun H locs hW => ?_)
      refine lv_iinc (v := (y2 + (1 : Int32))) (lv' := [(2, .int (y2 + (1 : Int32))), (0, .ref (base + y0)), (1, .int y1)]) hx hb d_q_go_22 hl (k := 2) rfl rfl (by decide) rfl (fun ls hl => ?_)
      refine lv_goto (tgt := 2) hx hb d_q_go_25 (by decide) ?_
      exact ih y0 y1 (y2 + (1 : Int32)) w65 h _ _ _ hW (lv_sub hl [1, 2, 0] rfl)
set_option maxHeartbeats 4000000 in
set_option maxRecDepth 100000 in
theorem c_q_go (l : Launch) (D : va_G) (cA : Nat → ClassId) (base : Nat) {a0 : Nat} {a1 : Int32} {w w' : WW} {r : Int32} (h : f_q_go a0 a1 w = some (r, w')) : mt l D cls (wo_tys cA) cA base y_q_go (Cond.code y_q_go b_q_go 6 (some .int) :: gt) rm_q_go [.ref (base + a0), .int a1] w (some (.int r)) w' rm_q_go.cells rm_q_go.slots := by
  refine mt_start (by decide) (Nat.le_of_ble_eq_true rfl) ?_
  intro p e s m below meth c ls hx hb hr hml hown hts hlk hnm hK hG hW hl
  have C : cx b_q_go (some .int) 6 y_q_go.cls "go" p s m [.ref (base + a0), .int a1].toArray meth c D cA base := ⟨hx, hb, hr, hml, hown, hts, hlk, hnm, hK, hG⟩
  have hl : lv_has ls 6 [(0, .ref (base + a0)), (1, .int a1)] := hl
  unfold f_q_go at h
  replace h := its h
  obtain ⟨-, h⟩ := h
  refine lv_iconst (v := (0 : Int32)) hx hb d_q_go_0 (by decide) ?_
  refine lv_istore_n (lv' := [(2, .int (0 : Int32)), (0, .ref (base + a0)), (1, .int a1)]) hx hb d_q_go_1 rfl hl (by decide) rfl (fun ls hl => ?_)
  exact j_q_go_2 C KK a0 a1 (0 : Int32) w h _ _ _ hW (lv_sub hl [1, 2, 0] rfl)
