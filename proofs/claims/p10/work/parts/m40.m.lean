/-! Methods as functions, and their contracts (by wip/gen/run.py). -/
theorem cv_an_235 {p : Program} {l : Launch} {e : Env} {R : Room} {s : State} {m : MethodId} {args : Array Value} {below : List Frame} {meth : Method} {c : Code} {H : Heap} {locs : List Loc} {cells slots : Nat} {Q : State → Prop} {D : va_G} {cA : Nat → ClassId} {base : Nat} {w w' : WW} {cc : ByteArray} {pc nL : Nat} {ls : Array Slot} {rest st0 As : List Value} {ov : Option Value} {b : Nat} (hx : p.tables.exec = Jvm.exec) (hb : c.code = cc) (hml : c.maxLocals = nL) (hown : s.vm.findClass Rc_an = some m.cls) (hts : ∀ w ∈ gt, w.before args s = true) (hK : va_K D cls (wo_tys cA) s) (hG : wo_G cA base s) (hW : wo_S D cls cA base s w H locs) (hM : mt l D cls (wo_tys cA) cA base y_pg_growthOf (Cond.code y_pg_growthOf b_pg_growthOf 3 (some .int) :: gt) rm_pg_growthOf (.ref (base + b) :: As) w ov w' rm_pg_growthOf.cells rm_pg_growthOf.slots) (hkb : kb w b 3 = true) (hR : rm_pg_growthOf.frames + 1 ≤ R.frames ∧ 8 + (3 + 11) + rm_pg_growthOf.locals ≤ R.locals) (hf : cells + rm_pg_growthOf.cells ≤ R.cells ∧ slots + rm_pg_growthOf.slots ≤ R.slots) (hn : As.length = 1) (hsz : ls.size = nL) (hst : st0 = As.reverse ++ .ref (base + b) :: rest) (hcat : (rest.map fun v => v.category).sum ≤ 8) (hdg : decode cc pc = .ok (.invokevirtual 235, 3)) (kk : ∀ (H1 : Heap) (locs1 : List Loc), wo_S D cls cA base s w' H1 locs1 → W p l e R s m args below meth c H1 locs1 (cells + rm_pg_growthOf.cells) (slots + rm_pg_growthOf.slots) Q (F0 m (pc + 3) ls (ov.toList ++ rest))) : W p l e R s m args below meth c H locs cells slots Q (F0 m pc ls st0) :=
  wo_callV (C := Rc_pg) hx hb hml hown hts hK hG hW hM hkb rfl (gt_of (i := 921) (by decide +kernel) (by decide +kernel)) (gt_of (i := 779) (by decide +kernel) (by decide +kernel)) (gt_of (i := 780) (by decide +kernel) (by decide +kernel)) (gt_of (i := 4) (by decide +kernel) (by decide +kernel)) (gt_of (i := 781) (by decide +kernel) (by decide +kernel)) (by decide +kernel) hR hf hn hsz hst hcat hdg kk
theorem cv_an_238 {p : Program} {l : Launch} {e : Env} {R : Room} {s : State} {m : MethodId} {args : Array Value} {below : List Frame} {meth : Method} {c : Code} {H : Heap} {locs : List Loc} {cells slots : Nat} {Q : State → Prop} {D : va_G} {cA : Nat → ClassId} {base : Nat} {w w' : WW} {cc : ByteArray} {pc nL : Nat} {ls : Array Slot} {rest st0 As : List Value} {ov : Option Value} {b : Nat} (hx : p.tables.exec = Jvm.exec) (hb : c.code = cc) (hml : c.maxLocals = nL) (hown : s.vm.findClass Rc_an = some m.cls) (hts : ∀ w ∈ gt, w.before args s = true) (hK : va_K D cls (wo_tys cA) s) (hG : wo_G cA base s) (hW : wo_S D cls cA base s w H locs) (hM : mt l D cls (wo_tys cA) cA base y_an_doStep (Cond.code y_an_doStep b_an_doStep 8 (none) :: gt) rm_an_doStep (.ref (base + b) :: As) w ov w' rm_an_doStep.cells rm_an_doStep.slots) (hkb : kb w b 6 = true) (hR : rm_an_doStep.frames + 1 ≤ R.frames ∧ 8 + (8 + 11) + rm_an_doStep.locals ≤ R.locals) (hf : cells + rm_an_doStep.cells ≤ R.cells ∧ slots + rm_an_doStep.slots ≤ R.slots) (hn : As.length = 4) (hsz : ls.size = nL) (hst : st0 = As.reverse ++ .ref (base + b) :: rest) (hcat : (rest.map fun v => v.category).sum ≤ 8) (hdg : decode cc pc = .ok (.invokevirtual 238, 3)) (kk : ∀ (H1 : Heap) (locs1 : List Loc), wo_S D cls cA base s w' H1 locs1 → W p l e R s m args below meth c H1 locs1 (cells + rm_an_doStep.cells) (slots + rm_an_doStep.slots) Q (F0 m (pc + 3) ls (ov.toList ++ rest))) : W p l e R s m args below meth c H locs cells slots Q (F0 m pc ls st0) :=
  wo_callV (C := Rc_an) hx hb hml hown hts hK hG hW hM hkb rfl (gt_of (i := 922) (by decide +kernel) (by decide +kernel)) (gt_of (i := 924) (by decide +kernel) (by decide +kernel)) (gt_sel (i := 41) (by decide +kernel) (by decide +kernel)) (gt_of (i := 7) (by decide +kernel) (by decide +kernel)) (gt_of (i := 925) (by decide +kernel) (by decide +kernel)) (by decide +kernel) hR hf hn hsz hst hcat hdg kk
abbrev b_an_workOut : ByteArray := prog_2_method_20_code
def y_an_workOut : MethodName := ⟨"AlarmForge$Analyser", "workOut", "(IIILAlarmForge$State;)Z"⟩
def rm_an_workOut : Room := { frames := 4, cells := 0, slots := 0, locals := 109 }
theorem d_an_workOut_0 : decode b_an_workOut 0 = .ok (.iload_n 3, 1) := by decide +kernel
theorem d_an_workOut_1 : decode b_an_workOut 1 = .ok (.istore 5, 2) := by decide +kernel
theorem d_an_workOut_3 : decode b_an_workOut 3 = .ok (.iload_n 1, 1) := by decide +kernel
theorem d_an_workOut_4 : decode b_an_workOut 4 = .ok (.istore 6, 2) := by decide +kernel
theorem d_an_workOut_6 : decode b_an_workOut 6 = .ok (.iload 6, 2) := by decide +kernel
theorem d_an_workOut_8 : decode b_an_workOut 8 = .ok (.iload_n 2, 1) := by decide +kernel
theorem d_an_workOut_9 : decode b_an_workOut 9 = .ok (.if_icmp .ge (76), 3) := by decide +kernel
theorem d_an_workOut_12 : decode b_an_workOut 12 = .ok (.iload 5, 2) := by decide +kernel
theorem d_an_workOut_14 : decode b_an_workOut 14 = .ok (.aload_n 0, 1) := by decide +kernel
theorem d_an_workOut_15 : decode b_an_workOut 15 = .ok (.getfield 33, 3) := by decide +kernel
theorem d_an_workOut_18 : decode b_an_workOut 18 = .ok (.iload 6, 2) := by decide +kernel
theorem d_an_workOut_20 : decode b_an_workOut 20 = .ok (.invokevirtual 235, 3) := by decide +kernel
theorem d_an_workOut_23 : decode b_an_workOut 23 = .ok (.iadd, 1) := by decide +kernel
theorem d_an_workOut_24 : decode b_an_workOut 24 = .ok (.istore 5, 2) := by decide +kernel
theorem d_an_workOut_26 : decode b_an_workOut 26 = .ok (.iload 5, 2) := by decide +kernel
theorem d_an_workOut_28 : decode b_an_workOut 28 = .ok (.iconst 1, 1) := by decide +kernel
theorem d_an_workOut_29 : decode b_an_workOut 29 = .ok (.if_icmp .lt (10), 3) := by decide +kernel
theorem d_an_workOut_32 : decode b_an_workOut 32 = .ok (.iload 5, 2) := by decide +kernel
theorem d_an_workOut_34 : decode b_an_workOut 34 = .ok (.bipush (25), 2) := by decide +kernel
theorem d_an_workOut_36 : decode b_an_workOut 36 = .ok (.if_icmp .lt (5), 3) := by decide +kernel
theorem d_an_workOut_39 : decode b_an_workOut 39 = .ok (.iconst 0, 1) := by decide +kernel
theorem d_an_workOut_40 : decode b_an_workOut 40 = .ok (.ireturn, 1) := by decide +kernel
theorem d_an_workOut_41 : decode b_an_workOut 41 = .ok (.aload_n 0, 1) := by decide +kernel
theorem d_an_workOut_42 : decode b_an_workOut 42 = .ok (.getfield 24, 3) := by decide +kernel
theorem d_an_workOut_45 : decode b_an_workOut 45 = .ok (.iload 5, 2) := by decide +kernel
theorem d_an_workOut_47 : decode b_an_workOut 47 = .ok (.iconst 1, 1) := by decide +kernel
theorem d_an_workOut_48 : decode b_an_workOut 48 = .ok (.isub, 1) := by decide +kernel
theorem d_an_workOut_49 : decode b_an_workOut 49 = .ok (.aaload, 1) := by decide +kernel
theorem d_an_workOut_50 : decode b_an_workOut 50 = .ok (.astore 7, 2) := by decide +kernel
theorem d_an_workOut_52 : decode b_an_workOut 52 = .ok (.aload_n 0, 1) := by decide +kernel
theorem d_an_workOut_53 : decode b_an_workOut 53 = .ok (.iload 6, 2) := by decide +kernel
theorem d_an_workOut_55 : decode b_an_workOut 55 = .ok (.aload 7, 2) := by decide +kernel
theorem d_an_workOut_57 : decode b_an_workOut 57 = .ok (.aload_n 0, 1) := by decide +kernel
theorem d_an_workOut_58 : decode b_an_workOut 58 = .ok (.getfield 24, 3) := by decide +kernel
theorem d_an_workOut_61 : decode b_an_workOut 61 = .ok (.iload 5, 2) := by decide +kernel
theorem d_an_workOut_63 : decode b_an_workOut 63 = .ok (.aaload, 1) := by decide +kernel
theorem d_an_workOut_64 : decode b_an_workOut 64 = .ok (.aload 4, 2) := by decide +kernel
theorem d_an_workOut_66 : decode b_an_workOut 66 = .ok (.invokevirtual 238, 3) := by decide +kernel
theorem d_an_workOut_69 : decode b_an_workOut 69 = .ok (.aload 7, 2) := by decide +kernel
theorem d_an_workOut_71 : decode b_an_workOut 71 = .ok (.getfield 188, 3) := by decide +kernel
theorem d_an_workOut_74 : decode b_an_workOut 74 = .ok (.ifCond .eq (5), 3) := by decide +kernel
theorem d_an_workOut_77 : decode b_an_workOut 77 = .ok (.iconst 0, 1) := by decide +kernel
theorem d_an_workOut_78 : decode b_an_workOut 78 = .ok (.ireturn, 1) := by decide +kernel
theorem d_an_workOut_79 : decode b_an_workOut 79 = .ok (.iinc 6 (1), 3) := by decide +kernel
theorem d_an_workOut_82 : decode b_an_workOut 82 = .ok (.goto (-76), 3) := by decide +kernel
theorem d_an_workOut_85 : decode b_an_workOut 85 = .ok (.iconst 1, 1) := by decide +kernel
theorem d_an_workOut_86 : decode b_an_workOut 86 = .ok (.ireturn, 1) := by decide +kernel
theorem kb_an_workOut {a0 a4 : Nat} {a1 : Int32} {a2 : Int32} {a3 : Int32} {w : WW} {r : (Int32 × WW)} (h : f_an_workOut a0 a1 a2 a3 a4 w = some r) : kb w a0 6 = true := (its h).1
set_option maxHeartbeats 4000000 in
set_option maxRecDepth 100000 in
theorem j_an_workOut_39 {p : Program} {l : Launch} {e : Env} {s : State} {m : MethodId} {args : Array Value} {below : List Frame} {meth : Method} {c : Code} {D : va_G} {cA : Nat → ClassId} {base : Nat} {r : Int32} {w' : WW} (C : cx b_an_workOut (some .boolean) 8 y_an_workOut.cls "workOut" p s m args meth c D cA base)   : ∀  (w : WW), f_an_workOut_39  w = some (r, w') → ∀ (H : Heap) (locs : List Loc) (ls : Array Slot), wo_S D cls cA base s w H locs → lv_has ls 8 [] → W p l e rm_an_workOut s m args below meth c H locs 0 0 (MQ below (wo_Q D cls cA base (some (.int r)) w') args s rm_an_workOut.cells rm_an_workOut.slots (wo_B base)) (F0 m 39 ls []) := by
  obtain ⟨hx, hb, hr, hml, hown, hts, hlk, hnm, hK, hG⟩ := id C
  intro  w h H locs ls hW hl
  unfold f_an_workOut_39 at h
  refine lv_iconst (v := (0 : Int32)) hx hb d_an_workOut_39 (by decide) ?_
  replace h := its h
  obtain ⟨c8, h⟩ := h
  cases h
  exact wo_zret hx hb hr hlk hW c8 d_an_workOut_40
set_option maxHeartbeats 4000000 in
set_option maxRecDepth 100000 in
theorem j_an_workOut_6 {p : Program} {l : Launch} {e : Env} {s : State} {m : MethodId} {args : Array Value} {below : List Frame} {meth : Method} {c : Code} {D : va_G} {cA : Nat → ClassId} {base : Nat} {r : Int32} {w' : WW} (C : cx b_an_workOut (some .boolean) 8 y_an_workOut.cls "workOut" p s m args meth c D cA base)   : ∀ n : Nat, ∀ (y0 : Nat) (y2 : Int32) (y4 : Nat) (y5 : Int32) (y6 : Int32) (w : WW), f_an_workOut_6 n y0 y2 y4 y5 y6 w = some (r, w') → ∀ (H : Heap) (locs : List Loc) (ls : Array Slot), wo_S D cls cA base s w H locs → lv_has ls 8 [(0, .ref (base + y0)), (2, .int y2), (4, .ref (base + y4)), (5, .int y5), (6, .int y6)] → W p l e rm_an_workOut s m args below meth c H locs 0 0 (MQ below (wo_Q D cls cA base (some (.int r)) w') args s rm_an_workOut.cells rm_an_workOut.slots (wo_B base)) (F0 m 6 ls []) := by
  obtain ⟨hx, hb, hr, hml, hown, hts, hlk, hnm, hK, hG⟩ := id C
  intro n
  induction n with
  | zero => intro y0 y2 y4 y5 y6 w h; cases h
  | succ n ih =>
    intro y0 y2 y4 y5 y6 w h H locs ls hW hl
    rw [f_an_workOut_6] at h
    refine lv_iload hx hb d_an_workOut_6 (lv_at hl 4 rfl) ?_
    refine lv_iload_n hx hb d_an_workOut_8 rfl (lv_at hl 1 rfl) ?_
    refine lv_icmp_ge (tgt := 85) hx hb d_an_workOut_9 (by decide) (fun c1 => ?_) (fun c1 => ?_)
    · rw [if_pos c1] at h
      refine lv_iconst (v := (1 : Int32)) hx hb d_an_workOut_85 (by decide) ?_
      replace h := its h
      obtain ⟨c2, h⟩ := h
      cases h
      exact wo_zret hx hb hr hlk hW c2 d_an_workOut_86
    · rw [if_neg c1] at h
      refine lv_iload hx hb d_an_workOut_12 (lv_at hl 3 rfl) ?_
      refine lv_aload_n hx hb d_an_workOut_14 rfl (lv_at hl 0 rfl) ?_
      replace h := bs h
      obtain ⟨x3, hx3, h⟩ := h
      refine gf_an_33 hx hb hts hown hK hG hW (gR_s hx3) d_an_workOut_15 ?_
      refine lv_iload hx hb d_an_workOut_18 (lv_at hl 4 rfl) ?_
      replace h := bs h
      obtain ⟨x4, ex4, h⟩ := h
      subst ex4
      replace h := bs2 h
      obtain ⟨x6, w5, hw5, h⟩ := h
      refine cv_an_235 (As := [.int y6]) (rest := [.int y5]) hx hb hml hown hts hK hG hW (c_pg_growthOf l D cA base hw5) (kb_pg_growthOf hw5) ⟨Nat.le_of_ble_eq_true rfl, Nat.le_of_ble_eq_true rfl⟩ ⟨Nat.le_of_ble_eq_true rfl, Nat.le_of_ble_eq_true rfl⟩ rfl hl.1 rfl (Nat.le_of_ble_eq_true rfl) d_an_workOut_20 (fun H locs hW => ?_)
      refine lv_iadd hx hb d_an_workOut_23 ?_
      refine lv_istore (lv' := [(5, .int (y5 + x6)), (0, .ref (base + y0)), (2, .int y2), (4, .ref (base + y4)), (6, .int y6)]) hx hb d_an_workOut_24 hl (by decide) rfl (fun ls hl => ?_)
      refine lv_iload hx hb d_an_workOut_26 (lv_at hl 0 rfl) ?_
      refine lv_iconst (v := (1 : Int32)) hx hb d_an_workOut_28 (by decide) ?_
      refine lv_icmp_lt (tgt := 39) hx hb d_an_workOut_29 (by decide) (fun c7 => ?_) (fun c7 => ?_)
      · rw [if_pos c7] at h
        exact j_an_workOut_39 C w5 h _ _ _ hW (lv_sub hl [] rfl)
      · rw [if_neg c7] at h
        refine lv_iload hx hb d_an_workOut_32 (lv_at hl 0 rfl) ?_
        refine lv_bipush (v := (25 : Int32)) hx hb d_an_workOut_34 (by decide) ?_
        refine lv_icmp_lt (tgt := 41) hx hb d_an_workOut_36 (by decide) (fun c9 => ?_) (fun c9 => ?_)
        · rw [if_pos c9] at h
          refine lv_aload_n hx hb d_an_workOut_41 rfl (lv_at hl 1 rfl) ?_
          replace h := bs h
          obtain ⟨x10, hx10, h⟩ := h
          refine gf_an_24 hx hb hts hown hK hG hW (gN_s hx10) d_an_workOut_42 ?_
          refine lv_iload hx hb d_an_workOut_45 (lv_at hl 0 rfl) ?_
          refine lv_iconst (v := (1 : Int32)) hx hb d_an_workOut_47 (by decide) ?_
          refine lv_isub hx hb d_an_workOut_48 ?_
          replace h := bs h
          obtain ⟨x11, hx11, h⟩ := h
          refine wo_aald hx hb hK hW (t := 4) rfl (rN_s hx11) d_an_workOut_49 ?_
          refine lv_astore (lv' := [(7, .ref (base + x11)), (5, .int (y5 + x6)), (0, .ref (base + y0)), (2, .int y2), (4, .ref (base + y4)), (6, .int y6)]) hx hb d_an_workOut_50 hl (by decide) rfl (fun ls hl => ?_)
          refine lv_aload_n hx hb d_an_workOut_52 rfl (lv_at hl 2 rfl) ?_
          refine lv_iload hx hb d_an_workOut_53 (lv_at hl 5 rfl) ?_
          refine lv_aload hx hb d_an_workOut_55 (lv_at hl 0 rfl) ?_
          refine lv_aload_n hx hb d_an_workOut_57 rfl (lv_at hl 2 rfl) ?_
          replace h := bs h
          obtain ⟨x12, hx12, h⟩ := h
          refine gf_an_24 hx hb hts hown hK hG hW (gN_s hx12) d_an_workOut_58 ?_
          refine lv_iload hx hb d_an_workOut_61 (lv_at hl 1 rfl) ?_
          replace h := bs h
          obtain ⟨x13, hx13, h⟩ := h
          refine wo_aald hx hb hK hW (t := 4) rfl (rN_s hx13) d_an_workOut_63 ?_
          refine lv_aload hx hb d_an_workOut_64 (lv_at hl 4 rfl) ?_
          replace h := bs h
          obtain ⟨w14, hw14, h⟩ := h
          refine cv_an_238 (As := [.int y6, .ref (base + x11), .ref (base + x13), .ref (base + y4)]) (rest := []) hx hb hml hown hts hK hG hW (c_an_doStep l D cA base hw14) (kb_an_doStep hw14) ⟨Nat.le_of_ble_eq_true rfl, Nat.le_of_ble_eq_true rfl⟩ ⟨Nat.le_of_ble_eq_true rfl, Nat.le_of_ble_eq_true rfl⟩ rfl hl.1 rfl (Nat.le_of_ble_eq_true rfl) d_an_workOut_66 (fun H locs hW => ?_)
          refine lv_aload hx hb d_an_workOut_69 (lv_at hl 0 rfl) ?_
          replace h := bs h
          obtain ⟨x15, hx15, h⟩ := h
          refine gf_an_188 hx hb hts hown hK hG hW (gI_s hx15) d_an_workOut_71 ?_
          refine lv_if_eq (tgt := 79) hx hb d_an_workOut_74 (by decide) (fun c16 => ?_) (fun c16 => ?_)
          · rw [if_pos c16] at h
            refine lv_iinc (v := (y6 + (1 : Int32))) (lv' := [(6, .int (y6 + (1 : Int32))), (7, .ref (base + x11)), (5, .int (y5 + x6)), (0, .ref (base + y0)), (2, .int y2), (4, .ref (base + y4))]) hx hb d_an_workOut_79 hl (k := 5) rfl rfl (by decide) rfl (fun ls hl => ?_)
            refine lv_goto (tgt := 6) hx hb d_an_workOut_82 (by decide) ?_
            exact ih y0 y2 y4 (y5 + x6) (y6 + (1 : Int32)) w14 h _ _ _ hW (lv_sub hl [3, 4, 5, 2, 0] rfl)
          · rw [if_neg c16] at h
            refine lv_iconst (v := (0 : Int32)) hx hb d_an_workOut_77 (by decide) ?_
            replace h := its h
            obtain ⟨c17, h⟩ := h
            cases h
            exact wo_zret hx hb hr hlk hW c17 d_an_workOut_78
        · rw [if_neg c9] at h
          exact j_an_workOut_39 C w5 h _ _ _ hW (lv_sub hl [] rfl)
set_option maxHeartbeats 4000000 in
set_option maxRecDepth 100000 in
theorem c_an_workOut (l : Launch) (D : va_G) (cA : Nat → ClassId) (base : Nat) {a0 : Nat} {a1 : Int32} {a2 : Int32} {a3 : Int32} {a4 : Nat} {w w' : WW} {r : Int32} (h : f_an_workOut a0 a1 a2 a3 a4 w = some (r, w')) : mt l D cls (wo_tys cA) cA base y_an_workOut (Cond.code y_an_workOut b_an_workOut 8 (some .boolean) :: gt) rm_an_workOut [.ref (base + a0), .int a1, .int a2, .int a3, .ref (base + a4)] w (some (.int r)) w' rm_an_workOut.cells rm_an_workOut.slots := by
  refine mt_start (by decide) (Nat.le_of_ble_eq_true rfl) ?_
  intro p e s m below meth c ls hx hb hr hml hown hts hlk hnm hK hG hW hl
  have C : cx b_an_workOut (some .boolean) 8 y_an_workOut.cls "workOut" p s m [.ref (base + a0), .int a1, .int a2, .int a3, .ref (base + a4)].toArray meth c D cA base := ⟨hx, hb, hr, hml, hown, hts, hlk, hnm, hK, hG⟩
  have hl : lv_has ls 8 [(0, .ref (base + a0)), (1, .int a1), (2, .int a2), (3, .int a3), (4, .ref (base + a4))] := hl
  unfold f_an_workOut at h
  replace h := its h
  obtain ⟨-, h⟩ := h
  refine lv_iload_n hx hb d_an_workOut_0 rfl (lv_at hl 3 rfl) ?_
  refine lv_istore (lv' := [(5, .int a3), (0, .ref (base + a0)), (1, .int a1), (2, .int a2), (3, .int a3), (4, .ref (base + a4))]) hx hb d_an_workOut_1 hl (by decide) rfl (fun ls hl => ?_)
  refine lv_iload_n hx hb d_an_workOut_3 rfl (lv_at hl 2 rfl) ?_
  refine lv_istore (lv' := [(6, .int a1), (5, .int a3), (0, .ref (base + a0)), (1, .int a1), (2, .int a2), (3, .int a3), (4, .ref (base + a4))]) hx hb d_an_workOut_4 hl (by decide) rfl (fun ls hl => ?_)
  exact j_an_workOut_6 C KK a0 a2 a4 a3 a1 w h _ _ _ hW (lv_sub hl [2, 4, 6, 1, 0] rfl)
theorem cv_an_118 {p : Program} {l : Launch} {e : Env} {R : Room} {s : State} {m : MethodId} {args : Array Value} {below : List Frame} {meth : Method} {c : Code} {H : Heap} {locs : List Loc} {cells slots : Nat} {Q : State → Prop} {D : va_G} {cA : Nat → ClassId} {base : Nat} {w w' : WW} {cc : ByteArray} {pc nL : Nat} {ls : Array Slot} {rest st0 As : List Value} {ov : Option Value} {b : Nat} (hx : p.tables.exec = Jvm.exec) (hb : c.code = cc) (hml : c.maxLocals = nL) (hown : s.vm.findClass Rc_an = some m.cls) (hts : ∀ w ∈ gt, w.before args s = true) (hK : va_K D cls (wo_tys cA) s) (hG : wo_G cA base s) (hW : wo_S D cls cA base s w H locs) (hM : mt l D cls (wo_tys cA) cA base y_an_workOut (Cond.code y_an_workOut b_an_workOut 8 (some .boolean) :: gt) rm_an_workOut (.ref (base + b) :: As) w ov w' rm_an_workOut.cells rm_an_workOut.slots) (hkb : kb w b 6 = true) (hR : rm_an_workOut.frames + 1 ≤ R.frames ∧ 8 + (8 + 11) + rm_an_workOut.locals ≤ R.locals) (hf : cells + rm_an_workOut.cells ≤ R.cells ∧ slots + rm_an_workOut.slots ≤ R.slots) (hn : As.length = 4) (hsz : ls.size = nL) (hst : st0 = As.reverse ++ .ref (base + b) :: rest) (hcat : (rest.map fun v => v.category).sum ≤ 8) (hdg : decode cc pc = .ok (.invokevirtual 118, 3)) (kk : ∀ (H1 : Heap) (locs1 : List Loc), wo_S D cls cA base s w' H1 locs1 → W p l e R s m args below meth c H1 locs1 (cells + rm_an_workOut.cells) (slots + rm_an_workOut.slots) Q (F0 m (pc + 3) ls (ov.toList ++ rest))) : W p l e R s m args below meth c H locs cells slots Q (F0 m pc ls st0) :=
  wo_callV (C := Rc_an) hx hb hml hown hts hK hG hW hM hkb rfl (gt_of (i := 917) (by decide +kernel) (by decide +kernel)) (gt_of (i := 919) (by decide +kernel) (by decide +kernel)) (gt_sel (i := 40) (by decide +kernel) (by decide +kernel)) (gt_of (i := 7) (by decide +kernel) (by decide +kernel)) (gt_of (i := 920) (by decide +kernel) (by decide +kernel)) (by decide +kernel) hR hf hn hsz hst hcat hdg kk
abbrev b_an_goAssignment : ByteArray := prog_2_method_7_code
def y_an_goAssignment : MethodName := ⟨"AlarmForge$Analyser", "goAssignment", "(LAlarmForge$Statement;LAlarmForge$State;)V"⟩
def rm_an_goAssignment : Room := { frames := 5, cells := 0, slots := 0, locals := 136 }
theorem d_an_goAssignment_0 : decode b_an_goAssignment 0 = .ok (.aload_n 0, 1) := by decide +kernel
theorem d_an_goAssignment_1 : decode b_an_goAssignment 1 = .ok (.aload_n 1, 1) := by decide +kernel
theorem d_an_goAssignment_2 : decode b_an_goAssignment 2 = .ok (.getfield 113, 3) := by decide +kernel
theorem d_an_goAssignment_5 : decode b_an_goAssignment 5 = .ok (.aload_n 1, 1) := by decide +kernel
theorem d_an_goAssignment_6 : decode b_an_goAssignment 6 = .ok (.getfield 116, 3) := by decide +kernel
theorem d_an_goAssignment_9 : decode b_an_goAssignment 9 = .ok (.iconst 0, 1) := by decide +kernel
theorem d_an_goAssignment_10 : decode b_an_goAssignment 10 = .ok (.aload_n 2, 1) := by decide +kernel
theorem d_an_goAssignment_11 : decode b_an_goAssignment 11 = .ok (.invokevirtual 118, 3) := by decide +kernel
theorem d_an_goAssignment_14 : decode b_an_goAssignment 14 = .ok (.ifCond .ne (9), 3) := by decide +kernel
theorem d_an_goAssignment_17 : decode b_an_goAssignment 17 = .ok (.aload_n 2, 1) := by decide +kernel
theorem d_an_goAssignment_18 : decode b_an_goAssignment 18 = .ok (.iconst 1, 1) := by decide +kernel
theorem d_an_goAssignment_19 : decode b_an_goAssignment 19 = .ok (.putfield 70, 3) := by decide +kernel
theorem d_an_goAssignment_22 : decode b_an_goAssignment 22 = .ok (.return_, 1) := by decide +kernel
theorem d_an_goAssignment_23 : decode b_an_goAssignment 23 = .ok (.aload_n 2, 1) := by decide +kernel
theorem d_an_goAssignment_24 : decode b_an_goAssignment 24 = .ok (.getfield 88, 3) := by decide +kernel
theorem d_an_goAssignment_27 : decode b_an_goAssignment 27 = .ok (.aload_n 1, 1) := by decide +kernel
theorem d_an_goAssignment_28 : decode b_an_goAssignment 28 = .ok (.getfield 91, 3) := by decide +kernel
theorem d_an_goAssignment_31 : decode b_an_goAssignment 31 = .ok (.aaload, 1) := by decide +kernel
theorem d_an_goAssignment_32 : decode b_an_goAssignment 32 = .ok (.aload_n 0, 1) := by decide +kernel
theorem d_an_goAssignment_33 : decode b_an_goAssignment 33 = .ok (.getfield 24, 3) := by decide +kernel
theorem d_an_goAssignment_36 : decode b_an_goAssignment 36 = .ok (.iconst 0, 1) := by decide +kernel
theorem d_an_goAssignment_37 : decode b_an_goAssignment 37 = .ok (.aaload, 1) := by decide +kernel
theorem d_an_goAssignment_38 : decode b_an_goAssignment 38 = .ok (.invokevirtual 122, 3) := by decide +kernel
theorem d_an_goAssignment_41 : decode b_an_goAssignment 41 = .ok (.aload_n 2, 1) := by decide +kernel
theorem d_an_goAssignment_42 : decode b_an_goAssignment 42 = .ok (.getfield 97, 3) := by decide +kernel
theorem d_an_goAssignment_45 : decode b_an_goAssignment 45 = .ok (.aload_n 1, 1) := by decide +kernel
theorem d_an_goAssignment_46 : decode b_an_goAssignment 46 = .ok (.getfield 91, 3) := by decide +kernel
theorem d_an_goAssignment_49 : decode b_an_goAssignment 49 = .ok (.iconst 0, 1) := by decide +kernel
theorem d_an_goAssignment_50 : decode b_an_goAssignment 50 = .ok (.bastore, 1) := by decide +kernel
theorem d_an_goAssignment_51 : decode b_an_goAssignment 51 = .ok (.return_, 1) := by decide +kernel
theorem kb_an_goAssignment {a0 a2 : Nat} {a1 : Option Nat} {w : WW} {r : WW} (h : f_an_goAssignment a0 a1 a2 w = some r) : kb w a0 6 = true := (its h).1
set_option maxHeartbeats 4000000 in
set_option maxRecDepth 100000 in
theorem c_an_goAssignment (l : Launch) (D : va_G) (cA : Nat → ClassId) (base : Nat) {a0 : Nat} {a1 : Option Nat} {a2 : Nat} {w w' : WW} (h : f_an_goAssignment a0 a1 a2 w = some w') : mt l D cls (wo_tys cA) cA base y_an_goAssignment (Cond.code y_an_goAssignment b_an_goAssignment 3 (none) :: gt) rm_an_goAssignment [.ref (base + a0), rb base a1, .ref (base + a2)] w none w' rm_an_goAssignment.cells rm_an_goAssignment.slots := by
  refine mt_start (by decide) (by simp only [lg_sl_0, lg_sl_1, lg_sl_2, lg_sl_3, lg_sl_rf]; decide) ?_
  intro p e s m below meth c ls hx hb hr hml hown hts hlk hnm hK hG hW hl
  have C : cx b_an_goAssignment (none) 3 y_an_goAssignment.cls "goAssignment" p s m [.ref (base + a0), rb base a1, .ref (base + a2)].toArray meth c D cA base := ⟨hx, hb, hr, hml, hown, hts, hlk, hnm, hK, hG⟩
  have hl : lv_has ls 3 [(0, .ref (base + a0)), (1, rb base a1), (2, .ref (base + a2))] := by simp only [lv_args_0, lv_args_1, lv_args_2, lv_args_3, lv_args_rf] at hl; exact hl
  unfold f_an_goAssignment at h
  replace h := its h
  obtain ⟨-, h⟩ := h
  refine lv_aload_n hx hb d_an_goAssignment_0 rfl (lv_at hl 0 rfl) ?_
  refine wo_aload_n hx hb d_an_goAssignment_1 rfl (lv_at hl 1 rfl) ?_
  replace h := bs h
  obtain ⟨x1, ex1, h⟩ := h
  subst ex1
  replace h := bs h
  obtain ⟨x2, hx2, h⟩ := h
  refine gf_an_113 hx hb hts hown hK hG hW (gI_s hx2) d_an_goAssignment_2 ?_
  have hl : lv_has ls 3 [(0, .ref (base + a0)), (1, .ref (base + x1)), (2, .ref (base + a2))] := hl
  refine lv_aload_n hx hb d_an_goAssignment_5 rfl (lv_at hl 1 rfl) ?_
  replace h := bs h
  obtain ⟨x3, hx3, h⟩ := h
  refine gf_an_116 hx hb hts hown hK hG hW (gI_s hx3) d_an_goAssignment_6 ?_
  refine lv_iconst (v := (0 : Int32)) hx hb d_an_goAssignment_9 (by decide) ?_
  refine lv_aload_n hx hb d_an_goAssignment_10 rfl (lv_at hl 2 rfl) ?_
  replace h := bs2 h
  obtain ⟨x5, w4, hw4, h⟩ := h
  refine cv_an_118 (As := [.int x2, .int x3, .int (0 : Int32), .ref (base + a2)]) (rest := []) hx hb hml hown hts hK hG hW (c_an_workOut l D cA base hw4) (kb_an_workOut hw4) ⟨Nat.le_of_ble_eq_true rfl, Nat.le_of_ble_eq_true rfl⟩ ⟨Nat.le_of_ble_eq_true rfl, Nat.le_of_ble_eq_true rfl⟩ rfl hl.1 rfl (Nat.le_of_ble_eq_true rfl) d_an_goAssignment_11 (fun H locs hW => ?_)
  refine lv_if_ne (tgt := 23) hx hb d_an_goAssignment_14 (by decide) (fun c6 => ?_) (fun c6 => ?_)
  · rw [if_neg c6] at h
    refine lv_aload_n hx hb d_an_goAssignment_23 rfl (lv_at hl 2 rfl) ?_
    replace h := bs h
    obtain ⟨x7, hx7, h⟩ := h
    refine gf_an_88 hx hb hts hown hK hG hW (gN_s hx7) d_an_goAssignment_24 ?_
    refine lv_aload_n hx hb d_an_goAssignment_27 rfl (lv_at hl 1 rfl) ?_
    replace h := bs h
    obtain ⟨x8, hx8, h⟩ := h
    refine gf_an_91 hx hb hts hown hK hG hW (gI_s hx8) d_an_goAssignment_28 ?_
    replace h := bs h
    obtain ⟨x9, hx9, h⟩ := h
    refine wo_aald hx hb hK hW (t := 4) rfl (rN_s hx9) d_an_goAssignment_31 ?_
    refine lv_aload_n hx hb d_an_goAssignment_32 rfl (lv_at hl 0 rfl) ?_
    replace h := bs h
    obtain ⟨x10, hx10, h⟩ := h
    refine gf_an_24 hx hb hts hown hK hG hW (gN_s hx10) d_an_goAssignment_33 ?_
    refine lv_iconst (v := (0 : Int32)) hx hb d_an_goAssignment_36 (by decide) ?_
    replace h := bs h
    obtain ⟨x11, hx11, h⟩ := h
    refine wo_aald hx hb hK hW (t := 4) rfl (rN_s hx11) d_an_goAssignment_37 ?_
    replace h := bs h
    obtain ⟨w12, hw12, h⟩ := h
    refine cv_an_122 (As := [.ref (base + x11)]) (rest := []) hx hb hml hown hts hK hG hW (c_va_copy l D cA base hw12) (kb_va_copy hw12) ⟨Nat.le_of_ble_eq_true rfl, Nat.le_of_ble_eq_true rfl⟩ ⟨Nat.le_of_ble_eq_true rfl, Nat.le_of_ble_eq_true rfl⟩ rfl hl.1 rfl (Nat.le_of_ble_eq_true rfl) d_an_goAssignment_38 (fun H locs hW => ?_)
    refine lv_aload_n hx hb d_an_goAssignment_41 rfl (lv_at hl 2 rfl) ?_
    replace h := bs h
    obtain ⟨x13, hx13, h⟩ := h
    refine gf_an_97 hx hb hts hown hK hG hW (gN_s hx13) d_an_goAssignment_42 ?_
    refine lv_aload_n hx hb d_an_goAssignment_45 rfl (lv_at hl 1 rfl) ?_
    replace h := bs h
    obtain ⟨x14, hx14, h⟩ := h
    refine gf_an_91 hx hb hts hown hK hG hW (gI_s hx14) d_an_goAssignment_46 ?_
    refine lv_iconst (v := (0 : Int32)) hx hb d_an_goAssignment_49 (by decide) ?_
    replace h := bs h
    obtain ⟨w15, hw15, h⟩ := h
    refine wo_zast hx hb hK hW (t := 2) rfl hw15 d_an_goAssignment_50 (fun H locs hW => ?_)
    cases h
    exact wo_vret hx hb hr hlk hW d_an_goAssignment_51
  · rw [if_pos c6] at h
    refine lv_aload_n hx hb d_an_goAssignment_17 rfl (lv_at hl 2 rfl) ?_
    refine lv_iconst (v := (1 : Int32)) hx hb d_an_goAssignment_18 (by decide) ?_
    replace h := its h
    obtain ⟨c17, h⟩ := h
    replace h := bs h
    obtain ⟨w16, hw16, h⟩ := h
    refine pf_an_70 hx hb hts hown hK hG hW (z_n c17) (z_f c17) (pbi hw16 rfl) d_an_goAssignment_19 (fun H locs hW => ?_)
    cases h
    exact wo_vret hx hb hr hlk hW d_an_goAssignment_22
abbrev b_va_setAll : ByteArray := prog_9_method_4_code
def y_va_setAll : MethodName := ⟨"AlarmForge$Value", "setAll", "()V"⟩
def rm_va_setAll : Room := { frames := 0, cells := 0, slots := 0, locals := 0 }
theorem d_va_setAll_0 : decode b_va_setAll 0 = .ok (.aload_n 0, 1) := by decide +kernel
theorem d_va_setAll_1 : decode b_va_setAll 1 = .ok (.iconst 0, 1) := by decide +kernel
theorem d_va_setAll_2 : decode b_va_setAll 2 = .ok (.putfield 9, 3) := by decide +kernel
theorem d_va_setAll_5 : decode b_va_setAll 5 = .ok (.aload_n 0, 1) := by decide +kernel
theorem d_va_setAll_6 : decode b_va_setAll 6 = .ok (.ldc2_w 28, 3) := by decide +kernel
theorem d_va_setAll_9 : decode b_va_setAll 9 = .ok (.putfield 15, 3) := by decide +kernel
theorem d_va_setAll_12 : decode b_va_setAll 12 = .ok (.aload_n 0, 1) := by decide +kernel
theorem d_va_setAll_13 : decode b_va_setAll 13 = .ok (.ldc2_w 30, 3) := by decide +kernel
theorem d_va_setAll_16 : decode b_va_setAll 16 = .ok (.putfield 19, 3) := by decide +kernel
theorem d_va_setAll_19 : decode b_va_setAll 19 = .ok (.aload_n 0, 1) := by decide +kernel
theorem d_va_setAll_20 : decode b_va_setAll 20 = .ok (.lconst 1, 1) := by decide +kernel
theorem d_va_setAll_21 : decode b_va_setAll 21 = .ok (.putfield 22, 3) := by decide +kernel
theorem d_va_setAll_24 : decode b_va_setAll 24 = .ok (.aload_n 0, 1) := by decide +kernel
theorem d_va_setAll_25 : decode b_va_setAll 25 = .ok (.lconst 0, 1) := by decide +kernel
theorem d_va_setAll_26 : decode b_va_setAll 26 = .ok (.putfield 25, 3) := by decide +kernel
theorem d_va_setAll_29 : decode b_va_setAll 29 = .ok (.return_, 1) := by decide +kernel
theorem kb_va_setAll {a0 : Nat}  {w : WW} {r : WW} (h : f_va_setAll a0 w = some r) : kb w a0 8 = true := (its h).1
set_option maxHeartbeats 4000000 in
set_option maxRecDepth 100000 in
theorem c_va_setAll (l : Launch) (D : va_G) (cA : Nat → ClassId) (base : Nat) {a0 : Nat} {w w' : WW} (h : f_va_setAll a0 w = some w') : mt l D cls (wo_tys cA) cA base y_va_setAll (Cond.code y_va_setAll b_va_setAll 1 (none) :: gt) rm_va_setAll [.ref (base + a0)] w none w' rm_va_setAll.cells rm_va_setAll.slots := by
  refine mt_start (by decide) (Nat.le_of_ble_eq_true rfl) ?_
  intro p e s m below meth c ls hx hb hr hml hown hts hlk hnm hK hG hW hl
  have C : cx b_va_setAll (none) 1 y_va_setAll.cls "setAll" p s m [.ref (base + a0)].toArray meth c D cA base := ⟨hx, hb, hr, hml, hown, hts, hlk, hnm, hK, hG⟩
  have hl : lv_has ls 1 [(0, .ref (base + a0))] := hl
  unfold f_va_setAll at h
  replace h := its h
  obtain ⟨-, h⟩ := h
  refine lv_aload_n hx hb d_va_setAll_0 rfl (lv_at hl 0 rfl) ?_
  refine lv_iconst (v := (0 : Int32)) hx hb d_va_setAll_1 (by decide) ?_
  replace h := its h
  obtain ⟨c2, h⟩ := h
  replace h := bs h
  obtain ⟨w1, hw1, h⟩ := h
  refine pf_va_9 hx hb hts hown hK hG hW (z_n c2) (z_f c2) (pbi hw1 rfl) d_va_setAll_2 (fun H locs hW => ?_)
  refine lv_aload_n hx hb d_va_setAll_5 rfl (lv_at hl 0 rfl) ?_
  refine lv_ldc2 (own := Rc_va) (v := (-2147483648 : Int64)) hx hb hown (hts (.constantLong "AlarmForge$Value" 28 (-2147483648 : Int64)) (gt_of (i := 972) (by decide +kernel) (by decide +kernel))) d_va_setAll_6 ?_
  replace h := bs h
  obtain ⟨w3, hw3, h⟩ := h
  refine pf_va_15 hx hb hts hown hK hG hW rfl rfl (pbi hw3 rfl) d_va_setAll_9 (fun H locs hW => ?_)
  refine lv_aload_n hx hb d_va_setAll_12 rfl (lv_at hl 0 rfl) ?_
  refine lv_ldc2 (own := Rc_va) (v := (2147483647 : Int64)) hx hb hown (hts (.constantLong "AlarmForge$Value" 30 (2147483647 : Int64)) (gt_of (i := 973) (by decide +kernel) (by decide +kernel))) d_va_setAll_13 ?_
  replace h := bs h
  obtain ⟨w4, hw4, h⟩ := h
  refine pf_va_19 hx hb hts hown hK hG hW rfl rfl (pbi hw4 rfl) d_va_setAll_16 (fun H locs hW => ?_)
  refine lv_aload_n hx hb d_va_setAll_19 rfl (lv_at hl 0 rfl) ?_
  refine lv_lconst (v := (1 : Int64)) hx hb d_va_setAll_20 (by decide) ?_
  replace h := bs h
  obtain ⟨w5, hw5, h⟩ := h
  refine pf_va_22 hx hb hts hown hK hG hW rfl rfl (pbi hw5 rfl) d_va_setAll_21 (fun H locs hW => ?_)
  refine lv_aload_n hx hb d_va_setAll_24 rfl (lv_at hl 0 rfl) ?_
  refine lv_lconst (v := (0 : Int64)) hx hb d_va_setAll_25 (by decide) ?_
  replace h := bs h
  obtain ⟨w6, hw6, h⟩ := h
  refine pf_va_25 hx hb hts hown hK hG hW rfl rfl (pbi hw6 rfl) d_va_setAll_26 (fun H locs hW => ?_)
  cases h
  exact wo_vret hx hb hr hlk hW d_va_setAll_29
abbrev b_an_goStore : ByteArray := prog_2_method_8_code
def y_an_goStore : MethodName := ⟨"AlarmForge$Analyser", "goStore", "(LAlarmForge$Statement;LAlarmForge$State;)V"⟩
def rm_an_goStore : Room := { frames := 5, cells := 0, slots := 0, locals := 136 }
theorem d_an_goStore_0 : decode b_an_goStore 0 = .ok (.aload_n 0, 1) := by decide +kernel
theorem d_an_goStore_1 : decode b_an_goStore 1 = .ok (.aload_n 1, 1) := by decide +kernel
theorem d_an_goStore_2 : decode b_an_goStore 2 = .ok (.getfield 113, 3) := by decide +kernel
theorem d_an_goStore_5 : decode b_an_goStore 5 = .ok (.aload_n 1, 1) := by decide +kernel
theorem d_an_goStore_6 : decode b_an_goStore 6 = .ok (.getfield 126, 3) := by decide +kernel
theorem d_an_goStore_9 : decode b_an_goStore 9 = .ok (.iconst 0, 1) := by decide +kernel
theorem d_an_goStore_10 : decode b_an_goStore 10 = .ok (.aload_n 2, 1) := by decide +kernel
theorem d_an_goStore_11 : decode b_an_goStore 11 = .ok (.invokevirtual 118, 3) := by decide +kernel
theorem d_an_goStore_14 : decode b_an_goStore 14 = .ok (.ifCond .ne (9), 3) := by decide +kernel
theorem d_an_goStore_17 : decode b_an_goStore 17 = .ok (.aload_n 2, 1) := by decide +kernel
theorem d_an_goStore_18 : decode b_an_goStore 18 = .ok (.iconst 1, 1) := by decide +kernel
theorem d_an_goStore_19 : decode b_an_goStore 19 = .ok (.putfield 70, 3) := by decide +kernel
theorem d_an_goStore_22 : decode b_an_goStore 22 = .ok (.return_, 1) := by decide +kernel
theorem d_an_goStore_23 : decode b_an_goStore 23 = .ok (.aload_n 0, 1) := by decide +kernel
theorem d_an_goStore_24 : decode b_an_goStore 24 = .ok (.getfield 24, 3) := by decide +kernel
theorem d_an_goStore_27 : decode b_an_goStore 27 = .ok (.iconst 0, 1) := by decide +kernel
theorem d_an_goStore_28 : decode b_an_goStore 28 = .ok (.aaload, 1) := by decide +kernel
theorem d_an_goStore_29 : decode b_an_goStore 29 = .ok (.astore_n 3, 1) := by decide +kernel
theorem d_an_goStore_30 : decode b_an_goStore 30 = .ok (.aload_n 0, 1) := by decide +kernel
theorem d_an_goStore_31 : decode b_an_goStore 31 = .ok (.aload_n 3, 1) := by decide +kernel
theorem d_an_goStore_32 : decode b_an_goStore 32 = .ok (.invokevirtual 129, 3) := by decide +kernel
theorem d_an_goStore_35 : decode b_an_goStore 35 = .ok (.iconst 2, 1) := by decide +kernel
theorem d_an_goStore_36 : decode b_an_goStore 36 = .ok (.aload_n 1, 1) := by decide +kernel
theorem d_an_goStore_37 : decode b_an_goStore 37 = .ok (.getfield 133, 3) := by decide +kernel
theorem d_an_goStore_40 : decode b_an_goStore 40 = .ok (.invokevirtual 136, 3) := by decide +kernel
theorem d_an_goStore_43 : decode b_an_goStore 43 = .ok (.iconst 0, 1) := by decide +kernel
theorem d_an_goStore_44 : decode b_an_goStore 44 = .ok (.istore 4, 2) := by decide +kernel
theorem d_an_goStore_46 : decode b_an_goStore 46 = .ok (.iconst 0, 1) := by decide +kernel
theorem d_an_goStore_47 : decode b_an_goStore 47 = .ok (.istore 5, 2) := by decide +kernel
theorem d_an_goStore_49 : decode b_an_goStore 49 = .ok (.iload 5, 2) := by decide +kernel
theorem d_an_goStore_51 : decode b_an_goStore 51 = .ok (.iconst 4, 1) := by decide +kernel
theorem d_an_goStore_52 : decode b_an_goStore 52 = .ok (.if_icmp .ge (29), 3) := by decide +kernel
theorem d_an_goStore_55 : decode b_an_goStore 55 = .ok (.iload 4, 2) := by decide +kernel
theorem d_an_goStore_57 : decode b_an_goStore 57 = .ok (.aload_n 3, 1) := by decide +kernel
theorem d_an_goStore_58 : decode b_an_goStore 58 = .ok (.iload 5, 2) := by decide +kernel
theorem d_an_goStore_60 : decode b_an_goStore 60 = .ok (.i2l, 1) := by decide +kernel
theorem d_an_goStore_61 : decode b_an_goStore 61 = .ok (.invokevirtual 140, 3) := by decide +kernel
theorem d_an_goStore_64 : decode b_an_goStore 64 = .ok (.ifCond .eq (7), 3) := by decide +kernel
theorem d_an_goStore_67 : decode b_an_goStore 67 = .ok (.iconst 1, 1) := by decide +kernel
theorem d_an_goStore_68 : decode b_an_goStore 68 = .ok (.goto (4), 3) := by decide +kernel
theorem d_an_goStore_71 : decode b_an_goStore 71 = .ok (.iconst 0, 1) := by decide +kernel
theorem d_an_goStore_72 : decode b_an_goStore 72 = .ok (.iadd, 1) := by decide +kernel
theorem d_an_goStore_73 : decode b_an_goStore 73 = .ok (.istore 4, 2) := by decide +kernel
theorem d_an_goStore_75 : decode b_an_goStore 75 = .ok (.iinc 5 (1), 3) := by decide +kernel
theorem d_an_goStore_78 : decode b_an_goStore 78 = .ok (.goto (-29), 3) := by decide +kernel
theorem d_an_goStore_81 : decode b_an_goStore 81 = .ok (.aload_n 0, 1) := by decide +kernel
theorem d_an_goStore_82 : decode b_an_goStore 82 = .ok (.aload_n 1, 1) := by decide +kernel
theorem d_an_goStore_83 : decode b_an_goStore 83 = .ok (.getfield 126, 3) := by decide +kernel
theorem d_an_goStore_86 : decode b_an_goStore 86 = .ok (.aload_n 1, 1) := by decide +kernel
theorem d_an_goStore_87 : decode b_an_goStore 87 = .ok (.getfield 116, 3) := by decide +kernel
theorem d_an_goStore_90 : decode b_an_goStore 90 = .ok (.iconst 1, 1) := by decide +kernel
theorem d_an_goStore_91 : decode b_an_goStore 91 = .ok (.aload_n 2, 1) := by decide +kernel
theorem d_an_goStore_92 : decode b_an_goStore 92 = .ok (.invokevirtual 118, 3) := by decide +kernel
theorem d_an_goStore_95 : decode b_an_goStore 95 = .ok (.ifCond .eq (8), 3) := by decide +kernel
theorem d_an_goStore_98 : decode b_an_goStore 98 = .ok (.iload 4, 2) := by decide +kernel
theorem d_an_goStore_100 : decode b_an_goStore 100 = .ok (.ifCond .ne (9), 3) := by decide +kernel
theorem d_an_goStore_103 : decode b_an_goStore 103 = .ok (.aload_n 2, 1) := by decide +kernel
theorem d_an_goStore_104 : decode b_an_goStore 104 = .ok (.iconst 1, 1) := by decide +kernel
theorem d_an_goStore_105 : decode b_an_goStore 105 = .ok (.putfield 70, 3) := by decide +kernel
theorem d_an_goStore_108 : decode b_an_goStore 108 = .ok (.return_, 1) := by decide +kernel
theorem d_an_goStore_109 : decode b_an_goStore 109 = .ok (.iconst 0, 1) := by decide +kernel
theorem d_an_goStore_110 : decode b_an_goStore 110 = .ok (.istore 5, 2) := by decide +kernel
theorem d_an_goStore_112 : decode b_an_goStore 112 = .ok (.iload 5, 2) := by decide +kernel
theorem d_an_goStore_114 : decode b_an_goStore 114 = .ok (.iconst 4, 1) := by decide +kernel
theorem d_an_goStore_115 : decode b_an_goStore 115 = .ok (.if_icmp .ge (77), 3) := by decide +kernel
theorem d_an_goStore_118 : decode b_an_goStore 118 = .ok (.aload_n 2, 1) := by decide +kernel
theorem d_an_goStore_119 : decode b_an_goStore 119 = .ok (.getfield 88, 3) := by decide +kernel
theorem d_an_goStore_122 : decode b_an_goStore 122 = .ok (.bipush (6), 2) := by decide +kernel
theorem d_an_goStore_124 : decode b_an_goStore 124 = .ok (.aload_n 1, 1) := by decide +kernel
theorem d_an_goStore_125 : decode b_an_goStore 125 = .ok (.getfield 91, 3) := by decide +kernel
theorem d_an_goStore_128 : decode b_an_goStore 128 = .ok (.iadd, 1) := by decide +kernel
theorem d_an_goStore_129 : decode b_an_goStore 129 = .ok (.iload 5, 2) := by decide +kernel
theorem d_an_goStore_131 : decode b_an_goStore 131 = .ok (.iadd, 1) := by decide +kernel
theorem d_an_goStore_132 : decode b_an_goStore 132 = .ok (.aaload, 1) := by decide +kernel
theorem d_an_goStore_133 : decode b_an_goStore 133 = .ok (.astore 6, 2) := by decide +kernel
theorem d_an_goStore_135 : decode b_an_goStore 135 = .ok (.aload_n 3, 1) := by decide +kernel
theorem d_an_goStore_136 : decode b_an_goStore 136 = .ok (.iload 5, 2) := by decide +kernel
theorem d_an_goStore_138 : decode b_an_goStore 138 = .ok (.i2l, 1) := by decide +kernel
theorem d_an_goStore_139 : decode b_an_goStore 139 = .ok (.invokevirtual 140, 3) := by decide +kernel
theorem d_an_goStore_142 : decode b_an_goStore 142 = .ok (.ifCond .eq (23), 3) := by decide +kernel
theorem d_an_goStore_145 : decode b_an_goStore 145 = .ok (.iload 4, 2) := by decide +kernel
theorem d_an_goStore_147 : decode b_an_goStore 147 = .ok (.iconst 1, 1) := by decide +kernel
theorem d_an_goStore_148 : decode b_an_goStore 148 = .ok (.if_icmp .ne (17), 3) := by decide +kernel
theorem d_an_goStore_151 : decode b_an_goStore 151 = .ok (.aload 6, 2) := by decide +kernel
theorem d_an_goStore_153 : decode b_an_goStore 153 = .ok (.aload_n 0, 1) := by decide +kernel
theorem d_an_goStore_154 : decode b_an_goStore 154 = .ok (.getfield 24, 3) := by decide +kernel
theorem d_an_goStore_157 : decode b_an_goStore 157 = .ok (.iconst 1, 1) := by decide +kernel
theorem d_an_goStore_158 : decode b_an_goStore 158 = .ok (.aaload, 1) := by decide +kernel
theorem d_an_goStore_159 : decode b_an_goStore 159 = .ok (.invokevirtual 122, 3) := by decide +kernel
theorem d_an_goStore_162 : decode b_an_goStore 162 = .ok (.goto (24), 3) := by decide +kernel
theorem d_an_goStore_165 : decode b_an_goStore 165 = .ok (.aload_n 3, 1) := by decide +kernel
theorem d_an_goStore_166 : decode b_an_goStore 166 = .ok (.iload 5, 2) := by decide +kernel
theorem d_an_goStore_168 : decode b_an_goStore 168 = .ok (.i2l, 1) := by decide +kernel
theorem d_an_goStore_169 : decode b_an_goStore 169 = .ok (.invokevirtual 140, 3) := by decide +kernel
theorem d_an_goStore_172 : decode b_an_goStore 172 = .ok (.ifCond .eq (14), 3) := by decide +kernel
theorem d_an_goStore_175 : decode b_an_goStore 175 = .ok (.aload 6, 2) := by decide +kernel
theorem d_an_goStore_177 : decode b_an_goStore 177 = .ok (.aload_n 0, 1) := by decide +kernel
theorem d_an_goStore_178 : decode b_an_goStore 178 = .ok (.getfield 24, 3) := by decide +kernel
theorem d_an_goStore_181 : decode b_an_goStore 181 = .ok (.iconst 1, 1) := by decide +kernel
theorem d_an_goStore_182 : decode b_an_goStore 182 = .ok (.aaload, 1) := by decide +kernel
theorem d_an_goStore_183 : decode b_an_goStore 183 = .ok (.invokevirtual 144, 3) := by decide +kernel
theorem d_an_goStore_186 : decode b_an_goStore 186 = .ok (.iinc 5 (1), 3) := by decide +kernel
theorem d_an_goStore_189 : decode b_an_goStore 189 = .ok (.goto (-77), 3) := by decide +kernel
theorem d_an_goStore_192 : decode b_an_goStore 192 = .ok (.return_, 1) := by decide +kernel
theorem kb_an_goStore {a0 a2 : Nat} {a1 : Option Nat} {w : WW} {r : WW} (h : f_an_goStore a0 a1 a2 w = some r) : kb w a0 6 = true := (its h).1
set_option maxHeartbeats 4000000 in
set_option maxRecDepth 100000 in
theorem j_an_goStore_103 {p : Program} {l : Launch} {e : Env} {s : State} {m : MethodId} {args : Array Value} {below : List Frame} {meth : Method} {c : Code} {D : va_G} {cA : Nat → ClassId} {base : Nat} {w' : WW} (C : cx b_an_goStore (none) 7 y_an_goStore.cls "goStore" p s m args meth c D cA base)   : ∀ (y2 : Nat) (w : WW), f_an_goStore_103 y2 w = some w' → ∀ (H : Heap) (locs : List Loc) (ls : Array Slot), wo_S D cls cA base s w H locs → lv_has ls 7 [(2, .ref (base + y2))] → W p l e rm_an_goStore s m args below meth c H locs 0 0 (MQ below (wo_Q D cls cA base none w') args s rm_an_goStore.cells rm_an_goStore.slots (wo_B base)) (F0 m 103 ls []) := by
  obtain ⟨hx, hb, hr, hml, hown, hts, hlk, hnm, hK, hG⟩ := id C
  intro y2 w h H locs ls hW hl
  unfold f_an_goStore_103 at h
  refine lv_aload_n hx hb d_an_goStore_103 rfl (lv_at hl 0 rfl) ?_
  refine lv_iconst (v := (1 : Int32)) hx hb d_an_goStore_104 (by decide) ?_
  replace h := its h
  obtain ⟨c20, h⟩ := h
  replace h := bs h
  obtain ⟨w19, hw19, h⟩ := h
  refine pf_an_70 hx hb hts hown hK hG hW (z_n c20) (z_f c20) (pbi hw19 rfl) d_an_goStore_105 (fun H locs hW => ?_)
  cases h
  exact wo_vret hx hb hr hlk hW d_an_goStore_108
set_option maxHeartbeats 4000000 in
set_option maxRecDepth 100000 in
theorem j_an_goStore_186 {p : Program} {l : Launch} {e : Env} {s : State} {m : MethodId} {args : Array Value} {below : List Frame} {meth : Method} {c : Code} {D : va_G} {cA : Nat → ClassId} {base : Nat} {w' : WW} (C : cx b_an_goStore (none) 7 y_an_goStore.cls "goStore" p s m args meth c D cA base) {k_112 : Nat → Nat → Nat → Nat → Int32 → Int32 → WW → Option WW} (hk_112 : ∀ (y0 : Nat) (y1 : Nat) (y2 : Nat) (y3 : Nat) (y4 : Int32) (y5 : Int32) (w : WW), k_112 y0 y1 y2 y3 y4 y5 w = some w' → ∀ (H : Heap) (locs : List Loc) (ls : Array Slot), wo_S D cls cA base s w H locs → lv_has ls 7 [(0, .ref (base + y0)), (1, .ref (base + y1)), (2, .ref (base + y2)), (3, .ref (base + y3)), (4, .int y4), (5, .int y5)] → W p l e rm_an_goStore s m args below meth c H locs 0 0 (MQ below (wo_Q D cls cA base none w') args s rm_an_goStore.cells rm_an_goStore.slots (wo_B base)) (F0 m 112 ls [])) : ∀ (y0 : Nat) (y1 : Nat) (y2 : Nat) (y3 : Nat) (y4 : Int32) (y5 : Int32) (w : WW), f_an_goStore_186 k_112 y0 y1 y2 y3 y4 y5 w = some w' → ∀ (H : Heap) (locs : List Loc) (ls : Array Slot), wo_S D cls cA base s w H locs → lv_has ls 7 [(0, .ref (base + y0)), (1, .ref (base + y1)), (2, .ref (base + y2)), (3, .ref (base + y3)), (4, .int y4), (5, .int y5)] → W p l e rm_an_goStore s m args below meth c H locs 0 0 (MQ below (wo_Q D cls cA base none w') args s rm_an_goStore.cells rm_an_goStore.slots (wo_B base)) (F0 m 186 ls []) := by
  obtain ⟨hx, hb, hr, hml, hown, hts, hlk, hnm, hK, hG⟩ := id C
  intro y0 y1 y2 y3 y4 y5 w h H locs ls hW hl
  unfold f_an_goStore_186 at h
  refine lv_iinc (v := (y5 + (1 : Int32))) (lv' := [(5, .int (y5 + (1 : Int32))), (0, .ref (base + y0)), (1, .ref (base + y1)), (2, .ref (base + y2)), (3, .ref (base + y3)), (4, .int y4)]) hx hb d_an_goStore_186 hl (k := 5) rfl rfl (by decide) rfl (fun ls hl => ?_)
  refine lv_goto (tgt := 112) hx hb d_an_goStore_189 (by decide) ?_
  exact hk_112 y0 y1 y2 y3 y4 (y5 + (1 : Int32)) w h _ _ _ hW (lv_sub hl [1, 2, 3, 4, 5, 0] rfl)
set_option maxHeartbeats 4000000 in
set_option maxRecDepth 100000 in
theorem j_an_goStore_165 {p : Program} {l : Launch} {e : Env} {s : State} {m : MethodId} {args : Array Value} {below : List Frame} {meth : Method} {c : Code} {D : va_G} {cA : Nat → ClassId} {base : Nat} {w' : WW} (C : cx b_an_goStore (none) 7 y_an_goStore.cls "goStore" p s m args meth c D cA base) {k_112 : Nat → Nat → Nat → Nat → Int32 → Int32 → WW → Option WW} (hk_112 : ∀ (y0 : Nat) (y1 : Nat) (y2 : Nat) (y3 : Nat) (y4 : Int32) (y5 : Int32) (w : WW), k_112 y0 y1 y2 y3 y4 y5 w = some w' → ∀ (H : Heap) (locs : List Loc) (ls : Array Slot), wo_S D cls cA base s w H locs → lv_has ls 7 [(0, .ref (base + y0)), (1, .ref (base + y1)), (2, .ref (base + y2)), (3, .ref (base + y3)), (4, .int y4), (5, .int y5)] → W p l e rm_an_goStore s m args below meth c H locs 0 0 (MQ below (wo_Q D cls cA base none w') args s rm_an_goStore.cells rm_an_goStore.slots (wo_B base)) (F0 m 112 ls [])) : ∀ (y0 : Nat) (y1 : Nat) (y2 : Nat) (y3 : Nat) (y4 : Int32) (y5 : Int32) (y6 : Nat) (w : WW), f_an_goStore_165 k_112 y0 y1 y2 y3 y4 y5 y6 w = some w' → ∀ (H : Heap) (locs : List Loc) (ls : Array Slot), wo_S D cls cA base s w H locs → lv_has ls 7 [(0, .ref (base + y0)), (1, .ref (base + y1)), (2, .ref (base + y2)), (3, .ref (base + y3)), (4, .int y4), (5, .int y5), (6, .ref (base + y6))] → W p l e rm_an_goStore s m args below meth c H locs 0 0 (MQ below (wo_Q D cls cA base none w') args s rm_an_goStore.cells rm_an_goStore.slots (wo_B base)) (F0 m 165 ls []) := by
  obtain ⟨hx, hb, hr, hml, hown, hts, hlk, hnm, hK, hG⟩ := id C
  intro y0 y1 y2 y3 y4 y5 y6 w h H locs ls hW hl
  unfold f_an_goStore_165 at h
  refine lv_aload_n hx hb d_an_goStore_165 rfl (lv_at hl 3 rfl) ?_
  refine lv_iload hx hb d_an_goStore_166 (lv_at hl 5 rfl) ?_
  refine lv_i2l hx hb d_an_goStore_168 rfl ?_
  replace h := bs2 h
  obtain ⟨x30, w29, hw29, h⟩ := h
  refine cv_an_140 (As := [.long (Int32.toInt64 y5)]) (rest := []) hx hb hml hown hts hK hG hW (c_va_has l D cA base hw29) (kb_va_has hw29) ⟨Nat.le_of_ble_eq_true rfl, Nat.le_of_ble_eq_true rfl⟩ ⟨Nat.le_of_ble_eq_true rfl, Nat.le_of_ble_eq_true rfl⟩ rfl hl.1 rfl (Nat.le_of_ble_eq_true rfl) d_an_goStore_169 (fun H locs hW => ?_)
  refine lv_if_eq (tgt := 186) hx hb d_an_goStore_172 (by decide) (fun c31 => ?_) (fun c31 => ?_)
  · rw [if_pos c31] at h
    exact j_an_goStore_186 C hk_112 y0 y1 y2 y3 y4 y5 w29 h _ _ _ hW (lv_sub hl [0, 1, 2, 3, 4, 5] rfl)
  · rw [if_neg c31] at h
    refine lv_aload hx hb d_an_goStore_175 (lv_at hl 6 rfl) ?_
    refine lv_aload_n hx hb d_an_goStore_177 rfl (lv_at hl 0 rfl) ?_
    replace h := bs h
    obtain ⟨x32, hx32, h⟩ := h
    refine gf_an_24 hx hb hts hown hK hG hW (gN_s hx32) d_an_goStore_178 ?_
    refine lv_iconst (v := (1 : Int32)) hx hb d_an_goStore_181 (by decide) ?_
    replace h := bs h
    obtain ⟨x33, hx33, h⟩ := h
    refine wo_aald hx hb hK hW (t := 4) rfl (rN_s hx33) d_an_goStore_182 ?_
    replace h := bs h
    obtain ⟨w34, hw34, h⟩ := h
    refine cv_an_144 (As := [.ref (base + x33)]) (rest := []) hx hb hml hown hts hK hG hW (c_va_join l D cA base hw34) (kb_va_join hw34) ⟨Nat.le_of_ble_eq_true rfl, Nat.le_of_ble_eq_true rfl⟩ ⟨Nat.le_of_ble_eq_true rfl, Nat.le_of_ble_eq_true rfl⟩ rfl hl.1 rfl (Nat.le_of_ble_eq_true rfl) d_an_goStore_183 (fun H locs hW => ?_)
    exact j_an_goStore_186 C hk_112 y0 y1 y2 y3 y4 y5 w34 h _ _ _ hW (lv_sub hl [0, 1, 2, 3, 4, 5] rfl)
set_option maxHeartbeats 4000000 in
set_option maxRecDepth 100000 in
theorem j_an_goStore_112 {p : Program} {l : Launch} {e : Env} {s : State} {m : MethodId} {args : Array Value} {below : List Frame} {meth : Method} {c : Code} {D : va_G} {cA : Nat → ClassId} {base : Nat} {w' : WW} (C : cx b_an_goStore (none) 7 y_an_goStore.cls "goStore" p s m args meth c D cA base)   : ∀ n : Nat, ∀ (y0 : Nat) (y1 : Nat) (y2 : Nat) (y3 : Nat) (y4 : Int32) (y5 : Int32) (w : WW), f_an_goStore_112 n y0 y1 y2 y3 y4 y5 w = some w' → ∀ (H : Heap) (locs : List Loc) (ls : Array Slot), wo_S D cls cA base s w H locs → lv_has ls 7 [(0, .ref (base + y0)), (1, .ref (base + y1)), (2, .ref (base + y2)), (3, .ref (base + y3)), (4, .int y4), (5, .int y5)] → W p l e rm_an_goStore s m args below meth c H locs 0 0 (MQ below (wo_Q D cls cA base none w') args s rm_an_goStore.cells rm_an_goStore.slots (wo_B base)) (F0 m 112 ls []) := by
  obtain ⟨hx, hb, hr, hml, hown, hts, hlk, hnm, hK, hG⟩ := id C
  intro n
  induction n with
  | zero => intro y0 y1 y2 y3 y4 y5 w h; cases h
  | succ n ih =>
    intro y0 y1 y2 y3 y4 y5 w h H locs ls hW hl
    rw [f_an_goStore_112] at h
    refine lv_iload hx hb d_an_goStore_112 (lv_at hl 5 rfl) ?_
    refine lv_iconst (v := (4 : Int32)) hx hb d_an_goStore_114 (by decide) ?_
    refine lv_icmp_ge (tgt := 192) hx hb d_an_goStore_115 (by decide) (fun c22 => ?_) (fun c22 => ?_)
    · rw [if_pos c22] at h
      cases h
      exact wo_vret hx hb hr hlk hW d_an_goStore_192
    · rw [if_neg c22] at h
      refine lv_aload_n hx hb d_an_goStore_118 rfl (lv_at hl 2 rfl) ?_
      replace h := bs h
      obtain ⟨x23, hx23, h⟩ := h
      refine gf_an_88 hx hb hts hown hK hG hW (gN_s hx23) d_an_goStore_119 ?_
      refine lv_bipush (v := (6 : Int32)) hx hb d_an_goStore_122 (by decide) ?_
      refine lv_aload_n hx hb d_an_goStore_124 rfl (lv_at hl 1 rfl) ?_
      replace h := bs h
      obtain ⟨x24, hx24, h⟩ := h
      refine gf_an_91 hx hb hts hown hK hG hW (gI_s hx24) d_an_goStore_125 ?_
      refine lv_iadd hx hb d_an_goStore_128 ?_
      refine lv_iload hx hb d_an_goStore_129 (lv_at hl 5 rfl) ?_
      refine lv_iadd hx hb d_an_goStore_131 ?_
      replace h := bs h
      obtain ⟨x25, hx25, h⟩ := h
      refine wo_aald hx hb hK hW (t := 4) rfl (rN_s hx25) d_an_goStore_132 ?_
      refine lv_astore (lv' := [(6, .ref (base + x25)), (0, .ref (base + y0)), (1, .ref (base + y1)), (2, .ref (base + y2)), (3, .ref (base + y3)), (4, .int y4), (5, .int y5)]) hx hb d_an_goStore_133 hl (by decide) rfl (fun ls hl => ?_)
      refine lv_aload_n hx hb d_an_goStore_135 rfl (lv_at hl 4 rfl) ?_
      refine lv_iload hx hb d_an_goStore_136 (lv_at hl 6 rfl) ?_
      refine lv_i2l hx hb d_an_goStore_138 rfl ?_
      replace h := bs2 h
      obtain ⟨x27, w26, hw26, h⟩ := h
      refine cv_an_140 (As := [.long (Int32.toInt64 y5)]) (rest := []) hx hb hml hown hts hK hG hW (c_va_has l D cA base hw26) (kb_va_has hw26) ⟨Nat.le_of_ble_eq_true rfl, Nat.le_of_ble_eq_true rfl⟩ ⟨Nat.le_of_ble_eq_true rfl, Nat.le_of_ble_eq_true rfl⟩ rfl hl.1 rfl (Nat.le_of_ble_eq_true rfl) d_an_goStore_139 (fun H locs hW => ?_)
      refine lv_if_eq (tgt := 165) hx hb d_an_goStore_142 (by decide) (fun c28 => ?_) (fun c28 => ?_)
      · rw [if_pos c28] at h
        exact j_an_goStore_165 C ih y0 y1 y2 y3 y4 y5 x25 w26 h _ _ _ hW (lv_sub hl [1, 2, 3, 4, 5, 6, 0] rfl)
      · rw [if_neg c28] at h
        refine lv_iload hx hb d_an_goStore_145 (lv_at hl 5 rfl) ?_
        refine lv_iconst (v := (1 : Int32)) hx hb d_an_goStore_147 (by decide) ?_
        refine lv_icmp_ne (tgt := 165) hx hb d_an_goStore_148 (by decide) (fun c35 => ?_) (fun c35 => ?_)
        · rw [if_neg c35] at h
          exact j_an_goStore_165 C ih y0 y1 y2 y3 y4 y5 x25 w26 h _ _ _ hW (lv_sub hl [1, 2, 3, 4, 5, 6, 0] rfl)
        · rw [if_pos c35] at h
          refine lv_aload hx hb d_an_goStore_151 (lv_at hl 0 rfl) ?_
          refine lv_aload_n hx hb d_an_goStore_153 rfl (lv_at hl 1 rfl) ?_
          replace h := bs h
          obtain ⟨x36, hx36, h⟩ := h
          refine gf_an_24 hx hb hts hown hK hG hW (gN_s hx36) d_an_goStore_154 ?_
          refine lv_iconst (v := (1 : Int32)) hx hb d_an_goStore_157 (by decide) ?_
          replace h := bs h
          obtain ⟨x37, hx37, h⟩ := h
          refine wo_aald hx hb hK hW (t := 4) rfl (rN_s hx37) d_an_goStore_158 ?_
          replace h := bs h
          obtain ⟨w38, hw38, h⟩ := h
          refine cv_an_122 (As := [.ref (base + x37)]) (rest := []) hx hb hml hown hts hK hG hW (c_va_copy l D cA base hw38) (kb_va_copy hw38) ⟨Nat.le_of_ble_eq_true rfl, Nat.le_of_ble_eq_true rfl⟩ ⟨Nat.le_of_ble_eq_true rfl, Nat.le_of_ble_eq_true rfl⟩ rfl hl.1 rfl (Nat.le_of_ble_eq_true rfl) d_an_goStore_159 (fun H locs hW => ?_)
          refine lv_goto (tgt := 186) hx hb d_an_goStore_162 (by decide) ?_
          exact j_an_goStore_186 C ih y0 y1 y2 y3 y4 y5 w38 h _ _ _ hW (lv_sub hl [1, 2, 3, 4, 5, 6] rfl)
set_option maxHeartbeats 4000000 in
set_option maxRecDepth 100000 in
theorem j_an_goStore_72 {p : Program} {l : Launch} {e : Env} {s : State} {m : MethodId} {args : Array Value} {below : List Frame} {meth : Method} {c : Code} {D : va_G} {cA : Nat → ClassId} {base : Nat} {w' : WW} (C : cx b_an_goStore (none) 7 y_an_goStore.cls "goStore" p s m args meth c D cA base) {k_49 : Nat → Nat → Nat → Nat → Int32 → Int32 → WW → Option WW} (hk_49 : ∀ (y0 : Nat) (y1 : Nat) (y2 : Nat) (y3 : Nat) (y4 : Int32) (y5 : Int32) (w : WW), k_49 y0 y1 y2 y3 y4 y5 w = some w' → ∀ (H : Heap) (locs : List Loc) (ls : Array Slot), wo_S D cls cA base s w H locs → lv_has ls 7 [(0, .ref (base + y0)), (1, .ref (base + y1)), (2, .ref (base + y2)), (3, .ref (base + y3)), (4, .int y4), (5, .int y5)] → W p l e rm_an_goStore s m args below meth c H locs 0 0 (MQ below (wo_Q D cls cA base none w') args s rm_an_goStore.cells rm_an_goStore.slots (wo_B base)) (F0 m 49 ls [])) : ∀ (y0 : Nat) (y1 : Nat) (y2 : Nat) (y3 : Nat) (y5 : Int32) (z0 : Int32) (z1 : Int32) (w : WW), f_an_goStore_72 k_49 y0 y1 y2 y3 y5 z0 z1 w = some w' → ∀ (H : Heap) (locs : List Loc) (ls : Array Slot), wo_S D cls cA base s w H locs → lv_has ls 7 [(0, .ref (base + y0)), (1, .ref (base + y1)), (2, .ref (base + y2)), (3, .ref (base + y3)), (5, .int y5)] → W p l e rm_an_goStore s m args below meth c H locs 0 0 (MQ below (wo_Q D cls cA base none w') args s rm_an_goStore.cells rm_an_goStore.slots (wo_B base)) (F0 m 72 ls [.int z1, .int z0]) := by
  obtain ⟨hx, hb, hr, hml, hown, hts, hlk, hnm, hK, hG⟩ := id C
  intro y0 y1 y2 y3 y5 z0 z1 w h H locs ls hW hl
  unfold f_an_goStore_72 at h
  refine lv_iadd hx hb d_an_goStore_72 ?_
  refine lv_istore (lv' := [(4, .int (z0 + z1)), (0, .ref (base + y0)), (1, .ref (base + y1)), (2, .ref (base + y2)), (3, .ref (base + y3)), (5, .int y5)]) hx hb d_an_goStore_73 hl (by decide) rfl (fun ls hl => ?_)
  refine lv_iinc (v := (y5 + (1 : Int32))) (lv' := [(5, .int (y5 + (1 : Int32))), (4, .int (z0 + z1)), (0, .ref (base + y0)), (1, .ref (base + y1)), (2, .ref (base + y2)), (3, .ref (base + y3))]) hx hb d_an_goStore_75 hl (k := 5) rfl rfl (by decide) rfl (fun ls hl => ?_)
  refine lv_goto (tgt := 49) hx hb d_an_goStore_78 (by decide) ?_
  exact hk_49 y0 y1 y2 y3 (z0 + z1) (y5 + (1 : Int32)) w h _ _ _ hW (lv_sub hl [2, 3, 4, 5, 1, 0] rfl)
set_option maxHeartbeats 4000000 in
set_option maxRecDepth 100000 in
theorem j_an_goStore_49 {p : Program} {l : Launch} {e : Env} {s : State} {m : MethodId} {args : Array Value} {below : List Frame} {meth : Method} {c : Code} {D : va_G} {cA : Nat → ClassId} {base : Nat} {w' : WW} (C : cx b_an_goStore (none) 7 y_an_goStore.cls "goStore" p s m args meth c D cA base)   : ∀ n : Nat, ∀ (y0 : Nat) (y1 : Nat) (y2 : Nat) (y3 : Nat) (y4 : Int32) (y5 : Int32) (w : WW), f_an_goStore_49 n y0 y1 y2 y3 y4 y5 w = some w' → ∀ (H : Heap) (locs : List Loc) (ls : Array Slot), wo_S D cls cA base s w H locs → lv_has ls 7 [(0, .ref (base + y0)), (1, .ref (base + y1)), (2, .ref (base + y2)), (3, .ref (base + y3)), (4, .int y4), (5, .int y5)] → W p l e rm_an_goStore s m args below meth c H locs 0 0 (MQ below (wo_Q D cls cA base none w') args s rm_an_goStore.cells rm_an_goStore.slots (wo_B base)) (F0 m 49 ls []) := by
  obtain ⟨hx, hb, hr, hml, hown, hts, hlk, hnm, hK, hG⟩ := id C
  intro n
  induction n with
  | zero => intro y0 y1 y2 y3 y4 y5 w h; cases h
  | succ n ih =>
    intro y0 y1 y2 y3 y4 y5 w h H locs ls hW hl
    rw [f_an_goStore_49] at h
    refine lv_iload hx hb d_an_goStore_49 (lv_at hl 5 rfl) ?_
    refine lv_iconst (v := (4 : Int32)) hx hb d_an_goStore_51 (by decide) ?_
    refine lv_icmp_ge (tgt := 81) hx hb d_an_goStore_52 (by decide) (fun c13 => ?_) (fun c13 => ?_)
    · rw [if_pos c13] at h
      refine lv_aload_n hx hb d_an_goStore_81 rfl (lv_at hl 0 rfl) ?_
      refine lv_aload_n hx hb d_an_goStore_82 rfl (lv_at hl 1 rfl) ?_
      replace h := bs h
      obtain ⟨x14, hx14, h⟩ := h
      refine gf_an_126 hx hb hts hown hK hG hW (gI_s hx14) d_an_goStore_83 ?_
      refine lv_aload_n hx hb d_an_goStore_86 rfl (lv_at hl 1 rfl) ?_
      replace h := bs h
      obtain ⟨x15, hx15, h⟩ := h
      refine gf_an_116 hx hb hts hown hK hG hW (gI_s hx15) d_an_goStore_87 ?_
      refine lv_iconst (v := (1 : Int32)) hx hb d_an_goStore_90 (by decide) ?_
      refine lv_aload_n hx hb d_an_goStore_91 rfl (lv_at hl 2 rfl) ?_
      replace h := bs2 h
      obtain ⟨x17, w16, hw16, h⟩ := h
      refine cv_an_118 (As := [.int x14, .int x15, .int (1 : Int32), .ref (base + y2)]) (rest := []) hx hb hml hown hts hK hG hW (c_an_workOut l D cA base hw16) (kb_an_workOut hw16) ⟨Nat.le_of_ble_eq_true rfl, Nat.le_of_ble_eq_true rfl⟩ ⟨Nat.le_of_ble_eq_true rfl, Nat.le_of_ble_eq_true rfl⟩ rfl hl.1 rfl (Nat.le_of_ble_eq_true rfl) d_an_goStore_92 (fun H locs hW => ?_)
      refine lv_if_eq (tgt := 103) hx hb d_an_goStore_95 (by decide) (fun c18 => ?_) (fun c18 => ?_)
      · rw [if_pos c18] at h
        exact j_an_goStore_103 C y2 w16 h _ _ _ hW (lv_sub hl [2] rfl)
      · rw [if_neg c18] at h
        refine lv_iload hx hb d_an_goStore_98 (lv_at hl 4 rfl) ?_
        refine lv_if_ne (tgt := 109) hx hb d_an_goStore_100 (by decide) (fun c21 => ?_) (fun c21 => ?_)
        · rw [if_neg c21] at h
          refine lv_iconst (v := (0 : Int32)) hx hb d_an_goStore_109 (by decide) ?_
          refine lv_istore (lv' := [(5, .int (0 : Int32)), (0, .ref (base + y0)), (1, .ref (base + y1)), (2, .ref (base + y2)), (3, .ref (base + y3)), (4, .int y4)]) hx hb d_an_goStore_110 hl (by decide) rfl (fun ls hl => ?_)
          exact j_an_goStore_112 C KK y0 y1 y2 y3 y4 (0 : Int32) w16 h _ _ _ hW (lv_sub hl [1, 2, 3, 4, 5, 0] rfl)
        · rw [if_pos c21] at h
          exact j_an_goStore_103 C y2 w16 h _ _ _ hW (lv_sub hl [2] rfl)
    · rw [if_neg c13] at h
      refine lv_iload hx hb d_an_goStore_55 (lv_at hl 4 rfl) ?_
      refine lv_aload_n hx hb d_an_goStore_57 rfl (lv_at hl 3 rfl) ?_
      refine lv_iload hx hb d_an_goStore_58 (lv_at hl 5 rfl) ?_
      refine lv_i2l hx hb d_an_goStore_60 rfl ?_
      replace h := bs2 h
      obtain ⟨x40, w39, hw39, h⟩ := h
      refine cv_an_140 (As := [.long (Int32.toInt64 y5)]) (rest := [.int y4]) hx hb hml hown hts hK hG hW (c_va_has l D cA base hw39) (kb_va_has hw39) ⟨Nat.le_of_ble_eq_true rfl, Nat.le_of_ble_eq_true rfl⟩ ⟨Nat.le_of_ble_eq_true rfl, Nat.le_of_ble_eq_true rfl⟩ rfl hl.1 rfl (Nat.le_of_ble_eq_true rfl) d_an_goStore_61 (fun H locs hW => ?_)
      refine lv_if_eq (tgt := 71) hx hb d_an_goStore_64 (by decide) (fun c41 => ?_) (fun c41 => ?_)
      · rw [if_pos c41] at h
        refine lv_iconst (v := (0 : Int32)) hx hb d_an_goStore_71 (by decide) ?_
        exact j_an_goStore_72 C ih y0 y1 y2 y3 y5 y4 (0 : Int32) w39 h _ _ _ hW (lv_sub hl [0, 1, 2, 3, 5] rfl)
      · rw [if_neg c41] at h
        refine lv_iconst (v := (1 : Int32)) hx hb d_an_goStore_67 (by decide) ?_
        refine lv_goto (tgt := 72) hx hb d_an_goStore_68 (by decide) ?_
        exact j_an_goStore_72 C ih y0 y1 y2 y3 y5 y4 (1 : Int32) w39 h _ _ _ hW (lv_sub hl [0, 1, 2, 3, 5] rfl)
set_option maxHeartbeats 4000000 in
set_option maxRecDepth 100000 in
theorem c_an_goStore (l : Launch) (D : va_G) (cA : Nat → ClassId) (base : Nat) {a0 : Nat} {a1 : Option Nat} {a2 : Nat} {w w' : WW} (h : f_an_goStore a0 a1 a2 w = some w') : mt l D cls (wo_tys cA) cA base y_an_goStore (Cond.code y_an_goStore b_an_goStore 7 (none) :: gt) rm_an_goStore [.ref (base + a0), rb base a1, .ref (base + a2)] w none w' rm_an_goStore.cells rm_an_goStore.slots := by
  refine mt_start (by decide) (by simp only [lg_sl_0, lg_sl_1, lg_sl_2, lg_sl_3, lg_sl_rf]; decide) ?_
  intro p e s m below meth c ls hx hb hr hml hown hts hlk hnm hK hG hW hl
  have C : cx b_an_goStore (none) 7 y_an_goStore.cls "goStore" p s m [.ref (base + a0), rb base a1, .ref (base + a2)].toArray meth c D cA base := ⟨hx, hb, hr, hml, hown, hts, hlk, hnm, hK, hG⟩
  have hl : lv_has ls 7 [(0, .ref (base + a0)), (1, rb base a1), (2, .ref (base + a2))] := by simp only [lv_args_0, lv_args_1, lv_args_2, lv_args_3, lv_args_rf] at hl; exact hl
  unfold f_an_goStore at h
  replace h := its h
  obtain ⟨-, h⟩ := h
  refine lv_aload_n hx hb d_an_goStore_0 rfl (lv_at hl 0 rfl) ?_
  refine wo_aload_n hx hb d_an_goStore_1 rfl (lv_at hl 1 rfl) ?_
  replace h := bs h
  obtain ⟨x1, ex1, h⟩ := h
  subst ex1
  replace h := bs h
  obtain ⟨x2, hx2, h⟩ := h
  refine gf_an_113 hx hb hts hown hK hG hW (gI_s hx2) d_an_goStore_2 ?_
  have hl : lv_has ls 7 [(0, .ref (base + a0)), (1, .ref (base + x1)), (2, .ref (base + a2))] := hl
  refine lv_aload_n hx hb d_an_goStore_5 rfl (lv_at hl 1 rfl) ?_
  replace h := bs h
  obtain ⟨x3, hx3, h⟩ := h
  refine gf_an_126 hx hb hts hown hK hG hW (gI_s hx3) d_an_goStore_6 ?_
  refine lv_iconst (v := (0 : Int32)) hx hb d_an_goStore_9 (by decide) ?_
  refine lv_aload_n hx hb d_an_goStore_10 rfl (lv_at hl 2 rfl) ?_
  replace h := bs2 h
  obtain ⟨x5, w4, hw4, h⟩ := h
  refine cv_an_118 (As := [.int x2, .int x3, .int (0 : Int32), .ref (base + a2)]) (rest := []) hx hb hml hown hts hK hG hW (c_an_workOut l D cA base hw4) (kb_an_workOut hw4) ⟨Nat.le_of_ble_eq_true rfl, Nat.le_of_ble_eq_true rfl⟩ ⟨Nat.le_of_ble_eq_true rfl, Nat.le_of_ble_eq_true rfl⟩ rfl hl.1 rfl (Nat.le_of_ble_eq_true rfl) d_an_goStore_11 (fun H locs hW => ?_)
  refine lv_if_ne (tgt := 23) hx hb d_an_goStore_14 (by decide) (fun c6 => ?_) (fun c6 => ?_)
  · rw [if_neg c6] at h
    refine lv_aload_n hx hb d_an_goStore_23 rfl (lv_at hl 0 rfl) ?_
    replace h := bs h
    obtain ⟨x7, hx7, h⟩ := h
    refine gf_an_24 hx hb hts hown hK hG hW (gN_s hx7) d_an_goStore_24 ?_
    refine lv_iconst (v := (0 : Int32)) hx hb d_an_goStore_27 (by decide) ?_
    replace h := bs h
    obtain ⟨x8, hx8, h⟩ := h
    refine wo_aald hx hb hK hW (t := 4) rfl (rN_s hx8) d_an_goStore_28 ?_
    refine lv_astore_n (lv' := [(3, .ref (base + x8)), (0, .ref (base + a0)), (1, .ref (base + x1)), (2, .ref (base + a2))]) hx hb d_an_goStore_29 rfl hl (by decide) rfl (fun ls hl => ?_)
    refine lv_aload_n hx hb d_an_goStore_30 rfl (lv_at hl 1 rfl) ?_
    refine lv_aload_n hx hb d_an_goStore_31 rfl (lv_at hl 0 rfl) ?_
    replace h := bs2 h
    obtain ⟨x10, w9, hw9, h⟩ := h
    refine cv_an_129 (As := []) (rest := [.ref (base + a0)]) hx hb hml hown hts hK hG hW (c_va_goesBeyondCells l D cA base hw9) (kb_va_goesBeyondCells hw9) ⟨Nat.le_of_ble_eq_true rfl, Nat.le_of_ble_eq_true rfl⟩ ⟨Nat.le_of_ble_eq_true rfl, Nat.le_of_ble_eq_true rfl⟩ rfl hl.1 rfl (Nat.le_of_ble_eq_true rfl) d_an_goStore_32 (fun H locs hW => ?_)
    refine lv_iconst (v := (2 : Int32)) hx hb d_an_goStore_35 (by decide) ?_
    refine lv_aload_n hx hb d_an_goStore_36 rfl (lv_at hl 2 rfl) ?_
    replace h := bs h
    obtain ⟨x11, hx11, h⟩ := h
    refine gf_an_133 hx hb hts hown hK hG hW (gI_s hx11) d_an_goStore_37 ?_
    replace h := bs h
    obtain ⟨w12, hw12, h⟩ := h
    refine cv_an_136 (As := [.int x10, .int (2 : Int32), .int x11]) (rest := []) hx hb hml hown hts hK hG hW (c_an_warnIf l D cA base hw12) (kb_an_warnIf hw12) ⟨Nat.le_of_ble_eq_true rfl, Nat.le_of_ble_eq_true rfl⟩ ⟨Nat.le_of_ble_eq_true rfl, Nat.le_of_ble_eq_true rfl⟩ rfl hl.1 rfl (Nat.le_of_ble_eq_true rfl) d_an_goStore_40 (fun H locs hW => ?_)
    refine lv_iconst (v := (0 : Int32)) hx hb d_an_goStore_43 (by decide) ?_
    refine lv_istore (lv' := [(4, .int (0 : Int32)), (3, .ref (base + x8)), (0, .ref (base + a0)), (1, .ref (base + x1)), (2, .ref (base + a2))]) hx hb d_an_goStore_44 hl (by decide) rfl (fun ls hl => ?_)
    refine lv_iconst (v := (0 : Int32)) hx hb d_an_goStore_46 (by decide) ?_
    refine lv_istore (lv' := [(5, .int (0 : Int32)), (4, .int (0 : Int32)), (3, .ref (base + x8)), (0, .ref (base + a0)), (1, .ref (base + x1)), (2, .ref (base + a2))]) hx hb d_an_goStore_47 hl (by decide) rfl (fun ls hl => ?_)
    exact j_an_goStore_49 C KK a0 x1 a2 x8 (0 : Int32) (0 : Int32) w12 h _ _ _ hW (lv_sub hl [3, 4, 5, 2, 1, 0] rfl)
  · rw [if_pos c6] at h
    refine lv_aload_n hx hb d_an_goStore_17 rfl (lv_at hl 2 rfl) ?_
    refine lv_iconst (v := (1 : Int32)) hx hb d_an_goStore_18 (by decide) ?_
    replace h := its h
    obtain ⟨c43, h⟩ := h
    replace h := bs h
    obtain ⟨w42, hw42, h⟩ := h
    refine pf_an_70 hx hb hts hown hK hG hW (z_n c43) (z_f c43) (pbi hw42 rfl) d_an_goStore_19 (fun H locs hW => ?_)
    cases h
    exact wo_vret hx hb hr hlk hW d_an_goStore_22
theorem cv_sa_33 {p : Program} {l : Launch} {e : Env} {R : Room} {s : State} {m : MethodId} {args : Array Value} {below : List Frame} {meth : Method} {c : Code} {H : Heap} {locs : List Loc} {cells slots : Nat} {Q : State → Prop} {D : va_G} {cA : Nat → ClassId} {base : Nat} {w w' : WW} {cc : ByteArray} {pc nL : Nat} {ls : Array Slot} {rest st0 As : List Value} {ov : Option Value} {b : Nat} (hx : p.tables.exec = Jvm.exec) (hb : c.code = cc) (hml : c.maxLocals = nL) (hown : s.vm.findClass Rc_sa = some m.cls) (hts : ∀ w ∈ gt, w.before args s = true) (hK : va_K D cls (wo_tys cA) s) (hG : wo_G cA base s) (hW : wo_S D cls cA base s w H locs) (hM : mt l D cls (wo_tys cA) cA base y_va_copy (Cond.code y_va_copy b_va_copy 2 (none) :: gt) rm_va_copy (.ref (base + b) :: As) w ov w' rm_va_copy.cells rm_va_copy.slots) (hkb : kb w b 8 = true) (hR : rm_va_copy.frames + 1 ≤ R.frames ∧ 8 + (2 + 11) + rm_va_copy.locals ≤ R.locals) (hf : cells + rm_va_copy.cells ≤ R.cells ∧ slots + rm_va_copy.slots ≤ R.slots) (hn : As.length = 1) (hsz : ls.size = nL) (hst : st0 = As.reverse ++ .ref (base + b) :: rest) (hcat : (rest.map fun v => v.category).sum ≤ 8) (hdg : decode cc pc = .ok (.invokevirtual 33, 3)) (kk : ∀ (H1 : Heap) (locs1 : List Loc), wo_S D cls cA base s w' H1 locs1 → W p l e R s m args below meth c H1 locs1 (cells + rm_va_copy.cells) (slots + rm_va_copy.slots) Q (F0 m (pc + 3) ls (ov.toList ++ rest))) : W p l e R s m args below meth c H locs cells slots Q (F0 m pc ls st0) :=
  wo_callV (C := Rc_va) hx hb hml hown hts hK hG hW hM hkb rfl (gt_of (i := 1020) (by decide +kernel) (by decide +kernel)) (gt_of (i := 928) (by decide +kernel) (by decide +kernel)) (gt_of (i := 929) (by decide +kernel) (by decide +kernel)) (gt_of (i := 9) (by decide +kernel) (by decide +kernel)) (gt_of (i := 930) (by decide +kernel) (by decide +kernel)) (by decide +kernel) hR hf hn hsz hst hcat hdg kk
abbrev b_sa_copy : ByteArray := prog_7_method_3_code
def y_sa_copy : MethodName := ⟨"AlarmForge$State", "copy", "(LAlarmForge$State;)V"⟩
def rm_sa_copy : Room := { frames := 1, cells := 0, slots := 0, locals := 21 }
theorem d_sa_copy_0 : decode b_sa_copy 0 = .ok (.aload_n 0, 1) := by decide +kernel
theorem d_sa_copy_1 : decode b_sa_copy 1 = .ok (.aload_n 1, 1) := by decide +kernel
theorem d_sa_copy_2 : decode b_sa_copy 2 = .ok (.getfield 22, 3) := by decide +kernel
theorem d_sa_copy_5 : decode b_sa_copy 5 = .ok (.putfield 22, 3) := by decide +kernel
theorem d_sa_copy_8 : decode b_sa_copy 8 = .ok (.iconst 0, 1) := by decide +kernel
theorem d_sa_copy_9 : decode b_sa_copy 9 = .ok (.istore_n 2, 1) := by decide +kernel
theorem d_sa_copy_10 : decode b_sa_copy 10 = .ok (.iload_n 2, 1) := by decide +kernel
theorem d_sa_copy_11 : decode b_sa_copy 11 = .ok (.bipush (14), 2) := by decide +kernel
theorem d_sa_copy_13 : decode b_sa_copy 13 = .ok (.if_icmp .ge (24), 3) := by decide +kernel
theorem d_sa_copy_16 : decode b_sa_copy 16 = .ok (.aload_n 0, 1) := by decide +kernel
theorem d_sa_copy_17 : decode b_sa_copy 17 = .ok (.getfield 11, 3) := by decide +kernel
theorem d_sa_copy_20 : decode b_sa_copy 20 = .ok (.iload_n 2, 1) := by decide +kernel
theorem d_sa_copy_21 : decode b_sa_copy 21 = .ok (.aaload, 1) := by decide +kernel
theorem d_sa_copy_22 : decode b_sa_copy 22 = .ok (.aload_n 1, 1) := by decide +kernel
theorem d_sa_copy_23 : decode b_sa_copy 23 = .ok (.getfield 11, 3) := by decide +kernel
theorem d_sa_copy_26 : decode b_sa_copy 26 = .ok (.iload_n 2, 1) := by decide +kernel
theorem d_sa_copy_27 : decode b_sa_copy 27 = .ok (.aaload, 1) := by decide +kernel
theorem d_sa_copy_28 : decode b_sa_copy 28 = .ok (.invokevirtual 33, 3) := by decide +kernel
theorem d_sa_copy_31 : decode b_sa_copy 31 = .ok (.iinc 2 (1), 3) := by decide +kernel
theorem d_sa_copy_34 : decode b_sa_copy 34 = .ok (.goto (-24), 3) := by decide +kernel
theorem d_sa_copy_37 : decode b_sa_copy 37 = .ok (.iconst 0, 1) := by decide +kernel
theorem d_sa_copy_38 : decode b_sa_copy 38 = .ok (.istore_n 2, 1) := by decide +kernel
theorem d_sa_copy_39 : decode b_sa_copy 39 = .ok (.iload_n 2, 1) := by decide +kernel
theorem d_sa_copy_40 : decode b_sa_copy 40 = .ok (.bipush (6), 2) := by decide +kernel
theorem d_sa_copy_42 : decode b_sa_copy 42 = .ok (.if_icmp .ge (21), 3) := by decide +kernel
theorem d_sa_copy_45 : decode b_sa_copy 45 = .ok (.aload_n 0, 1) := by decide +kernel
theorem d_sa_copy_46 : decode b_sa_copy 46 = .ok (.getfield 18, 3) := by decide +kernel
theorem d_sa_copy_49 : decode b_sa_copy 49 = .ok (.iload_n 2, 1) := by decide +kernel
theorem d_sa_copy_50 : decode b_sa_copy 50 = .ok (.aload_n 1, 1) := by decide +kernel
theorem d_sa_copy_51 : decode b_sa_copy 51 = .ok (.getfield 18, 3) := by decide +kernel
theorem d_sa_copy_54 : decode b_sa_copy 54 = .ok (.iload_n 2, 1) := by decide +kernel
theorem d_sa_copy_55 : decode b_sa_copy 55 = .ok (.baload, 1) := by decide +kernel
theorem d_sa_copy_56 : decode b_sa_copy 56 = .ok (.bastore, 1) := by decide +kernel
theorem d_sa_copy_57 : decode b_sa_copy 57 = .ok (.iinc 2 (1), 3) := by decide +kernel
theorem d_sa_copy_60 : decode b_sa_copy 60 = .ok (.goto (-21), 3) := by decide +kernel
theorem d_sa_copy_63 : decode b_sa_copy 63 = .ok (.return_, 1) := by decide +kernel
theorem kb_sa_copy {a0 a1 : Nat}  {w : WW} {r : WW} (h : f_sa_copy a0 a1 w = some r) : kb w a0 7 = true := (its h).1
set_option maxHeartbeats 4000000 in
set_option maxRecDepth 100000 in
theorem j_sa_copy_39 {p : Program} {l : Launch} {e : Env} {s : State} {m : MethodId} {args : Array Value} {below : List Frame} {meth : Method} {c : Code} {D : va_G} {cA : Nat → ClassId} {base : Nat} {w' : WW} (C : cx b_sa_copy (none) 3 y_sa_copy.cls "copy" p s m args meth c D cA base)   : ∀ n : Nat, ∀ (y0 : Nat) (y1 : Nat) (y2 : Int32) (w : WW), f_sa_copy_39 n y0 y1 y2 w = some w' → ∀ (H : Heap) (locs : List Loc) (ls : Array Slot), wo_S D cls cA base s w H locs → lv_has ls 3 [(0, .ref (base + y0)), (1, .ref (base + y1)), (2, .int y2)] → W p l e rm_sa_copy s m args below meth c H locs 0 0 (MQ below (wo_Q D cls cA base none w') args s rm_sa_copy.cells rm_sa_copy.slots (wo_B base)) (F0 m 39 ls []) := by
  obtain ⟨hx, hb, hr, hml, hown, hts, hlk, hnm, hK, hG⟩ := id C
  intro n
  induction n with
  | zero => intro y0 y1 y2 w h; cases h
  | succ n ih =>
    intro y0 y1 y2 w h H locs ls hW hl
    rw [f_sa_copy_39] at h
    refine lv_iload_n hx hb d_sa_copy_39 rfl (lv_at hl 2 rfl) ?_
    refine lv_bipush (v := (6 : Int32)) hx hb d_sa_copy_40 (by decide) ?_
    refine lv_icmp_ge (tgt := 63) hx hb d_sa_copy_42 (by decide) (fun c5 => ?_) (fun c5 => ?_)
    · rw [if_pos c5] at h
      cases h
      exact wo_vret hx hb hr hlk hW d_sa_copy_63
    · rw [if_neg c5] at h
      refine lv_aload_n hx hb d_sa_copy_45 rfl (lv_at hl 0 rfl) ?_
      replace h := bs h
      obtain ⟨x6, hx6, h⟩ := h
      refine gf_sa_18 hx hb hts hown hK hG hW (gN_s hx6) d_sa_copy_46 ?_
      refine lv_iload_n hx hb d_sa_copy_49 rfl (lv_at hl 2 rfl) ?_
      refine lv_aload_n hx hb d_sa_copy_50 rfl (lv_at hl 1 rfl) ?_
      replace h := bs h
      obtain ⟨x7, hx7, h⟩ := h
      refine gf_sa_18 hx hb hts hown hK hG hW (gN_s hx7) d_sa_copy_51 ?_
      refine lv_iload_n hx hb d_sa_copy_54 rfl (lv_at hl 2 rfl) ?_
      replace h := bs h
      obtain ⟨x8, hx8, h⟩ := h
      refine wo_zald hx hb hK hW (t := 2) rfl hx8 d_sa_copy_55 ?_
      replace h := bs h
      obtain ⟨w9, hw9, h⟩ := h
      refine wo_zast hx hb hK hW (t := 2) rfl hw9 d_sa_copy_56 (fun H locs hW => ?_)
      refine lv_iinc (v := (y2 + (1 : Int32))) (lv' := [(2, .int (y2 + (1 : Int32))), (0, .ref (base + y0)), (1, .ref (base + y1))]) hx hb d_sa_copy_57 hl (k := 2) rfl rfl (by decide) rfl (fun ls hl => ?_)
      refine lv_goto (tgt := 39) hx hb d_sa_copy_60 (by decide) ?_
      exact ih y0 y1 (y2 + (1 : Int32)) w9 h _ _ _ hW (lv_sub hl [1, 2, 0] rfl)
set_option maxHeartbeats 4000000 in
set_option maxRecDepth 100000 in
theorem j_sa_copy_10 {p : Program} {l : Launch} {e : Env} {s : State} {m : MethodId} {args : Array Value} {below : List Frame} {meth : Method} {c : Code} {D : va_G} {cA : Nat → ClassId} {base : Nat} {w' : WW} (C : cx b_sa_copy (none) 3 y_sa_copy.cls "copy" p s m args meth c D cA base)   : ∀ n : Nat, ∀ (y0 : Nat) (y1 : Nat) (y2 : Int32) (w : WW), f_sa_copy_10 n y0 y1 y2 w = some w' → ∀ (H : Heap) (locs : List Loc) (ls : Array Slot), wo_S D cls cA base s w H locs → lv_has ls 3 [(0, .ref (base + y0)), (1, .ref (base + y1)), (2, .int y2)] → W p l e rm_sa_copy s m args below meth c H locs 0 0 (MQ below (wo_Q D cls cA base none w') args s rm_sa_copy.cells rm_sa_copy.slots (wo_B base)) (F0 m 10 ls []) := by
  obtain ⟨hx, hb, hr, hml, hown, hts, hlk, hnm, hK, hG⟩ := id C
  intro n
  induction n with
  | zero => intro y0 y1 y2 w h; cases h
  | succ n ih =>
    intro y0 y1 y2 w h H locs ls hW hl
    rw [f_sa_copy_10] at h
    refine lv_iload_n hx hb d_sa_copy_10 rfl (lv_at hl 2 rfl) ?_
    refine lv_bipush (v := (14 : Int32)) hx hb d_sa_copy_11 (by decide) ?_
    refine lv_icmp_ge (tgt := 37) hx hb d_sa_copy_13 (by decide) (fun c4 => ?_) (fun c4 => ?_)
    · rw [if_pos c4] at h
      refine lv_iconst (v := (0 : Int32)) hx hb d_sa_copy_37 (by decide) ?_
      refine lv_istore_n (lv' := [(2, .int (0 : Int32)), (0, .ref (base + y0)), (1, .ref (base + y1))]) hx hb d_sa_copy_38 rfl hl (by decide) rfl (fun ls hl => ?_)
      exact j_sa_copy_39 C KK y0 y1 (0 : Int32) w h _ _ _ hW (lv_sub hl [1, 2, 0] rfl)
    · rw [if_neg c4] at h
      refine lv_aload_n hx hb d_sa_copy_16 rfl (lv_at hl 0 rfl) ?_
      replace h := bs h
      obtain ⟨x10, hx10, h⟩ := h
      refine gf_sa_11 hx hb hts hown hK hG hW (gN_s hx10) d_sa_copy_17 ?_
      refine lv_iload_n hx hb d_sa_copy_20 rfl (lv_at hl 2 rfl) ?_
      replace h := bs h
      obtain ⟨x11, hx11, h⟩ := h
      refine wo_aald hx hb hK hW (t := 4) rfl (rN_s hx11) d_sa_copy_21 ?_
      refine lv_aload_n hx hb d_sa_copy_22 rfl (lv_at hl 1 rfl) ?_
      replace h := bs h
      obtain ⟨x12, hx12, h⟩ := h
      refine gf_sa_11 hx hb hts hown hK hG hW (gN_s hx12) d_sa_copy_23 ?_
      refine lv_iload_n hx hb d_sa_copy_26 rfl (lv_at hl 2 rfl) ?_
      replace h := bs h
      obtain ⟨x13, hx13, h⟩ := h
      refine wo_aald hx hb hK hW (t := 4) rfl (rN_s hx13) d_sa_copy_27 ?_
      replace h := bs h
      obtain ⟨w14, hw14, h⟩ := h
      refine cv_sa_33 (As := [.ref (base + x13)]) (rest := []) hx hb hml hown hts hK hG hW (c_va_copy l D cA base hw14) (kb_va_copy hw14) ⟨Nat.le_of_ble_eq_true rfl, Nat.le_of_ble_eq_true rfl⟩ ⟨Nat.le_of_ble_eq_true rfl, Nat.le_of_ble_eq_true rfl⟩ rfl hl.1 rfl (Nat.le_of_ble_eq_true rfl) d_sa_copy_28 (fun H locs hW => ?_)
      refine lv_iinc (v := (y2 + (1 : Int32))) (lv' := [(2, .int (y2 + (1 : Int32))), (0, .ref (base + y0)), (1, .ref (base + y1))]) hx hb d_sa_copy_31 hl (k := 2) rfl rfl (by decide) rfl (fun ls hl => ?_)
      refine lv_goto (tgt := 10) hx hb d_sa_copy_34 (by decide) ?_
      exact ih y0 y1 (y2 + (1 : Int32)) w14 h _ _ _ hW (lv_sub hl [1, 2, 0] rfl)
set_option maxHeartbeats 4000000 in
set_option maxRecDepth 100000 in
theorem c_sa_copy (l : Launch) (D : va_G) (cA : Nat → ClassId) (base : Nat) {a0 : Nat} {a1 : Nat} {w w' : WW} (h : f_sa_copy a0 a1 w = some w') : mt l D cls (wo_tys cA) cA base y_sa_copy (Cond.code y_sa_copy b_sa_copy 3 (none) :: gt) rm_sa_copy [.ref (base + a0), .ref (base + a1)] w none w' rm_sa_copy.cells rm_sa_copy.slots := by
  refine mt_start (by decide) (Nat.le_of_ble_eq_true rfl) ?_
  intro p e s m below meth c ls hx hb hr hml hown hts hlk hnm hK hG hW hl
  have C : cx b_sa_copy (none) 3 y_sa_copy.cls "copy" p s m [.ref (base + a0), .ref (base + a1)].toArray meth c D cA base := ⟨hx, hb, hr, hml, hown, hts, hlk, hnm, hK, hG⟩
  have hl : lv_has ls 3 [(0, .ref (base + a0)), (1, .ref (base + a1))] := hl
  unfold f_sa_copy at h
  replace h := its h
  obtain ⟨-, h⟩ := h
  refine lv_aload_n hx hb d_sa_copy_0 rfl (lv_at hl 0 rfl) ?_
  refine lv_aload_n hx hb d_sa_copy_1 rfl (lv_at hl 1 rfl) ?_
  replace h := bs h
  obtain ⟨x1, hx1, h⟩ := h
  refine gf_sa_22 hx hb hts hown hK hG hW (gI_s hx1) d_sa_copy_2 ?_
  replace h := its h
  obtain ⟨c3, h⟩ := h
  replace h := bs h
  obtain ⟨w2, hw2, h⟩ := h
  refine pf_sa_22 hx hb hts hown hK hG hW (z_n c3) (z_f c3) (pbi hw2 rfl) d_sa_copy_5 (fun H locs hW => ?_)
  refine lv_iconst (v := (0 : Int32)) hx hb d_sa_copy_8 (by decide) ?_
  refine lv_istore_n (lv' := [(2, .int (0 : Int32)), (0, .ref (base + a0)), (1, .ref (base + a1))]) hx hb d_sa_copy_9 rfl hl (by decide) rfl (fun ls hl => ?_)
  exact j_sa_copy_10 C KK a0 a1 (0 : Int32) w2 h _ _ _ hW (lv_sub hl [1, 2, 0] rfl)
abbrev b_an_contraryOf : ByteArray := prog_2_method_15_code
def y_an_contraryOf : MethodName := ⟨"AlarmForge$Analyser", "contraryOf", "(I)I"⟩
def rm_an_contraryOf : Room := { frames := 0, cells := 0, slots := 0, locals := 0 }
theorem d_an_contraryOf_0 : decode b_an_contraryOf 0 = .ok (.iload_n 0, 1) := by decide +kernel
theorem d_an_contraryOf_1 : decode b_an_contraryOf 1 = .ok (.lookupswitch (47) #[(60, 43), (256, 35), (257, 39)], 35) := by decide +kernel
theorem d_an_contraryOf_36 : decode b_an_contraryOf 36 = .ok (.sipush (257), 3) := by decide +kernel
theorem d_an_contraryOf_39 : decode b_an_contraryOf 39 = .ok (.ireturn, 1) := by decide +kernel
theorem d_an_contraryOf_40 : decode b_an_contraryOf 40 = .ok (.sipush (256), 3) := by decide +kernel
theorem d_an_contraryOf_43 : decode b_an_contraryOf 43 = .ok (.ireturn, 1) := by decide +kernel
theorem d_an_contraryOf_44 : decode b_an_contraryOf 44 = .ok (.sipush (258), 3) := by decide +kernel
theorem d_an_contraryOf_47 : decode b_an_contraryOf 47 = .ok (.ireturn, 1) := by decide +kernel
theorem d_an_contraryOf_48 : decode b_an_contraryOf 48 = .ok (.bipush (60), 2) := by decide +kernel
theorem d_an_contraryOf_50 : decode b_an_contraryOf 50 = .ok (.ireturn, 1) := by decide +kernel
set_option maxHeartbeats 4000000 in
set_option maxRecDepth 100000 in
theorem c_an_contraryOf (l : Launch) (D : va_G) (cA : Nat → ClassId) (base : Nat) {a0 : Int32} {w w' : WW} {r : Int32} (h : f_an_contraryOf a0 w = some (r, w')) : mt l D cls (wo_tys cA) cA base y_an_contraryOf (Cond.code y_an_contraryOf b_an_contraryOf 1 (some .int) :: gt) rm_an_contraryOf [.int a0] w (some (.int r)) w' rm_an_contraryOf.cells rm_an_contraryOf.slots := by
  refine mt_start (by decide) (Nat.le_of_ble_eq_true rfl) ?_
  intro p e s m below meth c ls hx hb hr hml hown hts hlk hnm hK hG hW hl
  have C : cx b_an_contraryOf (some .int) 1 y_an_contraryOf.cls "contraryOf" p s m [.int a0].toArray meth c D cA base := ⟨hx, hb, hr, hml, hown, hts, hlk, hnm, hK, hG⟩
  have hl : lv_has ls 1 [(0, .int a0)] := hl
  unfold f_an_contraryOf at h
  refine lv_iload_n hx hb d_an_contraryOf_0 rfl (lv_at hl 0 rfl) ?_
  by_cases c1 : a0 = (60 : Int32)
  · rw [if_pos c1] at h
    refine lv_lookup (off := 43) (tgt := 44) hx hb d_an_contraryOf_1 (by decide) (by rw [c1]; rfl) (by decide) ?_
    refine lv_sipush (v := (258 : Int32)) hx hb d_an_contraryOf_44 (by decide) ?_
    cases h
    exact wo_iret hx hb hr hlk hW d_an_contraryOf_47
  · rw [if_neg c1] at h
    by_cases c2 : a0 = (256 : Int32)
    · rw [if_pos c2] at h
      refine lv_lookup (off := 35) (tgt := 36) hx hb d_an_contraryOf_1 (by decide) (by rw [c2]; rfl) (by decide) ?_
      refine lv_sipush (v := (257 : Int32)) hx hb d_an_contraryOf_36 (by decide) ?_
      cases h
      exact wo_iret hx hb hr hlk hW d_an_contraryOf_39
    · rw [if_neg c2] at h
      by_cases c3 : a0 = (257 : Int32)
      · rw [if_pos c3] at h
        refine lv_lookup (off := 39) (tgt := 40) hx hb d_an_contraryOf_1 (by decide) (by rw [c3]; rfl) (by decide) ?_
        refine lv_sipush (v := (256 : Int32)) hx hb d_an_contraryOf_40 (by decide) ?_
        cases h
        exact wo_iret hx hb hr hlk hW d_an_contraryOf_43
      · rw [if_neg c3] at h
        refine lv_lookup (off := 47) (tgt := 48) hx hb d_an_contraryOf_1 (by decide) (by rw [lv_osw c1 (show (60 : Int32).toInt = 60 from rfl)]; rw [lv_osw c2 (show (256 : Int32).toInt = 256 from rfl)]; rw [lv_osw c3 (show (257 : Int32).toInt = 257 from rfl)]; rfl) (by decide) ?_
        refine lv_bipush (v := (60 : Int32)) hx hb d_an_contraryOf_48 (by decide) ?_
        cases h
        exact wo_iret hx hb hr hlk hW d_an_contraryOf_50
abbrev b_va_meets : ByteArray := prog_9_method_15_code
def y_va_meets : MethodName := ⟨"AlarmForge$Value", "meets", "(LAlarmForge$Value;)Z"⟩
def rm_va_meets : Room := { frames := 2, cells := 0, slots := 0, locals := 51 }
theorem d_va_meets_0 : decode b_va_meets 0 = .ok (.aload_n 0, 1) := by decide +kernel
theorem d_va_meets_1 : decode b_va_meets 1 = .ok (.getfield 22, 3) := by decide +kernel
theorem d_va_meets_4 : decode b_va_meets 4 = .ok (.lconst 0, 1) := by decide +kernel
theorem d_va_meets_5 : decode b_va_meets 5 = .ok (.lcmp, 1) := by decide +kernel
theorem d_va_meets_6 : decode b_va_meets 6 = .ok (.ifCond .ne (12), 3) := by decide +kernel
theorem d_va_meets_9 : decode b_va_meets 9 = .ok (.aload_n 1, 1) := by decide +kernel
theorem d_va_meets_10 : decode b_va_meets 10 = .ok (.aload_n 0, 1) := by decide +kernel
theorem d_va_meets_11 : decode b_va_meets 11 = .ok (.getfield 25, 3) := by decide +kernel
theorem d_va_meets_14 : decode b_va_meets 14 = .ok (.invokevirtual 70, 3) := by decide +kernel
theorem d_va_meets_17 : decode b_va_meets 17 = .ok (.ireturn, 1) := by decide +kernel
theorem d_va_meets_18 : decode b_va_meets 18 = .ok (.aload_n 1, 1) := by decide +kernel
theorem d_va_meets_19 : decode b_va_meets 19 = .ok (.getfield 22, 3) := by decide +kernel
theorem d_va_meets_22 : decode b_va_meets 22 = .ok (.lconst 0, 1) := by decide +kernel
theorem d_va_meets_23 : decode b_va_meets 23 = .ok (.lcmp, 1) := by decide +kernel
theorem d_va_meets_24 : decode b_va_meets 24 = .ok (.ifCond .ne (12), 3) := by decide +kernel
theorem d_va_meets_27 : decode b_va_meets 27 = .ok (.aload_n 0, 1) := by decide +kernel
theorem d_va_meets_28 : decode b_va_meets 28 = .ok (.aload_n 1, 1) := by decide +kernel
theorem d_va_meets_29 : decode b_va_meets 29 = .ok (.getfield 25, 3) := by decide +kernel
theorem d_va_meets_32 : decode b_va_meets 32 = .ok (.invokevirtual 70, 3) := by decide +kernel
theorem d_va_meets_35 : decode b_va_meets 35 = .ok (.ireturn, 1) := by decide +kernel
theorem d_va_meets_36 : decode b_va_meets 36 = .ok (.aload_n 0, 1) := by decide +kernel
theorem d_va_meets_37 : decode b_va_meets 37 = .ok (.getfield 22, 3) := by decide +kernel
theorem d_va_meets_40 : decode b_va_meets 40 = .ok (.aload_n 1, 1) := by decide +kernel
theorem d_va_meets_41 : decode b_va_meets 41 = .ok (.getfield 22, 3) := by decide +kernel
theorem d_va_meets_44 : decode b_va_meets 44 = .ok (.invokestatic 56, 3) := by decide +kernel
theorem d_va_meets_47 : decode b_va_meets 47 = .ok (.lstore_n 2, 1) := by decide +kernel
theorem d_va_meets_48 : decode b_va_meets 48 = .ok (.aload_n 0, 1) := by decide +kernel
theorem d_va_meets_49 : decode b_va_meets 49 = .ok (.getfield 25, 3) := by decide +kernel
theorem d_va_meets_52 : decode b_va_meets 52 = .ok (.lload_n 2, 1) := by decide +kernel
theorem d_va_meets_53 : decode b_va_meets 53 = .ok (.invokestatic 59, 3) := by decide +kernel
theorem d_va_meets_56 : decode b_va_meets 56 = .ok (.aload_n 1, 1) := by decide +kernel
theorem d_va_meets_57 : decode b_va_meets 57 = .ok (.getfield 25, 3) := by decide +kernel
theorem d_va_meets_60 : decode b_va_meets 60 = .ok (.lload_n 2, 1) := by decide +kernel
theorem d_va_meets_61 : decode b_va_meets 61 = .ok (.invokestatic 59, 3) := by decide +kernel
theorem d_va_meets_64 : decode b_va_meets 64 = .ok (.lcmp, 1) := by decide +kernel
theorem d_va_meets_65 : decode b_va_meets 65 = .ok (.ifCond .ne (7), 3) := by decide +kernel
theorem d_va_meets_68 : decode b_va_meets 68 = .ok (.iconst 1, 1) := by decide +kernel
theorem d_va_meets_69 : decode b_va_meets 69 = .ok (.goto (4), 3) := by decide +kernel
theorem d_va_meets_72 : decode b_va_meets 72 = .ok (.iconst 0, 1) := by decide +kernel
theorem d_va_meets_73 : decode b_va_meets 73 = .ok (.ireturn, 1) := by decide +kernel
theorem kb_va_meets {a0 a1 : Nat}  {w : WW} {r : (Int32 × WW)} (h : f_va_meets a0 a1 w = some r) : kb w a0 8 = true := (its h).1
set_option maxHeartbeats 4000000 in
set_option maxRecDepth 100000 in
theorem j_va_meets_73 {p : Program} {l : Launch} {e : Env} {s : State} {m : MethodId} {args : Array Value} {below : List Frame} {meth : Method} {c : Code} {D : va_G} {cA : Nat → ClassId} {base : Nat} {r : Int32} {w' : WW} (C : cx b_va_meets (some .boolean) 4 y_va_meets.cls "meets" p s m args meth c D cA base)   : ∀ (z0 : Int32) (w : WW), f_va_meets_73 z0 w = some (r, w') → ∀ (H : Heap) (locs : List Loc) (ls : Array Slot), wo_S D cls cA base s w H locs → lv_has ls 4 [] → W p l e rm_va_meets s m args below meth c H locs 0 0 (MQ below (wo_Q D cls cA base (some (.int r)) w') args s rm_va_meets.cells rm_va_meets.slots (wo_B base)) (F0 m 73 ls [.int z0]) := by
  obtain ⟨hx, hb, hr, hml, hown, hts, hlk, hnm, hK, hG⟩ := id C
  intro z0 w h H locs ls hW hl
  unfold f_va_meets_73 at h
  replace h := its h
  obtain ⟨c16, h⟩ := h
  cases h
  exact wo_zret hx hb hr hlk hW c16 d_va_meets_73
set_option maxHeartbeats 4000000 in
set_option maxRecDepth 100000 in
theorem c_va_meets (l : Launch) (D : va_G) (cA : Nat → ClassId) (base : Nat) {a0 : Nat} {a1 : Nat} {w w' : WW} {r : Int32} (h : f_va_meets a0 a1 w = some (r, w')) : mt l D cls (wo_tys cA) cA base y_va_meets (Cond.code y_va_meets b_va_meets 4 (some .boolean) :: gt) rm_va_meets [.ref (base + a0), .ref (base + a1)] w (some (.int r)) w' rm_va_meets.cells rm_va_meets.slots := by
  refine mt_start (by decide) (Nat.le_of_ble_eq_true rfl) ?_
  intro p e s m below meth c ls hx hb hr hml hown hts hlk hnm hK hG hW hl
  have C : cx b_va_meets (some .boolean) 4 y_va_meets.cls "meets" p s m [.ref (base + a0), .ref (base + a1)].toArray meth c D cA base := ⟨hx, hb, hr, hml, hown, hts, hlk, hnm, hK, hG⟩
  have hl : lv_has ls 4 [(0, .ref (base + a0)), (1, .ref (base + a1))] := hl
  unfold f_va_meets at h
  replace h := its h
  obtain ⟨-, h⟩ := h
  refine lv_aload_n hx hb d_va_meets_0 rfl (lv_at hl 0 rfl) ?_
  replace h := bs h
  obtain ⟨x1, hx1, h⟩ := h
  refine gf_va_22 hx hb hts hown hK hG hW (gL_s hx1) d_va_meets_1 ?_
  refine lv_lconst (v := (0 : Int64)) hx hb d_va_meets_4 (by decide) ?_
  refine lc_ne (tgt := 18) hx hb d_va_meets_5 d_va_meets_6 (by decide) (fun c2 => ?_) (fun c2 => ?_)
  · rw [if_neg c2] at h
    refine lv_aload_n hx hb d_va_meets_18 rfl (lv_at hl 1 rfl) ?_
    replace h := bs h
    obtain ⟨x3, hx3, h⟩ := h
    refine gf_va_22 hx hb hts hown hK hG hW (gL_s hx3) d_va_meets_19 ?_
    refine lv_lconst (v := (0 : Int64)) hx hb d_va_meets_22 (by decide) ?_
    refine lc_ne (tgt := 36) hx hb d_va_meets_23 d_va_meets_24 (by decide) (fun c4 => ?_) (fun c4 => ?_)
    · rw [if_neg c4] at h
      refine lv_aload_n hx hb d_va_meets_36 rfl (lv_at hl 0 rfl) ?_
      replace h := bs h
      obtain ⟨x5, hx5, h⟩ := h
      refine gf_va_22 hx hb hts hown hK hG hW (gL_s hx5) d_va_meets_37 ?_
      refine lv_aload_n hx hb d_va_meets_40 rfl (lv_at hl 1 rfl) ?_
      replace h := bs h
      obtain ⟨x6, hx6, h⟩ := h
      refine gf_va_22 hx hb hts hown hK hG hW (gL_s hx6) d_va_meets_41 ?_
      replace h := bs2 h
      obtain ⟨x8, w7, hw7, h⟩ := h
      refine cs_va_56 (As := [.long x5, .long x6]) (rest := []) hx hb hml hown hts hK hG hW (c_va_commonDivisor l D cA base hw7) ⟨Nat.le_of_ble_eq_true rfl, Nat.le_of_ble_eq_true rfl⟩ ⟨Nat.le_of_ble_eq_true rfl, Nat.le_of_ble_eq_true rfl⟩ rfl hl.1 rfl (Nat.le_of_ble_eq_true rfl) d_va_meets_44 (fun H locs hW => ?_)
      refine lv_lstore_n (lv' := [(2, .long x8), (0, .ref (base + a0)), (1, .ref (base + a1))]) hx hb d_va_meets_47 rfl hl (by decide) rfl (fun ls hl => ?_)
      refine lv_aload_n hx hb d_va_meets_48 rfl (lv_at hl 1 rfl) ?_
      replace h := bs h
      obtain ⟨x9, hx9, h⟩ := h
      refine gf_va_25 hx hb hts hown hK hG hW (gL_s hx9) d_va_meets_49 ?_
      refine lv_lload_n hx hb d_va_meets_52 rfl (lv_at hl 0 rfl) ?_
      replace h := bs2 h
      obtain ⟨x11, w10, hw10, h⟩ := h
      refine cs_va_59 (As := [.long x9, .long x8]) (rest := []) hx hb hml hown hts hK hG hW (c_va_restBy l D cA base hw10) ⟨Nat.le_of_ble_eq_true rfl, Nat.le_of_ble_eq_true rfl⟩ ⟨Nat.le_of_ble_eq_true rfl, Nat.le_of_ble_eq_true rfl⟩ rfl hl.1 rfl (Nat.le_of_ble_eq_true rfl) d_va_meets_53 (fun H locs hW => ?_)
      refine lv_aload_n hx hb d_va_meets_56 rfl (lv_at hl 2 rfl) ?_
      replace h := bs h
      obtain ⟨x12, hx12, h⟩ := h
      refine gf_va_25 hx hb hts hown hK hG hW (gL_s hx12) d_va_meets_57 ?_
      refine lv_lload_n hx hb d_va_meets_60 rfl (lv_at hl 0 rfl) ?_
      replace h := bs2 h
      obtain ⟨x14, w13, hw13, h⟩ := h
      refine cs_va_59 (As := [.long x12, .long x8]) (rest := [.long x11]) hx hb hml hown hts hK hG hW (c_va_restBy l D cA base hw13) ⟨Nat.le_of_ble_eq_true rfl, Nat.le_of_ble_eq_true rfl⟩ ⟨Nat.le_of_ble_eq_true rfl, Nat.le_of_ble_eq_true rfl⟩ rfl hl.1 rfl (Nat.le_of_ble_eq_true rfl) d_va_meets_61 (fun H locs hW => ?_)
      refine lc_ne (tgt := 72) hx hb d_va_meets_64 d_va_meets_65 (by decide) (fun c15 => ?_) (fun c15 => ?_)
      · rw [if_neg c15] at h
        refine lv_iconst (v := (0 : Int32)) hx hb d_va_meets_72 (by decide) ?_
        exact j_va_meets_73 C (0 : Int32) w13 h _ _ _ hW (lv_sub hl [] rfl)
      · rw [if_pos c15] at h
        refine lv_iconst (v := (1 : Int32)) hx hb d_va_meets_68 (by decide) ?_
        refine lv_goto (tgt := 73) hx hb d_va_meets_69 (by decide) ?_
        exact j_va_meets_73 C (1 : Int32) w13 h _ _ _ hW (lv_sub hl [] rfl)
    · rw [if_pos c4] at h
      refine lv_aload_n hx hb d_va_meets_27 rfl (lv_at hl 0 rfl) ?_
      refine lv_aload_n hx hb d_va_meets_28 rfl (lv_at hl 1 rfl) ?_
      replace h := bs h
      obtain ⟨x17, hx17, h⟩ := h
      refine gf_va_25 hx hb hts hown hK hG hW (gL_s hx17) d_va_meets_29 ?_
      replace h := bs2 h
      obtain ⟨x19, w18, hw18, h⟩ := h
      refine cv_va_70 (As := [.long x17]) (rest := []) hx hb hml hown hts hK hG hW (c_va_has l D cA base hw18) (kb_va_has hw18) ⟨Nat.le_of_ble_eq_true rfl, Nat.le_of_ble_eq_true rfl⟩ ⟨Nat.le_of_ble_eq_true rfl, Nat.le_of_ble_eq_true rfl⟩ rfl hl.1 rfl (Nat.le_of_ble_eq_true rfl) d_va_meets_32 (fun H locs hW => ?_)
      replace h := its h
      obtain ⟨c20, h⟩ := h
      cases h
      exact wo_zret hx hb hr hlk hW c20 d_va_meets_35
  · rw [if_pos c2] at h
    refine lv_aload_n hx hb d_va_meets_9 rfl (lv_at hl 1 rfl) ?_
    refine lv_aload_n hx hb d_va_meets_10 rfl (lv_at hl 0 rfl) ?_
    replace h := bs h
    obtain ⟨x21, hx21, h⟩ := h
    refine gf_va_25 hx hb hts hown hK hG hW (gL_s hx21) d_va_meets_11 ?_
    replace h := bs2 h
    obtain ⟨x23, w22, hw22, h⟩ := h
    refine cv_va_70 (As := [.long x21]) (rest := []) hx hb hml hown hts hK hG hW (c_va_has l D cA base hw22) (kb_va_has hw22) ⟨Nat.le_of_ble_eq_true rfl, Nat.le_of_ble_eq_true rfl⟩ ⟨Nat.le_of_ble_eq_true rfl, Nat.le_of_ble_eq_true rfl⟩ rfl hl.1 rfl (Nat.le_of_ble_eq_true rfl) d_va_meets_14 (fun H locs hW => ?_)
    replace h := its h
    obtain ⟨c24, h⟩ := h
    cases h
    exact wo_zret hx hb hr hlk hW c24 d_va_meets_17
theorem cv_va_66 {p : Program} {l : Launch} {e : Env} {R : Room} {s : State} {m : MethodId} {args : Array Value} {below : List Frame} {meth : Method} {c : Code} {H : Heap} {locs : List Loc} {cells slots : Nat} {Q : State → Prop} {D : va_G} {cA : Nat → ClassId} {base : Nat} {w w' : WW} {cc : ByteArray} {pc nL : Nat} {ls : Array Slot} {rest st0 As : List Value} {ov : Option Value} {b : Nat} (hx : p.tables.exec = Jvm.exec) (hb : c.code = cc) (hml : c.maxLocals = nL) (hown : s.vm.findClass Rc_va = some m.cls) (hts : ∀ w ∈ gt, w.before args s = true) (hK : va_K D cls (wo_tys cA) s) (hG : wo_G cA base s) (hW : wo_S D cls cA base s w H locs) (hM : mt l D cls (wo_tys cA) cA base y_va_meets (Cond.code y_va_meets b_va_meets 4 (some .boolean) :: gt) rm_va_meets (.ref (base + b) :: As) w ov w' rm_va_meets.cells rm_va_meets.slots) (hkb : kb w b 8 = true) (hR : rm_va_meets.frames + 1 ≤ R.frames ∧ 8 + (4 + 11) + rm_va_meets.locals ≤ R.locals) (hf : cells + rm_va_meets.cells ≤ R.cells ∧ slots + rm_va_meets.slots ≤ R.slots) (hn : As.length = 1) (hsz : ls.size = nL) (hst : st0 = As.reverse ++ .ref (base + b) :: rest) (hcat : (rest.map fun v => v.category).sum ≤ 8) (hdg : decode cc pc = .ok (.invokevirtual 66, 3)) (kk : ∀ (H1 : Heap) (locs1 : List Loc), wo_S D cls cA base s w' H1 locs1 → W p l e R s m args below meth c H1 locs1 (cells + rm_va_meets.cells) (slots + rm_va_meets.slots) Q (F0 m (pc + 3) ls (ov.toList ++ rest))) : W p l e R s m args below meth c H locs cells slots Q (F0 m pc ls st0) :=
  wo_callV (C := Rc_va) hx hb hml hown hts hK hG hW hM hkb rfl (gt_of (i := 1036) (by decide +kernel) (by decide +kernel)) (gt_of (i := 1038) (by decide +kernel) (by decide +kernel)) (gt_sel (i := 49) (by decide +kernel) (by decide +kernel)) (gt_of (i := 9) (by decide +kernel) (by decide +kernel)) (gt_of (i := 1039) (by decide +kernel) (by decide +kernel)) (by decide +kernel) hR hf hn hsz hst hcat hdg kk
abbrev b_va_meet : ByteArray := prog_9_method_14_code
def y_va_meet : MethodName := ⟨"AlarmForge$Value", "meet", "(LAlarmForge$Value;)V"⟩
def rm_va_meet : Room := { frames := 3, cells := 0, slots := 0, locals := 74 }
theorem d_va_meet_0 : decode b_va_meet 0 = .ok (.aload_n 0, 1) := by decide +kernel
theorem d_va_meet_1 : decode b_va_meet 1 = .ok (.aload_n 1, 1) := by decide +kernel
theorem d_va_meet_2 : decode b_va_meet 2 = .ok (.invokevirtual 66, 3) := by decide +kernel
theorem d_va_meet_5 : decode b_va_meet 5 = .ok (.istore_n 2, 1) := by decide +kernel
theorem d_va_meet_6 : decode b_va_meet 6 = .ok (.aload_n 0, 1) := by decide +kernel
theorem d_va_meet_7 : decode b_va_meet 7 = .ok (.getfield 22, 3) := by decide +kernel
theorem d_va_meet_10 : decode b_va_meet 10 = .ok (.lconst 0, 1) := by decide +kernel
theorem d_va_meet_11 : decode b_va_meet 11 = .ok (.lcmp, 1) := by decide +kernel
theorem d_va_meet_12 : decode b_va_meet 12 = .ok (.ifCond .eq (40), 3) := by decide +kernel
theorem d_va_meet_15 : decode b_va_meet 15 = .ok (.aload_n 1, 1) := by decide +kernel
theorem d_va_meet_16 : decode b_va_meet 16 = .ok (.getfield 22, 3) := by decide +kernel
theorem d_va_meet_19 : decode b_va_meet 19 = .ok (.lconst 0, 1) := by decide +kernel
theorem d_va_meet_20 : decode b_va_meet 20 = .ok (.lcmp, 1) := by decide +kernel
theorem d_va_meet_21 : decode b_va_meet 21 = .ok (.ifCond .eq (15), 3) := by decide +kernel
theorem d_va_meet_24 : decode b_va_meet 24 = .ok (.aload_n 1, 1) := by decide +kernel
theorem d_va_meet_25 : decode b_va_meet 25 = .ok (.getfield 22, 3) := by decide +kernel
theorem d_va_meet_28 : decode b_va_meet 28 = .ok (.aload_n 0, 1) := by decide +kernel
theorem d_va_meet_29 : decode b_va_meet 29 = .ok (.getfield 22, 3) := by decide +kernel
theorem d_va_meet_32 : decode b_va_meet 32 = .ok (.lcmp, 1) := by decide +kernel
theorem d_va_meet_33 : decode b_va_meet 33 = .ok (.ifCond .le (19), 3) := by decide +kernel
theorem d_va_meet_36 : decode b_va_meet 36 = .ok (.aload_n 0, 1) := by decide +kernel
theorem d_va_meet_37 : decode b_va_meet 37 = .ok (.aload_n 1, 1) := by decide +kernel
theorem d_va_meet_38 : decode b_va_meet 38 = .ok (.getfield 22, 3) := by decide +kernel
theorem d_va_meet_41 : decode b_va_meet 41 = .ok (.putfield 22, 3) := by decide +kernel
theorem d_va_meet_44 : decode b_va_meet 44 = .ok (.aload_n 0, 1) := by decide +kernel
theorem d_va_meet_45 : decode b_va_meet 45 = .ok (.aload_n 1, 1) := by decide +kernel
theorem d_va_meet_46 : decode b_va_meet 46 = .ok (.getfield 25, 3) := by decide +kernel
theorem d_va_meet_49 : decode b_va_meet 49 = .ok (.putfield 25, 3) := by decide +kernel
theorem d_va_meet_52 : decode b_va_meet 52 = .ok (.aload_n 0, 1) := by decide +kernel
theorem d_va_meet_53 : decode b_va_meet 53 = .ok (.aload_n 0, 1) := by decide +kernel
theorem d_va_meet_54 : decode b_va_meet 54 = .ok (.getfield 15, 3) := by decide +kernel
theorem d_va_meet_57 : decode b_va_meet 57 = .ok (.aload_n 1, 1) := by decide +kernel
theorem d_va_meet_58 : decode b_va_meet 58 = .ok (.getfield 15, 3) := by decide +kernel
theorem d_va_meet_61 : decode b_va_meet 61 = .ok (.invokestatic 44, 3) := by decide +kernel
theorem d_va_meet_64 : decode b_va_meet 64 = .ok (.putfield 15, 3) := by decide +kernel
theorem d_va_meet_67 : decode b_va_meet 67 = .ok (.aload_n 0, 1) := by decide +kernel
theorem d_va_meet_68 : decode b_va_meet 68 = .ok (.aload_n 0, 1) := by decide +kernel
theorem d_va_meet_69 : decode b_va_meet 69 = .ok (.getfield 19, 3) := by decide +kernel
theorem d_va_meet_72 : decode b_va_meet 72 = .ok (.aload_n 1, 1) := by decide +kernel
theorem d_va_meet_73 : decode b_va_meet 73 = .ok (.getfield 19, 3) := by decide +kernel
theorem d_va_meet_76 : decode b_va_meet 76 = .ok (.invokestatic 47, 3) := by decide +kernel
theorem d_va_meet_79 : decode b_va_meet 79 = .ok (.putfield 19, 3) := by decide +kernel
theorem d_va_meet_82 : decode b_va_meet 82 = .ok (.aload_n 0, 1) := by decide +kernel
theorem d_va_meet_83 : decode b_va_meet 83 = .ok (.invokevirtual 62, 3) := by decide +kernel
theorem d_va_meet_86 : decode b_va_meet 86 = .ok (.pop, 1) := by decide +kernel
theorem d_va_meet_87 : decode b_va_meet 87 = .ok (.aload_n 0, 1) := by decide +kernel
theorem d_va_meet_88 : decode b_va_meet 88 = .ok (.aload_n 0, 1) := by decide +kernel
theorem d_va_meet_89 : decode b_va_meet 89 = .ok (.getfield 9, 3) := by decide +kernel
theorem d_va_meet_92 : decode b_va_meet 92 = .ok (.ifCond .ne (7), 3) := by decide +kernel
theorem d_va_meet_95 : decode b_va_meet 95 = .ok (.iload_n 2, 1) := by decide +kernel
theorem d_va_meet_96 : decode b_va_meet 96 = .ok (.ifCond .ne (7), 3) := by decide +kernel
theorem d_va_meet_99 : decode b_va_meet 99 = .ok (.iconst 1, 1) := by decide +kernel
theorem d_va_meet_100 : decode b_va_meet 100 = .ok (.goto (4), 3) := by decide +kernel
theorem d_va_meet_103 : decode b_va_meet 103 = .ok (.iconst 0, 1) := by decide +kernel
theorem d_va_meet_104 : decode b_va_meet 104 = .ok (.putfield 9, 3) := by decide +kernel
theorem d_va_meet_107 : decode b_va_meet 107 = .ok (.return_, 1) := by decide +kernel
theorem kb_va_meet {a0 a1 : Nat}  {w : WW} {r : WW} (h : f_va_meet a0 a1 w = some r) : kb w a0 8 = true := (its h).1
set_option maxHeartbeats 4000000 in
set_option maxRecDepth 100000 in
theorem j_va_meet_104 {p : Program} {l : Launch} {e : Env} {s : State} {m : MethodId} {args : Array Value} {below : List Frame} {meth : Method} {c : Code} {D : va_G} {cA : Nat → ClassId} {base : Nat} {w' : WW} (C : cx b_va_meet (none) 3 y_va_meet.cls "meet" p s m args meth c D cA base)   : ∀ (z0 : Nat) (z1 : Int32) (w : WW), f_va_meet_104 z0 z1 w = some w' → ∀ (H : Heap) (locs : List Loc) (ls : Array Slot), wo_S D cls cA base s w H locs → lv_has ls 3 [] → W p l e rm_va_meet s m args below meth c H locs 0 0 (MQ below (wo_Q D cls cA base none w') args s rm_va_meet.cells rm_va_meet.slots (wo_B base)) (F0 m 104 ls [.int z1, .ref (base + z0)]) := by
  obtain ⟨hx, hb, hr, hml, hown, hts, hlk, hnm, hK, hG⟩ := id C
  intro z0 z1 w h H locs ls hW hl
  unfold f_va_meet_104 at h
  replace h := its h
  obtain ⟨c20, h⟩ := h
  replace h := bs h
  obtain ⟨w19, hw19, h⟩ := h
  refine pf_va_9 hx hb hts hown hK hG hW (z_n c20) (z_f c20) (pbi hw19 rfl) d_va_meet_104 (fun H locs hW => ?_)
  cases h
  exact wo_vret hx hb hr hlk hW d_va_meet_107
set_option maxHeartbeats 4000000 in
set_option maxRecDepth 100000 in
theorem j_va_meet_99 {p : Program} {l : Launch} {e : Env} {s : State} {m : MethodId} {args : Array Value} {below : List Frame} {meth : Method} {c : Code} {D : va_G} {cA : Nat → ClassId} {base : Nat} {w' : WW} (C : cx b_va_meet (none) 3 y_va_meet.cls "meet" p s m args meth c D cA base)   : ∀ (z0 : Nat) (w : WW), f_va_meet_99 z0 w = some w' → ∀ (H : Heap) (locs : List Loc) (ls : Array Slot), wo_S D cls cA base s w H locs → lv_has ls 3 [] → W p l e rm_va_meet s m args below meth c H locs 0 0 (MQ below (wo_Q D cls cA base none w') args s rm_va_meet.cells rm_va_meet.slots (wo_B base)) (F0 m 99 ls [.ref (base + z0)]) := by
  obtain ⟨hx, hb, hr, hml, hown, hts, hlk, hnm, hK, hG⟩ := id C
  intro z0 w h H locs ls hW hl
  unfold f_va_meet_99 at h
  refine lv_iconst (v := (1 : Int32)) hx hb d_va_meet_99 (by decide) ?_
  refine lv_goto (tgt := 104) hx hb d_va_meet_100 (by decide) ?_
  exact j_va_meet_104 C z0 (1 : Int32) w h _ _ _ hW (lv_sub hl [] rfl)
set_option maxHeartbeats 4000000 in
set_option maxRecDepth 100000 in
theorem j_va_meet_52 {p : Program} {l : Launch} {e : Env} {s : State} {m : MethodId} {args : Array Value} {below : List Frame} {meth : Method} {c : Code} {D : va_G} {cA : Nat → ClassId} {base : Nat} {w' : WW} (C : cx b_va_meet (none) 3 y_va_meet.cls "meet" p s m args meth c D cA base)   : ∀ (y0 : Nat) (y1 : Nat) (y2 : Int32) (w : WW), f_va_meet_52 y0 y1 y2 w = some w' → ∀ (H : Heap) (locs : List Loc) (ls : Array Slot), wo_S D cls cA base s w H locs → lv_has ls 3 [(0, .ref (base + y0)), (1, .ref (base + y1)), (2, .int y2)] → W p l e rm_va_meet s m args below meth c H locs 0 0 (MQ below (wo_Q D cls cA base none w') args s rm_va_meet.cells rm_va_meet.slots (wo_B base)) (F0 m 52 ls []) := by
  obtain ⟨hx, hb, hr, hml, hown, hts, hlk, hnm, hK, hG⟩ := id C
  intro y0 y1 y2 w h H locs ls hW hl
  unfold f_va_meet_52 at h
  refine lv_aload_n hx hb d_va_meet_52 rfl (lv_at hl 0 rfl) ?_
  refine lv_aload_n hx hb d_va_meet_53 rfl (lv_at hl 0 rfl) ?_
  replace h := bs h
  obtain ⟨x5, hx5, h⟩ := h
  refine gf_va_15 hx hb hts hown hK hG hW (gL_s hx5) d_va_meet_54 ?_
  refine lv_aload_n hx hb d_va_meet_57 rfl (lv_at hl 1 rfl) ?_
  replace h := bs h
  obtain ⟨x6, hx6, h⟩ := h
  refine gf_va_15 hx hb hts hown hK hG hW (gL_s hx6) d_va_meet_58 ?_
  replace h := bs2 h
  obtain ⟨x8, w7, hw7, h⟩ := h
  refine cs_va_44 (As := [.long x5, .long x6]) (rest := [.ref (base + y0)]) hx hb hml hown hts hK hG hW (c_ma_max_JJ l D cA base hw7) ⟨Nat.le_of_ble_eq_true rfl, Nat.le_of_ble_eq_true rfl⟩ ⟨Nat.le_of_ble_eq_true rfl, Nat.le_of_ble_eq_true rfl⟩ rfl hl.1 rfl (Nat.le_of_ble_eq_true rfl) d_va_meet_61 (fun H locs hW => ?_)
  replace h := bs h
  obtain ⟨w9, hw9, h⟩ := h
  refine pf_va_15 hx hb hts hown hK hG hW rfl rfl (pbi hw9 rfl) d_va_meet_64 (fun H locs hW => ?_)
  refine lv_aload_n hx hb d_va_meet_67 rfl (lv_at hl 0 rfl) ?_
  refine lv_aload_n hx hb d_va_meet_68 rfl (lv_at hl 0 rfl) ?_
  replace h := bs h
  obtain ⟨x10, hx10, h⟩ := h
  refine gf_va_19 hx hb hts hown hK hG hW (gL_s hx10) d_va_meet_69 ?_
  refine lv_aload_n hx hb d_va_meet_72 rfl (lv_at hl 1 rfl) ?_
  replace h := bs h
  obtain ⟨x11, hx11, h⟩ := h
  refine gf_va_19 hx hb hts hown hK hG hW (gL_s hx11) d_va_meet_73 ?_
  replace h := bs2 h
  obtain ⟨x13, w12, hw12, h⟩ := h
  refine cs_va_47 (As := [.long x10, .long x11]) (rest := [.ref (base + y0)]) hx hb hml hown hts hK hG hW (c_ma_min_JJ l D cA base hw12) ⟨Nat.le_of_ble_eq_true rfl, Nat.le_of_ble_eq_true rfl⟩ ⟨Nat.le_of_ble_eq_true rfl, Nat.le_of_ble_eq_true rfl⟩ rfl hl.1 rfl (Nat.le_of_ble_eq_true rfl) d_va_meet_76 (fun H locs hW => ?_)
  replace h := bs h
  obtain ⟨w14, hw14, h⟩ := h
  refine pf_va_19 hx hb hts hown hK hG hW rfl rfl (pbi hw14 rfl) d_va_meet_79 (fun H locs hW => ?_)
  refine lv_aload_n hx hb d_va_meet_82 rfl (lv_at hl 0 rfl) ?_
  replace h := bs2 h
  obtain ⟨x16, w15, hw15, h⟩ := h
  refine cv_va_62 (As := []) (rest := []) hx hb hml hown hts hK hG hW (c_va_putTight l D cA base hw15) (kb_va_putTight hw15) ⟨Nat.le_of_ble_eq_true rfl, Nat.le_of_ble_eq_true rfl⟩ ⟨Nat.le_of_ble_eq_true rfl, Nat.le_of_ble_eq_true rfl⟩ rfl hl.1 rfl (Nat.le_of_ble_eq_true rfl) d_va_meet_83 (fun H locs hW => ?_)
  refine lv_pop hx hb d_va_meet_86 rfl ?_
  refine lv_aload_n hx hb d_va_meet_87 rfl (lv_at hl 0 rfl) ?_
  refine lv_aload_n hx hb d_va_meet_88 rfl (lv_at hl 0 rfl) ?_
  replace h := bs h
  obtain ⟨x17, hx17, h⟩ := h
  refine gf_va_9 hx hb hts hown hK hG hW (gI_s hx17) d_va_meet_89 ?_
  refine lv_if_ne (tgt := 99) hx hb d_va_meet_92 (by decide) (fun c18 => ?_) (fun c18 => ?_)
  · rw [if_neg c18] at h
    exact j_va_meet_99 C y0 w15 h _ _ _ hW (lv_sub hl [] rfl)
  · rw [if_pos c18] at h
    refine lv_iload_n hx hb d_va_meet_95 rfl (lv_at hl 2 rfl) ?_
    refine lv_if_ne (tgt := 103) hx hb d_va_meet_96 (by decide) (fun c21 => ?_) (fun c21 => ?_)
    · rw [if_neg c21] at h
      refine lv_iconst (v := (0 : Int32)) hx hb d_va_meet_103 (by decide) ?_
      exact j_va_meet_104 C y0 (0 : Int32) w15 h _ _ _ hW (lv_sub hl [] rfl)
    · rw [if_pos c21] at h
      exact j_va_meet_99 C y0 w15 h _ _ _ hW (lv_sub hl [] rfl)
set_option maxHeartbeats 4000000 in
set_option maxRecDepth 100000 in
theorem j_va_meet_36 {p : Program} {l : Launch} {e : Env} {s : State} {m : MethodId} {args : Array Value} {below : List Frame} {meth : Method} {c : Code} {D : va_G} {cA : Nat → ClassId} {base : Nat} {w' : WW} (C : cx b_va_meet (none) 3 y_va_meet.cls "meet" p s m args meth c D cA base)   : ∀ (y0 : Nat) (y1 : Nat) (y2 : Int32) (w : WW), f_va_meet_36 y0 y1 y2 w = some w' → ∀ (H : Heap) (locs : List Loc) (ls : Array Slot), wo_S D cls cA base s w H locs → lv_has ls 3 [(0, .ref (base + y0)), (1, .ref (base + y1)), (2, .int y2)] → W p l e rm_va_meet s m args below meth c H locs 0 0 (MQ below (wo_Q D cls cA base none w') args s rm_va_meet.cells rm_va_meet.slots (wo_B base)) (F0 m 36 ls []) := by
  obtain ⟨hx, hb, hr, hml, hown, hts, hlk, hnm, hK, hG⟩ := id C
  intro y0 y1 y2 w h H locs ls hW hl
  unfold f_va_meet_36 at h
  refine lv_aload_n hx hb d_va_meet_36 rfl (lv_at hl 0 rfl) ?_
  refine lv_aload_n hx hb d_va_meet_37 rfl (lv_at hl 1 rfl) ?_
  replace h := bs h
  obtain ⟨x24, hx24, h⟩ := h
  refine gf_va_22 hx hb hts hown hK hG hW (gL_s hx24) d_va_meet_38 ?_
  replace h := bs h
  obtain ⟨w25, hw25, h⟩ := h
  refine pf_va_22 hx hb hts hown hK hG hW rfl rfl (pbi hw25 rfl) d_va_meet_41 (fun H locs hW => ?_)
  refine lv_aload_n hx hb d_va_meet_44 rfl (lv_at hl 0 rfl) ?_
  refine lv_aload_n hx hb d_va_meet_45 rfl (lv_at hl 1 rfl) ?_
  replace h := bs h
  obtain ⟨x26, hx26, h⟩ := h
  refine gf_va_25 hx hb hts hown hK hG hW (gL_s hx26) d_va_meet_46 ?_
  replace h := bs h
  obtain ⟨w27, hw27, h⟩ := h
  refine pf_va_25 hx hb hts hown hK hG hW rfl rfl (pbi hw27 rfl) d_va_meet_49 (fun H locs hW => ?_)
  exact j_va_meet_52 C y0 y1 y2 w27 h _ _ _ hW (lv_sub hl [0, 1, 2] rfl)
set_option maxHeartbeats 4000000 in
set_option maxRecDepth 100000 in
theorem c_va_meet (l : Launch) (D : va_G) (cA : Nat → ClassId) (base : Nat) {a0 : Nat} {a1 : Nat} {w w' : WW} (h : f_va_meet a0 a1 w = some w') : mt l D cls (wo_tys cA) cA base y_va_meet (Cond.code y_va_meet b_va_meet 3 (none) :: gt) rm_va_meet [.ref (base + a0), .ref (base + a1)] w none w' rm_va_meet.cells rm_va_meet.slots := by
  refine mt_start (by decide) (Nat.le_of_ble_eq_true rfl) ?_
  intro p e s m below meth c ls hx hb hr hml hown hts hlk hnm hK hG hW hl
  have C : cx b_va_meet (none) 3 y_va_meet.cls "meet" p s m [.ref (base + a0), .ref (base + a1)].toArray meth c D cA base := ⟨hx, hb, hr, hml, hown, hts, hlk, hnm, hK, hG⟩
  have hl : lv_has ls 3 [(0, .ref (base + a0)), (1, .ref (base + a1))] := hl
  unfold f_va_meet at h
  replace h := its h
  obtain ⟨-, h⟩ := h
  refine lv_aload_n hx hb d_va_meet_0 rfl (lv_at hl 0 rfl) ?_
  refine lv_aload_n hx hb d_va_meet_1 rfl (lv_at hl 1 rfl) ?_
  replace h := bs2 h
  obtain ⟨x2, w1, hw1, h⟩ := h
  refine cv_va_66 (As := [.ref (base + a1)]) (rest := []) hx hb hml hown hts hK hG hW (c_va_meets l D cA base hw1) (kb_va_meets hw1) ⟨Nat.le_of_ble_eq_true rfl, Nat.le_of_ble_eq_true rfl⟩ ⟨Nat.le_of_ble_eq_true rfl, Nat.le_of_ble_eq_true rfl⟩ rfl hl.1 rfl (Nat.le_of_ble_eq_true rfl) d_va_meet_2 (fun H locs hW => ?_)
  refine lv_istore_n (lv' := [(2, .int x2), (0, .ref (base + a0)), (1, .ref (base + a1))]) hx hb d_va_meet_5 rfl hl (by decide) rfl (fun ls hl => ?_)
  refine lv_aload_n hx hb d_va_meet_6 rfl (lv_at hl 1 rfl) ?_
  replace h := bs h
  obtain ⟨x3, hx3, h⟩ := h
  refine gf_va_22 hx hb hts hown hK hG hW (gL_s hx3) d_va_meet_7 ?_
  refine lv_lconst (v := (0 : Int64)) hx hb d_va_meet_10 (by decide) ?_
  refine lc_eq (tgt := 52) hx hb d_va_meet_11 d_va_meet_12 (by decide) (fun c4 => ?_) (fun c4 => ?_)
  · rw [if_pos c4] at h
    exact j_va_meet_52 C a0 a1 x2 w1 h _ _ _ hW (lv_sub hl [1, 2, 0] rfl)
  · rw [if_neg c4] at h
    refine lv_aload_n hx hb d_va_meet_15 rfl (lv_at hl 2 rfl) ?_
    replace h := bs h
    obtain ⟨x22, hx22, h⟩ := h
    refine gf_va_22 hx hb hts hown hK hG hW (gL_s hx22) d_va_meet_16 ?_
    refine lv_lconst (v := (0 : Int64)) hx hb d_va_meet_19 (by decide) ?_
    refine lc_eq (tgt := 36) hx hb d_va_meet_20 d_va_meet_21 (by decide) (fun c23 => ?_) (fun c23 => ?_)
    · rw [if_pos c23] at h
      exact j_va_meet_36 C a0 a1 x2 w1 h _ _ _ hW (lv_sub hl [1, 2, 0] rfl)
    · rw [if_neg c23] at h
      refine lv_aload_n hx hb d_va_meet_24 rfl (lv_at hl 2 rfl) ?_
      replace h := bs h
      obtain ⟨x28, hx28, h⟩ := h
      refine gf_va_22 hx hb hts hown hK hG hW (gL_s hx28) d_va_meet_25 ?_
      refine lv_aload_n hx hb d_va_meet_28 rfl (lv_at hl 1 rfl) ?_
      replace h := bs h
      obtain ⟨x29, hx29, h⟩ := h
      refine gf_va_22 hx hb hts hown hK hG hW (gL_s hx29) d_va_meet_29 ?_
      refine lc_le (tgt := 52) hx hb d_va_meet_32 d_va_meet_33 (by decide) (fun c30 => ?_) (fun c30 => ?_)
      · rw [if_pos c30] at h
        exact j_va_meet_52 C a0 a1 x2 w1 h _ _ _ hW (lv_sub hl [1, 2, 0] rfl)
      · rw [if_neg c30] at h
        exact j_va_meet_36 C a0 a1 x2 w1 h _ _ _ hW (lv_sub hl [1, 2, 0] rfl)
