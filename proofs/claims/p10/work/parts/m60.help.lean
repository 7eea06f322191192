/-! The law's helpers, and their contracts (by wip/gen/law.py). -/
theorem cv_lw_7 {p : Program} {l : Launch} {e : Env} {R : Room} {s : State} {m : MethodId} {args : Array Value} {below : List Frame} {meth : Method} {c : Code} {H : Heap} {locs : List Loc} {cells slots : Nat} {Q : State → Prop} {D : va_G} {cA : Nat → ClassId} {base : Nat} {w w' : WW} {cc : ByteArray} {pc nL : Nat} {ls : Array Slot} {rest st0 As : List Value} {ov : Option Value} {b : Nat} (hx : p.tables.exec = Jvm.exec) (hb : c.code = cc) (hml : c.maxLocals = nL) (hown : s.vm.findClass Rc_lw = some m.cls) (hts : ∀ w ∈ gt, w.before args s = true) (hK : va_K D cls (wo_tys cA) s) (hG : wo_G cA base s) (hW : wo_S D cls cA base s w H locs) (hM : mt l D cls (wo_tys cA) cA base y_a_text (Cond.code y_a_text b_a_text 6 (some .int) :: gt) rm_a_text (.ref (base + b) :: As) w ov w' rm_a_text.cells rm_a_text.slots) (hkb : kb w b 0 = true) (hR : rm_a_text.frames + 1 ≤ R.frames ∧ 8 + (6 + 11) + rm_a_text.locals ≤ R.locals) (hf : cells + rm_a_text.cells ≤ R.cells ∧ slots + rm_a_text.slots ≤ R.slots) (hn : As.length = 1) (hsz : ls.size = nL) (hst : st0 = As.reverse ++ .ref (base + b) :: rest) (hcat : (rest.map fun v => v.category).sum ≤ 8) (hdg : decode cc pc = .ok (.invokevirtual 7, 3)) (kk : ∀ (H1 : Heap) (locs1 : List Loc), wo_S D cls cA base s w' H1 locs1 → W p l e R s m args below meth c H1 locs1 (cells + rm_a_text.cells) (slots + rm_a_text.slots) Q (F0 m (pc + 3) ls (ov.toList ++ rest))) : W p l e R s m args below meth c H locs cells slots Q (F0 m pc ls st0) :=
  wo_callV (C := Rc_a) hx hb hml hown hts hK hG hW hM hkb rfl (gt_of (i := 385) (by decide +kernel) (by decide +kernel)) (gt_of (i := 386) (by decide +kernel) (by decide +kernel)) (gt_of (i := 387) (by decide +kernel) (by decide +kernel)) (gt_of (i := 1) (by decide +kernel) (by decide +kernel)) (gt_of (i := 388) (by decide +kernel) (by decide +kernel)) (by decide +kernel) hR hf hn hsz hst hcat hdg kk
theorem xv_lw_7 {p : Program} {l : Launch} {e : Env} {R : Room} {s : State} {m : MethodId} {args : Array Value} {below : List Frame} {meth : Method} {c : Code} {H : Heap} {locs : List Loc} {cells slots : Nat} {Q : State → Prop} {D : va_G} {cA : Nat → ClassId} {base : Nat} {w w' : WW} {cc : ByteArray} {pc nL : Nat} {ls : Array Slot} {rest st0 As : List Value} {E : String} {b : Nat} (hx : p.tables.exec = Jvm.exec) (hb : c.code = cc) (hml : c.maxLocals = nL) (hown : s.vm.findClass Rc_lw = some m.cls) (hts : ∀ w ∈ gt, w.before args s = true) (hK : va_K D cls (wo_tys cA) s) (hG : wo_G cA base s) (hW : wo_S D cls cA base s w H locs) (hM : xt l D cls (wo_tys cA) cA base y_a_text (Cond.code y_a_text b_a_text 6 (some .int) :: gt) rx_a_text (.ref (base + b) :: As) w E w' rx_a_text.cells rx_a_text.slots) (hkb : kb w b 0 = true) (hR : rx_a_text.frames + 1 ≤ R.frames ∧ 8 + (6 + 11) + rx_a_text.locals ≤ R.locals) (hf : cells + rx_a_text.cells ≤ R.cells ∧ slots + rx_a_text.slots ≤ R.slots) (hn : As.length = 1) (hsz : ls.size = nL) (hst : st0 = As.reverse ++ .ref (base + b) :: rest) (hcat : (rest.map fun v => v.category).sum ≤ 8) (hdg : decode cc pc = .ok (.invokevirtual 7, 3)) (kk : ∀ (H1 : Heap) (locs1 : List Loc) (q : Addr) (ce : Cell), wo_S D cls cA base s w' H1 locs1 → H1[q]? = some ce → ce.vm = .none → s.vm.findClass E = some ce.cls → XW p l e R s m args below meth c H1 locs1 (cells + rx_a_text.cells) (slots + rx_a_text.slots) Q (F0 m pc ls rest) q) : W p l e R s m args below meth c H locs cells slots Q (F0 m pc ls st0) :=
  wo_xcallV (C := Rc_a) hx hb hml hown hts hK hG hW hM hkb rfl (gt_of (i := 385) (by decide +kernel) (by decide +kernel)) (gt_of (i := 386) (by decide +kernel) (by decide +kernel)) (gt_of (i := 387) (by decide +kernel) (by decide +kernel)) (gt_of (i := 1) (by decide +kernel) (by decide +kernel)) (gt_of (i := 388) (by decide +kernel) (by decide +kernel)) (by decide +kernel) hR hf hn hsz hst hcat hdg kk
abbrev b_lw_text : ByteArray := method_3_code
def y_lw_text : MethodName := ⟨"AlarmForgeLaw", "text", "(LAlarmForge;J[J)I"⟩
def rm_lw_text : Room := { frames := 7, cells := 1, slots := 6, locals := 125 }
def hh_lw_text : List (Nat × Nat × Nat × Nat) := [(0, 9, 12, 13), (0, 9, 16, 15)]
theorem d_lw_text_0 : decode b_lw_text 0 = .ok (.aload_n 3, 1) := by decide +kernel
theorem d_lw_text_1 : decode b_lw_text 1 = .ok (.iconst 0, 1) := by decide +kernel
theorem d_lw_text_2 : decode b_lw_text 2 = .ok (.aload_n 0, 1) := by decide +kernel
theorem d_lw_text_3 : decode b_lw_text 3 = .ok (.lload_n 1, 1) := by decide +kernel
theorem d_lw_text_4 : decode b_lw_text 4 = .ok (.invokevirtual 7, 3) := by decide +kernel
theorem d_lw_text_7 : decode b_lw_text 7 = .ok (.i2l, 1) := by decide +kernel
theorem d_lw_text_8 : decode b_lw_text 8 = .ok (.lastore, 1) := by decide +kernel
theorem d_lw_text_9 : decode b_lw_text 9 = .ok (.goto (11), 3) := by decide +kernel
theorem d_lw_text_12 : decode b_lw_text 12 = .ok (.astore 4, 2) := by decide +kernel
theorem d_lw_text_14 : decode b_lw_text 14 = .ok (.iconst 1, 1) := by decide +kernel
theorem d_lw_text_15 : decode b_lw_text 15 = .ok (.ireturn, 1) := by decide +kernel
theorem d_lw_text_16 : decode b_lw_text 16 = .ok (.astore 4, 2) := by decide +kernel
theorem d_lw_text_18 : decode b_lw_text 18 = .ok (.iconst 2, 1) := by decide +kernel
theorem d_lw_text_19 : decode b_lw_text 19 = .ok (.ireturn, 1) := by decide +kernel
theorem d_lw_text_20 : decode b_lw_text 20 = .ok (.iconst 0, 1) := by decide +kernel
theorem d_lw_text_21 : decode b_lw_text 21 = .ok (.ireturn, 1) := by decide +kernel
set_option maxHeartbeats 4000000 in
set_option maxRecDepth 100000 in
theorem c_lw_text (l : Launch) (hst : l.stackTraces = false) (D : va_G) (cA : Nat → ClassId) (base : Nat) {a0 : Nat} {a1 : Int64} {a3 : Nat} {w w' : WW} {r : Int32} (h : f_lw_text a0 a1 a3 w = some (r, w')) : mt l D cls (wo_tys cA) cA base y_lw_text (Cond.codeWith y_lw_text b_lw_text 5 (some .int) hh_lw_text :: gt) rm_lw_text [.ref (base + a0), .long a1, .ref (base + a3)] w (some (.int r)) w' rm_lw_text.cells rm_lw_text.slots := by
  refine mtW_start (by decide) (Nat.le_of_ble_eq_true rfl) ?_
  intro p e s m below meth c ls hx hb hr hml hown hts hlk hnm hK hG hW hl htab
  have C : cx b_lw_text (some .int) 5 y_lw_text.cls "text" p s m [.ref (base + a0), .long a1, .ref (base + a3)].toArray meth c D cA base := ⟨hx, hb, hr, hml, hown, hts, hlk, hnm, hK, hG⟩
  have hl : lv_has ls 5 [(0, .ref (base + a0)), (1, .long a1), (3, .ref (base + a3))] := hl
  unfold f_lw_text at h
  refine lv_aload_n hx hb d_lw_text_0 rfl (lv_at hl 2 rfl) ?_
  refine lv_iconst (v := (0 : Int32)) hx hb d_lw_text_1 (by decide) ?_
  refine lv_aload_n hx hb d_lw_text_2 rfl (lv_at hl 0 rfl) ?_
  refine lv_lload_n hx hb d_lw_text_3 rfl (lv_at hl 1 rfl) ?_
  replace h := bhs h
  rcases h with ⟨x1, w2, hw2, h⟩ | ⟨X, w2, hw2, h⟩
  · refine cv_lw_7 (As := [.long a1]) (rest := [.int (0 : Int32), .ref (base + a3)]) hx hb hml hown hts hK hG hW (c_a_text l D cA base hw2) (kb_a_text hw2) ⟨Nat.le_of_ble_eq_true rfl, Nat.le_of_ble_eq_true rfl⟩ ⟨Nat.le_of_ble_eq_true rfl, Nat.le_of_ble_eq_true rfl⟩ rfl hl.1 rfl (Nat.le_of_ble_eq_true rfl) d_lw_text_4 (fun H locs hW => ?_)
    refine lv_i2l hx hb d_lw_text_7 rfl ?_
    replace h := bs h
    obtain ⟨w3, hw3, h⟩ := h
    refine wo_last hx hb hK hW (t := 1) rfl hw3 d_lw_text_8 (fun H locs hW => ?_)
    refine lv_goto (tgt := 20) hx hb d_lw_text_9 (by decide) ?_
    refine lv_iconst (v := (0 : Int32)) hx hb d_lw_text_20 (by decide) ?_
    cases h
    refine W.widen (k := 1) (n := 6) (Nat.le_of_ble_eq_true rfl) (Nat.le_of_ble_eq_true rfl) ?_
    exact wo_iret hx hb hr hlk hW d_lw_text_21
  · by_cases c4 : X = "java/lang/IllegalArgumentException"
    · rw [if_pos c4] at h
      subst c4
      refine xv_lw_7 (As := [.long a1]) (rest := [.int (0 : Int32), .ref (base + a3)]) hx hb hml hown hts hK hG hW (x_a_text l hst D cA base hw2) (kb_a_text hw2) ⟨Nat.le_of_ble_eq_true rfl, Nat.le_of_ble_eq_true rfl⟩ ⟨Nat.le_of_ble_eq_true rfl, Nat.le_of_ble_eq_true rfl⟩ rfl hl.1 rfl (Nat.le_of_ble_eq_true rfl) d_lw_text_4 (fun H locs q ce hW h1 h2 h3 => ?_)
      refine wo_catch (pre := []) (x := (0, 9, 12, 13)) (post := [(0, 9, 16, 15)]) (name := "java/lang/IllegalArgumentException") hown htab rfl h1 h2 h3 (fun y hy => nomatch hy) (by decide) (by decide) (hts _ (gt_of (i := 383) (by decide +kernel) (by decide +kernel))) (va_Nw.use rfl (hG.1 _ (List.mem_of_getElem? (i := 397) (by decide +kernel)) rfl)) ?_
      refine lv_astore (lv' := [(4, .ref q), (0, .ref (base + a0)), (1, .long a1), (3, .ref (base + a3))]) hx hb d_lw_text_12 hl (by decide) rfl (fun ls hl => ?_)
      refine lv_iconst (v := (1 : Int32)) hx hb d_lw_text_14 (by decide) ?_
      cases h
      refine W.widen (k := 1) (n := 6) (Nat.le_of_ble_eq_true rfl) (Nat.le_of_ble_eq_true rfl) ?_
      exact wo_iret hx hb hr hlk hW d_lw_text_15
    · rw [if_neg c4] at h
      by_cases c5 : X = "java/lang/IllegalStateException"
      · rw [if_pos c5] at h
        subst c5
        refine xv_lw_7 (As := [.long a1]) (rest := [.int (0 : Int32), .ref (base + a3)]) hx hb hml hown hts hK hG hW (x_a_text l hst D cA base hw2) (kb_a_text hw2) ⟨Nat.le_of_ble_eq_true rfl, Nat.le_of_ble_eq_true rfl⟩ ⟨Nat.le_of_ble_eq_true rfl, Nat.le_of_ble_eq_true rfl⟩ rfl hl.1 rfl (Nat.le_of_ble_eq_true rfl) d_lw_text_4 (fun H locs q ce hW h1 h2 h3 => ?_)
        refine wo_catch (pre := [(0, 9, 12, 13)]) (x := (0, 9, 16, 15)) (post := []) (name := "java/lang/IllegalStateException") hown htab rfl h1 h2 h3 (by
      intro y hy
      simp only [List.mem_cons, List.not_mem_nil, or_false] at hy
      rcases hy with rfl
      · exact ⟨by decide, by decide, "java/lang/IllegalArgumentException", hts _ (gt_of (i := 383) (by decide +kernel) (by decide +kernel)), wo_no_of hG (by decide +kernel)⟩) (by decide) (by decide) (hts _ (gt_of (i := 384) (by decide +kernel) (by decide +kernel))) (va_Nw.use rfl (hG.1 _ (List.mem_of_getElem? (i := 462) (by decide +kernel)) rfl)) ?_
        refine lv_astore (lv' := [(4, .ref q), (0, .ref (base + a0)), (1, .long a1), (3, .ref (base + a3))]) hx hb d_lw_text_16 hl (by decide) rfl (fun ls hl => ?_)
        refine lv_iconst (v := (2 : Int32)) hx hb d_lw_text_18 (by decide) ?_
        cases h
        refine W.widen (k := 1) (n := 6) (Nat.le_of_ble_eq_true rfl) (Nat.le_of_ble_eq_true rfl) ?_
        exact wo_iret hx hb hr hlk hW d_lw_text_19
      · rw [if_neg c5] at h
        cases h
theorem cv_lw_17 {p : Program} {l : Launch} {e : Env} {R : Room} {s : State} {m : MethodId} {args : Array Value} {below : List Frame} {meth : Method} {c : Code} {H : Heap} {locs : List Loc} {cells slots : Nat} {Q : State → Prop} {D : va_G} {cA : Nat → ClassId} {base : Nat} {w w' : WW} {cc : ByteArray} {pc nL : Nat} {ls : Array Slot} {rest st0 As : List Value} {ov : Option Value} {b : Nat} (hx : p.tables.exec = Jvm.exec) (hb : c.code = cc) (hml : c.maxLocals = nL) (hown : s.vm.findClass Rc_lw = some m.cls) (hts : ∀ w ∈ gt, w.before args s = true) (hK : va_K D cls (wo_tys cA) s) (hG : wo_G cA base s) (hW : wo_S D cls cA base s w H locs) (hM : mt l D cls (wo_tys cA) cA base y_a_parse (Cond.code y_a_parse b_a_parse 2 (some .int) :: gt) rm_a_parse (.ref (base + b) :: As) w ov w' rm_a_parse.cells rm_a_parse.slots) (hkb : kb w b 0 = true) (hR : rm_a_parse.frames + 1 ≤ R.frames ∧ 8 + (2 + 11) + rm_a_parse.locals ≤ R.locals) (hf : cells + rm_a_parse.cells ≤ R.cells ∧ slots + rm_a_parse.slots ≤ R.slots) (hn : As.length = 0) (hsz : ls.size = nL) (hst : st0 = As.reverse ++ .ref (base + b) :: rest) (hcat : (rest.map fun v => v.category).sum ≤ 8) (hdg : decode cc pc = .ok (.invokevirtual 17, 3)) (kk : ∀ (H1 : Heap) (locs1 : List Loc), wo_S D cls cA base s w' H1 locs1 → W p l e R s m args below meth c H1 locs1 (cells + rm_a_parse.cells) (slots + rm_a_parse.slots) Q (F0 m (pc + 3) ls (ov.toList ++ rest))) : W p l e R s m args below meth c H locs cells slots Q (F0 m pc ls st0) :=
  wo_callV (C := Rc_a) hx hb hml hown hts hK hG hW hM hkb rfl (gt_of (i := 482) (by decide +kernel) (by decide +kernel)) (gt_of (i := 483) (by decide +kernel) (by decide +kernel)) (gt_of (i := 484) (by decide +kernel) (by decide +kernel)) (gt_of (i := 1) (by decide +kernel) (by decide +kernel)) (gt_of (i := 485) (by decide +kernel) (by decide +kernel)) (by decide +kernel) hR hf hn hsz hst hcat hdg kk
theorem xv_lw_17 {p : Program} {l : Launch} {e : Env} {R : Room} {s : State} {m : MethodId} {args : Array Value} {below : List Frame} {meth : Method} {c : Code} {H : Heap} {locs : List Loc} {cells slots : Nat} {Q : State → Prop} {D : va_G} {cA : Nat → ClassId} {base : Nat} {w w' : WW} {cc : ByteArray} {pc nL : Nat} {ls : Array Slot} {rest st0 As : List Value} {E : String} {b : Nat} (hx : p.tables.exec = Jvm.exec) (hb : c.code = cc) (hml : c.maxLocals = nL) (hown : s.vm.findClass Rc_lw = some m.cls) (hts : ∀ w ∈ gt, w.before args s = true) (hK : va_K D cls (wo_tys cA) s) (hG : wo_G cA base s) (hW : wo_S D cls cA base s w H locs) (hM : xt l D cls (wo_tys cA) cA base y_a_parse (Cond.code y_a_parse b_a_parse 2 (some .int) :: gt) rx_a_parse (.ref (base + b) :: As) w E w' rx_a_parse.cells rx_a_parse.slots) (hkb : kb w b 0 = true) (hR : rx_a_parse.frames + 1 ≤ R.frames ∧ 8 + (2 + 11) + rx_a_parse.locals ≤ R.locals) (hf : cells + rx_a_parse.cells ≤ R.cells ∧ slots + rx_a_parse.slots ≤ R.slots) (hn : As.length = 0) (hsz : ls.size = nL) (hst : st0 = As.reverse ++ .ref (base + b) :: rest) (hcat : (rest.map fun v => v.category).sum ≤ 8) (hdg : decode cc pc = .ok (.invokevirtual 17, 3)) (kk : ∀ (H1 : Heap) (locs1 : List Loc) (q : Addr) (ce : Cell), wo_S D cls cA base s w' H1 locs1 → H1[q]? = some ce → ce.vm = .none → s.vm.findClass E = some ce.cls → XW p l e R s m args below meth c H1 locs1 (cells + rx_a_parse.cells) (slots + rx_a_parse.slots) Q (F0 m pc ls rest) q) : W p l e R s m args below meth c H locs cells slots Q (F0 m pc ls st0) :=
  wo_xcallV (C := Rc_a) hx hb hml hown hts hK hG hW hM hkb rfl (gt_of (i := 482) (by decide +kernel) (by decide +kernel)) (gt_of (i := 483) (by decide +kernel) (by decide +kernel)) (gt_of (i := 484) (by decide +kernel) (by decide +kernel)) (gt_of (i := 1) (by decide +kernel) (by decide +kernel)) (gt_of (i := 485) (by decide +kernel) (by decide +kernel)) (by decide +kernel) hR hf hn hsz hst hcat hdg kk
abbrev b_lw_parse : ByteArray := method_4_code
def y_lw_parse : MethodName := ⟨"AlarmForgeLaw", "parse", "(LAlarmForge;[J)I"⟩
def rm_lw_parse : Room := { frames := 141, cells := 1, slots := 6, locals := 3521 }
def hh_lw_parse : List (Nat × Nat × Nat × Nat) := [(0, 8, 11, 13)]
theorem d_lw_parse_0 : decode b_lw_parse 0 = .ok (.aload_n 1, 1) := by decide +kernel
theorem d_lw_parse_1 : decode b_lw_parse 1 = .ok (.iconst 0, 1) := by decide +kernel
theorem d_lw_parse_2 : decode b_lw_parse 2 = .ok (.aload_n 0, 1) := by decide +kernel
theorem d_lw_parse_3 : decode b_lw_parse 3 = .ok (.invokevirtual 17, 3) := by decide +kernel
theorem d_lw_parse_6 : decode b_lw_parse 6 = .ok (.i2l, 1) := by decide +kernel
theorem d_lw_parse_7 : decode b_lw_parse 7 = .ok (.lastore, 1) := by decide +kernel
theorem d_lw_parse_8 : decode b_lw_parse 8 = .ok (.goto (6), 3) := by decide +kernel
theorem d_lw_parse_11 : decode b_lw_parse 11 = .ok (.astore_n 2, 1) := by decide +kernel
theorem d_lw_parse_12 : decode b_lw_parse 12 = .ok (.iconst 1, 1) := by decide +kernel
theorem d_lw_parse_13 : decode b_lw_parse 13 = .ok (.ireturn, 1) := by decide +kernel
theorem d_lw_parse_14 : decode b_lw_parse 14 = .ok (.iconst 0, 1) := by decide +kernel
theorem d_lw_parse_15 : decode b_lw_parse 15 = .ok (.ireturn, 1) := by decide +kernel
set_option maxHeartbeats 4000000 in
set_option maxRecDepth 100000 in
theorem c_lw_parse (l : Launch) (hst : l.stackTraces = false) (D : va_G) (cA : Nat → ClassId) (base : Nat) {a0 : Nat} {a1 : Nat} {w w' : WW} {r : Int32} (h : f_lw_parse a0 a1 w = some (r, w')) : mt l D cls (wo_tys cA) cA base y_lw_parse (Cond.codeWith y_lw_parse b_lw_parse 3 (some .int) hh_lw_parse :: gt) rm_lw_parse [.ref (base + a0), .ref (base + a1)] w (some (.int r)) w' rm_lw_parse.cells rm_lw_parse.slots := by
  refine mtW_start (by decide) (Nat.le_of_ble_eq_true rfl) ?_
  intro p e s m below meth c ls hx hb hr hml hown hts hlk hnm hK hG hW hl htab
  have C : cx b_lw_parse (some .int) 3 y_lw_parse.cls "parse" p s m [.ref (base + a0), .ref (base + a1)].toArray meth c D cA base := ⟨hx, hb, hr, hml, hown, hts, hlk, hnm, hK, hG⟩
  have hl : lv_has ls 3 [(0, .ref (base + a0)), (1, .ref (base + a1))] := hl
  unfold f_lw_parse at h
  refine lv_aload_n hx hb d_lw_parse_0 rfl (lv_at hl 1 rfl) ?_
  refine lv_iconst (v := (0 : Int32)) hx hb d_lw_parse_1 (by decide) ?_
  refine lv_aload_n hx hb d_lw_parse_2 rfl (lv_at hl 0 rfl) ?_
  replace h := bhs h
  rcases h with ⟨x1, w2, hw2, h⟩ | ⟨X, w2, hw2, h⟩
  · refine cv_lw_17 (As := []) (rest := [.int (0 : Int32), .ref (base + a1)]) hx hb hml hown hts hK hG hW (c_a_parse l D cA base hw2) (kb_a_parse hw2) ⟨Nat.le_of_ble_eq_true rfl, Nat.le_of_ble_eq_true rfl⟩ ⟨Nat.le_of_ble_eq_true rfl, Nat.le_of_ble_eq_true rfl⟩ rfl hl.1 rfl (Nat.le_of_ble_eq_true rfl) d_lw_parse_3 (fun H locs hW => ?_)
    refine lv_i2l hx hb d_lw_parse_6 rfl ?_
    replace h := bs h
    obtain ⟨w3, hw3, h⟩ := h
    refine wo_last hx hb hK hW (t := 1) rfl hw3 d_lw_parse_7 (fun H locs hW => ?_)
    refine lv_goto (tgt := 14) hx hb d_lw_parse_8 (by decide) ?_
    refine lv_iconst (v := (0 : Int32)) hx hb d_lw_parse_14 (by decide) ?_
    cases h
    refine W.widen (k := 1) (n := 6) (Nat.le_of_ble_eq_true rfl) (Nat.le_of_ble_eq_true rfl) ?_
    exact wo_iret hx hb hr hlk hW d_lw_parse_15
  · by_cases c4 : X = "java/lang/IllegalArgumentException"
    · rw [if_pos c4] at h
      subst c4
      refine xv_lw_17 (As := []) (rest := [.int (0 : Int32), .ref (base + a1)]) hx hb hml hown hts hK hG hW (x_a_parse l hst D cA base hw2) (kb_a_parse hw2) ⟨Nat.le_of_ble_eq_true rfl, Nat.le_of_ble_eq_true rfl⟩ ⟨Nat.le_of_ble_eq_true rfl, Nat.le_of_ble_eq_true rfl⟩ rfl hl.1 rfl (Nat.le_of_ble_eq_true rfl) d_lw_parse_3 (fun H locs q ce hW h1 h2 h3 => ?_)
      refine wo_catch (pre := []) (x := (0, 8, 11, 13)) (post := []) (name := "java/lang/IllegalArgumentException") hown htab rfl h1 h2 h3 (fun y hy => nomatch hy) (by decide) (by decide) (hts _ (gt_of (i := 383) (by decide +kernel) (by decide +kernel))) (va_Nw.use rfl (hG.1 _ (List.mem_of_getElem? (i := 397) (by decide +kernel)) rfl)) ?_
      refine lv_astore_n (lv' := [(2, .ref q), (0, .ref (base + a0)), (1, .ref (base + a1))]) hx hb d_lw_parse_11 rfl hl (by decide) rfl (fun ls hl => ?_)
      refine lv_iconst (v := (1 : Int32)) hx hb d_lw_parse_12 (by decide) ?_
      cases h
      refine W.widen (k := 1) (n := 6) (Nat.le_of_ble_eq_true rfl) (Nat.le_of_ble_eq_true rfl) ?_
      exact wo_iret hx hb hr hlk hW d_lw_parse_13
    · rw [if_neg c4] at h
      cases h
theorem cv_lw_21 {p : Program} {l : Launch} {e : Env} {R : Room} {s : State} {m : MethodId} {args : Array Value} {below : List Frame} {meth : Method} {c : Code} {H : Heap} {locs : List Loc} {cells slots : Nat} {Q : State → Prop} {D : va_G} {cA : Nat → ClassId} {base : Nat} {w w' : WW} {cc : ByteArray} {pc nL : Nat} {ls : Array Slot} {rest st0 As : List Value} {ov : Option Value} {b : Nat} (hx : p.tables.exec = Jvm.exec) (hb : c.code = cc) (hml : c.maxLocals = nL) (hown : s.vm.findClass Rc_lw = some m.cls) (hts : ∀ w ∈ gt, w.before args s = true) (hK : va_K D cls (wo_tys cA) s) (hG : wo_G cA base s) (hW : wo_S D cls cA base s w H locs) (hM : mt l D cls (wo_tys cA) cA base y_a_choose (Cond.code y_a_choose b_a_choose 4 (some .int) :: gt) rm_a_choose (.ref (base + b) :: As) w ov w' rm_a_choose.cells rm_a_choose.slots) (hkb : kb w b 0 = true) (hR : rm_a_choose.frames + 1 ≤ R.frames ∧ 8 + (4 + 11) + rm_a_choose.locals ≤ R.locals) (hf : cells + rm_a_choose.cells ≤ R.cells ∧ slots + rm_a_choose.slots ≤ R.slots) (hn : As.length = 2) (hsz : ls.size = nL) (hst : st0 = As.reverse ++ .ref (base + b) :: rest) (hcat : (rest.map fun v => v.category).sum ≤ 8) (hdg : decode cc pc = .ok (.invokevirtual 21, 3)) (kk : ∀ (H1 : Heap) (locs1 : List Loc), wo_S D cls cA base s w' H1 locs1 → W p l e R s m args below meth c H1 locs1 (cells + rm_a_choose.cells) (slots + rm_a_choose.slots) Q (F0 m (pc + 3) ls (ov.toList ++ rest))) : W p l e R s m args below meth c H locs cells slots Q (F0 m pc ls st0) :=
  wo_callV (C := Rc_a) hx hb hml hown hts hK hG hW hM hkb rfl (gt_of (i := 729) (by decide +kernel) (by decide +kernel)) (gt_of (i := 730) (by decide +kernel) (by decide +kernel)) (gt_of (i := 731) (by decide +kernel) (by decide +kernel)) (gt_of (i := 1) (by decide +kernel) (by decide +kernel)) (gt_of (i := 732) (by decide +kernel) (by decide +kernel)) (by decide +kernel) hR hf hn hsz hst hcat hdg kk
theorem xv_lw_21 {p : Program} {l : Launch} {e : Env} {R : Room} {s : State} {m : MethodId} {args : Array Value} {below : List Frame} {meth : Method} {c : Code} {H : Heap} {locs : List Loc} {cells slots : Nat} {Q : State → Prop} {D : va_G} {cA : Nat → ClassId} {base : Nat} {w w' : WW} {cc : ByteArray} {pc nL : Nat} {ls : Array Slot} {rest st0 As : List Value} {E : String} {b : Nat} (hx : p.tables.exec = Jvm.exec) (hb : c.code = cc) (hml : c.maxLocals = nL) (hown : s.vm.findClass Rc_lw = some m.cls) (hts : ∀ w ∈ gt, w.before args s = true) (hK : va_K D cls (wo_tys cA) s) (hG : wo_G cA base s) (hW : wo_S D cls cA base s w H locs) (hM : xt l D cls (wo_tys cA) cA base y_a_choose (Cond.code y_a_choose b_a_choose 4 (some .int) :: gt) rx_a_choose (.ref (base + b) :: As) w E w' rx_a_choose.cells rx_a_choose.slots) (hkb : kb w b 0 = true) (hR : rx_a_choose.frames + 1 ≤ R.frames ∧ 8 + (4 + 11) + rx_a_choose.locals ≤ R.locals) (hf : cells + rx_a_choose.cells ≤ R.cells ∧ slots + rx_a_choose.slots ≤ R.slots) (hn : As.length = 2) (hsz : ls.size = nL) (hst : st0 = As.reverse ++ .ref (base + b) :: rest) (hcat : (rest.map fun v => v.category).sum ≤ 8) (hdg : decode cc pc = .ok (.invokevirtual 21, 3)) (kk : ∀ (H1 : Heap) (locs1 : List Loc) (q : Addr) (ce : Cell), wo_S D cls cA base s w' H1 locs1 → H1[q]? = some ce → ce.vm = .none → s.vm.findClass E = some ce.cls → XW p l e R s m args below meth c H1 locs1 (cells + rx_a_choose.cells) (slots + rx_a_choose.slots) Q (F0 m pc ls rest) q) : W p l e R s m args below meth c H locs cells slots Q (F0 m pc ls st0) :=
  wo_xcallV (C := Rc_a) hx hb hml hown hts hK hG hW hM hkb rfl (gt_of (i := 729) (by decide +kernel) (by decide +kernel)) (gt_of (i := 730) (by decide +kernel) (by decide +kernel)) (gt_of (i := 731) (by decide +kernel) (by decide +kernel)) (gt_of (i := 1) (by decide +kernel) (by decide +kernel)) (gt_of (i := 732) (by decide +kernel) (by decide +kernel)) (by decide +kernel) hR hf hn hsz hst hcat hdg kk
abbrev b_lw_choose : ByteArray := method_5_code
def y_lw_choose : MethodName := ⟨"AlarmForgeLaw", "choose", "(LAlarmForge;II[J)I"⟩
def rm_lw_choose : Room := { frames := 7, cells := 1, slots := 6, locals := 123 }
def hh_lw_choose : List (Nat × Nat × Nat × Nat) := [(0, 10, 13, 13)]
theorem d_lw_choose_0 : decode b_lw_choose 0 = .ok (.aload_n 3, 1) := by decide +kernel
theorem d_lw_choose_1 : decode b_lw_choose 1 = .ok (.iconst 0, 1) := by decide +kernel
theorem d_lw_choose_2 : decode b_lw_choose 2 = .ok (.aload_n 0, 1) := by decide +kernel
theorem d_lw_choose_3 : decode b_lw_choose 3 = .ok (.iload_n 1, 1) := by decide +kernel
theorem d_lw_choose_4 : decode b_lw_choose 4 = .ok (.iload_n 2, 1) := by decide +kernel
theorem d_lw_choose_5 : decode b_lw_choose 5 = .ok (.invokevirtual 21, 3) := by decide +kernel
theorem d_lw_choose_8 : decode b_lw_choose 8 = .ok (.i2l, 1) := by decide +kernel
theorem d_lw_choose_9 : decode b_lw_choose 9 = .ok (.lastore, 1) := by decide +kernel
theorem d_lw_choose_10 : decode b_lw_choose 10 = .ok (.goto (7), 3) := by decide +kernel
theorem d_lw_choose_13 : decode b_lw_choose 13 = .ok (.astore 4, 2) := by decide +kernel
theorem d_lw_choose_15 : decode b_lw_choose 15 = .ok (.iconst 1, 1) := by decide +kernel
theorem d_lw_choose_16 : decode b_lw_choose 16 = .ok (.ireturn, 1) := by decide +kernel
theorem d_lw_choose_17 : decode b_lw_choose 17 = .ok (.iconst 0, 1) := by decide +kernel
theorem d_lw_choose_18 : decode b_lw_choose 18 = .ok (.ireturn, 1) := by decide +kernel
set_option maxHeartbeats 4000000 in
set_option maxRecDepth 100000 in
theorem c_lw_choose (l : Launch) (hst : l.stackTraces = false) (D : va_G) (cA : Nat → ClassId) (base : Nat) {a0 : Nat} {a1 : Int32} {a2 : Int32} {a3 : Nat} {w w' : WW} {r : Int32} (h : f_lw_choose a0 a1 a2 a3 w = some (r, w')) : mt l D cls (wo_tys cA) cA base y_lw_choose (Cond.codeWith y_lw_choose b_lw_choose 5 (some .int) hh_lw_choose :: gt) rm_lw_choose [.ref (base + a0), .int a1, .int a2, .ref (base + a3)] w (some (.int r)) w' rm_lw_choose.cells rm_lw_choose.slots := by
  refine mtW_start (by decide) (Nat.le_of_ble_eq_true rfl) ?_
  intro p e s m below meth c ls hx hb hr hml hown hts hlk hnm hK hG hW hl htab
  have C : cx b_lw_choose (some .int) 5 y_lw_choose.cls "choose" p s m [.ref (base + a0), .int a1, .int a2, .ref (base + a3)].toArray meth c D cA base := ⟨hx, hb, hr, hml, hown, hts, hlk, hnm, hK, hG⟩
  have hl : lv_has ls 5 [(0, .ref (base + a0)), (1, .int a1), (2, .int a2), (3, .ref (base + a3))] := hl
  unfold f_lw_choose at h
  refine lv_aload_n hx hb d_lw_choose_0 rfl (lv_at hl 3 rfl) ?_
  refine lv_iconst (v := (0 : Int32)) hx hb d_lw_choose_1 (by decide) ?_
  refine lv_aload_n hx hb d_lw_choose_2 rfl (lv_at hl 0 rfl) ?_
  refine lv_iload_n hx hb d_lw_choose_3 rfl (lv_at hl 1 rfl) ?_
  refine lv_iload_n hx hb d_lw_choose_4 rfl (lv_at hl 2 rfl) ?_
  replace h := bhs h
  rcases h with ⟨x1, w2, hw2, h⟩ | ⟨X, w2, hw2, h⟩
  · refine cv_lw_21 (As := [.int a1, .int a2]) (rest := [.int (0 : Int32), .ref (base + a3)]) hx hb hml hown hts hK hG hW (c_a_choose l D cA base hw2) (kb_a_choose hw2) ⟨Nat.le_of_ble_eq_true rfl, Nat.le_of_ble_eq_true rfl⟩ ⟨Nat.le_of_ble_eq_true rfl, Nat.le_of_ble_eq_true rfl⟩ rfl hl.1 rfl (Nat.le_of_ble_eq_true rfl) d_lw_choose_5 (fun H locs hW => ?_)
    refine lv_i2l hx hb d_lw_choose_8 rfl ?_
    replace h := bs h
    obtain ⟨w3, hw3, h⟩ := h
    refine wo_last hx hb hK hW (t := 1) rfl hw3 d_lw_choose_9 (fun H locs hW => ?_)
    refine lv_goto (tgt := 17) hx hb d_lw_choose_10 (by decide) ?_
    refine lv_iconst (v := (0 : Int32)) hx hb d_lw_choose_17 (by decide) ?_
    cases h
    refine W.widen (k := 1) (n := 6) (Nat.le_of_ble_eq_true rfl) (Nat.le_of_ble_eq_true rfl) ?_
    exact wo_iret hx hb hr hlk hW d_lw_choose_18
  · by_cases c4 : X = "java/lang/IllegalArgumentException"
    · rw [if_pos c4] at h
      subst c4
      refine xv_lw_21 (As := [.int a1, .int a2]) (rest := [.int (0 : Int32), .ref (base + a3)]) hx hb hml hown hts hK hG hW (x_a_choose l hst D cA base hw2) (kb_a_choose hw2) ⟨Nat.le_of_ble_eq_true rfl, Nat.le_of_ble_eq_true rfl⟩ ⟨Nat.le_of_ble_eq_true rfl, Nat.le_of_ble_eq_true rfl⟩ rfl hl.1 rfl (Nat.le_of_ble_eq_true rfl) d_lw_choose_5 (fun H locs q ce hW h1 h2 h3 => ?_)
      refine wo_catch (pre := []) (x := (0, 10, 13, 13)) (post := []) (name := "java/lang/IllegalArgumentException") hown htab rfl h1 h2 h3 (fun y hy => nomatch hy) (by decide) (by decide) (hts _ (gt_of (i := 383) (by decide +kernel) (by decide +kernel))) (va_Nw.use rfl (hG.1 _ (List.mem_of_getElem? (i := 397) (by decide +kernel)) rfl)) ?_
      refine lv_astore (lv' := [(4, .ref q), (0, .ref (base + a0)), (1, .int a1), (2, .int a2), (3, .ref (base + a3))]) hx hb d_lw_choose_13 hl (by decide) rfl (fun ls hl => ?_)
      refine lv_iconst (v := (1 : Int32)) hx hb d_lw_choose_15 (by decide) ?_
      cases h
      refine W.widen (k := 1) (n := 6) (Nat.le_of_ble_eq_true rfl) (Nat.le_of_ble_eq_true rfl) ?_
      exact wo_iret hx hb hr hlk hW d_lw_choose_16
    · rw [if_neg c4] at h
      cases h
theorem cv_lw_25 {p : Program} {l : Launch} {e : Env} {R : Room} {s : State} {m : MethodId} {args : Array Value} {below : List Frame} {meth : Method} {c : Code} {H : Heap} {locs : List Loc} {cells slots : Nat} {Q : State → Prop} {D : va_G} {cA : Nat → ClassId} {base : Nat} {w w' : WW} {cc : ByteArray} {pc nL : Nat} {ls : Array Slot} {rest st0 As : List Value} {ov : Option Value} {b : Nat} (hx : p.tables.exec = Jvm.exec) (hb : c.code = cc) (hml : c.maxLocals = nL) (hown : s.vm.findClass Rc_lw = some m.cls) (hts : ∀ w ∈ gt, w.before args s = true) (hK : va_K D cls (wo_tys cA) s) (hG : wo_G cA base s) (hW : wo_S D cls cA base s w H locs) (hM : mt l D cls (wo_tys cA) cA base y_a_input (Cond.code y_a_input b_a_input 2 (some .int) :: gt) rm_a_input (.ref (base + b) :: As) w ov w' rm_a_input.cells rm_a_input.slots) (hkb : kb w b 0 = true) (hR : rm_a_input.frames + 1 ≤ R.frames ∧ 8 + (2 + 11) + rm_a_input.locals ≤ R.locals) (hf : cells + rm_a_input.cells ≤ R.cells ∧ slots + rm_a_input.slots ≤ R.slots) (hn : As.length = 1) (hsz : ls.size = nL) (hst : st0 = As.reverse ++ .ref (base + b) :: rest) (hcat : (rest.map fun v => v.category).sum ≤ 8) (hdg : decode cc pc = .ok (.invokevirtual 25, 3)) (kk : ∀ (H1 : Heap) (locs1 : List Loc), wo_S D cls cA base s w' H1 locs1 → W p l e R s m args below meth c H1 locs1 (cells + rm_a_input.cells) (slots + rm_a_input.slots) Q (F0 m (pc + 3) ls (ov.toList ++ rest))) : W p l e R s m args below meth c H locs cells slots Q (F0 m pc ls st0) :=
  wo_callV (C := Rc_a) hx hb hml hown hts hK hG hW hM hkb rfl (gt_of (i := 736) (by decide +kernel) (by decide +kernel)) (gt_of (i := 737) (by decide +kernel) (by decide +kernel)) (gt_of (i := 738) (by decide +kernel) (by decide +kernel)) (gt_of (i := 1) (by decide +kernel) (by decide +kernel)) (gt_of (i := 739) (by decide +kernel) (by decide +kernel)) (by decide +kernel) hR hf hn hsz hst hcat hdg kk
theorem xv_lw_25 {p : Program} {l : Launch} {e : Env} {R : Room} {s : State} {m : MethodId} {args : Array Value} {below : List Frame} {meth : Method} {c : Code} {H : Heap} {locs : List Loc} {cells slots : Nat} {Q : State → Prop} {D : va_G} {cA : Nat → ClassId} {base : Nat} {w w' : WW} {cc : ByteArray} {pc nL : Nat} {ls : Array Slot} {rest st0 As : List Value} {E : String} {b : Nat} (hx : p.tables.exec = Jvm.exec) (hb : c.code = cc) (hml : c.maxLocals = nL) (hown : s.vm.findClass Rc_lw = some m.cls) (hts : ∀ w ∈ gt, w.before args s = true) (hK : va_K D cls (wo_tys cA) s) (hG : wo_G cA base s) (hW : wo_S D cls cA base s w H locs) (hM : xt l D cls (wo_tys cA) cA base y_a_input (Cond.code y_a_input b_a_input 2 (some .int) :: gt) rx_a_input (.ref (base + b) :: As) w E w' rx_a_input.cells rx_a_input.slots) (hkb : kb w b 0 = true) (hR : rx_a_input.frames + 1 ≤ R.frames ∧ 8 + (2 + 11) + rx_a_input.locals ≤ R.locals) (hf : cells + rx_a_input.cells ≤ R.cells ∧ slots + rx_a_input.slots ≤ R.slots) (hn : As.length = 1) (hsz : ls.size = nL) (hst : st0 = As.reverse ++ .ref (base + b) :: rest) (hcat : (rest.map fun v => v.category).sum ≤ 8) (hdg : decode cc pc = .ok (.invokevirtual 25, 3)) (kk : ∀ (H1 : Heap) (locs1 : List Loc) (q : Addr) (ce : Cell), wo_S D cls cA base s w' H1 locs1 → H1[q]? = some ce → ce.vm = .none → s.vm.findClass E = some ce.cls → XW p l e R s m args below meth c H1 locs1 (cells + rx_a_input.cells) (slots + rx_a_input.slots) Q (F0 m pc ls rest) q) : W p l e R s m args below meth c H locs cells slots Q (F0 m pc ls st0) :=
  wo_xcallV (C := Rc_a) hx hb hml hown hts hK hG hW hM hkb rfl (gt_of (i := 736) (by decide +kernel) (by decide +kernel)) (gt_of (i := 737) (by decide +kernel) (by decide +kernel)) (gt_of (i := 738) (by decide +kernel) (by decide +kernel)) (gt_of (i := 1) (by decide +kernel) (by decide +kernel)) (gt_of (i := 739) (by decide +kernel) (by decide +kernel)) (by decide +kernel) hR hf hn hsz hst hcat hdg kk
abbrev b_lw_input : ByteArray := method_6_code
def y_lw_input : MethodName := ⟨"AlarmForgeLaw", "input", "(LAlarmForge;I[J)I"⟩
def rm_lw_input : Room := { frames := 7, cells := 1, slots := 6, locals := 121 }
def hh_lw_input : List (Nat × Nat × Nat × Nat) := [(0, 9, 12, 15)]
theorem d_lw_input_0 : decode b_lw_input 0 = .ok (.aload_n 2, 1) := by decide +kernel
theorem d_lw_input_1 : decode b_lw_input 1 = .ok (.iconst 0, 1) := by decide +kernel
theorem d_lw_input_2 : decode b_lw_input 2 = .ok (.aload_n 0, 1) := by decide +kernel
theorem d_lw_input_3 : decode b_lw_input 3 = .ok (.iload_n 1, 1) := by decide +kernel
theorem d_lw_input_4 : decode b_lw_input 4 = .ok (.invokevirtual 25, 3) := by decide +kernel
theorem d_lw_input_7 : decode b_lw_input 7 = .ok (.i2l, 1) := by decide +kernel
theorem d_lw_input_8 : decode b_lw_input 8 = .ok (.lastore, 1) := by decide +kernel
theorem d_lw_input_9 : decode b_lw_input 9 = .ok (.goto (6), 3) := by decide +kernel
theorem d_lw_input_12 : decode b_lw_input 12 = .ok (.astore_n 3, 1) := by decide +kernel
theorem d_lw_input_13 : decode b_lw_input 13 = .ok (.iconst 1, 1) := by decide +kernel
theorem d_lw_input_14 : decode b_lw_input 14 = .ok (.ireturn, 1) := by decide +kernel
theorem d_lw_input_15 : decode b_lw_input 15 = .ok (.iconst 0, 1) := by decide +kernel
theorem d_lw_input_16 : decode b_lw_input 16 = .ok (.ireturn, 1) := by decide +kernel
set_option maxHeartbeats 4000000 in
set_option maxRecDepth 100000 in
theorem c_lw_input (l : Launch) (hst : l.stackTraces = false) (D : va_G) (cA : Nat → ClassId) (base : Nat) {a0 : Nat} {a1 : Int32} {a2 : Nat} {w w' : WW} {r : Int32} (h : f_lw_input a0 a1 a2 w = some (r, w')) : mt l D cls (wo_tys cA) cA base y_lw_input (Cond.codeWith y_lw_input b_lw_input 4 (some .int) hh_lw_input :: gt) rm_lw_input [.ref (base + a0), .int a1, .ref (base + a2)] w (some (.int r)) w' rm_lw_input.cells rm_lw_input.slots := by
  refine mtW_start (by decide) (Nat.le_of_ble_eq_true rfl) ?_
  intro p e s m below meth c ls hx hb hr hml hown hts hlk hnm hK hG hW hl htab
  have C : cx b_lw_input (some .int) 4 y_lw_input.cls "input" p s m [.ref (base + a0), .int a1, .ref (base + a2)].toArray meth c D cA base := ⟨hx, hb, hr, hml, hown, hts, hlk, hnm, hK, hG⟩
  have hl : lv_has ls 4 [(0, .ref (base + a0)), (1, .int a1), (2, .ref (base + a2))] := hl
  unfold f_lw_input at h
  refine lv_aload_n hx hb d_lw_input_0 rfl (lv_at hl 2 rfl) ?_
  refine lv_iconst (v := (0 : Int32)) hx hb d_lw_input_1 (by decide) ?_
  refine lv_aload_n hx hb d_lw_input_2 rfl (lv_at hl 0 rfl) ?_
  refine lv_iload_n hx hb d_lw_input_3 rfl (lv_at hl 1 rfl) ?_
  replace h := bhs h
  rcases h with ⟨x1, w2, hw2, h⟩ | ⟨X, w2, hw2, h⟩
  · refine cv_lw_25 (As := [.int a1]) (rest := [.int (0 : Int32), .ref (base + a2)]) hx hb hml hown hts hK hG hW (c_a_input l D cA base hw2) (kb_a_input hw2) ⟨Nat.le_of_ble_eq_true rfl, Nat.le_of_ble_eq_true rfl⟩ ⟨Nat.le_of_ble_eq_true rfl, Nat.le_of_ble_eq_true rfl⟩ rfl hl.1 rfl (Nat.le_of_ble_eq_true rfl) d_lw_input_4 (fun H locs hW => ?_)
    refine lv_i2l hx hb d_lw_input_7 rfl ?_
    replace h := bs h
    obtain ⟨w3, hw3, h⟩ := h
    refine wo_last hx hb hK hW (t := 1) rfl hw3 d_lw_input_8 (fun H locs hW => ?_)
    refine lv_goto (tgt := 15) hx hb d_lw_input_9 (by decide) ?_
    refine lv_iconst (v := (0 : Int32)) hx hb d_lw_input_15 (by decide) ?_
    cases h
    refine W.widen (k := 1) (n := 6) (Nat.le_of_ble_eq_true rfl) (Nat.le_of_ble_eq_true rfl) ?_
    exact wo_iret hx hb hr hlk hW d_lw_input_16
  · by_cases c4 : X = "java/lang/IllegalStateException"
    · rw [if_pos c4] at h
      subst c4
      refine xv_lw_25 (As := [.int a1]) (rest := [.int (0 : Int32), .ref (base + a2)]) hx hb hml hown hts hK hG hW (x_a_input l hst D cA base hw2) (kb_a_input hw2) ⟨Nat.le_of_ble_eq_true rfl, Nat.le_of_ble_eq_true rfl⟩ ⟨Nat.le_of_ble_eq_true rfl, Nat.le_of_ble_eq_true rfl⟩ rfl hl.1 rfl (Nat.le_of_ble_eq_true rfl) d_lw_input_4 (fun H locs q ce hW h1 h2 h3 => ?_)
      refine wo_catch (pre := []) (x := (0, 9, 12, 15)) (post := []) (name := "java/lang/IllegalStateException") hown htab rfl h1 h2 h3 (fun y hy => nomatch hy) (by decide) (by decide) (hts _ (gt_of (i := 384) (by decide +kernel) (by decide +kernel))) (va_Nw.use rfl (hG.1 _ (List.mem_of_getElem? (i := 462) (by decide +kernel)) rfl)) ?_
      refine lv_astore_n (lv' := [(3, .ref q), (0, .ref (base + a0)), (1, .int a1), (2, .ref (base + a2))]) hx hb d_lw_input_12 rfl hl (by decide) rfl (fun ls hl => ?_)
      refine lv_iconst (v := (1 : Int32)) hx hb d_lw_input_13 (by decide) ?_
      cases h
      refine W.widen (k := 1) (n := 6) (Nat.le_of_ble_eq_true rfl) (Nat.le_of_ble_eq_true rfl) ?_
      exact wo_iret hx hb hr hlk hW d_lw_input_14
    · rw [if_neg c4] at h
      cases h
theorem cv_lw_29 {p : Program} {l : Launch} {e : Env} {R : Room} {s : State} {m : MethodId} {args : Array Value} {below : List Frame} {meth : Method} {c : Code} {H : Heap} {locs : List Loc} {cells slots : Nat} {Q : State → Prop} {D : va_G} {cA : Nat → ClassId} {base : Nat} {w w' : WW} {cc : ByteArray} {pc nL : Nat} {ls : Array Slot} {rest st0 As : List Value} {ov : Option Value} {b : Nat} (hx : p.tables.exec = Jvm.exec) (hb : c.code = cc) (hml : c.maxLocals = nL) (hown : s.vm.findClass Rc_lw = some m.cls) (hts : ∀ w ∈ gt, w.before args s = true) (hK : va_K D cls (wo_tys cA) s) (hG : wo_G cA base s) (hW : wo_S D cls cA base s w H locs) (hM : mt l D cls (wo_tys cA) cA base y_a_run (Cond.code y_a_run b_a_run 2 (some .int) :: gt) rm_a_run (.ref (base + b) :: As) w ov w' rm_a_run.cells rm_a_run.slots) (hkb : kb w b 0 = true) (hR : rm_a_run.frames + 1 ≤ R.frames ∧ 8 + (2 + 11) + rm_a_run.locals ≤ R.locals) (hf : cells + rm_a_run.cells ≤ R.cells ∧ slots + rm_a_run.slots ≤ R.slots) (hn : As.length = 1) (hsz : ls.size = nL) (hst : st0 = As.reverse ++ .ref (base + b) :: rest) (hcat : (rest.map fun v => v.category).sum ≤ 8) (hdg : decode cc pc = .ok (.invokevirtual 29, 3)) (kk : ∀ (H1 : Heap) (locs1 : List Loc), wo_S D cls cA base s w' H1 locs1 → W p l e R s m args below meth c H1 locs1 (cells + rm_a_run.cells) (slots + rm_a_run.slots) Q (F0 m (pc + 3) ls (ov.toList ++ rest))) : W p l e R s m args below meth c H locs cells slots Q (F0 m pc ls st0) :=
  wo_callV (C := Rc_a) hx hb hml hown hts hK hG hW hM hkb rfl (gt_of (i := 750) (by decide +kernel) (by decide +kernel)) (gt_of (i := 751) (by decide +kernel) (by decide +kernel)) (gt_of (i := 752) (by decide +kernel) (by decide +kernel)) (gt_of (i := 1) (by decide +kernel) (by decide +kernel)) (gt_of (i := 753) (by decide +kernel) (by decide +kernel)) (by decide +kernel) hR hf hn hsz hst hcat hdg kk
theorem xv_lw_29 {p : Program} {l : Launch} {e : Env} {R : Room} {s : State} {m : MethodId} {args : Array Value} {below : List Frame} {meth : Method} {c : Code} {H : Heap} {locs : List Loc} {cells slots : Nat} {Q : State → Prop} {D : va_G} {cA : Nat → ClassId} {base : Nat} {w w' : WW} {cc : ByteArray} {pc nL : Nat} {ls : Array Slot} {rest st0 As : List Value} {E : String} {b : Nat} (hx : p.tables.exec = Jvm.exec) (hb : c.code = cc) (hml : c.maxLocals = nL) (hown : s.vm.findClass Rc_lw = some m.cls) (hts : ∀ w ∈ gt, w.before args s = true) (hK : va_K D cls (wo_tys cA) s) (hG : wo_G cA base s) (hW : wo_S D cls cA base s w H locs) (hM : xt l D cls (wo_tys cA) cA base y_a_run (Cond.code y_a_run b_a_run 2 (some .int) :: gt) rx_a_run (.ref (base + b) :: As) w E w' rx_a_run.cells rx_a_run.slots) (hkb : kb w b 0 = true) (hR : rx_a_run.frames + 1 ≤ R.frames ∧ 8 + (2 + 11) + rx_a_run.locals ≤ R.locals) (hf : cells + rx_a_run.cells ≤ R.cells ∧ slots + rx_a_run.slots ≤ R.slots) (hn : As.length = 1) (hsz : ls.size = nL) (hst : st0 = As.reverse ++ .ref (base + b) :: rest) (hcat : (rest.map fun v => v.category).sum ≤ 8) (hdg : decode cc pc = .ok (.invokevirtual 29, 3)) (kk : ∀ (H1 : Heap) (locs1 : List Loc) (q : Addr) (ce : Cell), wo_S D cls cA base s w' H1 locs1 → H1[q]? = some ce → ce.vm = .none → s.vm.findClass E = some ce.cls → XW p l e R s m args below meth c H1 locs1 (cells + rx_a_run.cells) (slots + rx_a_run.slots) Q (F0 m pc ls rest) q) : W p l e R s m args below meth c H locs cells slots Q (F0 m pc ls st0) :=
  wo_xcallV (C := Rc_a) hx hb hml hown hts hK hG hW hM hkb rfl (gt_of (i := 750) (by decide +kernel) (by decide +kernel)) (gt_of (i := 751) (by decide +kernel) (by decide +kernel)) (gt_of (i := 752) (by decide +kernel) (by decide +kernel)) (gt_of (i := 1) (by decide +kernel) (by decide +kernel)) (gt_of (i := 753) (by decide +kernel) (by decide +kernel)) (by decide +kernel) hR hf hn hsz hst hcat hdg kk
abbrev b_lw_run : ByteArray := method_7_code
def y_lw_run : MethodName := ⟨"AlarmForgeLaw", "run", "(LAlarmForge;I[J)I"⟩
def rm_lw_run : Room := { frames := 78, cells := 1, slots := 6, locals := 1760 }
def hh_lw_run : List (Nat × Nat × Nat × Nat) := [(0, 9, 12, 13), (0, 9, 15, 15), (0, 9, 18, 32), (0, 9, 21, 34), (0, 9, 24, 36)]
theorem d_lw_run_0 : decode b_lw_run 0 = .ok (.aload_n 2, 1) := by decide +kernel
theorem d_lw_run_1 : decode b_lw_run 1 = .ok (.iconst 0, 1) := by decide +kernel
theorem d_lw_run_2 : decode b_lw_run 2 = .ok (.aload_n 0, 1) := by decide +kernel
theorem d_lw_run_3 : decode b_lw_run 3 = .ok (.iload_n 1, 1) := by decide +kernel
theorem d_lw_run_4 : decode b_lw_run 4 = .ok (.invokevirtual 29, 3) := by decide +kernel
theorem d_lw_run_7 : decode b_lw_run 7 = .ok (.i2l, 1) := by decide +kernel
theorem d_lw_run_8 : decode b_lw_run 8 = .ok (.lastore, 1) := by decide +kernel
theorem d_lw_run_9 : decode b_lw_run 9 = .ok (.goto (18), 3) := by decide +kernel
theorem d_lw_run_12 : decode b_lw_run 12 = .ok (.astore_n 3, 1) := by decide +kernel
theorem d_lw_run_13 : decode b_lw_run 13 = .ok (.iconst 1, 1) := by decide +kernel
theorem d_lw_run_14 : decode b_lw_run 14 = .ok (.ireturn, 1) := by decide +kernel
theorem d_lw_run_15 : decode b_lw_run 15 = .ok (.astore_n 3, 1) := by decide +kernel
theorem d_lw_run_16 : decode b_lw_run 16 = .ok (.iconst 2, 1) := by decide +kernel
theorem d_lw_run_17 : decode b_lw_run 17 = .ok (.ireturn, 1) := by decide +kernel
theorem d_lw_run_18 : decode b_lw_run 18 = .ok (.astore_n 3, 1) := by decide +kernel
theorem d_lw_run_19 : decode b_lw_run 19 = .ok (.iconst 3, 1) := by decide +kernel
theorem d_lw_run_20 : decode b_lw_run 20 = .ok (.ireturn, 1) := by decide +kernel
theorem d_lw_run_21 : decode b_lw_run 21 = .ok (.astore_n 3, 1) := by decide +kernel
theorem d_lw_run_22 : decode b_lw_run 22 = .ok (.iconst 4, 1) := by decide +kernel
theorem d_lw_run_23 : decode b_lw_run 23 = .ok (.ireturn, 1) := by decide +kernel
theorem d_lw_run_24 : decode b_lw_run 24 = .ok (.astore_n 3, 1) := by decide +kernel
theorem d_lw_run_25 : decode b_lw_run 25 = .ok (.iconst 5, 1) := by decide +kernel
theorem d_lw_run_26 : decode b_lw_run 26 = .ok (.ireturn, 1) := by decide +kernel
theorem d_lw_run_27 : decode b_lw_run 27 = .ok (.iconst 0, 1) := by decide +kernel
theorem d_lw_run_28 : decode b_lw_run 28 = .ok (.ireturn, 1) := by decide +kernel
set_option maxHeartbeats 4000000 in
set_option maxRecDepth 100000 in
theorem c_lw_run (l : Launch) (hst : l.stackTraces = false) (D : va_G) (cA : Nat → ClassId) (base : Nat) {a0 : Nat} {a1 : Int32} {a2 : Nat} {w w' : WW} {r : Int32} (h : f_lw_run a0 a1 a2 w = some (r, w')) : mt l D cls (wo_tys cA) cA base y_lw_run (Cond.codeWith y_lw_run b_lw_run 4 (some .int) hh_lw_run :: gt) rm_lw_run [.ref (base + a0), .int a1, .ref (base + a2)] w (some (.int r)) w' rm_lw_run.cells rm_lw_run.slots := by
  refine mtW_start (by decide) (Nat.le_of_ble_eq_true rfl) ?_
  intro p e s m below meth c ls hx hb hr hml hown hts hlk hnm hK hG hW hl htab
  have C : cx b_lw_run (some .int) 4 y_lw_run.cls "run" p s m [.ref (base + a0), .int a1, .ref (base + a2)].toArray meth c D cA base := ⟨hx, hb, hr, hml, hown, hts, hlk, hnm, hK, hG⟩
  have hl : lv_has ls 4 [(0, .ref (base + a0)), (1, .int a1), (2, .ref (base + a2))] := hl
  unfold f_lw_run at h
  refine lv_aload_n hx hb d_lw_run_0 rfl (lv_at hl 2 rfl) ?_
  refine lv_iconst (v := (0 : Int32)) hx hb d_lw_run_1 (by decide) ?_
  refine lv_aload_n hx hb d_lw_run_2 rfl (lv_at hl 0 rfl) ?_
  refine lv_iload_n hx hb d_lw_run_3 rfl (lv_at hl 1 rfl) ?_
  replace h := bhs h
  rcases h with ⟨x1, w2, hw2, h⟩ | ⟨X, w2, hw2, h⟩
  · refine cv_lw_29 (As := [.int a1]) (rest := [.int (0 : Int32), .ref (base + a2)]) hx hb hml hown hts hK hG hW (c_a_run l D cA base hw2) (kb_a_run hw2) ⟨Nat.le_of_ble_eq_true rfl, Nat.le_of_ble_eq_true rfl⟩ ⟨Nat.le_of_ble_eq_true rfl, Nat.le_of_ble_eq_true rfl⟩ rfl hl.1 rfl (Nat.le_of_ble_eq_true rfl) d_lw_run_4 (fun H locs hW => ?_)
    refine lv_i2l hx hb d_lw_run_7 rfl ?_
    replace h := bs h
    obtain ⟨w3, hw3, h⟩ := h
    refine wo_last hx hb hK hW (t := 1) rfl hw3 d_lw_run_8 (fun H locs hW => ?_)
    refine lv_goto (tgt := 27) hx hb d_lw_run_9 (by decide) ?_
    refine lv_iconst (v := (0 : Int32)) hx hb d_lw_run_27 (by decide) ?_
    cases h
    refine W.widen (k := 1) (n := 6) (Nat.le_of_ble_eq_true rfl) (Nat.le_of_ble_eq_true rfl) ?_
    exact wo_iret hx hb hr hlk hW d_lw_run_28
  · by_cases c4 : X = "java/lang/IllegalArgumentException"
    · rw [if_pos c4] at h
      subst c4
      refine xv_lw_29 (As := [.int a1]) (rest := [.int (0 : Int32), .ref (base + a2)]) hx hb hml hown hts hK hG hW (x_a_run l hst D cA base hw2) (kb_a_run hw2) ⟨Nat.le_of_ble_eq_true rfl, Nat.le_of_ble_eq_true rfl⟩ ⟨Nat.le_of_ble_eq_true rfl, Nat.le_of_ble_eq_true rfl⟩ rfl hl.1 rfl (Nat.le_of_ble_eq_true rfl) d_lw_run_4 (fun H locs q ce hW h1 h2 h3 => ?_)
      refine wo_catch (pre := []) (x := (0, 9, 12, 13)) (post := [(0, 9, 15, 15), (0, 9, 18, 32), (0, 9, 21, 34), (0, 9, 24, 36)]) (name := "java/lang/IllegalArgumentException") hown htab rfl h1 h2 h3 (fun y hy => nomatch hy) (by decide) (by decide) (hts _ (gt_of (i := 383) (by decide +kernel) (by decide +kernel))) (va_Nw.use rfl (hG.1 _ (List.mem_of_getElem? (i := 397) (by decide +kernel)) rfl)) ?_
      refine lv_astore_n (lv' := [(3, .ref q), (0, .ref (base + a0)), (1, .int a1), (2, .ref (base + a2))]) hx hb d_lw_run_12 rfl hl (by decide) rfl (fun ls hl => ?_)
      refine lv_iconst (v := (1 : Int32)) hx hb d_lw_run_13 (by decide) ?_
      cases h
      refine W.widen (k := 1) (n := 6) (Nat.le_of_ble_eq_true rfl) (Nat.le_of_ble_eq_true rfl) ?_
      exact wo_iret hx hb hr hlk hW d_lw_run_14
    · rw [if_neg c4] at h
      by_cases c5 : X = "java/lang/IllegalStateException"
      · rw [if_pos c5] at h
        subst c5
        refine xv_lw_29 (As := [.int a1]) (rest := [.int (0 : Int32), .ref (base + a2)]) hx hb hml hown hts hK hG hW (x_a_run l hst D cA base hw2) (kb_a_run hw2) ⟨Nat.le_of_ble_eq_true rfl, Nat.le_of_ble_eq_true rfl⟩ ⟨Nat.le_of_ble_eq_true rfl, Nat.le_of_ble_eq_true rfl⟩ rfl hl.1 rfl (Nat.le_of_ble_eq_true rfl) d_lw_run_4 (fun H locs q ce hW h1 h2 h3 => ?_)
        refine wo_catch (pre := [(0, 9, 12, 13)]) (x := (0, 9, 15, 15)) (post := [(0, 9, 18, 32), (0, 9, 21, 34), (0, 9, 24, 36)]) (name := "java/lang/IllegalStateException") hown htab rfl h1 h2 h3 (by
      intro y hy
      simp only [List.mem_cons, List.not_mem_nil, or_false] at hy
      rcases hy with rfl
      · exact ⟨by decide, by decide, "java/lang/IllegalArgumentException", hts _ (gt_of (i := 383) (by decide +kernel) (by decide +kernel)), wo_no_of hG (by decide +kernel)⟩) (by decide) (by decide) (hts _ (gt_of (i := 384) (by decide +kernel) (by decide +kernel))) (va_Nw.use rfl (hG.1 _ (List.mem_of_getElem? (i := 462) (by decide +kernel)) rfl)) ?_
        refine lv_astore_n (lv' := [(3, .ref q), (0, .ref (base + a0)), (1, .int a1), (2, .ref (base + a2))]) hx hb d_lw_run_15 rfl hl (by decide) rfl (fun ls hl => ?_)
        refine lv_iconst (v := (2 : Int32)) hx hb d_lw_run_16 (by decide) ?_
        cases h
        refine W.widen (k := 1) (n := 6) (Nat.le_of_ble_eq_true rfl) (Nat.le_of_ble_eq_true rfl) ?_
        exact wo_iret hx hb hr hlk hW d_lw_run_17
      · rw [if_neg c5] at h
        by_cases c6 : X = "java/lang/IndexOutOfBoundsException"
        · rw [if_pos c6] at h
          subst c6
          refine xv_lw_29 (As := [.int a1]) (rest := [.int (0 : Int32), .ref (base + a2)]) hx hb hml hown hts hK hG hW (x_a_run l hst D cA base hw2) (kb_a_run hw2) ⟨Nat.le_of_ble_eq_true rfl, Nat.le_of_ble_eq_true rfl⟩ ⟨Nat.le_of_ble_eq_true rfl, Nat.le_of_ble_eq_true rfl⟩ rfl hl.1 rfl (Nat.le_of_ble_eq_true rfl) d_lw_run_4 (fun H locs q ce hW h1 h2 h3 => ?_)
          refine wo_catch (pre := [(0, 9, 12, 13), (0, 9, 15, 15)]) (x := (0, 9, 18, 32)) (post := [(0, 9, 21, 34), (0, 9, 24, 36)]) (name := "java/lang/IndexOutOfBoundsException") hown htab rfl h1 h2 h3 (by
      intro y hy
      simp only [List.mem_cons, List.not_mem_nil, or_false] at hy
      rcases hy with rfl | rfl
      · exact ⟨by decide, by decide, "java/lang/IllegalArgumentException", hts _ (gt_of (i := 383) (by decide +kernel) (by decide +kernel)), wo_no_of hG (by decide +kernel)⟩
      · exact ⟨by decide, by decide, "java/lang/IllegalStateException", hts _ (gt_of (i := 384) (by decide +kernel) (by decide +kernel)), wo_no_of hG (by decide +kernel)⟩) (by decide) (by decide) (hts _ (gt_of (i := 747) (by decide +kernel) (by decide +kernel))) (va_Nw.use rfl (hG.1 _ (List.mem_of_getElem? (i := 794) (by decide +kernel)) rfl)) ?_
          refine lv_astore_n (lv' := [(3, .ref q), (0, .ref (base + a0)), (1, .int a1), (2, .ref (base + a2))]) hx hb d_lw_run_18 rfl hl (by decide) rfl (fun ls hl => ?_)
          refine lv_iconst (v := (3 : Int32)) hx hb d_lw_run_19 (by decide) ?_
          cases h
          refine W.widen (k := 1) (n := 6) (Nat.le_of_ble_eq_true rfl) (Nat.le_of_ble_eq_true rfl) ?_
          exact wo_iret hx hb hr hlk hW d_lw_run_20
        · rw [if_neg c6] at h
          by_cases c7 : X = "java/lang/ArithmeticException"
          · rw [if_pos c7] at h
            subst c7
            refine xv_lw_29 (As := [.int a1]) (rest := [.int (0 : Int32), .ref (base + a2)]) hx hb hml hown hts hK hG hW (x_a_run l hst D cA base hw2) (kb_a_run hw2) ⟨Nat.le_of_ble_eq_true rfl, Nat.le_of_ble_eq_true rfl⟩ ⟨Nat.le_of_ble_eq_true rfl, Nat.le_of_ble_eq_true rfl⟩ rfl hl.1 rfl (Nat.le_of_ble_eq_true rfl) d_lw_run_4 (fun H locs q ce hW h1 h2 h3 => ?_)
            refine wo_catch (pre := [(0, 9, 12, 13), (0, 9, 15, 15), (0, 9, 18, 32)]) (x := (0, 9, 21, 34)) (post := [(0, 9, 24, 36)]) (name := "java/lang/ArithmeticException") hown htab rfl h1 h2 h3 (by
      intro y hy
      simp only [List.mem_cons, List.not_mem_nil, or_false] at hy
      rcases hy with rfl | rfl | rfl
      · exact ⟨by decide, by decide, "java/lang/IllegalArgumentException", hts _ (gt_of (i := 383) (by decide +kernel) (by decide +kernel)), wo_no_of hG (by decide +kernel)⟩
      · exact ⟨by decide, by decide, "java/lang/IllegalStateException", hts _ (gt_of (i := 384) (by decide +kernel) (by decide +kernel)), wo_no_of hG (by decide +kernel)⟩
      · exact ⟨by decide, by decide, "java/lang/IndexOutOfBoundsException", hts _ (gt_of (i := 747) (by decide +kernel) (by decide +kernel)), wo_no_of hG (by decide +kernel)⟩) (by decide) (by decide) (hts _ (gt_of (i := 748) (by decide +kernel) (by decide +kernel))) (va_Nw.use rfl (hG.1 _ (List.mem_of_getElem? (i := 824) (by decide +kernel)) rfl)) ?_
            refine lv_astore_n (lv' := [(3, .ref q), (0, .ref (base + a0)), (1, .int a1), (2, .ref (base + a2))]) hx hb d_lw_run_21 rfl hl (by decide) rfl (fun ls hl => ?_)
            refine lv_iconst (v := (4 : Int32)) hx hb d_lw_run_22 (by decide) ?_
            cases h
            refine W.widen (k := 1) (n := 6) (Nat.le_of_ble_eq_true rfl) (Nat.le_of_ble_eq_true rfl) ?_
            exact wo_iret hx hb hr hlk hW d_lw_run_23
          · rw [if_neg c7] at h
            by_cases c8 : X = "java/lang/UnsupportedOperationException"
            · rw [if_pos c8] at h
              subst c8
              refine xv_lw_29 (As := [.int a1]) (rest := [.int (0 : Int32), .ref (base + a2)]) hx hb hml hown hts hK hG hW (x_a_run l hst D cA base hw2) (kb_a_run hw2) ⟨Nat.le_of_ble_eq_true rfl, Nat.le_of_ble_eq_true rfl⟩ ⟨Nat.le_of_ble_eq_true rfl, Nat.le_of_ble_eq_true rfl⟩ rfl hl.1 rfl (Nat.le_of_ble_eq_true rfl) d_lw_run_4 (fun H locs q ce hW h1 h2 h3 => ?_)
              refine wo_catch (pre := [(0, 9, 12, 13), (0, 9, 15, 15), (0, 9, 18, 32), (0, 9, 21, 34)]) (x := (0, 9, 24, 36)) (post := []) (name := "java/lang/UnsupportedOperationException") hown htab rfl h1 h2 h3 (by
      intro y hy
      simp only [List.mem_cons, List.not_mem_nil, or_false] at hy
      rcases hy with rfl | rfl | rfl | rfl
      · exact ⟨by decide, by decide, "java/lang/IllegalArgumentException", hts _ (gt_of (i := 383) (by decide +kernel) (by decide +kernel)), wo_no_of hG (by decide +kernel)⟩
      · exact ⟨by decide, by decide, "java/lang/IllegalStateException", hts _ (gt_of (i := 384) (by decide +kernel) (by decide +kernel)), wo_no_of hG (by decide +kernel)⟩
      · exact ⟨by decide, by decide, "java/lang/IndexOutOfBoundsException", hts _ (gt_of (i := 747) (by decide +kernel) (by decide +kernel)), wo_no_of hG (by decide +kernel)⟩
      · exact ⟨by decide, by decide, "java/lang/ArithmeticException", hts _ (gt_of (i := 748) (by decide +kernel) (by decide +kernel)), wo_no_of hG (by decide +kernel)⟩) (by decide) (by decide) (hts _ (gt_of (i := 749) (by decide +kernel) (by decide +kernel))) (va_Nw.use rfl (hG.1 _ (List.mem_of_getElem? (i := 809) (by decide +kernel)) rfl)) ?_
              refine lv_astore_n (lv' := [(3, .ref q), (0, .ref (base + a0)), (1, .int a1), (2, .ref (base + a2))]) hx hb d_lw_run_24 rfl hl (by decide) rfl (fun ls hl => ?_)
              refine lv_iconst (v := (5 : Int32)) hx hb d_lw_run_25 (by decide) ?_
              cases h
              refine W.widen (k := 1) (n := 6) (Nat.le_of_ble_eq_true rfl) (Nat.le_of_ble_eq_true rfl) ?_
              exact wo_iret hx hb hr hlk hW d_lw_run_26
            · rw [if_neg c8] at h
              cases h
theorem cv_lw_38 {p : Program} {l : Launch} {e : Env} {R : Room} {s : State} {m : MethodId} {args : Array Value} {below : List Frame} {meth : Method} {c : Code} {H : Heap} {locs : List Loc} {cells slots : Nat} {Q : State → Prop} {D : va_G} {cA : Nat → ClassId} {base : Nat} {w w' : WW} {cc : ByteArray} {pc nL : Nat} {ls : Array Slot} {rest st0 As : List Value} {ov : Option Value} {b : Nat} (hx : p.tables.exec = Jvm.exec) (hb : c.code = cc) (hml : c.maxLocals = nL) (hown : s.vm.findClass Rc_lw = some m.cls) (hts : ∀ w ∈ gt, w.before args s = true) (hK : va_K D cls (wo_tys cA) s) (hG : wo_G cA base s) (hW : wo_S D cls cA base s w H locs) (hM : mt l D cls (wo_tys cA) cA base y_a_ran (Cond.code y_a_ran b_a_ran 2 (some .int) :: gt) rm_a_ran (.ref (base + b) :: As) w ov w' rm_a_ran.cells rm_a_ran.slots) (hkb : kb w b 0 = true) (hR : rm_a_ran.frames + 1 ≤ R.frames ∧ 8 + (2 + 11) + rm_a_ran.locals ≤ R.locals) (hf : cells + rm_a_ran.cells ≤ R.cells ∧ slots + rm_a_ran.slots ≤ R.slots) (hn : As.length = 1) (hsz : ls.size = nL) (hst : st0 = As.reverse ++ .ref (base + b) :: rest) (hcat : (rest.map fun v => v.category).sum ≤ 8) (hdg : decode cc pc = .ok (.invokevirtual 38, 3)) (kk : ∀ (H1 : Heap) (locs1 : List Loc), wo_S D cls cA base s w' H1 locs1 → W p l e R s m args below meth c H1 locs1 (cells + rm_a_ran.cells) (slots + rm_a_ran.slots) Q (F0 m (pc + 3) ls (ov.toList ++ rest))) : W p l e R s m args below meth c H locs cells slots Q (F0 m pc ls st0) :=
  wo_callV (C := Rc_a) hx hb hml hown hts hK hG hW hM hkb rfl (gt_of (i := 878) (by decide +kernel) (by decide +kernel)) (gt_of (i := 879) (by decide +kernel) (by decide +kernel)) (gt_of (i := 880) (by decide +kernel) (by decide +kernel)) (gt_of (i := 1) (by decide +kernel) (by decide +kernel)) (gt_of (i := 881) (by decide +kernel) (by decide +kernel)) (by decide +kernel) hR hf hn hsz hst hcat hdg kk
theorem xv_lw_38 {p : Program} {l : Launch} {e : Env} {R : Room} {s : State} {m : MethodId} {args : Array Value} {below : List Frame} {meth : Method} {c : Code} {H : Heap} {locs : List Loc} {cells slots : Nat} {Q : State → Prop} {D : va_G} {cA : Nat → ClassId} {base : Nat} {w w' : WW} {cc : ByteArray} {pc nL : Nat} {ls : Array Slot} {rest st0 As : List Value} {E : String} {b : Nat} (hx : p.tables.exec = Jvm.exec) (hb : c.code = cc) (hml : c.maxLocals = nL) (hown : s.vm.findClass Rc_lw = some m.cls) (hts : ∀ w ∈ gt, w.before args s = true) (hK : va_K D cls (wo_tys cA) s) (hG : wo_G cA base s) (hW : wo_S D cls cA base s w H locs) (hM : xt l D cls (wo_tys cA) cA base y_a_ran (Cond.code y_a_ran b_a_ran 2 (some .int) :: gt) rx_a_ran (.ref (base + b) :: As) w E w' rx_a_ran.cells rx_a_ran.slots) (hkb : kb w b 0 = true) (hR : rx_a_ran.frames + 1 ≤ R.frames ∧ 8 + (2 + 11) + rx_a_ran.locals ≤ R.locals) (hf : cells + rx_a_ran.cells ≤ R.cells ∧ slots + rx_a_ran.slots ≤ R.slots) (hn : As.length = 1) (hsz : ls.size = nL) (hst : st0 = As.reverse ++ .ref (base + b) :: rest) (hcat : (rest.map fun v => v.category).sum ≤ 8) (hdg : decode cc pc = .ok (.invokevirtual 38, 3)) (kk : ∀ (H1 : Heap) (locs1 : List Loc) (q : Addr) (ce : Cell), wo_S D cls cA base s w' H1 locs1 → H1[q]? = some ce → ce.vm = .none → s.vm.findClass E = some ce.cls → XW p l e R s m args below meth c H1 locs1 (cells + rx_a_ran.cells) (slots + rx_a_ran.slots) Q (F0 m pc ls rest) q) : W p l e R s m args below meth c H locs cells slots Q (F0 m pc ls st0) :=
  wo_xcallV (C := Rc_a) hx hb hml hown hts hK hG hW hM hkb rfl (gt_of (i := 878) (by decide +kernel) (by decide +kernel)) (gt_of (i := 879) (by decide +kernel) (by decide +kernel)) (gt_of (i := 880) (by decide +kernel) (by decide +kernel)) (gt_of (i := 1) (by decide +kernel) (by decide +kernel)) (gt_of (i := 881) (by decide +kernel) (by decide +kernel)) (by decide +kernel) hR hf hn hsz hst hcat hdg kk
abbrev b_lw_ran : ByteArray := method_8_code
def y_lw_ran : MethodName := ⟨"AlarmForgeLaw", "ran", "(LAlarmForge;I[J)I"⟩
def rm_lw_ran : Room := { frames := 7, cells := 1, slots := 6, locals := 121 }
def hh_lw_ran : List (Nat × Nat × Nat × Nat) := [(0, 9, 12, 13)]
theorem d_lw_ran_0 : decode b_lw_ran 0 = .ok (.aload_n 2, 1) := by decide +kernel
theorem d_lw_ran_1 : decode b_lw_ran 1 = .ok (.iconst 0, 1) := by decide +kernel
theorem d_lw_ran_2 : decode b_lw_ran 2 = .ok (.aload_n 0, 1) := by decide +kernel
theorem d_lw_ran_3 : decode b_lw_ran 3 = .ok (.iload_n 1, 1) := by decide +kernel
theorem d_lw_ran_4 : decode b_lw_ran 4 = .ok (.invokevirtual 38, 3) := by decide +kernel
theorem d_lw_ran_7 : decode b_lw_ran 7 = .ok (.i2l, 1) := by decide +kernel
theorem d_lw_ran_8 : decode b_lw_ran 8 = .ok (.lastore, 1) := by decide +kernel
theorem d_lw_ran_9 : decode b_lw_ran 9 = .ok (.goto (6), 3) := by decide +kernel
theorem d_lw_ran_12 : decode b_lw_ran 12 = .ok (.astore_n 3, 1) := by decide +kernel
theorem d_lw_ran_13 : decode b_lw_ran 13 = .ok (.iconst 1, 1) := by decide +kernel
theorem d_lw_ran_14 : decode b_lw_ran 14 = .ok (.ireturn, 1) := by decide +kernel
theorem d_lw_ran_15 : decode b_lw_ran 15 = .ok (.iconst 0, 1) := by decide +kernel
theorem d_lw_ran_16 : decode b_lw_ran 16 = .ok (.ireturn, 1) := by decide +kernel
set_option maxHeartbeats 4000000 in
set_option maxRecDepth 100000 in
theorem c_lw_ran (l : Launch) (hst : l.stackTraces = false) (D : va_G) (cA : Nat → ClassId) (base : Nat) {a0 : Nat} {a1 : Int32} {a2 : Nat} {w w' : WW} {r : Int32} (h : f_lw_ran a0 a1 a2 w = some (r, w')) : mt l D cls (wo_tys cA) cA base y_lw_ran (Cond.codeWith y_lw_ran b_lw_ran 4 (some .int) hh_lw_ran :: gt) rm_lw_ran [.ref (base + a0), .int a1, .ref (base + a2)] w (some (.int r)) w' rm_lw_ran.cells rm_lw_ran.slots := by
  refine mtW_start (by decide) (Nat.le_of_ble_eq_true rfl) ?_
  intro p e s m below meth c ls hx hb hr hml hown hts hlk hnm hK hG hW hl htab
  have C : cx b_lw_ran (some .int) 4 y_lw_ran.cls "ran" p s m [.ref (base + a0), .int a1, .ref (base + a2)].toArray meth c D cA base := ⟨hx, hb, hr, hml, hown, hts, hlk, hnm, hK, hG⟩
  have hl : lv_has ls 4 [(0, .ref (base + a0)), (1, .int a1), (2, .ref (base + a2))] := hl
  unfold f_lw_ran at h
  refine lv_aload_n hx hb d_lw_ran_0 rfl (lv_at hl 2 rfl) ?_
  refine lv_iconst (v := (0 : Int32)) hx hb d_lw_ran_1 (by decide) ?_
  refine lv_aload_n hx hb d_lw_ran_2 rfl (lv_at hl 0 rfl) ?_
  refine lv_iload_n hx hb d_lw_ran_3 rfl (lv_at hl 1 rfl) ?_
  replace h := bhs h
  rcases h with ⟨x1, w2, hw2, h⟩ | ⟨X, w2, hw2, h⟩
  · refine cv_lw_38 (As := [.int a1]) (rest := [.int (0 : Int32), .ref (base + a2)]) hx hb hml hown hts hK hG hW (c_a_ran l D cA base hw2) (kb_a_ran hw2) ⟨Nat.le_of_ble_eq_true rfl, Nat.le_of_ble_eq_true rfl⟩ ⟨Nat.le_of_ble_eq_true rfl, Nat.le_of_ble_eq_true rfl⟩ rfl hl.1 rfl (Nat.le_of_ble_eq_true rfl) d_lw_ran_4 (fun H locs hW => ?_)
    refine lv_i2l hx hb d_lw_ran_7 rfl ?_
    replace h := bs h
    obtain ⟨w3, hw3, h⟩ := h
    refine wo_last hx hb hK hW (t := 1) rfl hw3 d_lw_ran_8 (fun H locs hW => ?_)
    refine lv_goto (tgt := 15) hx hb d_lw_ran_9 (by decide) ?_
    refine lv_iconst (v := (0 : Int32)) hx hb d_lw_ran_15 (by decide) ?_
    cases h
    refine W.widen (k := 1) (n := 6) (Nat.le_of_ble_eq_true rfl) (Nat.le_of_ble_eq_true rfl) ?_
    exact wo_iret hx hb hr hlk hW d_lw_ran_16
  · by_cases c4 : X = "java/lang/IllegalArgumentException"
    · rw [if_pos c4] at h
      subst c4
      refine xv_lw_38 (As := [.int a1]) (rest := [.int (0 : Int32), .ref (base + a2)]) hx hb hml hown hts hK hG hW (x_a_ran l hst D cA base hw2) (kb_a_ran hw2) ⟨Nat.le_of_ble_eq_true rfl, Nat.le_of_ble_eq_true rfl⟩ ⟨Nat.le_of_ble_eq_true rfl, Nat.le_of_ble_eq_true rfl⟩ rfl hl.1 rfl (Nat.le_of_ble_eq_true rfl) d_lw_ran_4 (fun H locs q ce hW h1 h2 h3 => ?_)
      refine wo_catch (pre := []) (x := (0, 9, 12, 13)) (post := []) (name := "java/lang/IllegalArgumentException") hown htab rfl h1 h2 h3 (fun y hy => nomatch hy) (by decide) (by decide) (hts _ (gt_of (i := 383) (by decide +kernel) (by decide +kernel))) (va_Nw.use rfl (hG.1 _ (List.mem_of_getElem? (i := 397) (by decide +kernel)) rfl)) ?_
      refine lv_astore_n (lv' := [(3, .ref q), (0, .ref (base + a0)), (1, .int a1), (2, .ref (base + a2))]) hx hb d_lw_ran_12 rfl hl (by decide) rfl (fun ls hl => ?_)
      refine lv_iconst (v := (1 : Int32)) hx hb d_lw_ran_13 (by decide) ?_
      cases h
      refine W.widen (k := 1) (n := 6) (Nat.le_of_ble_eq_true rfl) (Nat.le_of_ble_eq_true rfl) ?_
      exact wo_iret hx hb hr hlk hW d_lw_ran_14
    · rw [if_neg c4] at h
      cases h
theorem cv_lw_41 {p : Program} {l : Launch} {e : Env} {R : Room} {s : State} {m : MethodId} {args : Array Value} {below : List Frame} {meth : Method} {c : Code} {H : Heap} {locs : List Loc} {cells slots : Nat} {Q : State → Prop} {D : va_G} {cA : Nat → ClassId} {base : Nat} {w w' : WW} {cc : ByteArray} {pc nL : Nat} {ls : Array Slot} {rest st0 As : List Value} {ov : Option Value} {b : Nat} (hx : p.tables.exec = Jvm.exec) (hb : c.code = cc) (hml : c.maxLocals = nL) (hown : s.vm.findClass Rc_lw = some m.cls) (hts : ∀ w ∈ gt, w.before args s = true) (hK : va_K D cls (wo_tys cA) s) (hG : wo_G cA base s) (hW : wo_S D cls cA base s w H locs) (hM : mt l D cls (wo_tys cA) cA base y_a_analyse (Cond.code y_a_analyse b_a_analyse 1 (some .int) :: gt) rm_a_analyse (.ref (base + b) :: As) w ov w' rm_a_analyse.cells rm_a_analyse.slots) (hkb : kb w b 0 = true) (hR : rm_a_analyse.frames + 1 ≤ R.frames ∧ 8 + (1 + 11) + rm_a_analyse.locals ≤ R.locals) (hf : cells + rm_a_analyse.cells ≤ R.cells ∧ slots + rm_a_analyse.slots ≤ R.slots) (hn : As.length = 0) (hsz : ls.size = nL) (hst : st0 = As.reverse ++ .ref (base + b) :: rest) (hcat : (rest.map fun v => v.category).sum ≤ 8) (hdg : decode cc pc = .ok (.invokevirtual 41, 3)) (kk : ∀ (H1 : Heap) (locs1 : List Loc), wo_S D cls cA base s w' H1 locs1 → W p l e R s m args below meth c H1 locs1 (cells + rm_a_analyse.cells) (slots + rm_a_analyse.slots) Q (F0 m (pc + 3) ls (ov.toList ++ rest))) : W p l e R s m args below meth c H locs cells slots Q (F0 m pc ls st0) :=
  wo_callV (C := Rc_a) hx hb hml hown hts hK hG hW hM hkb rfl (gt_of (i := 885) (by decide +kernel) (by decide +kernel)) (gt_of (i := 886) (by decide +kernel) (by decide +kernel)) (gt_of (i := 887) (by decide +kernel) (by decide +kernel)) (gt_of (i := 1) (by decide +kernel) (by decide +kernel)) (gt_of (i := 888) (by decide +kernel) (by decide +kernel)) (by decide +kernel) hR hf hn hsz hst hcat hdg kk
theorem xv_lw_41 {p : Program} {l : Launch} {e : Env} {R : Room} {s : State} {m : MethodId} {args : Array Value} {below : List Frame} {meth : Method} {c : Code} {H : Heap} {locs : List Loc} {cells slots : Nat} {Q : State → Prop} {D : va_G} {cA : Nat → ClassId} {base : Nat} {w w' : WW} {cc : ByteArray} {pc nL : Nat} {ls : Array Slot} {rest st0 As : List Value} {E : String} {b : Nat} (hx : p.tables.exec = Jvm.exec) (hb : c.code = cc) (hml : c.maxLocals = nL) (hown : s.vm.findClass Rc_lw = some m.cls) (hts : ∀ w ∈ gt, w.before args s = true) (hK : va_K D cls (wo_tys cA) s) (hG : wo_G cA base s) (hW : wo_S D cls cA base s w H locs) (hM : xt l D cls (wo_tys cA) cA base y_a_analyse (Cond.code y_a_analyse b_a_analyse 1 (some .int) :: gt) rx_a_analyse (.ref (base + b) :: As) w E w' rx_a_analyse.cells rx_a_analyse.slots) (hkb : kb w b 0 = true) (hR : rx_a_analyse.frames + 1 ≤ R.frames ∧ 8 + (1 + 11) + rx_a_analyse.locals ≤ R.locals) (hf : cells + rx_a_analyse.cells ≤ R.cells ∧ slots + rx_a_analyse.slots ≤ R.slots) (hn : As.length = 0) (hsz : ls.size = nL) (hst : st0 = As.reverse ++ .ref (base + b) :: rest) (hcat : (rest.map fun v => v.category).sum ≤ 8) (hdg : decode cc pc = .ok (.invokevirtual 41, 3)) (kk : ∀ (H1 : Heap) (locs1 : List Loc) (q : Addr) (ce : Cell), wo_S D cls cA base s w' H1 locs1 → H1[q]? = some ce → ce.vm = .none → s.vm.findClass E = some ce.cls → XW p l e R s m args below meth c H1 locs1 (cells + rx_a_analyse.cells) (slots + rx_a_analyse.slots) Q (F0 m pc ls rest) q) : W p l e R s m args below meth c H locs cells slots Q (F0 m pc ls st0) :=
  wo_xcallV (C := Rc_a) hx hb hml hown hts hK hG hW hM hkb rfl (gt_of (i := 885) (by decide +kernel) (by decide +kernel)) (gt_of (i := 886) (by decide +kernel) (by decide +kernel)) (gt_of (i := 887) (by decide +kernel) (by decide +kernel)) (gt_of (i := 1) (by decide +kernel) (by decide +kernel)) (gt_of (i := 888) (by decide +kernel) (by decide +kernel)) (by decide +kernel) hR hf hn hsz hst hcat hdg kk
abbrev b_lw_analyse : ByteArray := method_9_code
def y_lw_analyse : MethodName := ⟨"AlarmForgeLaw", "analyse", "(LAlarmForge;[J)I"⟩
def rm_lw_analyse : Room := { frames := 74, cells := 1, slots := 6, locals := 1982 }
def hh_lw_analyse : List (Nat × Nat × Nat × Nat) := [(0, 8, 11, 15)]
theorem d_lw_analyse_0 : decode b_lw_analyse 0 = .ok (.aload_n 1, 1) := by decide +kernel
theorem d_lw_analyse_1 : decode b_lw_analyse 1 = .ok (.iconst 0, 1) := by decide +kernel
theorem d_lw_analyse_2 : decode b_lw_analyse 2 = .ok (.aload_n 0, 1) := by decide +kernel
theorem d_lw_analyse_3 : decode b_lw_analyse 3 = .ok (.invokevirtual 41, 3) := by decide +kernel
theorem d_lw_analyse_6 : decode b_lw_analyse 6 = .ok (.i2l, 1) := by decide +kernel
theorem d_lw_analyse_7 : decode b_lw_analyse 7 = .ok (.lastore, 1) := by decide +kernel
theorem d_lw_analyse_8 : decode b_lw_analyse 8 = .ok (.goto (6), 3) := by decide +kernel
theorem d_lw_analyse_11 : decode b_lw_analyse 11 = .ok (.astore_n 2, 1) := by decide +kernel
theorem d_lw_analyse_12 : decode b_lw_analyse 12 = .ok (.iconst 1, 1) := by decide +kernel
theorem d_lw_analyse_13 : decode b_lw_analyse 13 = .ok (.ireturn, 1) := by decide +kernel
theorem d_lw_analyse_14 : decode b_lw_analyse 14 = .ok (.iconst 0, 1) := by decide +kernel
theorem d_lw_analyse_15 : decode b_lw_analyse 15 = .ok (.ireturn, 1) := by decide +kernel
set_option maxHeartbeats 4000000 in
set_option maxRecDepth 100000 in
theorem c_lw_analyse (l : Launch) (hst : l.stackTraces = false) (D : va_G) (cA : Nat → ClassId) (base : Nat) {a0 : Nat} {a1 : Nat} {w w' : WW} {r : Int32} (h : f_lw_analyse a0 a1 w = some (r, w')) : mt l D cls (wo_tys cA) cA base y_lw_analyse (Cond.codeWith y_lw_analyse b_lw_analyse 3 (some .int) hh_lw_analyse :: gt) rm_lw_analyse [.ref (base + a0), .ref (base + a1)] w (some (.int r)) w' rm_lw_analyse.cells rm_lw_analyse.slots := by
  refine mtW_start (by decide) (Nat.le_of_ble_eq_true rfl) ?_
  intro p e s m below meth c ls hx hb hr hml hown hts hlk hnm hK hG hW hl htab
  have C : cx b_lw_analyse (some .int) 3 y_lw_analyse.cls "analyse" p s m [.ref (base + a0), .ref (base + a1)].toArray meth c D cA base := ⟨hx, hb, hr, hml, hown, hts, hlk, hnm, hK, hG⟩
  have hl : lv_has ls 3 [(0, .ref (base + a0)), (1, .ref (base + a1))] := hl
  unfold f_lw_analyse at h
  refine lv_aload_n hx hb d_lw_analyse_0 rfl (lv_at hl 1 rfl) ?_
  refine lv_iconst (v := (0 : Int32)) hx hb d_lw_analyse_1 (by decide) ?_
  refine lv_aload_n hx hb d_lw_analyse_2 rfl (lv_at hl 0 rfl) ?_
  replace h := bhs h
  rcases h with ⟨x1, w2, hw2, h⟩ | ⟨X, w2, hw2, h⟩
  · refine cv_lw_41 (As := []) (rest := [.int (0 : Int32), .ref (base + a1)]) hx hb hml hown hts hK hG hW (c_a_analyse l D cA base hw2) (kb_a_analyse hw2) ⟨Nat.le_of_ble_eq_true rfl, Nat.le_of_ble_eq_true rfl⟩ ⟨Nat.le_of_ble_eq_true rfl, Nat.le_of_ble_eq_true rfl⟩ rfl hl.1 rfl (Nat.le_of_ble_eq_true rfl) d_lw_analyse_3 (fun H locs hW => ?_)
    refine lv_i2l hx hb d_lw_analyse_6 rfl ?_
    replace h := bs h
    obtain ⟨w3, hw3, h⟩ := h
    refine wo_last hx hb hK hW (t := 1) rfl hw3 d_lw_analyse_7 (fun H locs hW => ?_)
    refine lv_goto (tgt := 14) hx hb d_lw_analyse_8 (by decide) ?_
    refine lv_iconst (v := (0 : Int32)) hx hb d_lw_analyse_14 (by decide) ?_
    cases h
    refine W.widen (k := 1) (n := 6) (Nat.le_of_ble_eq_true rfl) (Nat.le_of_ble_eq_true rfl) ?_
    exact wo_iret hx hb hr hlk hW d_lw_analyse_15
  · by_cases c4 : X = "java/lang/IllegalStateException"
    · rw [if_pos c4] at h
      subst c4
      refine xv_lw_41 (As := []) (rest := [.int (0 : Int32), .ref (base + a1)]) hx hb hml hown hts hK hG hW (x_a_analyse l hst D cA base hw2) (kb_a_analyse hw2) ⟨Nat.le_of_ble_eq_true rfl, Nat.le_of_ble_eq_true rfl⟩ ⟨Nat.le_of_ble_eq_true rfl, Nat.le_of_ble_eq_true rfl⟩ rfl hl.1 rfl (Nat.le_of_ble_eq_true rfl) d_lw_analyse_3 (fun H locs q ce hW h1 h2 h3 => ?_)
      refine wo_catch (pre := []) (x := (0, 8, 11, 15)) (post := []) (name := "java/lang/IllegalStateException") hown htab rfl h1 h2 h3 (fun y hy => nomatch hy) (by decide) (by decide) (hts _ (gt_of (i := 384) (by decide +kernel) (by decide +kernel))) (va_Nw.use rfl (hG.1 _ (List.mem_of_getElem? (i := 462) (by decide +kernel)) rfl)) ?_
      refine lv_astore_n (lv' := [(2, .ref q), (0, .ref (base + a0)), (1, .ref (base + a1))]) hx hb d_lw_analyse_11 rfl hl (by decide) rfl (fun ls hl => ?_)
      refine lv_iconst (v := (1 : Int32)) hx hb d_lw_analyse_12 (by decide) ?_
      cases h
      refine W.widen (k := 1) (n := 6) (Nat.le_of_ble_eq_true rfl) (Nat.le_of_ble_eq_true rfl) ?_
      exact wo_iret hx hb hr hlk hW d_lw_analyse_13
    · rw [if_neg c4] at h
      cases h
theorem cv_lw_44 {p : Program} {l : Launch} {e : Env} {R : Room} {s : State} {m : MethodId} {args : Array Value} {below : List Frame} {meth : Method} {c : Code} {H : Heap} {locs : List Loc} {cells slots : Nat} {Q : State → Prop} {D : va_G} {cA : Nat → ClassId} {base : Nat} {w w' : WW} {cc : ByteArray} {pc nL : Nat} {ls : Array Slot} {rest st0 As : List Value} {ov : Option Value} {b : Nat} (hx : p.tables.exec = Jvm.exec) (hb : c.code = cc) (hml : c.maxLocals = nL) (hown : s.vm.findClass Rc_lw = some m.cls) (hts : ∀ w ∈ gt, w.before args s = true) (hK : va_K D cls (wo_tys cA) s) (hG : wo_G cA base s) (hW : wo_S D cls cA base s w H locs) (hM : mt l D cls (wo_tys cA) cA base y_a_warning (Cond.code y_a_warning b_a_warning 2 (some .int) :: gt) rm_a_warning (.ref (base + b) :: As) w ov w' rm_a_warning.cells rm_a_warning.slots) (hkb : kb w b 0 = true) (hR : rm_a_warning.frames + 1 ≤ R.frames ∧ 8 + (2 + 11) + rm_a_warning.locals ≤ R.locals) (hf : cells + rm_a_warning.cells ≤ R.cells ∧ slots + rm_a_warning.slots ≤ R.slots) (hn : As.length = 1) (hsz : ls.size = nL) (hst : st0 = As.reverse ++ .ref (base + b) :: rest) (hcat : (rest.map fun v => v.category).sum ≤ 8) (hdg : decode cc pc = .ok (.invokevirtual 44, 3)) (kk : ∀ (H1 : Heap) (locs1 : List Loc), wo_S D cls cA base s w' H1 locs1 → W p l e R s m args below meth c H1 locs1 (cells + rm_a_warning.cells) (slots + rm_a_warning.slots) Q (F0 m (pc + 3) ls (ov.toList ++ rest))) : W p l e R s m args below meth c H locs cells slots Q (F0 m pc ls st0) :=
  wo_callV (C := Rc_a) hx hb hml hown hts hK hG hW hM hkb rfl (gt_of (i := 1123) (by decide +kernel) (by decide +kernel)) (gt_of (i := 1124) (by decide +kernel) (by decide +kernel)) (gt_of (i := 1125) (by decide +kernel) (by decide +kernel)) (gt_of (i := 1) (by decide +kernel) (by decide +kernel)) (gt_of (i := 1126) (by decide +kernel) (by decide +kernel)) (by decide +kernel) hR hf hn hsz hst hcat hdg kk
theorem xv_lw_44 {p : Program} {l : Launch} {e : Env} {R : Room} {s : State} {m : MethodId} {args : Array Value} {below : List Frame} {meth : Method} {c : Code} {H : Heap} {locs : List Loc} {cells slots : Nat} {Q : State → Prop} {D : va_G} {cA : Nat → ClassId} {base : Nat} {w w' : WW} {cc : ByteArray} {pc nL : Nat} {ls : Array Slot} {rest st0 As : List Value} {E : String} {b : Nat} (hx : p.tables.exec = Jvm.exec) (hb : c.code = cc) (hml : c.maxLocals = nL) (hown : s.vm.findClass Rc_lw = some m.cls) (hts : ∀ w ∈ gt, w.before args s = true) (hK : va_K D cls (wo_tys cA) s) (hG : wo_G cA base s) (hW : wo_S D cls cA base s w H locs) (hM : xt l D cls (wo_tys cA) cA base y_a_warning (Cond.code y_a_warning b_a_warning 2 (some .int) :: gt) rx_a_warning (.ref (base + b) :: As) w E w' rx_a_warning.cells rx_a_warning.slots) (hkb : kb w b 0 = true) (hR : rx_a_warning.frames + 1 ≤ R.frames ∧ 8 + (2 + 11) + rx_a_warning.locals ≤ R.locals) (hf : cells + rx_a_warning.cells ≤ R.cells ∧ slots + rx_a_warning.slots ≤ R.slots) (hn : As.length = 1) (hsz : ls.size = nL) (hst : st0 = As.reverse ++ .ref (base + b) :: rest) (hcat : (rest.map fun v => v.category).sum ≤ 8) (hdg : decode cc pc = .ok (.invokevirtual 44, 3)) (kk : ∀ (H1 : Heap) (locs1 : List Loc) (q : Addr) (ce : Cell), wo_S D cls cA base s w' H1 locs1 → H1[q]? = some ce → ce.vm = .none → s.vm.findClass E = some ce.cls → XW p l e R s m args below meth c H1 locs1 (cells + rx_a_warning.cells) (slots + rx_a_warning.slots) Q (F0 m pc ls rest) q) : W p l e R s m args below meth c H locs cells slots Q (F0 m pc ls st0) :=
  wo_xcallV (C := Rc_a) hx hb hml hown hts hK hG hW hM hkb rfl (gt_of (i := 1123) (by decide +kernel) (by decide +kernel)) (gt_of (i := 1124) (by decide +kernel) (by decide +kernel)) (gt_of (i := 1125) (by decide +kernel) (by decide +kernel)) (gt_of (i := 1) (by decide +kernel) (by decide +kernel)) (gt_of (i := 1126) (by decide +kernel) (by decide +kernel)) (by decide +kernel) hR hf hn hsz hst hcat hdg kk
abbrev b_lw_warning : ByteArray := method_10_code
def y_lw_warning : MethodName := ⟨"AlarmForgeLaw", "warning", "(LAlarmForge;I[J)I"⟩
def rm_lw_warning : Room := { frames := 7, cells := 1, slots := 6, locals := 121 }
def hh_lw_warning : List (Nat × Nat × Nat × Nat) := [(0, 9, 12, 32)]
theorem d_lw_warning_0 : decode b_lw_warning 0 = .ok (.aload_n 2, 1) := by decide +kernel
theorem d_lw_warning_1 : decode b_lw_warning 1 = .ok (.iconst 0, 1) := by decide +kernel
theorem d_lw_warning_2 : decode b_lw_warning 2 = .ok (.aload_n 0, 1) := by decide +kernel
theorem d_lw_warning_3 : decode b_lw_warning 3 = .ok (.iload_n 1, 1) := by decide +kernel
theorem d_lw_warning_4 : decode b_lw_warning 4 = .ok (.invokevirtual 44, 3) := by decide +kernel
theorem d_lw_warning_7 : decode b_lw_warning 7 = .ok (.i2l, 1) := by decide +kernel
theorem d_lw_warning_8 : decode b_lw_warning 8 = .ok (.lastore, 1) := by decide +kernel
theorem d_lw_warning_9 : decode b_lw_warning 9 = .ok (.goto (6), 3) := by decide +kernel
theorem d_lw_warning_12 : decode b_lw_warning 12 = .ok (.astore_n 3, 1) := by decide +kernel
theorem d_lw_warning_13 : decode b_lw_warning 13 = .ok (.iconst 1, 1) := by decide +kernel
theorem d_lw_warning_14 : decode b_lw_warning 14 = .ok (.ireturn, 1) := by decide +kernel
theorem d_lw_warning_15 : decode b_lw_warning 15 = .ok (.iconst 0, 1) := by decide +kernel
theorem d_lw_warning_16 : decode b_lw_warning 16 = .ok (.ireturn, 1) := by decide +kernel
set_option maxHeartbeats 4000000 in
set_option maxRecDepth 100000 in
theorem c_lw_warning (l : Launch) (hst : l.stackTraces = false) (D : va_G) (cA : Nat → ClassId) (base : Nat) {a0 : Nat} {a1 : Int32} {a2 : Nat} {w w' : WW} {r : Int32} (h : f_lw_warning a0 a1 a2 w = some (r, w')) : mt l D cls (wo_tys cA) cA base y_lw_warning (Cond.codeWith y_lw_warning b_lw_warning 4 (some .int) hh_lw_warning :: gt) rm_lw_warning [.ref (base + a0), .int a1, .ref (base + a2)] w (some (.int r)) w' rm_lw_warning.cells rm_lw_warning.slots := by
  refine mtW_start (by decide) (Nat.le_of_ble_eq_true rfl) ?_
  intro p e s m below meth c ls hx hb hr hml hown hts hlk hnm hK hG hW hl htab
  have C : cx b_lw_warning (some .int) 4 y_lw_warning.cls "warning" p s m [.ref (base + a0), .int a1, .ref (base + a2)].toArray meth c D cA base := ⟨hx, hb, hr, hml, hown, hts, hlk, hnm, hK, hG⟩
  have hl : lv_has ls 4 [(0, .ref (base + a0)), (1, .int a1), (2, .ref (base + a2))] := hl
  unfold f_lw_warning at h
  refine lv_aload_n hx hb d_lw_warning_0 rfl (lv_at hl 2 rfl) ?_
  refine lv_iconst (v := (0 : Int32)) hx hb d_lw_warning_1 (by decide) ?_
  refine lv_aload_n hx hb d_lw_warning_2 rfl (lv_at hl 0 rfl) ?_
  refine lv_iload_n hx hb d_lw_warning_3 rfl (lv_at hl 1 rfl) ?_
  replace h := bhs h
  rcases h with ⟨x1, w2, hw2, h⟩ | ⟨X, w2, hw2, h⟩
  · refine cv_lw_44 (As := [.int a1]) (rest := [.int (0 : Int32), .ref (base + a2)]) hx hb hml hown hts hK hG hW (c_a_warning l D cA base hw2) (kb_a_warning hw2) ⟨Nat.le_of_ble_eq_true rfl, Nat.le_of_ble_eq_true rfl⟩ ⟨Nat.le_of_ble_eq_true rfl, Nat.le_of_ble_eq_true rfl⟩ rfl hl.1 rfl (Nat.le_of_ble_eq_true rfl) d_lw_warning_4 (fun H locs hW => ?_)
    refine lv_i2l hx hb d_lw_warning_7 rfl ?_
    replace h := bs h
    obtain ⟨w3, hw3, h⟩ := h
    refine wo_last hx hb hK hW (t := 1) rfl hw3 d_lw_warning_8 (fun H locs hW => ?_)
    refine lv_goto (tgt := 15) hx hb d_lw_warning_9 (by decide) ?_
    refine lv_iconst (v := (0 : Int32)) hx hb d_lw_warning_15 (by decide) ?_
    cases h
    refine W.widen (k := 1) (n := 6) (Nat.le_of_ble_eq_true rfl) (Nat.le_of_ble_eq_true rfl) ?_
    exact wo_iret hx hb hr hlk hW d_lw_warning_16
  · by_cases c4 : X = "java/lang/IndexOutOfBoundsException"
    · rw [if_pos c4] at h
      subst c4
      refine xv_lw_44 (As := [.int a1]) (rest := [.int (0 : Int32), .ref (base + a2)]) hx hb hml hown hts hK hG hW (x_a_warning l hst D cA base hw2) (kb_a_warning hw2) ⟨Nat.le_of_ble_eq_true rfl, Nat.le_of_ble_eq_true rfl⟩ ⟨Nat.le_of_ble_eq_true rfl, Nat.le_of_ble_eq_true rfl⟩ rfl hl.1 rfl (Nat.le_of_ble_eq_true rfl) d_lw_warning_4 (fun H locs q ce hW h1 h2 h3 => ?_)
      refine wo_catch (pre := []) (x := (0, 9, 12, 32)) (post := []) (name := "java/lang/IndexOutOfBoundsException") hown htab rfl h1 h2 h3 (fun y hy => nomatch hy) (by decide) (by decide) (hts _ (gt_of (i := 747) (by decide +kernel) (by decide +kernel))) (va_Nw.use rfl (hG.1 _ (List.mem_of_getElem? (i := 794) (by decide +kernel)) rfl)) ?_
      refine lv_astore_n (lv' := [(3, .ref q), (0, .ref (base + a0)), (1, .int a1), (2, .ref (base + a2))]) hx hb d_lw_warning_12 rfl hl (by decide) rfl (fun ls hl => ?_)
      refine lv_iconst (v := (1 : Int32)) hx hb d_lw_warning_13 (by decide) ?_
      cases h
      refine W.widen (k := 1) (n := 6) (Nat.le_of_ble_eq_true rfl) (Nat.le_of_ble_eq_true rfl) ?_
      exact wo_iret hx hb hr hlk hW d_lw_warning_14
    · rw [if_neg c4] at h
      cases h
theorem cv_lw_47 {p : Program} {l : Launch} {e : Env} {R : Room} {s : State} {m : MethodId} {args : Array Value} {below : List Frame} {meth : Method} {c : Code} {H : Heap} {locs : List Loc} {cells slots : Nat} {Q : State → Prop} {D : va_G} {cA : Nat → ClassId} {base : Nat} {w w' : WW} {cc : ByteArray} {pc nL : Nat} {ls : Array Slot} {rest st0 As : List Value} {ov : Option Value} {b : Nat} (hx : p.tables.exec = Jvm.exec) (hb : c.code = cc) (hml : c.maxLocals = nL) (hown : s.vm.findClass Rc_lw = some m.cls) (hts : ∀ w ∈ gt, w.before args s = true) (hK : va_K D cls (wo_tys cA) s) (hG : wo_G cA base s) (hW : wo_S D cls cA base s w H locs) (hM : mt l D cls (wo_tys cA) cA base y_a_left (Cond.code y_a_left b_a_left 7 (some .int) :: gt) rm_a_left (.ref (base + b) :: As) w ov w' rm_a_left.cells rm_a_left.slots) (hkb : kb w b 0 = true) (hR : rm_a_left.frames + 1 ≤ R.frames ∧ 8 + (7 + 11) + rm_a_left.locals ≤ R.locals) (hf : cells + rm_a_left.cells ≤ R.cells ∧ slots + rm_a_left.slots ≤ R.slots) (hn : As.length = 2) (hsz : ls.size = nL) (hst : st0 = As.reverse ++ .ref (base + b) :: rest) (hcat : (rest.map fun v => v.category).sum ≤ 8) (hdg : decode cc pc = .ok (.invokevirtual 47, 3)) (kk : ∀ (H1 : Heap) (locs1 : List Loc), wo_S D cls cA base s w' H1 locs1 → W p l e R s m args below meth c H1 locs1 (cells + rm_a_left.cells) (slots + rm_a_left.slots) Q (F0 m (pc + 3) ls (ov.toList ++ rest))) : W p l e R s m args below meth c H locs cells slots Q (F0 m pc ls st0) :=
  wo_callV (C := Rc_a) hx hb hml hown hts hK hG hW hM hkb rfl (gt_of (i := 1136) (by decide +kernel) (by decide +kernel)) (gt_of (i := 1137) (by decide +kernel) (by decide +kernel)) (gt_of (i := 1138) (by decide +kernel) (by decide +kernel)) (gt_of (i := 1) (by decide +kernel) (by decide +kernel)) (gt_of (i := 1139) (by decide +kernel) (by decide +kernel)) (by decide +kernel) hR hf hn hsz hst hcat hdg kk
theorem xv_lw_47 {p : Program} {l : Launch} {e : Env} {R : Room} {s : State} {m : MethodId} {args : Array Value} {below : List Frame} {meth : Method} {c : Code} {H : Heap} {locs : List Loc} {cells slots : Nat} {Q : State → Prop} {D : va_G} {cA : Nat → ClassId} {base : Nat} {w w' : WW} {cc : ByteArray} {pc nL : Nat} {ls : Array Slot} {rest st0 As : List Value} {E : String} {b : Nat} (hx : p.tables.exec = Jvm.exec) (hb : c.code = cc) (hml : c.maxLocals = nL) (hown : s.vm.findClass Rc_lw = some m.cls) (hts : ∀ w ∈ gt, w.before args s = true) (hK : va_K D cls (wo_tys cA) s) (hG : wo_G cA base s) (hW : wo_S D cls cA base s w H locs) (hM : xt l D cls (wo_tys cA) cA base y_a_left (Cond.code y_a_left b_a_left 7 (some .int) :: gt) rx_a_left (.ref (base + b) :: As) w E w' rx_a_left.cells rx_a_left.slots) (hkb : kb w b 0 = true) (hR : rx_a_left.frames + 1 ≤ R.frames ∧ 8 + (7 + 11) + rx_a_left.locals ≤ R.locals) (hf : cells + rx_a_left.cells ≤ R.cells ∧ slots + rx_a_left.slots ≤ R.slots) (hn : As.length = 2) (hsz : ls.size = nL) (hst : st0 = As.reverse ++ .ref (base + b) :: rest) (hcat : (rest.map fun v => v.category).sum ≤ 8) (hdg : decode cc pc = .ok (.invokevirtual 47, 3)) (kk : ∀ (H1 : Heap) (locs1 : List Loc) (q : Addr) (ce : Cell), wo_S D cls cA base s w' H1 locs1 → H1[q]? = some ce → ce.vm = .none → s.vm.findClass E = some ce.cls → XW p l e R s m args below meth c H1 locs1 (cells + rx_a_left.cells) (slots + rx_a_left.slots) Q (F0 m pc ls rest) q) : W p l e R s m args below meth c H locs cells slots Q (F0 m pc ls st0) :=
  wo_xcallV (C := Rc_a) hx hb hml hown hts hK hG hW hM hkb rfl (gt_of (i := 1136) (by decide +kernel) (by decide +kernel)) (gt_of (i := 1137) (by decide +kernel) (by decide +kernel)) (gt_of (i := 1138) (by decide +kernel) (by decide +kernel)) (gt_of (i := 1) (by decide +kernel) (by decide +kernel)) (gt_of (i := 1139) (by decide +kernel) (by decide +kernel)) (by decide +kernel) hR hf hn hsz hst hcat hdg kk
abbrev b_lw_left : ByteArray := method_11_code
def y_lw_left : MethodName := ⟨"AlarmForgeLaw", "left", "(LAlarmForge;II[J)I"⟩
def rm_lw_left : Room := { frames := 7, cells := 1, slots := 6, locals := 126 }
def hh_lw_left : List (Nat × Nat × Nat × Nat) := [(0, 10, 13, 13), (0, 10, 17, 32), (0, 10, 21, 15), (0, 10, 25, 36)]
theorem d_lw_left_0 : decode b_lw_left 0 = .ok (.aload_n 3, 1) := by decide +kernel
theorem d_lw_left_1 : decode b_lw_left 1 = .ok (.iconst 0, 1) := by decide +kernel
theorem d_lw_left_2 : decode b_lw_left 2 = .ok (.aload_n 0, 1) := by decide +kernel
theorem d_lw_left_3 : decode b_lw_left 3 = .ok (.iload_n 1, 1) := by decide +kernel
theorem d_lw_left_4 : decode b_lw_left 4 = .ok (.iload_n 2, 1) := by decide +kernel
theorem d_lw_left_5 : decode b_lw_left 5 = .ok (.invokevirtual 47, 3) := by decide +kernel
theorem d_lw_left_8 : decode b_lw_left 8 = .ok (.i2l, 1) := by decide +kernel
theorem d_lw_left_9 : decode b_lw_left 9 = .ok (.lastore, 1) := by decide +kernel
theorem d_lw_left_10 : decode b_lw_left 10 = .ok (.goto (19), 3) := by decide +kernel
theorem d_lw_left_13 : decode b_lw_left 13 = .ok (.astore 4, 2) := by decide +kernel
theorem d_lw_left_15 : decode b_lw_left 15 = .ok (.iconst 1, 1) := by decide +kernel
theorem d_lw_left_16 : decode b_lw_left 16 = .ok (.ireturn, 1) := by decide +kernel
theorem d_lw_left_17 : decode b_lw_left 17 = .ok (.astore 4, 2) := by decide +kernel
theorem d_lw_left_19 : decode b_lw_left 19 = .ok (.iconst 2, 1) := by decide +kernel
theorem d_lw_left_20 : decode b_lw_left 20 = .ok (.ireturn, 1) := by decide +kernel
theorem d_lw_left_21 : decode b_lw_left 21 = .ok (.astore 4, 2) := by decide +kernel
theorem d_lw_left_23 : decode b_lw_left 23 = .ok (.iconst 3, 1) := by decide +kernel
theorem d_lw_left_24 : decode b_lw_left 24 = .ok (.ireturn, 1) := by decide +kernel
theorem d_lw_left_25 : decode b_lw_left 25 = .ok (.astore 4, 2) := by decide +kernel
theorem d_lw_left_27 : decode b_lw_left 27 = .ok (.iconst 4, 1) := by decide +kernel
theorem d_lw_left_28 : decode b_lw_left 28 = .ok (.ireturn, 1) := by decide +kernel
theorem d_lw_left_29 : decode b_lw_left 29 = .ok (.iconst 0, 1) := by decide +kernel
theorem d_lw_left_30 : decode b_lw_left 30 = .ok (.ireturn, 1) := by decide +kernel
set_option maxHeartbeats 4000000 in
set_option maxRecDepth 100000 in
theorem c_lw_left (l : Launch) (hst : l.stackTraces = false) (D : va_G) (cA : Nat → ClassId) (base : Nat) {a0 : Nat} {a1 : Int32} {a2 : Int32} {a3 : Nat} {w w' : WW} {r : Int32} (h : f_lw_left a0 a1 a2 a3 w = some (r, w')) : mt l D cls (wo_tys cA) cA base y_lw_left (Cond.codeWith y_lw_left b_lw_left 5 (some .int) hh_lw_left :: gt) rm_lw_left [.ref (base + a0), .int a1, .int a2, .ref (base + a3)] w (some (.int r)) w' rm_lw_left.cells rm_lw_left.slots := by
  refine mtW_start (by decide) (Nat.le_of_ble_eq_true rfl) ?_
  intro p e s m below meth c ls hx hb hr hml hown hts hlk hnm hK hG hW hl htab
  have C : cx b_lw_left (some .int) 5 y_lw_left.cls "left" p s m [.ref (base + a0), .int a1, .int a2, .ref (base + a3)].toArray meth c D cA base := ⟨hx, hb, hr, hml, hown, hts, hlk, hnm, hK, hG⟩
  have hl : lv_has ls 5 [(0, .ref (base + a0)), (1, .int a1), (2, .int a2), (3, .ref (base + a3))] := hl
  unfold f_lw_left at h
  refine lv_aload_n hx hb d_lw_left_0 rfl (lv_at hl 3 rfl) ?_
  refine lv_iconst (v := (0 : Int32)) hx hb d_lw_left_1 (by decide) ?_
  refine lv_aload_n hx hb d_lw_left_2 rfl (lv_at hl 0 rfl) ?_
  refine lv_iload_n hx hb d_lw_left_3 rfl (lv_at hl 1 rfl) ?_
  refine lv_iload_n hx hb d_lw_left_4 rfl (lv_at hl 2 rfl) ?_
  replace h := bhs h
  rcases h with ⟨x1, w2, hw2, h⟩ | ⟨X, w2, hw2, h⟩
  · refine cv_lw_47 (As := [.int a1, .int a2]) (rest := [.int (0 : Int32), .ref (base + a3)]) hx hb hml hown hts hK hG hW (c_a_left l D cA base hw2) (kb_a_left hw2) ⟨Nat.le_of_ble_eq_true rfl, Nat.le_of_ble_eq_true rfl⟩ ⟨Nat.le_of_ble_eq_true rfl, Nat.le_of_ble_eq_true rfl⟩ rfl hl.1 rfl (Nat.le_of_ble_eq_true rfl) d_lw_left_5 (fun H locs hW => ?_)
    refine lv_i2l hx hb d_lw_left_8 rfl ?_
    replace h := bs h
    obtain ⟨w3, hw3, h⟩ := h
    refine wo_last hx hb hK hW (t := 1) rfl hw3 d_lw_left_9 (fun H locs hW => ?_)
    refine lv_goto (tgt := 29) hx hb d_lw_left_10 (by decide) ?_
    refine lv_iconst (v := (0 : Int32)) hx hb d_lw_left_29 (by decide) ?_
    cases h
    refine W.widen (k := 1) (n := 6) (Nat.le_of_ble_eq_true rfl) (Nat.le_of_ble_eq_true rfl) ?_
    exact wo_iret hx hb hr hlk hW d_lw_left_30
  · by_cases c4 : X = "java/lang/IllegalArgumentException"
    · rw [if_pos c4] at h
      subst c4
      refine xv_lw_47 (As := [.int a1, .int a2]) (rest := [.int (0 : Int32), .ref (base + a3)]) hx hb hml hown hts hK hG hW (x_a_left l hst D cA base hw2) (kb_a_left hw2) ⟨Nat.le_of_ble_eq_true rfl, Nat.le_of_ble_eq_true rfl⟩ ⟨Nat.le_of_ble_eq_true rfl, Nat.le_of_ble_eq_true rfl⟩ rfl hl.1 rfl (Nat.le_of_ble_eq_true rfl) d_lw_left_5 (fun H locs q ce hW h1 h2 h3 => ?_)
      refine wo_catch (pre := []) (x := (0, 10, 13, 13)) (post := [(0, 10, 17, 32), (0, 10, 21, 15), (0, 10, 25, 36)]) (name := "java/lang/IllegalArgumentException") hown htab rfl h1 h2 h3 (fun y hy => nomatch hy) (by decide) (by decide) (hts _ (gt_of (i := 383) (by decide +kernel) (by decide +kernel))) (va_Nw.use rfl (hG.1 _ (List.mem_of_getElem? (i := 397) (by decide +kernel)) rfl)) ?_
      refine lv_astore (lv' := [(4, .ref q), (0, .ref (base + a0)), (1, .int a1), (2, .int a2), (3, .ref (base + a3))]) hx hb d_lw_left_13 hl (by decide) rfl (fun ls hl => ?_)
      refine lv_iconst (v := (1 : Int32)) hx hb d_lw_left_15 (by decide) ?_
      cases h
      refine W.widen (k := 1) (n := 6) (Nat.le_of_ble_eq_true rfl) (Nat.le_of_ble_eq_true rfl) ?_
      exact wo_iret hx hb hr hlk hW d_lw_left_16
    · rw [if_neg c4] at h
      by_cases c5 : X = "java/lang/IndexOutOfBoundsException"
      · rw [if_pos c5] at h
        subst c5
        refine xv_lw_47 (As := [.int a1, .int a2]) (rest := [.int (0 : Int32), .ref (base + a3)]) hx hb hml hown hts hK hG hW (x_a_left l hst D cA base hw2) (kb_a_left hw2) ⟨Nat.le_of_ble_eq_true rfl, Nat.le_of_ble_eq_true rfl⟩ ⟨Nat.le_of_ble_eq_true rfl, Nat.le_of_ble_eq_true rfl⟩ rfl hl.1 rfl (Nat.le_of_ble_eq_true rfl) d_lw_left_5 (fun H locs q ce hW h1 h2 h3 => ?_)
        refine wo_catch (pre := [(0, 10, 13, 13)]) (x := (0, 10, 17, 32)) (post := [(0, 10, 21, 15), (0, 10, 25, 36)]) (name := "java/lang/IndexOutOfBoundsException") hown htab rfl h1 h2 h3 (by
      intro y hy
      simp only [List.mem_cons, List.not_mem_nil, or_false] at hy
      rcases hy with rfl
      · exact ⟨by decide, by decide, "java/lang/IllegalArgumentException", hts _ (gt_of (i := 383) (by decide +kernel) (by decide +kernel)), wo_no_of hG (by decide +kernel)⟩) (by decide) (by decide) (hts _ (gt_of (i := 747) (by decide +kernel) (by decide +kernel))) (va_Nw.use rfl (hG.1 _ (List.mem_of_getElem? (i := 794) (by decide +kernel)) rfl)) ?_
        refine lv_astore (lv' := [(4, .ref q), (0, .ref (base + a0)), (1, .int a1), (2, .int a2), (3, .ref (base + a3))]) hx hb d_lw_left_17 hl (by decide) rfl (fun ls hl => ?_)
        refine lv_iconst (v := (2 : Int32)) hx hb d_lw_left_19 (by decide) ?_
        cases h
        refine W.widen (k := 1) (n := 6) (Nat.le_of_ble_eq_true rfl) (Nat.le_of_ble_eq_true rfl) ?_
        exact wo_iret hx hb hr hlk hW d_lw_left_20
      · rw [if_neg c5] at h
        by_cases c6 : X = "java/lang/IllegalStateException"
        · rw [if_pos c6] at h
          subst c6
          refine xv_lw_47 (As := [.int a1, .int a2]) (rest := [.int (0 : Int32), .ref (base + a3)]) hx hb hml hown hts hK hG hW (x_a_left l hst D cA base hw2) (kb_a_left hw2) ⟨Nat.le_of_ble_eq_true rfl, Nat.le_of_ble_eq_true rfl⟩ ⟨Nat.le_of_ble_eq_true rfl, Nat.le_of_ble_eq_true rfl⟩ rfl hl.1 rfl (Nat.le_of_ble_eq_true rfl) d_lw_left_5 (fun H locs q ce hW h1 h2 h3 => ?_)
          refine wo_catch (pre := [(0, 10, 13, 13), (0, 10, 17, 32)]) (x := (0, 10, 21, 15)) (post := [(0, 10, 25, 36)]) (name := "java/lang/IllegalStateException") hown htab rfl h1 h2 h3 (by
      intro y hy
      simp only [List.mem_cons, List.not_mem_nil, or_false] at hy
      rcases hy with rfl | rfl
      · exact ⟨by decide, by decide, "java/lang/IllegalArgumentException", hts _ (gt_of (i := 383) (by decide +kernel) (by decide +kernel)), wo_no_of hG (by decide +kernel)⟩
      · exact ⟨by decide, by decide, "java/lang/IndexOutOfBoundsException", hts _ (gt_of (i := 747) (by decide +kernel) (by decide +kernel)), wo_no_of hG (by decide +kernel)⟩) (by decide) (by decide) (hts _ (gt_of (i := 384) (by decide +kernel) (by decide +kernel))) (va_Nw.use rfl (hG.1 _ (List.mem_of_getElem? (i := 462) (by decide +kernel)) rfl)) ?_
          refine lv_astore (lv' := [(4, .ref q), (0, .ref (base + a0)), (1, .int a1), (2, .int a2), (3, .ref (base + a3))]) hx hb d_lw_left_21 hl (by decide) rfl (fun ls hl => ?_)
          refine lv_iconst (v := (3 : Int32)) hx hb d_lw_left_23 (by decide) ?_
          cases h
          refine W.widen (k := 1) (n := 6) (Nat.le_of_ble_eq_true rfl) (Nat.le_of_ble_eq_true rfl) ?_
          exact wo_iret hx hb hr hlk hW d_lw_left_24
        · rw [if_neg c6] at h
          by_cases c7 : X = "java/lang/UnsupportedOperationException"
          · rw [if_pos c7] at h
            subst c7
            refine xv_lw_47 (As := [.int a1, .int a2]) (rest := [.int (0 : Int32), .ref (base + a3)]) hx hb hml hown hts hK hG hW (x_a_left l hst D cA base hw2) (kb_a_left hw2) ⟨Nat.le_of_ble_eq_true rfl, Nat.le_of_ble_eq_true rfl⟩ ⟨Nat.le_of_ble_eq_true rfl, Nat.le_of_ble_eq_true rfl⟩ rfl hl.1 rfl (Nat.le_of_ble_eq_true rfl) d_lw_left_5 (fun H locs q ce hW h1 h2 h3 => ?_)
            refine wo_catch (pre := [(0, 10, 13, 13), (0, 10, 17, 32), (0, 10, 21, 15)]) (x := (0, 10, 25, 36)) (post := []) (name := "java/lang/UnsupportedOperationException") hown htab rfl h1 h2 h3 (by
      intro y hy
      simp only [List.mem_cons, List.not_mem_nil, or_false] at hy
      rcases hy with rfl | rfl | rfl
      · exact ⟨by decide, by decide, "java/lang/IllegalArgumentException", hts _ (gt_of (i := 383) (by decide +kernel) (by decide +kernel)), wo_no_of hG (by decide +kernel)⟩
      · exact ⟨by decide, by decide, "java/lang/IndexOutOfBoundsException", hts _ (gt_of (i := 747) (by decide +kernel) (by decide +kernel)), wo_no_of hG (by decide +kernel)⟩
      · exact ⟨by decide, by decide, "java/lang/IllegalStateException", hts _ (gt_of (i := 384) (by decide +kernel) (by decide +kernel)), wo_no_of hG (by decide +kernel)⟩) (by decide) (by decide) (hts _ (gt_of (i := 749) (by decide +kernel) (by decide +kernel))) (va_Nw.use rfl (hG.1 _ (List.mem_of_getElem? (i := 809) (by decide +kernel)) rfl)) ?_
            refine lv_astore (lv' := [(4, .ref q), (0, .ref (base + a0)), (1, .int a1), (2, .int a2), (3, .ref (base + a3))]) hx hb d_lw_left_25 hl (by decide) rfl (fun ls hl => ?_)
            refine lv_iconst (v := (4 : Int32)) hx hb d_lw_left_27 (by decide) ?_
            cases h
            refine W.widen (k := 1) (n := 6) (Nat.le_of_ble_eq_true rfl) (Nat.le_of_ble_eq_true rfl) ?_
            exact wo_iret hx hb hr hlk hW d_lw_left_28
          · rw [if_neg c7] at h
            cases h
theorem cv_lw_50 {p : Program} {l : Launch} {e : Env} {R : Room} {s : State} {m : MethodId} {args : Array Value} {below : List Frame} {meth : Method} {c : Code} {H : Heap} {locs : List Loc} {cells slots : Nat} {Q : State → Prop} {D : va_G} {cA : Nat → ClassId} {base : Nat} {w w' : WW} {cc : ByteArray} {pc nL : Nat} {ls : Array Slot} {rest st0 As : List Value} {ov : Option Value} {b : Nat} (hx : p.tables.exec = Jvm.exec) (hb : c.code = cc) (hml : c.maxLocals = nL) (hown : s.vm.findClass Rc_lw = some m.cls) (hts : ∀ w ∈ gt, w.before args s = true) (hK : va_K D cls (wo_tys cA) s) (hG : wo_G cA base s) (hW : wo_S D cls cA base s w H locs) (hM : mt l D cls (wo_tys cA) cA base y_a_count (Cond.code y_a_count b_a_count 2 (some .int) :: gt) rm_a_count (.ref (base + b) :: As) w ov w' rm_a_count.cells rm_a_count.slots) (hkb : kb w b 0 = true) (hR : rm_a_count.frames + 1 ≤ R.frames ∧ 8 + (2 + 11) + rm_a_count.locals ≤ R.locals) (hf : cells + rm_a_count.cells ≤ R.cells ∧ slots + rm_a_count.slots ≤ R.slots) (hn : As.length = 1) (hsz : ls.size = nL) (hst : st0 = As.reverse ++ .ref (base + b) :: rest) (hcat : (rest.map fun v => v.category).sum ≤ 8) (hdg : decode cc pc = .ok (.invokevirtual 50, 3)) (kk : ∀ (H1 : Heap) (locs1 : List Loc), wo_S D cls cA base s w' H1 locs1 → W p l e R s m args below meth c H1 locs1 (cells + rm_a_count.cells) (slots + rm_a_count.slots) Q (F0 m (pc + 3) ls (ov.toList ++ rest))) : W p l e R s m args below meth c H locs cells slots Q (F0 m pc ls st0) :=
  wo_callV (C := Rc_a) hx hb hml hown hts hK hG hW hM hkb rfl (gt_of (i := 1149) (by decide +kernel) (by decide +kernel)) (gt_of (i := 1150) (by decide +kernel) (by decide +kernel)) (gt_of (i := 1151) (by decide +kernel) (by decide +kernel)) (gt_of (i := 1) (by decide +kernel) (by decide +kernel)) (gt_of (i := 1152) (by decide +kernel) (by decide +kernel)) (by decide +kernel) hR hf hn hsz hst hcat hdg kk
theorem xv_lw_50 {p : Program} {l : Launch} {e : Env} {R : Room} {s : State} {m : MethodId} {args : Array Value} {below : List Frame} {meth : Method} {c : Code} {H : Heap} {locs : List Loc} {cells slots : Nat} {Q : State → Prop} {D : va_G} {cA : Nat → ClassId} {base : Nat} {w w' : WW} {cc : ByteArray} {pc nL : Nat} {ls : Array Slot} {rest st0 As : List Value} {E : String} {b : Nat} (hx : p.tables.exec = Jvm.exec) (hb : c.code = cc) (hml : c.maxLocals = nL) (hown : s.vm.findClass Rc_lw = some m.cls) (hts : ∀ w ∈ gt, w.before args s = true) (hK : va_K D cls (wo_tys cA) s) (hG : wo_G cA base s) (hW : wo_S D cls cA base s w H locs) (hM : xt l D cls (wo_tys cA) cA base y_a_count (Cond.code y_a_count b_a_count 2 (some .int) :: gt) rx_a_count (.ref (base + b) :: As) w E w' rx_a_count.cells rx_a_count.slots) (hkb : kb w b 0 = true) (hR : rx_a_count.frames + 1 ≤ R.frames ∧ 8 + (2 + 11) + rx_a_count.locals ≤ R.locals) (hf : cells + rx_a_count.cells ≤ R.cells ∧ slots + rx_a_count.slots ≤ R.slots) (hn : As.length = 1) (hsz : ls.size = nL) (hst : st0 = As.reverse ++ .ref (base + b) :: rest) (hcat : (rest.map fun v => v.category).sum ≤ 8) (hdg : decode cc pc = .ok (.invokevirtual 50, 3)) (kk : ∀ (H1 : Heap) (locs1 : List Loc) (q : Addr) (ce : Cell), wo_S D cls cA base s w' H1 locs1 → H1[q]? = some ce → ce.vm = .none → s.vm.findClass E = some ce.cls → XW p l e R s m args below meth c H1 locs1 (cells + rx_a_count.cells) (slots + rx_a_count.slots) Q (F0 m pc ls rest) q) : W p l e R s m args below meth c H locs cells slots Q (F0 m pc ls st0) :=
  wo_xcallV (C := Rc_a) hx hb hml hown hts hK hG hW hM hkb rfl (gt_of (i := 1149) (by decide +kernel) (by decide +kernel)) (gt_of (i := 1150) (by decide +kernel) (by decide +kernel)) (gt_of (i := 1151) (by decide +kernel) (by decide +kernel)) (gt_of (i := 1) (by decide +kernel) (by decide +kernel)) (gt_of (i := 1152) (by decide +kernel) (by decide +kernel)) (by decide +kernel) hR hf hn hsz hst hcat hdg kk
abbrev b_lw_count : ByteArray := method_12_code
def y_lw_count : MethodName := ⟨"AlarmForgeLaw", "count", "(LAlarmForge;I[J)I"⟩
def rm_lw_count : Room := { frames := 7, cells := 1, slots := 6, locals := 121 }
def hh_lw_count : List (Nat × Nat × Nat × Nat) := [(0, 9, 12, 13)]
theorem d_lw_count_0 : decode b_lw_count 0 = .ok (.aload_n 2, 1) := by decide +kernel
theorem d_lw_count_1 : decode b_lw_count 1 = .ok (.iconst 0, 1) := by decide +kernel
theorem d_lw_count_2 : decode b_lw_count 2 = .ok (.aload_n 0, 1) := by decide +kernel
theorem d_lw_count_3 : decode b_lw_count 3 = .ok (.iload_n 1, 1) := by decide +kernel
theorem d_lw_count_4 : decode b_lw_count 4 = .ok (.invokevirtual 50, 3) := by decide +kernel
theorem d_lw_count_7 : decode b_lw_count 7 = .ok (.i2l, 1) := by decide +kernel
theorem d_lw_count_8 : decode b_lw_count 8 = .ok (.lastore, 1) := by decide +kernel
theorem d_lw_count_9 : decode b_lw_count 9 = .ok (.goto (6), 3) := by decide +kernel
theorem d_lw_count_12 : decode b_lw_count 12 = .ok (.astore_n 3, 1) := by decide +kernel
theorem d_lw_count_13 : decode b_lw_count 13 = .ok (.iconst 1, 1) := by decide +kernel
theorem d_lw_count_14 : decode b_lw_count 14 = .ok (.ireturn, 1) := by decide +kernel
theorem d_lw_count_15 : decode b_lw_count 15 = .ok (.iconst 0, 1) := by decide +kernel
theorem d_lw_count_16 : decode b_lw_count 16 = .ok (.ireturn, 1) := by decide +kernel
set_option maxHeartbeats 4000000 in
set_option maxRecDepth 100000 in
theorem c_lw_count (l : Launch) (hst : l.stackTraces = false) (D : va_G) (cA : Nat → ClassId) (base : Nat) {a0 : Nat} {a1 : Int32} {a2 : Nat} {w w' : WW} {r : Int32} (h : f_lw_count a0 a1 a2 w = some (r, w')) : mt l D cls (wo_tys cA) cA base y_lw_count (Cond.codeWith y_lw_count b_lw_count 4 (some .int) hh_lw_count :: gt) rm_lw_count [.ref (base + a0), .int a1, .ref (base + a2)] w (some (.int r)) w' rm_lw_count.cells rm_lw_count.slots := by
  refine mtW_start (by decide) (Nat.le_of_ble_eq_true rfl) ?_
  intro p e s m below meth c ls hx hb hr hml hown hts hlk hnm hK hG hW hl htab
  have C : cx b_lw_count (some .int) 4 y_lw_count.cls "count" p s m [.ref (base + a0), .int a1, .ref (base + a2)].toArray meth c D cA base := ⟨hx, hb, hr, hml, hown, hts, hlk, hnm, hK, hG⟩
  have hl : lv_has ls 4 [(0, .ref (base + a0)), (1, .int a1), (2, .ref (base + a2))] := hl
  unfold f_lw_count at h
  refine lv_aload_n hx hb d_lw_count_0 rfl (lv_at hl 2 rfl) ?_
  refine lv_iconst (v := (0 : Int32)) hx hb d_lw_count_1 (by decide) ?_
  refine lv_aload_n hx hb d_lw_count_2 rfl (lv_at hl 0 rfl) ?_
  refine lv_iload_n hx hb d_lw_count_3 rfl (lv_at hl 1 rfl) ?_
  replace h := bhs h
  rcases h with ⟨x1, w2, hw2, h⟩ | ⟨X, w2, hw2, h⟩
  · refine cv_lw_50 (As := [.int a1]) (rest := [.int (0 : Int32), .ref (base + a2)]) hx hb hml hown hts hK hG hW (c_a_count l D cA base hw2) (kb_a_count hw2) ⟨Nat.le_of_ble_eq_true rfl, Nat.le_of_ble_eq_true rfl⟩ ⟨Nat.le_of_ble_eq_true rfl, Nat.le_of_ble_eq_true rfl⟩ rfl hl.1 rfl (Nat.le_of_ble_eq_true rfl) d_lw_count_4 (fun H locs hW => ?_)
    refine lv_i2l hx hb d_lw_count_7 rfl ?_
    replace h := bs h
    obtain ⟨w3, hw3, h⟩ := h
    refine wo_last hx hb hK hW (t := 1) rfl hw3 d_lw_count_8 (fun H locs hW => ?_)
    refine lv_goto (tgt := 15) hx hb d_lw_count_9 (by decide) ?_
    refine lv_iconst (v := (0 : Int32)) hx hb d_lw_count_15 (by decide) ?_
    cases h
    refine W.widen (k := 1) (n := 6) (Nat.le_of_ble_eq_true rfl) (Nat.le_of_ble_eq_true rfl) ?_
    exact wo_iret hx hb hr hlk hW d_lw_count_16
  · by_cases c4 : X = "java/lang/IllegalArgumentException"
    · rw [if_pos c4] at h
      subst c4
      refine xv_lw_50 (As := [.int a1]) (rest := [.int (0 : Int32), .ref (base + a2)]) hx hb hml hown hts hK hG hW (x_a_count l hst D cA base hw2) (kb_a_count hw2) ⟨Nat.le_of_ble_eq_true rfl, Nat.le_of_ble_eq_true rfl⟩ ⟨Nat.le_of_ble_eq_true rfl, Nat.le_of_ble_eq_true rfl⟩ rfl hl.1 rfl (Nat.le_of_ble_eq_true rfl) d_lw_count_4 (fun H locs q ce hW h1 h2 h3 => ?_)
      refine wo_catch (pre := []) (x := (0, 9, 12, 13)) (post := []) (name := "java/lang/IllegalArgumentException") hown htab rfl h1 h2 h3 (fun y hy => nomatch hy) (by decide) (by decide) (hts _ (gt_of (i := 383) (by decide +kernel) (by decide +kernel))) (va_Nw.use rfl (hG.1 _ (List.mem_of_getElem? (i := 397) (by decide +kernel)) rfl)) ?_
      refine lv_astore_n (lv' := [(3, .ref q), (0, .ref (base + a0)), (1, .int a1), (2, .ref (base + a2))]) hx hb d_lw_count_12 rfl hl (by decide) rfl (fun ls hl => ?_)
      refine lv_iconst (v := (1 : Int32)) hx hb d_lw_count_13 (by decide) ?_
      cases h
      refine W.widen (k := 1) (n := 6) (Nat.le_of_ble_eq_true rfl) (Nat.le_of_ble_eq_true rfl) ?_
      exact wo_iret hx hb hr hlk hW d_lw_count_14
    · rw [if_neg c4] at h
      cases h
