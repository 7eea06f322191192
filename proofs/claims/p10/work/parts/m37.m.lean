/-! Methods as functions, and their contracts (by wip/gen/run.py). -/
theorem cv_ru_39 {p : Program} {l : Launch} {e : Env} {R : Room} {s : State} {m : MethodId} {args : Array Value} {below : List Frame} {meth : Method} {c : Code} {H : Heap} {locs : List Loc} {cells slots : Nat} {Q : State → Prop} {D : va_G} {cA : Nat → ClassId} {base : Nat} {w w' : WW} {cc : ByteArray} {pc nL : Nat} {ls : Array Slot} {rest st0 As : List Value} {ov : Option Value} {b : Nat} (hx : p.tables.exec = Jvm.exec) (hb : c.code = cc) (hml : c.maxLocals = nL) (hown : s.vm.findClass Rc_ru = some m.cls) (hts : ∀ w ∈ gt, w.before args s = true) (hK : va_K D cls (wo_tys cA) s) (hG : wo_G cA base s) (hW : wo_S D cls cA base s w H locs) (hM : mt l D cls (wo_tys cA) cA base y_ru_begin (Cond.code y_ru_begin b_ru_begin 2 (none) :: gt) rm_ru_begin (.ref (base + b) :: As) w ov w' rm_ru_begin.cells rm_ru_begin.slots) (hkb : kb w b 5 = true) (hR : rm_ru_begin.frames + 1 ≤ R.frames ∧ 8 + (2 + 11) + rm_ru_begin.locals ≤ R.locals) (hf : cells + rm_ru_begin.cells ≤ R.cells ∧ slots + rm_ru_begin.slots ≤ R.slots) (hn : As.length = 0) (hsz : ls.size = nL) (hst : st0 = As.reverse ++ .ref (base + b) :: rest) (hcat : (rest.map fun v => v.category).sum ≤ 8) (hdg : decode cc pc = .ok (.invokevirtual 39, 3)) (kk : ∀ (H1 : Heap) (locs1 : List Loc), wo_S D cls cA base s w' H1 locs1 → W p l e R s m args below meth c H1 locs1 (cells + rm_ru_begin.cells) (slots + rm_ru_begin.slots) Q (F0 m (pc + 3) ls (ov.toList ++ rest))) : W p l e R s m args below meth c H locs cells slots Q (F0 m pc ls st0) :=
  wo_callV (C := Rc_ru) hx hb hml hown hts hK hG hW hM hkb rfl (gt_of (i := 758) (by decide +kernel) (by decide +kernel)) (gt_of (i := 760) (by decide +kernel) (by decide +kernel)) (gt_sel (i := 21) (by decide +kernel) (by decide +kernel)) (gt_of (i := 6) (by decide +kernel) (by decide +kernel)) (gt_of (i := 761) (by decide +kernel) (by decide +kernel)) (by decide +kernel) hR hf hn hsz hst hcat hdg kk
abbrev b_ru_doProgram : ByteArray := prog_6_method_3_code
def y_ru_doProgram : MethodName := ⟨"AlarmForge$Runner", "doProgram", "(LAlarmForge$Program;I)Z"⟩
def rm_ru_doProgram : Room := { frames := 76, cells := 0, slots := 0, locals := 1717 }
def rx_ru_doProgram : Room := { frames := 76, cells := 1, slots := 6, locals := 1717 }
theorem d_ru_doProgram_0 : decode b_ru_doProgram 0 = .ok (.aload_n 0, 1) := by decide +kernel
theorem d_ru_doProgram_1 : decode b_ru_doProgram 1 = .ok (.aload_n 1, 1) := by decide +kernel
theorem d_ru_doProgram_2 : decode b_ru_doProgram 2 = .ok (.putfield 32, 3) := by decide +kernel
theorem d_ru_doProgram_5 : decode b_ru_doProgram 5 = .ok (.aload_n 0, 1) := by decide +kernel
theorem d_ru_doProgram_6 : decode b_ru_doProgram 6 = .ok (.iload_n 2, 1) := by decide +kernel
theorem d_ru_doProgram_7 : decode b_ru_doProgram 7 = .ok (.putfield 36, 3) := by decide +kernel
theorem d_ru_doProgram_10 : decode b_ru_doProgram 10 = .ok (.aload_n 0, 1) := by decide +kernel
theorem d_ru_doProgram_11 : decode b_ru_doProgram 11 = .ok (.invokevirtual 39, 3) := by decide +kernel
theorem d_ru_doProgram_14 : decode b_ru_doProgram 14 = .ok (.aload_n 0, 1) := by decide +kernel
theorem d_ru_doProgram_15 : decode b_ru_doProgram 15 = .ok (.aload_n 0, 1) := by decide +kernel
theorem d_ru_doProgram_16 : decode b_ru_doProgram 16 = .ok (.getfield 32, 3) := by decide +kernel
theorem d_ru_doProgram_19 : decode b_ru_doProgram 19 = .ok (.getfield 42, 3) := by decide +kernel
theorem d_ru_doProgram_22 : decode b_ru_doProgram 22 = .ok (.iconst 0, 1) := by decide +kernel
theorem d_ru_doProgram_23 : decode b_ru_doProgram 23 = .ok (.invokevirtual 48, 3) := by decide +kernel
theorem d_ru_doProgram_26 : decode b_ru_doProgram 26 = .ok (.ireturn, 1) := by decide +kernel
theorem kb_ru_doProgram {a0 a1 : Nat} {a2 : Int32} {w : WW} {r : ((Int32 ⊕ String) × WW)} (h : f_ru_doProgram a0 a1 a2 w = some r) : kb w a0 5 = true := (its h).1
set_option maxHeartbeats 4000000 in
set_option maxRecDepth 100000 in
theorem c_ru_doProgram (l : Launch) (D : va_G) (cA : Nat → ClassId) (base : Nat) {a0 : Nat} {a1 : Nat} {a2 : Int32} {w w' : WW} {r : Int32} (h : f_ru_doProgram a0 a1 a2 w = some (.inl r, w')) : mt l D cls (wo_tys cA) cA base y_ru_doProgram (Cond.code y_ru_doProgram b_ru_doProgram 3 (some .boolean) :: gt) rm_ru_doProgram [.ref (base + a0), .ref (base + a1), .int a2] w (some (.int r)) w' rm_ru_doProgram.cells rm_ru_doProgram.slots := by
  refine mt_start (by decide) (Nat.le_of_ble_eq_true rfl) ?_
  intro p e s m below meth c ls hx hb hr hml hown hts hlk hnm hK hG hW hl
  have C : cx b_ru_doProgram (some .boolean) 3 y_ru_doProgram.cls "doProgram" p s m [.ref (base + a0), .ref (base + a1), .int a2].toArray meth c D cA base := ⟨hx, hb, hr, hml, hown, hts, hlk, hnm, hK, hG⟩
  have hl : lv_has ls 3 [(0, .ref (base + a0)), (1, .ref (base + a1)), (2, .int a2)] := hl
  unfold f_ru_doProgram at h
  replace h := its h
  obtain ⟨-, h⟩ := h
  refine lv_aload_n hx hb d_ru_doProgram_0 rfl (lv_at hl 0 rfl) ?_
  refine lv_aload_n hx hb d_ru_doProgram_1 rfl (lv_at hl 1 rfl) ?_
  replace h := bs h
  obtain ⟨w1, hw1, h⟩ := h
  refine pf_ru_32 hx hb hts hown hK hG hW rfl rfl (pbi hw1 rfl) d_ru_doProgram_2 (fun H locs hW => ?_)
  refine lv_aload_n hx hb d_ru_doProgram_5 rfl (lv_at hl 0 rfl) ?_
  refine lv_iload_n hx hb d_ru_doProgram_6 rfl (lv_at hl 2 rfl) ?_
  replace h := bs h
  obtain ⟨w2, hw2, h⟩ := h
  refine pf_ru_36 hx hb hts hown hK hG hW rfl rfl (pbi hw2 rfl) d_ru_doProgram_7 (fun H locs hW => ?_)
  refine lv_aload_n hx hb d_ru_doProgram_10 rfl (lv_at hl 0 rfl) ?_
  replace h := bs h
  obtain ⟨w3, hw3, h⟩ := h
  refine cv_ru_39 (As := []) (rest := []) hx hb hml hown hts hK hG hW (c_ru_begin l D cA base hw3) (kb_ru_begin hw3) ⟨Nat.le_of_ble_eq_true rfl, Nat.le_of_ble_eq_true rfl⟩ ⟨Nat.le_of_ble_eq_true rfl, Nat.le_of_ble_eq_true rfl⟩ rfl hl.1 rfl (Nat.le_of_ble_eq_true rfl) d_ru_doProgram_11 (fun H locs hW => ?_)
  refine lv_aload_n hx hb d_ru_doProgram_14 rfl (lv_at hl 0 rfl) ?_
  refine lv_aload_n hx hb d_ru_doProgram_15 rfl (lv_at hl 0 rfl) ?_
  replace h := bs h
  obtain ⟨x4, hx4, h⟩ := h
  refine gf_ru_32 hx hb hts hown hK hG hW (gR_s hx4) d_ru_doProgram_16 ?_
  replace h := bs h
  obtain ⟨x5, ex5, h⟩ := h
  subst ex5
  replace h := bs h
  obtain ⟨x6, hx6, h⟩ := h
  refine gf_ru_42 hx hb hts hown hK hG hW (gR_s hx6) d_ru_doProgram_19 ?_
  refine lv_iconst (v := (0 : Int32)) hx hb d_ru_doProgram_22 (by decide) ?_
  replace h := bsx h
  obtain ⟨x8, w7, hw7, h⟩ := h
  refine cv_ru_48 (As := [rb base x6, .int (0 : Int32)]) (rest := []) hx hb hml hown hts hK hG hW (c_ru_doStatements l D cA base hw7) (kb_ru_doStatements hw7) ⟨Nat.le_of_ble_eq_true rfl, Nat.le_of_ble_eq_true rfl⟩ ⟨Nat.le_of_ble_eq_true rfl, Nat.le_of_ble_eq_true rfl⟩ rfl hl.1 rfl (Nat.le_of_ble_eq_true rfl) d_ru_doProgram_23 (fun H locs hW => ?_)
  replace h := its h
  obtain ⟨c9, h⟩ := h
  cases h
  exact wo_zret hx hb hr hlk hW c9 d_ru_doProgram_26
set_option maxHeartbeats 4000000 in
set_option maxRecDepth 100000 in
theorem x_ru_doProgram (l : Launch) (hst : l.stackTraces = false) (D : va_G) (cA : Nat → ClassId) (base : Nat) {a0 : Nat} {a1 : Nat} {a2 : Int32} {w w' : WW} {E : String} (h : f_ru_doProgram a0 a1 a2 w = some (.inr E, w')) : xt l D cls (wo_tys cA) cA base y_ru_doProgram (Cond.code y_ru_doProgram b_ru_doProgram 3 (some .boolean) :: gt) rx_ru_doProgram [.ref (base + a0), .ref (base + a1), .int a2] w E w' rx_ru_doProgram.cells rx_ru_doProgram.slots := by
  refine xt_start (by decide) (Nat.le_of_ble_eq_true rfl) ?_
  intro p e s m below meth c ls hx hb hr hml hown hts hlk hnm hK hG hW hl hnt
  have C : cx b_ru_doProgram (some .boolean) 3 y_ru_doProgram.cls "doProgram" p s m [.ref (base + a0), .ref (base + a1), .int a2].toArray meth c D cA base ∧ (∀ x ∈ c.exceptionTable.toList, ∀ k : Nat, covers x k = false) ∧ l.stackTraces = false := ⟨⟨hx, hb, hr, hml, hown, hts, hlk, hnm, hK, hG⟩, hnt, hst⟩
  have hl : lv_has ls 3 [(0, .ref (base + a0)), (1, .ref (base + a1)), (2, .int a2)] := hl
  unfold f_ru_doProgram at h
  replace h := its h
  obtain ⟨-, h⟩ := h
  refine lv_aload_n hx hb d_ru_doProgram_0 rfl (lv_at hl 0 rfl) ?_
  refine lv_aload_n hx hb d_ru_doProgram_1 rfl (lv_at hl 1 rfl) ?_
  replace h := bs h
  obtain ⟨w1, hw1, h⟩ := h
  refine pf_ru_32 hx hb hts hown hK hG hW rfl rfl (pbi hw1 rfl) d_ru_doProgram_2 (fun H locs hW => ?_)
  refine lv_aload_n hx hb d_ru_doProgram_5 rfl (lv_at hl 0 rfl) ?_
  refine lv_iload_n hx hb d_ru_doProgram_6 rfl (lv_at hl 2 rfl) ?_
  replace h := bs h
  obtain ⟨w2, hw2, h⟩ := h
  refine pf_ru_36 hx hb hts hown hK hG hW rfl rfl (pbi hw2 rfl) d_ru_doProgram_7 (fun H locs hW => ?_)
  refine lv_aload_n hx hb d_ru_doProgram_10 rfl (lv_at hl 0 rfl) ?_
  replace h := bs h
  obtain ⟨w3, hw3, h⟩ := h
  refine cv_ru_39 (As := []) (rest := []) hx hb hml hown hts hK hG hW (c_ru_begin l D cA base hw3) (kb_ru_begin hw3) ⟨Nat.le_of_ble_eq_true rfl, Nat.le_of_ble_eq_true rfl⟩ ⟨Nat.le_of_ble_eq_true rfl, Nat.le_of_ble_eq_true rfl⟩ rfl hl.1 rfl (Nat.le_of_ble_eq_true rfl) d_ru_doProgram_11 (fun H locs hW => ?_)
  refine lv_aload_n hx hb d_ru_doProgram_14 rfl (lv_at hl 0 rfl) ?_
  refine lv_aload_n hx hb d_ru_doProgram_15 rfl (lv_at hl 0 rfl) ?_
  replace h := bs h
  obtain ⟨x4, hx4, h⟩ := h
  refine gf_ru_32 hx hb hts hown hK hG hW (gR_s hx4) d_ru_doProgram_16 ?_
  replace h := bs h
  obtain ⟨x5, ex5, h⟩ := h
  subst ex5
  replace h := bs h
  obtain ⟨x6, hx6, h⟩ := h
  refine gf_ru_42 hx hb hts hown hK hG hW (gR_s hx6) d_ru_doProgram_19 ?_
  refine lv_iconst (v := (0 : Int32)) hx hb d_ru_doProgram_22 (by decide) ?_
  rcases bsy h with hw7 | ⟨x8, w7, hw7, hnw7⟩
  · exact xv_ru_48 (As := [rb base x6, .int (0 : Int32)]) (rest := []) hx hb hml hown hts hK hG hW (x_ru_doStatements l hst D cA base hw7) (kb_ru_doStatements hw7) ⟨Nat.le_of_ble_eq_true rfl, Nat.le_of_ble_eq_true rfl⟩ ⟨Nat.le_of_ble_eq_true rfl, Nat.le_of_ble_eq_true rfl⟩ rfl hl.1 rfl (Nat.le_of_ble_eq_true rfl) d_ru_doProgram_23 (fun H locs q ce hW h1 h2 h3 => wo_xout hnt hlk hW h1 h2 h3 (Nat.le_of_ble_eq_true rfl) (Nat.le_of_ble_eq_true rfl))
  clear h
  have h := hnw7
  clear hnw7
  refine cv_ru_48 (As := [rb base x6, .int (0 : Int32)]) (rest := []) hx hb hml hown hts hK hG hW (c_ru_doStatements l D cA base hw7) (kb_ru_doStatements hw7) ⟨Nat.le_of_ble_eq_true rfl, Nat.le_of_ble_eq_true rfl⟩ ⟨Nat.le_of_ble_eq_true rfl, Nat.le_of_ble_eq_true rfl⟩ rfl hl.1 rfl (Nat.le_of_ble_eq_true rfl) d_ru_doProgram_23 (fun H locs hW => ?_)
  replace h := its h
  obtain ⟨c9, h⟩ := h
  cases h
theorem xv_a_98 {p : Program} {l : Launch} {e : Env} {R : Room} {s : State} {m : MethodId} {args : Array Value} {below : List Frame} {meth : Method} {c : Code} {H : Heap} {locs : List Loc} {cells slots : Nat} {Q : State → Prop} {D : va_G} {cA : Nat → ClassId} {base : Nat} {w w' : WW} {cc : ByteArray} {pc nL : Nat} {ls : Array Slot} {rest st0 As : List Value} {E : String} {b : Nat} (hx : p.tables.exec = Jvm.exec) (hb : c.code = cc) (hml : c.maxLocals = nL) (hown : s.vm.findClass Rc_a = some m.cls) (hts : ∀ w ∈ gt, w.before args s = true) (hK : va_K D cls (wo_tys cA) s) (hG : wo_G cA base s) (hW : wo_S D cls cA base s w H locs) (hM : xt l D cls (wo_tys cA) cA base y_ru_doProgram (Cond.code y_ru_doProgram b_ru_doProgram 3 (some .boolean) :: gt) rx_ru_doProgram (.ref (base + b) :: As) w E w' rx_ru_doProgram.cells rx_ru_doProgram.slots) (hkb : kb w b 5 = true) (hR : rx_ru_doProgram.frames + 1 ≤ R.frames ∧ 8 + (3 + 11) + rx_ru_doProgram.locals ≤ R.locals) (hf : cells + rx_ru_doProgram.cells ≤ R.cells ∧ slots + rx_ru_doProgram.slots ≤ R.slots) (hn : As.length = 2) (hsz : ls.size = nL) (hst : st0 = As.reverse ++ .ref (base + b) :: rest) (hcat : (rest.map fun v => v.category).sum ≤ 8) (hdg : decode cc pc = .ok (.invokevirtual 98, 3)) (kk : ∀ (H1 : Heap) (locs1 : List Loc) (q : Addr) (ce : Cell), wo_S D cls cA base s w' H1 locs1 → H1[q]? = some ce → ce.vm = .none → s.vm.findClass E = some ce.cls → XW p l e R s m args below meth c H1 locs1 (cells + rx_ru_doProgram.cells) (slots + rx_ru_doProgram.slots) Q (F0 m pc ls rest) q) : W p l e R s m args below meth c H locs cells slots Q (F0 m pc ls st0) :=
  wo_xcallV (C := Rc_ru) hx hb hml hown hts hK hG hW hM hkb rfl (gt_of (i := 754) (by decide +kernel) (by decide +kernel)) (gt_of (i := 755) (by decide +kernel) (by decide +kernel)) (gt_of (i := 756) (by decide +kernel) (by decide +kernel)) (gt_of (i := 6) (by decide +kernel) (by decide +kernel)) (gt_of (i := 757) (by decide +kernel) (by decide +kernel)) (by decide +kernel) hR hf hn hsz hst hcat hdg kk
theorem cv_a_98 {p : Program} {l : Launch} {e : Env} {R : Room} {s : State} {m : MethodId} {args : Array Value} {below : List Frame} {meth : Method} {c : Code} {H : Heap} {locs : List Loc} {cells slots : Nat} {Q : State → Prop} {D : va_G} {cA : Nat → ClassId} {base : Nat} {w w' : WW} {cc : ByteArray} {pc nL : Nat} {ls : Array Slot} {rest st0 As : List Value} {ov : Option Value} {b : Nat} (hx : p.tables.exec = Jvm.exec) (hb : c.code = cc) (hml : c.maxLocals = nL) (hown : s.vm.findClass Rc_a = some m.cls) (hts : ∀ w ∈ gt, w.before args s = true) (hK : va_K D cls (wo_tys cA) s) (hG : wo_G cA base s) (hW : wo_S D cls cA base s w H locs) (hM : mt l D cls (wo_tys cA) cA base y_ru_doProgram (Cond.code y_ru_doProgram b_ru_doProgram 3 (some .boolean) :: gt) rm_ru_doProgram (.ref (base + b) :: As) w ov w' rm_ru_doProgram.cells rm_ru_doProgram.slots) (hkb : kb w b 5 = true) (hR : rm_ru_doProgram.frames + 1 ≤ R.frames ∧ 8 + (3 + 11) + rm_ru_doProgram.locals ≤ R.locals) (hf : cells + rm_ru_doProgram.cells ≤ R.cells ∧ slots + rm_ru_doProgram.slots ≤ R.slots) (hn : As.length = 2) (hsz : ls.size = nL) (hst : st0 = As.reverse ++ .ref (base + b) :: rest) (hcat : (rest.map fun v => v.category).sum ≤ 8) (hdg : decode cc pc = .ok (.invokevirtual 98, 3)) (kk : ∀ (H1 : Heap) (locs1 : List Loc), wo_S D cls cA base s w' H1 locs1 → W p l e R s m args below meth c H1 locs1 (cells + rm_ru_doProgram.cells) (slots + rm_ru_doProgram.slots) Q (F0 m (pc + 3) ls (ov.toList ++ rest))) : W p l e R s m args below meth c H locs cells slots Q (F0 m pc ls st0) :=
  wo_callV (C := Rc_ru) hx hb hml hown hts hK hG hW hM hkb rfl (gt_of (i := 754) (by decide +kernel) (by decide +kernel)) (gt_of (i := 755) (by decide +kernel) (by decide +kernel)) (gt_of (i := 756) (by decide +kernel) (by decide +kernel)) (gt_of (i := 6) (by decide +kernel) (by decide +kernel)) (gt_of (i := 757) (by decide +kernel) (by decide +kernel)) (by decide +kernel) hR hf hn hsz hst hcat hdg kk
abbrev b_a_run : ByteArray := prog_1_method_11_code
def y_a_run : MethodName := ⟨"AlarmForge", "run", "(I)I"⟩
def rm_a_run : Room := { frames := 77, cells := 0, slots := 0, locals := 1739 }
def rx_a_run : Room := { frames := 77, cells := 1, slots := 6, locals := 1739 }
theorem d_a_run_0 : decode b_a_run 0 = .ok (.iload_n 1, 1) := by decide +kernel
theorem d_a_run_1 : decode b_a_run 1 = .ok (.ifCond .lt (10), 3) := by decide +kernel
theorem d_a_run_4 : decode b_a_run 4 = .ok (.iload_n 1, 1) := by decide +kernel
theorem d_a_run_5 : decode b_a_run 5 = .ok (.sipush (500), 3) := by decide +kernel
theorem d_a_run_8 : decode b_a_run 8 = .ok (.if_icmp .le (11), 3) := by decide +kernel
theorem d_a_run_11 : decode b_a_run 11 = .ok (.new 62, 3) := by decide +kernel
theorem d_a_run_14 : decode b_a_run 14 = .ok (.dup, 1) := by decide +kernel
theorem d_a_run_15 : decode b_a_run 15 = .ok (.invokespecial 64, 3) := by decide +kernel
theorem d_a_run_18 : decode b_a_run 18 = .ok (.athrow, 1) := by decide +kernel
theorem d_a_run_19 : decode b_a_run 19 = .ok (.aload_n 0, 1) := by decide +kernel
theorem d_a_run_20 : decode b_a_run 20 = .ok (.getfield 81, 3) := by decide +kernel
theorem d_a_run_23 : decode b_a_run 23 = .ok (.ifCond .ne (11), 3) := by decide +kernel
theorem d_a_run_26 : decode b_a_run 26 = .ok (.new 70, 3) := by decide +kernel
theorem d_a_run_29 : decode b_a_run 29 = .ok (.dup, 1) := by decide +kernel
theorem d_a_run_30 : decode b_a_run 30 = .ok (.invokespecial 72, 3) := by decide +kernel
theorem d_a_run_33 : decode b_a_run 33 = .ok (.athrow, 1) := by decide +kernel
theorem d_a_run_34 : decode b_a_run 34 = .ok (.aload_n 0, 1) := by decide +kernel
theorem d_a_run_35 : decode b_a_run 35 = .ok (.getfield 43, 3) := by decide +kernel
theorem d_a_run_38 : decode b_a_run 38 = .ok (.aload_n 0, 1) := by decide +kernel
theorem d_a_run_39 : decode b_a_run 39 = .ok (.getfield 33, 3) := by decide +kernel
theorem d_a_run_42 : decode b_a_run 42 = .ok (.iload_n 1, 1) := by decide +kernel
theorem d_a_run_43 : decode b_a_run 43 = .ok (.invokevirtual 98, 3) := by decide +kernel
theorem d_a_run_46 : decode b_a_run 46 = .ok (.ifCond .eq (7), 3) := by decide +kernel
theorem d_a_run_49 : decode b_a_run 49 = .ok (.iconst 0, 1) := by decide +kernel
theorem d_a_run_50 : decode b_a_run 50 = .ok (.goto (5), 3) := by decide +kernel
theorem d_a_run_53 : decode b_a_run 53 = .ok (.bipush (-5), 2) := by decide +kernel
theorem d_a_run_55 : decode b_a_run 55 = .ok (.ireturn, 1) := by decide +kernel
theorem kb_a_run {a0 : Nat} {a1 : Int32} {w : WW} {r : ((Int32 ⊕ String) × WW)} (h : f_a_run a0 a1 w = some r) : kb w a0 0 = true := (its h).1
set_option maxHeartbeats 4000000 in
set_option maxRecDepth 100000 in
theorem j_a_run_11 {p : Program} {l : Launch} {e : Env} {s : State} {m : MethodId} {args : Array Value} {below : List Frame} {meth : Method} {c : Code} {D : va_G} {cA : Nat → ClassId} {base : Nat} {r : Int32} {w' : WW} (C : cx b_a_run (some .int) 2 y_a_run.cls "run" p s m args meth c D cA base)   : ∀  (w : WW), f_a_run_11  w = some (.inl r, w') → ∀ (H : Heap) (locs : List Loc) (ls : Array Slot), wo_S D cls cA base s w H locs → lv_has ls 2 [] → W p l e rm_a_run s m args below meth c H locs 0 0 (MQ below (wo_Q D cls cA base (some (.int r)) w') args s rm_a_run.cells rm_a_run.slots (wo_B base)) (F0 m 11 ls []) := by
  obtain ⟨hx, hb, hr, hml, hown, hts, hlk, hnm, hK, hG⟩ := id C
  intro  w h H locs ls hW hl
  unfold f_a_run_11 at h
  cases h
set_option maxHeartbeats 4000000 in
set_option maxRecDepth 100000 in
theorem j_a_run_55 {p : Program} {l : Launch} {e : Env} {s : State} {m : MethodId} {args : Array Value} {below : List Frame} {meth : Method} {c : Code} {D : va_G} {cA : Nat → ClassId} {base : Nat} {r : Int32} {w' : WW} (C : cx b_a_run (some .int) 2 y_a_run.cls "run" p s m args meth c D cA base)   : ∀ (z0 : Int32) (w : WW), f_a_run_55 z0 w = some (.inl r, w') → ∀ (H : Heap) (locs : List Loc) (ls : Array Slot), wo_S D cls cA base s w H locs → lv_has ls 2 [] → W p l e rm_a_run s m args below meth c H locs 0 0 (MQ below (wo_Q D cls cA base (some (.int r)) w') args s rm_a_run.cells rm_a_run.slots (wo_B base)) (F0 m 55 ls [.int z0]) := by
  obtain ⟨hx, hb, hr, hml, hown, hts, hlk, hnm, hK, hG⟩ := id C
  intro z0 w h H locs ls hW hl
  unfold f_a_run_55 at h
  cases h
  exact wo_iret hx hb hr hlk hW d_a_run_55
set_option maxHeartbeats 4000000 in
set_option maxRecDepth 100000 in
theorem c_a_run (l : Launch) (D : va_G) (cA : Nat → ClassId) (base : Nat) {a0 : Nat} {a1 : Int32} {w w' : WW} {r : Int32} (h : f_a_run a0 a1 w = some (.inl r, w')) : mt l D cls (wo_tys cA) cA base y_a_run (Cond.code y_a_run b_a_run 2 (some .int) :: gt) rm_a_run [.ref (base + a0), .int a1] w (some (.int r)) w' rm_a_run.cells rm_a_run.slots := by
  refine mt_start (by decide) (Nat.le_of_ble_eq_true rfl) ?_
  intro p e s m below meth c ls hx hb hr hml hown hts hlk hnm hK hG hW hl
  have C : cx b_a_run (some .int) 2 y_a_run.cls "run" p s m [.ref (base + a0), .int a1].toArray meth c D cA base := ⟨hx, hb, hr, hml, hown, hts, hlk, hnm, hK, hG⟩
  have hl : lv_has ls 2 [(0, .ref (base + a0)), (1, .int a1)] := hl
  unfold f_a_run at h
  replace h := its h
  obtain ⟨-, h⟩ := h
  refine lv_iload_n hx hb d_a_run_0 rfl (lv_at hl 1 rfl) ?_
  refine lv_if_lt (tgt := 11) hx hb d_a_run_1 (by decide) (fun c1 => ?_) (fun c1 => ?_)
  · rw [if_pos c1] at h
    exact j_a_run_11 C w h _ _ _ hW (lv_sub hl [] rfl)
  · rw [if_neg c1] at h
    refine lv_iload_n hx hb d_a_run_4 rfl (lv_at hl 1 rfl) ?_
    refine lv_sipush (v := (500 : Int32)) hx hb d_a_run_5 (by decide) ?_
    refine lv_icmp_le (tgt := 19) hx hb d_a_run_8 (by decide) (fun c2 => ?_) (fun c2 => ?_)
    · rw [if_pos c2] at h
      refine lv_aload_n hx hb d_a_run_19 rfl (lv_at hl 0 rfl) ?_
      replace h := bs h
      obtain ⟨x3, hx3, h⟩ := h
      refine gf_a_81 hx hb hts hown hK hG hW (gI_s hx3) d_a_run_20 ?_
      refine lv_if_ne (tgt := 34) hx hb d_a_run_23 (by decide) (fun c4 => ?_) (fun c4 => ?_)
      · rw [if_neg c4] at h
        refine lv_aload_n hx hb d_a_run_34 rfl (lv_at hl 0 rfl) ?_
        replace h := bs h
        obtain ⟨x5, hx5, h⟩ := h
        refine gf_a_43 hx hb hts hown hK hG hW (gN_s hx5) d_a_run_35 ?_
        refine lv_aload_n hx hb d_a_run_38 rfl (lv_at hl 0 rfl) ?_
        replace h := bs h
        obtain ⟨x6, hx6, h⟩ := h
        refine gf_a_33 hx hb hts hown hK hG hW (gN_s hx6) d_a_run_39 ?_
        refine lv_iload_n hx hb d_a_run_42 rfl (lv_at hl 1 rfl) ?_
        replace h := bsx h
        obtain ⟨x8, w7, hw7, h⟩ := h
        refine cv_a_98 (As := [.ref (base + x6), .int a1]) (rest := []) hx hb hml hown hts hK hG hW (c_ru_doProgram l D cA base hw7) (kb_ru_doProgram hw7) ⟨Nat.le_of_ble_eq_true rfl, Nat.le_of_ble_eq_true rfl⟩ ⟨Nat.le_of_ble_eq_true rfl, Nat.le_of_ble_eq_true rfl⟩ rfl hl.1 rfl (Nat.le_of_ble_eq_true rfl) d_a_run_43 (fun H locs hW => ?_)
        refine lv_if_eq (tgt := 53) hx hb d_a_run_46 (by decide) (fun c9 => ?_) (fun c9 => ?_)
        · rw [if_pos c9] at h
          refine lv_bipush (v := (-5 : Int32)) hx hb d_a_run_53 (by decide) ?_
          exact j_a_run_55 C (-5 : Int32) w7 h _ _ _ hW (lv_sub hl [] rfl)
        · rw [if_neg c9] at h
          refine lv_iconst (v := (0 : Int32)) hx hb d_a_run_49 (by decide) ?_
          refine lv_goto (tgt := 55) hx hb d_a_run_50 (by decide) ?_
          exact j_a_run_55 C (0 : Int32) w7 h _ _ _ hW (lv_sub hl [] rfl)
      · rw [if_pos c4] at h
        cases h
    · rw [if_neg c2] at h
      exact j_a_run_11 C w h _ _ _ hW (lv_sub hl [] rfl)
set_option maxHeartbeats 4000000 in
set_option maxRecDepth 100000 in
theorem jx_a_run_11 {p : Program} {l : Launch} {e : Env} {s : State} {m : MethodId} {args : Array Value} {below : List Frame} {meth : Method} {c : Code} {D : va_G} {cA : Nat → ClassId} {base : Nat} {E : String} {w' : WW} (C : cx b_a_run (some .int) 2 y_a_run.cls "run" p s m args meth c D cA base ∧ (∀ x ∈ c.exceptionTable.toList, ∀ k : Nat, covers x k = false) ∧ l.stackTraces = false)   : ∀  (w : WW), f_a_run_11  w = some (.inr E, w') → ∀ (H : Heap) (locs : List Loc) (ls : Array Slot), wo_S D cls cA base s w H locs → lv_has ls 2 [] → W p l e rx_a_run s m args below meth c H locs 0 0 (XQ below (wo_X D cls cA base E w' rx_a_run.cells rx_a_run.slots) args s) (F0 m 11 ls []) := by
  obtain ⟨hx, hb, hr, hml, hown, hts, hlk, hnm, hK, hG⟩ := id C.1
  have hnt := C.2.1
  have hst := C.2.2
  intro  w h H locs ls hW hl
  unfold f_a_run_11 at h
  cases h
  exact wo_throw (names := ["java/lang/RuntimeException", "java/lang/Exception"]) hx hb hst hown hts hG hW hnt hlk (by decide) (by decide) (gt_of (i := 395) (by decide +kernel) (by decide +kernel)) (gt_of (i := 14) (by decide +kernel) (by decide +kernel)) ow_a_64 (hl.1.trans hml.symm) d_a_run_11 d_a_run_14 d_a_run_15 d_a_run_18 (Nat.le_of_ble_eq_true rfl) (Nat.le_of_ble_eq_true rfl) (Nat.le_of_ble_eq_true rfl) (Nat.le_of_ble_eq_true rfl) (Nat.le_of_ble_eq_true rfl) (Nat.le_of_ble_eq_true rfl)
set_option maxHeartbeats 4000000 in
set_option maxRecDepth 100000 in
theorem jx_a_run_55 {p : Program} {l : Launch} {e : Env} {s : State} {m : MethodId} {args : Array Value} {below : List Frame} {meth : Method} {c : Code} {D : va_G} {cA : Nat → ClassId} {base : Nat} {E : String} {w' : WW} (C : cx b_a_run (some .int) 2 y_a_run.cls "run" p s m args meth c D cA base ∧ (∀ x ∈ c.exceptionTable.toList, ∀ k : Nat, covers x k = false) ∧ l.stackTraces = false)   : ∀ (z0 : Int32) (w : WW), f_a_run_55 z0 w = some (.inr E, w') → ∀ (H : Heap) (locs : List Loc) (ls : Array Slot), wo_S D cls cA base s w H locs → lv_has ls 2 [] → W p l e rx_a_run s m args below meth c H locs 0 0 (XQ below (wo_X D cls cA base E w' rx_a_run.cells rx_a_run.slots) args s) (F0 m 55 ls [.int z0]) := by
  obtain ⟨hx, hb, hr, hml, hown, hts, hlk, hnm, hK, hG⟩ := id C.1
  have hnt := C.2.1
  have hst := C.2.2
  intro z0 w h H locs ls hW hl
  unfold f_a_run_55 at h
  cases h
set_option maxHeartbeats 4000000 in
set_option maxRecDepth 100000 in
theorem x_a_run (l : Launch) (hst : l.stackTraces = false) (D : va_G) (cA : Nat → ClassId) (base : Nat) {a0 : Nat} {a1 : Int32} {w w' : WW} {E : String} (h : f_a_run a0 a1 w = some (.inr E, w')) : xt l D cls (wo_tys cA) cA base y_a_run (Cond.code y_a_run b_a_run 2 (some .int) :: gt) rx_a_run [.ref (base + a0), .int a1] w E w' rx_a_run.cells rx_a_run.slots := by
  refine xt_start (by decide) (Nat.le_of_ble_eq_true rfl) ?_
  intro p e s m below meth c ls hx hb hr hml hown hts hlk hnm hK hG hW hl hnt
  have C : cx b_a_run (some .int) 2 y_a_run.cls "run" p s m [.ref (base + a0), .int a1].toArray meth c D cA base ∧ (∀ x ∈ c.exceptionTable.toList, ∀ k : Nat, covers x k = false) ∧ l.stackTraces = false := ⟨⟨hx, hb, hr, hml, hown, hts, hlk, hnm, hK, hG⟩, hnt, hst⟩
  have hl : lv_has ls 2 [(0, .ref (base + a0)), (1, .int a1)] := hl
  unfold f_a_run at h
  replace h := its h
  obtain ⟨-, h⟩ := h
  refine lv_iload_n hx hb d_a_run_0 rfl (lv_at hl 1 rfl) ?_
  refine lv_if_lt (tgt := 11) hx hb d_a_run_1 (by decide) (fun c1 => ?_) (fun c1 => ?_)
  · rw [if_pos c1] at h
    exact jx_a_run_11 C w h _ _ _ hW (lv_sub hl [] rfl)
  · rw [if_neg c1] at h
    refine lv_iload_n hx hb d_a_run_4 rfl (lv_at hl 1 rfl) ?_
    refine lv_sipush (v := (500 : Int32)) hx hb d_a_run_5 (by decide) ?_
    refine lv_icmp_le (tgt := 19) hx hb d_a_run_8 (by decide) (fun c2 => ?_) (fun c2 => ?_)
    · rw [if_pos c2] at h
      refine lv_aload_n hx hb d_a_run_19 rfl (lv_at hl 0 rfl) ?_
      replace h := bs h
      obtain ⟨x3, hx3, h⟩ := h
      refine gf_a_81 hx hb hts hown hK hG hW (gI_s hx3) d_a_run_20 ?_
      refine lv_if_ne (tgt := 34) hx hb d_a_run_23 (by decide) (fun c4 => ?_) (fun c4 => ?_)
      · rw [if_neg c4] at h
        refine lv_aload_n hx hb d_a_run_34 rfl (lv_at hl 0 rfl) ?_
        replace h := bs h
        obtain ⟨x5, hx5, h⟩ := h
        refine gf_a_43 hx hb hts hown hK hG hW (gN_s hx5) d_a_run_35 ?_
        refine lv_aload_n hx hb d_a_run_38 rfl (lv_at hl 0 rfl) ?_
        replace h := bs h
        obtain ⟨x6, hx6, h⟩ := h
        refine gf_a_33 hx hb hts hown hK hG hW (gN_s hx6) d_a_run_39 ?_
        refine lv_iload_n hx hb d_a_run_42 rfl (lv_at hl 1 rfl) ?_
        rcases bsy h with hw7 | ⟨x8, w7, hw7, hnw7⟩
        · exact xv_a_98 (As := [.ref (base + x6), .int a1]) (rest := []) hx hb hml hown hts hK hG hW (x_ru_doProgram l hst D cA base hw7) (kb_ru_doProgram hw7) ⟨Nat.le_of_ble_eq_true rfl, Nat.le_of_ble_eq_true rfl⟩ ⟨Nat.le_of_ble_eq_true rfl, Nat.le_of_ble_eq_true rfl⟩ rfl hl.1 rfl (Nat.le_of_ble_eq_true rfl) d_a_run_43 (fun H locs q ce hW h1 h2 h3 => wo_xout hnt hlk hW h1 h2 h3 (Nat.le_of_ble_eq_true rfl) (Nat.le_of_ble_eq_true rfl))
        clear h
        have h := hnw7
        clear hnw7
        refine cv_a_98 (As := [.ref (base + x6), .int a1]) (rest := []) hx hb hml hown hts hK hG hW (c_ru_doProgram l D cA base hw7) (kb_ru_doProgram hw7) ⟨Nat.le_of_ble_eq_true rfl, Nat.le_of_ble_eq_true rfl⟩ ⟨Nat.le_of_ble_eq_true rfl, Nat.le_of_ble_eq_true rfl⟩ rfl hl.1 rfl (Nat.le_of_ble_eq_true rfl) d_a_run_43 (fun H locs hW => ?_)
        refine lv_if_eq (tgt := 53) hx hb d_a_run_46 (by decide) (fun c9 => ?_) (fun c9 => ?_)
        · rw [if_pos c9] at h
          refine lv_bipush (v := (-5 : Int32)) hx hb d_a_run_53 (by decide) ?_
          exact jx_a_run_55 C (-5 : Int32) w7 h _ _ _ hW (lv_sub hl [] rfl)
        · rw [if_neg c9] at h
          refine lv_iconst (v := (0 : Int32)) hx hb d_a_run_49 (by decide) ?_
          refine lv_goto (tgt := 55) hx hb d_a_run_50 (by decide) ?_
          exact jx_a_run_55 C (0 : Int32) w7 h _ _ _ hW (lv_sub hl [] rfl)
      · rw [if_pos c4] at h
        cases h
        exact wo_throw (names := ["java/lang/RuntimeException", "java/lang/Exception"]) hx hb hst hown hts hG hW hnt hlk (by decide) (by decide) (gt_of (i := 460) (by decide +kernel) (by decide +kernel)) (gt_of (i := 15) (by decide +kernel) (by decide +kernel)) ow_a_72 (hl.1.trans hml.symm) d_a_run_26 d_a_run_29 d_a_run_30 d_a_run_33 (Nat.le_of_ble_eq_true rfl) (Nat.le_of_ble_eq_true rfl) (Nat.le_of_ble_eq_true rfl) (Nat.le_of_ble_eq_true rfl) (Nat.le_of_ble_eq_true rfl) (Nat.le_of_ble_eq_true rfl)
    · rw [if_neg c2] at h
      exact jx_a_run_11 C w h _ _ _ hW (lv_sub hl [] rfl)
abbrev b_a_ran : ByteArray := prog_1_method_12_code
def y_a_ran : MethodName := ⟨"AlarmForge", "ran", "(I)I"⟩
def rm_a_ran : Room := { frames := 6, cells := 0, slots := 0, locals := 100 }
def rx_a_ran : Room := { frames := 6, cells := 1, slots := 6, locals := 100 }
theorem d_a_ran_0 : decode b_a_ran 0 = .ok (.iload_n 1, 1) := by decide +kernel
theorem d_a_ran_1 : decode b_a_ran 1 = .ok (.ifCond .ne (11), 3) := by decide +kernel
theorem d_a_ran_4 : decode b_a_ran 4 = .ok (.aload_n 0, 1) := by decide +kernel
theorem d_a_ran_5 : decode b_a_ran 5 = .ok (.getfield 43, 3) := by decide +kernel
theorem d_a_ran_8 : decode b_a_ran 8 = .ok (.getfield 102, 3) := by decide +kernel
theorem d_a_ran_11 : decode b_a_ran 11 = .ok (.ireturn, 1) := by decide +kernel
theorem d_a_ran_12 : decode b_a_ran 12 = .ok (.iload_n 1, 1) := by decide +kernel
theorem d_a_ran_13 : decode b_a_ran 13 = .ok (.iconst 1, 1) := by decide +kernel
theorem d_a_ran_14 : decode b_a_ran 14 = .ok (.if_icmp .ne (11), 3) := by decide +kernel
theorem d_a_ran_17 : decode b_a_ran 17 = .ok (.aload_n 0, 1) := by decide +kernel
theorem d_a_ran_18 : decode b_a_ran 18 = .ok (.getfield 43, 3) := by decide +kernel
theorem d_a_ran_21 : decode b_a_ran 21 = .ok (.getfield 105, 3) := by decide +kernel
theorem d_a_ran_24 : decode b_a_ran 24 = .ok (.ireturn, 1) := by decide +kernel
theorem d_a_ran_25 : decode b_a_ran 25 = .ok (.iload_n 1, 1) := by decide +kernel
theorem d_a_ran_26 : decode b_a_ran 26 = .ok (.iconst 2, 1) := by decide +kernel
theorem d_a_ran_27 : decode b_a_ran 27 = .ok (.if_icmp .ne (11), 3) := by decide +kernel
theorem d_a_ran_30 : decode b_a_ran 30 = .ok (.aload_n 0, 1) := by decide +kernel
theorem d_a_ran_31 : decode b_a_ran 31 = .ok (.getfield 43, 3) := by decide +kernel
theorem d_a_ran_34 : decode b_a_ran 34 = .ok (.getfield 108, 3) := by decide +kernel
theorem d_a_ran_37 : decode b_a_ran 37 = .ok (.ireturn, 1) := by decide +kernel
theorem d_a_ran_38 : decode b_a_ran 38 = .ok (.iload_n 1, 1) := by decide +kernel
theorem d_a_ran_39 : decode b_a_ran 39 = .ok (.bipush (10), 2) := by decide +kernel
theorem d_a_ran_41 : decode b_a_ran 41 = .ok (.if_icmp .lt (22), 3) := by decide +kernel
theorem d_a_ran_44 : decode b_a_ran 44 = .ok (.iload_n 1, 1) := by decide +kernel
theorem d_a_ran_45 : decode b_a_ran 45 = .ok (.bipush (16), 2) := by decide +kernel
theorem d_a_ran_47 : decode b_a_ran 47 = .ok (.if_icmp .ge (16), 3) := by decide +kernel
theorem d_a_ran_50 : decode b_a_ran 50 = .ok (.aload_n 0, 1) := by decide +kernel
theorem d_a_ran_51 : decode b_a_ran 51 = .ok (.getfield 43, 3) := by decide +kernel
theorem d_a_ran_54 : decode b_a_ran 54 = .ok (.getfield 111, 3) := by decide +kernel
theorem d_a_ran_57 : decode b_a_ran 57 = .ok (.iload_n 1, 1) := by decide +kernel
theorem d_a_ran_58 : decode b_a_ran 58 = .ok (.bipush (10), 2) := by decide +kernel
theorem d_a_ran_60 : decode b_a_ran 60 = .ok (.isub, 1) := by decide +kernel
theorem d_a_ran_61 : decode b_a_ran 61 = .ok (.iaload, 1) := by decide +kernel
theorem d_a_ran_62 : decode b_a_ran 62 = .ok (.ireturn, 1) := by decide +kernel
theorem d_a_ran_63 : decode b_a_ran 63 = .ok (.iload_n 1, 1) := by decide +kernel
theorem d_a_ran_64 : decode b_a_ran 64 = .ok (.bipush (20), 2) := by decide +kernel
theorem d_a_ran_66 : decode b_a_ran 66 = .ok (.if_icmp .lt (22), 3) := by decide +kernel
theorem d_a_ran_69 : decode b_a_ran 69 = .ok (.iload_n 1, 1) := by decide +kernel
theorem d_a_ran_70 : decode b_a_ran 70 = .ok (.bipush (28), 2) := by decide +kernel
theorem d_a_ran_72 : decode b_a_ran 72 = .ok (.if_icmp .ge (16), 3) := by decide +kernel
theorem d_a_ran_75 : decode b_a_ran 75 = .ok (.aload_n 0, 1) := by decide +kernel
theorem d_a_ran_76 : decode b_a_ran 76 = .ok (.getfield 43, 3) := by decide +kernel
theorem d_a_ran_79 : decode b_a_ran 79 = .ok (.getfield 115, 3) := by decide +kernel
theorem d_a_ran_82 : decode b_a_ran 82 = .ok (.iload_n 1, 1) := by decide +kernel
theorem d_a_ran_83 : decode b_a_ran 83 = .ok (.bipush (20), 2) := by decide +kernel
theorem d_a_ran_85 : decode b_a_ran 85 = .ok (.isub, 1) := by decide +kernel
theorem d_a_ran_86 : decode b_a_ran 86 = .ok (.iaload, 1) := by decide +kernel
theorem d_a_ran_87 : decode b_a_ran 87 = .ok (.ireturn, 1) := by decide +kernel
theorem d_a_ran_88 : decode b_a_ran 88 = .ok (.iload_n 1, 1) := by decide +kernel
theorem d_a_ran_89 : decode b_a_ran 89 = .ok (.bipush (30), 2) := by decide +kernel
theorem d_a_ran_91 : decode b_a_ran 91 = .ok (.if_icmp .lt (30), 3) := by decide +kernel
theorem d_a_ran_94 : decode b_a_ran 94 = .ok (.iload_n 1, 1) := by decide +kernel
theorem d_a_ran_95 : decode b_a_ran 95 = .ok (.bipush (36), 2) := by decide +kernel
theorem d_a_ran_97 : decode b_a_ran 97 = .ok (.if_icmp .ge (24), 3) := by decide +kernel
theorem d_a_ran_100 : decode b_a_ran 100 = .ok (.aload_n 0, 1) := by decide +kernel
theorem d_a_ran_101 : decode b_a_ran 101 = .ok (.getfield 43, 3) := by decide +kernel
theorem d_a_ran_104 : decode b_a_ran 104 = .ok (.getfield 118, 3) := by decide +kernel
theorem d_a_ran_107 : decode b_a_ran 107 = .ok (.iload_n 1, 1) := by decide +kernel
theorem d_a_ran_108 : decode b_a_ran 108 = .ok (.bipush (30), 2) := by decide +kernel
theorem d_a_ran_110 : decode b_a_ran 110 = .ok (.isub, 1) := by decide +kernel
theorem d_a_ran_111 : decode b_a_ran 111 = .ok (.baload, 1) := by decide +kernel
theorem d_a_ran_112 : decode b_a_ran 112 = .ok (.ifCond .eq (7), 3) := by decide +kernel
theorem d_a_ran_115 : decode b_a_ran 115 = .ok (.iconst 1, 1) := by decide +kernel
theorem d_a_ran_116 : decode b_a_ran 116 = .ok (.goto (4), 3) := by decide +kernel
theorem d_a_ran_119 : decode b_a_ran 119 = .ok (.iconst 0, 1) := by decide +kernel
theorem d_a_ran_120 : decode b_a_ran 120 = .ok (.ireturn, 1) := by decide +kernel
theorem d_a_ran_121 : decode b_a_ran 121 = .ok (.new 62, 3) := by decide +kernel
theorem d_a_ran_124 : decode b_a_ran 124 = .ok (.dup, 1) := by decide +kernel
theorem d_a_ran_125 : decode b_a_ran 125 = .ok (.invokespecial 64, 3) := by decide +kernel
theorem d_a_ran_128 : decode b_a_ran 128 = .ok (.athrow, 1) := by decide +kernel
theorem kb_a_ran {a0 : Nat} {a1 : Int32} {w : WW} {r : ((Int32 ⊕ String) × WW)} (h : f_a_ran a0 a1 w = some r) : kb w a0 0 = true := (its h).1
set_option maxHeartbeats 4000000 in
set_option maxRecDepth 100000 in
theorem j_a_ran_121 {p : Program} {l : Launch} {e : Env} {s : State} {m : MethodId} {args : Array Value} {below : List Frame} {meth : Method} {c : Code} {D : va_G} {cA : Nat → ClassId} {base : Nat} {r : Int32} {w' : WW} (C : cx b_a_ran (some .int) 2 y_a_ran.cls "ran" p s m args meth c D cA base)   : ∀  (w : WW), f_a_ran_121  w = some (.inl r, w') → ∀ (H : Heap) (locs : List Loc) (ls : Array Slot), wo_S D cls cA base s w H locs → lv_has ls 2 [] → W p l e rm_a_ran s m args below meth c H locs 0 0 (MQ below (wo_Q D cls cA base (some (.int r)) w') args s rm_a_ran.cells rm_a_ran.slots (wo_B base)) (F0 m 121 ls []) := by
  obtain ⟨hx, hb, hr, hml, hown, hts, hlk, hnm, hK, hG⟩ := id C
  intro  w h H locs ls hW hl
  unfold f_a_ran_121 at h
  cases h
set_option maxHeartbeats 4000000 in
set_option maxRecDepth 100000 in
theorem j_a_ran_120 {p : Program} {l : Launch} {e : Env} {s : State} {m : MethodId} {args : Array Value} {below : List Frame} {meth : Method} {c : Code} {D : va_G} {cA : Nat → ClassId} {base : Nat} {r : Int32} {w' : WW} (C : cx b_a_ran (some .int) 2 y_a_ran.cls "ran" p s m args meth c D cA base)   : ∀ (z0 : Int32) (w : WW), f_a_ran_120 z0 w = some (.inl r, w') → ∀ (H : Heap) (locs : List Loc) (ls : Array Slot), wo_S D cls cA base s w H locs → lv_has ls 2 [] → W p l e rm_a_ran s m args below meth c H locs 0 0 (MQ below (wo_Q D cls cA base (some (.int r)) w') args s rm_a_ran.cells rm_a_ran.slots (wo_B base)) (F0 m 120 ls [.int z0]) := by
  obtain ⟨hx, hb, hr, hml, hown, hts, hlk, hnm, hK, hG⟩ := id C
  intro z0 w h H locs ls hW hl
  unfold f_a_ran_120 at h
  cases h
  exact wo_iret hx hb hr hlk hW d_a_ran_120
set_option maxHeartbeats 4000000 in
set_option maxRecDepth 100000 in
theorem j_a_ran_88 {p : Program} {l : Launch} {e : Env} {s : State} {m : MethodId} {args : Array Value} {below : List Frame} {meth : Method} {c : Code} {D : va_G} {cA : Nat → ClassId} {base : Nat} {r : Int32} {w' : WW} (C : cx b_a_ran (some .int) 2 y_a_ran.cls "ran" p s m args meth c D cA base)   : ∀ (y0 : Nat) (y1 : Int32) (w : WW), f_a_ran_88 y0 y1 w = some (.inl r, w') → ∀ (H : Heap) (locs : List Loc) (ls : Array Slot), wo_S D cls cA base s w H locs → lv_has ls 2 [(0, .ref (base + y0)), (1, .int y1)] → W p l e rm_a_ran s m args below meth c H locs 0 0 (MQ below (wo_Q D cls cA base (some (.int r)) w') args s rm_a_ran.cells rm_a_ran.slots (wo_B base)) (F0 m 88 ls []) := by
  obtain ⟨hx, hb, hr, hml, hown, hts, hlk, hnm, hK, hG⟩ := id C
  intro y0 y1 w h H locs ls hW hl
  unfold f_a_ran_88 at h
  refine lv_iload_n hx hb d_a_ran_88 rfl (lv_at hl 1 rfl) ?_
  refine lv_bipush (v := (30 : Int32)) hx hb d_a_ran_89 (by decide) ?_
  refine lv_icmp_lt (tgt := 121) hx hb d_a_ran_91 (by decide) (fun c6 => ?_) (fun c6 => ?_)
  · rw [if_pos c6] at h
    exact j_a_ran_121 C w h _ _ _ hW (lv_sub hl [] rfl)
  · rw [if_neg c6] at h
    refine lv_iload_n hx hb d_a_ran_94 rfl (lv_at hl 1 rfl) ?_
    refine lv_bipush (v := (36 : Int32)) hx hb d_a_ran_95 (by decide) ?_
    refine lv_icmp_ge (tgt := 121) hx hb d_a_ran_97 (by decide) (fun c7 => ?_) (fun c7 => ?_)
    · rw [if_pos c7] at h
      exact j_a_ran_121 C w h _ _ _ hW (lv_sub hl [] rfl)
    · rw [if_neg c7] at h
      refine lv_aload_n hx hb d_a_ran_100 rfl (lv_at hl 0 rfl) ?_
      replace h := bs h
      obtain ⟨x8, hx8, h⟩ := h
      refine gf_a_43 hx hb hts hown hK hG hW (gN_s hx8) d_a_ran_101 ?_
      replace h := bs h
      obtain ⟨x9, hx9, h⟩ := h
      refine gf_a_118 hx hb hts hown hK hG hW (gN_s hx9) d_a_ran_104 ?_
      refine lv_iload_n hx hb d_a_ran_107 rfl (lv_at hl 1 rfl) ?_
      refine lv_bipush (v := (30 : Int32)) hx hb d_a_ran_108 (by decide) ?_
      refine lv_isub hx hb d_a_ran_110 ?_
      replace h := bs h
      obtain ⟨x10, hx10, h⟩ := h
      refine wo_zald hx hb hK hW (t := 2) rfl hx10 d_a_ran_111 ?_
      refine lv_if_eq (tgt := 119) hx hb d_a_ran_112 (by decide) (fun c11 => ?_) (fun c11 => ?_)
      · rw [if_pos c11] at h
        refine lv_iconst (v := (0 : Int32)) hx hb d_a_ran_119 (by decide) ?_
        exact j_a_ran_120 C (0 : Int32) w h _ _ _ hW (lv_sub hl [] rfl)
      · rw [if_neg c11] at h
        refine lv_iconst (v := (1 : Int32)) hx hb d_a_ran_115 (by decide) ?_
        refine lv_goto (tgt := 120) hx hb d_a_ran_116 (by decide) ?_
        exact j_a_ran_120 C (1 : Int32) w h _ _ _ hW (lv_sub hl [] rfl)
set_option maxHeartbeats 4000000 in
set_option maxRecDepth 100000 in
theorem j_a_ran_63 {p : Program} {l : Launch} {e : Env} {s : State} {m : MethodId} {args : Array Value} {below : List Frame} {meth : Method} {c : Code} {D : va_G} {cA : Nat → ClassId} {base : Nat} {r : Int32} {w' : WW} (C : cx b_a_ran (some .int) 2 y_a_ran.cls "ran" p s m args meth c D cA base)   : ∀ (y0 : Nat) (y1 : Int32) (w : WW), f_a_ran_63 y0 y1 w = some (.inl r, w') → ∀ (H : Heap) (locs : List Loc) (ls : Array Slot), wo_S D cls cA base s w H locs → lv_has ls 2 [(0, .ref (base + y0)), (1, .int y1)] → W p l e rm_a_ran s m args below meth c H locs 0 0 (MQ below (wo_Q D cls cA base (some (.int r)) w') args s rm_a_ran.cells rm_a_ran.slots (wo_B base)) (F0 m 63 ls []) := by
  obtain ⟨hx, hb, hr, hml, hown, hts, hlk, hnm, hK, hG⟩ := id C
  intro y0 y1 w h H locs ls hW hl
  unfold f_a_ran_63 at h
  refine lv_iload_n hx hb d_a_ran_63 rfl (lv_at hl 1 rfl) ?_
  refine lv_bipush (v := (20 : Int32)) hx hb d_a_ran_64 (by decide) ?_
  refine lv_icmp_lt (tgt := 88) hx hb d_a_ran_66 (by decide) (fun c5 => ?_) (fun c5 => ?_)
  · rw [if_pos c5] at h
    exact j_a_ran_88 C y0 y1 w h _ _ _ hW (lv_sub hl [0, 1] rfl)
  · rw [if_neg c5] at h
    refine lv_iload_n hx hb d_a_ran_69 rfl (lv_at hl 1 rfl) ?_
    refine lv_bipush (v := (28 : Int32)) hx hb d_a_ran_70 (by decide) ?_
    refine lv_icmp_ge (tgt := 88) hx hb d_a_ran_72 (by decide) (fun c12 => ?_) (fun c12 => ?_)
    · rw [if_pos c12] at h
      exact j_a_ran_88 C y0 y1 w h _ _ _ hW (lv_sub hl [0, 1] rfl)
    · rw [if_neg c12] at h
      refine lv_aload_n hx hb d_a_ran_75 rfl (lv_at hl 0 rfl) ?_
      replace h := bs h
      obtain ⟨x13, hx13, h⟩ := h
      refine gf_a_43 hx hb hts hown hK hG hW (gN_s hx13) d_a_ran_76 ?_
      replace h := bs h
      obtain ⟨x14, hx14, h⟩ := h
      refine gf_a_115 hx hb hts hown hK hG hW (gN_s hx14) d_a_ran_79 ?_
      refine lv_iload_n hx hb d_a_ran_82 rfl (lv_at hl 1 rfl) ?_
      refine lv_bipush (v := (20 : Int32)) hx hb d_a_ran_83 (by decide) ?_
      refine lv_isub hx hb d_a_ran_85 ?_
      replace h := bs h
      obtain ⟨x15, hx15, h⟩ := h
      refine wo_iald hx hb hK hW (t := 0) rfl hx15 d_a_ran_86 ?_
      cases h
      exact wo_iret hx hb hr hlk hW d_a_ran_87
set_option maxHeartbeats 4000000 in
set_option maxRecDepth 100000 in
theorem c_a_ran (l : Launch) (D : va_G) (cA : Nat → ClassId) (base : Nat) {a0 : Nat} {a1 : Int32} {w w' : WW} {r : Int32} (h : f_a_ran a0 a1 w = some (.inl r, w')) : mt l D cls (wo_tys cA) cA base y_a_ran (Cond.code y_a_ran b_a_ran 2 (some .int) :: gt) rm_a_ran [.ref (base + a0), .int a1] w (some (.int r)) w' rm_a_ran.cells rm_a_ran.slots := by
  refine mt_start (by decide) (Nat.le_of_ble_eq_true rfl) ?_
  intro p e s m below meth c ls hx hb hr hml hown hts hlk hnm hK hG hW hl
  have C : cx b_a_ran (some .int) 2 y_a_ran.cls "ran" p s m [.ref (base + a0), .int a1].toArray meth c D cA base := ⟨hx, hb, hr, hml, hown, hts, hlk, hnm, hK, hG⟩
  have hl : lv_has ls 2 [(0, .ref (base + a0)), (1, .int a1)] := hl
  unfold f_a_ran at h
  replace h := its h
  obtain ⟨-, h⟩ := h
  refine lv_iload_n hx hb d_a_ran_0 rfl (lv_at hl 1 rfl) ?_
  refine lv_if_ne (tgt := 12) hx hb d_a_ran_1 (by decide) (fun c1 => ?_) (fun c1 => ?_)
  · rw [if_neg c1] at h
    refine lv_iload_n hx hb d_a_ran_12 rfl (lv_at hl 1 rfl) ?_
    refine lv_iconst (v := (1 : Int32)) hx hb d_a_ran_13 (by decide) ?_
    refine lv_icmp_ne (tgt := 25) hx hb d_a_ran_14 (by decide) (fun c2 => ?_) (fun c2 => ?_)
    · rw [if_neg c2] at h
      refine lv_iload_n hx hb d_a_ran_25 rfl (lv_at hl 1 rfl) ?_
      refine lv_iconst (v := (2 : Int32)) hx hb d_a_ran_26 (by decide) ?_
      refine lv_icmp_ne (tgt := 38) hx hb d_a_ran_27 (by decide) (fun c3 => ?_) (fun c3 => ?_)
      · rw [if_neg c3] at h
        refine lv_iload_n hx hb d_a_ran_38 rfl (lv_at hl 1 rfl) ?_
        refine lv_bipush (v := (10 : Int32)) hx hb d_a_ran_39 (by decide) ?_
        refine lv_icmp_lt (tgt := 63) hx hb d_a_ran_41 (by decide) (fun c4 => ?_) (fun c4 => ?_)
        · rw [if_pos c4] at h
          exact j_a_ran_63 C a0 a1 w h _ _ _ hW (lv_sub hl [0, 1] rfl)
        · rw [if_neg c4] at h
          refine lv_iload_n hx hb d_a_ran_44 rfl (lv_at hl 1 rfl) ?_
          refine lv_bipush (v := (16 : Int32)) hx hb d_a_ran_45 (by decide) ?_
          refine lv_icmp_ge (tgt := 63) hx hb d_a_ran_47 (by decide) (fun c16 => ?_) (fun c16 => ?_)
          · rw [if_pos c16] at h
            exact j_a_ran_63 C a0 a1 w h _ _ _ hW (lv_sub hl [0, 1] rfl)
          · rw [if_neg c16] at h
            refine lv_aload_n hx hb d_a_ran_50 rfl (lv_at hl 0 rfl) ?_
            replace h := bs h
            obtain ⟨x17, hx17, h⟩ := h
            refine gf_a_43 hx hb hts hown hK hG hW (gN_s hx17) d_a_ran_51 ?_
            replace h := bs h
            obtain ⟨x18, hx18, h⟩ := h
            refine gf_a_111 hx hb hts hown hK hG hW (gN_s hx18) d_a_ran_54 ?_
            refine lv_iload_n hx hb d_a_ran_57 rfl (lv_at hl 1 rfl) ?_
            refine lv_bipush (v := (10 : Int32)) hx hb d_a_ran_58 (by decide) ?_
            refine lv_isub hx hb d_a_ran_60 ?_
            replace h := bs h
            obtain ⟨x19, hx19, h⟩ := h
            refine wo_iald hx hb hK hW (t := 0) rfl hx19 d_a_ran_61 ?_
            cases h
            exact wo_iret hx hb hr hlk hW d_a_ran_62
      · rw [if_pos c3] at h
        refine lv_aload_n hx hb d_a_ran_30 rfl (lv_at hl 0 rfl) ?_
        replace h := bs h
        obtain ⟨x20, hx20, h⟩ := h
        refine gf_a_43 hx hb hts hown hK hG hW (gN_s hx20) d_a_ran_31 ?_
        replace h := bs h
        obtain ⟨x21, hx21, h⟩ := h
        refine gf_a_108 hx hb hts hown hK hG hW (gI_s hx21) d_a_ran_34 ?_
        cases h
        exact wo_iret hx hb hr hlk hW d_a_ran_37
    · rw [if_pos c2] at h
      refine lv_aload_n hx hb d_a_ran_17 rfl (lv_at hl 0 rfl) ?_
      replace h := bs h
      obtain ⟨x22, hx22, h⟩ := h
      refine gf_a_43 hx hb hts hown hK hG hW (gN_s hx22) d_a_ran_18 ?_
      replace h := bs h
      obtain ⟨x23, hx23, h⟩ := h
      refine gf_a_105 hx hb hts hown hK hG hW (gI_s hx23) d_a_ran_21 ?_
      cases h
      exact wo_iret hx hb hr hlk hW d_a_ran_24
  · rw [if_pos c1] at h
    refine lv_aload_n hx hb d_a_ran_4 rfl (lv_at hl 0 rfl) ?_
    replace h := bs h
    obtain ⟨x24, hx24, h⟩ := h
    refine gf_a_43 hx hb hts hown hK hG hW (gN_s hx24) d_a_ran_5 ?_
    replace h := bs h
    obtain ⟨x25, hx25, h⟩ := h
    refine gf_a_102 hx hb hts hown hK hG hW (gI_s hx25) d_a_ran_8 ?_
    cases h
    exact wo_iret hx hb hr hlk hW d_a_ran_11
set_option maxHeartbeats 4000000 in
set_option maxRecDepth 100000 in
theorem jx_a_ran_121 {p : Program} {l : Launch} {e : Env} {s : State} {m : MethodId} {args : Array Value} {below : List Frame} {meth : Method} {c : Code} {D : va_G} {cA : Nat → ClassId} {base : Nat} {E : String} {w' : WW} (C : cx b_a_ran (some .int) 2 y_a_ran.cls "ran" p s m args meth c D cA base ∧ (∀ x ∈ c.exceptionTable.toList, ∀ k : Nat, covers x k = false) ∧ l.stackTraces = false)   : ∀  (w : WW), f_a_ran_121  w = some (.inr E, w') → ∀ (H : Heap) (locs : List Loc) (ls : Array Slot), wo_S D cls cA base s w H locs → lv_has ls 2 [] → W p l e rx_a_ran s m args below meth c H locs 0 0 (XQ below (wo_X D cls cA base E w' rx_a_ran.cells rx_a_ran.slots) args s) (F0 m 121 ls []) := by
  obtain ⟨hx, hb, hr, hml, hown, hts, hlk, hnm, hK, hG⟩ := id C.1
  have hnt := C.2.1
  have hst := C.2.2
  intro  w h H locs ls hW hl
  unfold f_a_ran_121 at h
  cases h
  exact wo_throw (names := ["java/lang/RuntimeException", "java/lang/Exception"]) hx hb hst hown hts hG hW hnt hlk (by decide) (by decide) (gt_of (i := 395) (by decide +kernel) (by decide +kernel)) (gt_of (i := 14) (by decide +kernel) (by decide +kernel)) ow_a_64 (hl.1.trans hml.symm) d_a_ran_121 d_a_ran_124 d_a_ran_125 d_a_ran_128 (Nat.le_of_ble_eq_true rfl) (Nat.le_of_ble_eq_true rfl) (Nat.le_of_ble_eq_true rfl) (Nat.le_of_ble_eq_true rfl) (Nat.le_of_ble_eq_true rfl) (Nat.le_of_ble_eq_true rfl)
set_option maxHeartbeats 4000000 in
set_option maxRecDepth 100000 in
theorem jx_a_ran_120 {p : Program} {l : Launch} {e : Env} {s : State} {m : MethodId} {args : Array Value} {below : List Frame} {meth : Method} {c : Code} {D : va_G} {cA : Nat → ClassId} {base : Nat} {E : String} {w' : WW} (C : cx b_a_ran (some .int) 2 y_a_ran.cls "ran" p s m args meth c D cA base ∧ (∀ x ∈ c.exceptionTable.toList, ∀ k : Nat, covers x k = false) ∧ l.stackTraces = false)   : ∀ (z0 : Int32) (w : WW), f_a_ran_120 z0 w = some (.inr E, w') → ∀ (H : Heap) (locs : List Loc) (ls : Array Slot), wo_S D cls cA base s w H locs → lv_has ls 2 [] → W p l e rx_a_ran s m args below meth c H locs 0 0 (XQ below (wo_X D cls cA base E w' rx_a_ran.cells rx_a_ran.slots) args s) (F0 m 120 ls [.int z0]) := by
  obtain ⟨hx, hb, hr, hml, hown, hts, hlk, hnm, hK, hG⟩ := id C.1
  have hnt := C.2.1
  have hst := C.2.2
  intro z0 w h H locs ls hW hl
  unfold f_a_ran_120 at h
  cases h
set_option maxHeartbeats 4000000 in
set_option maxRecDepth 100000 in
theorem jx_a_ran_88 {p : Program} {l : Launch} {e : Env} {s : State} {m : MethodId} {args : Array Value} {below : List Frame} {meth : Method} {c : Code} {D : va_G} {cA : Nat → ClassId} {base : Nat} {E : String} {w' : WW} (C : cx b_a_ran (some .int) 2 y_a_ran.cls "ran" p s m args meth c D cA base ∧ (∀ x ∈ c.exceptionTable.toList, ∀ k : Nat, covers x k = false) ∧ l.stackTraces = false)   : ∀ (y0 : Nat) (y1 : Int32) (w : WW), f_a_ran_88 y0 y1 w = some (.inr E, w') → ∀ (H : Heap) (locs : List Loc) (ls : Array Slot), wo_S D cls cA base s w H locs → lv_has ls 2 [(0, .ref (base + y0)), (1, .int y1)] → W p l e rx_a_ran s m args below meth c H locs 0 0 (XQ below (wo_X D cls cA base E w' rx_a_ran.cells rx_a_ran.slots) args s) (F0 m 88 ls []) := by
  obtain ⟨hx, hb, hr, hml, hown, hts, hlk, hnm, hK, hG⟩ := id C.1
  have hnt := C.2.1
  have hst := C.2.2
  intro y0 y1 w h H locs ls hW hl
  unfold f_a_ran_88 at h
  refine lv_iload_n hx hb d_a_ran_88 rfl (lv_at hl 1 rfl) ?_
  refine lv_bipush (v := (30 : Int32)) hx hb d_a_ran_89 (by decide) ?_
  refine lv_icmp_lt (tgt := 121) hx hb d_a_ran_91 (by decide) (fun c6 => ?_) (fun c6 => ?_)
  · rw [if_pos c6] at h
    exact jx_a_ran_121 C w h _ _ _ hW (lv_sub hl [] rfl)
  · rw [if_neg c6] at h
    refine lv_iload_n hx hb d_a_ran_94 rfl (lv_at hl 1 rfl) ?_
    refine lv_bipush (v := (36 : Int32)) hx hb d_a_ran_95 (by decide) ?_
    refine lv_icmp_ge (tgt := 121) hx hb d_a_ran_97 (by decide) (fun c7 => ?_) (fun c7 => ?_)
    · rw [if_pos c7] at h
      exact jx_a_ran_121 C w h _ _ _ hW (lv_sub hl [] rfl)
    · rw [if_neg c7] at h
      refine lv_aload_n hx hb d_a_ran_100 rfl (lv_at hl 0 rfl) ?_
      replace h := bs h
      obtain ⟨x8, hx8, h⟩ := h
      refine gf_a_43 hx hb hts hown hK hG hW (gN_s hx8) d_a_ran_101 ?_
      replace h := bs h
      obtain ⟨x9, hx9, h⟩ := h
      refine gf_a_118 hx hb hts hown hK hG hW (gN_s hx9) d_a_ran_104 ?_
      refine lv_iload_n hx hb d_a_ran_107 rfl (lv_at hl 1 rfl) ?_
      refine lv_bipush (v := (30 : Int32)) hx hb d_a_ran_108 (by decide) ?_
      refine lv_isub hx hb d_a_ran_110 ?_
      replace h := bs h
      obtain ⟨x10, hx10, h⟩ := h
      refine wo_zald hx hb hK hW (t := 2) rfl hx10 d_a_ran_111 ?_
      refine lv_if_eq (tgt := 119) hx hb d_a_ran_112 (by decide) (fun c11 => ?_) (fun c11 => ?_)
      · rw [if_pos c11] at h
        refine lv_iconst (v := (0 : Int32)) hx hb d_a_ran_119 (by decide) ?_
        exact jx_a_ran_120 C (0 : Int32) w h _ _ _ hW (lv_sub hl [] rfl)
      · rw [if_neg c11] at h
        refine lv_iconst (v := (1 : Int32)) hx hb d_a_ran_115 (by decide) ?_
        refine lv_goto (tgt := 120) hx hb d_a_ran_116 (by decide) ?_
        exact jx_a_ran_120 C (1 : Int32) w h _ _ _ hW (lv_sub hl [] rfl)
set_option maxHeartbeats 4000000 in
set_option maxRecDepth 100000 in
theorem jx_a_ran_63 {p : Program} {l : Launch} {e : Env} {s : State} {m : MethodId} {args : Array Value} {below : List Frame} {meth : Method} {c : Code} {D : va_G} {cA : Nat → ClassId} {base : Nat} {E : String} {w' : WW} (C : cx b_a_ran (some .int) 2 y_a_ran.cls "ran" p s m args meth c D cA base ∧ (∀ x ∈ c.exceptionTable.toList, ∀ k : Nat, covers x k = false) ∧ l.stackTraces = false)   : ∀ (y0 : Nat) (y1 : Int32) (w : WW), f_a_ran_63 y0 y1 w = some (.inr E, w') → ∀ (H : Heap) (locs : List Loc) (ls : Array Slot), wo_S D cls cA base s w H locs → lv_has ls 2 [(0, .ref (base + y0)), (1, .int y1)] → W p l e rx_a_ran s m args below meth c H locs 0 0 (XQ below (wo_X D cls cA base E w' rx_a_ran.cells rx_a_ran.slots) args s) (F0 m 63 ls []) := by
  obtain ⟨hx, hb, hr, hml, hown, hts, hlk, hnm, hK, hG⟩ := id C.1
  have hnt := C.2.1
  have hst := C.2.2
  intro y0 y1 w h H locs ls hW hl
  unfold f_a_ran_63 at h
  refine lv_iload_n hx hb d_a_ran_63 rfl (lv_at hl 1 rfl) ?_
  refine lv_bipush (v := (20 : Int32)) hx hb d_a_ran_64 (by decide) ?_
  refine lv_icmp_lt (tgt := 88) hx hb d_a_ran_66 (by decide) (fun c5 => ?_) (fun c5 => ?_)
  · rw [if_pos c5] at h
    exact jx_a_ran_88 C y0 y1 w h _ _ _ hW (lv_sub hl [0, 1] rfl)
  · rw [if_neg c5] at h
    refine lv_iload_n hx hb d_a_ran_69 rfl (lv_at hl 1 rfl) ?_
    refine lv_bipush (v := (28 : Int32)) hx hb d_a_ran_70 (by decide) ?_
    refine lv_icmp_ge (tgt := 88) hx hb d_a_ran_72 (by decide) (fun c12 => ?_) (fun c12 => ?_)
    · rw [if_pos c12] at h
      exact jx_a_ran_88 C y0 y1 w h _ _ _ hW (lv_sub hl [0, 1] rfl)
    · rw [if_neg c12] at h
      refine lv_aload_n hx hb d_a_ran_75 rfl (lv_at hl 0 rfl) ?_
      replace h := bs h
      obtain ⟨x13, hx13, h⟩ := h
      refine gf_a_43 hx hb hts hown hK hG hW (gN_s hx13) d_a_ran_76 ?_
      replace h := bs h
      obtain ⟨x14, hx14, h⟩ := h
      refine gf_a_115 hx hb hts hown hK hG hW (gN_s hx14) d_a_ran_79 ?_
      refine lv_iload_n hx hb d_a_ran_82 rfl (lv_at hl 1 rfl) ?_
      refine lv_bipush (v := (20 : Int32)) hx hb d_a_ran_83 (by decide) ?_
      refine lv_isub hx hb d_a_ran_85 ?_
      replace h := bs h
      obtain ⟨x15, hx15, h⟩ := h
      refine wo_iald hx hb hK hW (t := 0) rfl hx15 d_a_ran_86 ?_
      cases h
set_option maxHeartbeats 4000000 in
set_option maxRecDepth 100000 in
theorem x_a_ran (l : Launch) (hst : l.stackTraces = false) (D : va_G) (cA : Nat → ClassId) (base : Nat) {a0 : Nat} {a1 : Int32} {w w' : WW} {E : String} (h : f_a_ran a0 a1 w = some (.inr E, w')) : xt l D cls (wo_tys cA) cA base y_a_ran (Cond.code y_a_ran b_a_ran 2 (some .int) :: gt) rx_a_ran [.ref (base + a0), .int a1] w E w' rx_a_ran.cells rx_a_ran.slots := by
  refine xt_start (by decide) (Nat.le_of_ble_eq_true rfl) ?_
  intro p e s m below meth c ls hx hb hr hml hown hts hlk hnm hK hG hW hl hnt
  have C : cx b_a_ran (some .int) 2 y_a_ran.cls "ran" p s m [.ref (base + a0), .int a1].toArray meth c D cA base ∧ (∀ x ∈ c.exceptionTable.toList, ∀ k : Nat, covers x k = false) ∧ l.stackTraces = false := ⟨⟨hx, hb, hr, hml, hown, hts, hlk, hnm, hK, hG⟩, hnt, hst⟩
  have hl : lv_has ls 2 [(0, .ref (base + a0)), (1, .int a1)] := hl
  unfold f_a_ran at h
  replace h := its h
  obtain ⟨-, h⟩ := h
  refine lv_iload_n hx hb d_a_ran_0 rfl (lv_at hl 1 rfl) ?_
  refine lv_if_ne (tgt := 12) hx hb d_a_ran_1 (by decide) (fun c1 => ?_) (fun c1 => ?_)
  · rw [if_neg c1] at h
    refine lv_iload_n hx hb d_a_ran_12 rfl (lv_at hl 1 rfl) ?_
    refine lv_iconst (v := (1 : Int32)) hx hb d_a_ran_13 (by decide) ?_
    refine lv_icmp_ne (tgt := 25) hx hb d_a_ran_14 (by decide) (fun c2 => ?_) (fun c2 => ?_)
    · rw [if_neg c2] at h
      refine lv_iload_n hx hb d_a_ran_25 rfl (lv_at hl 1 rfl) ?_
      refine lv_iconst (v := (2 : Int32)) hx hb d_a_ran_26 (by decide) ?_
      refine lv_icmp_ne (tgt := 38) hx hb d_a_ran_27 (by decide) (fun c3 => ?_) (fun c3 => ?_)
      · rw [if_neg c3] at h
        refine lv_iload_n hx hb d_a_ran_38 rfl (lv_at hl 1 rfl) ?_
        refine lv_bipush (v := (10 : Int32)) hx hb d_a_ran_39 (by decide) ?_
        refine lv_icmp_lt (tgt := 63) hx hb d_a_ran_41 (by decide) (fun c4 => ?_) (fun c4 => ?_)
        · rw [if_pos c4] at h
          exact jx_a_ran_63 C a0 a1 w h _ _ _ hW (lv_sub hl [0, 1] rfl)
        · rw [if_neg c4] at h
          refine lv_iload_n hx hb d_a_ran_44 rfl (lv_at hl 1 rfl) ?_
          refine lv_bipush (v := (16 : Int32)) hx hb d_a_ran_45 (by decide) ?_
          refine lv_icmp_ge (tgt := 63) hx hb d_a_ran_47 (by decide) (fun c16 => ?_) (fun c16 => ?_)
          · rw [if_pos c16] at h
            exact jx_a_ran_63 C a0 a1 w h _ _ _ hW (lv_sub hl [0, 1] rfl)
          · rw [if_neg c16] at h
            refine lv_aload_n hx hb d_a_ran_50 rfl (lv_at hl 0 rfl) ?_
            replace h := bs h
            obtain ⟨x17, hx17, h⟩ := h
            refine gf_a_43 hx hb hts hown hK hG hW (gN_s hx17) d_a_ran_51 ?_
            replace h := bs h
            obtain ⟨x18, hx18, h⟩ := h
            refine gf_a_111 hx hb hts hown hK hG hW (gN_s hx18) d_a_ran_54 ?_
            refine lv_iload_n hx hb d_a_ran_57 rfl (lv_at hl 1 rfl) ?_
            refine lv_bipush (v := (10 : Int32)) hx hb d_a_ran_58 (by decide) ?_
            refine lv_isub hx hb d_a_ran_60 ?_
            replace h := bs h
            obtain ⟨x19, hx19, h⟩ := h
            refine wo_iald hx hb hK hW (t := 0) rfl hx19 d_a_ran_61 ?_
            cases h
      · rw [if_pos c3] at h
        refine lv_aload_n hx hb d_a_ran_30 rfl (lv_at hl 0 rfl) ?_
        replace h := bs h
        obtain ⟨x20, hx20, h⟩ := h
        refine gf_a_43 hx hb hts hown hK hG hW (gN_s hx20) d_a_ran_31 ?_
        replace h := bs h
        obtain ⟨x21, hx21, h⟩ := h
        refine gf_a_108 hx hb hts hown hK hG hW (gI_s hx21) d_a_ran_34 ?_
        cases h
    · rw [if_pos c2] at h
      refine lv_aload_n hx hb d_a_ran_17 rfl (lv_at hl 0 rfl) ?_
      replace h := bs h
      obtain ⟨x22, hx22, h⟩ := h
      refine gf_a_43 hx hb hts hown hK hG hW (gN_s hx22) d_a_ran_18 ?_
      replace h := bs h
      obtain ⟨x23, hx23, h⟩ := h
      refine gf_a_105 hx hb hts hown hK hG hW (gI_s hx23) d_a_ran_21 ?_
      cases h
  · rw [if_pos c1] at h
    refine lv_aload_n hx hb d_a_ran_4 rfl (lv_at hl 0 rfl) ?_
    replace h := bs h
    obtain ⟨x24, hx24, h⟩ := h
    refine gf_a_43 hx hb hts hown hK hG hW (gN_s hx24) d_a_ran_5 ?_
    replace h := bs h
    obtain ⟨x25, hx25, h⟩ := h
    refine gf_a_102 hx hb hts hown hK hG hW (gI_s hx25) d_a_ran_8 ?_
    cases h
abbrev b_va_setNothing : ByteArray := prog_9_method_2_code
def y_va_setNothing : MethodName := ⟨"AlarmForge$Value", "setNothing", "()V"⟩
def rm_va_setNothing : Room := { frames := 0, cells := 0, slots := 0, locals := 0 }
theorem d_va_setNothing_0 : decode b_va_setNothing 0 = .ok (.aload_n 0, 1) := by decide +kernel
theorem d_va_setNothing_1 : decode b_va_setNothing 1 = .ok (.iconst 1, 1) := by decide +kernel
theorem d_va_setNothing_2 : decode b_va_setNothing 2 = .ok (.putfield 9, 3) := by decide +kernel
theorem d_va_setNothing_5 : decode b_va_setNothing 5 = .ok (.return_, 1) := by decide +kernel
theorem kb_va_setNothing {a0 : Nat}  {w : WW} {r : WW} (h : f_va_setNothing a0 w = some r) : kb w a0 8 = true := (its h).1
set_option maxHeartbeats 4000000 in
set_option maxRecDepth 100000 in
theorem c_va_setNothing (l : Launch) (D : va_G) (cA : Nat → ClassId) (base : Nat) {a0 : Nat} {w w' : WW} (h : f_va_setNothing a0 w = some w') : mt l D cls (wo_tys cA) cA base y_va_setNothing (Cond.code y_va_setNothing b_va_setNothing 1 (none) :: gt) rm_va_setNothing [.ref (base + a0)] w none w' rm_va_setNothing.cells rm_va_setNothing.slots := by
  refine mt_start (by decide) (Nat.le_of_ble_eq_true rfl) ?_
  intro p e s m below meth c ls hx hb hr hml hown hts hlk hnm hK hG hW hl
  have C : cx b_va_setNothing (none) 1 y_va_setNothing.cls "setNothing" p s m [.ref (base + a0)].toArray meth c D cA base := ⟨hx, hb, hr, hml, hown, hts, hlk, hnm, hK, hG⟩
  have hl : lv_has ls 1 [(0, .ref (base + a0))] := hl
  unfold f_va_setNothing at h
  replace h := its h
  obtain ⟨-, h⟩ := h
  refine lv_aload_n hx hb d_va_setNothing_0 rfl (lv_at hl 0 rfl) ?_
  refine lv_iconst (v := (1 : Int32)) hx hb d_va_setNothing_1 (by decide) ?_
  replace h := its h
  obtain ⟨c2, h⟩ := h
  replace h := bs h
  obtain ⟨w1, hw1, h⟩ := h
  refine pf_va_9 hx hb hts hown hK hG hW (z_n c2) (z_f c2) (pbi hw1 rfl) d_va_setNothing_2 (fun H locs hW => ?_)
  cases h
  exact wo_vret hx hb hr hlk hW d_va_setNothing_5
abbrev b_va_setOne : ByteArray := prog_9_method_3_code
def y_va_setOne : MethodName := ⟨"AlarmForge$Value", "setOne", "(J)V"⟩
def rm_va_setOne : Room := { frames := 0, cells := 0, slots := 0, locals := 0 }
theorem d_va_setOne_0 : decode b_va_setOne 0 = .ok (.aload_n 0, 1) := by decide +kernel
theorem d_va_setOne_1 : decode b_va_setOne 1 = .ok (.iconst 0, 1) := by decide +kernel
theorem d_va_setOne_2 : decode b_va_setOne 2 = .ok (.putfield 9, 3) := by decide +kernel
theorem d_va_setOne_5 : decode b_va_setOne 5 = .ok (.aload_n 0, 1) := by decide +kernel
theorem d_va_setOne_6 : decode b_va_setOne 6 = .ok (.lload_n 1, 1) := by decide +kernel
theorem d_va_setOne_7 : decode b_va_setOne 7 = .ok (.putfield 15, 3) := by decide +kernel
theorem d_va_setOne_10 : decode b_va_setOne 10 = .ok (.aload_n 0, 1) := by decide +kernel
theorem d_va_setOne_11 : decode b_va_setOne 11 = .ok (.lload_n 1, 1) := by decide +kernel
theorem d_va_setOne_12 : decode b_va_setOne 12 = .ok (.putfield 19, 3) := by decide +kernel
theorem d_va_setOne_15 : decode b_va_setOne 15 = .ok (.aload_n 0, 1) := by decide +kernel
theorem d_va_setOne_16 : decode b_va_setOne 16 = .ok (.lconst 0, 1) := by decide +kernel
theorem d_va_setOne_17 : decode b_va_setOne 17 = .ok (.putfield 22, 3) := by decide +kernel
theorem d_va_setOne_20 : decode b_va_setOne 20 = .ok (.aload_n 0, 1) := by decide +kernel
theorem d_va_setOne_21 : decode b_va_setOne 21 = .ok (.lload_n 1, 1) := by decide +kernel
theorem d_va_setOne_22 : decode b_va_setOne 22 = .ok (.putfield 25, 3) := by decide +kernel
theorem d_va_setOne_25 : decode b_va_setOne 25 = .ok (.return_, 1) := by decide +kernel
theorem kb_va_setOne {a0 : Nat} {a1 : Int64} {w : WW} {r : WW} (h : f_va_setOne a0 a1 w = some r) : kb w a0 8 = true := (its h).1
set_option maxHeartbeats 4000000 in
set_option maxRecDepth 100000 in
theorem c_va_setOne (l : Launch) (D : va_G) (cA : Nat → ClassId) (base : Nat) {a0 : Nat} {a1 : Int64} {w w' : WW} (h : f_va_setOne a0 a1 w = some w') : mt l D cls (wo_tys cA) cA base y_va_setOne (Cond.code y_va_setOne b_va_setOne 3 (none) :: gt) rm_va_setOne [.ref (base + a0), .long a1] w none w' rm_va_setOne.cells rm_va_setOne.slots := by
  refine mt_start (by decide) (Nat.le_of_ble_eq_true rfl) ?_
  intro p e s m below meth c ls hx hb hr hml hown hts hlk hnm hK hG hW hl
  have C : cx b_va_setOne (none) 3 y_va_setOne.cls "setOne" p s m [.ref (base + a0), .long a1].toArray meth c D cA base := ⟨hx, hb, hr, hml, hown, hts, hlk, hnm, hK, hG⟩
  have hl : lv_has ls 3 [(0, .ref (base + a0)), (1, .long a1)] := hl
  unfold f_va_setOne at h
  replace h := its h
  obtain ⟨-, h⟩ := h
  refine lv_aload_n hx hb d_va_setOne_0 rfl (lv_at hl 0 rfl) ?_
  refine lv_iconst (v := (0 : Int32)) hx hb d_va_setOne_1 (by decide) ?_
  replace h := its h
  obtain ⟨c2, h⟩ := h
  replace h := bs h
  obtain ⟨w1, hw1, h⟩ := h
  refine pf_va_9 hx hb hts hown hK hG hW (z_n c2) (z_f c2) (pbi hw1 rfl) d_va_setOne_2 (fun H locs hW => ?_)
  refine lv_aload_n hx hb d_va_setOne_5 rfl (lv_at hl 0 rfl) ?_
  refine lv_lload_n hx hb d_va_setOne_6 rfl (lv_at hl 1 rfl) ?_
  replace h := bs h
  obtain ⟨w3, hw3, h⟩ := h
  refine pf_va_15 hx hb hts hown hK hG hW rfl rfl (pbi hw3 rfl) d_va_setOne_7 (fun H locs hW => ?_)
  refine lv_aload_n hx hb d_va_setOne_10 rfl (lv_at hl 0 rfl) ?_
  refine lv_lload_n hx hb d_va_setOne_11 rfl (lv_at hl 1 rfl) ?_
  replace h := bs h
  obtain ⟨w4, hw4, h⟩ := h
  refine pf_va_19 hx hb hts hown hK hG hW rfl rfl (pbi hw4 rfl) d_va_setOne_12 (fun H locs hW => ?_)
  refine lv_aload_n hx hb d_va_setOne_15 rfl (lv_at hl 0 rfl) ?_
  refine lv_lconst (v := (0 : Int64)) hx hb d_va_setOne_16 (by decide) ?_
  replace h := bs h
  obtain ⟨w5, hw5, h⟩ := h
  refine pf_va_22 hx hb hts hown hK hG hW rfl rfl (pbi hw5 rfl) d_va_setOne_17 (fun H locs hW => ?_)
  refine lv_aload_n hx hb d_va_setOne_20 rfl (lv_at hl 0 rfl) ?_
  refine lv_lload_n hx hb d_va_setOne_21 rfl (lv_at hl 1 rfl) ?_
  replace h := bs h
  obtain ⟨w6, hw6, h⟩ := h
  refine pf_va_25 hx hb hts hown hK hG hW rfl rfl (pbi hw6 rfl) d_va_setOne_22 (fun H locs hW => ?_)
  cases h
  exact wo_vret hx hb hr hlk hW d_va_setOne_25
theorem cv_sa_26 {p : Program} {l : Launch} {e : Env} {R : Room} {s : State} {m : MethodId} {args : Array Value} {below : List Frame} {meth : Method} {c : Code} {H : Heap} {locs : List Loc} {cells slots : Nat} {Q : State → Prop} {D : va_G} {cA : Nat → ClassId} {base : Nat} {w w' : WW} {cc : ByteArray} {pc nL : Nat} {ls : Array Slot} {rest st0 As : List Value} {ov : Option Value} {b : Nat} (hx : p.tables.exec = Jvm.exec) (hb : c.code = cc) (hml : c.maxLocals = nL) (hown : s.vm.findClass Rc_sa = some m.cls) (hts : ∀ w ∈ gt, w.before args s = true) (hK : va_K D cls (wo_tys cA) s) (hG : wo_G cA base s) (hW : wo_S D cls cA base s w H locs) (hM : mt l D cls (wo_tys cA) cA base y_va_setNothing (Cond.code y_va_setNothing b_va_setNothing 1 (none) :: gt) rm_va_setNothing (.ref (base + b) :: As) w ov w' rm_va_setNothing.cells rm_va_setNothing.slots) (hkb : kb w b 8 = true) (hR : rm_va_setNothing.frames + 1 ≤ R.frames ∧ 8 + (1 + 11) + rm_va_setNothing.locals ≤ R.locals) (hf : cells + rm_va_setNothing.cells ≤ R.cells ∧ slots + rm_va_setNothing.slots ≤ R.slots) (hn : As.length = 0) (hsz : ls.size = nL) (hst : st0 = As.reverse ++ .ref (base + b) :: rest) (hcat : (rest.map fun v => v.category).sum ≤ 8) (hdg : decode cc pc = .ok (.invokevirtual 26, 3)) (kk : ∀ (H1 : Heap) (locs1 : List Loc), wo_S D cls cA base s w' H1 locs1 → W p l e R s m args below meth c H1 locs1 (cells + rm_va_setNothing.cells) (slots + rm_va_setNothing.slots) Q (F0 m (pc + 3) ls (ov.toList ++ rest))) : W p l e R s m args below meth c H locs cells slots Q (F0 m pc ls st0) :=
  wo_callV (C := Rc_va) hx hb hml hown hts hK hG hW hM hkb rfl (gt_of (i := 897) (by decide +kernel) (by decide +kernel)) (gt_of (i := 898) (by decide +kernel) (by decide +kernel)) (gt_of (i := 899) (by decide +kernel) (by decide +kernel)) (gt_of (i := 9) (by decide +kernel) (by decide +kernel)) (gt_of (i := 900) (by decide +kernel) (by decide +kernel)) (by decide +kernel) hR hf hn hsz hst hcat hdg kk
theorem cv_sa_29 {p : Program} {l : Launch} {e : Env} {R : Room} {s : State} {m : MethodId} {args : Array Value} {below : List Frame} {meth : Method} {c : Code} {H : Heap} {locs : List Loc} {cells slots : Nat} {Q : State → Prop} {D : va_G} {cA : Nat → ClassId} {base : Nat} {w w' : WW} {cc : ByteArray} {pc nL : Nat} {ls : Array Slot} {rest st0 As : List Value} {ov : Option Value} {b : Nat} (hx : p.tables.exec = Jvm.exec) (hb : c.code = cc) (hml : c.maxLocals = nL) (hown : s.vm.findClass Rc_sa = some m.cls) (hts : ∀ w ∈ gt, w.before args s = true) (hK : va_K D cls (wo_tys cA) s) (hG : wo_G cA base s) (hW : wo_S D cls cA base s w H locs) (hM : mt l D cls (wo_tys cA) cA base y_va_setOne (Cond.code y_va_setOne b_va_setOne 3 (none) :: gt) rm_va_setOne (.ref (base + b) :: As) w ov w' rm_va_setOne.cells rm_va_setOne.slots) (hkb : kb w b 8 = true) (hR : rm_va_setOne.frames + 1 ≤ R.frames ∧ 8 + (3 + 11) + rm_va_setOne.locals ≤ R.locals) (hf : cells + rm_va_setOne.cells ≤ R.cells ∧ slots + rm_va_setOne.slots ≤ R.slots) (hn : As.length = 1) (hsz : ls.size = nL) (hst : st0 = As.reverse ++ .ref (base + b) :: rest) (hcat : (rest.map fun v => v.category).sum ≤ 8) (hdg : decode cc pc = .ok (.invokevirtual 29, 3)) (kk : ∀ (H1 : Heap) (locs1 : List Loc), wo_S D cls cA base s w' H1 locs1 → W p l e R s m args below meth c H1 locs1 (cells + rm_va_setOne.cells) (slots + rm_va_setOne.slots) Q (F0 m (pc + 3) ls (ov.toList ++ rest))) : W p l e R s m args below meth c H locs cells slots Q (F0 m pc ls st0) :=
  wo_callV (C := Rc_va) hx hb hml hown hts hK hG hW hM hkb rfl (gt_of (i := 901) (by decide +kernel) (by decide +kernel)) (gt_of (i := 902) (by decide +kernel) (by decide +kernel)) (gt_of (i := 903) (by decide +kernel) (by decide +kernel)) (gt_of (i := 9) (by decide +kernel) (by decide +kernel)) (gt_of (i := 904) (by decide +kernel) (by decide +kernel)) (by decide +kernel) hR hf hn hsz hst hcat hdg kk
abbrev b_sa_setFirst : ByteArray := prog_7_method_2_code
def y_sa_setFirst : MethodName := ⟨"AlarmForge$State", "setFirst", "()V"⟩
def rm_sa_setFirst : Room := { frames := 1, cells := 0, slots := 0, locals := 22 }
theorem d_sa_setFirst_0 : decode b_sa_setFirst 0 = .ok (.aload_n 0, 1) := by decide +kernel
theorem d_sa_setFirst_1 : decode b_sa_setFirst 1 = .ok (.iconst 0, 1) := by decide +kernel
theorem d_sa_setFirst_2 : decode b_sa_setFirst 2 = .ok (.putfield 22, 3) := by decide +kernel
theorem d_sa_setFirst_5 : decode b_sa_setFirst 5 = .ok (.iconst 0, 1) := by decide +kernel
theorem d_sa_setFirst_6 : decode b_sa_setFirst 6 = .ok (.istore_n 1, 1) := by decide +kernel
theorem d_sa_setFirst_7 : decode b_sa_setFirst 7 = .ok (.iload_n 1, 1) := by decide +kernel
theorem d_sa_setFirst_8 : decode b_sa_setFirst 8 = .ok (.bipush (6), 2) := by decide +kernel
theorem d_sa_setFirst_10 : decode b_sa_setFirst 10 = .ok (.if_icmp .ge (25), 3) := by decide +kernel
theorem d_sa_setFirst_13 : decode b_sa_setFirst 13 = .ok (.aload_n 0, 1) := by decide +kernel
theorem d_sa_setFirst_14 : decode b_sa_setFirst 14 = .ok (.getfield 11, 3) := by decide +kernel
theorem d_sa_setFirst_17 : decode b_sa_setFirst 17 = .ok (.iload_n 1, 1) := by decide +kernel
theorem d_sa_setFirst_18 : decode b_sa_setFirst 18 = .ok (.aaload, 1) := by decide +kernel
theorem d_sa_setFirst_19 : decode b_sa_setFirst 19 = .ok (.invokevirtual 26, 3) := by decide +kernel
theorem d_sa_setFirst_22 : decode b_sa_setFirst 22 = .ok (.aload_n 0, 1) := by decide +kernel
theorem d_sa_setFirst_23 : decode b_sa_setFirst 23 = .ok (.getfield 18, 3) := by decide +kernel
theorem d_sa_setFirst_26 : decode b_sa_setFirst 26 = .ok (.iload_n 1, 1) := by decide +kernel
theorem d_sa_setFirst_27 : decode b_sa_setFirst 27 = .ok (.iconst 1, 1) := by decide +kernel
theorem d_sa_setFirst_28 : decode b_sa_setFirst 28 = .ok (.bastore, 1) := by decide +kernel
theorem d_sa_setFirst_29 : decode b_sa_setFirst 29 = .ok (.iinc 1 (1), 3) := by decide +kernel
theorem d_sa_setFirst_32 : decode b_sa_setFirst 32 = .ok (.goto (-25), 3) := by decide +kernel
theorem d_sa_setFirst_35 : decode b_sa_setFirst 35 = .ok (.iconst 0, 1) := by decide +kernel
theorem d_sa_setFirst_36 : decode b_sa_setFirst 36 = .ok (.istore_n 1, 1) := by decide +kernel
theorem d_sa_setFirst_37 : decode b_sa_setFirst 37 = .ok (.iload_n 1, 1) := by decide +kernel
theorem d_sa_setFirst_38 : decode b_sa_setFirst 38 = .ok (.bipush (8), 2) := by decide +kernel
theorem d_sa_setFirst_40 : decode b_sa_setFirst 40 = .ok (.if_icmp .ge (22), 3) := by decide +kernel
theorem d_sa_setFirst_43 : decode b_sa_setFirst 43 = .ok (.aload_n 0, 1) := by decide +kernel
theorem d_sa_setFirst_44 : decode b_sa_setFirst 44 = .ok (.getfield 11, 3) := by decide +kernel
theorem d_sa_setFirst_47 : decode b_sa_setFirst 47 = .ok (.bipush (6), 2) := by decide +kernel
theorem d_sa_setFirst_49 : decode b_sa_setFirst 49 = .ok (.iload_n 1, 1) := by decide +kernel
theorem d_sa_setFirst_50 : decode b_sa_setFirst 50 = .ok (.iadd, 1) := by decide +kernel
theorem d_sa_setFirst_51 : decode b_sa_setFirst 51 = .ok (.aaload, 1) := by decide +kernel
theorem d_sa_setFirst_52 : decode b_sa_setFirst 52 = .ok (.lconst 0, 1) := by decide +kernel
theorem d_sa_setFirst_53 : decode b_sa_setFirst 53 = .ok (.invokevirtual 29, 3) := by decide +kernel
theorem d_sa_setFirst_56 : decode b_sa_setFirst 56 = .ok (.iinc 1 (1), 3) := by decide +kernel
theorem d_sa_setFirst_59 : decode b_sa_setFirst 59 = .ok (.goto (-22), 3) := by decide +kernel
theorem d_sa_setFirst_62 : decode b_sa_setFirst 62 = .ok (.return_, 1) := by decide +kernel
theorem kb_sa_setFirst {a0 : Nat}  {w : WW} {r : WW} (h : f_sa_setFirst a0 w = some r) : kb w a0 7 = true := (its h).1
set_option maxHeartbeats 4000000 in
set_option maxRecDepth 100000 in
theorem j_sa_setFirst_37 {p : Program} {l : Launch} {e : Env} {s : State} {m : MethodId} {args : Array Value} {below : List Frame} {meth : Method} {c : Code} {D : va_G} {cA : Nat → ClassId} {base : Nat} {w' : WW} (C : cx b_sa_setFirst (none) 2 y_sa_setFirst.cls "setFirst" p s m args meth c D cA base)   : ∀ n : Nat, ∀ (y0 : Nat) (y1 : Int32) (w : WW), f_sa_setFirst_37 n y0 y1 w = some w' → ∀ (H : Heap) (locs : List Loc) (ls : Array Slot), wo_S D cls cA base s w H locs → lv_has ls 2 [(0, .ref (base + y0)), (1, .int y1)] → W p l e rm_sa_setFirst s m args below meth c H locs 0 0 (MQ below (wo_Q D cls cA base none w') args s rm_sa_setFirst.cells rm_sa_setFirst.slots (wo_B base)) (F0 m 37 ls []) := by
  obtain ⟨hx, hb, hr, hml, hown, hts, hlk, hnm, hK, hG⟩ := id C
  intro n
  induction n with
  | zero => intro y0 y1 w h; cases h
  | succ n ih =>
    intro y0 y1 w h H locs ls hW hl
    rw [f_sa_setFirst_37] at h
    refine lv_iload_n hx hb d_sa_setFirst_37 rfl (lv_at hl 1 rfl) ?_
    refine lv_bipush (v := (8 : Int32)) hx hb d_sa_setFirst_38 (by decide) ?_
    refine lv_icmp_ge (tgt := 62) hx hb d_sa_setFirst_40 (by decide) (fun c4 => ?_) (fun c4 => ?_)
    · rw [if_pos c4] at h
      cases h
      exact wo_vret hx hb hr hlk hW d_sa_setFirst_62
    · rw [if_neg c4] at h
      refine lv_aload_n hx hb d_sa_setFirst_43 rfl (lv_at hl 0 rfl) ?_
      replace h := bs h
      obtain ⟨x5, hx5, h⟩ := h
      refine gf_sa_11 hx hb hts hown hK hG hW (gN_s hx5) d_sa_setFirst_44 ?_
      refine lv_bipush (v := (6 : Int32)) hx hb d_sa_setFirst_47 (by decide) ?_
      refine lv_iload_n hx hb d_sa_setFirst_49 rfl (lv_at hl 1 rfl) ?_
      refine lv_iadd hx hb d_sa_setFirst_50 ?_
      replace h := bs h
      obtain ⟨x6, hx6, h⟩ := h
      refine wo_aald hx hb hK hW (t := 4) rfl (rN_s hx6) d_sa_setFirst_51 ?_
      refine lv_lconst (v := (0 : Int64)) hx hb d_sa_setFirst_52 (by decide) ?_
      replace h := bs h
      obtain ⟨w7, hw7, h⟩ := h
      refine cv_sa_29 (As := [.long (0 : Int64)]) (rest := []) hx hb hml hown hts hK hG hW (c_va_setOne l D cA base hw7) (kb_va_setOne hw7) ⟨Nat.le_of_ble_eq_true rfl, Nat.le_of_ble_eq_true rfl⟩ ⟨Nat.le_of_ble_eq_true rfl, Nat.le_of_ble_eq_true rfl⟩ rfl hl.1 rfl (Nat.le_of_ble_eq_true rfl) d_sa_setFirst_53 (fun H locs hW => ?_)
      refine lv_iinc (v := (y1 + (1 : Int32))) (lv' := [(1, .int (y1 + (1 : Int32))), (0, .ref (base + y0))]) hx hb d_sa_setFirst_56 hl (k := 1) rfl rfl (by decide) rfl (fun ls hl => ?_)
      refine lv_goto (tgt := 37) hx hb d_sa_setFirst_59 (by decide) ?_
      exact ih y0 (y1 + (1 : Int32)) w7 h _ _ _ hW (lv_sub hl [1, 0] rfl)
set_option maxHeartbeats 4000000 in
set_option maxRecDepth 100000 in
theorem j_sa_setFirst_7 {p : Program} {l : Launch} {e : Env} {s : State} {m : MethodId} {args : Array Value} {below : List Frame} {meth : Method} {c : Code} {D : va_G} {cA : Nat → ClassId} {base : Nat} {w' : WW} (C : cx b_sa_setFirst (none) 2 y_sa_setFirst.cls "setFirst" p s m args meth c D cA base)   : ∀ n : Nat, ∀ (y0 : Nat) (y1 : Int32) (w : WW), f_sa_setFirst_7 n y0 y1 w = some w' → ∀ (H : Heap) (locs : List Loc) (ls : Array Slot), wo_S D cls cA base s w H locs → lv_has ls 2 [(0, .ref (base + y0)), (1, .int y1)] → W p l e rm_sa_setFirst s m args below meth c H locs 0 0 (MQ below (wo_Q D cls cA base none w') args s rm_sa_setFirst.cells rm_sa_setFirst.slots (wo_B base)) (F0 m 7 ls []) := by
  obtain ⟨hx, hb, hr, hml, hown, hts, hlk, hnm, hK, hG⟩ := id C
  intro n
  induction n with
  | zero => intro y0 y1 w h; cases h
  | succ n ih =>
    intro y0 y1 w h H locs ls hW hl
    rw [f_sa_setFirst_7] at h
    refine lv_iload_n hx hb d_sa_setFirst_7 rfl (lv_at hl 1 rfl) ?_
    refine lv_bipush (v := (6 : Int32)) hx hb d_sa_setFirst_8 (by decide) ?_
    refine lv_icmp_ge (tgt := 35) hx hb d_sa_setFirst_10 (by decide) (fun c3 => ?_) (fun c3 => ?_)
    · rw [if_pos c3] at h
      refine lv_iconst (v := (0 : Int32)) hx hb d_sa_setFirst_35 (by decide) ?_
      refine lv_istore_n (lv' := [(1, .int (0 : Int32)), (0, .ref (base + y0))]) hx hb d_sa_setFirst_36 rfl hl (by decide) rfl (fun ls hl => ?_)
      exact j_sa_setFirst_37 C KK y0 (0 : Int32) w h _ _ _ hW (lv_sub hl [1, 0] rfl)
    · rw [if_neg c3] at h
      refine lv_aload_n hx hb d_sa_setFirst_13 rfl (lv_at hl 0 rfl) ?_
      replace h := bs h
      obtain ⟨x8, hx8, h⟩ := h
      refine gf_sa_11 hx hb hts hown hK hG hW (gN_s hx8) d_sa_setFirst_14 ?_
      refine lv_iload_n hx hb d_sa_setFirst_17 rfl (lv_at hl 1 rfl) ?_
      replace h := bs h
      obtain ⟨x9, hx9, h⟩ := h
      refine wo_aald hx hb hK hW (t := 4) rfl (rN_s hx9) d_sa_setFirst_18 ?_
      replace h := bs h
      obtain ⟨w10, hw10, h⟩ := h
      refine cv_sa_26 (As := []) (rest := []) hx hb hml hown hts hK hG hW (c_va_setNothing l D cA base hw10) (kb_va_setNothing hw10) ⟨Nat.le_of_ble_eq_true rfl, Nat.le_of_ble_eq_true rfl⟩ ⟨Nat.le_of_ble_eq_true rfl, Nat.le_of_ble_eq_true rfl⟩ rfl hl.1 rfl (Nat.le_of_ble_eq_true rfl) d_sa_setFirst_19 (fun H locs hW => ?_)
      refine lv_aload_n hx hb d_sa_setFirst_22 rfl (lv_at hl 0 rfl) ?_
      replace h := bs h
      obtain ⟨x11, hx11, h⟩ := h
      refine gf_sa_18 hx hb hts hown hK hG hW (gN_s hx11) d_sa_setFirst_23 ?_
      refine lv_iload_n hx hb d_sa_setFirst_26 rfl (lv_at hl 1 rfl) ?_
      refine lv_iconst (v := (1 : Int32)) hx hb d_sa_setFirst_27 (by decide) ?_
      replace h := bs h
      obtain ⟨w12, hw12, h⟩ := h
      refine wo_zast hx hb hK hW (t := 2) rfl hw12 d_sa_setFirst_28 (fun H locs hW => ?_)
      refine lv_iinc (v := (y1 + (1 : Int32))) (lv' := [(1, .int (y1 + (1 : Int32))), (0, .ref (base + y0))]) hx hb d_sa_setFirst_29 hl (k := 1) rfl rfl (by decide) rfl (fun ls hl => ?_)
      refine lv_goto (tgt := 7) hx hb d_sa_setFirst_32 (by decide) ?_
      exact ih y0 (y1 + (1 : Int32)) w12 h _ _ _ hW (lv_sub hl [1, 0] rfl)
set_option maxHeartbeats 4000000 in
set_option maxRecDepth 100000 in
theorem c_sa_setFirst (l : Launch) (D : va_G) (cA : Nat → ClassId) (base : Nat) {a0 : Nat} {w w' : WW} (h : f_sa_setFirst a0 w = some w') : mt l D cls (wo_tys cA) cA base y_sa_setFirst (Cond.code y_sa_setFirst b_sa_setFirst 2 (none) :: gt) rm_sa_setFirst [.ref (base + a0)] w none w' rm_sa_setFirst.cells rm_sa_setFirst.slots := by
  refine mt_start (by decide) (Nat.le_of_ble_eq_true rfl) ?_
  intro p e s m below meth c ls hx hb hr hml hown hts hlk hnm hK hG hW hl
  have C : cx b_sa_setFirst (none) 2 y_sa_setFirst.cls "setFirst" p s m [.ref (base + a0)].toArray meth c D cA base := ⟨hx, hb, hr, hml, hown, hts, hlk, hnm, hK, hG⟩
  have hl : lv_has ls 2 [(0, .ref (base + a0))] := hl
  unfold f_sa_setFirst at h
  replace h := its h
  obtain ⟨-, h⟩ := h
  refine lv_aload_n hx hb d_sa_setFirst_0 rfl (lv_at hl 0 rfl) ?_
  refine lv_iconst (v := (0 : Int32)) hx hb d_sa_setFirst_1 (by decide) ?_
  replace h := its h
  obtain ⟨c2, h⟩ := h
  replace h := bs h
  obtain ⟨w1, hw1, h⟩ := h
  refine pf_sa_22 hx hb hts hown hK hG hW (z_n c2) (z_f c2) (pbi hw1 rfl) d_sa_setFirst_2 (fun H locs hW => ?_)
  refine lv_iconst (v := (0 : Int32)) hx hb d_sa_setFirst_5 (by decide) ?_
  refine lv_istore_n (lv' := [(1, .int (0 : Int32)), (0, .ref (base + a0))]) hx hb d_sa_setFirst_6 rfl hl (by decide) rfl (fun ls hl => ?_)
  exact j_sa_setFirst_7 C KK a0 (0 : Int32) w1 h _ _ _ hW (lv_sub hl [1, 0] rfl)
abbrev b_va_copy : ByteArray := prog_9_method_5_code
def y_va_copy : MethodName := ⟨"AlarmForge$Value", "copy", "(LAlarmForge$Value;)V"⟩
def rm_va_copy : Room := { frames := 0, cells := 0, slots := 0, locals := 0 }
theorem d_va_copy_0 : decode b_va_copy 0 = .ok (.aload_n 0, 1) := by decide +kernel
theorem d_va_copy_1 : decode b_va_copy 1 = .ok (.aload_n 1, 1) := by decide +kernel
theorem d_va_copy_2 : decode b_va_copy 2 = .ok (.getfield 9, 3) := by decide +kernel
theorem d_va_copy_5 : decode b_va_copy 5 = .ok (.putfield 9, 3) := by decide +kernel
theorem d_va_copy_8 : decode b_va_copy 8 = .ok (.aload_n 0, 1) := by decide +kernel
theorem d_va_copy_9 : decode b_va_copy 9 = .ok (.aload_n 1, 1) := by decide +kernel
theorem d_va_copy_10 : decode b_va_copy 10 = .ok (.getfield 15, 3) := by decide +kernel
theorem d_va_copy_13 : decode b_va_copy 13 = .ok (.putfield 15, 3) := by decide +kernel
theorem d_va_copy_16 : decode b_va_copy 16 = .ok (.aload_n 0, 1) := by decide +kernel
theorem d_va_copy_17 : decode b_va_copy 17 = .ok (.aload_n 1, 1) := by decide +kernel
theorem d_va_copy_18 : decode b_va_copy 18 = .ok (.getfield 19, 3) := by decide +kernel
theorem d_va_copy_21 : decode b_va_copy 21 = .ok (.putfield 19, 3) := by decide +kernel
theorem d_va_copy_24 : decode b_va_copy 24 = .ok (.aload_n 0, 1) := by decide +kernel
theorem d_va_copy_25 : decode b_va_copy 25 = .ok (.aload_n 1, 1) := by decide +kernel
theorem d_va_copy_26 : decode b_va_copy 26 = .ok (.getfield 22, 3) := by decide +kernel
theorem d_va_copy_29 : decode b_va_copy 29 = .ok (.putfield 22, 3) := by decide +kernel
theorem d_va_copy_32 : decode b_va_copy 32 = .ok (.aload_n 0, 1) := by decide +kernel
theorem d_va_copy_33 : decode b_va_copy 33 = .ok (.aload_n 1, 1) := by decide +kernel
theorem d_va_copy_34 : decode b_va_copy 34 = .ok (.getfield 25, 3) := by decide +kernel
theorem d_va_copy_37 : decode b_va_copy 37 = .ok (.putfield 25, 3) := by decide +kernel
theorem d_va_copy_40 : decode b_va_copy 40 = .ok (.return_, 1) := by decide +kernel
theorem kb_va_copy {a0 a1 : Nat}  {w : WW} {r : WW} (h : f_va_copy a0 a1 w = some r) : kb w a0 8 = true := (its h).1
set_option maxHeartbeats 4000000 in
set_option maxRecDepth 100000 in
theorem c_va_copy (l : Launch) (D : va_G) (cA : Nat → ClassId) (base : Nat) {a0 : Nat} {a1 : Nat} {w w' : WW} (h : f_va_copy a0 a1 w = some w') : mt l D cls (wo_tys cA) cA base y_va_copy (Cond.code y_va_copy b_va_copy 2 (none) :: gt) rm_va_copy [.ref (base + a0), .ref (base + a1)] w none w' rm_va_copy.cells rm_va_copy.slots := by
  refine mt_start (by decide) (Nat.le_of_ble_eq_true rfl) ?_
  intro p e s m below meth c ls hx hb hr hml hown hts hlk hnm hK hG hW hl
  have C : cx b_va_copy (none) 2 y_va_copy.cls "copy" p s m [.ref (base + a0), .ref (base + a1)].toArray meth c D cA base := ⟨hx, hb, hr, hml, hown, hts, hlk, hnm, hK, hG⟩
  have hl : lv_has ls 2 [(0, .ref (base + a0)), (1, .ref (base + a1))] := hl
  unfold f_va_copy at h
  replace h := its h
  obtain ⟨-, h⟩ := h
  refine lv_aload_n hx hb d_va_copy_0 rfl (lv_at hl 0 rfl) ?_
  refine lv_aload_n hx hb d_va_copy_1 rfl (lv_at hl 1 rfl) ?_
  replace h := bs h
  obtain ⟨x1, hx1, h⟩ := h
  refine gf_va_9 hx hb hts hown hK hG hW (gI_s hx1) d_va_copy_2 ?_
  replace h := its h
  obtain ⟨c3, h⟩ := h
  replace h := bs h
  obtain ⟨w2, hw2, h⟩ := h
  refine pf_va_9 hx hb hts hown hK hG hW (z_n c3) (z_f c3) (pbi hw2 rfl) d_va_copy_5 (fun H locs hW => ?_)
  refine lv_aload_n hx hb d_va_copy_8 rfl (lv_at hl 0 rfl) ?_
  refine lv_aload_n hx hb d_va_copy_9 rfl (lv_at hl 1 rfl) ?_
  replace h := bs h
  obtain ⟨x4, hx4, h⟩ := h
  refine gf_va_15 hx hb hts hown hK hG hW (gL_s hx4) d_va_copy_10 ?_
  replace h := bs h
  obtain ⟨w5, hw5, h⟩ := h
  refine pf_va_15 hx hb hts hown hK hG hW rfl rfl (pbi hw5 rfl) d_va_copy_13 (fun H locs hW => ?_)
  refine lv_aload_n hx hb d_va_copy_16 rfl (lv_at hl 0 rfl) ?_
  refine lv_aload_n hx hb d_va_copy_17 rfl (lv_at hl 1 rfl) ?_
  replace h := bs h
  obtain ⟨x6, hx6, h⟩ := h
  refine gf_va_19 hx hb hts hown hK hG hW (gL_s hx6) d_va_copy_18 ?_
  replace h := bs h
  obtain ⟨w7, hw7, h⟩ := h
  refine pf_va_19 hx hb hts hown hK hG hW rfl rfl (pbi hw7 rfl) d_va_copy_21 (fun H locs hW => ?_)
  refine lv_aload_n hx hb d_va_copy_24 rfl (lv_at hl 0 rfl) ?_
  refine lv_aload_n hx hb d_va_copy_25 rfl (lv_at hl 1 rfl) ?_
  replace h := bs h
  obtain ⟨x8, hx8, h⟩ := h
  refine gf_va_22 hx hb hts hown hK hG hW (gL_s hx8) d_va_copy_26 ?_
  replace h := bs h
  obtain ⟨w9, hw9, h⟩ := h
  refine pf_va_22 hx hb hts hown hK hG hW rfl rfl (pbi hw9 rfl) d_va_copy_29 (fun H locs hW => ?_)
  refine lv_aload_n hx hb d_va_copy_32 rfl (lv_at hl 0 rfl) ?_
  refine lv_aload_n hx hb d_va_copy_33 rfl (lv_at hl 1 rfl) ?_
  replace h := bs h
  obtain ⟨x10, hx10, h⟩ := h
  refine gf_va_25 hx hb hts hown hK hG hW (gL_s hx10) d_va_copy_34 ?_
  replace h := bs h
  obtain ⟨w11, hw11, h⟩ := h
  refine pf_va_25 hx hb hts hown hK hG hW rfl rfl (pbi hw11 rfl) d_va_copy_37 (fun H locs hW => ?_)
  cases h
  exact wo_vret hx hb hr hlk hW d_va_copy_40
abbrev b_an_warnIf : ByteArray := prog_2_method_3_code
def y_an_warnIf : MethodName := ⟨"AlarmForge$Analyser", "warnIf", "(ZII)V"⟩
def rm_an_warnIf : Room := { frames := 0, cells := 0, slots := 0, locals := 0 }
theorem d_an_warnIf_0 : decode b_an_warnIf 0 = .ok (.iconst 1, 1) := by decide +kernel
theorem d_an_warnIf_1 : decode b_an_warnIf 1 = .ok (.iload_n 2, 1) := by decide +kernel
theorem d_an_warnIf_2 : decode b_an_warnIf 2 = .ok (.ishl, 1) := by decide +kernel
theorem d_an_warnIf_3 : decode b_an_warnIf 3 = .ok (.istore 4, 2) := by decide +kernel
theorem d_an_warnIf_5 : decode b_an_warnIf 5 = .ok (.iload_n 1, 1) := by decide +kernel
theorem d_an_warnIf_6 : decode b_an_warnIf 6 = .ok (.ifCond .eq (43), 3) := by decide +kernel
theorem d_an_warnIf_9 : decode b_an_warnIf 9 = .ok (.aload_n 0, 1) := by decide +kernel
theorem d_an_warnIf_10 : decode b_an_warnIf 10 = .ok (.getfield 50, 3) := by decide +kernel
theorem d_an_warnIf_13 : decode b_an_warnIf 13 = .ok (.ifCond .eq (36), 3) := by decide +kernel
theorem d_an_warnIf_16 : decode b_an_warnIf 16 = .ok (.aload_n 0, 1) := by decide +kernel
theorem d_an_warnIf_17 : decode b_an_warnIf 17 = .ok (.getfield 29, 3) := by decide +kernel
theorem d_an_warnIf_20 : decode b_an_warnIf 20 = .ok (.iload_n 3, 1) := by decide +kernel
theorem d_an_warnIf_21 : decode b_an_warnIf 21 = .ok (.iaload, 1) := by decide +kernel
theorem d_an_warnIf_22 : decode b_an_warnIf 22 = .ok (.iload 4, 2) := by decide +kernel
theorem d_an_warnIf_24 : decode b_an_warnIf 24 = .ok (.iand, 1) := by decide +kernel
theorem d_an_warnIf_25 : decode b_an_warnIf 25 = .ok (.ifCond .ne (24), 3) := by decide +kernel
theorem d_an_warnIf_28 : decode b_an_warnIf 28 = .ok (.aload_n 0, 1) := by decide +kernel
theorem d_an_warnIf_29 : decode b_an_warnIf 29 = .ok (.getfield 29, 3) := by decide +kernel
theorem d_an_warnIf_32 : decode b_an_warnIf 32 = .ok (.iload_n 3, 1) := by decide +kernel
theorem d_an_warnIf_33 : decode b_an_warnIf 33 = .ok (.dup2, 1) := by decide +kernel
theorem d_an_warnIf_34 : decode b_an_warnIf 34 = .ok (.iaload, 1) := by decide +kernel
theorem d_an_warnIf_35 : decode b_an_warnIf 35 = .ok (.iload 4, 2) := by decide +kernel
theorem d_an_warnIf_37 : decode b_an_warnIf 37 = .ok (.ior, 1) := by decide +kernel
theorem d_an_warnIf_38 : decode b_an_warnIf 38 = .ok (.iastore, 1) := by decide +kernel
theorem d_an_warnIf_39 : decode b_an_warnIf 39 = .ok (.aload_n 0, 1) := by decide +kernel
theorem d_an_warnIf_40 : decode b_an_warnIf 40 = .ok (.dup, 1) := by decide +kernel
theorem d_an_warnIf_41 : decode b_an_warnIf 41 = .ok (.getfield 47, 3) := by decide +kernel
theorem d_an_warnIf_44 : decode b_an_warnIf 44 = .ok (.iconst 1, 1) := by decide +kernel
theorem d_an_warnIf_45 : decode b_an_warnIf 45 = .ok (.iadd, 1) := by decide +kernel
theorem d_an_warnIf_46 : decode b_an_warnIf 46 = .ok (.putfield 47, 3) := by decide +kernel
theorem d_an_warnIf_49 : decode b_an_warnIf 49 = .ok (.return_, 1) := by decide +kernel
theorem kb_an_warnIf {a0 : Nat} {a1 : Int32} {a2 : Int32} {a3 : Int32} {w : WW} {r : WW} (h : f_an_warnIf a0 a1 a2 a3 w = some r) : kb w a0 6 = true := (its h).1
set_option maxHeartbeats 4000000 in
set_option maxRecDepth 100000 in
theorem j_an_warnIf_49 {p : Program} {l : Launch} {e : Env} {s : State} {m : MethodId} {args : Array Value} {below : List Frame} {meth : Method} {c : Code} {D : va_G} {cA : Nat → ClassId} {base : Nat} {w' : WW} (C : cx b_an_warnIf (none) 5 y_an_warnIf.cls "warnIf" p s m args meth c D cA base)   : ∀  (w : WW), f_an_warnIf_49  w = some w' → ∀ (H : Heap) (locs : List Loc) (ls : Array Slot), wo_S D cls cA base s w H locs → lv_has ls 5 [] → W p l e rm_an_warnIf s m args below meth c H locs 0 0 (MQ below (wo_Q D cls cA base none w') args s rm_an_warnIf.cells rm_an_warnIf.slots (wo_B base)) (F0 m 49 ls []) := by
  obtain ⟨hx, hb, hr, hml, hown, hts, hlk, hnm, hK, hG⟩ := id C
  intro  w h H locs ls hW hl
  unfold f_an_warnIf_49 at h
  cases h
  exact wo_vret hx hb hr hlk hW d_an_warnIf_49
set_option maxHeartbeats 4000000 in
set_option maxRecDepth 100000 in
theorem c_an_warnIf (l : Launch) (D : va_G) (cA : Nat → ClassId) (base : Nat) {a0 : Nat} {a1 : Int32} {a2 : Int32} {a3 : Int32} {w w' : WW} (h : f_an_warnIf a0 a1 a2 a3 w = some w') : mt l D cls (wo_tys cA) cA base y_an_warnIf (Cond.code y_an_warnIf b_an_warnIf 5 (none) :: gt) rm_an_warnIf [.ref (base + a0), .int a1, .int a2, .int a3] w none w' rm_an_warnIf.cells rm_an_warnIf.slots := by
  refine mt_start (by decide) (Nat.le_of_ble_eq_true rfl) ?_
  intro p e s m below meth c ls hx hb hr hml hown hts hlk hnm hK hG hW hl
  have C : cx b_an_warnIf (none) 5 y_an_warnIf.cls "warnIf" p s m [.ref (base + a0), .int a1, .int a2, .int a3].toArray meth c D cA base := ⟨hx, hb, hr, hml, hown, hts, hlk, hnm, hK, hG⟩
  have hl : lv_has ls 5 [(0, .ref (base + a0)), (1, .int a1), (2, .int a2), (3, .int a3)] := hl
  unfold f_an_warnIf at h
  replace h := its h
  obtain ⟨-, h⟩ := h
  refine lv_iconst (v := (1 : Int32)) hx hb d_an_warnIf_0 (by decide) ?_
  refine lv_iload_n hx hb d_an_warnIf_1 rfl (lv_at hl 2 rfl) ?_
  refine lv_ishl hx hb d_an_warnIf_2 ?_
  refine lv_istore (lv' := [(4, .int ((1 : Int32) <<< (a2 &&& 31))), (0, .ref (base + a0)), (1, .int a1), (2, .int a2), (3, .int a3)]) hx hb d_an_warnIf_3 hl (by decide) rfl (fun ls hl => ?_)
  refine lv_iload_n hx hb d_an_warnIf_5 rfl (lv_at hl 2 rfl) ?_
  refine lv_if_eq (tgt := 49) hx hb d_an_warnIf_6 (by decide) (fun c1 => ?_) (fun c1 => ?_)
  · rw [if_pos c1] at h
    exact j_an_warnIf_49 C w h _ _ _ hW (lv_sub hl [] rfl)
  · rw [if_neg c1] at h
    refine lv_aload_n hx hb d_an_warnIf_9 rfl (lv_at hl 1 rfl) ?_
    replace h := bs h
    obtain ⟨x2, hx2, h⟩ := h
    refine gf_an_50 hx hb hts hown hK hG hW (gI_s hx2) d_an_warnIf_10 ?_
    refine lv_if_eq (tgt := 49) hx hb d_an_warnIf_13 (by decide) (fun c3 => ?_) (fun c3 => ?_)
    · rw [if_pos c3] at h
      exact j_an_warnIf_49 C w h _ _ _ hW (lv_sub hl [] rfl)
    · rw [if_neg c3] at h
      refine lv_aload_n hx hb d_an_warnIf_16 rfl (lv_at hl 1 rfl) ?_
      replace h := bs h
      obtain ⟨x4, hx4, h⟩ := h
      refine gf_an_29 hx hb hts hown hK hG hW (gN_s hx4) d_an_warnIf_17 ?_
      refine lv_iload_n hx hb d_an_warnIf_20 rfl (lv_at hl 4 rfl) ?_
      replace h := bs h
      obtain ⟨x5, hx5, h⟩ := h
      refine wo_iald hx hb hK hW (t := 0) rfl hx5 d_an_warnIf_21 ?_
      refine lv_iload hx hb d_an_warnIf_22 (lv_at hl 0 rfl) ?_
      refine lv_iand hx hb d_an_warnIf_24 ?_
      refine lv_if_ne (tgt := 49) hx hb d_an_warnIf_25 (by decide) (fun c6 => ?_) (fun c6 => ?_)
      · rw [if_neg c6] at h
        exact j_an_warnIf_49 C w h _ _ _ hW (lv_sub hl [] rfl)
      · rw [if_pos c6] at h
        refine lv_aload_n hx hb d_an_warnIf_28 rfl (lv_at hl 1 rfl) ?_
        replace h := bs h
        obtain ⟨x7, hx7, h⟩ := h
        refine gf_an_29 hx hb hts hown hK hG hW (gN_s hx7) d_an_warnIf_29 ?_
        refine lv_iload_n hx hb d_an_warnIf_32 rfl (lv_at hl 4 rfl) ?_
        refine lv_dup2_11 hx hb d_an_warnIf_33 rfl rfl ?_
        replace h := bs h
        obtain ⟨x8, hx8, h⟩ := h
        refine wo_iald hx hb hK hW (t := 0) rfl hx8 d_an_warnIf_34 ?_
        refine lv_iload hx hb d_an_warnIf_35 (lv_at hl 0 rfl) ?_
        refine lv_ior hx hb d_an_warnIf_37 ?_
        replace h := bs h
        obtain ⟨w9, hw9, h⟩ := h
        refine wo_iast hx hb hK hW (t := 0) rfl hw9 d_an_warnIf_38 (fun H locs hW => ?_)
        refine lv_aload_n hx hb d_an_warnIf_39 rfl (lv_at hl 1 rfl) ?_
        refine lv_dup hx hb d_an_warnIf_40 rfl ?_
        replace h := bs h
        obtain ⟨x10, hx10, h⟩ := h
        refine gf_an_47 hx hb hts hown hK hG hW (gI_s hx10) d_an_warnIf_41 ?_
        refine lv_iconst (v := (1 : Int32)) hx hb d_an_warnIf_44 (by decide) ?_
        refine lv_iadd hx hb d_an_warnIf_45 ?_
        replace h := bs h
        obtain ⟨w11, hw11, h⟩ := h
        refine pf_an_47 hx hb hts hown hK hG hW rfl rfl (pbi hw11 rfl) d_an_warnIf_46 (fun H locs hW => ?_)
        exact j_an_warnIf_49 C w11 h _ _ _ hW (lv_sub hl [] rfl)
abbrev b_va_goesBeyondCells : ByteArray := prog_9_method_9_code
def y_va_goesBeyondCells : MethodName := ⟨"AlarmForge$Value", "goesBeyondCells", "()Z"⟩
def rm_va_goesBeyondCells : Room := { frames := 0, cells := 0, slots := 0, locals := 0 }
theorem d_va_goesBeyondCells_0 : decode b_va_goesBeyondCells 0 = .ok (.aload_n 0, 1) := by decide +kernel
theorem d_va_goesBeyondCells_1 : decode b_va_goesBeyondCells 1 = .ok (.getfield 15, 3) := by decide +kernel
theorem d_va_goesBeyondCells_4 : decode b_va_goesBeyondCells 4 = .ok (.lconst 0, 1) := by decide +kernel
theorem d_va_goesBeyondCells_5 : decode b_va_goesBeyondCells 5 = .ok (.lcmp, 1) := by decide +kernel
theorem d_va_goesBeyondCells_6 : decode b_va_goesBeyondCells 6 = .ok (.ifCond .lt (14), 3) := by decide +kernel
theorem d_va_goesBeyondCells_9 : decode b_va_goesBeyondCells 9 = .ok (.aload_n 0, 1) := by decide +kernel
theorem d_va_goesBeyondCells_10 : decode b_va_goesBeyondCells 10 = .ok (.getfield 19, 3) := by decide +kernel
theorem d_va_goesBeyondCells_13 : decode b_va_goesBeyondCells 13 = .ok (.ldc2_w 38, 3) := by decide +kernel
theorem d_va_goesBeyondCells_16 : decode b_va_goesBeyondCells 16 = .ok (.lcmp, 1) := by decide +kernel
theorem d_va_goesBeyondCells_17 : decode b_va_goesBeyondCells 17 = .ok (.ifCond .lt (7), 3) := by decide +kernel
theorem d_va_goesBeyondCells_20 : decode b_va_goesBeyondCells 20 = .ok (.iconst 1, 1) := by decide +kernel
theorem d_va_goesBeyondCells_21 : decode b_va_goesBeyondCells 21 = .ok (.goto (4), 3) := by decide +kernel
theorem d_va_goesBeyondCells_24 : decode b_va_goesBeyondCells 24 = .ok (.iconst 0, 1) := by decide +kernel
theorem d_va_goesBeyondCells_25 : decode b_va_goesBeyondCells 25 = .ok (.ireturn, 1) := by decide +kernel
theorem kb_va_goesBeyondCells {a0 : Nat}  {w : WW} {r : (Int32 × WW)} (h : f_va_goesBeyondCells a0 w = some r) : kb w a0 8 = true := (its h).1
set_option maxHeartbeats 4000000 in
set_option maxRecDepth 100000 in
theorem j_va_goesBeyondCells_25 {p : Program} {l : Launch} {e : Env} {s : State} {m : MethodId} {args : Array Value} {below : List Frame} {meth : Method} {c : Code} {D : va_G} {cA : Nat → ClassId} {base : Nat} {r : Int32} {w' : WW} (C : cx b_va_goesBeyondCells (some .boolean) 1 y_va_goesBeyondCells.cls "goesBeyondCells" p s m args meth c D cA base)   : ∀ (z0 : Int32) (w : WW), f_va_goesBeyondCells_25 z0 w = some (r, w') → ∀ (H : Heap) (locs : List Loc) (ls : Array Slot), wo_S D cls cA base s w H locs → lv_has ls 1 [] → W p l e rm_va_goesBeyondCells s m args below meth c H locs 0 0 (MQ below (wo_Q D cls cA base (some (.int r)) w') args s rm_va_goesBeyondCells.cells rm_va_goesBeyondCells.slots (wo_B base)) (F0 m 25 ls [.int z0]) := by
  obtain ⟨hx, hb, hr, hml, hown, hts, hlk, hnm, hK, hG⟩ := id C
  intro z0 w h H locs ls hW hl
  unfold f_va_goesBeyondCells_25 at h
  replace h := its h
  obtain ⟨c3, h⟩ := h
  cases h
  exact wo_zret hx hb hr hlk hW c3 d_va_goesBeyondCells_25
set_option maxHeartbeats 4000000 in
set_option maxRecDepth 100000 in
theorem j_va_goesBeyondCells_20 {p : Program} {l : Launch} {e : Env} {s : State} {m : MethodId} {args : Array Value} {below : List Frame} {meth : Method} {c : Code} {D : va_G} {cA : Nat → ClassId} {base : Nat} {r : Int32} {w' : WW} (C : cx b_va_goesBeyondCells (some .boolean) 1 y_va_goesBeyondCells.cls "goesBeyondCells" p s m args meth c D cA base)   : ∀  (w : WW), f_va_goesBeyondCells_20  w = some (r, w') → ∀ (H : Heap) (locs : List Loc) (ls : Array Slot), wo_S D cls cA base s w H locs → lv_has ls 1 [] → W p l e rm_va_goesBeyondCells s m args below meth c H locs 0 0 (MQ below (wo_Q D cls cA base (some (.int r)) w') args s rm_va_goesBeyondCells.cells rm_va_goesBeyondCells.slots (wo_B base)) (F0 m 20 ls []) := by
  obtain ⟨hx, hb, hr, hml, hown, hts, hlk, hnm, hK, hG⟩ := id C
  intro  w h H locs ls hW hl
  unfold f_va_goesBeyondCells_20 at h
  refine lv_iconst (v := (1 : Int32)) hx hb d_va_goesBeyondCells_20 (by decide) ?_
  refine lv_goto (tgt := 25) hx hb d_va_goesBeyondCells_21 (by decide) ?_
  exact j_va_goesBeyondCells_25 C (1 : Int32) w h _ _ _ hW (lv_sub hl [] rfl)
set_option maxHeartbeats 4000000 in
set_option maxRecDepth 100000 in
theorem c_va_goesBeyondCells (l : Launch) (D : va_G) (cA : Nat → ClassId) (base : Nat) {a0 : Nat} {w w' : WW} {r : Int32} (h : f_va_goesBeyondCells a0 w = some (r, w')) : mt l D cls (wo_tys cA) cA base y_va_goesBeyondCells (Cond.code y_va_goesBeyondCells b_va_goesBeyondCells 1 (some .boolean) :: gt) rm_va_goesBeyondCells [.ref (base + a0)] w (some (.int r)) w' rm_va_goesBeyondCells.cells rm_va_goesBeyondCells.slots := by
  refine mt_start (by decide) (Nat.le_of_ble_eq_true rfl) ?_
  intro p e s m below meth c ls hx hb hr hml hown hts hlk hnm hK hG hW hl
  have C : cx b_va_goesBeyondCells (some .boolean) 1 y_va_goesBeyondCells.cls "goesBeyondCells" p s m [.ref (base + a0)].toArray meth c D cA base := ⟨hx, hb, hr, hml, hown, hts, hlk, hnm, hK, hG⟩
  have hl : lv_has ls 1 [(0, .ref (base + a0))] := hl
  unfold f_va_goesBeyondCells at h
  replace h := its h
  obtain ⟨-, h⟩ := h
  refine lv_aload_n hx hb d_va_goesBeyondCells_0 rfl (lv_at hl 0 rfl) ?_
  replace h := bs h
  obtain ⟨x1, hx1, h⟩ := h
  refine gf_va_15 hx hb hts hown hK hG hW (gL_s hx1) d_va_goesBeyondCells_1 ?_
  refine lv_lconst (v := (0 : Int64)) hx hb d_va_goesBeyondCells_4 (by decide) ?_
  refine lc_lt (tgt := 20) hx hb d_va_goesBeyondCells_5 d_va_goesBeyondCells_6 (by decide) (fun c2 => ?_) (fun c2 => ?_)
  · rw [if_pos c2] at h
    exact j_va_goesBeyondCells_20 C w h _ _ _ hW (lv_sub hl [] rfl)
  · rw [if_neg c2] at h
    refine lv_aload_n hx hb d_va_goesBeyondCells_9 rfl (lv_at hl 0 rfl) ?_
    replace h := bs h
    obtain ⟨x4, hx4, h⟩ := h
    refine gf_va_19 hx hb hts hown hK hG hW (gL_s hx4) d_va_goesBeyondCells_10 ?_
    refine lv_ldc2 (own := Rc_va) (v := (4 : Int64)) hx hb hown (hts (.constantLong "AlarmForge$Value" 38 (4 : Int64)) (gt_of (i := 939) (by decide +kernel) (by decide +kernel))) d_va_goesBeyondCells_13 ?_
    refine lc_lt (tgt := 24) hx hb d_va_goesBeyondCells_16 d_va_goesBeyondCells_17 (by decide) (fun c5 => ?_) (fun c5 => ?_)
    · rw [if_pos c5] at h
      refine lv_iconst (v := (0 : Int32)) hx hb d_va_goesBeyondCells_24 (by decide) ?_
      exact j_va_goesBeyondCells_25 C (0 : Int32) w h _ _ _ hW (lv_sub hl [] rfl)
    · rw [if_neg c5] at h
      exact j_va_goesBeyondCells_20 C w h _ _ _ hW (lv_sub hl [] rfl)
abbrev b_ma_floorMod : ByteArray := prog_18_method_52_code
def y_ma_floorMod : MethodName := ⟨"java/lang/Math", "floorMod", "(JJ)J"⟩
def rm_ma_floorMod : Room := { frames := 0, cells := 0, slots := 0, locals := 0 }
theorem d_ma_floorMod_0 : decode b_ma_floorMod 0 = .ok (.lload_n 0, 1) := by decide +kernel
theorem d_ma_floorMod_1 : decode b_ma_floorMod 1 = .ok (.lload_n 2, 1) := by decide +kernel
theorem d_ma_floorMod_2 : decode b_ma_floorMod 2 = .ok (.lrem, 1) := by decide +kernel
theorem d_ma_floorMod_3 : decode b_ma_floorMod 3 = .ok (.lstore 4, 2) := by decide +kernel
theorem d_ma_floorMod_5 : decode b_ma_floorMod 5 = .ok (.lload_n 0, 1) := by decide +kernel
theorem d_ma_floorMod_6 : decode b_ma_floorMod 6 = .ok (.lload_n 2, 1) := by decide +kernel
theorem d_ma_floorMod_7 : decode b_ma_floorMod 7 = .ok (.lxor, 1) := by decide +kernel
theorem d_ma_floorMod_8 : decode b_ma_floorMod 8 = .ok (.lconst 0, 1) := by decide +kernel
theorem d_ma_floorMod_9 : decode b_ma_floorMod 9 = .ok (.lcmp, 1) := by decide +kernel
theorem d_ma_floorMod_10 : decode b_ma_floorMod 10 = .ok (.ifCond .ge (15), 3) := by decide +kernel
theorem d_ma_floorMod_13 : decode b_ma_floorMod 13 = .ok (.lload 4, 2) := by decide +kernel
theorem d_ma_floorMod_15 : decode b_ma_floorMod 15 = .ok (.lconst 0, 1) := by decide +kernel
theorem d_ma_floorMod_16 : decode b_ma_floorMod 16 = .ok (.lcmp, 1) := by decide +kernel
theorem d_ma_floorMod_17 : decode b_ma_floorMod 17 = .ok (.ifCond .eq (8), 3) := by decide +kernel
theorem d_ma_floorMod_20 : decode b_ma_floorMod 20 = .ok (.lload 4, 2) := by decide +kernel
theorem d_ma_floorMod_22 : decode b_ma_floorMod 22 = .ok (.lload_n 2, 1) := by decide +kernel
theorem d_ma_floorMod_23 : decode b_ma_floorMod 23 = .ok (.ladd, 1) := by decide +kernel
theorem d_ma_floorMod_24 : decode b_ma_floorMod 24 = .ok (.lreturn, 1) := by decide +kernel
theorem d_ma_floorMod_25 : decode b_ma_floorMod 25 = .ok (.lload 4, 2) := by decide +kernel
theorem d_ma_floorMod_27 : decode b_ma_floorMod 27 = .ok (.lreturn, 1) := by decide +kernel
set_option maxHeartbeats 4000000 in
set_option maxRecDepth 100000 in
theorem j_ma_floorMod_25 {p : Program} {l : Launch} {e : Env} {s : State} {m : MethodId} {args : Array Value} {below : List Frame} {meth : Method} {c : Code} {D : va_G} {cA : Nat → ClassId} {base : Nat} {r : Int64} {w' : WW} (C : cx b_ma_floorMod (some .long) 6 y_ma_floorMod.cls "floorMod" p s m args meth c D cA base)   : ∀ (y4 : Int64) (w : WW), f_ma_floorMod_25 y4 w = some (r, w') → ∀ (H : Heap) (locs : List Loc) (ls : Array Slot), wo_S D cls cA base s w H locs → lv_has ls 6 [(4, .long y4)] → W p l e rm_ma_floorMod s m args below meth c H locs 0 0 (MQ below (wo_Q D cls cA base (some (.long r)) w') args s rm_ma_floorMod.cells rm_ma_floorMod.slots (wo_B base)) (F0 m 25 ls []) := by
  obtain ⟨hx, hb, hr, hml, hown, hts, hlk, hnm, hK, hG⟩ := id C
  intro y4 w h H locs ls hW hl
  unfold f_ma_floorMod_25 at h
  refine lv_lload hx hb d_ma_floorMod_25 (lv_at hl 0 rfl) ?_
  cases h
  exact wo_lret hx hb hr hlk hW d_ma_floorMod_27
set_option maxHeartbeats 4000000 in
set_option maxRecDepth 100000 in
theorem c_ma_floorMod (l : Launch) (D : va_G) (cA : Nat → ClassId) (base : Nat) {a0 : Int64} {a2 : Int64} {w w' : WW} {r : Int64} (h : f_ma_floorMod a0 a2 w = some (r, w')) : mt l D cls (wo_tys cA) cA base y_ma_floorMod (Cond.code y_ma_floorMod b_ma_floorMod 6 (some .long) :: gt) rm_ma_floorMod [.long a0, .long a2] w (some (.long r)) w' rm_ma_floorMod.cells rm_ma_floorMod.slots := by
  refine mt_startF (by decide +kernel) (Nat.le_of_ble_eq_true rfl) ?_
  intro p e s m below meth c ls hx hb hr hml hown hts hlk hnm hK hG hW hl
  have C : cx b_ma_floorMod (some .long) 6 y_ma_floorMod.cls "floorMod" p s m [.long a0, .long a2].toArray meth c D cA base := ⟨hx, hb, hr, hml, hown, hts, hlk, hnm, hK, hG⟩
  have hl : lv_has ls 6 [(0, .long a0), (2, .long a2)] := hl
  unfold f_ma_floorMod at h
  refine lv_lload_n hx hb d_ma_floorMod_0 rfl (lv_at hl 0 rfl) ?_
  refine lv_lload_n hx hb d_ma_floorMod_1 rfl (lv_at hl 1 rfl) ?_
  replace h := its h
  obtain ⟨c1, h⟩ := h
  refine lv_lrem hx hb d_ma_floorMod_2 c1 ?_
  refine lv_lstore (lv' := [(4, .long (a0 - a0 / a2 * a2)), (0, .long a0), (2, .long a2)]) hx hb d_ma_floorMod_3 hl (by decide) rfl (fun ls hl => ?_)
  refine lv_lload_n hx hb d_ma_floorMod_5 rfl (lv_at hl 1 rfl) ?_
  refine lv_lload_n hx hb d_ma_floorMod_6 rfl (lv_at hl 2 rfl) ?_
  refine lv_lxor hx hb d_ma_floorMod_7 ?_
  refine lv_lconst (v := (0 : Int64)) hx hb d_ma_floorMod_8 (by decide) ?_
  refine lc_ge (tgt := 25) hx hb d_ma_floorMod_9 d_ma_floorMod_10 (by decide) (fun c2 => ?_) (fun c2 => ?_)
  · rw [if_pos c2] at h
    exact j_ma_floorMod_25 C (a0 - a0 / a2 * a2) w h _ _ _ hW (lv_sub hl [0] rfl)
  · rw [if_neg c2] at h
    refine lv_lload hx hb d_ma_floorMod_13 (lv_at hl 0 rfl) ?_
    refine lv_lconst (v := (0 : Int64)) hx hb d_ma_floorMod_15 (by decide) ?_
    refine lc_eq (tgt := 25) hx hb d_ma_floorMod_16 d_ma_floorMod_17 (by decide) (fun c3 => ?_) (fun c3 => ?_)
    · rw [if_pos c3] at h
      exact j_ma_floorMod_25 C (a0 - a0 / a2 * a2) w h _ _ _ hW (lv_sub hl [0] rfl)
    · rw [if_neg c3] at h
      refine lv_lload hx hb d_ma_floorMod_20 (lv_at hl 0 rfl) ?_
      refine lv_lload_n hx hb d_ma_floorMod_22 rfl (lv_at hl 2 rfl) ?_
      refine lv_ladd hx hb d_ma_floorMod_23 ?_
      cases h
      exact wo_lret hx hb hr hlk hW d_ma_floorMod_24
theorem cs_va_32 {p : Program} {l : Launch} {e : Env} {R : Room} {s : State} {m : MethodId} {args : Array Value} {below : List Frame} {meth : Method} {c : Code} {H : Heap} {locs : List Loc} {cells slots : Nat} {Q : State → Prop} {D : va_G} {cA : Nat → ClassId} {base : Nat} {w w' : WW} {cc : ByteArray} {pc nL : Nat} {ls : Array Slot} {rest st0 As : List Value} {ov : Option Value} (hx : p.tables.exec = Jvm.exec) (hb : c.code = cc) (hml : c.maxLocals = nL) (hown : s.vm.findClass Rc_va = some m.cls) (hts : ∀ w ∈ gt, w.before args s = true) (hK : va_K D cls (wo_tys cA) s) (hG : wo_G cA base s) (hW : wo_S D cls cA base s w H locs) (hM : mt l D cls (wo_tys cA) cA base y_ma_floorMod (Cond.code y_ma_floorMod b_ma_floorMod 6 (some .long) :: gt) rm_ma_floorMod (As) w ov w' rm_ma_floorMod.cells rm_ma_floorMod.slots) (hR : rm_ma_floorMod.frames + 1 ≤ R.frames ∧ 8 + (6 + 11) + rm_ma_floorMod.locals ≤ R.locals) (hf : cells + rm_ma_floorMod.cells ≤ R.cells ∧ slots + rm_ma_floorMod.slots ≤ R.slots) (hn : As.length = 2) (hsz : ls.size = nL) (hst : st0 = As.reverse ++ rest) (hcat : (rest.map fun v => v.category).sum ≤ 8) (hdg : decode cc pc = .ok (.invokestatic 32, 3)) (kk : ∀ (H1 : Heap) (locs1 : List Loc), wo_S D cls cA base s w' H1 locs1 → W p l e R s m args below meth c H1 locs1 (cells + rm_ma_floorMod.cells) (slots + rm_ma_floorMod.slots) Q (F0 m (pc + 3) ls (ov.toList ++ rest))) : W p l e R s m args below meth c H locs cells slots Q (F0 m pc ls st0) :=
  wo_callS hx hb hml hown hts hK hG hW hM (gt_of (i := 945) (by decide +kernel) (by decide +kernel)) (gt_of (i := 946) (by decide +kernel) (by decide +kernel)) (gt_of (i := 20) (by decide +kernel) (by decide +kernel)) (gt_of (i := 947) (by decide +kernel) (by decide +kernel)) (by decide +kernel) hR hf hn hsz hst hcat hdg kk
abbrev b_va_has : ByteArray := prog_9_method_8_code
def y_va_has : MethodName := ⟨"AlarmForge$Value", "has", "(J)Z"⟩
def rm_va_has : Room := { frames := 1, cells := 0, slots := 0, locals := 25 }
theorem d_va_has_0 : decode b_va_has 0 = .ok (.aload_n 0, 1) := by decide +kernel
theorem d_va_has_1 : decode b_va_has 1 = .ok (.getfield 9, 3) := by decide +kernel
theorem d_va_has_4 : decode b_va_has 4 = .ok (.ifCond .ne (52), 3) := by decide +kernel
theorem d_va_has_7 : decode b_va_has 7 = .ok (.lload_n 1, 1) := by decide +kernel
theorem d_va_has_8 : decode b_va_has 8 = .ok (.aload_n 0, 1) := by decide +kernel
theorem d_va_has_9 : decode b_va_has 9 = .ok (.getfield 15, 3) := by decide +kernel
theorem d_va_has_12 : decode b_va_has 12 = .ok (.lcmp, 1) := by decide +kernel
theorem d_va_has_13 : decode b_va_has 13 = .ok (.ifCond .lt (43), 3) := by decide +kernel
theorem d_va_has_16 : decode b_va_has 16 = .ok (.lload_n 1, 1) := by decide +kernel
theorem d_va_has_17 : decode b_va_has 17 = .ok (.aload_n 0, 1) := by decide +kernel
theorem d_va_has_18 : decode b_va_has 18 = .ok (.getfield 19, 3) := by decide +kernel
theorem d_va_has_21 : decode b_va_has 21 = .ok (.lcmp, 1) := by decide +kernel
theorem d_va_has_22 : decode b_va_has 22 = .ok (.ifCond .gt (34), 3) := by decide +kernel
theorem d_va_has_25 : decode b_va_has 25 = .ok (.aload_n 0, 1) := by decide +kernel
theorem d_va_has_26 : decode b_va_has 26 = .ok (.getfield 22, 3) := by decide +kernel
theorem d_va_has_29 : decode b_va_has 29 = .ok (.lconst 0, 1) := by decide +kernel
theorem d_va_has_30 : decode b_va_has 30 = .ok (.lcmp, 1) := by decide +kernel
theorem d_va_has_31 : decode b_va_has 31 = .ok (.ifCond .eq (21), 3) := by decide +kernel
theorem d_va_has_34 : decode b_va_has 34 = .ok (.lload_n 1, 1) := by decide +kernel
theorem d_va_has_35 : decode b_va_has 35 = .ok (.aload_n 0, 1) := by decide +kernel
theorem d_va_has_36 : decode b_va_has 36 = .ok (.getfield 25, 3) := by decide +kernel
theorem d_va_has_39 : decode b_va_has 39 = .ok (.lsub, 1) := by decide +kernel
theorem d_va_has_40 : decode b_va_has 40 = .ok (.aload_n 0, 1) := by decide +kernel
theorem d_va_has_41 : decode b_va_has 41 = .ok (.getfield 22, 3) := by decide +kernel
theorem d_va_has_44 : decode b_va_has 44 = .ok (.invokestatic 32, 3) := by decide +kernel
theorem d_va_has_47 : decode b_va_has 47 = .ok (.lconst 0, 1) := by decide +kernel
theorem d_va_has_48 : decode b_va_has 48 = .ok (.lcmp, 1) := by decide +kernel
theorem d_va_has_49 : decode b_va_has 49 = .ok (.ifCond .ne (7), 3) := by decide +kernel
theorem d_va_has_52 : decode b_va_has 52 = .ok (.iconst 1, 1) := by decide +kernel
theorem d_va_has_53 : decode b_va_has 53 = .ok (.goto (4), 3) := by decide +kernel
theorem d_va_has_56 : decode b_va_has 56 = .ok (.iconst 0, 1) := by decide +kernel
theorem d_va_has_57 : decode b_va_has 57 = .ok (.ireturn, 1) := by decide +kernel
theorem kb_va_has {a0 : Nat} {a1 : Int64} {w : WW} {r : (Int32 × WW)} (h : f_va_has a0 a1 w = some r) : kb w a0 8 = true := (its h).1
set_option maxHeartbeats 4000000 in
set_option maxRecDepth 100000 in
theorem j_va_has_57 {p : Program} {l : Launch} {e : Env} {s : State} {m : MethodId} {args : Array Value} {below : List Frame} {meth : Method} {c : Code} {D : va_G} {cA : Nat → ClassId} {base : Nat} {r : Int32} {w' : WW} (C : cx b_va_has (some .boolean) 3 y_va_has.cls "has" p s m args meth c D cA base)   : ∀ (z0 : Int32) (w : WW), f_va_has_57 z0 w = some (r, w') → ∀ (H : Heap) (locs : List Loc) (ls : Array Slot), wo_S D cls cA base s w H locs → lv_has ls 3 [] → W p l e rm_va_has s m args below meth c H locs 0 0 (MQ below (wo_Q D cls cA base (some (.int r)) w') args s rm_va_has.cells rm_va_has.slots (wo_B base)) (F0 m 57 ls [.int z0]) := by
  obtain ⟨hx, hb, hr, hml, hown, hts, hlk, hnm, hK, hG⟩ := id C
  intro z0 w h H locs ls hW hl
  unfold f_va_has_57 at h
  replace h := its h
  obtain ⟨c3, h⟩ := h
  cases h
  exact wo_zret hx hb hr hlk hW c3 d_va_has_57
set_option maxHeartbeats 4000000 in
set_option maxRecDepth 100000 in
theorem j_va_has_56 {p : Program} {l : Launch} {e : Env} {s : State} {m : MethodId} {args : Array Value} {below : List Frame} {meth : Method} {c : Code} {D : va_G} {cA : Nat → ClassId} {base : Nat} {r : Int32} {w' : WW} (C : cx b_va_has (some .boolean) 3 y_va_has.cls "has" p s m args meth c D cA base)   : ∀  (w : WW), f_va_has_56  w = some (r, w') → ∀ (H : Heap) (locs : List Loc) (ls : Array Slot), wo_S D cls cA base s w H locs → lv_has ls 3 [] → W p l e rm_va_has s m args below meth c H locs 0 0 (MQ below (wo_Q D cls cA base (some (.int r)) w') args s rm_va_has.cells rm_va_has.slots (wo_B base)) (F0 m 56 ls []) := by
  obtain ⟨hx, hb, hr, hml, hown, hts, hlk, hnm, hK, hG⟩ := id C
  intro  w h H locs ls hW hl
  unfold f_va_has_56 at h
  refine lv_iconst (v := (0 : Int32)) hx hb d_va_has_56 (by decide) ?_
  exact j_va_has_57 C (0 : Int32) w h _ _ _ hW (lv_sub hl [] rfl)
set_option maxHeartbeats 4000000 in
set_option maxRecDepth 100000 in
theorem j_va_has_52 {p : Program} {l : Launch} {e : Env} {s : State} {m : MethodId} {args : Array Value} {below : List Frame} {meth : Method} {c : Code} {D : va_G} {cA : Nat → ClassId} {base : Nat} {r : Int32} {w' : WW} (C : cx b_va_has (some .boolean) 3 y_va_has.cls "has" p s m args meth c D cA base)   : ∀  (w : WW), f_va_has_52  w = some (r, w') → ∀ (H : Heap) (locs : List Loc) (ls : Array Slot), wo_S D cls cA base s w H locs → lv_has ls 3 [] → W p l e rm_va_has s m args below meth c H locs 0 0 (MQ below (wo_Q D cls cA base (some (.int r)) w') args s rm_va_has.cells rm_va_has.slots (wo_B base)) (F0 m 52 ls []) := by
  obtain ⟨hx, hb, hr, hml, hown, hts, hlk, hnm, hK, hG⟩ := id C
  intro  w h H locs ls hW hl
  unfold f_va_has_52 at h
  refine lv_iconst (v := (1 : Int32)) hx hb d_va_has_52 (by decide) ?_
  refine lv_goto (tgt := 57) hx hb d_va_has_53 (by decide) ?_
  exact j_va_has_57 C (1 : Int32) w h _ _ _ hW (lv_sub hl [] rfl)
set_option maxHeartbeats 4000000 in
set_option maxRecDepth 100000 in
theorem c_va_has (l : Launch) (D : va_G) (cA : Nat → ClassId) (base : Nat) {a0 : Nat} {a1 : Int64} {w w' : WW} {r : Int32} (h : f_va_has a0 a1 w = some (r, w')) : mt l D cls (wo_tys cA) cA base y_va_has (Cond.code y_va_has b_va_has 3 (some .boolean) :: gt) rm_va_has [.ref (base + a0), .long a1] w (some (.int r)) w' rm_va_has.cells rm_va_has.slots := by
  refine mt_start (by decide) (Nat.le_of_ble_eq_true rfl) ?_
  intro p e s m below meth c ls hx hb hr hml hown hts hlk hnm hK hG hW hl
  have C : cx b_va_has (some .boolean) 3 y_va_has.cls "has" p s m [.ref (base + a0), .long a1].toArray meth c D cA base := ⟨hx, hb, hr, hml, hown, hts, hlk, hnm, hK, hG⟩
  have hl : lv_has ls 3 [(0, .ref (base + a0)), (1, .long a1)] := hl
  unfold f_va_has at h
  replace h := its h
  obtain ⟨-, h⟩ := h
  refine lv_aload_n hx hb d_va_has_0 rfl (lv_at hl 0 rfl) ?_
  replace h := bs h
  obtain ⟨x1, hx1, h⟩ := h
  refine gf_va_9 hx hb hts hown hK hG hW (gI_s hx1) d_va_has_1 ?_
  refine lv_if_ne (tgt := 56) hx hb d_va_has_4 (by decide) (fun c2 => ?_) (fun c2 => ?_)
  · rw [if_neg c2] at h
    exact j_va_has_56 C w h _ _ _ hW (lv_sub hl [] rfl)
  · rw [if_pos c2] at h
    refine lv_lload_n hx hb d_va_has_7 rfl (lv_at hl 1 rfl) ?_
    refine lv_aload_n hx hb d_va_has_8 rfl (lv_at hl 0 rfl) ?_
    replace h := bs h
    obtain ⟨x4, hx4, h⟩ := h
    refine gf_va_15 hx hb hts hown hK hG hW (gL_s hx4) d_va_has_9 ?_
    refine lc_lt (tgt := 56) hx hb d_va_has_12 d_va_has_13 (by decide) (fun c5 => ?_) (fun c5 => ?_)
    · rw [if_pos c5] at h
      exact j_va_has_56 C w h _ _ _ hW (lv_sub hl [] rfl)
    · rw [if_neg c5] at h
      refine lv_lload_n hx hb d_va_has_16 rfl (lv_at hl 1 rfl) ?_
      refine lv_aload_n hx hb d_va_has_17 rfl (lv_at hl 0 rfl) ?_
      replace h := bs h
      obtain ⟨x6, hx6, h⟩ := h
      refine gf_va_19 hx hb hts hown hK hG hW (gL_s hx6) d_va_has_18 ?_
      refine lc_gt (tgt := 56) hx hb d_va_has_21 d_va_has_22 (by decide) (fun c7 => ?_) (fun c7 => ?_)
      · rw [if_pos c7] at h
        exact j_va_has_56 C w h _ _ _ hW (lv_sub hl [] rfl)
      · rw [if_neg c7] at h
        refine lv_aload_n hx hb d_va_has_25 rfl (lv_at hl 0 rfl) ?_
        replace h := bs h
        obtain ⟨x8, hx8, h⟩ := h
        refine gf_va_22 hx hb hts hown hK hG hW (gL_s hx8) d_va_has_26 ?_
        refine lv_lconst (v := (0 : Int64)) hx hb d_va_has_29 (by decide) ?_
        refine lc_eq (tgt := 52) hx hb d_va_has_30 d_va_has_31 (by decide) (fun c9 => ?_) (fun c9 => ?_)
        · rw [if_pos c9] at h
          exact j_va_has_52 C w h _ _ _ hW (lv_sub hl [] rfl)
        · rw [if_neg c9] at h
          refine lv_lload_n hx hb d_va_has_34 rfl (lv_at hl 1 rfl) ?_
          refine lv_aload_n hx hb d_va_has_35 rfl (lv_at hl 0 rfl) ?_
          replace h := bs h
          obtain ⟨x10, hx10, h⟩ := h
          refine gf_va_25 hx hb hts hown hK hG hW (gL_s hx10) d_va_has_36 ?_
          refine lv_lsub hx hb d_va_has_39 ?_
          refine lv_aload_n hx hb d_va_has_40 rfl (lv_at hl 0 rfl) ?_
          replace h := bs h
          obtain ⟨x11, hx11, h⟩ := h
          refine gf_va_22 hx hb hts hown hK hG hW (gL_s hx11) d_va_has_41 ?_
          replace h := bs2 h
          obtain ⟨x13, w12, hw12, h⟩ := h
          refine cs_va_32 (As := [.long (a1 - x10), .long x11]) (rest := []) hx hb hml hown hts hK hG hW (c_ma_floorMod l D cA base hw12) ⟨Nat.le_of_ble_eq_true rfl, Nat.le_of_ble_eq_true rfl⟩ ⟨Nat.le_of_ble_eq_true rfl, Nat.le_of_ble_eq_true rfl⟩ rfl hl.1 rfl (Nat.le_of_ble_eq_true rfl) d_va_has_44 (fun H locs hW => ?_)
          refine lv_lconst (v := (0 : Int64)) hx hb d_va_has_47 (by decide) ?_
          refine lc_ne (tgt := 56) hx hb d_va_has_48 d_va_has_49 (by decide) (fun c14 => ?_) (fun c14 => ?_)
          · rw [if_neg c14] at h
            exact j_va_has_56 C w12 h _ _ _ hW (lv_sub hl [] rfl)
          · rw [if_pos c14] at h
            exact j_va_has_52 C w12 h _ _ _ hW (lv_sub hl [] rfl)
